section
-- ===== PART A: goes FIRST, ahead of the names: the tables' words, and 'selects' of the private methods out of them =====
/-- a private method of a class that the tables say can be made, by its rows of tables_1 -/
def lw_okq (q : MethodName × Nat) : Prop := (q.1.cls ≠ "java/lang/invoke/MethodHandle" ∧ q.1.cls ≠ "java/lang/invoke/VarHandle") ∧ Cond.instantiable q.1.cls q.2 ∈ tables_1 ∧ Cond.privateMethod q.1 ∈ tables_1 ∧ Cond.instanceMethod q.1 ∈ tables_1
theorem lw_p0 : lw_okq (⟨"PowerRails", "forgetReckoned", "()V"⟩, 10) := ⟨⟨by decide +kernel, by decide +kernel⟩, List.mem_of_getElem? (i := 22) (by decide +kernel), List.mem_of_getElem? (i := 576) (by decide +kernel), List.mem_of_getElem? (i := 577) (by decide +kernel)⟩
theorem lw_p1 : lw_okq (⟨"PowerRails", "followTimes", "()V"⟩, 10) := ⟨⟨by decide +kernel, by decide +kernel⟩, List.mem_of_getElem? (i := 22) (by decide +kernel), List.mem_of_getElem? (i := 731) (by decide +kernel), List.mem_of_getElem? (i := 732) (by decide +kernel)⟩
theorem lw_p2 : lw_okq (⟨"PowerRails", "alive", "()I"⟩, 10) := ⟨⟨by decide +kernel, by decide +kernel⟩, List.mem_of_getElem? (i := 22) (by decide +kernel), List.mem_of_getElem? (i := 745) (by decide +kernel), List.mem_of_getElem? (i := 746) (by decide +kernel)⟩
theorem lw_p3 : lw_okq (⟨"PowerRails", "canBeUp", "(I)Z"⟩, 10) := ⟨⟨by decide +kernel, by decide +kernel⟩, List.mem_of_getElem? (i := 22) (by decide +kernel), List.mem_of_getElem? (i := 863) (by decide +kernel), List.mem_of_getElem? (i := 864) (by decide +kernel)⟩
theorem lw_p4 : lw_okq (⟨"PowerRails", "compareSheet", "(IIII)I"⟩, 10) := ⟨⟨by decide +kernel, by decide +kernel⟩, List.mem_of_getElem? (i := 22) (by decide +kernel), List.mem_of_getElem? (i := 929) (by decide +kernel), List.mem_of_getElem? (i := 930) (by decide +kernel)⟩
theorem lw_p5 : lw_okq (⟨"PowerRailsModel", "firstDraft", "()V"⟩, 59) := ⟨⟨by decide +kernel, by decide +kernel⟩, List.mem_of_getElem? (i := 940) (by decide +kernel), List.mem_of_getElem? (i := 946) (by decide +kernel), List.mem_of_getElem? (i := 947) (by decide +kernel)⟩
theorem lw_p6 : lw_okq (⟨"PowerRailsModel", "keepDraft", "()V"⟩, 59) := ⟨⟨by decide +kernel, by decide +kernel⟩, List.mem_of_getElem? (i := 940) (by decide +kernel), List.mem_of_getElem? (i := 950) (by decide +kernel), List.mem_of_getElem? (i := 951) (by decide +kernel)⟩
theorem lw_p7 : lw_okq (⟨"PowerRailsModel", "begins", "()V"⟩, 59) := ⟨⟨by decide +kernel, by decide +kernel⟩, List.mem_of_getElem? (i := 940) (by decide +kernel), List.mem_of_getElem? (i := 954) (by decide +kernel), List.mem_of_getElem? (i := 955) (by decide +kernel)⟩
theorem lw_p8 : lw_okq (⟨"PowerRailsModel", "of", "(II)I"⟩, 59) := ⟨⟨by decide +kernel, by decide +kernel⟩, List.mem_of_getElem? (i := 940) (by decide +kernel), List.mem_of_getElem? (i := 958) (by decide +kernel), List.mem_of_getElem? (i := 959) (by decide +kernel)⟩
theorem lw_p9 : lw_okq (⟨"PowerRailsModel", "next", "()V"⟩, 59) := ⟨⟨by decide +kernel, by decide +kernel⟩, List.mem_of_getElem? (i := 940) (by decide +kernel), List.mem_of_getElem? (i := 1156) (by decide +kernel), List.mem_of_getElem? (i := 1157) (by decide +kernel)⟩
theorem lw_p10 : lw_okq (⟨"PowerRailsModel", "look", "(I)I"⟩, 59) := ⟨⟨by decide +kernel, by decide +kernel⟩, List.mem_of_getElem? (i := 940) (by decide +kernel), List.mem_of_getElem? (i := 1160) (by decide +kernel), List.mem_of_getElem? (i := 1161) (by decide +kernel)⟩
theorem lw_p11 : lw_okq (⟨"PowerRailsModel", "wants", "(ZI)V"⟩, 59) := ⟨⟨by decide +kernel, by decide +kernel⟩, List.mem_of_getElem? (i := 940) (by decide +kernel), List.mem_of_getElem? (i := 1168) (by decide +kernel), List.mem_of_getElem? (i := 1169) (by decide +kernel)⟩
theorem lw_p12 : lw_okq (⟨"PowerRailsModel", "readLine", "()V"⟩, 59) := ⟨⟨by decide +kernel, by decide +kernel⟩, List.mem_of_getElem? (i := 940) (by decide +kernel), List.mem_of_getElem? (i := 1172) (by decide +kernel), List.mem_of_getElem? (i := 1173) (by decide +kernel)⟩
theorem lw_p13 : lw_okq (⟨"PowerRailsModel", "nameNow", "()I"⟩, 59) := ⟨⟨by decide +kernel, by decide +kernel⟩, List.mem_of_getElem? (i := 940) (by decide +kernel), List.mem_of_getElem? (i := 1176) (by decide +kernel), List.mem_of_getElem? (i := 1177) (by decide +kernel)⟩
theorem lw_p14 : lw_okq (⟨"PowerRailsModel", "is", "(IIIII)Z"⟩, 59) := ⟨⟨by decide +kernel, by decide +kernel⟩, List.mem_of_getElem? (i := 940) (by decide +kernel), List.mem_of_getElem? (i := 1181) (by decide +kernel), List.mem_of_getElem? (i := 1182) (by decide +kernel)⟩
theorem lw_p15 : lw_okq (⟨"PowerRailsModel", "readRail", "()V"⟩, 59) := ⟨⟨by decide +kernel, by decide +kernel⟩, List.mem_of_getElem? (i := 940) (by decide +kernel), List.mem_of_getElem? (i := 1187) (by decide +kernel), List.mem_of_getElem? (i := 1188) (by decide +kernel)⟩
def lw_privs_1 : List (MethodName × Nat) := [(⟨"PowerRails", "forgetReckoned", "()V"⟩, 10), (⟨"PowerRails", "followTimes", "()V"⟩, 10), (⟨"PowerRails", "alive", "()I"⟩, 10), (⟨"PowerRails", "canBeUp", "(I)Z"⟩, 10), (⟨"PowerRails", "compareSheet", "(IIII)I"⟩, 10), (⟨"PowerRailsModel", "firstDraft", "()V"⟩, 59), (⟨"PowerRailsModel", "keepDraft", "()V"⟩, 59), (⟨"PowerRailsModel", "begins", "()V"⟩, 59), (⟨"PowerRailsModel", "of", "(II)I"⟩, 59), (⟨"PowerRailsModel", "next", "()V"⟩, 59), (⟨"PowerRailsModel", "look", "(I)I"⟩, 59), (⟨"PowerRailsModel", "wants", "(ZI)V"⟩, 59), (⟨"PowerRailsModel", "readLine", "()V"⟩, 59), (⟨"PowerRailsModel", "nameNow", "()I"⟩, 59), (⟨"PowerRailsModel", "is", "(IIIII)Z"⟩, 59), (⟨"PowerRailsModel", "readRail", "()V"⟩, 59)]
theorem lw_r1 : ∀ q ∈ lw_privs_1, lw_okq q := List.forall_mem_cons.mpr ⟨lw_p0, List.forall_mem_cons.mpr ⟨lw_p1, List.forall_mem_cons.mpr ⟨lw_p2, List.forall_mem_cons.mpr ⟨lw_p3, List.forall_mem_cons.mpr ⟨lw_p4, List.forall_mem_cons.mpr ⟨lw_p5, List.forall_mem_cons.mpr ⟨lw_p6, List.forall_mem_cons.mpr ⟨lw_p7, List.forall_mem_cons.mpr ⟨lw_p8, List.forall_mem_cons.mpr ⟨lw_p9, List.forall_mem_cons.mpr ⟨lw_p10, List.forall_mem_cons.mpr ⟨lw_p11, List.forall_mem_cons.mpr ⟨lw_p12, List.forall_mem_cons.mpr ⟨lw_p13, List.forall_mem_cons.mpr ⟨lw_p14, List.forall_mem_cons.mpr ⟨lw_p15, fun _ h => absurd h List.not_mem_nil⟩⟩⟩⟩⟩⟩⟩⟩⟩⟩⟩⟩⟩⟩⟩⟩
theorem lw_p16 : lw_okq (⟨"PowerRailsModel", "readNumber", "(II)I"⟩, 59) := ⟨⟨by decide +kernel, by decide +kernel⟩, List.mem_of_getElem? (i := 940) (by decide +kernel), List.mem_of_getElem? (i := 1191) (by decide +kernel), List.mem_of_getElem? (i := 1192) (by decide +kernel)⟩
theorem lw_p17 : lw_okq (⟨"PowerRailsModel", "readWith", "(I)V"⟩, 59) := ⟨⟨by decide +kernel, by decide +kernel⟩, List.mem_of_getElem? (i := 940) (by decide +kernel), List.mem_of_getElem? (i := 1197) (by decide +kernel), List.mem_of_getElem? (i := 1198) (by decide +kernel)⟩
theorem lw_p18 : lw_okq (⟨"PowerRailsModel", "readWhen", "()V"⟩, 59) := ⟨⟨by decide +kernel, by decide +kernel⟩, List.mem_of_getElem? (i := 940) (by decide +kernel), List.mem_of_getElem? (i := 1201) (by decide +kernel), List.mem_of_getElem? (i := 1202) (by decide +kernel)⟩
theorem lw_p19 : lw_okq (⟨"PowerRailsModel", "readFormula", "()V"⟩, 59) := ⟨⟨by decide +kernel, by decide +kernel⟩, List.mem_of_getElem? (i := 940) (by decide +kernel), List.mem_of_getElem? (i := 1205) (by decide +kernel), List.mem_of_getElem? (i := 1206) (by decide +kernel)⟩
theorem lw_p20 : lw_okq (⟨"PowerRailsModel", "readUnit", "()V"⟩, 59) := ⟨⟨by decide +kernel, by decide +kernel⟩, List.mem_of_getElem? (i := 940) (by decide +kernel), List.mem_of_getElem? (i := 1209) (by decide +kernel), List.mem_of_getElem? (i := 1210) (by decide +kernel)⟩
theorem lw_p21 : lw_okq (⟨"PowerRailsModel", "holdsBack", "(I)V"⟩, 59) := ⟨⟨by decide +kernel, by decide +kernel⟩, List.mem_of_getElem? (i := 940) (by decide +kernel), List.mem_of_getElem? (i := 1213) (by decide +kernel), List.mem_of_getElem? (i := 1214) (by decide +kernel)⟩
theorem lw_p22 : lw_okq (⟨"PowerRailsModel", "readLetter", "()V"⟩, 59) := ⟨⟨by decide +kernel, by decide +kernel⟩, List.mem_of_getElem? (i := 940) (by decide +kernel), List.mem_of_getElem? (i := 1217) (by decide +kernel), List.mem_of_getElem? (i := 1218) (by decide +kernel)⟩
theorem lw_p23 : lw_okq (⟨"PowerRailsModel", "done", "(I)V"⟩, 59) := ⟨⟨by decide +kernel, by decide +kernel⟩, List.mem_of_getElem? (i := 940) (by decide +kernel), List.mem_of_getElem? (i := 1221) (by decide +kernel), List.mem_of_getElem? (i := 1222) (by decide +kernel)⟩
theorem lw_p24 : lw_okq (⟨"PowerRailsModel", "keepFormula", "()V"⟩, 59) := ⟨⟨by decide +kernel, by decide +kernel⟩, List.mem_of_getElem? (i := 940) (by decide +kernel), List.mem_of_getElem? (i := 1225) (by decide +kernel), List.mem_of_getElem? (i := 1226) (by decide +kernel)⟩
theorem lw_p25 : lw_okq (⟨"PowerRailsModel", "worth", "(I)Z"⟩, 59) := ⟨⟨by decide +kernel, by decide +kernel⟩, List.mem_of_getElem? (i := 940) (by decide +kernel), List.mem_of_getElem? (i := 1229) (by decide +kernel), List.mem_of_getElem? (i := 1230) (by decide +kernel)⟩
theorem lw_p26 : lw_okq (⟨"PowerRailsModel", "isRail", "(I)Z"⟩, 59) := ⟨⟨by decide +kernel, by decide +kernel⟩, List.mem_of_getElem? (i := 940) (by decide +kernel), List.mem_of_getElem? (i := 1241) (by decide +kernel), List.mem_of_getElem? (i := 1242) (by decide +kernel)⟩
theorem lw_p27 : lw_okq (⟨"PowerRailsModel", "isSo", "(II)Z"⟩, 59) := ⟨⟨by decide +kernel, by decide +kernel⟩, List.mem_of_getElem? (i := 940) (by decide +kernel), List.mem_of_getElem? (i := 1254) (by decide +kernel), List.mem_of_getElem? (i := 1255) (by decide +kernel)⟩
theorem lw_p28 : lw_okq (⟨"PowerRailsModel", "isLeast", "(II)Z"⟩, 59) := ⟨⟨by decide +kernel, by decide +kernel⟩, List.mem_of_getElem? (i := 940) (by decide +kernel), List.mem_of_getElem? (i := 1265) (by decide +kernel), List.mem_of_getElem? (i := 1266) (by decide +kernel)⟩
theorem lw_p29 : lw_okq (⟨"PowerRailsModel", "aTick", "()V"⟩, 59) := ⟨⟨by decide +kernel, by decide +kernel⟩, List.mem_of_getElem? (i := 940) (by decide +kernel), List.mem_of_getElem? (i := 1286) (by decide +kernel), List.mem_of_getElem? (i := 1287) (by decide +kernel)⟩
theorem lw_p30 : lw_okq (⟨"PowerRailsModel", "settles", "()V"⟩, 59) := ⟨⟨by decide +kernel, by decide +kernel⟩, List.mem_of_getElem? (i := 940) (by decide +kernel), List.mem_of_getElem? (i := 1290) (by decide +kernel), List.mem_of_getElem? (i := 1291) (by decide +kernel)⟩
theorem lw_p31 : lw_okq (⟨"PowerRailsModel", "round", "()Z"⟩, 59) := ⟨⟨by decide +kernel, by decide +kernel⟩, List.mem_of_getElem? (i := 940) (by decide +kernel), List.mem_of_getElem? (i := 1294) (by decide +kernel), List.mem_of_getElem? (i := 1295) (by decide +kernel)⟩
def lw_privs_2 : List (MethodName × Nat) := [(⟨"PowerRailsModel", "readNumber", "(II)I"⟩, 59), (⟨"PowerRailsModel", "readWith", "(I)V"⟩, 59), (⟨"PowerRailsModel", "readWhen", "()V"⟩, 59), (⟨"PowerRailsModel", "readFormula", "()V"⟩, 59), (⟨"PowerRailsModel", "readUnit", "()V"⟩, 59), (⟨"PowerRailsModel", "holdsBack", "(I)V"⟩, 59), (⟨"PowerRailsModel", "readLetter", "()V"⟩, 59), (⟨"PowerRailsModel", "done", "(I)V"⟩, 59), (⟨"PowerRailsModel", "keepFormula", "()V"⟩, 59), (⟨"PowerRailsModel", "worth", "(I)Z"⟩, 59), (⟨"PowerRailsModel", "isRail", "(I)Z"⟩, 59), (⟨"PowerRailsModel", "isSo", "(II)Z"⟩, 59), (⟨"PowerRailsModel", "isLeast", "(II)Z"⟩, 59), (⟨"PowerRailsModel", "aTick", "()V"⟩, 59), (⟨"PowerRailsModel", "settles", "()V"⟩, 59), (⟨"PowerRailsModel", "round", "()Z"⟩, 59)]
theorem lw_r2 : ∀ q ∈ lw_privs_2, lw_okq q := List.forall_mem_cons.mpr ⟨lw_p16, List.forall_mem_cons.mpr ⟨lw_p17, List.forall_mem_cons.mpr ⟨lw_p18, List.forall_mem_cons.mpr ⟨lw_p19, List.forall_mem_cons.mpr ⟨lw_p20, List.forall_mem_cons.mpr ⟨lw_p21, List.forall_mem_cons.mpr ⟨lw_p22, List.forall_mem_cons.mpr ⟨lw_p23, List.forall_mem_cons.mpr ⟨lw_p24, List.forall_mem_cons.mpr ⟨lw_p25, List.forall_mem_cons.mpr ⟨lw_p26, List.forall_mem_cons.mpr ⟨lw_p27, List.forall_mem_cons.mpr ⟨lw_p28, List.forall_mem_cons.mpr ⟨lw_p29, List.forall_mem_cons.mpr ⟨lw_p30, List.forall_mem_cons.mpr ⟨lw_p31, fun _ h => absurd h List.not_mem_nil⟩⟩⟩⟩⟩⟩⟩⟩⟩⟩⟩⟩⟩⟩⟩⟩
theorem lw_p32 : lw_okq (⟨"PowerRailsModel", "allIn", "(I)I"⟩, 59) := ⟨⟨by decide +kernel, by decide +kernel⟩, List.mem_of_getElem? (i := 940) (by decide +kernel), List.mem_of_getElem? (i := 1298) (by decide +kernel), List.mem_of_getElem? (i := 1299) (by decide +kernel)⟩
theorem lw_p33 : lw_okq (⟨"PowerRailsModel", "becomes", "(IZ)I"⟩, 59) := ⟨⟨by decide +kernel, by decide +kernel⟩, List.mem_of_getElem? (i := 940) (by decide +kernel), List.mem_of_getElem? (i := 1302) (by decide +kernel), List.mem_of_getElem? (i := 1303) (by decide +kernel)⟩
theorem lw_p34 : lw_okq (⟨"PowerRailsModel", "happens", "(II)V"⟩, 59) := ⟨⟨by decide +kernel, by decide +kernel⟩, List.mem_of_getElem? (i := 940) (by decide +kernel), List.mem_of_getElem? (i := 1306) (by decide +kernel), List.mem_of_getElem? (i := 1307) (by decide +kernel)⟩
theorem lw_p35 : lw_okq (⟨"PowerRailsModel", "drawnOf", "(II)I"⟩, 59) := ⟨⟨by decide +kernel, by decide +kernel⟩, List.mem_of_getElem? (i := 940) (by decide +kernel), List.mem_of_getElem? (i := 1310) (by decide +kernel), List.mem_of_getElem? (i := 1311) (by decide +kernel)⟩
theorem lw_p36 : lw_okq (⟨"PowerRailsModel", "tripNow", "()I"⟩, 59) := ⟨⟨by decide +kernel, by decide +kernel⟩, List.mem_of_getElem? (i := 940) (by decide +kernel), List.mem_of_getElem? (i := 1314) (by decide +kernel), List.mem_of_getElem? (i := 1315) (by decide +kernel)⟩
theorem lw_p37 : lw_okq (⟨"PowerRailsModel", "deadOnes", "()I"⟩, 59) := ⟨⟨by decide +kernel, by decide +kernel⟩, List.mem_of_getElem? (i := 940) (by decide +kernel), List.mem_of_getElem? (i := 1336) (by decide +kernel), List.mem_of_getElem? (i := 1337) (by decide +kernel)⟩
theorem lw_p38 : lw_okq (⟨"PowerRailsModel", "upBut", "(I)I"⟩, 59) := ⟨⟨by decide +kernel, by decide +kernel⟩, List.mem_of_getElem? (i := 940) (by decide +kernel), List.mem_of_getElem? (i := 1340) (by decide +kernel), List.mem_of_getElem? (i := 1341) (by decide +kernel)⟩
theorem lw_p39 : lw_okq (⟨"PowerRailsModel", "setWaits", "()V"⟩, 59) := ⟨⟨by decide +kernel, by decide +kernel⟩, List.mem_of_getElem? (i := 940) (by decide +kernel), List.mem_of_getElem? (i := 1348) (by decide +kernel), List.mem_of_getElem? (i := 1349) (by decide +kernel)⟩
theorem lw_p40 : lw_okq (⟨"PowerRailsModel", "setTimes", "(I)V"⟩, 59) := ⟨⟨by decide +kernel, by decide +kernel⟩, List.mem_of_getElem? (i := 940) (by decide +kernel), List.mem_of_getElem? (i := 1352) (by decide +kernel), List.mem_of_getElem? (i := 1353) (by decide +kernel)⟩
theorem lw_p41 : lw_okq (⟨"PowerRailsModel", "findTimes", "()V"⟩, 59) := ⟨⟨by decide +kernel, by decide +kernel⟩, List.mem_of_getElem? (i := 940) (by decide +kernel), List.mem_of_getElem? (i := 1356) (by decide +kernel), List.mem_of_getElem? (i := 1357) (by decide +kernel)⟩
theorem lw_p42 : lw_okq (⟨"PowerRailsModel", "ways", "()I"⟩, 59) := ⟨⟨by decide +kernel, by decide +kernel⟩, List.mem_of_getElem? (i := 940) (by decide +kernel), List.mem_of_getElem? (i := 1365) (by decide +kernel), List.mem_of_getElem? (i := 1366) (by decide +kernel)⟩
theorem lw_p43 : lw_okq (⟨"PowerRailsModel", "goesOn", "()Z"⟩, 59) := ⟨⟨by decide +kernel, by decide +kernel⟩, List.mem_of_getElem? (i := 940) (by decide +kernel), List.mem_of_getElem? (i := 1370) (by decide +kernel), List.mem_of_getElem? (i := 1371) (by decide +kernel)⟩
theorem lw_p44 : lw_okq (⟨"PowerRailsModel", "drawnAt", "(I)I"⟩, 59) := ⟨⟨by decide +kernel, by decide +kernel⟩, List.mem_of_getElem? (i := 940) (by decide +kernel), List.mem_of_getElem? (i := 1378) (by decide +kernel), List.mem_of_getElem? (i := 1379) (by decide +kernel)⟩
theorem lw_p45 : lw_okq (⟨"PowerRailsModel", "peakNow", "()I"⟩, 59) := ⟨⟨by decide +kernel, by decide +kernel⟩, List.mem_of_getElem? (i := 940) (by decide +kernel), List.mem_of_getElem? (i := 1387) (by decide +kernel), List.mem_of_getElem? (i := 1388) (by decide +kernel)⟩
theorem lw_p46 : lw_okq (⟨"PowerRailsModel", "findStagger", "()V"⟩, 59) := ⟨⟨by decide +kernel, by decide +kernel⟩, List.mem_of_getElem? (i := 940) (by decide +kernel), List.mem_of_getElem? (i := 1396) (by decide +kernel), List.mem_of_getElem? (i := 1397) (by decide +kernel)⟩
theorem lw_p47 : lw_okq (⟨"PowerRailsModel", "lastGood", "()I"⟩, 59) := ⟨⟨by decide +kernel, by decide +kernel⟩, List.mem_of_getElem? (i := 940) (by decide +kernel), List.mem_of_getElem? (i := 1400) (by decide +kernel), List.mem_of_getElem? (i := 1401) (by decide +kernel)⟩
def lw_privs_3 : List (MethodName × Nat) := [(⟨"PowerRailsModel", "allIn", "(I)I"⟩, 59), (⟨"PowerRailsModel", "becomes", "(IZ)I"⟩, 59), (⟨"PowerRailsModel", "happens", "(II)V"⟩, 59), (⟨"PowerRailsModel", "drawnOf", "(II)I"⟩, 59), (⟨"PowerRailsModel", "tripNow", "()I"⟩, 59), (⟨"PowerRailsModel", "deadOnes", "()I"⟩, 59), (⟨"PowerRailsModel", "upBut", "(I)I"⟩, 59), (⟨"PowerRailsModel", "setWaits", "()V"⟩, 59), (⟨"PowerRailsModel", "setTimes", "(I)V"⟩, 59), (⟨"PowerRailsModel", "findTimes", "()V"⟩, 59), (⟨"PowerRailsModel", "ways", "()I"⟩, 59), (⟨"PowerRailsModel", "goesOn", "()Z"⟩, 59), (⟨"PowerRailsModel", "drawnAt", "(I)I"⟩, 59), (⟨"PowerRailsModel", "peakNow", "()I"⟩, 59), (⟨"PowerRailsModel", "findStagger", "()V"⟩, 59), (⟨"PowerRailsModel", "lastGood", "()I"⟩, 59)]
theorem lw_r3 : ∀ q ∈ lw_privs_3, lw_okq q := List.forall_mem_cons.mpr ⟨lw_p32, List.forall_mem_cons.mpr ⟨lw_p33, List.forall_mem_cons.mpr ⟨lw_p34, List.forall_mem_cons.mpr ⟨lw_p35, List.forall_mem_cons.mpr ⟨lw_p36, List.forall_mem_cons.mpr ⟨lw_p37, List.forall_mem_cons.mpr ⟨lw_p38, List.forall_mem_cons.mpr ⟨lw_p39, List.forall_mem_cons.mpr ⟨lw_p40, List.forall_mem_cons.mpr ⟨lw_p41, List.forall_mem_cons.mpr ⟨lw_p42, List.forall_mem_cons.mpr ⟨lw_p43, List.forall_mem_cons.mpr ⟨lw_p44, List.forall_mem_cons.mpr ⟨lw_p45, List.forall_mem_cons.mpr ⟨lw_p46, List.forall_mem_cons.mpr ⟨lw_p47, fun _ h => absurd h List.not_mem_nil⟩⟩⟩⟩⟩⟩⟩⟩⟩⟩⟩⟩⟩⟩⟩⟩
theorem lw_p48 : lw_okq (⟨"PowerRailsModel", "areRails", "(I)Z"⟩, 59) := ⟨⟨by decide +kernel, by decide +kernel⟩, List.mem_of_getElem? (i := 940) (by decide +kernel), List.mem_of_getElem? (i := 1412) (by decide +kernel), List.mem_of_getElem? (i := 1413) (by decide +kernel)⟩
theorem lw_p49 : lw_okq (⟨"PowerRailsModel", "isUp", "(II)Z"⟩, 59) := ⟨⟨by decide +kernel, by decide +kernel⟩, List.mem_of_getElem? (i := 940) (by decide +kernel), List.mem_of_getElem? (i := 1420) (by decide +kernel), List.mem_of_getElem? (i := 1421) (by decide +kernel)⟩
def lw_privs_4 : List (MethodName × Nat) := [(⟨"PowerRailsModel", "areRails", "(I)Z"⟩, 59), (⟨"PowerRailsModel", "isUp", "(II)Z"⟩, 59)]
theorem lw_r4 : ∀ q ∈ lw_privs_4, lw_okq q := List.forall_mem_cons.mpr ⟨lw_p48, List.forall_mem_cons.mpr ⟨lw_p49, fun _ h => absurd h List.not_mem_nil⟩⟩
def lw_privs : List (MethodName × Nat) := lw_privs_1 ++ (lw_privs_2 ++ (lw_privs_3 ++ (lw_privs_4)))
def lw_tbl : List Cond := k2_sels lw_privs ++ tables_1
theorem lw_privs_ok : ∀ q ∈ lw_privs, lw_okq q := by
  show ∀ q ∈ lw_privs_1 ++ (lw_privs_2 ++ (lw_privs_3 ++ (lw_privs_4))), lw_okq q
  exact List.forall_mem_append.mpr ⟨lw_r1, List.forall_mem_append.mpr ⟨lw_r2, List.forall_mem_append.mpr ⟨lw_r3, lw_r4⟩⟩⟩
end
section
/-! ===== BEGIN words of one list among another's, by their places ===== -/
theorem goodIn_r {big : List Cond} (ws : List Cond) (ps : List Nat) (hp : ws = ps.filterMap (fun i => big[i]?)) (h : ws.all goodWord = true) : GoodIn big ws := by
  intro w hw
  have h1 := List.all_eq_true.mp h w hw
  rw [hp] at hw
  obtain ⟨i, -, hi⟩ := List.mem_filterMap.mp hw
  have hm : w ∈ big := by first | exact List.mem_of_getElem? hi | exact List.getElem?_mem hi
  exact ⟨hm, good_of_word h1⟩
theorem goodIn_app {big a b : List Cond} (ha : GoodIn big a) (hb : GoodIn big b) : GoodIn big (a ++ b) := fun w h => (List.mem_append.mp h).elim (ha w) (hb w)
theorem goodIn_ca {big a b : List Cond} {c : Cond} (ha : GoodIn big (c :: a)) (hb : GoodIn big b) : GoodIn big (c :: (a ++ b)) := fun w h => (List.mem_cons.mp h).elim (fun e => ha w (List.mem_cons.mpr (Or.inl e))) (fun h => (List.mem_append.mp h).elim (fun h => ha w (List.mem_cons.mpr (Or.inr h))) (hb w))
theorem goodIn_sub {big ws : List Cond} (hm : ∀ w ∈ ws, w ∈ big) (h : ws.all goodWord = true) : GoodIn big ws := fun w hw => ⟨hm w hw, good_of_word (List.all_eq_true.mp h w hw)⟩
/-! ===== END ===== -/


/-! ===== BEGIN printed: names, fields, word lists, decode rows ===== -/
def RX0 : String := "PowerRails$Course"
def TX0 : u_T := fun k => match k with
  | 0 => ("PowerRails$Course", "waits", "[I", true)
  | 1 => ("PowerRails$Course", "takes", "[I", true)
  | 2 => ("PowerRails$Course", "risesAt", "[I", true)
  | 3 => ("PowerRails$Course", "goodAt", "[I", true)
  | 4 => ("PowerRails$Course", "changes", "[I", true)
  | 5 => ("PowerRails$Course", "up", "I", false)
  | 6 => ("PowerRails$Course", "last", "I", false)
  | 7 => ("PowerRails$Course", "peak", "I", false)
  | _ => ("PowerRails$Course", "peakTick", "I", false)
def tyX0 : Nat → FieldType := fun k => match k with
  | 0 => .array .int
  | 1 => .array .int
  | 2 => .array .int
  | 3 => .array .int
  | 4 => .array .int
  | 5 => .int
  | 6 => .int
  | 7 => .int
  | _ => .int
abbrev wsX00 : List Cond := u_ws RX0 TX0 9
theorem nmX0 : ∀ a, a < 9 → ∀ b, b < 9 → a ≠ b → (TX0 a).2.1 ≠ (TX0 b).2.1 := by decide +kernel
theorem tyX0_ok : ∀ k, k < 9 → parseFieldDescriptor (TX0 k).2.2.1 = some (tyX0 k) := by decide +kernel
abbrev cX0_init : ByteArray := prog_2_method_1_code
def yX0_init : MethodName := ⟨RX0, "<init>", "()V"⟩
abbrev cX0_setWaits : ByteArray := prog_2_method_2_code
def yX0_setWaits : MethodName := ⟨RX0, "setWaits", "(LPowerRails$Plan;)V"⟩
abbrev cX0_setTakes : ByteArray := prog_2_method_3_code
def yX0_setTakes : MethodName := ⟨RX0, "setTakes", "(LPowerRails$Plan;I)V"⟩
abbrev cX0_copyTakes : ByteArray := prog_2_method_4_code
def yX0_copyTakes : MethodName := ⟨RX0, "copyTakes", "([I)V"⟩
abbrev cX0_isUp : ByteArray := prog_2_method_5_code
def yX0_isUp : MethodName := ⟨RX0, "isUp", "(I)Z"⟩
abbrev cX0_follow : ByteArray := prog_2_method_6_code
def yX0_follow : MethodName := ⟨RX0, "follow", "(LPowerRails$Plan;I)V"⟩
abbrev cX0_begin : ByteArray := prog_2_method_7_code
def yX0_begin : MethodName := ⟨RX0, "begin", "(LPowerRails$Plan;I)I"⟩
abbrev cX0_soonest : ByteArray := prog_2_method_8_code
def yX0_soonest : MethodName := ⟨RX0, "soonest", "(I)I"⟩
abbrev cX0_drawnAt : ByteArray := prog_2_method_9_code
def yX0_drawnAt : MethodName := ⟨RX0, "drawnAt", "(LPowerRails$Plan;I)I"⟩
abbrev cX0_findPeak : ByteArray := prog_2_method_10_code
def yX0_findPeak : MethodName := ⟨RX0, "findPeak", "(LPowerRails$Plan;)V"⟩
def RX1 : String := "PowerRails$Deaths"
def TX1 : u_T := fun k => match k with
  | _ => ("", "", "", false)
def tyX1 : Nat → FieldType := fun k => match k with
  | _ => .int
abbrev wsX10 : List Cond := u_ws RX1 TX1 0
theorem nmX1 : ∀ a, a < 0 → ∀ b, b < 0 → a ≠ b → (TX1 a).2.1 ≠ (TX1 b).2.1 := by decide +kernel
theorem tyX1_ok : ∀ k, k < 0 → parseFieldDescriptor (TX1 k).2.2.1 = some (tyX1 k) := by decide +kernel
abbrev cX1_isUpAmong : ByteArray := prog_3_method_2_code
def yX1_isUpAmong : MethodName := ⟨RX1, "isUpAmong", "(LPowerRails$Plan;II)Z"⟩
abbrev cX1_fewestThatCut : ByteArray := prog_3_method_3_code
def yX1_fewestThatCut : MethodName := ⟨RX1, "fewestThatCut", "(LPowerRails$Plan;II)I"⟩
abbrev cX1_fewestThatDo : ByteArray := prog_3_method_4_code
def yX1_fewestThatDo : MethodName := ⟨RX1, "fewestThatDo", "(LPowerRails$Plan;II)I"⟩
abbrev cX1_neverWithout : ByteArray := prog_3_method_5_code
def yX1_neverWithout : MethodName := ⟨RX1, "neverWithout", "(LPowerRails$Plan;II)I"⟩
abbrev cX1_thatExplain : ByteArray := prog_3_method_6_code
def yX1_thatExplain : MethodName := ⟨RX1, "thatExplain", "(LPowerRails$Plan;I)I"⟩
def RX2 : String := "PowerRails$History"
def TX2 : u_T := fun k => match k with
  | 0 => ("PowerRails$History", "ticks", "[I", true)
  | 1 => ("PowerRails$History", "who", "[I", true)
  | 2 => ("PowerRails$History", "became", "[I", true)
  | _ => ("PowerRails$History", "size", "I", false)
def tyX2 : Nat → FieldType := fun k => match k with
  | 0 => .array .int
  | 1 => .array .int
  | 2 => .array .int
  | _ => .int
abbrev wsX20 : List Cond := u_ws RX2 TX2 4
theorem nmX2 : ∀ a, a < 4 → ∀ b, b < 4 → a ≠ b → (TX2 a).2.1 ≠ (TX2 b).2.1 := by decide +kernel
theorem tyX2_ok : ∀ k, k < 4 → parseFieldDescriptor (TX2 k).2.2.1 = some (tyX2 k) := by decide +kernel
abbrev cX2_init : ByteArray := prog_4_method_1_code
def yX2_init : MethodName := ⟨RX2, "<init>", "()V"⟩
abbrev cX2_note : ByteArray := prog_4_method_2_code
def yX2_note : MethodName := ⟨RX2, "note", "(III)V"⟩
def RX3 : String := "PowerRails$Plan"
def TX3 : u_T := fun k => match k with
  | 0 => ("PowerRails$Plan", "numbers", "[I", true)
  | 1 => ("PowerRails$Plan", "tables", "[J", true)
  | 2 => ("PowerRails$Plan", "rails", "I", false)
  | 3 => ("PowerRails$Plan", "limit", "I", false)
  | 4 => ("PowerRails$Plan", "retry", "I", false)
  | _ => ("PowerRails$Plan", "behind", "I", false)
def tyX3 : Nat → FieldType := fun k => match k with
  | 0 => .array .int
  | 1 => .array .long
  | 2 => .int
  | 3 => .int
  | 4 => .int
  | _ => .int
abbrev wsX30 : List Cond := u_ws RX3 TX3 6
theorem nmX3 : ∀ a, a < 6 → ∀ b, b < 6 → a ≠ b → (TX3 a).2.1 ≠ (TX3 b).2.1 := by decide +kernel
theorem tyX3_ok : ∀ k, k < 6 → parseFieldDescriptor (TX3 k).2.2.1 = some (tyX3 k) := by decide +kernel
abbrev cX3_init : ByteArray := prog_5_method_1_code
def yX3_init : MethodName := ⟨RX3, "<init>", "()V"⟩
abbrev cX3_reset : ByteArray := prog_5_method_2_code
def yX3_reset : MethodName := ⟨RX3, "reset", "()V"⟩
abbrev cX3_addRail : ByteArray := prog_5_method_3_code
def yX3_addRail : MethodName := ⟨RX3, "addRail", "()V"⟩
abbrev cX3_hasRail : ByteArray := prog_5_method_4_code
def yX3_hasRail : MethodName := ⟨RX3, "hasRail", "(I)Z"⟩
abbrev cX3_allRails : ByteArray := prog_5_method_5_code
def yX3_allRails : MethodName := ⟨RX3, "allRails", "()I"⟩
abbrev cX3_number : ByteArray := prog_5_method_6_code
def yX3_number : MethodName := ⟨RX3, "number", "(II)I"⟩
abbrev cX3_setNumber : ByteArray := prog_5_method_7_code
def yX3_setNumber : MethodName := ⟨RX3, "setNumber", "(III)V"⟩
abbrev cX3_setWaits : ByteArray := prog_5_method_8_code
def yX3_setWaits : MethodName := ⟨RX3, "setWaits", "([I)V"⟩
abbrev cX3_holdsWith : ByteArray := prog_5_method_9_code
def yX3_holdsWith : MethodName := ⟨RX3, "holdsWith", "(II)Z"⟩
abbrev cX3_isLeastSet : ByteArray := prog_5_method_10_code
def yX3_isLeastSet : MethodName := ⟨RX3, "isLeastSet", "(II)Z"⟩
abbrev cX3_countLeastSets : ByteArray := prog_5_method_11_code
def yX3_countLeastSets : MethodName := ⟨RX3, "countLeastSets", "(I)I"⟩
abbrev cX3_leastSet : ByteArray := prog_5_method_12_code
def yX3_leastSet : MethodName := ⟨RX3, "leastSet", "(II)I"⟩
abbrev cX3_upAmong : ByteArray := prog_5_method_13_code
def yX3_upAmong : MethodName := ⟨RX3, "upAmong", "(I)I"⟩
abbrev cX3_countWays : ByteArray := prog_5_method_14_code
def yX3_countWays : MethodName := ⟨RX3, "countWays", "()I"⟩
abbrev cX3_sourcesOf : ByteArray := prog_5_method_15_code
def yX3_sourcesOf : MethodName := ⟨RX3, "sourcesOf", "(I)I"⟩
def RX4 : String := "PowerRails$Reader"
def TX4 : u_T := fun k => match k with
  | 0 => ("PowerRails$Reader", "tape", "LPowerRails$Tape;", true)
  | 1 => ("PowerRails$Reader", "firstUse", "[I", true)
  | 2 => ("PowerRails$Reader", "any", "[[J", true)
  | 3 => ("PowerRails$Reader", "all", "[[J", true)
  | 4 => ("PowerRails$Reader", "plan", "LPowerRails$Plan;", false)
  | 5 => ("PowerRails$Reader", "place", "I", false)
  | 6 => ("PowerRails$Reader", "kind", "I", false)
  | 7 => ("PowerRails$Reader", "from", "I", false)
  | 8 => ("PowerRails$Reader", "value", "I", false)
  | 9 => ("PowerRails$Reader", "told", "I", false)
  | 10 => ("PowerRails$Reader", "depth", "I", false)
  | 11 => ("PowerRails$Reader", "fault", "I", false)
  | _ => ("PowerRails$Reader", "faultPlace", "I", false)
def tyX4 : Nat → FieldType := fun k => match k with
  | 0 => .object "PowerRails$Tape"
  | 1 => .array .int
  | 2 => .array (.array .long)
  | 3 => .array (.array .long)
  | 4 => .object "PowerRails$Plan"
  | 5 => .int
  | 6 => .int
  | 7 => .int
  | 8 => .int
  | 9 => .int
  | 10 => .int
  | 11 => .int
  | _ => .int
abbrev wsX40 : List Cond := u_ws RX4 TX4 13
theorem nmX4 : ∀ a, a < 13 → ∀ b, b < 13 → a ≠ b → (TX4 a).2.1 ≠ (TX4 b).2.1 := by decide +kernel
theorem tyX4_ok : ∀ k, k < 13 → parseFieldDescriptor (TX4 k).2.2.1 = some (tyX4 k) := by decide +kernel
abbrev cX4_init : ByteArray := prog_6_method_1_code
def yX4_init : MethodName := ⟨RX4, "<init>", "(LPowerRails$Tape;LPowerRails$Plan;)V"⟩
abbrev cX4_readText : ByteArray := prog_6_method_2_code
def yX4_readText : MethodName := ⟨RX4, "readText", "(LPowerRails$Plan;)I"⟩
abbrev cX4_refuse : ByteArray := prog_6_method_3_code
def yX4_refuse : MethodName := ⟨RX4, "refuse", "(II)V"⟩
abbrev cX4_step : ByteArray := prog_6_method_4_code
def yX4_step : MethodName := ⟨RX4, "step", "()V"⟩
abbrev cX4_skipWithin : ByteArray := prog_6_method_5_code
def yX4_skipWithin : MethodName := ⟨RX4, "skipWithin", "(II)V"⟩
abbrev cX4_valueNumber : ByteArray := prog_6_method_6_code
def yX4_valueNumber : MethodName := ⟨RX4, "valueNumber", "()V"⟩
abbrev cX4_isWord : ByteArray := prog_6_method_7_code
def yX4_isWord : MethodName := ⟨RX4, "isWord", "(Ljava/lang/String;)Z"⟩
abbrev cX4_isSign : ByteArray := prog_6_method_8_code
def yX4_isSign : MethodName := ⟨RX4, "isSign", "(I)Z"⟩
abbrev cX4_railNamed : ByteArray := prog_6_method_9_code
def yX4_railNamed : MethodName := ⟨RX4, "railNamed", "()I"⟩
abbrev cX4_takeSign : ByteArray := prog_6_method_10_code
def yX4_takeSign : MethodName := ⟨RX4, "takeSign", "(I)V"⟩
abbrev cX4_takeNumber : ByteArray := prog_6_method_11_code
def yX4_takeNumber : MethodName := ⟨RX4, "takeNumber", "(II)I"⟩
abbrev cX4_takeOnce : ByteArray := prog_6_method_12_code
def yX4_takeOnce : MethodName := ⟨RX4, "takeOnce", "(I)V"⟩
abbrev cX4_takeTurn : ByteArray := prog_6_method_13_code
def yX4_takeTurn : MethodName := ⟨RX4, "takeTurn", "(I)V"⟩
abbrev cX4_readRule : ByteArray := prog_6_method_14_code
def yX4_readRule : MethodName := ⟨RX4, "readRule", "()V"⟩
abbrev cX4_readRail : ByteArray := prog_6_method_15_code
def yX4_readRail : MethodName := ⟨RX4, "readRail", "()V"⟩
abbrev cX4_readWith : ByteArray := prog_6_method_16_code
def yX4_readWith : MethodName := ⟨RX4, "readWith", "(I)V"⟩
abbrev cX4_readFormula : ByteArray := prog_6_method_17_code
def yX4_readFormula : MethodName := ⟨RX4, "readFormula", "(I)V"⟩
abbrev cX4_takeUnit : ByteArray := prog_6_method_18_code
def yX4_takeUnit : MethodName := ⟨RX4, "takeUnit", "(I)Z"⟩
abbrev cX4_openDepth : ByteArray := prog_6_method_19_code
def yX4_openDepth : MethodName := ⟨RX4, "openDepth", "(I)V"⟩
abbrev cX4_closeDepth : ByteArray := prog_6_method_20_code
def yX4_closeDepth : MethodName := ⟨RX4, "closeDepth", "()V"⟩
abbrev cX4_joinAny : ByteArray := prog_6_method_21_code
def yX4_joinAny : MethodName := ⟨RX4, "joinAny", "()V"⟩
abbrev cX4_joinPart : ByteArray := prog_6_method_22_code
def yX4_joinPart : MethodName := ⟨RX4, "joinPart", "(II)V"⟩
abbrev cX4_noteUse : ByteArray := prog_6_method_23_code
def yX4_noteUse : MethodName := ⟨RX4, "noteUse", "(I)V"⟩
abbrev cX4_findNotTold : ByteArray := prog_6_method_24_code
def yX4_findNotTold : MethodName := ⟨RX4, "findNotTold", "()V"⟩
def RX5 : String := "PowerRails$Run"
def TX5 : u_T := fun k => match k with
  | 0 => ("PowerRails$Run", "history", "LPowerRails$History;", true)
  | 1 => ("PowerRails$Run", "states", "[I", true)
  | 2 => ("PowerRails$Run", "since", "[I", true)
  | 3 => ("PowerRails$Run", "asked", "[I", true)
  | 4 => ("PowerRails$Run", "takes", "[I", true)
  | 5 => ("PowerRails$Run", "timesGood", "[I", true)
  | 6 => ("PowerRails$Run", "dead", "I", false)
  | 7 => ("PowerRails$Run", "key", "Z", false)
  | 8 => ("PowerRails$Run", "tick", "I", false)
  | 9 => ("PowerRails$Run", "held", "I", false)
  | 10 => ("PowerRails$Run", "tries", "I", false)
  | 11 => ("PowerRails$Run", "trips", "I", false)
  | 12 => ("PowerRails$Run", "latestDraw", "I", false)
  | _ => ("PowerRails$Run", "greatestDraw", "I", false)
def tyX5 : Nat → FieldType := fun k => match k with
  | 0 => .object "PowerRails$History"
  | 1 => .array .int
  | 2 => .array .int
  | 3 => .array .int
  | 4 => .array .int
  | 5 => .array .int
  | 6 => .int
  | 7 => .boolean
  | 8 => .int
  | 9 => .int
  | 10 => .int
  | 11 => .int
  | 12 => .int
  | _ => .int
abbrev wsX50 : List Cond := u_ws RX5 TX5 14
theorem nmX5 : ∀ a, a < 14 → ∀ b, b < 14 → a ≠ b → (TX5 a).2.1 ≠ (TX5 b).2.1 := by decide +kernel
theorem tyX5_ok : ∀ k, k < 14 → parseFieldDescriptor (TX5 k).2.2.1 = some (tyX5 k) := by decide +kernel
abbrev cX5_init : ByteArray := prog_7_method_1_code
def yX5_init : MethodName := ⟨RX5, "<init>", "()V"⟩
abbrev cX5_reset : ByteArray := prog_7_method_2_code
def yX5_reset : MethodName := ⟨RX5, "reset", "(LPowerRails$Plan;)V"⟩
abbrev cX5_turnKey : ByteArray := prog_7_method_3_code
def yX5_turnKey : MethodName := ⟨RX5, "turnKey", "(LPowerRails$Plan;Z)V"⟩
abbrev cX5_railsThatAre : ByteArray := prog_7_method_4_code
def yX5_railsThatAre : MethodName := ⟨RX5, "railsThatAre", "(I)I"⟩
abbrev cX5_passTick : ByteArray := prog_7_method_5_code
def yX5_passTick : MethodName := ⟨RX5, "passTick", "(LPowerRails$Plan;)V"⟩
abbrev cX5_settle : ByteArray := prog_7_method_6_code
def yX5_settle : MethodName := ⟨RX5, "settle", "(LPowerRails$Plan;)V"⟩
abbrev cX5_railsThatMay : ByteArray := prog_7_method_7_code
def yX5_railsThatMay : MethodName := ⟨RX5, "railsThatMay", "(LPowerRails$Plan;)I"⟩
abbrev cX5_changeRails : ByteArray := prog_7_method_8_code
def yX5_changeRails : MethodName := ⟨RX5, "changeRails", "(LPowerRails$Plan;I)Z"⟩
abbrev cX5_nextState : ByteArray := prog_7_method_9_code
def yX5_nextState : MethodName := ⟨RX5, "nextState", "(LPowerRails$Plan;IZ)I"⟩
abbrev cX5_become : ByteArray := prog_7_method_10_code
def yX5_become : MethodName := ⟨RX5, "become", "(II)V"⟩
abbrev cX5_sumDraw : ByteArray := prog_7_method_11_code
def yX5_sumDraw : MethodName := ⟨RX5, "sumDraw", "(LPowerRails$Plan;)I"⟩
abbrev cX5_whyTrip : ByteArray := prog_7_method_12_code
def yX5_whyTrip : MethodName := ⟨RX5, "whyTrip", "(LPowerRails$Plan;)I"⟩
abbrev cX5_trip : ByteArray := prog_7_method_13_code
def yX5_trip : MethodName := ⟨RX5, "trip", "(LPowerRails$Plan;I)V"⟩
abbrev cX5_growOlder : ByteArray := prog_7_method_14_code
def yX5_growOlder : MethodName := ⟨RX5, "growOlder", "(LPowerRails$Plan;)V"⟩
def RX6 : String := "PowerRails$Sheets"
def TX6 : u_T := fun k => match k with
  | 0 => ("PowerRails$Sheets", "cells", "[[I", true)
  | 1 => ("PowerRails$Sheets", "lanes", "[I", true)
  | _ => ("PowerRails$Sheets", "sizes", "[I", true)
def tyX6 : Nat → FieldType := fun k => match k with
  | 0 => .array (.array .int)
  | 1 => .array .int
  | _ => .array .int
abbrev wsX60 : List Cond := u_ws RX6 TX6 3
theorem nmX6 : ∀ a, a < 3 → ∀ b, b < 3 → a ≠ b → (TX6 a).2.1 ≠ (TX6 b).2.1 := by decide +kernel
theorem tyX6_ok : ∀ k, k < 3 → parseFieldDescriptor (TX6 k).2.2.1 = some (tyX6 k) := by decide +kernel
abbrev cX6_init : ByteArray := prog_8_method_1_code
def yX6_init : MethodName := ⟨RX6, "<init>", "()V"⟩
abbrev cX6_hasPlace : ByteArray := prog_8_method_2_code
def yX6_hasPlace : MethodName := ⟨RX6, "hasPlace", "(I)Z"⟩
abbrev cX6_isLane : ByteArray := prog_8_method_3_code
def yX6_isLane : MethodName := ⟨RX6, "isLane", "(I)Z"⟩
abbrev cX6_renew : ByteArray := prog_8_method_4_code
def yX6_renew : MethodName := ⟨RX6, "renew", "(III)V"⟩
abbrev cX6_put : ByteArray := prog_8_method_5_code
def yX6_put : MethodName := ⟨RX6, "put", "(III)V"⟩
def RX7 : String := "PowerRails$Stagger"
def TX7 : u_T := fun k => match k with
  | 0 => ("PowerRails$Stagger", "course", "LPowerRails$Course;", true)
  | 1 => ("PowerRails$Stagger", "row", "[I", true)
  | 2 => ("PowerRails$Stagger", "known", "Z", false)
  | _ => ("PowerRails$Stagger", "last", "I", false)
def tyX7 : Nat → FieldType := fun k => match k with
  | 0 => .object "PowerRails$Course"
  | 1 => .array .int
  | 2 => .boolean
  | _ => .int
abbrev wsX70 : List Cond := u_ws RX7 TX7 4
theorem nmX7 : ∀ a, a < 4 → ∀ b, b < 4 → a ≠ b → (TX7 a).2.1 ≠ (TX7 b).2.1 := by decide +kernel
theorem tyX7_ok : ∀ k, k < 4 → parseFieldDescriptor (TX7 k).2.2.1 = some (tyX7 k) := by decide +kernel
abbrev cX7_init : ByteArray := prog_9_method_1_code
def yX7_init : MethodName := ⟨RX7, "<init>", "(LPowerRails$Course;)V"⟩
abbrev cX7_findRow : ByteArray := prog_9_method_2_code
def yX7_findRow : MethodName := ⟨RX7, "findRow", "(LPowerRails$Plan;I[I)V"⟩
abbrev cX7_keepIfBelowLimit : ByteArray := prog_9_method_3_code
def yX7_keepIfBelowLimit : MethodName := ⟨RX7, "keepIfBelowLimit", "(LPowerRails$Plan;)V"⟩
abbrev cX7_nextRow : ByteArray := prog_9_method_4_code
def yX7_nextRow : MethodName := ⟨RX7, "nextRow", "(I)Z"⟩
def RX8 : String := "PowerRails$Tape"
def TX8 : u_T := fun k => match k with
  | 0 => ("PowerRails$Tape", "bytes", "[I", true)
  | _ => ("PowerRails$Tape", "length", "I", false)
def tyX8 : Nat → FieldType := fun k => match k with
  | 0 => .array .int
  | _ => .int
abbrev wsX80 : List Cond := u_ws RX8 TX8 2
theorem nmX8 : ∀ a, a < 2 → ∀ b, b < 2 → a ≠ b → (TX8 a).2.1 ≠ (TX8 b).2.1 := by decide +kernel
theorem tyX8_ok : ∀ k, k < 2 → parseFieldDescriptor (TX8 k).2.2.1 = some (tyX8 k) := by decide +kernel
abbrev cX8_init : ByteArray := prog_10_method_1_code
def yX8_init : MethodName := ⟨RX8, "<init>", "()V"⟩
abbrev cX8_push : ByteArray := prog_10_method_2_code
def yX8_push : MethodName := ⟨RX8, "push", "(J)Z"⟩
def RX9 : String := "PowerRails$Ways"
def TX9 : u_T := fun k => match k with
  | 0 => ("PowerRails$Ways", "course", "LPowerRails$Course;", true)
  | 1 => ("PowerRails$Ways", "behind", "[I", true)
  | 2 => ("PowerRails$Ways", "behindKnown", "[Z", true)
  | 3 => ("PowerRails$Ways", "peaksKnown", "Z", false)
  | 4 => ("PowerRails$Ways", "greatestPeak", "I", false)
  | _ => ("PowerRails$Ways", "leastPeak", "I", false)
def tyX9 : Nat → FieldType := fun k => match k with
  | 0 => .object "PowerRails$Course"
  | 1 => .array .int
  | 2 => .array .boolean
  | 3 => .boolean
  | 4 => .int
  | _ => .int
abbrev wsX90 : List Cond := u_ws RX9 TX9 6
theorem nmX9 : ∀ a, a < 6 → ∀ b, b < 6 → a ≠ b → (TX9 a).2.1 ≠ (TX9 b).2.1 := by decide +kernel
theorem tyX9_ok : ∀ k, k < 6 → parseFieldDescriptor (TX9 k).2.2.1 = some (tyX9 k) := by decide +kernel
abbrev cX9_init : ByteArray := prog_11_method_1_code
def yX9_init : MethodName := ⟨RX9, "<init>", "(LPowerRails$Course;)V"⟩
abbrev cX9_forget : ByteArray := prog_11_method_2_code
def yX9_forget : MethodName := ⟨RX9, "forget", "()V"⟩
abbrev cX9_mostBehind : ByteArray := prog_11_method_3_code
def yX9_mostBehind : MethodName := ⟨RX9, "mostBehind", "(LPowerRails$Plan;III)I"⟩
abbrev cX9_findPeaks : ByteArray := prog_11_method_4_code
def yX9_findPeaks : MethodName := ⟨RX9, "findPeaks", "(LPowerRails$Plan;I)V"⟩
abbrev cX9_start : ByteArray := prog_11_method_5_code
def yX9_start : MethodName := ⟨RX9, "start", "(LPowerRails$Plan;)V"⟩
abbrev cX9_nextWay : ByteArray := prog_11_method_6_code
def yX9_nextWay : MethodName := ⟨RX9, "nextWay", "(LPowerRails$Plan;I)Z"⟩
def RX10 : String := "PowerRails"
def TX10 : u_T := fun k => match k with
  | 0 => ("PowerRails", "tape", "LPowerRails$Tape;", true)
  | 1 => ("PowerRails", "reader", "LPowerRails$Reader;", true)
  | 2 => ("PowerRails", "run", "LPowerRails$Run;", true)
  | 3 => ("PowerRails", "course", "LPowerRails$Course;", true)
  | 4 => ("PowerRails", "ways", "LPowerRails$Ways;", true)
  | 5 => ("PowerRails", "staggering", "LPowerRails$Stagger;", true)
  | 6 => ("PowerRails", "sheets", "LPowerRails$Sheets;", true)
  | 7 => ("PowerRails", "plan", "LPowerRails$Plan;", false)
  | 8 => ("PowerRails", "spare", "LPowerRails$Plan;", false)
  | _ => ("PowerRails", "latestFault", "I", false)
def tyX10 : Nat → FieldType := fun k => match k with
  | 0 => .object "PowerRails$Tape"
  | 1 => .object "PowerRails$Reader"
  | 2 => .object "PowerRails$Run"
  | 3 => .object "PowerRails$Course"
  | 4 => .object "PowerRails$Ways"
  | 5 => .object "PowerRails$Stagger"
  | 6 => .object "PowerRails$Sheets"
  | 7 => .object "PowerRails$Plan"
  | 8 => .object "PowerRails$Plan"
  | _ => .int
abbrev wsX100 : List Cond := u_ws RX10 TX10 10
theorem nmX10 : ∀ a, a < 10 → ∀ b, b < 10 → a ≠ b → (TX10 a).2.1 ≠ (TX10 b).2.1 := by decide +kernel
theorem tyX10_ok : ∀ k, k < 10 → parseFieldDescriptor (TX10 k).2.2.1 = some (tyX10 k) := by decide +kernel
abbrev cX10_init : ByteArray := prog_1_method_1_code
def yX10_init : MethodName := ⟨RX10, "<init>", "()V"⟩
abbrev cX10_feed : ByteArray := prog_1_method_2_code
def yX10_feed : MethodName := ⟨RX10, "feed", "(J)I"⟩
abbrev cX10_end : ByteArray := prog_1_method_3_code
def yX10_end : MethodName := ⟨RX10, "end", "(I)I"⟩
abbrev cX10_text : ByteArray := prog_1_method_4_code
def yX10_text : MethodName := ⟨RX10, "text", "()I"⟩
abbrev cX10_fault : ByteArray := prog_1_method_5_code
def yX10_fault : MethodName := ⟨RX10, "fault", "()I"⟩
abbrev cX10_rail : ByteArray := prog_1_method_6_code
def yX10_rail : MethodName := ⟨RX10, "rail", "(II)I"⟩
abbrev cX10_rule : ByteArray := prog_1_method_7_code
def yX10_rule : MethodName := ⟨RX10, "rule", "(I)I"⟩
abbrev cX10_holds : ByteArray := prog_1_method_8_code
def yX10_holds : MethodName := ⟨RX10, "holds", "(II)I"⟩
abbrev cX10_words : ByteArray := prog_1_method_9_code
def yX10_words : MethodName := ⟨RX10, "words", "(II)I"⟩
abbrev cX10_key : ByteArray := prog_1_method_10_code
def yX10_key : MethodName := ⟨RX10, "key", "(Z)I"⟩
abbrev cX10_dead : ByteArray := prog_1_method_11_code
def yX10_dead : MethodName := ⟨RX10, "dead", "(IZ)I"⟩
abbrev cX10_time : ByteArray := prog_1_method_12_code
def yX10_time : MethodName := ⟨RX10, "time", "(II)I"⟩
abbrev cX10_go : ByteArray := prog_1_method_13_code
def yX10_go : MethodName := ⟨RX10, "go", "(I)I"⟩
abbrev cX10_now : ByteArray := prog_1_method_14_code
def yX10_now : MethodName := ⟨RX10, "now", "(I)I"⟩
abbrev cX10_is : ByteArray := prog_1_method_15_code
def yX10_is : MethodName := ⟨RX10, "is", "(II)I"⟩
abbrev cX10_happened : ByteArray := prog_1_method_16_code
def yX10_happened : MethodName := ⟨RX10, "happened", "(II)I"⟩
abbrev cX10_up : ByteArray := prog_1_method_17_code
def yX10_up : MethodName := ⟨RX10, "up", "(I)I"⟩
abbrev cX10_when : ByteArray := prog_1_method_18_code
def yX10_when : MethodName := ⟨RX10, "when", "(II)I"⟩
abbrev cX10_ahead : ByteArray := prog_1_method_19_code
def yX10_ahead : MethodName := ⟨RX10, "ahead", "(III)I"⟩
abbrev cX10_drawn : ByteArray := prog_1_method_20_code
def yX10_drawn : MethodName := ⟨RX10, "drawn", "(I)I"⟩
abbrev cX10_peak : ByteArray := prog_1_method_21_code
def yX10_peak : MethodName := ⟨RX10, "peak", "(I)I"⟩
abbrev cX10_stagger : ByteArray := prog_1_method_22_code
def yX10_stagger : MethodName := ⟨RX10, "stagger", "(I)I"⟩
abbrev cX10_adopt : ByteArray := prog_1_method_23_code
def yX10_adopt : MethodName := ⟨RX10, "adopt", "()I"⟩
abbrev cX10_down : ByteArray := prog_1_method_24_code
def yX10_down : MethodName := ⟨RX10, "down", "(I)I"⟩
abbrev cX10_cut : ByteArray := prog_1_method_25_code
def yX10_cut : MethodName := ⟨RX10, "cut", "(II)I"⟩
abbrev cX10_need : ByteArray := prog_1_method_26_code
def yX10_need : MethodName := ⟨RX10, "need", "(II)I"⟩
abbrev cX10_must : ByteArray := prog_1_method_27_code
def yX10_must : MethodName := ⟨RX10, "must", "(I)I"⟩
abbrev cX10_seen : ByteArray := prog_1_method_28_code
def yX10_seen : MethodName := ⟨RX10, "seen", "(I)I"⟩
abbrev cX10_sheet : ByteArray := prog_1_method_29_code
def yX10_sheet : MethodName := ⟨RX10, "sheet", "(III)I"⟩
abbrev cX10_lay : ByteArray := prog_1_method_30_code
def yX10_lay : MethodName := ⟨RX10, "lay", "(III)I"⟩
abbrev cX10_measured : ByteArray := prog_1_method_31_code
def yX10_measured : MethodName := ⟨RX10, "measured", "(IIIII)I"⟩
abbrev cX10_count : ByteArray := prog_1_method_32_code
def yX10_count : MethodName := ⟨RX10, "count", "(I)I"⟩
abbrev cX10_asNumber : ByteArray := prog_1_method_33_code
def yX10_asNumber : MethodName := ⟨RX10, "asNumber", "(Z)I"⟩
abbrev cX10_alive : ByteArray := prog_1_method_34_code
def yX10_alive : MethodName := ⟨RX10, "alive", "()I"⟩
abbrev cX10_canBeUp : ByteArray := prog_1_method_35_code
def yX10_canBeUp : MethodName := ⟨RX10, "canBeUp", "(I)Z"⟩
abbrev cX10_followTimes : ByteArray := prog_1_method_36_code
def yX10_followTimes : MethodName := ⟨RX10, "followTimes", "()V"⟩
abbrev cX10_forgetReckoned : ByteArray := prog_1_method_37_code
def yX10_forgetReckoned : MethodName := ⟨RX10, "forgetReckoned", "()V"⟩
abbrev cX10_compareSheet : ByteArray := prog_1_method_38_code
def yX10_compareSheet : MethodName := ⟨RX10, "compareSheet", "(IIII)I"⟩
def RX11 : String := "PowerRailsModel"
def TX11 : u_T := fun k => match k with
  | 0 => ("PowerRailsModel", "rails", "I", false)
  | 1 => ("PowerRailsModel", "told", "[I", true)
  | 2 => ("PowerRailsModel", "names", "[I", true)
  | 3 => ("PowerRailsModel", "table", "[Z", true)
  | 4 => ("PowerRailsModel", "limit", "I", false)
  | 5 => ("PowerRailsModel", "retry", "I", false)
  | 6 => ("PowerRailsModel", "pause", "I", false)
  | 7 => ("PowerRailsModel", "dRails", "I", false)
  | 8 => ("PowerRailsModel", "dTold", "[I", true)
  | 9 => ("PowerRailsModel", "dNames", "[I", true)
  | 10 => ("PowerRailsModel", "dTable", "[Z", true)
  | 11 => ("PowerRailsModel", "dLimit", "I", false)
  | 12 => ("PowerRailsModel", "dRetry", "I", false)
  | 13 => ("PowerRailsModel", "dPause", "I", false)
  | 14 => ("PowerRailsModel", "hasLimit", "Z", false)
  | 15 => ("PowerRailsModel", "hasRetry", "Z", false)
  | 16 => ("PowerRailsModel", "used", "I", false)
  | 17 => ("PowerRailsModel", "usedRail", "[I", true)
  | 18 => ("PowerRailsModel", "usedAt", "[I", true)
  | 19 => ("PowerRailsModel", "coded", "I", false)
  | 20 => ("PowerRailsModel", "code", "[I", true)
  | 21 => ("PowerRailsModel", "waiting", "I", false)
  | 22 => ("PowerRailsModel", "wait", "[I", true)
  | 23 => ("PowerRailsModel", "deep", "I", false)
  | 24 => ("PowerRailsModel", "pile", "[Z", true)
  | 25 => ("PowerRailsModel", "tape", "[I", true)
  | 26 => ("PowerRailsModel", "taped", "I", false)
  | 27 => ("PowerRailsModel", "pos", "I", false)
  | 28 => ("PowerRailsModel", "from", "I", false)
  | 29 => ("PowerRailsModel", "sort", "I", false)
  | 30 => ("PowerRailsModel", "value", "I", false)
  | 31 => ("PowerRailsModel", "fault", "I", false)
  | 32 => ("PowerRailsModel", "wrongAt", "I", false)
  | 33 => ("PowerRailsModel", "tick", "I", false)
  | 34 => ("PowerRailsModel", "isOn", "Z", false)
  | 35 => ("PowerRailsModel", "state", "[I", true)
  | 36 => ("PowerRailsModel", "since", "[I", true)
  | 37 => ("PowerRailsModel", "upSince", "[I", true)
  | 38 => ("PowerRailsModel", "isDead", "[Z", true)
  | 39 => ("PowerRailsModel", "takes", "[I", true)
  | 40 => ("PowerRailsModel", "wasGood", "[I", true)
  | 41 => ("PowerRailsModel", "held", "I", false)
  | 42 => ("PowerRailsModel", "tries", "I", false)
  | 43 => ("PowerRailsModel", "drawnNow", "I", false)
  | 44 => ("PowerRailsModel", "drawnMost", "I", false)
  | 45 => ("PowerRailsModel", "trips", "I", false)
  | 46 => ("PowerRailsModel", "happenings", "I", false)
  | 47 => ("PowerRailsModel", "happening", "[I", true)
  | 48 => ("PowerRailsModel", "mayAt", "[I", true)
  | 49 => ("PowerRailsModel", "goodAt", "[I", true)
  | 50 => ("PowerRailsModel", "by", "[I", true)
  | 51 => ("PowerRailsModel", "waits", "[I", true)
  | 52 => ("PowerRailsModel", "upNow", "I", false)
  | 53 => ("PowerRailsModel", "peakAt", "I", false)
  | 54 => ("PowerRailsModel", "bestWaits", "[I", true)
  | 55 => ("PowerRailsModel", "soonest", "I", false)
  | 56 => ("PowerRailsModel", "lanes", "[I", true)
  | 57 => ("PowerRailsModel", "sizes", "[I", true)
  | _ => ("PowerRailsModel", "cells", "[I", true)
def tyX11 : Nat → FieldType := fun k => match k with
  | 0 => .int
  | 1 => .array .int
  | 2 => .array .int
  | 3 => .array .boolean
  | 4 => .int
  | 5 => .int
  | 6 => .int
  | 7 => .int
  | 8 => .array .int
  | 9 => .array .int
  | 10 => .array .boolean
  | 11 => .int
  | 12 => .int
  | 13 => .int
  | 14 => .boolean
  | 15 => .boolean
  | 16 => .int
  | 17 => .array .int
  | 18 => .array .int
  | 19 => .int
  | 20 => .array .int
  | 21 => .int
  | 22 => .array .int
  | 23 => .int
  | 24 => .array .boolean
  | 25 => .array .int
  | 26 => .int
  | 27 => .int
  | 28 => .int
  | 29 => .int
  | 30 => .int
  | 31 => .int
  | 32 => .int
  | 33 => .int
  | 34 => .boolean
  | 35 => .array .int
  | 36 => .array .int
  | 37 => .array .int
  | 38 => .array .boolean
  | 39 => .array .int
  | 40 => .array .int
  | 41 => .int
  | 42 => .int
  | 43 => .int
  | 44 => .int
  | 45 => .int
  | 46 => .int
  | 47 => .array .int
  | 48 => .array .int
  | 49 => .array .int
  | 50 => .array .int
  | 51 => .array .int
  | 52 => .int
  | 53 => .int
  | 54 => .array .int
  | 55 => .int
  | 56 => .array .int
  | 57 => .array .int
  | _ => .array .int
abbrev wsX110 : List Cond := u_ws RX11 TX11 59
theorem nmX11 : ∀ a, a < 59 → ∀ b, b < 59 → a ≠ b → (TX11 a).2.1 ≠ (TX11 b).2.1 := by decide +kernel
theorem tyX11_ok : ∀ k, k < 59 → parseFieldDescriptor (TX11 k).2.2.1 = some (tyX11 k) := by decide +kernel
abbrev cX11_init : ByteArray := prog_13_method_1_code
def yX11_init : MethodName := ⟨RX11, "<init>", "()V"⟩
abbrev cX11_in : ByteArray := prog_13_method_3_code
def yX11_in : MethodName := ⟨RX11, "in", "(JJJ)Z"⟩
abbrev cX11_flag : ByteArray := prog_13_method_4_code
def yX11_flag : MethodName := ⟨RX11, "flag", "(Z)I"⟩
abbrev cX11_countOf : ByteArray := prog_13_method_5_code
def yX11_countOf : MethodName := ⟨RX11, "countOf", "(I)I"⟩
abbrev cX11_of : ByteArray := prog_13_method_6_code
def yX11_of : MethodName := ⟨RX11, "of", "(II)I"⟩
abbrev cX11_firstDraft : ByteArray := prog_13_method_7_code
def yX11_firstDraft : MethodName := ⟨RX11, "firstDraft", "()V"⟩
abbrev cX11_keepDraft : ByteArray := prog_13_method_8_code
def yX11_keepDraft : MethodName := ⟨RX11, "keepDraft", "()V"⟩
abbrev cX11_feed : ByteArray := prog_13_method_9_code
def yX11_feed : MethodName := ⟨RX11, "feed", "(J)I"⟩
abbrev cX11_end : ByteArray := prog_13_method_10_code
def yX11_end : MethodName := ⟨RX11, "end", "(I)I"⟩
abbrev cX11_wants : ByteArray := prog_13_method_11_code
def yX11_wants : MethodName := ⟨RX11, "wants", "(ZI)V"⟩
abbrev cX11_look : ByteArray := prog_13_method_12_code
def yX11_look : MethodName := ⟨RX11, "look", "(I)I"⟩
abbrev cX11_is : ByteArray := prog_13_method_13_code
def yX11_is : MethodName := ⟨RX11, "is", "(IIIII)Z"⟩
abbrev cX11_nameNow : ByteArray := prog_13_method_14_code
def yX11_nameNow : MethodName := ⟨RX11, "nameNow", "()I"⟩
abbrev cX11_next : ByteArray := prog_13_method_15_code
def yX11_next : MethodName := ⟨RX11, "next", "()V"⟩
abbrev cX11_readNumber : ByteArray := prog_13_method_16_code
def yX11_readNumber : MethodName := ⟨RX11, "readNumber", "(II)I"⟩
abbrev cX11_readLetter : ByteArray := prog_13_method_17_code
def yX11_readLetter : MethodName := ⟨RX11, "readLetter", "()V"⟩
abbrev cX11_done : ByteArray := prog_13_method_18_code
def yX11_done : MethodName := ⟨RX11, "done", "(I)V"⟩
abbrev cX11_holdsBack : ByteArray := prog_13_method_19_code
def yX11_holdsBack : MethodName := ⟨RX11, "holdsBack", "(I)V"⟩
abbrev cX11_readUnit : ByteArray := prog_13_method_20_code
def yX11_readUnit : MethodName := ⟨RX11, "readUnit", "()V"⟩
abbrev cX11_readFormula : ByteArray := prog_13_method_21_code
def yX11_readFormula : MethodName := ⟨RX11, "readFormula", "()V"⟩
abbrev cX11_worth : ByteArray := prog_13_method_22_code
def yX11_worth : MethodName := ⟨RX11, "worth", "(I)Z"⟩
abbrev cX11_keepFormula : ByteArray := prog_13_method_23_code
def yX11_keepFormula : MethodName := ⟨RX11, "keepFormula", "()V"⟩
abbrev cX11_readWith : ByteArray := prog_13_method_24_code
def yX11_readWith : MethodName := ⟨RX11, "readWith", "(I)V"⟩
abbrev cX11_readRail : ByteArray := prog_13_method_25_code
def yX11_readRail : MethodName := ⟨RX11, "readRail", "()V"⟩
abbrev cX11_readWhen : ByteArray := prog_13_method_26_code
def yX11_readWhen : MethodName := ⟨RX11, "readWhen", "()V"⟩
abbrev cX11_readLine : ByteArray := prog_13_method_27_code
def yX11_readLine : MethodName := ⟨RX11, "readLine", "()V"⟩
abbrev cX11_text : ByteArray := prog_13_method_28_code
def yX11_text : MethodName := ⟨RX11, "text", "()I"⟩
abbrev cX11_fault : ByteArray := prog_13_method_29_code
def yX11_fault : MethodName := ⟨RX11, "fault", "()I"⟩
abbrev cX11_isRail : ByteArray := prog_13_method_30_code
def yX11_isRail : MethodName := ⟨RX11, "isRail", "(I)Z"⟩
abbrev cX11_areRails : ByteArray := prog_13_method_31_code
def yX11_areRails : MethodName := ⟨RX11, "areRails", "(I)Z"⟩
abbrev cX11_rail : ByteArray := prog_13_method_32_code
def yX11_rail : MethodName := ⟨RX11, "rail", "(II)I"⟩
abbrev cX11_rule : ByteArray := prog_13_method_33_code
def yX11_rule : MethodName := ⟨RX11, "rule", "(I)I"⟩
abbrev cX11_isSo : ByteArray := prog_13_method_34_code
def yX11_isSo : MethodName := ⟨RX11, "isSo", "(II)Z"⟩
abbrev cX11_holds : ByteArray := prog_13_method_35_code
def yX11_holds : MethodName := ⟨RX11, "holds", "(II)I"⟩
abbrev cX11_isLeast : ByteArray := prog_13_method_36_code
def yX11_isLeast : MethodName := ⟨RX11, "isLeast", "(II)Z"⟩
abbrev cX11_words : ByteArray := prog_13_method_37_code
def yX11_words : MethodName := ⟨RX11, "words", "(II)I"⟩
abbrev cX11_begins : ByteArray := prog_13_method_38_code
def yX11_begins : MethodName := ⟨RX11, "begins", "()V"⟩
abbrev cX11_happens : ByteArray := prog_13_method_39_code
def yX11_happens : MethodName := ⟨RX11, "happens", "(II)V"⟩
abbrev cX11_key : ByteArray := prog_13_method_40_code
def yX11_key : MethodName := ⟨RX11, "key", "(Z)I"⟩
abbrev cX11_dead : ByteArray := prog_13_method_41_code
def yX11_dead : MethodName := ⟨RX11, "dead", "(IZ)I"⟩
abbrev cX11_time : ByteArray := prog_13_method_42_code
def yX11_time : MethodName := ⟨RX11, "time", "(II)I"⟩
abbrev cX11_allIn : ByteArray := prog_13_method_43_code
def yX11_allIn : MethodName := ⟨RX11, "allIn", "(I)I"⟩
abbrev cX11_becomes : ByteArray := prog_13_method_44_code
def yX11_becomes : MethodName := ⟨RX11, "becomes", "(IZ)I"⟩
abbrev cX11_round : ByteArray := prog_13_method_45_code
def yX11_round : MethodName := ⟨RX11, "round", "()Z"⟩
abbrev cX11_settles : ByteArray := prog_13_method_46_code
def yX11_settles : MethodName := ⟨RX11, "settles", "()V"⟩
abbrev cX11_drawnOf : ByteArray := prog_13_method_47_code
def yX11_drawnOf : MethodName := ⟨RX11, "drawnOf", "(II)I"⟩
abbrev cX11_tripNow : ByteArray := prog_13_method_48_code
def yX11_tripNow : MethodName := ⟨RX11, "tripNow", "()I"⟩
abbrev cX11_aTick : ByteArray := prog_13_method_49_code
def yX11_aTick : MethodName := ⟨RX11, "aTick", "()V"⟩
abbrev cX11_go : ByteArray := prog_13_method_50_code
def yX11_go : MethodName := ⟨RX11, "go", "(I)I"⟩
abbrev cX11_now : ByteArray := prog_13_method_51_code
def yX11_now : MethodName := ⟨RX11, "now", "(I)I"⟩
abbrev cX11_is_ : ByteArray := prog_13_method_52_code
def yX11_is_ : MethodName := ⟨RX11, "is", "(II)I"⟩
abbrev cX11_happened : ByteArray := prog_13_method_53_code
def yX11_happened : MethodName := ⟨RX11, "happened", "(II)I"⟩
abbrev cX11_deadOnes : ByteArray := prog_13_method_54_code
def yX11_deadOnes : MethodName := ⟨RX11, "deadOnes", "()I"⟩
abbrev cX11_upBut : ByteArray := prog_13_method_55_code
def yX11_upBut : MethodName := ⟨RX11, "upBut", "(I)I"⟩
abbrev cX11_up : ByteArray := prog_13_method_56_code
def yX11_up : MethodName := ⟨RX11, "up", "(I)I"⟩
abbrev cX11_setWaits : ByteArray := prog_13_method_57_code
def yX11_setWaits : MethodName := ⟨RX11, "setWaits", "()V"⟩
abbrev cX11_findTimes : ByteArray := prog_13_method_58_code
def yX11_findTimes : MethodName := ⟨RX11, "findTimes", "()V"⟩
abbrev cX11_setTimes : ByteArray := prog_13_method_59_code
def yX11_setTimes : MethodName := ⟨RX11, "setTimes", "(I)V"⟩
abbrev cX11_when : ByteArray := prog_13_method_60_code
def yX11_when : MethodName := ⟨RX11, "when", "(II)I"⟩
abbrev cX11_ways : ByteArray := prog_13_method_61_code
def yX11_ways : MethodName := ⟨RX11, "ways", "()I"⟩
abbrev cX11_goesOn : ByteArray := prog_13_method_62_code
def yX11_goesOn : MethodName := ⟨RX11, "goesOn", "()Z"⟩
abbrev cX11_ahead : ByteArray := prog_13_method_63_code
def yX11_ahead : MethodName := ⟨RX11, "ahead", "(III)I"⟩
abbrev cX11_drawnAt : ByteArray := prog_13_method_64_code
def yX11_drawnAt : MethodName := ⟨RX11, "drawnAt", "(I)I"⟩
abbrev cX11_drawn : ByteArray := prog_13_method_65_code
def yX11_drawn : MethodName := ⟨RX11, "drawn", "(I)I"⟩
abbrev cX11_peakNow : ByteArray := prog_13_method_66_code
def yX11_peakNow : MethodName := ⟨RX11, "peakNow", "()I"⟩
abbrev cX11_peak : ByteArray := prog_13_method_67_code
def yX11_peak : MethodName := ⟨RX11, "peak", "(I)I"⟩
abbrev cX11_lastGood : ByteArray := prog_13_method_68_code
def yX11_lastGood : MethodName := ⟨RX11, "lastGood", "()I"⟩
abbrev cX11_findStagger : ByteArray := prog_13_method_69_code
def yX11_findStagger : MethodName := ⟨RX11, "findStagger", "()V"⟩
abbrev cX11_stagger : ByteArray := prog_13_method_70_code
def yX11_stagger : MethodName := ⟨RX11, "stagger", "(I)I"⟩
abbrev cX11_adopt : ByteArray := prog_13_method_71_code
def yX11_adopt : MethodName := ⟨RX11, "adopt", "()I"⟩
abbrev cX11_down : ByteArray := prog_13_method_72_code
def yX11_down : MethodName := ⟨RX11, "down", "(I)I"⟩
abbrev cX11_isUp : ByteArray := prog_13_method_73_code
def yX11_isUp : MethodName := ⟨RX11, "isUp", "(II)Z"⟩
abbrev cX11_cut : ByteArray := prog_13_method_74_code
def yX11_cut : MethodName := ⟨RX11, "cut", "(II)I"⟩
abbrev cX11_need : ByteArray := prog_13_method_75_code
def yX11_need : MethodName := ⟨RX11, "need", "(II)I"⟩
abbrev cX11_must : ByteArray := prog_13_method_76_code
def yX11_must : MethodName := ⟨RX11, "must", "(I)I"⟩
abbrev cX11_seen : ByteArray := prog_13_method_77_code
def yX11_seen : MethodName := ⟨RX11, "seen", "(I)I"⟩
abbrev cX11_isSheet : ByteArray := prog_13_method_78_code
def yX11_isSheet : MethodName := ⟨RX11, "isSheet", "(II)Z"⟩
abbrev cX11_sheet : ByteArray := prog_13_method_79_code
def yX11_sheet : MethodName := ⟨RX11, "sheet", "(III)I"⟩
abbrev cX11_lay : ByteArray := prog_13_method_80_code
def yX11_lay : MethodName := ⟨RX11, "lay", "(III)I"⟩
abbrev cX11_measured : ByteArray := prog_13_method_81_code
def yX11_measured : MethodName := ⟨RX11, "measured", "(IIIII)I"⟩
abbrev cX11_count : ByteArray := prog_13_method_82_code
def yX11_count : MethodName := ⟨RX11, "count", "(I)I"⟩
def RJx145de : String := "java/io/Serializable"
def TJx145de : u_T := fun k => match k with
  | _ => ("", "", "", false)
def tyJx145de : Nat → FieldType := fun k => match k with
  | _ => .int
abbrev wsJx145de0 : List Cond := u_ws RJx145de TJx145de 0
theorem nmJx145de : ∀ a, a < 0 → ∀ b, b < 0 → a ≠ b → (TJx145de a).2.1 ≠ (TJx145de b).2.1 := by decide +kernel
theorem tyJx145de_ok : ∀ k, k < 0 → parseFieldDescriptor (TJx145de k).2.2.1 = some (tyJx145de k) := by decide +kernel
def RJx9f9b0 : String := "java/lang/CharSequence"
def TJx9f9b0 : u_T := fun k => match k with
  | _ => ("", "", "", false)
def tyJx9f9b0 : Nat → FieldType := fun k => match k with
  | _ => .int
abbrev wsJx9f9b00 : List Cond := u_ws RJx9f9b0 TJx9f9b0 0
theorem nmJx9f9b0 : ∀ a, a < 0 → ∀ b, b < 0 → a ≠ b → (TJx9f9b0 a).2.1 ≠ (TJx9f9b0 b).2.1 := by decide +kernel
theorem tyJx9f9b0_ok : ∀ k, k < 0 → parseFieldDescriptor (TJx9f9b0 k).2.2.1 = some (tyJx9f9b0 k) := by decide +kernel
def RJxb160c : String := "java/lang/Comparable"
def TJxb160c : u_T := fun k => match k with
  | _ => ("", "", "", false)
def tyJxb160c : Nat → FieldType := fun k => match k with
  | _ => .int
abbrev wsJxb160c0 : List Cond := u_ws RJxb160c TJxb160c 0
theorem nmJxb160c : ∀ a, a < 0 → ∀ b, b < 0 → a ≠ b → (TJxb160c a).2.1 ≠ (TJxb160c b).2.1 := by decide +kernel
theorem tyJxb160c_ok : ∀ k, k < 0 → parseFieldDescriptor (TJxb160c k).2.2.1 = some (tyJxb160c k) := by decide +kernel
def RJ6 : String := "java/lang/Integer"
def TJ6 : u_T := fun k => match k with
  | _ => ("", "", "", false)
def tyJ6 : Nat → FieldType := fun k => match k with
  | _ => .int
abbrev wsJ60 : List Cond := u_ws RJ6 TJ6 0
theorem nmJ6 : ∀ a, a < 0 → ∀ b, b < 0 → a ≠ b → (TJ6 a).2.1 ≠ (TJ6 b).2.1 := by decide +kernel
theorem tyJ6_ok : ∀ k, k < 0 → parseFieldDescriptor (TJ6 k).2.2.1 = some (tyJ6 k) := by decide +kernel
abbrev cJ6_bitCount_0f7a4 : ByteArray := prog_14_method_49_code
def yJ6_bitCount_0f7a4 : MethodName := ⟨RJ6, "bitCount", "(I)I"⟩
def RJ9 : String := "java/lang/Math"
def TJ9 : u_T := fun k => match k with
  | _ => ("", "", "", false)
def tyJ9 : Nat → FieldType := fun k => match k with
  | _ => .int
abbrev wsJ90 : List Cond := u_ws RJ9 TJ9 0
theorem nmJ9 : ∀ a, a < 0 → ∀ b, b < 0 → a ≠ b → (TJ9 a).2.1 ≠ (TJ9 b).2.1 := by decide +kernel
theorem tyJ9_ok : ∀ k, k < 0 → parseFieldDescriptor (TJ9 k).2.2.1 = some (tyJ9 k) := by decide +kernel
abbrev cJ9_abs_0f7a4 : ByteArray := prog_15_method_59_code
def yJ9_abs_0f7a4 : MethodName := ⟨RJ9, "abs", "(I)I"⟩
abbrev cJ9_max_7cf53 : ByteArray := prog_15_method_65_code
def yJ9_max_7cf53 : MethodName := ⟨RJ9, "max", "(II)I"⟩
abbrev cJ9_min_7cf53 : ByteArray := prog_15_method_69_code
def yJ9_min_7cf53 : MethodName := ⟨RJ9, "min", "(II)I"⟩
def RJ0 : String := "java/lang/String"
def TJ0 : u_T := fun k => match k with
  | _ => ("", "", "", false)
def tyJ0 : Nat → FieldType := fun k => match k with
  | _ => .int
abbrev wsJ00 : List Cond := u_ws RJ0 TJ0 0
theorem nmJ0 : ∀ a, a < 0 → ∀ b, b < 0 → a ≠ b → (TJ0 a).2.1 ≠ (TJ0 b).2.1 := by decide +kernel
theorem tyJ0_ok : ∀ k, k < 0 → parseFieldDescriptor (TJ0 k).2.2.1 = some (tyJ0 k) := by decide +kernel
abbrev cJ0_length_8abf5 : ByteArray := prog_16_method_54_code
def yJ0_length_8abf5 : MethodName := ⟨RJ0, "length", "()I"⟩
abbrev cJ0_charAt_5068e : ByteArray := prog_16_method_56_code
def yJ0_charAt_5068e : MethodName := ⟨RJ0, "charAt", "(I)C"⟩
abbrev cJ0_coder_7d493 : ByteArray := prog_16_method_152_code
def yJ0_coder_7d493 : MethodName := ⟨RJ0, "coder", "()B"⟩
abbrev cJ0_isLatin1_aae02 : ByteArray := prog_16_method_154_code
def yJ0_isLatin1_aae02 : MethodName := ⟨RJ0, "isLatin1", "()Z"⟩
abbrev cJ0_checkIndex_df160 : ByteArray := prog_16_method_155_code
def yJ0_checkIndex_df160 : MethodName := ⟨RJ0, "checkIndex", "(II)V"⟩
def RJ1 : String := "java/lang/StringLatin1"
def TJ1 : u_T := fun k => match k with
  | _ => ("", "", "", false)
def tyJ1 : Nat → FieldType := fun k => match k with
  | _ => .int
abbrev wsJ10 : List Cond := u_ws RJ1 TJ1 0
theorem nmJ1 : ∀ a, a < 0 → ∀ b, b < 0 → a ≠ b → (TJ1 a).2.1 ≠ (TJ1 b).2.1 := by decide +kernel
theorem tyJ1_ok : ∀ k, k < 0 → parseFieldDescriptor (TJ1 k).2.2.1 = some (tyJ1 k) := by decide +kernel
abbrev cJ1_charAt_3b067 : ByteArray := prog_17_method_2_code
def yJ1_charAt_3b067 : MethodName := ⟨RJ1, "charAt", "([BI)C"⟩
def RJ2 : String := "java/lang/StringUTF16"
def TJ2 : u_T := fun k => match k with
  | _ => ("", "", "", false)
def tyJ2 : Nat → FieldType := fun k => match k with
  | _ => .int
abbrev wsJ20 : List Cond := u_ws RJ2 TJ2 0
theorem nmJ2 : ∀ a, a < 0 → ∀ b, b < 0 → a ≠ b → (TJ2 a).2.1 ≠ (TJ2 b).2.1 := by decide +kernel
theorem tyJ2_ok : ∀ k, k < 0 → parseFieldDescriptor (TJ2 k).2.2.1 = some (tyJ2 k) := by decide +kernel
abbrev cJ2_getChar_3b067 : ByteArray := prog_18_method_5_code
def yJ2_getChar_3b067 : MethodName := ⟨RJ2, "getChar", "([BI)C"⟩
abbrev cJ2_length_9d52b : ByteArray := prog_18_method_6_code
def yJ2_length_9d52b : MethodName := ⟨RJ2, "length", "([B)I"⟩
abbrev cJ2_charAt_3b067 : ByteArray := prog_18_method_83_code
def yJ2_charAt_3b067 : MethodName := ⟨RJ2, "charAt", "([BI)C"⟩
abbrev cJ2_checkIndex_2214a : ByteArray := prog_18_method_91_code
def yJ2_checkIndex_2214a : MethodName := ⟨RJ2, "checkIndex", "(I[B)V"⟩
def RJ10 : String := "java/lang/System"
def TJ10 : u_T := fun k => match k with
  | _ => ("", "", "", false)
def tyJ10 : Nat → FieldType := fun k => match k with
  | _ => .int
abbrev wsJ100 : List Cond := u_ws RJ10 TJ10 0
theorem nmJ10 : ∀ a, a < 0 → ∀ b, b < 0 → a ≠ b → (TJ10 a).2.1 ≠ (TJ10 b).2.1 := by decide +kernel
theorem tyJ10_ok : ∀ k, k < 0 → parseFieldDescriptor (TJ10 k).2.2.1 = some (tyJ10 k) := by decide +kernel
def RJxfd54e : String := "java/lang/constant/Constable"
def TJxfd54e : u_T := fun k => match k with
  | _ => ("", "", "", false)
def tyJxfd54e : Nat → FieldType := fun k => match k with
  | _ => .int
abbrev wsJxfd54e0 : List Cond := u_ws RJxfd54e TJxfd54e 0
theorem nmJxfd54e : ∀ a, a < 0 → ∀ b, b < 0 → a ≠ b → (TJxfd54e a).2.1 ≠ (TJxfd54e b).2.1 := by decide +kernel
theorem tyJxfd54e_ok : ∀ k, k < 0 → parseFieldDescriptor (TJxfd54e k).2.2.1 = some (tyJxfd54e k) := by decide +kernel
def RJx3cf43 : String := "java/lang/constant/ConstantDesc"
def TJx3cf43 : u_T := fun k => match k with
  | _ => ("", "", "", false)
def tyJx3cf43 : Nat → FieldType := fun k => match k with
  | _ => .int
abbrev wsJx3cf430 : List Cond := u_ws RJx3cf43 TJx3cf43 0
theorem nmJx3cf43 : ∀ a, a < 0 → ∀ b, b < 0 → a ≠ b → (TJx3cf43 a).2.1 ≠ (TJx3cf43 b).2.1 := by decide +kernel
theorem tyJx3cf43_ok : ∀ k, k < 0 → parseFieldDescriptor (TJx3cf43 k).2.2.1 = some (tyJx3cf43 k) := by decide +kernel
def RJ7 : String := "java/util/Arrays"
def TJ7 : u_T := fun k => match k with
  | _ => ("", "", "", false)
def tyJ7 : Nat → FieldType := fun k => match k with
  | _ => .int
abbrev wsJ70 : List Cond := u_ws RJ7 TJ7 0
theorem nmJ7 : ∀ a, a < 0 → ∀ b, b < 0 → a ≠ b → (TJ7 a).2.1 ≠ (TJ7 b).2.1 := by decide +kernel
theorem tyJ7_ok : ∀ k, k < 0 → parseFieldDescriptor (TJ7 k).2.2.1 = some (tyJ7 k) := by decide +kernel
abbrev cJ7_fill_d0a16 : ByteArray := prog_20_method_101_code
def yJ7_fill_d0a16 : MethodName := ⟨RJ7, "fill", "([JJ)V"⟩
abbrev cJ7_fill_53178 : ByteArray := prog_20_method_103_code
def yJ7_fill_53178 : MethodName := ⟨RJ7, "fill", "([II)V"⟩
def RJ3 : String := "jdk/internal/util/Preconditions"
def TJ3 : u_T := fun k => match k with
  | _ => ("", "", "", false)
def tyJ3 : Nat → FieldType := fun k => match k with
  | _ => .int
abbrev wsJ30 : List Cond := u_ws RJ3 TJ3 0
theorem nmJ3 : ∀ a, a < 0 → ∀ b, b < 0 → a ≠ b → (TJ3 a).2.1 ≠ (TJ3 b).2.1 := by decide +kernel
theorem tyJ3_ok : ∀ k, k < 0 → parseFieldDescriptor (TJ3 k).2.2.1 = some (tyJ3 k) := by decide +kernel
abbrev cJ3_checkIndex_8e157 : ByteArray := prog_21_method_11_code
def yJ3_checkIndex_8e157 : MethodName := ⟨RJ3, "checkIndex", "(IILjava/util/function/BiFunction;)I"⟩
def RL : String := "PowerRailsLaw"
abbrev cL_law : ByteArray := code
def yL_law : MethodName := ⟨RL, "law", "([I)Z"⟩
def wsX0_init : List Cond := .code yX0_init cX0_init 1 none :: ([.methodLink RX0 3 objectInit, .instanceMethod objectInit, .code objectInit ⟨#[0xb1]⟩ 1 none, .arrayClass .int, .fieldLink RX0 9 "PowerRails$Course" "waits" "[I", .fieldLink RX0 15 "PowerRails$Course" "takes" "[I", .fieldLink RX0 18 "PowerRails$Course" "risesAt" "[I", .fieldLink RX0 21 "PowerRails$Course" "goodAt" "[I", .fieldLink RX0 24 "PowerRails$Course" "changes" "[I"] ++ wsX00)
def wsX3_number : List Cond := .code yX3_number cX3_number 3 (some .int) :: ([.fieldLink RX3 11 "PowerRails$Plan" "numbers" "[I"] ++ wsX30)
def wsX0_setWaits : List Cond := .code yX0_setWaits cX0_setWaits 3 none :: ([.fieldLink RX0 27 "PowerRails$Plan" "rails" "I", .fieldLink RX0 9 "PowerRails$Course" "waits" "[I", .methodLink RX0 33 yX3_number, .instanceMethod yX3_number, .selects RX3 yX3_number yX3_number, .initialized RX3, .code yX3_number cX3_number 3 (some .int), .fieldLink RX3 11 "PowerRails$Plan" "numbers" "[I"] ++ wsX30 ++ wsX00)
def wsX0_setTakes : List Cond := .code yX0_setTakes cX0_setTakes 4 none :: ([.fieldLink RX0 27 "PowerRails$Plan" "rails" "I", .fieldLink RX0 15 "PowerRails$Course" "takes" "[I", .methodLink RX0 33 yX3_number, .instanceMethod yX3_number, .selects RX3 yX3_number yX3_number, .initialized RX3, .code yX3_number cX3_number 3 (some .int), .fieldLink RX3 11 "PowerRails$Plan" "numbers" "[I"] ++ wsX30 ++ wsX00)
def wsX0_copyTakes : List Cond := .code yX0_copyTakes cX0_copyTakes 2 none :: ([.fieldLink RX0 15 "PowerRails$Course" "takes" "[I", .methodLink RX0 37 arraycopyName, .native arraycopyName, .static arraycopyName, .initialized "java/lang/System"] ++ wsX00)
def wsX0_isUp : List Cond := .code yX0_isUp cX0_isUp 2 (some .boolean) :: ([.fieldLink RX0 43 "PowerRails$Course" "up" "I"] ++ wsX00)
def wsX3_holdsWith : List Cond := .code yX3_holdsWith cX3_holdsWith 3 (some .boolean) :: ([.fieldLink RX3 15 "PowerRails$Plan" "tables" "[J"] ++ wsX30)
def wsX0_begin : List Cond := .code yX0_begin cX0_begin 5 (some .int) :: ([.fieldLink RX0 27 "PowerRails$Plan" "rails" "I", .fieldLink RX0 43 "PowerRails$Course" "up" "I", .fieldLink RX0 18 "PowerRails$Course" "risesAt" "[I", .fieldLink RX0 46 "PowerRails$Course" "last" "I", .fieldLink RX0 9 "PowerRails$Course" "waits" "[I", .fieldLink RX0 21 "PowerRails$Course" "goodAt" "[I", .fieldLink RX0 15 "PowerRails$Course" "takes" "[I", .methodLink RX0 57 yX3_holdsWith, .instanceMethod yX3_holdsWith, .selects RX3 yX3_holdsWith yX3_holdsWith, .initialized RX3, .code yX3_holdsWith cX3_holdsWith 3 (some .boolean), .fieldLink RX3 15 "PowerRails$Plan" "tables" "[J"] ++ wsX30 ++ wsX00)
def wsX0_soonest : List Cond := .code yX0_soonest cX0_soonest 4 (some .int) :: ([.fieldLink RX0 21 "PowerRails$Course" "goodAt" "[I", .methodLink RX0 61 Lib.Math.min.name, .static Lib.Math.min.name, .initialized "java/lang/Math", .code Lib.Math.min.name Lib.Math.min.code 2 (some .int)] ++ wsX00)
def wsX0_follow_r1 : List Cond := [Cond.fieldLink RX0 43 "PowerRails$Course" "up" "I", Cond.fieldLink RX0 46 "PowerRails$Course" "last" "I", Cond.fieldLink RX0 21 "PowerRails$Course" "goodAt" "[I", Cond.methodLink RX0 49 yX0_begin, Cond.instanceMethod yX0_begin, Cond.selects RX0 yX0_begin yX0_begin, Cond.initialized RX0, Cond.code yX0_begin cX0_begin 5 (some .int), Cond.fieldLink RX0 27 "PowerRails$Plan" "rails" "I", Cond.fieldLink RX0 18 "PowerRails$Course" "risesAt" "[I", Cond.fieldLink RX0 9 "PowerRails$Course" "waits" "[I", Cond.fieldLink RX0 15 "PowerRails$Course" "takes" "[I", Cond.methodLink RX0 57 yX3_holdsWith, Cond.instanceMethod yX3_holdsWith, Cond.selects RX3 yX3_holdsWith yX3_holdsWith, Cond.initialized RX3, Cond.code yX3_holdsWith cX3_holdsWith 3 (some .boolean), Cond.fieldLink RX3 15 "PowerRails$Plan" "tables" "[J", Cond.methodLink RX0 53 yX0_soonest, Cond.instanceMethod yX0_soonest, Cond.selects RX0 yX0_soonest yX0_soonest, Cond.code yX0_soonest cX0_soonest 4 (some .int), Cond.methodLink RX0 61 Lib.Math.min.name, Cond.static Lib.Math.min.name]
def wsX0_follow_r2 : List Cond := [Cond.initialized "java/lang/Math", Cond.code Lib.Math.min.name Lib.Math.min.code 2 (some .int)]
def wsX0_follow : List Cond := .code yX0_follow cX0_follow 7 none :: ((wsX0_follow_r1 ++ wsX0_follow_r2) ++ wsX00 ++ wsX30)
def wsX0_drawnAt : List Cond := .code yX0_drawnAt cX0_drawnAt 5 (some .int) :: ([.fieldLink RX0 27 "PowerRails$Plan" "rails" "I", .fieldLink RX0 21 "PowerRails$Course" "goodAt" "[I", .fieldLink RX0 18 "PowerRails$Course" "risesAt" "[I", .methodLink RX0 66 yX0_isUp, .instanceMethod yX0_isUp, .selects RX0 yX0_isUp yX0_isUp, .initialized RX0, .code yX0_isUp cX0_isUp 2 (some .boolean), .fieldLink RX0 43 "PowerRails$Course" "up" "I", .methodLink RX0 33 yX3_number, .instanceMethod yX3_number, .selects RX3 yX3_number yX3_number, .initialized RX3, .code yX3_number cX3_number 3 (some .int), .fieldLink RX3 11 "PowerRails$Plan" "numbers" "[I"] ++ wsX30 ++ wsX00)
def wsX0_findPeak : List Cond := .code yX0_findPeak cX0_findPeak 4 none :: ([.fieldLink RX0 27 "PowerRails$Plan" "rails" "I", .fieldLink RX0 21 "PowerRails$Course" "goodAt" "[I", .fieldLink RX0 24 "PowerRails$Course" "changes" "[I", .fieldLink RX0 18 "PowerRails$Course" "risesAt" "[I", .fieldLink RX0 70 "PowerRails$Course" "peak" "I", .fieldLink RX0 73 "PowerRails$Course" "peakTick" "I", .fieldLink RX0 46 "PowerRails$Course" "last" "I", .methodLink RX0 66 yX0_isUp, .instanceMethod yX0_isUp, .selects RX0 yX0_isUp yX0_isUp, .initialized RX0, .code yX0_isUp cX0_isUp 2 (some .boolean), .fieldLink RX0 43 "PowerRails$Course" "up" "I", .methodLink RX0 33 yX3_number, .instanceMethod yX3_number, .selects RX3 yX3_number yX3_number, .initialized RX3, .code yX3_number cX3_number 3 (some .int), .fieldLink RX3 11 "PowerRails$Plan" "numbers" "[I"] ++ wsX30 ++ wsX00)
def wsX3_upAmong : List Cond := .code yX3_upAmong cX3_upAmong 6 (some .int) :: ([.fieldLink RX3 19 "PowerRails$Plan" "rails" "I", .methodLink RX3 38 yX3_holdsWith, .instanceMethod yX3_holdsWith, .selects RX3 yX3_holdsWith yX3_holdsWith, .initialized RX3, .code yX3_holdsWith cX3_holdsWith 3 (some .boolean), .fieldLink RX3 15 "PowerRails$Plan" "tables" "[J"] ++ wsX30)
def wsX1_isUpAmong : List Cond := .code yX1_isUpAmong cX1_isUpAmong 3 (some .boolean) :: ([.methodLink RX1 9 yX3_upAmong, .instanceMethod yX3_upAmong, .selects RX3 yX3_upAmong yX3_upAmong, .initialized RX3, .code yX3_upAmong cX3_upAmong 6 (some .int), .fieldLink RX3 19 "PowerRails$Plan" "rails" "I", .methodLink RX3 38 yX3_holdsWith, .instanceMethod yX3_holdsWith, .selects RX3 yX3_holdsWith yX3_holdsWith, .code yX3_holdsWith cX3_holdsWith 3 (some .boolean), .fieldLink RX3 15 "PowerRails$Plan" "tables" "[J"] ++ wsX30)
def wsX3_allRails : List Cond := .code yX3_allRails cX3_allRails 1 (some .int) :: ([.fieldLink RX3 19 "PowerRails$Plan" "rails" "I"] ++ wsX30)
def wsJ6_bitCount_0f7a4 : List Cond := .code yJ6_bitCount_0f7a4 cJ6_bitCount_0f7a4 1 (some .int) :: ([.constant RJ6 265 (1431655765), .constant RJ6 266 (858993459), .constant RJ6 267 (252645135)])
def wsX1_fewestThatCut_r1 : List Cond := [Cond.methodLink RX1 15 yX3_allRails, Cond.instanceMethod yX3_allRails, Cond.selects RX3 yX3_allRails yX3_allRails, Cond.initialized RX3, Cond.code yX3_allRails cX3_allRails 1 (some .int), Cond.fieldLink RX3 19 "PowerRails$Plan" "rails" "I", Cond.methodLink RX1 19 yJ6_bitCount_0f7a4, Cond.static yJ6_bitCount_0f7a4, Cond.initialized RJ6, Cond.code yJ6_bitCount_0f7a4 cJ6_bitCount_0f7a4 1 (some .int), Cond.constant RJ6 265 (1431655765), Cond.constant RJ6 266 (858993459), Cond.constant RJ6 267 (252645135), Cond.methodLink RX1 24 yX1_isUpAmong, Cond.static yX1_isUpAmong, Cond.initialized RX1, Cond.code yX1_isUpAmong cX1_isUpAmong 3 (some .boolean), Cond.methodLink RX1 9 yX3_upAmong, Cond.instanceMethod yX3_upAmong, Cond.selects RX3 yX3_upAmong yX3_upAmong, Cond.code yX3_upAmong cX3_upAmong 6 (some .int), Cond.methodLink RX3 38 yX3_holdsWith, Cond.instanceMethod yX3_holdsWith, Cond.selects RX3 yX3_holdsWith yX3_holdsWith]
def wsX1_fewestThatCut_r2 : List Cond := [Cond.code yX3_holdsWith cX3_holdsWith 3 (some .boolean), Cond.fieldLink RX3 15 "PowerRails$Plan" "tables" "[J"]
def wsX1_fewestThatCut : List Cond := .code yX1_fewestThatCut cX1_fewestThatCut 7 (some .int) :: ((wsX1_fewestThatCut_r1 ++ wsX1_fewestThatCut_r2) ++ wsX30)
def wsX1_fewestThatDo_r1 : List Cond := [Cond.methodLink RX1 15 yX3_allRails, Cond.instanceMethod yX3_allRails, Cond.selects RX3 yX3_allRails yX3_allRails, Cond.initialized RX3, Cond.code yX3_allRails cX3_allRails 1 (some .int), Cond.fieldLink RX3 19 "PowerRails$Plan" "rails" "I", Cond.methodLink RX1 19 yJ6_bitCount_0f7a4, Cond.static yJ6_bitCount_0f7a4, Cond.initialized RJ6, Cond.code yJ6_bitCount_0f7a4 cJ6_bitCount_0f7a4 1 (some .int), Cond.constant RJ6 265 (1431655765), Cond.constant RJ6 266 (858993459), Cond.constant RJ6 267 (252645135), Cond.methodLink RX1 24 yX1_isUpAmong, Cond.static yX1_isUpAmong, Cond.initialized RX1, Cond.code yX1_isUpAmong cX1_isUpAmong 3 (some .boolean), Cond.methodLink RX1 9 yX3_upAmong, Cond.instanceMethod yX3_upAmong, Cond.selects RX3 yX3_upAmong yX3_upAmong, Cond.code yX3_upAmong cX3_upAmong 6 (some .int), Cond.methodLink RX3 38 yX3_holdsWith, Cond.instanceMethod yX3_holdsWith, Cond.selects RX3 yX3_holdsWith yX3_holdsWith]
def wsX1_fewestThatDo_r2 : List Cond := [Cond.code yX3_holdsWith cX3_holdsWith 3 (some .boolean), Cond.fieldLink RX3 15 "PowerRails$Plan" "tables" "[J"]
def wsX1_fewestThatDo : List Cond := .code yX1_fewestThatDo cX1_fewestThatDo 6 (some .int) :: ((wsX1_fewestThatDo_r1 ++ wsX1_fewestThatDo_r2) ++ wsX30)
def wsX1_neverWithout : List Cond := .code yX1_neverWithout cX1_neverWithout 5 (some .int) :: ([.fieldLink RX1 30 "PowerRails$Plan" "rails" "I", .methodLink RX1 24 yX1_isUpAmong, .static yX1_isUpAmong, .initialized RX1, .code yX1_isUpAmong cX1_isUpAmong 3 (some .boolean), .methodLink RX1 9 yX3_upAmong, .instanceMethod yX3_upAmong, .selects RX3 yX3_upAmong yX3_upAmong, .initialized RX3, .code yX3_upAmong cX3_upAmong 6 (some .int), .fieldLink RX3 19 "PowerRails$Plan" "rails" "I", .methodLink RX3 38 yX3_holdsWith, .instanceMethod yX3_holdsWith, .selects RX3 yX3_holdsWith yX3_holdsWith, .code yX3_holdsWith cX3_holdsWith 3 (some .boolean), .fieldLink RX3 15 "PowerRails$Plan" "tables" "[J"] ++ wsX30)
def wsX1_thatExplain : List Cond := .code yX1_thatExplain cX1_thatExplain 5 (some .int) :: ([.fieldLink RX1 30 "PowerRails$Plan" "rails" "I", .methodLink RX1 15 yX3_allRails, .instanceMethod yX3_allRails, .selects RX3 yX3_allRails yX3_allRails, .initialized RX3, .code yX3_allRails cX3_allRails 1 (some .int), .fieldLink RX3 19 "PowerRails$Plan" "rails" "I", .methodLink RX1 9 yX3_upAmong, .instanceMethod yX3_upAmong, .selects RX3 yX3_upAmong yX3_upAmong, .code yX3_upAmong cX3_upAmong 6 (some .int), .methodLink RX3 38 yX3_holdsWith, .instanceMethod yX3_holdsWith, .selects RX3 yX3_holdsWith yX3_holdsWith, .code yX3_holdsWith cX3_holdsWith 3 (some .boolean), .fieldLink RX3 15 "PowerRails$Plan" "tables" "[J"] ++ wsX30)
def wsX2_init : List Cond := .code yX2_init cX2_init 1 none :: ([.methodLink RX2 1 objectInit, .instanceMethod objectInit, .code objectInit ⟨#[0xb1]⟩ 1 none, .arrayClass .int, .fieldLink RX2 9 "PowerRails$History" "ticks" "[I", .fieldLink RX2 13 "PowerRails$History" "who" "[I", .fieldLink RX2 16 "PowerRails$History" "became" "[I", .fieldLink RX2 19 "PowerRails$History" "size" "I"] ++ wsX20)
def wsX2_note : List Cond := .code yX2_note cX2_note 4 none :: ([.fieldLink RX2 19 "PowerRails$History" "size" "I", .fieldLink RX2 9 "PowerRails$History" "ticks" "[I", .fieldLink RX2 13 "PowerRails$History" "who" "[I", .fieldLink RX2 16 "PowerRails$History" "became" "[I"] ++ wsX20)
def wsX3_init : List Cond := .code yX3_init cX3_init 1 none :: ([.methodLink RX3 3 objectInit, .instanceMethod objectInit, .code objectInit ⟨#[0xb1]⟩ 1 none, .arrayClass .int, .fieldLink RX3 11 "PowerRails$Plan" "numbers" "[I", .arrayClass .long, .fieldLink RX3 15 "PowerRails$Plan" "tables" "[J", .fieldLink RX3 19 "PowerRails$Plan" "rails" "I", .fieldLink RX3 23 "PowerRails$Plan" "limit" "I", .fieldLink RX3 26 "PowerRails$Plan" "retry" "I", .fieldLink RX3 29 "PowerRails$Plan" "behind" "I"] ++ wsX30)
def wsX3_reset : List Cond := .code yX3_reset cX3_reset 1 none :: ([.fieldLink RX3 19 "PowerRails$Plan" "rails" "I", .fieldLink RX3 23 "PowerRails$Plan" "limit" "I", .fieldLink RX3 26 "PowerRails$Plan" "retry" "I", .fieldLink RX3 29 "PowerRails$Plan" "behind" "I"] ++ wsX30)
def wsX3_setNumber : List Cond := .code yX3_setNumber cX3_setNumber 4 none :: ([.fieldLink RX3 11 "PowerRails$Plan" "numbers" "[I"] ++ wsX30)
def wsX3_addRail : List Cond := .code yX3_addRail cX3_addRail 2 none :: ([.fieldLink RX3 19 "PowerRails$Plan" "rails" "I", .fieldLink RX3 15 "PowerRails$Plan" "tables" "[J", .constantLong RX3 36 (-1), .methodLink RX3 32 yX3_setNumber, .instanceMethod yX3_setNumber, .selects RX3 yX3_setNumber yX3_setNumber, .initialized RX3, .code yX3_setNumber cX3_setNumber 4 none, .fieldLink RX3 11 "PowerRails$Plan" "numbers" "[I"] ++ wsX30)
def wsX3_hasRail : List Cond := .code yX3_hasRail cX3_hasRail 2 (some .boolean) :: ([.fieldLink RX3 19 "PowerRails$Plan" "rails" "I"] ++ wsX30)
def wsX3_setWaits : List Cond := .code yX3_setWaits cX3_setWaits 3 none :: ([.fieldLink RX3 19 "PowerRails$Plan" "rails" "I", .methodLink RX3 32 yX3_setNumber, .instanceMethod yX3_setNumber, .selects RX3 yX3_setNumber yX3_setNumber, .initialized RX3, .code yX3_setNumber cX3_setNumber 4 none, .fieldLink RX3 11 "PowerRails$Plan" "numbers" "[I"] ++ wsX30)
def wsX3_isLeastSet : List Cond := .code yX3_isLeastSet cX3_isLeastSet 4 (some .boolean) :: ([.methodLink RX3 38 yX3_holdsWith, .instanceMethod yX3_holdsWith, .selects RX3 yX3_holdsWith yX3_holdsWith, .initialized RX3, .code yX3_holdsWith cX3_holdsWith 3 (some .boolean), .fieldLink RX3 15 "PowerRails$Plan" "tables" "[J"] ++ wsX30)
def wsX3_countLeastSets : List Cond := .code yX3_countLeastSets cX3_countLeastSets 4 (some .int) :: ([.methodLink RX3 42 yX3_isLeastSet, .instanceMethod yX3_isLeastSet, .selects RX3 yX3_isLeastSet yX3_isLeastSet, .initialized RX3, .code yX3_isLeastSet cX3_isLeastSet 4 (some .boolean), .methodLink RX3 38 yX3_holdsWith, .instanceMethod yX3_holdsWith, .selects RX3 yX3_holdsWith yX3_holdsWith, .code yX3_holdsWith cX3_holdsWith 3 (some .boolean), .fieldLink RX3 15 "PowerRails$Plan" "tables" "[J"] ++ wsX30)
def wsX3_leastSet : List Cond := .code yX3_leastSet cX3_leastSet 5 (some .int) :: ([.methodLink RX3 42 yX3_isLeastSet, .instanceMethod yX3_isLeastSet, .selects RX3 yX3_isLeastSet yX3_isLeastSet, .initialized RX3, .code yX3_isLeastSet cX3_isLeastSet 4 (some .boolean), .methodLink RX3 38 yX3_holdsWith, .instanceMethod yX3_holdsWith, .selects RX3 yX3_holdsWith yX3_holdsWith, .code yX3_holdsWith cX3_holdsWith 3 (some .boolean), .fieldLink RX3 15 "PowerRails$Plan" "tables" "[J"] ++ wsX30)
def wsX3_countWays : List Cond := .code yX3_countWays cX3_countWays 3 (some .int) :: ([.fieldLink RX3 19 "PowerRails$Plan" "rails" "I", .methodLink RX3 45 yX3_number, .instanceMethod yX3_number, .selects RX3 yX3_number yX3_number, .initialized RX3, .code yX3_number cX3_number 3 (some .int), .fieldLink RX3 11 "PowerRails$Plan" "numbers" "[I"] ++ wsX30)
def wsX3_sourcesOf : List Cond := .code yX3_sourcesOf cX3_sourcesOf 5 (some .int) :: ([.fieldLink RX3 19 "PowerRails$Plan" "rails" "I", .methodLink RX3 45 yX3_number, .instanceMethod yX3_number, .selects RX3 yX3_number yX3_number, .initialized RX3, .code yX3_number cX3_number 3 (some .int), .fieldLink RX3 11 "PowerRails$Plan" "numbers" "[I", .methodLink RX3 49 yX3_allRails, .instanceMethod yX3_allRails, .selects RX3 yX3_allRails yX3_allRails, .code yX3_allRails cX3_allRails 1 (some .int)] ++ wsX30)
def wsX4_init : List Cond := .code yX4_init cX4_init 3 none :: ([.methodLink RX4 3 objectInit, .instanceMethod objectInit, .code objectInit ⟨#[0xb1]⟩ 1 none, .fieldLink RX4 9 "PowerRails$Reader" "tape" "LPowerRails$Tape;", .fieldLink RX4 15 "PowerRails$Reader" "plan" "LPowerRails$Plan;", .arrayClass .int, .fieldLink RX4 19 "PowerRails$Reader" "firstUse" "[I", .classLink RX4 25 "[[J", .arrayClass .long, .fieldLink RX4 27 "PowerRails$Reader" "any" "[[J", .fieldLink RX4 30 "PowerRails$Reader" "all" "[[J"] ++ wsX40)
def wsJ7_fill_53178 : List Cond := .code yJ7_fill_53178 cJ7_fill_53178 4 none :: ([])
def wsX4_skipWithin : List Cond := .code yX4_skipWithin cX4_skipWithin 3 none :: ([.fieldLink RX4 36 "PowerRails$Reader" "place" "I", .fieldLink RX4 9 "PowerRails$Reader" "tape" "LPowerRails$Tape;", .fieldLink RX4 82 "PowerRails$Tape" "length" "I", .fieldLink RX4 85 "PowerRails$Tape" "bytes" "[I"] ++ wsX40 ++ wsX80)
def wsX4_refuse : List Cond := .code yX4_refuse cX4_refuse 3 none :: ([.fieldLink RX4 43 "PowerRails$Reader" "fault" "I", .fieldLink RX4 46 "PowerRails$Reader" "faultPlace" "I"] ++ wsX40)
def wsX4_valueNumber : List Cond := .code yX4_valueNumber cX4_valueNumber 2 none :: ([.fieldLink RX4 36 "PowerRails$Reader" "place" "I", .fieldLink RX4 88 "PowerRails$Reader" "from" "I", .fieldLink RX4 91 "PowerRails$Reader" "value" "I", .fieldLink RX4 9 "PowerRails$Reader" "tape" "LPowerRails$Tape;", .fieldLink RX4 85 "PowerRails$Tape" "bytes" "[I", .methodLink RX4 101 yX4_refuse, .instanceMethod yX4_refuse, .selects RX4 yX4_refuse yX4_refuse, .initialized RX4, .code yX4_refuse cX4_refuse 3 none, .fieldLink RX4 43 "PowerRails$Reader" "fault" "I", .fieldLink RX4 46 "PowerRails$Reader" "faultPlace" "I"] ++ wsX40 ++ wsX80)
def wsX4_step : List Cond := .code yX4_step cX4_step 2 none :: ([.fieldLink RX4 36 "PowerRails$Reader" "place" "I", .fieldLink RX4 9 "PowerRails$Reader" "tape" "LPowerRails$Tape;", .fieldLink RX4 82 "PowerRails$Tape" "length" "I", .fieldLink RX4 85 "PowerRails$Tape" "bytes" "[I", .fieldLink RX4 88 "PowerRails$Reader" "from" "I", .fieldLink RX4 91 "PowerRails$Reader" "value" "I", .fieldLink RX4 60 "PowerRails$Reader" "kind" "I", .methodLink RX4 94 yX4_skipWithin, .instanceMethod yX4_skipWithin, .selects RX4 yX4_skipWithin yX4_skipWithin, .initialized RX4, .code yX4_skipWithin cX4_skipWithin 3 none, .methodLink RX4 98 yX4_valueNumber, .instanceMethod yX4_valueNumber, .selects RX4 yX4_valueNumber yX4_valueNumber, .code yX4_valueNumber cX4_valueNumber 2 none, .methodLink RX4 101 yX4_refuse, .instanceMethod yX4_refuse, .selects RX4 yX4_refuse yX4_refuse, .code yX4_refuse cX4_refuse 3 none, .fieldLink RX4 43 "PowerRails$Reader" "fault" "I", .fieldLink RX4 46 "PowerRails$Reader" "faultPlace" "I"] ++ wsX40 ++ wsX80)
def wsJ0_coder_7d493 : List Cond := .code yJ0_coder_7d493 cJ0_coder_7d493 1 (some .byte) :: ([.fieldLink RJ0 38 "java/lang/String" "COMPACT_STRINGS" "Z", .fieldLink RJ0 15 "java/lang/String" "coder" "B"])
def wsJ0_length_8abf5 : List Cond := .code yJ0_length_8abf5 cJ0_length_8abf5 1 (some .int) :: ([.fieldLink RJ0 9 "java/lang/String" "value" "[B", .methodLink RJ0 335 yJ0_coder_7d493, .instanceMethod yJ0_coder_7d493, .selects RJ0 yJ0_coder_7d493 yJ0_coder_7d493, .initialized RJ0, .code yJ0_coder_7d493 cJ0_coder_7d493 1 (some .byte), .fieldLink RJ0 38 "java/lang/String" "COMPACT_STRINGS" "Z", .fieldLink RJ0 15 "java/lang/String" "coder" "B"])
def wsJ0_isLatin1_aae02 : List Cond := .code yJ0_isLatin1_aae02 cJ0_isLatin1_aae02 1 (some .boolean) :: ([.fieldLink RJ0 38 "java/lang/String" "COMPACT_STRINGS" "Z", .fieldLink RJ0 15 "java/lang/String" "coder" "B"])
def wsJ3_checkIndex_8e157 : List Cond := .code yJ3_checkIndex_8e157 cJ3_checkIndex_8e157 3 (some .int) :: ([])
def wsJ0_checkIndex_df160 : List Cond := .code yJ0_checkIndex_df160 cJ0_checkIndex_df160 2 none :: ([.fieldLink RJ0 1053 "jdk/internal/util/Preconditions" "SIOOBE_FORMATTER" "Ljava/util/function/BiFunction;", .methodLink RJ0 1059 yJ3_checkIndex_8e157, .static yJ3_checkIndex_8e157, .initialized RJ3, .code yJ3_checkIndex_8e157 cJ3_checkIndex_8e157 3 (some .int)])
def wsJ1_charAt_3b067 : List Cond := .code yJ1_charAt_3b067 cJ1_charAt_3b067 2 (some .char) :: ([.methodLink RJ1 9 yJ0_checkIndex_df160, .static yJ0_checkIndex_df160, .initialized RJ0, .code yJ0_checkIndex_df160 cJ0_checkIndex_df160 2 none, .fieldLink RJ0 1053 "jdk/internal/util/Preconditions" "SIOOBE_FORMATTER" "Ljava/util/function/BiFunction;", .methodLink RJ0 1059 yJ3_checkIndex_8e157, .static yJ3_checkIndex_8e157, .initialized RJ3, .code yJ3_checkIndex_8e157 cJ3_checkIndex_8e157 3 (some .int)])
def wsJ2_length_9d52b : List Cond := .code yJ2_length_9d52b cJ2_length_9d52b 1 (some .int) :: ([])
def wsJ2_checkIndex_2214a : List Cond := .code yJ2_checkIndex_2214a cJ2_checkIndex_2214a 2 none :: ([.methodLink RJ2 48 yJ2_length_9d52b, .static yJ2_length_9d52b, .initialized RJ2, .code yJ2_length_9d52b cJ2_length_9d52b 1 (some .int), .methodLink RJ2 414 yJ0_checkIndex_df160, .static yJ0_checkIndex_df160, .initialized RJ0, .code yJ0_checkIndex_df160 cJ0_checkIndex_df160 2 none, .fieldLink RJ0 1053 "jdk/internal/util/Preconditions" "SIOOBE_FORMATTER" "Ljava/util/function/BiFunction;", .methodLink RJ0 1059 yJ3_checkIndex_8e157, .static yJ3_checkIndex_8e157, .initialized RJ3, .code yJ3_checkIndex_8e157 cJ3_checkIndex_8e157 3 (some .int)])
def wsJ2_getChar_3b067 : List Cond := .code yJ2_getChar_3b067 cJ2_getChar_3b067 2 (some .char) :: ([.fieldLink RJ2 44 "java/lang/StringUTF16" "$assertionsDisabled" "Z", .fieldLink RJ2 59 "java/lang/StringUTF16" "HI_BYTE_SHIFT" "I", .fieldLink RJ2 63 "java/lang/StringUTF16" "LO_BYTE_SHIFT" "I", .methodLink RJ2 48 yJ2_length_9d52b, .static yJ2_length_9d52b, .initialized RJ2, .code yJ2_length_9d52b cJ2_length_9d52b 1 (some .int)])
def wsJ2_charAt_3b067 : List Cond := .code yJ2_charAt_3b067 cJ2_charAt_3b067 2 (some .char) :: ([.methodLink RJ2 67 yJ2_checkIndex_2214a, .static yJ2_checkIndex_2214a, .initialized RJ2, .code yJ2_checkIndex_2214a cJ2_checkIndex_2214a 2 none, .methodLink RJ2 48 yJ2_length_9d52b, .static yJ2_length_9d52b, .code yJ2_length_9d52b cJ2_length_9d52b 1 (some .int), .methodLink RJ2 414 yJ0_checkIndex_df160, .static yJ0_checkIndex_df160, .initialized RJ0, .code yJ0_checkIndex_df160 cJ0_checkIndex_df160 2 none, .fieldLink RJ0 1053 "jdk/internal/util/Preconditions" "SIOOBE_FORMATTER" "Ljava/util/function/BiFunction;", .methodLink RJ0 1059 yJ3_checkIndex_8e157, .static yJ3_checkIndex_8e157, .initialized RJ3, .code yJ3_checkIndex_8e157 cJ3_checkIndex_8e157 3 (some .int), .methodLink RJ2 71 yJ2_getChar_3b067, .static yJ2_getChar_3b067, .code yJ2_getChar_3b067 cJ2_getChar_3b067 2 (some .char), .fieldLink RJ2 44 "java/lang/StringUTF16" "$assertionsDisabled" "Z", .fieldLink RJ2 59 "java/lang/StringUTF16" "HI_BYTE_SHIFT" "I", .fieldLink RJ2 63 "java/lang/StringUTF16" "LO_BYTE_SHIFT" "I"])
def wsJ0_charAt_5068e_r1 : List Cond := [Cond.fieldLink RJ0 9 "java/lang/String" "value" "[B", Cond.methodLink RJ0 492 yJ0_isLatin1_aae02, Cond.instanceMethod yJ0_isLatin1_aae02, Cond.selects RJ0 yJ0_isLatin1_aae02 yJ0_isLatin1_aae02, Cond.initialized RJ0, Cond.code yJ0_isLatin1_aae02 cJ0_isLatin1_aae02 1 (some .boolean), Cond.fieldLink RJ0 38 "java/lang/String" "COMPACT_STRINGS" "Z", Cond.fieldLink RJ0 15 "java/lang/String" "coder" "B", Cond.methodLink RJ0 495 yJ1_charAt_3b067, Cond.static yJ1_charAt_3b067, Cond.initialized RJ1, Cond.code yJ1_charAt_3b067 cJ1_charAt_3b067 2 (some .char), Cond.methodLink RJ1 9 yJ0_checkIndex_df160, Cond.static yJ0_checkIndex_df160, Cond.code yJ0_checkIndex_df160 cJ0_checkIndex_df160 2 none, Cond.fieldLink RJ0 1053 "jdk/internal/util/Preconditions" "SIOOBE_FORMATTER" "Ljava/util/function/BiFunction;", Cond.methodLink RJ0 1059 yJ3_checkIndex_8e157, Cond.static yJ3_checkIndex_8e157, Cond.initialized RJ3, Cond.code yJ3_checkIndex_8e157 cJ3_checkIndex_8e157 3 (some .int), Cond.methodLink RJ0 498 yJ2_charAt_3b067, Cond.static yJ2_charAt_3b067, Cond.initialized RJ2, Cond.code yJ2_charAt_3b067 cJ2_charAt_3b067 2 (some .char)]
def wsJ0_charAt_5068e_r2 : List Cond := [Cond.methodLink RJ2 67 yJ2_checkIndex_2214a, Cond.static yJ2_checkIndex_2214a, Cond.code yJ2_checkIndex_2214a cJ2_checkIndex_2214a 2 none, Cond.methodLink RJ2 48 yJ2_length_9d52b, Cond.static yJ2_length_9d52b, Cond.code yJ2_length_9d52b cJ2_length_9d52b 1 (some .int), Cond.methodLink RJ2 414 yJ0_checkIndex_df160, Cond.methodLink RJ2 71 yJ2_getChar_3b067, Cond.static yJ2_getChar_3b067, Cond.code yJ2_getChar_3b067 cJ2_getChar_3b067 2 (some .char), Cond.fieldLink RJ2 44 "java/lang/StringUTF16" "$assertionsDisabled" "Z", Cond.fieldLink RJ2 59 "java/lang/StringUTF16" "HI_BYTE_SHIFT" "I", Cond.fieldLink RJ2 63 "java/lang/StringUTF16" "LO_BYTE_SHIFT" "I"]
def wsJ0_charAt_5068e : List Cond := .code yJ0_charAt_5068e cJ0_charAt_5068e 2 (some .char) :: ((wsJ0_charAt_5068e_r1 ++ wsJ0_charAt_5068e_r2))
def wsX4_isWord_r1 : List Cond := [Cond.fieldLink RX4 60 "PowerRails$Reader" "kind" "I", Cond.fieldLink RX4 36 "PowerRails$Reader" "place" "I", Cond.fieldLink RX4 88 "PowerRails$Reader" "from" "I", Cond.fieldLink RX4 9 "PowerRails$Reader" "tape" "LPowerRails$Tape;", Cond.fieldLink RX4 85 "PowerRails$Tape" "bytes" "[I", Cond.methodLink RX4 104 yJ0_length_8abf5, Cond.instanceMethod yJ0_length_8abf5, Cond.selects RJ0 yJ0_length_8abf5 yJ0_length_8abf5, Cond.initialized RJ0, Cond.code yJ0_length_8abf5 cJ0_length_8abf5 1 (some .int), Cond.fieldLink RJ0 9 "java/lang/String" "value" "[B", Cond.methodLink RJ0 335 yJ0_coder_7d493, Cond.instanceMethod yJ0_coder_7d493, Cond.selects RJ0 yJ0_coder_7d493 yJ0_coder_7d493, Cond.code yJ0_coder_7d493 cJ0_coder_7d493 1 (some .byte), Cond.fieldLink RJ0 38 "java/lang/String" "COMPACT_STRINGS" "Z", Cond.fieldLink RJ0 15 "java/lang/String" "coder" "B", Cond.methodLink RX4 109 yJ0_charAt_5068e, Cond.instanceMethod yJ0_charAt_5068e, Cond.selects RJ0 yJ0_charAt_5068e yJ0_charAt_5068e, Cond.code yJ0_charAt_5068e cJ0_charAt_5068e 2 (some .char), Cond.methodLink RJ0 492 yJ0_isLatin1_aae02, Cond.instanceMethod yJ0_isLatin1_aae02, Cond.selects RJ0 yJ0_isLatin1_aae02 yJ0_isLatin1_aae02]
def wsX4_isWord_r2 : List Cond := [Cond.code yJ0_isLatin1_aae02 cJ0_isLatin1_aae02 1 (some .boolean), Cond.methodLink RJ0 495 yJ1_charAt_3b067, Cond.static yJ1_charAt_3b067, Cond.initialized RJ1, Cond.code yJ1_charAt_3b067 cJ1_charAt_3b067 2 (some .char), Cond.methodLink RJ1 9 yJ0_checkIndex_df160, Cond.static yJ0_checkIndex_df160, Cond.code yJ0_checkIndex_df160 cJ0_checkIndex_df160 2 none, Cond.fieldLink RJ0 1053 "jdk/internal/util/Preconditions" "SIOOBE_FORMATTER" "Ljava/util/function/BiFunction;", Cond.methodLink RJ0 1059 yJ3_checkIndex_8e157, Cond.static yJ3_checkIndex_8e157, Cond.initialized RJ3, Cond.code yJ3_checkIndex_8e157 cJ3_checkIndex_8e157 3 (some .int), Cond.methodLink RJ0 498 yJ2_charAt_3b067, Cond.static yJ2_charAt_3b067, Cond.initialized RJ2, Cond.code yJ2_charAt_3b067 cJ2_charAt_3b067 2 (some .char), Cond.methodLink RJ2 67 yJ2_checkIndex_2214a, Cond.static yJ2_checkIndex_2214a, Cond.code yJ2_checkIndex_2214a cJ2_checkIndex_2214a 2 none, Cond.methodLink RJ2 48 yJ2_length_9d52b, Cond.static yJ2_length_9d52b, Cond.code yJ2_length_9d52b cJ2_length_9d52b 1 (some .int), Cond.methodLink RJ2 414 yJ0_checkIndex_df160]
def wsX4_isWord_r3 : List Cond := [Cond.methodLink RJ2 71 yJ2_getChar_3b067, Cond.static yJ2_getChar_3b067, Cond.code yJ2_getChar_3b067 cJ2_getChar_3b067 2 (some .char), Cond.fieldLink RJ2 44 "java/lang/StringUTF16" "$assertionsDisabled" "Z", Cond.fieldLink RJ2 59 "java/lang/StringUTF16" "HI_BYTE_SHIFT" "I", Cond.fieldLink RJ2 63 "java/lang/StringUTF16" "LO_BYTE_SHIFT" "I"]
def wsX4_isWord : List Cond := .code yX4_isWord cX4_isWord 3 (some .boolean) :: ((wsX4_isWord_r1 ++ (wsX4_isWord_r2 ++ wsX4_isWord_r3)) ++ wsX40 ++ wsX80)
def wsX4_railNamed : List Cond := .code yX4_railNamed cX4_railNamed 2 (some .int) :: ([.fieldLink RX4 36 "PowerRails$Reader" "place" "I", .fieldLink RX4 88 "PowerRails$Reader" "from" "I", .fieldLink RX4 9 "PowerRails$Reader" "tape" "LPowerRails$Tape;", .fieldLink RX4 85 "PowerRails$Tape" "bytes" "[I"] ++ wsX40 ++ wsX80)
def wsX4_takeTurn_r1 : List Cond := [Cond.fieldLink RX4 43 "PowerRails$Reader" "fault" "I", Cond.fieldLink RX4 60 "PowerRails$Reader" "kind" "I", Cond.fieldLink RX4 88 "PowerRails$Reader" "from" "I", Cond.methodLink RX4 101 yX4_refuse, Cond.instanceMethod yX4_refuse, Cond.selects RX4 yX4_refuse yX4_refuse, Cond.initialized RX4, Cond.code yX4_refuse cX4_refuse 3 none, Cond.fieldLink RX4 46 "PowerRails$Reader" "faultPlace" "I", Cond.methodLink RX4 117 yX4_railNamed, Cond.instanceMethod yX4_railNamed, Cond.selects RX4 yX4_railNamed yX4_railNamed, Cond.code yX4_railNamed cX4_railNamed 2 (some .int), Cond.fieldLink RX4 36 "PowerRails$Reader" "place" "I", Cond.fieldLink RX4 9 "PowerRails$Reader" "tape" "LPowerRails$Tape;", Cond.fieldLink RX4 85 "PowerRails$Tape" "bytes" "[I", Cond.methodLink RX4 55 yX4_step, Cond.instanceMethod yX4_step, Cond.selects RX4 yX4_step yX4_step, Cond.code yX4_step cX4_step 2 none, Cond.fieldLink RX4 82 "PowerRails$Tape" "length" "I", Cond.fieldLink RX4 91 "PowerRails$Reader" "value" "I", Cond.methodLink RX4 94 yX4_skipWithin, Cond.instanceMethod yX4_skipWithin]
def wsX4_takeTurn_r2 : List Cond := [Cond.selects RX4 yX4_skipWithin yX4_skipWithin, Cond.code yX4_skipWithin cX4_skipWithin 3 none, Cond.methodLink RX4 98 yX4_valueNumber, Cond.instanceMethod yX4_valueNumber, Cond.selects RX4 yX4_valueNumber yX4_valueNumber, Cond.code yX4_valueNumber cX4_valueNumber 2 none]
def wsX4_takeTurn : List Cond := .code yX4_takeTurn cX4_takeTurn 2 none :: ((wsX4_takeTurn_r1 ++ wsX4_takeTurn_r2) ++ wsX40 ++ wsX80)
def wsX4_takeNumber_r1 : List Cond := [Cond.fieldLink RX4 43 "PowerRails$Reader" "fault" "I", Cond.fieldLink RX4 60 "PowerRails$Reader" "kind" "I", Cond.fieldLink RX4 88 "PowerRails$Reader" "from" "I", Cond.fieldLink RX4 91 "PowerRails$Reader" "value" "I", Cond.methodLink RX4 101 yX4_refuse, Cond.instanceMethod yX4_refuse, Cond.selects RX4 yX4_refuse yX4_refuse, Cond.initialized RX4, Cond.code yX4_refuse cX4_refuse 3 none, Cond.fieldLink RX4 46 "PowerRails$Reader" "faultPlace" "I", Cond.methodLink RX4 55 yX4_step, Cond.instanceMethod yX4_step, Cond.selects RX4 yX4_step yX4_step, Cond.code yX4_step cX4_step 2 none, Cond.fieldLink RX4 36 "PowerRails$Reader" "place" "I", Cond.fieldLink RX4 9 "PowerRails$Reader" "tape" "LPowerRails$Tape;", Cond.fieldLink RX4 82 "PowerRails$Tape" "length" "I", Cond.fieldLink RX4 85 "PowerRails$Tape" "bytes" "[I", Cond.methodLink RX4 94 yX4_skipWithin, Cond.instanceMethod yX4_skipWithin, Cond.selects RX4 yX4_skipWithin yX4_skipWithin, Cond.code yX4_skipWithin cX4_skipWithin 3 none, Cond.methodLink RX4 98 yX4_valueNumber, Cond.instanceMethod yX4_valueNumber]
def wsX4_takeNumber_r2 : List Cond := [Cond.selects RX4 yX4_valueNumber yX4_valueNumber, Cond.code yX4_valueNumber cX4_valueNumber 2 none]
def wsX4_takeNumber : List Cond := .code yX4_takeNumber cX4_takeNumber 4 (some .int) :: ((wsX4_takeNumber_r1 ++ wsX4_takeNumber_r2) ++ wsX40 ++ wsX80)
def wsX4_takeOnce_r1 : List Cond := [Cond.fieldLink RX4 40 "PowerRails$Reader" "told" "I", Cond.fieldLink RX4 88 "PowerRails$Reader" "from" "I", Cond.methodLink RX4 101 yX4_refuse, Cond.instanceMethod yX4_refuse, Cond.selects RX4 yX4_refuse yX4_refuse, Cond.initialized RX4, Cond.code yX4_refuse cX4_refuse 3 none, Cond.fieldLink RX4 43 "PowerRails$Reader" "fault" "I", Cond.fieldLink RX4 46 "PowerRails$Reader" "faultPlace" "I", Cond.methodLink RX4 55 yX4_step, Cond.instanceMethod yX4_step, Cond.selects RX4 yX4_step yX4_step, Cond.code yX4_step cX4_step 2 none, Cond.fieldLink RX4 36 "PowerRails$Reader" "place" "I", Cond.fieldLink RX4 9 "PowerRails$Reader" "tape" "LPowerRails$Tape;", Cond.fieldLink RX4 82 "PowerRails$Tape" "length" "I", Cond.fieldLink RX4 85 "PowerRails$Tape" "bytes" "[I", Cond.fieldLink RX4 91 "PowerRails$Reader" "value" "I", Cond.fieldLink RX4 60 "PowerRails$Reader" "kind" "I", Cond.methodLink RX4 94 yX4_skipWithin, Cond.instanceMethod yX4_skipWithin, Cond.selects RX4 yX4_skipWithin yX4_skipWithin, Cond.code yX4_skipWithin cX4_skipWithin 3 none, Cond.methodLink RX4 98 yX4_valueNumber]
def wsX4_takeOnce_r2 : List Cond := [Cond.instanceMethod yX4_valueNumber, Cond.selects RX4 yX4_valueNumber yX4_valueNumber, Cond.code yX4_valueNumber cX4_valueNumber 2 none]
def wsX4_takeOnce : List Cond := .code yX4_takeOnce cX4_takeOnce 2 none :: ((wsX4_takeOnce_r1 ++ wsX4_takeOnce_r2) ++ wsX40 ++ wsX80)
def wsX4_readWith_r1 : List Cond := [Cond.fieldLink RX4 15 "PowerRails$Reader" "plan" "LPowerRails$Plan;", Cond.fieldLink RX4 88 "PowerRails$Reader" "from" "I", Cond.methodLink RX4 65 yX4_isWord, Cond.instanceMethod yX4_isWord, Cond.selects RX4 yX4_isWord yX4_isWord, Cond.initialized RX4, Cond.code yX4_isWord cX4_isWord 3 (some .boolean), Cond.fieldLink RX4 60 "PowerRails$Reader" "kind" "I", Cond.fieldLink RX4 36 "PowerRails$Reader" "place" "I", Cond.fieldLink RX4 9 "PowerRails$Reader" "tape" "LPowerRails$Tape;", Cond.fieldLink RX4 85 "PowerRails$Tape" "bytes" "[I", Cond.methodLink RX4 104 yJ0_length_8abf5, Cond.instanceMethod yJ0_length_8abf5, Cond.selects RJ0 yJ0_length_8abf5 yJ0_length_8abf5, Cond.initialized RJ0, Cond.code yJ0_length_8abf5 cJ0_length_8abf5 1 (some .int), Cond.fieldLink RJ0 9 "java/lang/String" "value" "[B", Cond.methodLink RJ0 335 yJ0_coder_7d493, Cond.instanceMethod yJ0_coder_7d493, Cond.selects RJ0 yJ0_coder_7d493 yJ0_coder_7d493, Cond.code yJ0_coder_7d493 cJ0_coder_7d493 1 (some .byte), Cond.fieldLink RJ0 38 "java/lang/String" "COMPACT_STRINGS" "Z", Cond.fieldLink RJ0 15 "java/lang/String" "coder" "B", Cond.methodLink RX4 109 yJ0_charAt_5068e]
def wsX4_readWith_r2 : List Cond := [Cond.instanceMethod yJ0_charAt_5068e, Cond.selects RJ0 yJ0_charAt_5068e yJ0_charAt_5068e, Cond.code yJ0_charAt_5068e cJ0_charAt_5068e 2 (some .char), Cond.methodLink RJ0 492 yJ0_isLatin1_aae02, Cond.instanceMethod yJ0_isLatin1_aae02, Cond.selects RJ0 yJ0_isLatin1_aae02 yJ0_isLatin1_aae02, Cond.code yJ0_isLatin1_aae02 cJ0_isLatin1_aae02 1 (some .boolean), Cond.methodLink RJ0 495 yJ1_charAt_3b067, Cond.static yJ1_charAt_3b067, Cond.initialized RJ1, Cond.code yJ1_charAt_3b067 cJ1_charAt_3b067 2 (some .char), Cond.methodLink RJ1 9 yJ0_checkIndex_df160, Cond.static yJ0_checkIndex_df160, Cond.code yJ0_checkIndex_df160 cJ0_checkIndex_df160 2 none, Cond.fieldLink RJ0 1053 "jdk/internal/util/Preconditions" "SIOOBE_FORMATTER" "Ljava/util/function/BiFunction;", Cond.methodLink RJ0 1059 yJ3_checkIndex_8e157, Cond.static yJ3_checkIndex_8e157, Cond.initialized RJ3, Cond.code yJ3_checkIndex_8e157 cJ3_checkIndex_8e157 3 (some .int), Cond.methodLink RJ0 498 yJ2_charAt_3b067, Cond.static yJ2_charAt_3b067, Cond.initialized RJ2, Cond.code yJ2_charAt_3b067 cJ2_charAt_3b067 2 (some .char), Cond.methodLink RJ2 67 yJ2_checkIndex_2214a]
def wsX4_readWith_r3 : List Cond := [Cond.static yJ2_checkIndex_2214a, Cond.code yJ2_checkIndex_2214a cJ2_checkIndex_2214a 2 none, Cond.methodLink RJ2 48 yJ2_length_9d52b, Cond.static yJ2_length_9d52b, Cond.code yJ2_length_9d52b cJ2_length_9d52b 1 (some .int), Cond.methodLink RJ2 414 yJ0_checkIndex_df160, Cond.methodLink RJ2 71 yJ2_getChar_3b067, Cond.static yJ2_getChar_3b067, Cond.code yJ2_getChar_3b067 cJ2_getChar_3b067 2 (some .char), Cond.fieldLink RJ2 44 "java/lang/StringUTF16" "$assertionsDisabled" "Z", Cond.fieldLink RJ2 59 "java/lang/StringUTF16" "HI_BYTE_SHIFT" "I", Cond.fieldLink RJ2 63 "java/lang/StringUTF16" "LO_BYTE_SHIFT" "I", Cond.methodLink RX4 122 yX4_takeOnce, Cond.instanceMethod yX4_takeOnce, Cond.selects RX4 yX4_takeOnce yX4_takeOnce, Cond.code yX4_takeOnce cX4_takeOnce 2 none, Cond.fieldLink RX4 40 "PowerRails$Reader" "told" "I", Cond.methodLink RX4 101 yX4_refuse, Cond.instanceMethod yX4_refuse, Cond.selects RX4 yX4_refuse yX4_refuse, Cond.code yX4_refuse cX4_refuse 3 none, Cond.fieldLink RX4 43 "PowerRails$Reader" "fault" "I", Cond.fieldLink RX4 46 "PowerRails$Reader" "faultPlace" "I", Cond.methodLink RX4 55 yX4_step]
def wsX4_readWith_r4 : List Cond := [Cond.instanceMethod yX4_step, Cond.selects RX4 yX4_step yX4_step, Cond.code yX4_step cX4_step 2 none, Cond.fieldLink RX4 82 "PowerRails$Tape" "length" "I", Cond.fieldLink RX4 91 "PowerRails$Reader" "value" "I", Cond.methodLink RX4 94 yX4_skipWithin, Cond.instanceMethod yX4_skipWithin, Cond.selects RX4 yX4_skipWithin yX4_skipWithin, Cond.code yX4_skipWithin cX4_skipWithin 3 none, Cond.methodLink RX4 98 yX4_valueNumber, Cond.instanceMethod yX4_valueNumber, Cond.selects RX4 yX4_valueNumber yX4_valueNumber, Cond.code yX4_valueNumber cX4_valueNumber 2 none, Cond.methodLink RX4 125 yX4_takeNumber, Cond.instanceMethod yX4_takeNumber, Cond.selects RX4 yX4_takeNumber yX4_takeNumber, Cond.code yX4_takeNumber cX4_takeNumber 4 (some .int), Cond.methodLink RX4 147 yX3_setNumber, Cond.instanceMethod yX3_setNumber, Cond.selects RX3 yX3_setNumber yX3_setNumber, Cond.initialized RX3, Cond.code yX3_setNumber cX3_setNumber 4 none, Cond.fieldLink RX3 11 "PowerRails$Plan" "numbers" "[I"]
def wsX4_readWith : List Cond := .code yX4_readWith cX4_readWith 2 none :: ((wsX4_readWith_r1 ++ (wsX4_readWith_r2 ++ (wsX4_readWith_r3 ++ wsX4_readWith_r4))) ++ wsX40 ++ wsX80 ++ wsX30)
def wsJ7_fill_d0a16 : List Cond := .code yJ7_fill_d0a16 cJ7_fill_d0a16 5 none :: ([])
def wsX4_openDepth : List Cond := .code yX4_openDepth cX4_openDepth 2 none :: ([.fieldLink RX4 176 "PowerRails$Reader" "depth" "I", .fieldLink RX4 27 "PowerRails$Reader" "any" "[[J", .fieldLink RX4 30 "PowerRails$Reader" "all" "[[J", .constantLong RX4 203 (-1), .methodLink RX4 200 yJ7_fill_d0a16, .static yJ7_fill_d0a16, .initialized RJ7, .code yJ7_fill_d0a16 cJ7_fill_d0a16 5 none] ++ wsX40)
def wsX4_isSign : List Cond := .code yX4_isSign cX4_isSign 2 (some .boolean) :: ([.fieldLink RX4 60 "PowerRails$Reader" "kind" "I", .fieldLink RX4 91 "PowerRails$Reader" "value" "I"] ++ wsX40)
def wsX4_joinPart : List Cond := .code yX4_joinPart cX4_joinPart 4 none :: ([.fieldLink RX4 15 "PowerRails$Reader" "plan" "LPowerRails$Plan;", .fieldLink RX4 208 "PowerRails$Reader" "IN_WORD" "[J", .fieldLink RX4 30 "PowerRails$Reader" "all" "[[J", .fieldLink RX4 176 "PowerRails$Reader" "depth" "I", .methodLink RX4 205 yX3_number, .instanceMethod yX3_number, .selects RX3 yX3_number yX3_number, .initialized RX3, .code yX3_number cX3_number 3 (some .int), .fieldLink RX3 11 "PowerRails$Plan" "numbers" "[I", .methodLink RX4 147 yX3_setNumber, .instanceMethod yX3_setNumber, .selects RX3 yX3_setNumber yX3_setNumber, .code yX3_setNumber cX3_setNumber 4 none] ++ wsX40 ++ wsX30)
def wsX4_noteUse : List Cond := .code yX4_noteUse cX4_noteUse 2 none :: ([.fieldLink RX4 19 "PowerRails$Reader" "firstUse" "[I", .fieldLink RX4 88 "PowerRails$Reader" "from" "I"] ++ wsX40)
def wsX4_takeUnit_r1 : List Cond := [Cond.fieldLink RX4 176 "PowerRails$Reader" "depth" "I", Cond.fieldLink RX4 88 "PowerRails$Reader" "from" "I", Cond.fieldLink RX4 60 "PowerRails$Reader" "kind" "I", Cond.methodLink RX4 113 yX4_isSign, Cond.instanceMethod yX4_isSign, Cond.selects RX4 yX4_isSign yX4_isSign, Cond.initialized RX4, Cond.code yX4_isSign cX4_isSign 2 (some .boolean), Cond.fieldLink RX4 91 "PowerRails$Reader" "value" "I", Cond.methodLink RX4 101 yX4_refuse, Cond.instanceMethod yX4_refuse, Cond.selects RX4 yX4_refuse yX4_refuse, Cond.code yX4_refuse cX4_refuse 3 none, Cond.fieldLink RX4 43 "PowerRails$Reader" "fault" "I", Cond.fieldLink RX4 46 "PowerRails$Reader" "faultPlace" "I", Cond.methodLink RX4 167 yX4_openDepth, Cond.instanceMethod yX4_openDepth, Cond.selects RX4 yX4_openDepth yX4_openDepth, Cond.code yX4_openDepth cX4_openDepth 2 none, Cond.fieldLink RX4 27 "PowerRails$Reader" "any" "[[J", Cond.fieldLink RX4 30 "PowerRails$Reader" "all" "[[J", Cond.constantLong RX4 203 (-1), Cond.methodLink RX4 200 yJ7_fill_d0a16, Cond.static yJ7_fill_d0a16]
def wsX4_takeUnit_r2 : List Cond := [Cond.initialized RJ7, Cond.code yJ7_fill_d0a16 cJ7_fill_d0a16 5 none, Cond.methodLink RX4 55 yX4_step, Cond.instanceMethod yX4_step, Cond.selects RX4 yX4_step yX4_step, Cond.code yX4_step cX4_step 2 none, Cond.fieldLink RX4 36 "PowerRails$Reader" "place" "I", Cond.fieldLink RX4 9 "PowerRails$Reader" "tape" "LPowerRails$Tape;", Cond.fieldLink RX4 82 "PowerRails$Tape" "length" "I", Cond.fieldLink RX4 85 "PowerRails$Tape" "bytes" "[I", Cond.methodLink RX4 94 yX4_skipWithin, Cond.instanceMethod yX4_skipWithin, Cond.selects RX4 yX4_skipWithin yX4_skipWithin, Cond.code yX4_skipWithin cX4_skipWithin 3 none, Cond.methodLink RX4 98 yX4_valueNumber, Cond.instanceMethod yX4_valueNumber, Cond.selects RX4 yX4_valueNumber yX4_valueNumber, Cond.code yX4_valueNumber cX4_valueNumber 2 none, Cond.methodLink RX4 65 yX4_isWord, Cond.instanceMethod yX4_isWord, Cond.selects RX4 yX4_isWord yX4_isWord, Cond.code yX4_isWord cX4_isWord 3 (some .boolean), Cond.methodLink RX4 104 yJ0_length_8abf5, Cond.instanceMethod yJ0_length_8abf5]
def wsX4_takeUnit_r3 : List Cond := [Cond.selects RJ0 yJ0_length_8abf5 yJ0_length_8abf5, Cond.initialized RJ0, Cond.code yJ0_length_8abf5 cJ0_length_8abf5 1 (some .int), Cond.fieldLink RJ0 9 "java/lang/String" "value" "[B", Cond.methodLink RJ0 335 yJ0_coder_7d493, Cond.instanceMethod yJ0_coder_7d493, Cond.selects RJ0 yJ0_coder_7d493 yJ0_coder_7d493, Cond.code yJ0_coder_7d493 cJ0_coder_7d493 1 (some .byte), Cond.fieldLink RJ0 38 "java/lang/String" "COMPACT_STRINGS" "Z", Cond.fieldLink RJ0 15 "java/lang/String" "coder" "B", Cond.methodLink RX4 109 yJ0_charAt_5068e, Cond.instanceMethod yJ0_charAt_5068e, Cond.selects RJ0 yJ0_charAt_5068e yJ0_charAt_5068e, Cond.code yJ0_charAt_5068e cJ0_charAt_5068e 2 (some .char), Cond.methodLink RJ0 492 yJ0_isLatin1_aae02, Cond.instanceMethod yJ0_isLatin1_aae02, Cond.selects RJ0 yJ0_isLatin1_aae02 yJ0_isLatin1_aae02, Cond.code yJ0_isLatin1_aae02 cJ0_isLatin1_aae02 1 (some .boolean), Cond.methodLink RJ0 495 yJ1_charAt_3b067, Cond.static yJ1_charAt_3b067, Cond.initialized RJ1, Cond.code yJ1_charAt_3b067 cJ1_charAt_3b067 2 (some .char), Cond.methodLink RJ1 9 yJ0_checkIndex_df160, Cond.static yJ0_checkIndex_df160]
def wsX4_takeUnit_r4 : List Cond := [Cond.code yJ0_checkIndex_df160 cJ0_checkIndex_df160 2 none, Cond.fieldLink RJ0 1053 "jdk/internal/util/Preconditions" "SIOOBE_FORMATTER" "Ljava/util/function/BiFunction;", Cond.methodLink RJ0 1059 yJ3_checkIndex_8e157, Cond.static yJ3_checkIndex_8e157, Cond.initialized RJ3, Cond.code yJ3_checkIndex_8e157 cJ3_checkIndex_8e157 3 (some .int), Cond.methodLink RJ0 498 yJ2_charAt_3b067, Cond.static yJ2_charAt_3b067, Cond.initialized RJ2, Cond.code yJ2_charAt_3b067 cJ2_charAt_3b067 2 (some .char), Cond.methodLink RJ2 67 yJ2_checkIndex_2214a, Cond.static yJ2_checkIndex_2214a, Cond.code yJ2_checkIndex_2214a cJ2_checkIndex_2214a 2 none, Cond.methodLink RJ2 48 yJ2_length_9d52b, Cond.static yJ2_length_9d52b, Cond.code yJ2_length_9d52b cJ2_length_9d52b 1 (some .int), Cond.methodLink RJ2 414 yJ0_checkIndex_df160, Cond.methodLink RJ2 71 yJ2_getChar_3b067, Cond.static yJ2_getChar_3b067, Cond.code yJ2_getChar_3b067 cJ2_getChar_3b067 2 (some .char), Cond.fieldLink RJ2 44 "java/lang/StringUTF16" "$assertionsDisabled" "Z", Cond.fieldLink RJ2 59 "java/lang/StringUTF16" "HI_BYTE_SHIFT" "I", Cond.fieldLink RJ2 63 "java/lang/StringUTF16" "LO_BYTE_SHIFT" "I", Cond.methodLink RX4 194 yX4_joinPart]
def wsX4_takeUnit_r5 : List Cond := [Cond.instanceMethod yX4_joinPart, Cond.selects RX4 yX4_joinPart yX4_joinPart, Cond.code yX4_joinPart cX4_joinPart 4 none, Cond.fieldLink RX4 15 "PowerRails$Reader" "plan" "LPowerRails$Plan;", Cond.fieldLink RX4 208 "PowerRails$Reader" "IN_WORD" "[J", Cond.methodLink RX4 205 yX3_number, Cond.instanceMethod yX3_number, Cond.selects RX3 yX3_number yX3_number, Cond.initialized RX3, Cond.code yX3_number cX3_number 3 (some .int), Cond.fieldLink RX3 11 "PowerRails$Plan" "numbers" "[I", Cond.methodLink RX4 147 yX3_setNumber, Cond.instanceMethod yX3_setNumber, Cond.selects RX3 yX3_setNumber yX3_setNumber, Cond.code yX3_setNumber cX3_setNumber 4 none, Cond.methodLink RX4 117 yX4_railNamed, Cond.instanceMethod yX4_railNamed, Cond.selects RX4 yX4_railNamed yX4_railNamed, Cond.code yX4_railNamed cX4_railNamed 2 (some .int), Cond.methodLink RX4 197 yX4_noteUse, Cond.instanceMethod yX4_noteUse, Cond.selects RX4 yX4_noteUse yX4_noteUse, Cond.code yX4_noteUse cX4_noteUse 2 none, Cond.fieldLink RX4 19 "PowerRails$Reader" "firstUse" "[I"]
def wsX4_takeUnit : List Cond := .code yX4_takeUnit cX4_takeUnit 2 (some .boolean) :: ((wsX4_takeUnit_r1 ++ (wsX4_takeUnit_r2 ++ (wsX4_takeUnit_r3 ++ (wsX4_takeUnit_r4 ++ wsX4_takeUnit_r5)))) ++ wsX40 ++ wsX80 ++ wsX30)
def wsX4_joinAny : List Cond := .code yX4_joinAny cX4_joinAny 2 none :: ([.fieldLink RX4 27 "PowerRails$Reader" "any" "[[J", .fieldLink RX4 176 "PowerRails$Reader" "depth" "I", .fieldLink RX4 30 "PowerRails$Reader" "all" "[[J", .constantLong RX4 203 (-1)] ++ wsX40)
def wsX4_closeDepth : List Cond := .code yX4_closeDepth cX4_closeDepth 2 none :: ([.fieldLink RX4 30 "PowerRails$Reader" "all" "[[J", .fieldLink RX4 176 "PowerRails$Reader" "depth" "I", .fieldLink RX4 27 "PowerRails$Reader" "any" "[[J", .methodLink RX4 173 yX4_joinAny, .instanceMethod yX4_joinAny, .selects RX4 yX4_joinAny yX4_joinAny, .initialized RX4, .code yX4_joinAny cX4_joinAny 2 none, .constantLong RX4 203 (-1)] ++ wsX40)
def wsX4_readFormula_r1 : List Cond := [Cond.fieldLink RX4 43 "PowerRails$Reader" "fault" "I", Cond.fieldLink RX4 176 "PowerRails$Reader" "depth" "I", Cond.fieldLink RX4 88 "PowerRails$Reader" "from" "I", Cond.fieldLink RX4 27 "PowerRails$Reader" "any" "[[J", Cond.fieldLink RX4 15 "PowerRails$Reader" "plan" "LPowerRails$Plan;", Cond.fieldLink RX4 182 "PowerRails$Plan" "tables" "[J", Cond.methodLink RX4 186 arraycopyName, Cond.native arraycopyName, Cond.static arraycopyName, Cond.initialized "java/lang/System", Cond.methodLink RX4 167 yX4_openDepth, Cond.instanceMethod yX4_openDepth, Cond.selects RX4 yX4_openDepth yX4_openDepth, Cond.initialized RX4, Cond.code yX4_openDepth cX4_openDepth 2 none, Cond.fieldLink RX4 30 "PowerRails$Reader" "all" "[[J", Cond.constantLong RX4 203 (-1), Cond.methodLink RX4 200 yJ7_fill_d0a16, Cond.static yJ7_fill_d0a16, Cond.initialized RJ7, Cond.code yJ7_fill_d0a16 cJ7_fill_d0a16 5 none, Cond.methodLink RX4 170 yX4_takeUnit, Cond.instanceMethod yX4_takeUnit, Cond.selects RX4 yX4_takeUnit yX4_takeUnit]
def wsX4_readFormula_r2 : List Cond := [Cond.code yX4_takeUnit cX4_takeUnit 2 (some .boolean), Cond.fieldLink RX4 60 "PowerRails$Reader" "kind" "I", Cond.methodLink RX4 113 yX4_isSign, Cond.instanceMethod yX4_isSign, Cond.selects RX4 yX4_isSign yX4_isSign, Cond.code yX4_isSign cX4_isSign 2 (some .boolean), Cond.fieldLink RX4 91 "PowerRails$Reader" "value" "I", Cond.methodLink RX4 101 yX4_refuse, Cond.instanceMethod yX4_refuse, Cond.selects RX4 yX4_refuse yX4_refuse, Cond.code yX4_refuse cX4_refuse 3 none, Cond.fieldLink RX4 46 "PowerRails$Reader" "faultPlace" "I", Cond.methodLink RX4 55 yX4_step, Cond.instanceMethod yX4_step, Cond.selects RX4 yX4_step yX4_step, Cond.code yX4_step cX4_step 2 none, Cond.fieldLink RX4 36 "PowerRails$Reader" "place" "I", Cond.fieldLink RX4 9 "PowerRails$Reader" "tape" "LPowerRails$Tape;", Cond.fieldLink RX4 82 "PowerRails$Tape" "length" "I", Cond.fieldLink RX4 85 "PowerRails$Tape" "bytes" "[I", Cond.methodLink RX4 94 yX4_skipWithin, Cond.instanceMethod yX4_skipWithin, Cond.selects RX4 yX4_skipWithin yX4_skipWithin, Cond.code yX4_skipWithin cX4_skipWithin 3 none]
def wsX4_readFormula_r3 : List Cond := [Cond.methodLink RX4 98 yX4_valueNumber, Cond.instanceMethod yX4_valueNumber, Cond.selects RX4 yX4_valueNumber yX4_valueNumber, Cond.code yX4_valueNumber cX4_valueNumber 2 none, Cond.methodLink RX4 65 yX4_isWord, Cond.instanceMethod yX4_isWord, Cond.selects RX4 yX4_isWord yX4_isWord, Cond.code yX4_isWord cX4_isWord 3 (some .boolean), Cond.methodLink RX4 104 yJ0_length_8abf5, Cond.instanceMethod yJ0_length_8abf5, Cond.selects RJ0 yJ0_length_8abf5 yJ0_length_8abf5, Cond.initialized RJ0, Cond.code yJ0_length_8abf5 cJ0_length_8abf5 1 (some .int), Cond.fieldLink RJ0 9 "java/lang/String" "value" "[B", Cond.methodLink RJ0 335 yJ0_coder_7d493, Cond.instanceMethod yJ0_coder_7d493, Cond.selects RJ0 yJ0_coder_7d493 yJ0_coder_7d493, Cond.code yJ0_coder_7d493 cJ0_coder_7d493 1 (some .byte), Cond.fieldLink RJ0 38 "java/lang/String" "COMPACT_STRINGS" "Z", Cond.fieldLink RJ0 15 "java/lang/String" "coder" "B", Cond.methodLink RX4 109 yJ0_charAt_5068e, Cond.instanceMethod yJ0_charAt_5068e, Cond.selects RJ0 yJ0_charAt_5068e yJ0_charAt_5068e, Cond.code yJ0_charAt_5068e cJ0_charAt_5068e 2 (some .char)]
def wsX4_readFormula_r4 : List Cond := [Cond.methodLink RJ0 492 yJ0_isLatin1_aae02, Cond.instanceMethod yJ0_isLatin1_aae02, Cond.selects RJ0 yJ0_isLatin1_aae02 yJ0_isLatin1_aae02, Cond.code yJ0_isLatin1_aae02 cJ0_isLatin1_aae02 1 (some .boolean), Cond.methodLink RJ0 495 yJ1_charAt_3b067, Cond.static yJ1_charAt_3b067, Cond.initialized RJ1, Cond.code yJ1_charAt_3b067 cJ1_charAt_3b067 2 (some .char), Cond.methodLink RJ1 9 yJ0_checkIndex_df160, Cond.static yJ0_checkIndex_df160, Cond.code yJ0_checkIndex_df160 cJ0_checkIndex_df160 2 none, Cond.fieldLink RJ0 1053 "jdk/internal/util/Preconditions" "SIOOBE_FORMATTER" "Ljava/util/function/BiFunction;", Cond.methodLink RJ0 1059 yJ3_checkIndex_8e157, Cond.static yJ3_checkIndex_8e157, Cond.initialized RJ3, Cond.code yJ3_checkIndex_8e157 cJ3_checkIndex_8e157 3 (some .int), Cond.methodLink RJ0 498 yJ2_charAt_3b067, Cond.static yJ2_charAt_3b067, Cond.initialized RJ2, Cond.code yJ2_charAt_3b067 cJ2_charAt_3b067 2 (some .char), Cond.methodLink RJ2 67 yJ2_checkIndex_2214a, Cond.static yJ2_checkIndex_2214a, Cond.code yJ2_checkIndex_2214a cJ2_checkIndex_2214a 2 none, Cond.methodLink RJ2 48 yJ2_length_9d52b]
def wsX4_readFormula_r5 : List Cond := [Cond.static yJ2_length_9d52b, Cond.code yJ2_length_9d52b cJ2_length_9d52b 1 (some .int), Cond.methodLink RJ2 414 yJ0_checkIndex_df160, Cond.methodLink RJ2 71 yJ2_getChar_3b067, Cond.static yJ2_getChar_3b067, Cond.code yJ2_getChar_3b067 cJ2_getChar_3b067 2 (some .char), Cond.fieldLink RJ2 44 "java/lang/StringUTF16" "$assertionsDisabled" "Z", Cond.fieldLink RJ2 59 "java/lang/StringUTF16" "HI_BYTE_SHIFT" "I", Cond.fieldLink RJ2 63 "java/lang/StringUTF16" "LO_BYTE_SHIFT" "I", Cond.methodLink RX4 194 yX4_joinPart, Cond.instanceMethod yX4_joinPart, Cond.selects RX4 yX4_joinPart yX4_joinPart, Cond.code yX4_joinPart cX4_joinPart 4 none, Cond.fieldLink RX4 208 "PowerRails$Reader" "IN_WORD" "[J", Cond.methodLink RX4 205 yX3_number, Cond.instanceMethod yX3_number, Cond.selects RX3 yX3_number yX3_number, Cond.initialized RX3, Cond.code yX3_number cX3_number 3 (some .int), Cond.fieldLink RX3 11 "PowerRails$Plan" "numbers" "[I", Cond.methodLink RX4 147 yX3_setNumber, Cond.instanceMethod yX3_setNumber, Cond.selects RX3 yX3_setNumber yX3_setNumber, Cond.code yX3_setNumber cX3_setNumber 4 none]
def wsX4_readFormula_r6 : List Cond := [Cond.methodLink RX4 117 yX4_railNamed, Cond.instanceMethod yX4_railNamed, Cond.selects RX4 yX4_railNamed yX4_railNamed, Cond.code yX4_railNamed cX4_railNamed 2 (some .int), Cond.methodLink RX4 197 yX4_noteUse, Cond.instanceMethod yX4_noteUse, Cond.selects RX4 yX4_noteUse yX4_noteUse, Cond.code yX4_noteUse cX4_noteUse 2 none, Cond.fieldLink RX4 19 "PowerRails$Reader" "firstUse" "[I", Cond.methodLink RX4 173 yX4_joinAny, Cond.instanceMethod yX4_joinAny, Cond.selects RX4 yX4_joinAny yX4_joinAny, Cond.code yX4_joinAny cX4_joinAny 2 none, Cond.methodLink RX4 179 yX4_closeDepth, Cond.instanceMethod yX4_closeDepth, Cond.selects RX4 yX4_closeDepth yX4_closeDepth, Cond.code yX4_closeDepth cX4_closeDepth 2 none]
def wsX4_readFormula : List Cond := .code yX4_readFormula cX4_readFormula 5 none :: ((wsX4_readFormula_r1 ++ (wsX4_readFormula_r2 ++ (wsX4_readFormula_r3 ++ (wsX4_readFormula_r4 ++ (wsX4_readFormula_r5 ++ wsX4_readFormula_r6))))) ++ wsX40 ++ wsX30 ++ wsX80)
def wsX4_readRail_r1 : List Cond := [Cond.fieldLink RX4 15 "PowerRails$Reader" "plan" "LPowerRails$Plan;", Cond.fieldLink RX4 138 "PowerRails$Plan" "rails" "I", Cond.fieldLink RX4 88 "PowerRails$Reader" "from" "I", Cond.fieldLink RX4 40 "PowerRails$Reader" "told" "I", Cond.fieldLink RX4 43 "PowerRails$Reader" "fault" "I", Cond.fieldLink RX4 60 "PowerRails$Reader" "kind" "I", Cond.methodLink RX4 101 yX4_refuse, Cond.instanceMethod yX4_refuse, Cond.selects RX4 yX4_refuse yX4_refuse, Cond.initialized RX4, Cond.code yX4_refuse cX4_refuse 3 none, Cond.fieldLink RX4 46 "PowerRails$Reader" "faultPlace" "I", Cond.methodLink RX4 141 yX3_addRail, Cond.instanceMethod yX3_addRail, Cond.selects RX3 yX3_addRail yX3_addRail, Cond.initialized RX3, Cond.code yX3_addRail cX3_addRail 2 none, Cond.fieldLink RX3 19 "PowerRails$Plan" "rails" "I", Cond.fieldLink RX3 15 "PowerRails$Plan" "tables" "[J", Cond.constantLong RX3 36 (-1), Cond.methodLink RX3 32 yX3_setNumber, Cond.instanceMethod yX3_setNumber, Cond.selects RX3 yX3_setNumber yX3_setNumber, Cond.code yX3_setNumber cX3_setNumber 4 none]
def wsX4_readRail_r2 : List Cond := [Cond.fieldLink RX3 11 "PowerRails$Plan" "numbers" "[I", Cond.methodLink RX4 55 yX4_step, Cond.instanceMethod yX4_step, Cond.selects RX4 yX4_step yX4_step, Cond.code yX4_step cX4_step 2 none, Cond.fieldLink RX4 36 "PowerRails$Reader" "place" "I", Cond.fieldLink RX4 9 "PowerRails$Reader" "tape" "LPowerRails$Tape;", Cond.fieldLink RX4 82 "PowerRails$Tape" "length" "I", Cond.fieldLink RX4 85 "PowerRails$Tape" "bytes" "[I", Cond.fieldLink RX4 91 "PowerRails$Reader" "value" "I", Cond.methodLink RX4 94 yX4_skipWithin, Cond.instanceMethod yX4_skipWithin, Cond.selects RX4 yX4_skipWithin yX4_skipWithin, Cond.code yX4_skipWithin cX4_skipWithin 3 none, Cond.methodLink RX4 98 yX4_valueNumber, Cond.instanceMethod yX4_valueNumber, Cond.selects RX4 yX4_valueNumber yX4_valueNumber, Cond.code yX4_valueNumber cX4_valueNumber 2 none, Cond.methodLink RX4 144 yX4_takeTurn, Cond.instanceMethod yX4_takeTurn, Cond.selects RX4 yX4_takeTurn yX4_takeTurn, Cond.code yX4_takeTurn cX4_takeTurn 2 none, Cond.methodLink RX4 117 yX4_railNamed, Cond.instanceMethod yX4_railNamed]
def wsX4_readRail_r3 : List Cond := [Cond.selects RX4 yX4_railNamed yX4_railNamed, Cond.code yX4_railNamed cX4_railNamed 2 (some .int), Cond.methodLink RX4 125 yX4_takeNumber, Cond.instanceMethod yX4_takeNumber, Cond.selects RX4 yX4_takeNumber yX4_takeNumber, Cond.code yX4_takeNumber cX4_takeNumber 4 (some .int), Cond.methodLink RX4 147 yX3_setNumber, Cond.methodLink RX4 65 yX4_isWord, Cond.instanceMethod yX4_isWord, Cond.selects RX4 yX4_isWord yX4_isWord, Cond.code yX4_isWord cX4_isWord 3 (some .boolean), Cond.methodLink RX4 104 yJ0_length_8abf5, Cond.instanceMethod yJ0_length_8abf5, Cond.selects RJ0 yJ0_length_8abf5 yJ0_length_8abf5, Cond.initialized RJ0, Cond.code yJ0_length_8abf5 cJ0_length_8abf5 1 (some .int), Cond.fieldLink RJ0 9 "java/lang/String" "value" "[B", Cond.methodLink RJ0 335 yJ0_coder_7d493, Cond.instanceMethod yJ0_coder_7d493, Cond.selects RJ0 yJ0_coder_7d493 yJ0_coder_7d493, Cond.code yJ0_coder_7d493 cJ0_coder_7d493 1 (some .byte), Cond.fieldLink RJ0 38 "java/lang/String" "COMPACT_STRINGS" "Z", Cond.fieldLink RJ0 15 "java/lang/String" "coder" "B", Cond.methodLink RX4 109 yJ0_charAt_5068e]
def wsX4_readRail_r4 : List Cond := [Cond.instanceMethod yJ0_charAt_5068e, Cond.selects RJ0 yJ0_charAt_5068e yJ0_charAt_5068e, Cond.code yJ0_charAt_5068e cJ0_charAt_5068e 2 (some .char), Cond.methodLink RJ0 492 yJ0_isLatin1_aae02, Cond.instanceMethod yJ0_isLatin1_aae02, Cond.selects RJ0 yJ0_isLatin1_aae02 yJ0_isLatin1_aae02, Cond.code yJ0_isLatin1_aae02 cJ0_isLatin1_aae02 1 (some .boolean), Cond.methodLink RJ0 495 yJ1_charAt_3b067, Cond.static yJ1_charAt_3b067, Cond.initialized RJ1, Cond.code yJ1_charAt_3b067 cJ1_charAt_3b067 2 (some .char), Cond.methodLink RJ1 9 yJ0_checkIndex_df160, Cond.static yJ0_checkIndex_df160, Cond.code yJ0_checkIndex_df160 cJ0_checkIndex_df160 2 none, Cond.fieldLink RJ0 1053 "jdk/internal/util/Preconditions" "SIOOBE_FORMATTER" "Ljava/util/function/BiFunction;", Cond.methodLink RJ0 1059 yJ3_checkIndex_8e157, Cond.static yJ3_checkIndex_8e157, Cond.initialized RJ3, Cond.code yJ3_checkIndex_8e157 cJ3_checkIndex_8e157 3 (some .int), Cond.methodLink RJ0 498 yJ2_charAt_3b067, Cond.static yJ2_charAt_3b067, Cond.initialized RJ2, Cond.code yJ2_charAt_3b067 cJ2_charAt_3b067 2 (some .char), Cond.methodLink RJ2 67 yJ2_checkIndex_2214a]
def wsX4_readRail_r5 : List Cond := [Cond.static yJ2_checkIndex_2214a, Cond.code yJ2_checkIndex_2214a cJ2_checkIndex_2214a 2 none, Cond.methodLink RJ2 48 yJ2_length_9d52b, Cond.static yJ2_length_9d52b, Cond.code yJ2_length_9d52b cJ2_length_9d52b 1 (some .int), Cond.methodLink RJ2 414 yJ0_checkIndex_df160, Cond.methodLink RJ2 71 yJ2_getChar_3b067, Cond.static yJ2_getChar_3b067, Cond.code yJ2_getChar_3b067 cJ2_getChar_3b067 2 (some .char), Cond.fieldLink RJ2 44 "java/lang/StringUTF16" "$assertionsDisabled" "Z", Cond.fieldLink RJ2 59 "java/lang/StringUTF16" "HI_BYTE_SHIFT" "I", Cond.fieldLink RJ2 63 "java/lang/StringUTF16" "LO_BYTE_SHIFT" "I", Cond.methodLink RX4 153 yX4_readWith, Cond.instanceMethod yX4_readWith, Cond.selects RX4 yX4_readWith yX4_readWith, Cond.code yX4_readWith cX4_readWith 2 none, Cond.methodLink RX4 122 yX4_takeOnce, Cond.instanceMethod yX4_takeOnce, Cond.selects RX4 yX4_takeOnce yX4_takeOnce, Cond.code yX4_takeOnce cX4_takeOnce 2 none, Cond.methodLink RX4 156 yX4_readFormula, Cond.instanceMethod yX4_readFormula, Cond.selects RX4 yX4_readFormula yX4_readFormula, Cond.code yX4_readFormula cX4_readFormula 5 none]
def wsX4_readRail_r6 : List Cond := [Cond.fieldLink RX4 176 "PowerRails$Reader" "depth" "I", Cond.fieldLink RX4 27 "PowerRails$Reader" "any" "[[J", Cond.fieldLink RX4 182 "PowerRails$Plan" "tables" "[J", Cond.methodLink RX4 186 arraycopyName, Cond.native arraycopyName, Cond.static arraycopyName, Cond.initialized "java/lang/System", Cond.methodLink RX4 167 yX4_openDepth, Cond.instanceMethod yX4_openDepth, Cond.selects RX4 yX4_openDepth yX4_openDepth, Cond.code yX4_openDepth cX4_openDepth 2 none, Cond.fieldLink RX4 30 "PowerRails$Reader" "all" "[[J", Cond.constantLong RX4 203 (-1), Cond.methodLink RX4 200 yJ7_fill_d0a16, Cond.static yJ7_fill_d0a16, Cond.initialized RJ7, Cond.code yJ7_fill_d0a16 cJ7_fill_d0a16 5 none, Cond.methodLink RX4 170 yX4_takeUnit, Cond.instanceMethod yX4_takeUnit, Cond.selects RX4 yX4_takeUnit yX4_takeUnit, Cond.code yX4_takeUnit cX4_takeUnit 2 (some .boolean), Cond.methodLink RX4 113 yX4_isSign, Cond.instanceMethod yX4_isSign, Cond.selects RX4 yX4_isSign yX4_isSign]
def wsX4_readRail_r7 : List Cond := [Cond.code yX4_isSign cX4_isSign 2 (some .boolean), Cond.methodLink RX4 194 yX4_joinPart, Cond.instanceMethod yX4_joinPart, Cond.selects RX4 yX4_joinPart yX4_joinPart, Cond.code yX4_joinPart cX4_joinPart 4 none, Cond.fieldLink RX4 208 "PowerRails$Reader" "IN_WORD" "[J", Cond.methodLink RX4 205 yX3_number, Cond.instanceMethod yX3_number, Cond.selects RX3 yX3_number yX3_number, Cond.code yX3_number cX3_number 3 (some .int), Cond.methodLink RX4 197 yX4_noteUse, Cond.instanceMethod yX4_noteUse, Cond.selects RX4 yX4_noteUse yX4_noteUse, Cond.code yX4_noteUse cX4_noteUse 2 none, Cond.fieldLink RX4 19 "PowerRails$Reader" "firstUse" "[I", Cond.methodLink RX4 173 yX4_joinAny, Cond.instanceMethod yX4_joinAny, Cond.selects RX4 yX4_joinAny yX4_joinAny, Cond.code yX4_joinAny cX4_joinAny 2 none, Cond.methodLink RX4 179 yX4_closeDepth, Cond.instanceMethod yX4_closeDepth, Cond.selects RX4 yX4_closeDepth yX4_closeDepth, Cond.code yX4_closeDepth cX4_closeDepth 2 none]
def wsX4_readRail : List Cond := .code yX4_readRail cX4_readRail 4 none :: ((wsX4_readRail_r1 ++ (wsX4_readRail_r2 ++ (wsX4_readRail_r3 ++ (wsX4_readRail_r4 ++ (wsX4_readRail_r5 ++ (wsX4_readRail_r6 ++ wsX4_readRail_r7)))))) ++ wsX40 ++ wsX30 ++ wsX80)
def wsX4_readRule_r1 : List Cond := [Cond.fieldLink RX4 15 "PowerRails$Reader" "plan" "LPowerRails$Plan;", Cond.fieldLink RX4 129 "PowerRails$Plan" "limit" "I", Cond.fieldLink RX4 133 "PowerRails$Plan" "retry" "I", Cond.fieldLink RX4 135 "PowerRails$Plan" "behind" "I", Cond.fieldLink RX4 88 "PowerRails$Reader" "from" "I", Cond.methodLink RX4 65 yX4_isWord, Cond.instanceMethod yX4_isWord, Cond.selects RX4 yX4_isWord yX4_isWord, Cond.initialized RX4, Cond.code yX4_isWord cX4_isWord 3 (some .boolean), Cond.fieldLink RX4 60 "PowerRails$Reader" "kind" "I", Cond.fieldLink RX4 36 "PowerRails$Reader" "place" "I", Cond.fieldLink RX4 9 "PowerRails$Reader" "tape" "LPowerRails$Tape;", Cond.fieldLink RX4 85 "PowerRails$Tape" "bytes" "[I", Cond.methodLink RX4 104 yJ0_length_8abf5, Cond.instanceMethod yJ0_length_8abf5, Cond.selects RJ0 yJ0_length_8abf5 yJ0_length_8abf5, Cond.initialized RJ0, Cond.code yJ0_length_8abf5 cJ0_length_8abf5 1 (some .int), Cond.fieldLink RJ0 9 "java/lang/String" "value" "[B", Cond.methodLink RJ0 335 yJ0_coder_7d493, Cond.instanceMethod yJ0_coder_7d493, Cond.selects RJ0 yJ0_coder_7d493 yJ0_coder_7d493, Cond.code yJ0_coder_7d493 cJ0_coder_7d493 1 (some .byte)]
def wsX4_readRule_r2 : List Cond := [Cond.fieldLink RJ0 38 "java/lang/String" "COMPACT_STRINGS" "Z", Cond.fieldLink RJ0 15 "java/lang/String" "coder" "B", Cond.methodLink RX4 109 yJ0_charAt_5068e, Cond.instanceMethod yJ0_charAt_5068e, Cond.selects RJ0 yJ0_charAt_5068e yJ0_charAt_5068e, Cond.code yJ0_charAt_5068e cJ0_charAt_5068e 2 (some .char), Cond.methodLink RJ0 492 yJ0_isLatin1_aae02, Cond.instanceMethod yJ0_isLatin1_aae02, Cond.selects RJ0 yJ0_isLatin1_aae02 yJ0_isLatin1_aae02, Cond.code yJ0_isLatin1_aae02 cJ0_isLatin1_aae02 1 (some .boolean), Cond.methodLink RJ0 495 yJ1_charAt_3b067, Cond.static yJ1_charAt_3b067, Cond.initialized RJ1, Cond.code yJ1_charAt_3b067 cJ1_charAt_3b067 2 (some .char), Cond.methodLink RJ1 9 yJ0_checkIndex_df160, Cond.static yJ0_checkIndex_df160, Cond.code yJ0_checkIndex_df160 cJ0_checkIndex_df160 2 none, Cond.fieldLink RJ0 1053 "jdk/internal/util/Preconditions" "SIOOBE_FORMATTER" "Ljava/util/function/BiFunction;", Cond.methodLink RJ0 1059 yJ3_checkIndex_8e157, Cond.static yJ3_checkIndex_8e157, Cond.initialized RJ3, Cond.code yJ3_checkIndex_8e157 cJ3_checkIndex_8e157 3 (some .int), Cond.methodLink RJ0 498 yJ2_charAt_3b067, Cond.static yJ2_charAt_3b067]
def wsX4_readRule_r3 : List Cond := [Cond.initialized RJ2, Cond.code yJ2_charAt_3b067 cJ2_charAt_3b067 2 (some .char), Cond.methodLink RJ2 67 yJ2_checkIndex_2214a, Cond.static yJ2_checkIndex_2214a, Cond.code yJ2_checkIndex_2214a cJ2_checkIndex_2214a 2 none, Cond.methodLink RJ2 48 yJ2_length_9d52b, Cond.static yJ2_length_9d52b, Cond.code yJ2_length_9d52b cJ2_length_9d52b 1 (some .int), Cond.methodLink RJ2 414 yJ0_checkIndex_df160, Cond.methodLink RJ2 71 yJ2_getChar_3b067, Cond.static yJ2_getChar_3b067, Cond.code yJ2_getChar_3b067 cJ2_getChar_3b067 2 (some .char), Cond.fieldLink RJ2 44 "java/lang/StringUTF16" "$assertionsDisabled" "Z", Cond.fieldLink RJ2 59 "java/lang/StringUTF16" "HI_BYTE_SHIFT" "I", Cond.fieldLink RJ2 63 "java/lang/StringUTF16" "LO_BYTE_SHIFT" "I", Cond.methodLink RX4 122 yX4_takeOnce, Cond.instanceMethod yX4_takeOnce, Cond.selects RX4 yX4_takeOnce yX4_takeOnce, Cond.code yX4_takeOnce cX4_takeOnce 2 none, Cond.fieldLink RX4 40 "PowerRails$Reader" "told" "I", Cond.methodLink RX4 101 yX4_refuse, Cond.instanceMethod yX4_refuse, Cond.selects RX4 yX4_refuse yX4_refuse, Cond.code yX4_refuse cX4_refuse 3 none]
def wsX4_readRule_r4 : List Cond := [Cond.fieldLink RX4 43 "PowerRails$Reader" "fault" "I", Cond.fieldLink RX4 46 "PowerRails$Reader" "faultPlace" "I", Cond.methodLink RX4 55 yX4_step, Cond.instanceMethod yX4_step, Cond.selects RX4 yX4_step yX4_step, Cond.code yX4_step cX4_step 2 none, Cond.fieldLink RX4 82 "PowerRails$Tape" "length" "I", Cond.fieldLink RX4 91 "PowerRails$Reader" "value" "I", Cond.methodLink RX4 94 yX4_skipWithin, Cond.instanceMethod yX4_skipWithin, Cond.selects RX4 yX4_skipWithin yX4_skipWithin, Cond.code yX4_skipWithin cX4_skipWithin 3 none, Cond.methodLink RX4 98 yX4_valueNumber, Cond.instanceMethod yX4_valueNumber, Cond.selects RX4 yX4_valueNumber yX4_valueNumber, Cond.code yX4_valueNumber cX4_valueNumber 2 none, Cond.methodLink RX4 125 yX4_takeNumber, Cond.instanceMethod yX4_takeNumber, Cond.selects RX4 yX4_takeNumber yX4_takeNumber, Cond.code yX4_takeNumber cX4_takeNumber 4 (some .int)]
def wsX4_readRule : List Cond := .code yX4_readRule cX4_readRule 1 none :: ((wsX4_readRule_r1 ++ (wsX4_readRule_r2 ++ (wsX4_readRule_r3 ++ wsX4_readRule_r4))) ++ wsX40 ++ wsX30 ++ wsX80)
def wsX4_takeSign_r1 : List Cond := [Cond.fieldLink RX4 43 "PowerRails$Reader" "fault" "I", Cond.fieldLink RX4 88 "PowerRails$Reader" "from" "I", Cond.methodLink RX4 113 yX4_isSign, Cond.instanceMethod yX4_isSign, Cond.selects RX4 yX4_isSign yX4_isSign, Cond.initialized RX4, Cond.code yX4_isSign cX4_isSign 2 (some .boolean), Cond.fieldLink RX4 60 "PowerRails$Reader" "kind" "I", Cond.fieldLink RX4 91 "PowerRails$Reader" "value" "I", Cond.methodLink RX4 55 yX4_step, Cond.instanceMethod yX4_step, Cond.selects RX4 yX4_step yX4_step, Cond.code yX4_step cX4_step 2 none, Cond.fieldLink RX4 36 "PowerRails$Reader" "place" "I", Cond.fieldLink RX4 9 "PowerRails$Reader" "tape" "LPowerRails$Tape;", Cond.fieldLink RX4 82 "PowerRails$Tape" "length" "I", Cond.fieldLink RX4 85 "PowerRails$Tape" "bytes" "[I", Cond.methodLink RX4 94 yX4_skipWithin, Cond.instanceMethod yX4_skipWithin, Cond.selects RX4 yX4_skipWithin yX4_skipWithin, Cond.code yX4_skipWithin cX4_skipWithin 3 none, Cond.methodLink RX4 98 yX4_valueNumber, Cond.instanceMethod yX4_valueNumber, Cond.selects RX4 yX4_valueNumber yX4_valueNumber]
def wsX4_takeSign_r2 : List Cond := [Cond.code yX4_valueNumber cX4_valueNumber 2 none, Cond.methodLink RX4 101 yX4_refuse, Cond.instanceMethod yX4_refuse, Cond.selects RX4 yX4_refuse yX4_refuse, Cond.code yX4_refuse cX4_refuse 3 none, Cond.fieldLink RX4 46 "PowerRails$Reader" "faultPlace" "I"]
def wsX4_takeSign : List Cond := .code yX4_takeSign cX4_takeSign 2 none :: ((wsX4_takeSign_r1 ++ wsX4_takeSign_r2) ++ wsX40 ++ wsX80)
def wsX4_findNotTold : List Cond := .code yX4_findNotTold cX4_findNotTold 3 none :: ([.fieldLink RX4 15 "PowerRails$Reader" "plan" "LPowerRails$Plan;", .fieldLink RX4 138 "PowerRails$Plan" "rails" "I", .fieldLink RX4 19 "PowerRails$Reader" "firstUse" "[I", .methodLink RX4 211 Lib.Math.min.name, .static Lib.Math.min.name, .initialized "java/lang/Math", .code Lib.Math.min.name Lib.Math.min.code 2 (some .int), .methodLink RX4 101 yX4_refuse, .instanceMethod yX4_refuse, .selects RX4 yX4_refuse yX4_refuse, .initialized RX4, .code yX4_refuse cX4_refuse 3 none, .fieldLink RX4 43 "PowerRails$Reader" "fault" "I", .fieldLink RX4 46 "PowerRails$Reader" "faultPlace" "I"] ++ wsX40 ++ wsX30)
def wsX4_readText_r1 : List Cond := [Cond.fieldLink RX4 15 "PowerRails$Reader" "plan" "LPowerRails$Plan;", Cond.fieldLink RX4 36 "PowerRails$Reader" "place" "I", Cond.fieldLink RX4 40 "PowerRails$Reader" "told" "I", Cond.fieldLink RX4 43 "PowerRails$Reader" "fault" "I", Cond.fieldLink RX4 46 "PowerRails$Reader" "faultPlace" "I", Cond.fieldLink RX4 19 "PowerRails$Reader" "firstUse" "[I", Cond.fieldLink RX4 60 "PowerRails$Reader" "kind" "I", Cond.methodLink RX4 33 yX3_reset, Cond.instanceMethod yX3_reset, Cond.selects RX3 yX3_reset yX3_reset, Cond.initialized RX3, Cond.code yX3_reset cX3_reset 1 none, Cond.fieldLink RX3 19 "PowerRails$Plan" "rails" "I", Cond.fieldLink RX3 23 "PowerRails$Plan" "limit" "I", Cond.fieldLink RX3 26 "PowerRails$Plan" "retry" "I", Cond.fieldLink RX3 29 "PowerRails$Plan" "behind" "I", Cond.methodLink RX4 49 yJ7_fill_53178, Cond.static yJ7_fill_53178, Cond.initialized RJ7, Cond.code yJ7_fill_53178 cJ7_fill_53178 4 none, Cond.methodLink RX4 55 yX4_step, Cond.instanceMethod yX4_step, Cond.selects RX4 yX4_step yX4_step, Cond.initialized RX4]
def wsX4_readText_r2 : List Cond := [Cond.code yX4_step cX4_step 2 none, Cond.fieldLink RX4 9 "PowerRails$Reader" "tape" "LPowerRails$Tape;", Cond.fieldLink RX4 82 "PowerRails$Tape" "length" "I", Cond.fieldLink RX4 85 "PowerRails$Tape" "bytes" "[I", Cond.fieldLink RX4 88 "PowerRails$Reader" "from" "I", Cond.fieldLink RX4 91 "PowerRails$Reader" "value" "I", Cond.methodLink RX4 94 yX4_skipWithin, Cond.instanceMethod yX4_skipWithin, Cond.selects RX4 yX4_skipWithin yX4_skipWithin, Cond.code yX4_skipWithin cX4_skipWithin 3 none, Cond.methodLink RX4 98 yX4_valueNumber, Cond.instanceMethod yX4_valueNumber, Cond.selects RX4 yX4_valueNumber yX4_valueNumber, Cond.code yX4_valueNumber cX4_valueNumber 2 none, Cond.methodLink RX4 101 yX4_refuse, Cond.instanceMethod yX4_refuse, Cond.selects RX4 yX4_refuse yX4_refuse, Cond.code yX4_refuse cX4_refuse 3 none, Cond.methodLink RX4 65 yX4_isWord, Cond.instanceMethod yX4_isWord, Cond.selects RX4 yX4_isWord yX4_isWord, Cond.code yX4_isWord cX4_isWord 3 (some .boolean), Cond.methodLink RX4 104 yJ0_length_8abf5, Cond.instanceMethod yJ0_length_8abf5]
def wsX4_readText_r3 : List Cond := [Cond.selects RJ0 yJ0_length_8abf5 yJ0_length_8abf5, Cond.initialized RJ0, Cond.code yJ0_length_8abf5 cJ0_length_8abf5 1 (some .int), Cond.fieldLink RJ0 9 "java/lang/String" "value" "[B", Cond.methodLink RJ0 335 yJ0_coder_7d493, Cond.instanceMethod yJ0_coder_7d493, Cond.selects RJ0 yJ0_coder_7d493 yJ0_coder_7d493, Cond.code yJ0_coder_7d493 cJ0_coder_7d493 1 (some .byte), Cond.fieldLink RJ0 38 "java/lang/String" "COMPACT_STRINGS" "Z", Cond.fieldLink RJ0 15 "java/lang/String" "coder" "B", Cond.methodLink RX4 109 yJ0_charAt_5068e, Cond.instanceMethod yJ0_charAt_5068e, Cond.selects RJ0 yJ0_charAt_5068e yJ0_charAt_5068e, Cond.code yJ0_charAt_5068e cJ0_charAt_5068e 2 (some .char), Cond.methodLink RJ0 492 yJ0_isLatin1_aae02, Cond.instanceMethod yJ0_isLatin1_aae02, Cond.selects RJ0 yJ0_isLatin1_aae02 yJ0_isLatin1_aae02, Cond.code yJ0_isLatin1_aae02 cJ0_isLatin1_aae02 1 (some .boolean), Cond.methodLink RJ0 495 yJ1_charAt_3b067, Cond.static yJ1_charAt_3b067, Cond.initialized RJ1, Cond.code yJ1_charAt_3b067 cJ1_charAt_3b067 2 (some .char), Cond.methodLink RJ1 9 yJ0_checkIndex_df160, Cond.static yJ0_checkIndex_df160]
def wsX4_readText_r4 : List Cond := [Cond.code yJ0_checkIndex_df160 cJ0_checkIndex_df160 2 none, Cond.fieldLink RJ0 1053 "jdk/internal/util/Preconditions" "SIOOBE_FORMATTER" "Ljava/util/function/BiFunction;", Cond.methodLink RJ0 1059 yJ3_checkIndex_8e157, Cond.static yJ3_checkIndex_8e157, Cond.initialized RJ3, Cond.code yJ3_checkIndex_8e157 cJ3_checkIndex_8e157 3 (some .int), Cond.methodLink RJ0 498 yJ2_charAt_3b067, Cond.static yJ2_charAt_3b067, Cond.initialized RJ2, Cond.code yJ2_charAt_3b067 cJ2_charAt_3b067 2 (some .char), Cond.methodLink RJ2 67 yJ2_checkIndex_2214a, Cond.static yJ2_checkIndex_2214a, Cond.code yJ2_checkIndex_2214a cJ2_checkIndex_2214a 2 none, Cond.methodLink RJ2 48 yJ2_length_9d52b, Cond.static yJ2_length_9d52b, Cond.code yJ2_length_9d52b cJ2_length_9d52b 1 (some .int), Cond.methodLink RJ2 414 yJ0_checkIndex_df160, Cond.methodLink RJ2 71 yJ2_getChar_3b067, Cond.static yJ2_getChar_3b067, Cond.code yJ2_getChar_3b067 cJ2_getChar_3b067 2 (some .char), Cond.fieldLink RJ2 44 "java/lang/StringUTF16" "$assertionsDisabled" "Z", Cond.fieldLink RJ2 59 "java/lang/StringUTF16" "HI_BYTE_SHIFT" "I", Cond.fieldLink RJ2 63 "java/lang/StringUTF16" "LO_BYTE_SHIFT" "I", Cond.methodLink RX4 69 yX4_readRail]
def wsX4_readText_r5 : List Cond := [Cond.instanceMethod yX4_readRail, Cond.selects RX4 yX4_readRail yX4_readRail, Cond.code yX4_readRail cX4_readRail 4 none, Cond.fieldLink RX4 138 "PowerRails$Plan" "rails" "I", Cond.methodLink RX4 141 yX3_addRail, Cond.instanceMethod yX3_addRail, Cond.selects RX3 yX3_addRail yX3_addRail, Cond.code yX3_addRail cX3_addRail 2 none, Cond.fieldLink RX3 15 "PowerRails$Plan" "tables" "[J", Cond.constantLong RX3 36 (-1), Cond.methodLink RX3 32 yX3_setNumber, Cond.instanceMethod yX3_setNumber, Cond.selects RX3 yX3_setNumber yX3_setNumber, Cond.code yX3_setNumber cX3_setNumber 4 none, Cond.fieldLink RX3 11 "PowerRails$Plan" "numbers" "[I", Cond.methodLink RX4 144 yX4_takeTurn, Cond.instanceMethod yX4_takeTurn, Cond.selects RX4 yX4_takeTurn yX4_takeTurn, Cond.code yX4_takeTurn cX4_takeTurn 2 none, Cond.methodLink RX4 117 yX4_railNamed, Cond.instanceMethod yX4_railNamed, Cond.selects RX4 yX4_railNamed yX4_railNamed, Cond.code yX4_railNamed cX4_railNamed 2 (some .int), Cond.methodLink RX4 125 yX4_takeNumber]
def wsX4_readText_r6 : List Cond := [Cond.instanceMethod yX4_takeNumber, Cond.selects RX4 yX4_takeNumber yX4_takeNumber, Cond.code yX4_takeNumber cX4_takeNumber 4 (some .int), Cond.methodLink RX4 147 yX3_setNumber, Cond.methodLink RX4 153 yX4_readWith, Cond.instanceMethod yX4_readWith, Cond.selects RX4 yX4_readWith yX4_readWith, Cond.code yX4_readWith cX4_readWith 2 none, Cond.methodLink RX4 122 yX4_takeOnce, Cond.instanceMethod yX4_takeOnce, Cond.selects RX4 yX4_takeOnce yX4_takeOnce, Cond.code yX4_takeOnce cX4_takeOnce 2 none, Cond.methodLink RX4 156 yX4_readFormula, Cond.instanceMethod yX4_readFormula, Cond.selects RX4 yX4_readFormula yX4_readFormula, Cond.code yX4_readFormula cX4_readFormula 5 none, Cond.fieldLink RX4 176 "PowerRails$Reader" "depth" "I", Cond.fieldLink RX4 27 "PowerRails$Reader" "any" "[[J", Cond.fieldLink RX4 182 "PowerRails$Plan" "tables" "[J", Cond.methodLink RX4 186 arraycopyName, Cond.native arraycopyName, Cond.static arraycopyName, Cond.initialized "java/lang/System", Cond.methodLink RX4 167 yX4_openDepth]
def wsX4_readText_r7 : List Cond := [Cond.instanceMethod yX4_openDepth, Cond.selects RX4 yX4_openDepth yX4_openDepth, Cond.code yX4_openDepth cX4_openDepth 2 none, Cond.fieldLink RX4 30 "PowerRails$Reader" "all" "[[J", Cond.constantLong RX4 203 (-1), Cond.methodLink RX4 200 yJ7_fill_d0a16, Cond.static yJ7_fill_d0a16, Cond.code yJ7_fill_d0a16 cJ7_fill_d0a16 5 none, Cond.methodLink RX4 170 yX4_takeUnit, Cond.instanceMethod yX4_takeUnit, Cond.selects RX4 yX4_takeUnit yX4_takeUnit, Cond.code yX4_takeUnit cX4_takeUnit 2 (some .boolean), Cond.methodLink RX4 113 yX4_isSign, Cond.instanceMethod yX4_isSign, Cond.selects RX4 yX4_isSign yX4_isSign, Cond.code yX4_isSign cX4_isSign 2 (some .boolean), Cond.methodLink RX4 194 yX4_joinPart, Cond.instanceMethod yX4_joinPart, Cond.selects RX4 yX4_joinPart yX4_joinPart, Cond.code yX4_joinPart cX4_joinPart 4 none, Cond.fieldLink RX4 208 "PowerRails$Reader" "IN_WORD" "[J", Cond.methodLink RX4 205 yX3_number, Cond.instanceMethod yX3_number, Cond.selects RX3 yX3_number yX3_number]
def wsX4_readText_r8 : List Cond := [Cond.code yX3_number cX3_number 3 (some .int), Cond.methodLink RX4 197 yX4_noteUse, Cond.instanceMethod yX4_noteUse, Cond.selects RX4 yX4_noteUse yX4_noteUse, Cond.code yX4_noteUse cX4_noteUse 2 none, Cond.methodLink RX4 173 yX4_joinAny, Cond.instanceMethod yX4_joinAny, Cond.selects RX4 yX4_joinAny yX4_joinAny, Cond.code yX4_joinAny cX4_joinAny 2 none, Cond.methodLink RX4 179 yX4_closeDepth, Cond.instanceMethod yX4_closeDepth, Cond.selects RX4 yX4_closeDepth yX4_closeDepth, Cond.code yX4_closeDepth cX4_closeDepth 2 none, Cond.methodLink RX4 72 yX4_readRule, Cond.instanceMethod yX4_readRule, Cond.selects RX4 yX4_readRule yX4_readRule, Cond.code yX4_readRule cX4_readRule 1 none, Cond.fieldLink RX4 129 "PowerRails$Plan" "limit" "I", Cond.fieldLink RX4 133 "PowerRails$Plan" "retry" "I", Cond.fieldLink RX4 135 "PowerRails$Plan" "behind" "I", Cond.methodLink RX4 75 yX4_takeSign, Cond.instanceMethod yX4_takeSign, Cond.selects RX4 yX4_takeSign yX4_takeSign, Cond.code yX4_takeSign cX4_takeSign 2 none]
def wsX4_readText_r9 : List Cond := [Cond.methodLink RX4 79 yX4_findNotTold, Cond.instanceMethod yX4_findNotTold, Cond.selects RX4 yX4_findNotTold yX4_findNotTold, Cond.code yX4_findNotTold cX4_findNotTold 3 none, Cond.methodLink RX4 211 Lib.Math.min.name, Cond.static Lib.Math.min.name, Cond.initialized "java/lang/Math", Cond.code Lib.Math.min.name Lib.Math.min.code 2 (some .int)]
def wsX4_readText : List Cond := .code yX4_readText cX4_readText 4 (some .int) :: ((wsX4_readText_r1 ++ (wsX4_readText_r2 ++ (wsX4_readText_r3 ++ (wsX4_readText_r4 ++ (wsX4_readText_r5 ++ (wsX4_readText_r6 ++ (wsX4_readText_r7 ++ (wsX4_readText_r8 ++ wsX4_readText_r9)))))))) ++ wsX40 ++ wsX30 ++ wsX80)
def wsX5_init : List Cond := .code yX5_init cX5_init 1 none :: ([.methodLink RX5 3 objectInit, .instanceMethod objectInit, .code objectInit ⟨#[0xb1]⟩ 1 none, .classLink RX5 9 RX2, .instantiable RX2 4, .initialized RX2, .fieldLink RX5 12 "PowerRails$Run" "history" "LPowerRails$History;", .arrayClass .int, .fieldLink RX5 18 "PowerRails$Run" "states" "[I", .fieldLink RX5 22 "PowerRails$Run" "since" "[I", .fieldLink RX5 25 "PowerRails$Run" "asked" "[I", .fieldLink RX5 28 "PowerRails$Run" "takes" "[I", .fieldLink RX5 31 "PowerRails$Run" "timesGood" "[I", .fieldLink RX5 34 "PowerRails$Run" "dead" "I", .fieldLink RX5 38 "PowerRails$Run" "key" "Z", .methodLink RX5 11 yX2_init, .instanceMethod yX2_init, .code yX2_init cX2_init 1 none, .methodLink RX2 1 objectInit, .fieldLink RX2 9 "PowerRails$History" "ticks" "[I", .fieldLink RX2 13 "PowerRails$History" "who" "[I", .fieldLink RX2 16 "PowerRails$History" "became" "[I", .fieldLink RX2 19 "PowerRails$History" "size" "I"] ++ wsX20 ++ wsX50)
def wsX5_reset : List Cond := .code yX5_reset cX5_reset 3 none :: ([.fieldLink RX5 12 "PowerRails$Run" "history" "LPowerRails$History;", .fieldLink RX5 42 "PowerRails$History" "size" "I", .fieldLink RX5 18 "PowerRails$Run" "states" "[I", .fieldLink RX5 22 "PowerRails$Run" "since" "[I", .fieldLink RX5 25 "PowerRails$Run" "asked" "[I", .fieldLink RX5 28 "PowerRails$Run" "takes" "[I", .fieldLink RX5 31 "PowerRails$Run" "timesGood" "[I", .fieldLink RX5 34 "PowerRails$Run" "dead" "I", .fieldLink RX5 38 "PowerRails$Run" "key" "Z", .fieldLink RX5 51 "PowerRails$Run" "tick" "I", .fieldLink RX5 54 "PowerRails$Run" "held" "I", .fieldLink RX5 57 "PowerRails$Plan" "retry" "I", .fieldLink RX5 60 "PowerRails$Run" "tries" "I", .fieldLink RX5 63 "PowerRails$Run" "trips" "I", .fieldLink RX5 66 "PowerRails$Run" "latestDraw" "I", .fieldLink RX5 69 "PowerRails$Run" "greatestDraw" "I", .methodLink RX5 47 yX3_number, .instanceMethod yX3_number, .selects RX3 yX3_number yX3_number, .initialized RX3, .code yX3_number cX3_number 3 (some .int), .fieldLink RX3 11 "PowerRails$Plan" "numbers" "[I"] ++ wsX50 ++ wsX20 ++ wsX30)
def wsX5_turnKey : List Cond := .code yX5_turnKey cX5_turnKey 3 none :: ([.fieldLink RX5 38 "PowerRails$Run" "key" "Z", .fieldLink RX5 57 "PowerRails$Plan" "retry" "I", .fieldLink RX5 60 "PowerRails$Run" "tries" "I", .fieldLink RX5 54 "PowerRails$Run" "held" "I"] ++ wsX50 ++ wsX30)
def wsX5_railsThatAre : List Cond := .code yX5_railsThatAre cX5_railsThatAre 4 (some .int) :: ([.fieldLink RX5 18 "PowerRails$Run" "states" "[I"] ++ wsX50)
def wsX5_railsThatMay : List Cond := .code yX5_railsThatMay cX5_railsThatMay 5 (some .int) :: ([.fieldLink RX5 54 "PowerRails$Run" "held" "I", .fieldLink RX5 38 "PowerRails$Run" "key" "Z", .fieldLink RX5 106 "PowerRails$Plan" "rails" "I", .methodLink RX5 102 yX5_railsThatAre, .instanceMethod yX5_railsThatAre, .selects RX5 yX5_railsThatAre yX5_railsThatAre, .initialized RX5, .code yX5_railsThatAre cX5_railsThatAre 4 (some .int), .fieldLink RX5 18 "PowerRails$Run" "states" "[I", .methodLink RX5 109 yX3_holdsWith, .instanceMethod yX3_holdsWith, .selects RX3 yX3_holdsWith yX3_holdsWith, .initialized RX3, .code yX3_holdsWith cX3_holdsWith 3 (some .boolean), .fieldLink RX3 15 "PowerRails$Plan" "tables" "[J"] ++ wsX50 ++ wsX30)
def wsX5_nextState : List Cond := .code yX5_nextState cX5_nextState 5 (some .int) :: ([.fieldLink RX5 34 "PowerRails$Run" "dead" "I", .fieldLink RX5 18 "PowerRails$Run" "states" "[I", .fieldLink RX5 22 "PowerRails$Run" "since" "[I", .fieldLink RX5 28 "PowerRails$Run" "takes" "[I", .methodLink RX5 47 yX3_number, .instanceMethod yX3_number, .selects RX3 yX3_number yX3_number, .initialized RX3, .code yX3_number cX3_number 3 (some .int), .fieldLink RX3 11 "PowerRails$Plan" "numbers" "[I"] ++ wsX50 ++ wsX30)
def wsX5_become : List Cond := .code yX5_become cX5_become 3 none :: ([.fieldLink RX5 18 "PowerRails$Run" "states" "[I", .fieldLink RX5 22 "PowerRails$Run" "since" "[I", .fieldLink RX5 25 "PowerRails$Run" "asked" "[I", .fieldLink RX5 31 "PowerRails$Run" "timesGood" "[I", .fieldLink RX5 12 "PowerRails$Run" "history" "LPowerRails$History;", .fieldLink RX5 51 "PowerRails$Run" "tick" "I", .methodLink RX5 121 yX2_note, .instanceMethod yX2_note, .selects RX2 yX2_note yX2_note, .initialized RX2, .code yX2_note cX2_note 4 none, .fieldLink RX2 19 "PowerRails$History" "size" "I", .fieldLink RX2 9 "PowerRails$History" "ticks" "[I", .fieldLink RX2 13 "PowerRails$History" "who" "[I", .fieldLink RX2 16 "PowerRails$History" "became" "[I"] ++ wsX50 ++ wsX20)
def wsX5_changeRails_r1 : List Cond := [Cond.fieldLink RX5 106 "PowerRails$Plan" "rails" "I", Cond.fieldLink RX5 18 "PowerRails$Run" "states" "[I", Cond.methodLink RX5 113 yX5_nextState, Cond.instanceMethod yX5_nextState, Cond.selects RX5 yX5_nextState yX5_nextState, Cond.initialized RX5, Cond.code yX5_nextState cX5_nextState 5 (some .int), Cond.fieldLink RX5 34 "PowerRails$Run" "dead" "I", Cond.fieldLink RX5 22 "PowerRails$Run" "since" "[I", Cond.fieldLink RX5 28 "PowerRails$Run" "takes" "[I", Cond.methodLink RX5 47 yX3_number, Cond.instanceMethod yX3_number, Cond.selects RX3 yX3_number yX3_number, Cond.initialized RX3, Cond.code yX3_number cX3_number 3 (some .int), Cond.fieldLink RX3 11 "PowerRails$Plan" "numbers" "[I", Cond.methodLink RX5 117 yX5_become, Cond.instanceMethod yX5_become, Cond.selects RX5 yX5_become yX5_become, Cond.code yX5_become cX5_become 3 none, Cond.fieldLink RX5 25 "PowerRails$Run" "asked" "[I", Cond.fieldLink RX5 31 "PowerRails$Run" "timesGood" "[I", Cond.fieldLink RX5 12 "PowerRails$Run" "history" "LPowerRails$History;", Cond.fieldLink RX5 51 "PowerRails$Run" "tick" "I"]
def wsX5_changeRails_r2 : List Cond := [Cond.methodLink RX5 121 yX2_note, Cond.instanceMethod yX2_note, Cond.selects RX2 yX2_note yX2_note, Cond.initialized RX2, Cond.code yX2_note cX2_note 4 none, Cond.fieldLink RX2 19 "PowerRails$History" "size" "I", Cond.fieldLink RX2 9 "PowerRails$History" "ticks" "[I", Cond.fieldLink RX2 13 "PowerRails$History" "who" "[I", Cond.fieldLink RX2 16 "PowerRails$History" "became" "[I"]
def wsX5_changeRails : List Cond := .code yX5_changeRails cX5_changeRails 6 (some .boolean) :: ((wsX5_changeRails_r1 ++ wsX5_changeRails_r2) ++ wsX30 ++ wsX50 ++ wsX20)
def wsX5_settle_r1 : List Cond := [Cond.methodLink RX5 95 yX5_railsThatMay, Cond.instanceMethod yX5_railsThatMay, Cond.selects RX5 yX5_railsThatMay yX5_railsThatMay, Cond.initialized RX5, Cond.code yX5_railsThatMay cX5_railsThatMay 5 (some .int), Cond.fieldLink RX5 54 "PowerRails$Run" "held" "I", Cond.fieldLink RX5 38 "PowerRails$Run" "key" "Z", Cond.fieldLink RX5 106 "PowerRails$Plan" "rails" "I", Cond.methodLink RX5 102 yX5_railsThatAre, Cond.instanceMethod yX5_railsThatAre, Cond.selects RX5 yX5_railsThatAre yX5_railsThatAre, Cond.code yX5_railsThatAre cX5_railsThatAre 4 (some .int), Cond.fieldLink RX5 18 "PowerRails$Run" "states" "[I", Cond.methodLink RX5 109 yX3_holdsWith, Cond.instanceMethod yX3_holdsWith, Cond.selects RX3 yX3_holdsWith yX3_holdsWith, Cond.initialized RX3, Cond.code yX3_holdsWith cX3_holdsWith 3 (some .boolean), Cond.fieldLink RX3 15 "PowerRails$Plan" "tables" "[J", Cond.methodLink RX5 98 yX5_changeRails, Cond.instanceMethod yX5_changeRails, Cond.selects RX5 yX5_changeRails yX5_changeRails, Cond.code yX5_changeRails cX5_changeRails 6 (some .boolean), Cond.methodLink RX5 113 yX5_nextState]
def wsX5_settle_r2 : List Cond := [Cond.instanceMethod yX5_nextState, Cond.selects RX5 yX5_nextState yX5_nextState, Cond.code yX5_nextState cX5_nextState 5 (some .int), Cond.fieldLink RX5 34 "PowerRails$Run" "dead" "I", Cond.fieldLink RX5 22 "PowerRails$Run" "since" "[I", Cond.fieldLink RX5 28 "PowerRails$Run" "takes" "[I", Cond.methodLink RX5 47 yX3_number, Cond.instanceMethod yX3_number, Cond.selects RX3 yX3_number yX3_number, Cond.code yX3_number cX3_number 3 (some .int), Cond.fieldLink RX3 11 "PowerRails$Plan" "numbers" "[I", Cond.methodLink RX5 117 yX5_become, Cond.instanceMethod yX5_become, Cond.selects RX5 yX5_become yX5_become, Cond.code yX5_become cX5_become 3 none, Cond.fieldLink RX5 25 "PowerRails$Run" "asked" "[I", Cond.fieldLink RX5 31 "PowerRails$Run" "timesGood" "[I", Cond.fieldLink RX5 12 "PowerRails$Run" "history" "LPowerRails$History;", Cond.fieldLink RX5 51 "PowerRails$Run" "tick" "I", Cond.methodLink RX5 121 yX2_note, Cond.instanceMethod yX2_note, Cond.selects RX2 yX2_note yX2_note, Cond.initialized RX2, Cond.code yX2_note cX2_note 4 none]
def wsX5_settle_r3 : List Cond := [Cond.fieldLink RX2 19 "PowerRails$History" "size" "I", Cond.fieldLink RX2 9 "PowerRails$History" "ticks" "[I", Cond.fieldLink RX2 13 "PowerRails$History" "who" "[I", Cond.fieldLink RX2 16 "PowerRails$History" "became" "[I"]
def wsX5_settle : List Cond := .code yX5_settle cX5_settle 4 none :: ((wsX5_settle_r1 ++ (wsX5_settle_r2 ++ wsX5_settle_r3)) ++ wsX50 ++ wsX30 ++ wsX20)
def wsX5_sumDraw : List Cond := .code yX5_sumDraw cX5_sumDraw 4 (some .int) :: ([.fieldLink RX5 106 "PowerRails$Plan" "rails" "I", .fieldLink RX5 18 "PowerRails$Run" "states" "[I", .methodLink RX5 47 yX3_number, .instanceMethod yX3_number, .selects RX3 yX3_number yX3_number, .initialized RX3, .code yX3_number cX3_number 3 (some .int), .fieldLink RX3 11 "PowerRails$Plan" "numbers" "[I"] ++ wsX30 ++ wsX50)
def wsX5_whyTrip : List Cond := .code yX5_whyTrip cX5_whyTrip 5 (some .int) :: ([.fieldLink RX5 66 "PowerRails$Run" "latestDraw" "I", .fieldLink RX5 125 "PowerRails$Plan" "limit" "I", .fieldLink RX5 106 "PowerRails$Plan" "rails" "I", .fieldLink RX5 18 "PowerRails$Run" "states" "[I", .fieldLink RX5 25 "PowerRails$Run" "asked" "[I", .methodLink RX5 47 yX3_number, .instanceMethod yX3_number, .selects RX3 yX3_number yX3_number, .initialized RX3, .code yX3_number cX3_number 3 (some .int), .fieldLink RX3 11 "PowerRails$Plan" "numbers" "[I"] ++ wsX50 ++ wsX30)
def wsX5_trip : List Cond := .code yX5_trip cX5_trip 3 none :: ([.fieldLink RX5 63 "PowerRails$Run" "trips" "I", .fieldLink RX5 12 "PowerRails$Run" "history" "LPowerRails$History;", .fieldLink RX5 51 "PowerRails$Run" "tick" "I", .fieldLink RX5 60 "PowerRails$Run" "tries" "I", .fieldLink RX5 128 "PowerRails$Plan" "behind" "I", .fieldLink RX5 54 "PowerRails$Run" "held" "I", .methodLink RX5 121 yX2_note, .instanceMethod yX2_note, .selects RX2 yX2_note yX2_note, .initialized RX2, .code yX2_note cX2_note 4 none, .fieldLink RX2 19 "PowerRails$History" "size" "I", .fieldLink RX2 9 "PowerRails$History" "ticks" "[I", .fieldLink RX2 13 "PowerRails$History" "who" "[I", .fieldLink RX2 16 "PowerRails$History" "became" "[I"] ++ wsX50 ++ wsX30 ++ wsX20)
def wsX5_growOlder : List Cond := .code yX5_growOlder cX5_growOlder 3 none :: ([.fieldLink RX5 106 "PowerRails$Plan" "rails" "I", .fieldLink RX5 22 "PowerRails$Run" "since" "[I", .fieldLink RX5 25 "PowerRails$Run" "asked" "[I", .fieldLink RX5 51 "PowerRails$Run" "tick" "I", .fieldLink RX5 54 "PowerRails$Run" "held" "I"] ++ wsX30 ++ wsX50)
def wsX5_passTick_r1 : List Cond := [Cond.fieldLink RX5 66 "PowerRails$Run" "latestDraw" "I", Cond.fieldLink RX5 69 "PowerRails$Run" "greatestDraw" "I", Cond.methodLink RX5 80 Lib.Math.max.name, Cond.static Lib.Math.max.name, Cond.initialized "java/lang/Math", Cond.code Lib.Math.max.name Lib.Math.max.code 2 (some .int), Cond.methodLink RX5 72 yX5_settle, Cond.instanceMethod yX5_settle, Cond.selects RX5 yX5_settle yX5_settle, Cond.initialized RX5, Cond.code yX5_settle cX5_settle 4 none, Cond.methodLink RX5 95 yX5_railsThatMay, Cond.instanceMethod yX5_railsThatMay, Cond.selects RX5 yX5_railsThatMay yX5_railsThatMay, Cond.code yX5_railsThatMay cX5_railsThatMay 5 (some .int), Cond.fieldLink RX5 54 "PowerRails$Run" "held" "I", Cond.fieldLink RX5 38 "PowerRails$Run" "key" "Z", Cond.fieldLink RX5 106 "PowerRails$Plan" "rails" "I", Cond.methodLink RX5 102 yX5_railsThatAre, Cond.instanceMethod yX5_railsThatAre, Cond.selects RX5 yX5_railsThatAre yX5_railsThatAre, Cond.code yX5_railsThatAre cX5_railsThatAre 4 (some .int), Cond.fieldLink RX5 18 "PowerRails$Run" "states" "[I", Cond.methodLink RX5 109 yX3_holdsWith]
def wsX5_passTick_r2 : List Cond := [Cond.instanceMethod yX3_holdsWith, Cond.selects RX3 yX3_holdsWith yX3_holdsWith, Cond.initialized RX3, Cond.code yX3_holdsWith cX3_holdsWith 3 (some .boolean), Cond.fieldLink RX3 15 "PowerRails$Plan" "tables" "[J", Cond.methodLink RX5 98 yX5_changeRails, Cond.instanceMethod yX5_changeRails, Cond.selects RX5 yX5_changeRails yX5_changeRails, Cond.code yX5_changeRails cX5_changeRails 6 (some .boolean), Cond.methodLink RX5 113 yX5_nextState, Cond.instanceMethod yX5_nextState, Cond.selects RX5 yX5_nextState yX5_nextState, Cond.code yX5_nextState cX5_nextState 5 (some .int), Cond.fieldLink RX5 34 "PowerRails$Run" "dead" "I", Cond.fieldLink RX5 22 "PowerRails$Run" "since" "[I", Cond.fieldLink RX5 28 "PowerRails$Run" "takes" "[I", Cond.methodLink RX5 47 yX3_number, Cond.instanceMethod yX3_number, Cond.selects RX3 yX3_number yX3_number, Cond.code yX3_number cX3_number 3 (some .int), Cond.fieldLink RX3 11 "PowerRails$Plan" "numbers" "[I", Cond.methodLink RX5 117 yX5_become, Cond.instanceMethod yX5_become, Cond.selects RX5 yX5_become yX5_become]
def wsX5_passTick_r3 : List Cond := [Cond.code yX5_become cX5_become 3 none, Cond.fieldLink RX5 25 "PowerRails$Run" "asked" "[I", Cond.fieldLink RX5 31 "PowerRails$Run" "timesGood" "[I", Cond.fieldLink RX5 12 "PowerRails$Run" "history" "LPowerRails$History;", Cond.fieldLink RX5 51 "PowerRails$Run" "tick" "I", Cond.methodLink RX5 121 yX2_note, Cond.instanceMethod yX2_note, Cond.selects RX2 yX2_note yX2_note, Cond.initialized RX2, Cond.code yX2_note cX2_note 4 none, Cond.fieldLink RX2 19 "PowerRails$History" "size" "I", Cond.fieldLink RX2 9 "PowerRails$History" "ticks" "[I", Cond.fieldLink RX2 13 "PowerRails$History" "who" "[I", Cond.fieldLink RX2 16 "PowerRails$History" "became" "[I", Cond.methodLink RX5 76 yX5_sumDraw, Cond.instanceMethod yX5_sumDraw, Cond.selects RX5 yX5_sumDraw yX5_sumDraw, Cond.code yX5_sumDraw cX5_sumDraw 4 (some .int), Cond.methodLink RX5 85 yX5_whyTrip, Cond.instanceMethod yX5_whyTrip, Cond.selects RX5 yX5_whyTrip yX5_whyTrip, Cond.code yX5_whyTrip cX5_whyTrip 5 (some .int), Cond.fieldLink RX5 125 "PowerRails$Plan" "limit" "I", Cond.methodLink RX5 88 yX5_trip]
def wsX5_passTick_r4 : List Cond := [Cond.instanceMethod yX5_trip, Cond.selects RX5 yX5_trip yX5_trip, Cond.code yX5_trip cX5_trip 3 none, Cond.fieldLink RX5 63 "PowerRails$Run" "trips" "I", Cond.fieldLink RX5 60 "PowerRails$Run" "tries" "I", Cond.fieldLink RX5 128 "PowerRails$Plan" "behind" "I", Cond.methodLink RX5 92 yX5_growOlder, Cond.instanceMethod yX5_growOlder, Cond.selects RX5 yX5_growOlder yX5_growOlder, Cond.code yX5_growOlder cX5_growOlder 3 none]
def wsX5_passTick : List Cond := .code yX5_passTick cX5_passTick 3 none :: ((wsX5_passTick_r1 ++ (wsX5_passTick_r2 ++ (wsX5_passTick_r3 ++ wsX5_passTick_r4))) ++ wsX50 ++ wsX30 ++ wsX20)
def wsX6_init : List Cond := .code yX6_init cX6_init 1 none :: ([.methodLink RX6 3 objectInit, .instanceMethod objectInit, .code objectInit ⟨#[0xb1]⟩ 1 none, .classLink RX6 11 "[[I", .arrayClass .int, .fieldLink RX6 13 "PowerRails$Sheets" "cells" "[[I", .fieldLink RX6 16 "PowerRails$Sheets" "lanes" "[I", .fieldLink RX6 20 "PowerRails$Sheets" "sizes" "[I", .methodLink RX6 23 yJ7_fill_53178, .static yJ7_fill_53178, .initialized RJ7, .code yJ7_fill_53178 cJ7_fill_53178 4 none] ++ wsX60)
def wsX6_hasPlace : List Cond := .code yX6_hasPlace cX6_hasPlace 1 (some .boolean) :: ([])
def wsX6_isLane : List Cond := .code yX6_isLane cX6_isLane 1 (some .boolean) :: ([])
def wsX6_renew : List Cond := .code yX6_renew cX6_renew 4 none :: ([.fieldLink RX6 16 "PowerRails$Sheets" "lanes" "[I", .fieldLink RX6 20 "PowerRails$Sheets" "sizes" "[I", .fieldLink RX6 13 "PowerRails$Sheets" "cells" "[[I", .methodLink RX6 23 yJ7_fill_53178, .static yJ7_fill_53178, .initialized RJ7, .code yJ7_fill_53178 cJ7_fill_53178 4 none] ++ wsX60)
def wsX6_put : List Cond := .code yX6_put cX6_put 4 none :: ([.fieldLink RX6 16 "PowerRails$Sheets" "lanes" "[I", .fieldLink RX6 13 "PowerRails$Sheets" "cells" "[[I"] ++ wsX60)
def wsX7_init : List Cond := .code yX7_init cX7_init 2 none :: ([.methodLink RX7 3 objectInit, .instanceMethod objectInit, .code objectInit ⟨#[0xb1]⟩ 1 none, .fieldLink RX7 9 "PowerRails$Stagger" "course" "LPowerRails$Course;", .arrayClass .int, .fieldLink RX7 15 "PowerRails$Stagger" "row" "[I", .fieldLink RX7 19 "PowerRails$Stagger" "known" "Z", .fieldLink RX7 23 "PowerRails$Stagger" "last" "I"] ++ wsX70)
def wsX7_keepIfBelowLimit_r1 : List Cond := [Cond.fieldLink RX7 9 "PowerRails$Stagger" "course" "LPowerRails$Course;", Cond.fieldLink RX7 61 "PowerRails$Course" "peak" "I", Cond.fieldLink RX7 64 "PowerRails$Plan" "limit" "I", Cond.fieldLink RX7 49 "PowerRails$Course" "last" "I", Cond.fieldLink RX7 23 "PowerRails$Stagger" "last" "I", Cond.fieldLink RX7 33 "PowerRails$Course" "waits" "[I", Cond.fieldLink RX7 15 "PowerRails$Stagger" "row" "[I", Cond.methodLink RX7 69 arraycopyName, Cond.native arraycopyName, Cond.static arraycopyName, Cond.initialized "java/lang/System", Cond.methodLink RX7 58 yX0_findPeak, Cond.instanceMethod yX0_findPeak, Cond.selects RX0 yX0_findPeak yX0_findPeak, Cond.initialized RX0, Cond.code yX0_findPeak cX0_findPeak 4 none, Cond.fieldLink RX0 27 "PowerRails$Plan" "rails" "I", Cond.fieldLink RX0 21 "PowerRails$Course" "goodAt" "[I", Cond.fieldLink RX0 24 "PowerRails$Course" "changes" "[I", Cond.fieldLink RX0 18 "PowerRails$Course" "risesAt" "[I", Cond.fieldLink RX0 70 "PowerRails$Course" "peak" "I", Cond.fieldLink RX0 73 "PowerRails$Course" "peakTick" "I", Cond.fieldLink RX0 46 "PowerRails$Course" "last" "I", Cond.methodLink RX0 66 yX0_isUp]
def wsX7_keepIfBelowLimit_r2 : List Cond := [Cond.instanceMethod yX0_isUp, Cond.selects RX0 yX0_isUp yX0_isUp, Cond.code yX0_isUp cX0_isUp 2 (some .boolean), Cond.fieldLink RX0 43 "PowerRails$Course" "up" "I", Cond.methodLink RX0 33 yX3_number, Cond.instanceMethod yX3_number, Cond.selects RX3 yX3_number yX3_number, Cond.initialized RX3, Cond.code yX3_number cX3_number 3 (some .int), Cond.fieldLink RX3 11 "PowerRails$Plan" "numbers" "[I"]
def wsX7_keepIfBelowLimit : List Cond := .code yX7_keepIfBelowLimit cX7_keepIfBelowLimit 2 none :: ((wsX7_keepIfBelowLimit_r1 ++ wsX7_keepIfBelowLimit_r2) ++ wsX70 ++ wsX00 ++ wsX30)
def wsX7_nextRow : List Cond := .code yX7_nextRow cX7_nextRow 3 (some .boolean) :: ([.fieldLink RX7 9 "PowerRails$Stagger" "course" "LPowerRails$Course;", .fieldLink RX7 33 "PowerRails$Course" "waits" "[I"] ++ wsX70 ++ wsX00)
def wsX7_findRow_r1 : List Cond := [Cond.fieldLink RX7 19 "PowerRails$Stagger" "known" "Z", Cond.fieldLink RX7 23 "PowerRails$Stagger" "last" "I", Cond.fieldLink RX7 15 "PowerRails$Stagger" "row" "[I", Cond.fieldLink RX7 9 "PowerRails$Stagger" "course" "LPowerRails$Course;", Cond.fieldLink RX7 33 "PowerRails$Course" "waits" "[I", Cond.fieldLink RX7 46 "PowerRails$Course" "up" "I", Cond.fieldLink RX7 49 "PowerRails$Course" "last" "I", Cond.methodLink RX7 27 yJ7_fill_53178, Cond.static yJ7_fill_53178, Cond.initialized RJ7, Cond.code yJ7_fill_53178 cJ7_fill_53178 4 none, Cond.methodLink RX7 38 yX0_copyTakes, Cond.instanceMethod yX0_copyTakes, Cond.selects RX0 yX0_copyTakes yX0_copyTakes, Cond.initialized RX0, Cond.code yX0_copyTakes cX0_copyTakes 2 none, Cond.fieldLink RX0 15 "PowerRails$Course" "takes" "[I", Cond.methodLink RX0 37 arraycopyName, Cond.native arraycopyName, Cond.static arraycopyName, Cond.initialized "java/lang/System", Cond.methodLink RX7 42 yX0_follow, Cond.instanceMethod yX0_follow, Cond.selects RX0 yX0_follow yX0_follow]
def wsX7_findRow_r2 : List Cond := [Cond.code yX0_follow cX0_follow 7 none, Cond.fieldLink RX0 43 "PowerRails$Course" "up" "I", Cond.fieldLink RX0 46 "PowerRails$Course" "last" "I", Cond.fieldLink RX0 21 "PowerRails$Course" "goodAt" "[I", Cond.methodLink RX0 49 yX0_begin, Cond.instanceMethod yX0_begin, Cond.selects RX0 yX0_begin yX0_begin, Cond.code yX0_begin cX0_begin 5 (some .int), Cond.fieldLink RX0 27 "PowerRails$Plan" "rails" "I", Cond.fieldLink RX0 18 "PowerRails$Course" "risesAt" "[I", Cond.fieldLink RX0 9 "PowerRails$Course" "waits" "[I", Cond.methodLink RX0 57 yX3_holdsWith, Cond.instanceMethod yX3_holdsWith, Cond.selects RX3 yX3_holdsWith yX3_holdsWith, Cond.initialized RX3, Cond.code yX3_holdsWith cX3_holdsWith 3 (some .boolean), Cond.fieldLink RX3 15 "PowerRails$Plan" "tables" "[J", Cond.methodLink RX0 53 yX0_soonest, Cond.instanceMethod yX0_soonest, Cond.selects RX0 yX0_soonest yX0_soonest, Cond.code yX0_soonest cX0_soonest 4 (some .int), Cond.methodLink RX0 61 Lib.Math.min.name, Cond.static Lib.Math.min.name, Cond.initialized "java/lang/Math"]
def wsX7_findRow_r3 : List Cond := [Cond.code Lib.Math.min.name Lib.Math.min.code 2 (some .int), Cond.methodLink RX7 50 yX7_keepIfBelowLimit, Cond.instanceMethod yX7_keepIfBelowLimit, Cond.selects RX7 yX7_keepIfBelowLimit yX7_keepIfBelowLimit, Cond.initialized RX7, Cond.code yX7_keepIfBelowLimit cX7_keepIfBelowLimit 2 none, Cond.fieldLink RX7 61 "PowerRails$Course" "peak" "I", Cond.fieldLink RX7 64 "PowerRails$Plan" "limit" "I", Cond.methodLink RX7 69 arraycopyName, Cond.methodLink RX7 58 yX0_findPeak, Cond.instanceMethod yX0_findPeak, Cond.selects RX0 yX0_findPeak yX0_findPeak, Cond.code yX0_findPeak cX0_findPeak 4 none, Cond.fieldLink RX0 24 "PowerRails$Course" "changes" "[I", Cond.fieldLink RX0 70 "PowerRails$Course" "peak" "I", Cond.fieldLink RX0 73 "PowerRails$Course" "peakTick" "I", Cond.methodLink RX0 66 yX0_isUp, Cond.instanceMethod yX0_isUp, Cond.selects RX0 yX0_isUp yX0_isUp, Cond.code yX0_isUp cX0_isUp 2 (some .boolean), Cond.methodLink RX0 33 yX3_number, Cond.instanceMethod yX3_number, Cond.selects RX3 yX3_number yX3_number, Cond.code yX3_number cX3_number 3 (some .int)]
def wsX7_findRow_r4 : List Cond := [Cond.fieldLink RX3 11 "PowerRails$Plan" "numbers" "[I", Cond.methodLink RX7 54 yX7_nextRow, Cond.instanceMethod yX7_nextRow, Cond.selects RX7 yX7_nextRow yX7_nextRow, Cond.code yX7_nextRow cX7_nextRow 3 (some .boolean)]
def wsX7_findRow : List Cond := .code yX7_findRow cX7_findRow 8 none :: ((wsX7_findRow_r1 ++ (wsX7_findRow_r2 ++ (wsX7_findRow_r3 ++ wsX7_findRow_r4))) ++ wsX70 ++ wsX00 ++ wsX30)
def wsX8_init : List Cond := .code yX8_init cX8_init 1 none :: ([.methodLink RX8 1 objectInit, .instanceMethod objectInit, .code objectInit ⟨#[0xb1]⟩ 1 none, .arrayClass .int, .fieldLink RX8 9 "PowerRails$Tape" "bytes" "[I", .fieldLink RX8 13 "PowerRails$Tape" "length" "I"] ++ wsX80)
def wsX8_push : List Cond := .code yX8_push cX8_push 4 (some .boolean) :: ([.fieldLink RX8 13 "PowerRails$Tape" "length" "I", .fieldLink RX8 9 "PowerRails$Tape" "bytes" "[I"] ++ wsX80)
def wsX9_init : List Cond := .code yX9_init cX9_init 2 none :: ([.methodLink RX9 3 objectInit, .instanceMethod objectInit, .code objectInit ⟨#[0xb1]⟩ 1 none, .fieldLink RX9 9 "PowerRails$Ways" "course" "LPowerRails$Course;", .arrayClass .int, .fieldLink RX9 15 "PowerRails$Ways" "behind" "[I", .arrayClass .boolean, .fieldLink RX9 19 "PowerRails$Ways" "behindKnown" "[Z", .fieldLink RX9 23 "PowerRails$Ways" "peaksKnown" "Z"] ++ wsX90)
def wsX9_forget : List Cond := .code yX9_forget cX9_forget 2 none :: ([.fieldLink RX9 23 "PowerRails$Ways" "peaksKnown" "Z", .fieldLink RX9 19 "PowerRails$Ways" "behindKnown" "[Z"] ++ wsX90)
def wsX9_start : List Cond := .code yX9_start cX9_start 2 none :: ([.fieldLink RX9 9 "PowerRails$Ways" "course" "LPowerRails$Course;", .methodLink RX9 75 yX0_setWaits, .instanceMethod yX0_setWaits, .selects RX0 yX0_setWaits yX0_setWaits, .initialized RX0, .code yX0_setWaits cX0_setWaits 3 none, .fieldLink RX0 27 "PowerRails$Plan" "rails" "I", .fieldLink RX0 9 "PowerRails$Course" "waits" "[I", .methodLink RX0 33 yX3_number, .instanceMethod yX3_number, .selects RX3 yX3_number yX3_number, .initialized RX3, .code yX3_number cX3_number 3 (some .int), .fieldLink RX3 11 "PowerRails$Plan" "numbers" "[I", .methodLink RX9 78 yX0_setTakes, .instanceMethod yX0_setTakes, .selects RX0 yX0_setTakes yX0_setTakes, .code yX0_setTakes cX0_setTakes 4 none, .fieldLink RX0 15 "PowerRails$Course" "takes" "[I"] ++ wsX90 ++ wsX30 ++ wsX00)
def wsX9_nextWay : List Cond := .code yX9_nextWay cX9_nextWay 4 (some .boolean) :: ([.fieldLink RX9 81 "PowerRails$Plan" "rails" "I", .fieldLink RX9 9 "PowerRails$Ways" "course" "LPowerRails$Course;", .fieldLink RX9 84 "PowerRails$Course" "takes" "[I", .methodLink RX9 87 yX3_number, .instanceMethod yX3_number, .selects RX3 yX3_number yX3_number, .initialized RX3, .code yX3_number cX3_number 3 (some .int), .fieldLink RX3 11 "PowerRails$Plan" "numbers" "[I"] ++ wsX30 ++ wsX90 ++ wsX00)
def wsX9_mostBehind_r1 : List Cond := [Cond.fieldLink RX9 19 "PowerRails$Ways" "behindKnown" "[Z", Cond.fieldLink RX9 15 "PowerRails$Ways" "behind" "[I", Cond.fieldLink RX9 9 "PowerRails$Ways" "course" "LPowerRails$Course;", Cond.fieldLink RX9 46 "PowerRails$Course" "goodAt" "[I", Cond.methodLink RX9 49 Lib.Math.max.name, Cond.static Lib.Math.max.name, Cond.initialized "java/lang/Math", Cond.code Lib.Math.max.name Lib.Math.max.code 2 (some .int), Cond.methodLink RX9 27 yX3_sourcesOf, Cond.instanceMethod yX3_sourcesOf, Cond.selects RX3 yX3_sourcesOf yX3_sourcesOf, Cond.initialized RX3, Cond.code yX3_sourcesOf cX3_sourcesOf 5 (some .int), Cond.fieldLink RX3 19 "PowerRails$Plan" "rails" "I", Cond.methodLink RX3 45 yX3_number, Cond.instanceMethod yX3_number, Cond.selects RX3 yX3_number yX3_number, Cond.code yX3_number cX3_number 3 (some .int), Cond.fieldLink RX3 11 "PowerRails$Plan" "numbers" "[I", Cond.methodLink RX3 49 yX3_allRails, Cond.instanceMethod yX3_allRails, Cond.selects RX3 yX3_allRails yX3_allRails, Cond.code yX3_allRails cX3_allRails 1 (some .int), Cond.methodLink RX9 33 yX3_upAmong]
def wsX9_mostBehind_r2 : List Cond := [Cond.instanceMethod yX3_upAmong, Cond.selects RX3 yX3_upAmong yX3_upAmong, Cond.code yX3_upAmong cX3_upAmong 6 (some .int), Cond.methodLink RX3 38 yX3_holdsWith, Cond.instanceMethod yX3_holdsWith, Cond.selects RX3 yX3_holdsWith yX3_holdsWith, Cond.code yX3_holdsWith cX3_holdsWith 3 (some .boolean), Cond.fieldLink RX3 15 "PowerRails$Plan" "tables" "[J", Cond.methodLink RX9 36 yX9_start, Cond.instanceMethod yX9_start, Cond.selects RX9 yX9_start yX9_start, Cond.initialized RX9, Cond.code yX9_start cX9_start 2 none, Cond.methodLink RX9 75 yX0_setWaits, Cond.instanceMethod yX0_setWaits, Cond.selects RX0 yX0_setWaits yX0_setWaits, Cond.initialized RX0, Cond.code yX0_setWaits cX0_setWaits 3 none, Cond.fieldLink RX0 27 "PowerRails$Plan" "rails" "I", Cond.fieldLink RX0 9 "PowerRails$Course" "waits" "[I", Cond.methodLink RX0 33 yX3_number, Cond.methodLink RX9 78 yX0_setTakes, Cond.instanceMethod yX0_setTakes, Cond.selects RX0 yX0_setTakes yX0_setTakes]
def wsX9_mostBehind_r3 : List Cond := [Cond.code yX0_setTakes cX0_setTakes 4 none, Cond.fieldLink RX0 15 "PowerRails$Course" "takes" "[I", Cond.methodLink RX9 42 yX0_follow, Cond.instanceMethod yX0_follow, Cond.selects RX0 yX0_follow yX0_follow, Cond.code yX0_follow cX0_follow 7 none, Cond.fieldLink RX0 43 "PowerRails$Course" "up" "I", Cond.fieldLink RX0 46 "PowerRails$Course" "last" "I", Cond.fieldLink RX0 21 "PowerRails$Course" "goodAt" "[I", Cond.methodLink RX0 49 yX0_begin, Cond.instanceMethod yX0_begin, Cond.selects RX0 yX0_begin yX0_begin, Cond.code yX0_begin cX0_begin 5 (some .int), Cond.fieldLink RX0 18 "PowerRails$Course" "risesAt" "[I", Cond.methodLink RX0 57 yX3_holdsWith, Cond.methodLink RX0 53 yX0_soonest, Cond.instanceMethod yX0_soonest, Cond.selects RX0 yX0_soonest yX0_soonest, Cond.code yX0_soonest cX0_soonest 4 (some .int), Cond.methodLink RX0 61 Lib.Math.min.name, Cond.static Lib.Math.min.name, Cond.code Lib.Math.min.name Lib.Math.min.code 2 (some .int), Cond.methodLink RX9 55 yX9_nextWay, Cond.instanceMethod yX9_nextWay]
def wsX9_mostBehind_r4 : List Cond := [Cond.selects RX9 yX9_nextWay yX9_nextWay, Cond.code yX9_nextWay cX9_nextWay 4 (some .boolean), Cond.fieldLink RX9 81 "PowerRails$Plan" "rails" "I", Cond.fieldLink RX9 84 "PowerRails$Course" "takes" "[I", Cond.methodLink RX9 87 yX3_number]
def wsX9_mostBehind : List Cond := .code yX9_mostBehind cX9_mostBehind 10 (some .int) :: ((wsX9_mostBehind_r1 ++ (wsX9_mostBehind_r2 ++ (wsX9_mostBehind_r3 ++ wsX9_mostBehind_r4))) ++ wsX90 ++ wsX00 ++ wsX30)
def wsX9_findPeaks_r1 : List Cond := [Cond.fieldLink RX9 23 "PowerRails$Ways" "peaksKnown" "Z", Cond.fieldLink RX9 9 "PowerRails$Ways" "course" "LPowerRails$Course;", Cond.fieldLink RX9 62 "PowerRails$Course" "peak" "I", Cond.fieldLink RX9 66 "PowerRails$Ways" "greatestPeak" "I", Cond.fieldLink RX9 69 "PowerRails$Ways" "leastPeak" "I", Cond.methodLink RX9 49 Lib.Math.max.name, Cond.static Lib.Math.max.name, Cond.initialized "java/lang/Math", Cond.code Lib.Math.max.name Lib.Math.max.code 2 (some .int), Cond.methodLink RX9 72 Lib.Math.min.name, Cond.static Lib.Math.min.name, Cond.code Lib.Math.min.name Lib.Math.min.code 2 (some .int), Cond.methodLink RX9 33 yX3_upAmong, Cond.instanceMethod yX3_upAmong, Cond.selects RX3 yX3_upAmong yX3_upAmong, Cond.initialized RX3, Cond.code yX3_upAmong cX3_upAmong 6 (some .int), Cond.fieldLink RX3 19 "PowerRails$Plan" "rails" "I", Cond.methodLink RX3 38 yX3_holdsWith, Cond.instanceMethod yX3_holdsWith, Cond.selects RX3 yX3_holdsWith yX3_holdsWith, Cond.code yX3_holdsWith cX3_holdsWith 3 (some .boolean), Cond.fieldLink RX3 15 "PowerRails$Plan" "tables" "[J", Cond.methodLink RX9 36 yX9_start]
def wsX9_findPeaks_r2 : List Cond := [Cond.instanceMethod yX9_start, Cond.selects RX9 yX9_start yX9_start, Cond.initialized RX9, Cond.code yX9_start cX9_start 2 none, Cond.methodLink RX9 75 yX0_setWaits, Cond.instanceMethod yX0_setWaits, Cond.selects RX0 yX0_setWaits yX0_setWaits, Cond.initialized RX0, Cond.code yX0_setWaits cX0_setWaits 3 none, Cond.fieldLink RX0 27 "PowerRails$Plan" "rails" "I", Cond.fieldLink RX0 9 "PowerRails$Course" "waits" "[I", Cond.methodLink RX0 33 yX3_number, Cond.instanceMethod yX3_number, Cond.selects RX3 yX3_number yX3_number, Cond.code yX3_number cX3_number 3 (some .int), Cond.fieldLink RX3 11 "PowerRails$Plan" "numbers" "[I", Cond.methodLink RX9 78 yX0_setTakes, Cond.instanceMethod yX0_setTakes, Cond.selects RX0 yX0_setTakes yX0_setTakes, Cond.code yX0_setTakes cX0_setTakes 4 none, Cond.fieldLink RX0 15 "PowerRails$Course" "takes" "[I", Cond.methodLink RX9 42 yX0_follow, Cond.instanceMethod yX0_follow, Cond.selects RX0 yX0_follow yX0_follow]
def wsX9_findPeaks_r3 : List Cond := [Cond.code yX0_follow cX0_follow 7 none, Cond.fieldLink RX0 43 "PowerRails$Course" "up" "I", Cond.fieldLink RX0 46 "PowerRails$Course" "last" "I", Cond.fieldLink RX0 21 "PowerRails$Course" "goodAt" "[I", Cond.methodLink RX0 49 yX0_begin, Cond.instanceMethod yX0_begin, Cond.selects RX0 yX0_begin yX0_begin, Cond.code yX0_begin cX0_begin 5 (some .int), Cond.fieldLink RX0 18 "PowerRails$Course" "risesAt" "[I", Cond.methodLink RX0 57 yX3_holdsWith, Cond.methodLink RX0 53 yX0_soonest, Cond.instanceMethod yX0_soonest, Cond.selects RX0 yX0_soonest yX0_soonest, Cond.code yX0_soonest cX0_soonest 4 (some .int), Cond.methodLink RX0 61 Lib.Math.min.name, Cond.methodLink RX9 59 yX0_findPeak, Cond.instanceMethod yX0_findPeak, Cond.selects RX0 yX0_findPeak yX0_findPeak, Cond.code yX0_findPeak cX0_findPeak 4 none, Cond.fieldLink RX0 24 "PowerRails$Course" "changes" "[I", Cond.fieldLink RX0 70 "PowerRails$Course" "peak" "I", Cond.fieldLink RX0 73 "PowerRails$Course" "peakTick" "I", Cond.methodLink RX0 66 yX0_isUp, Cond.instanceMethod yX0_isUp]
def wsX9_findPeaks_r4 : List Cond := [Cond.selects RX0 yX0_isUp yX0_isUp, Cond.code yX0_isUp cX0_isUp 2 (some .boolean), Cond.methodLink RX9 55 yX9_nextWay, Cond.instanceMethod yX9_nextWay, Cond.selects RX9 yX9_nextWay yX9_nextWay, Cond.code yX9_nextWay cX9_nextWay 4 (some .boolean), Cond.fieldLink RX9 81 "PowerRails$Plan" "rails" "I", Cond.fieldLink RX9 84 "PowerRails$Course" "takes" "[I", Cond.methodLink RX9 87 yX3_number]
def wsX9_findPeaks : List Cond := .code yX9_findPeaks cX9_findPeaks 6 none :: ((wsX9_findPeaks_r1 ++ (wsX9_findPeaks_r2 ++ (wsX9_findPeaks_r3 ++ wsX9_findPeaks_r4))) ++ wsX90 ++ wsX00 ++ wsX30)
def wsX10_init_r1 : List Cond := [Cond.methodLink RX10 1 objectInit, Cond.instanceMethod objectInit, Cond.code objectInit ⟨#[0xb1]⟩ 1 none, Cond.classLink RX10 7 RX8, Cond.instantiable RX8 2, Cond.initialized RX8, Cond.fieldLink RX10 10 "PowerRails" "tape" "LPowerRails$Tape;", Cond.classLink RX10 16 RX5, Cond.instantiable RX5 14, Cond.initialized RX5, Cond.fieldLink RX10 19 "PowerRails" "run" "LPowerRails$Run;", Cond.classLink RX10 23 RX0, Cond.instantiable RX0 9, Cond.initialized RX0, Cond.fieldLink RX10 26 "PowerRails" "course" "LPowerRails$Course;", Cond.classLink RX10 30 RX9, Cond.instantiable RX9 6, Cond.initialized RX9, Cond.fieldLink RX10 35 "PowerRails" "ways" "LPowerRails$Ways;", Cond.classLink RX10 39 RX7, Cond.instantiable RX7 4, Cond.initialized RX7, Cond.fieldLink RX10 42 "PowerRails" "staggering" "LPowerRails$Stagger;", Cond.classLink RX10 46 RX6]
def wsX10_init_r2 : List Cond := [Cond.instantiable RX6 3, Cond.initialized RX6, Cond.fieldLink RX10 49 "PowerRails" "sheets" "LPowerRails$Sheets;", Cond.classLink RX10 53 RX3, Cond.instantiable RX3 6, Cond.initialized RX3, Cond.fieldLink RX10 56 "PowerRails" "plan" "LPowerRails$Plan;", Cond.fieldLink RX10 60 "PowerRails" "spare" "LPowerRails$Plan;", Cond.classLink RX10 63 RX4, Cond.instantiable RX4 13, Cond.initialized RX4, Cond.fieldLink RX10 68 "PowerRails" "reader" "LPowerRails$Reader;", Cond.fieldLink RX10 72 "PowerRails" "latestFault" "I", Cond.methodLink RX10 9 yX8_init, Cond.instanceMethod yX8_init, Cond.code yX8_init cX8_init 1 none, Cond.methodLink RX8 1 objectInit, Cond.arrayClass .int, Cond.fieldLink RX8 9 "PowerRails$Tape" "bytes" "[I", Cond.fieldLink RX8 13 "PowerRails$Tape" "length" "I", Cond.methodLink RX10 18 yX5_init, Cond.instanceMethod yX5_init, Cond.code yX5_init cX5_init 1 none, Cond.methodLink RX5 3 objectInit]
def wsX10_init_r3 : List Cond := [Cond.classLink RX5 9 RX2, Cond.instantiable RX2 4, Cond.initialized RX2, Cond.fieldLink RX5 12 "PowerRails$Run" "history" "LPowerRails$History;", Cond.fieldLink RX5 18 "PowerRails$Run" "states" "[I", Cond.fieldLink RX5 22 "PowerRails$Run" "since" "[I", Cond.fieldLink RX5 25 "PowerRails$Run" "asked" "[I", Cond.fieldLink RX5 28 "PowerRails$Run" "takes" "[I", Cond.fieldLink RX5 31 "PowerRails$Run" "timesGood" "[I", Cond.fieldLink RX5 34 "PowerRails$Run" "dead" "I", Cond.fieldLink RX5 38 "PowerRails$Run" "key" "Z", Cond.methodLink RX5 11 yX2_init, Cond.instanceMethod yX2_init, Cond.code yX2_init cX2_init 1 none, Cond.methodLink RX2 1 objectInit, Cond.fieldLink RX2 9 "PowerRails$History" "ticks" "[I", Cond.fieldLink RX2 13 "PowerRails$History" "who" "[I", Cond.fieldLink RX2 16 "PowerRails$History" "became" "[I", Cond.fieldLink RX2 19 "PowerRails$History" "size" "I", Cond.methodLink RX10 25 yX0_init, Cond.instanceMethod yX0_init, Cond.code yX0_init cX0_init 1 none, Cond.methodLink RX0 3 objectInit, Cond.fieldLink RX0 9 "PowerRails$Course" "waits" "[I"]
def wsX10_init_r4 : List Cond := [Cond.fieldLink RX0 15 "PowerRails$Course" "takes" "[I", Cond.fieldLink RX0 18 "PowerRails$Course" "risesAt" "[I", Cond.fieldLink RX0 21 "PowerRails$Course" "goodAt" "[I", Cond.fieldLink RX0 24 "PowerRails$Course" "changes" "[I", Cond.methodLink RX10 32 yX9_init, Cond.instanceMethod yX9_init, Cond.code yX9_init cX9_init 2 none, Cond.methodLink RX9 3 objectInit, Cond.fieldLink RX9 9 "PowerRails$Ways" "course" "LPowerRails$Course;", Cond.fieldLink RX9 15 "PowerRails$Ways" "behind" "[I", Cond.arrayClass .boolean, Cond.fieldLink RX9 19 "PowerRails$Ways" "behindKnown" "[Z", Cond.fieldLink RX9 23 "PowerRails$Ways" "peaksKnown" "Z", Cond.methodLink RX10 41 yX7_init, Cond.instanceMethod yX7_init, Cond.code yX7_init cX7_init 2 none, Cond.methodLink RX7 3 objectInit, Cond.fieldLink RX7 9 "PowerRails$Stagger" "course" "LPowerRails$Course;", Cond.fieldLink RX7 15 "PowerRails$Stagger" "row" "[I", Cond.fieldLink RX7 19 "PowerRails$Stagger" "known" "Z", Cond.fieldLink RX7 23 "PowerRails$Stagger" "last" "I", Cond.methodLink RX10 48 yX6_init, Cond.instanceMethod yX6_init, Cond.code yX6_init cX6_init 1 none]
def wsX10_init_r5 : List Cond := [Cond.methodLink RX6 3 objectInit, Cond.classLink RX6 11 "[[I", Cond.fieldLink RX6 13 "PowerRails$Sheets" "cells" "[[I", Cond.fieldLink RX6 16 "PowerRails$Sheets" "lanes" "[I", Cond.fieldLink RX6 20 "PowerRails$Sheets" "sizes" "[I", Cond.methodLink RX6 23 yJ7_fill_53178, Cond.static yJ7_fill_53178, Cond.initialized RJ7, Cond.code yJ7_fill_53178 cJ7_fill_53178 4 none, Cond.methodLink RX10 55 yX3_init, Cond.instanceMethod yX3_init, Cond.code yX3_init cX3_init 1 none, Cond.methodLink RX3 3 objectInit, Cond.fieldLink RX3 11 "PowerRails$Plan" "numbers" "[I", Cond.arrayClass .long, Cond.fieldLink RX3 15 "PowerRails$Plan" "tables" "[J", Cond.fieldLink RX3 19 "PowerRails$Plan" "rails" "I", Cond.fieldLink RX3 23 "PowerRails$Plan" "limit" "I", Cond.fieldLink RX3 26 "PowerRails$Plan" "retry" "I", Cond.fieldLink RX3 29 "PowerRails$Plan" "behind" "I", Cond.methodLink RX10 65 yX4_init, Cond.instanceMethod yX4_init, Cond.code yX4_init cX4_init 3 none, Cond.methodLink RX4 3 objectInit]
def wsX10_init_r6 : List Cond := [Cond.fieldLink RX4 9 "PowerRails$Reader" "tape" "LPowerRails$Tape;", Cond.fieldLink RX4 15 "PowerRails$Reader" "plan" "LPowerRails$Plan;", Cond.fieldLink RX4 19 "PowerRails$Reader" "firstUse" "[I", Cond.classLink RX4 25 "[[J", Cond.fieldLink RX4 27 "PowerRails$Reader" "any" "[[J", Cond.fieldLink RX4 30 "PowerRails$Reader" "all" "[[J"]
def wsX10_init : List Cond := .code yX10_init cX10_init 1 none :: ((wsX10_init_r1 ++ (wsX10_init_r2 ++ (wsX10_init_r3 ++ (wsX10_init_r4 ++ (wsX10_init_r5 ++ wsX10_init_r6))))) ++ wsX80 ++ wsX100 ++ wsX50 ++ wsX00 ++ wsX90 ++ wsX70 ++ wsX60 ++ wsX30 ++ wsX40 ++ wsX20)
def wsX10_feed : List Cond := .code yX10_feed cX10_feed 3 (some .int) :: ([.fieldLink RX10 10 "PowerRails" "tape" "LPowerRails$Tape;", .fieldLink RX10 80 "PowerRails$Tape" "length" "I", .methodLink RX10 76 yX8_push, .instanceMethod yX8_push, .selects RX8 yX8_push yX8_push, .initialized RX8, .code yX8_push cX8_push 4 (some .boolean), .fieldLink RX8 13 "PowerRails$Tape" "length" "I", .fieldLink RX8 9 "PowerRails$Tape" "bytes" "[I"] ++ wsX100 ++ wsX80)
def wsX10_end : List Cond := .code yX10_end cX10_end 3 (some .int) :: ([.fieldLink RX10 10 "PowerRails" "tape" "LPowerRails$Tape;", .fieldLink RX10 80 "PowerRails$Tape" "length" "I"] ++ wsX100 ++ wsX80)
def wsX10_forgetReckoned : List Cond := .code yX10_forgetReckoned cX10_forgetReckoned 1 none :: ([.fieldLink RX10 35 "PowerRails" "ways" "LPowerRails$Ways;", .fieldLink RX10 42 "PowerRails" "staggering" "LPowerRails$Stagger;", .fieldLink RX10 324 "PowerRails$Stagger" "known" "Z", .methodLink RX10 321 yX9_forget, .instanceMethod yX9_forget, .selects RX9 yX9_forget yX9_forget, .initialized RX9, .code yX9_forget cX9_forget 2 none, .fieldLink RX9 23 "PowerRails$Ways" "peaksKnown" "Z", .fieldLink RX9 19 "PowerRails$Ways" "behindKnown" "[Z"] ++ wsX100 ++ wsX70 ++ wsX90)
def wsX10_text_r1 : List Cond := [Cond.fieldLink RX10 68 "PowerRails" "reader" "LPowerRails$Reader;", Cond.fieldLink RX10 60 "PowerRails" "spare" "LPowerRails$Plan;", Cond.fieldLink RX10 10 "PowerRails" "tape" "LPowerRails$Tape;", Cond.fieldLink RX10 80 "PowerRails$Tape" "length" "I", Cond.fieldLink RX10 87 "PowerRails$Reader" "fault" "I", Cond.fieldLink RX10 72 "PowerRails" "latestFault" "I", Cond.fieldLink RX10 90 "PowerRails$Reader" "faultPlace" "I", Cond.fieldLink RX10 56 "PowerRails" "plan" "LPowerRails$Plan;", Cond.fieldLink RX10 19 "PowerRails" "run" "LPowerRails$Run;", Cond.methodLink RX10 83 yX4_readText, Cond.instanceMethod yX4_readText, Cond.selects RX4 yX4_readText yX4_readText, Cond.initialized RX4, Cond.code yX4_readText cX4_readText 4 (some .int), Cond.fieldLink RX4 15 "PowerRails$Reader" "plan" "LPowerRails$Plan;", Cond.fieldLink RX4 36 "PowerRails$Reader" "place" "I", Cond.fieldLink RX4 40 "PowerRails$Reader" "told" "I", Cond.fieldLink RX4 43 "PowerRails$Reader" "fault" "I", Cond.fieldLink RX4 46 "PowerRails$Reader" "faultPlace" "I", Cond.fieldLink RX4 19 "PowerRails$Reader" "firstUse" "[I", Cond.fieldLink RX4 60 "PowerRails$Reader" "kind" "I", Cond.methodLink RX4 33 yX3_reset, Cond.instanceMethod yX3_reset, Cond.selects RX3 yX3_reset yX3_reset]
def wsX10_text_r2 : List Cond := [Cond.initialized RX3, Cond.code yX3_reset cX3_reset 1 none, Cond.fieldLink RX3 19 "PowerRails$Plan" "rails" "I", Cond.fieldLink RX3 23 "PowerRails$Plan" "limit" "I", Cond.fieldLink RX3 26 "PowerRails$Plan" "retry" "I", Cond.fieldLink RX3 29 "PowerRails$Plan" "behind" "I", Cond.methodLink RX4 49 yJ7_fill_53178, Cond.static yJ7_fill_53178, Cond.initialized RJ7, Cond.code yJ7_fill_53178 cJ7_fill_53178 4 none, Cond.methodLink RX4 55 yX4_step, Cond.instanceMethod yX4_step, Cond.selects RX4 yX4_step yX4_step, Cond.code yX4_step cX4_step 2 none, Cond.fieldLink RX4 9 "PowerRails$Reader" "tape" "LPowerRails$Tape;", Cond.fieldLink RX4 82 "PowerRails$Tape" "length" "I", Cond.fieldLink RX4 85 "PowerRails$Tape" "bytes" "[I", Cond.fieldLink RX4 88 "PowerRails$Reader" "from" "I", Cond.fieldLink RX4 91 "PowerRails$Reader" "value" "I", Cond.methodLink RX4 94 yX4_skipWithin, Cond.instanceMethod yX4_skipWithin, Cond.selects RX4 yX4_skipWithin yX4_skipWithin, Cond.code yX4_skipWithin cX4_skipWithin 3 none, Cond.methodLink RX4 98 yX4_valueNumber]
def wsX10_text_r3 : List Cond := [Cond.instanceMethod yX4_valueNumber, Cond.selects RX4 yX4_valueNumber yX4_valueNumber, Cond.code yX4_valueNumber cX4_valueNumber 2 none, Cond.methodLink RX4 101 yX4_refuse, Cond.instanceMethod yX4_refuse, Cond.selects RX4 yX4_refuse yX4_refuse, Cond.code yX4_refuse cX4_refuse 3 none, Cond.methodLink RX4 65 yX4_isWord, Cond.instanceMethod yX4_isWord, Cond.selects RX4 yX4_isWord yX4_isWord, Cond.code yX4_isWord cX4_isWord 3 (some .boolean), Cond.methodLink RX4 104 yJ0_length_8abf5, Cond.instanceMethod yJ0_length_8abf5, Cond.selects RJ0 yJ0_length_8abf5 yJ0_length_8abf5, Cond.initialized RJ0, Cond.code yJ0_length_8abf5 cJ0_length_8abf5 1 (some .int), Cond.fieldLink RJ0 9 "java/lang/String" "value" "[B", Cond.methodLink RJ0 335 yJ0_coder_7d493, Cond.instanceMethod yJ0_coder_7d493, Cond.selects RJ0 yJ0_coder_7d493 yJ0_coder_7d493, Cond.code yJ0_coder_7d493 cJ0_coder_7d493 1 (some .byte), Cond.fieldLink RJ0 38 "java/lang/String" "COMPACT_STRINGS" "Z", Cond.fieldLink RJ0 15 "java/lang/String" "coder" "B", Cond.methodLink RX4 109 yJ0_charAt_5068e]
def wsX10_text_r4 : List Cond := [Cond.instanceMethod yJ0_charAt_5068e, Cond.selects RJ0 yJ0_charAt_5068e yJ0_charAt_5068e, Cond.code yJ0_charAt_5068e cJ0_charAt_5068e 2 (some .char), Cond.methodLink RJ0 492 yJ0_isLatin1_aae02, Cond.instanceMethod yJ0_isLatin1_aae02, Cond.selects RJ0 yJ0_isLatin1_aae02 yJ0_isLatin1_aae02, Cond.code yJ0_isLatin1_aae02 cJ0_isLatin1_aae02 1 (some .boolean), Cond.methodLink RJ0 495 yJ1_charAt_3b067, Cond.static yJ1_charAt_3b067, Cond.initialized RJ1, Cond.code yJ1_charAt_3b067 cJ1_charAt_3b067 2 (some .char), Cond.methodLink RJ1 9 yJ0_checkIndex_df160, Cond.static yJ0_checkIndex_df160, Cond.code yJ0_checkIndex_df160 cJ0_checkIndex_df160 2 none, Cond.fieldLink RJ0 1053 "jdk/internal/util/Preconditions" "SIOOBE_FORMATTER" "Ljava/util/function/BiFunction;", Cond.methodLink RJ0 1059 yJ3_checkIndex_8e157, Cond.static yJ3_checkIndex_8e157, Cond.initialized RJ3, Cond.code yJ3_checkIndex_8e157 cJ3_checkIndex_8e157 3 (some .int), Cond.methodLink RJ0 498 yJ2_charAt_3b067, Cond.static yJ2_charAt_3b067, Cond.initialized RJ2, Cond.code yJ2_charAt_3b067 cJ2_charAt_3b067 2 (some .char), Cond.methodLink RJ2 67 yJ2_checkIndex_2214a]
def wsX10_text_r5 : List Cond := [Cond.static yJ2_checkIndex_2214a, Cond.code yJ2_checkIndex_2214a cJ2_checkIndex_2214a 2 none, Cond.methodLink RJ2 48 yJ2_length_9d52b, Cond.static yJ2_length_9d52b, Cond.code yJ2_length_9d52b cJ2_length_9d52b 1 (some .int), Cond.methodLink RJ2 414 yJ0_checkIndex_df160, Cond.methodLink RJ2 71 yJ2_getChar_3b067, Cond.static yJ2_getChar_3b067, Cond.code yJ2_getChar_3b067 cJ2_getChar_3b067 2 (some .char), Cond.fieldLink RJ2 44 "java/lang/StringUTF16" "$assertionsDisabled" "Z", Cond.fieldLink RJ2 59 "java/lang/StringUTF16" "HI_BYTE_SHIFT" "I", Cond.fieldLink RJ2 63 "java/lang/StringUTF16" "LO_BYTE_SHIFT" "I", Cond.methodLink RX4 69 yX4_readRail, Cond.instanceMethod yX4_readRail, Cond.selects RX4 yX4_readRail yX4_readRail, Cond.code yX4_readRail cX4_readRail 4 none, Cond.fieldLink RX4 138 "PowerRails$Plan" "rails" "I", Cond.methodLink RX4 141 yX3_addRail, Cond.instanceMethod yX3_addRail, Cond.selects RX3 yX3_addRail yX3_addRail, Cond.code yX3_addRail cX3_addRail 2 none, Cond.fieldLink RX3 15 "PowerRails$Plan" "tables" "[J", Cond.constantLong RX3 36 (-1), Cond.methodLink RX3 32 yX3_setNumber]
def wsX10_text_r6 : List Cond := [Cond.instanceMethod yX3_setNumber, Cond.selects RX3 yX3_setNumber yX3_setNumber, Cond.code yX3_setNumber cX3_setNumber 4 none, Cond.fieldLink RX3 11 "PowerRails$Plan" "numbers" "[I", Cond.methodLink RX4 144 yX4_takeTurn, Cond.instanceMethod yX4_takeTurn, Cond.selects RX4 yX4_takeTurn yX4_takeTurn, Cond.code yX4_takeTurn cX4_takeTurn 2 none, Cond.methodLink RX4 117 yX4_railNamed, Cond.instanceMethod yX4_railNamed, Cond.selects RX4 yX4_railNamed yX4_railNamed, Cond.code yX4_railNamed cX4_railNamed 2 (some .int), Cond.methodLink RX4 125 yX4_takeNumber, Cond.instanceMethod yX4_takeNumber, Cond.selects RX4 yX4_takeNumber yX4_takeNumber, Cond.code yX4_takeNumber cX4_takeNumber 4 (some .int), Cond.methodLink RX4 147 yX3_setNumber, Cond.methodLink RX4 153 yX4_readWith, Cond.instanceMethod yX4_readWith, Cond.selects RX4 yX4_readWith yX4_readWith, Cond.code yX4_readWith cX4_readWith 2 none, Cond.methodLink RX4 122 yX4_takeOnce, Cond.instanceMethod yX4_takeOnce, Cond.selects RX4 yX4_takeOnce yX4_takeOnce]
def wsX10_text_r7 : List Cond := [Cond.code yX4_takeOnce cX4_takeOnce 2 none, Cond.methodLink RX4 156 yX4_readFormula, Cond.instanceMethod yX4_readFormula, Cond.selects RX4 yX4_readFormula yX4_readFormula, Cond.code yX4_readFormula cX4_readFormula 5 none, Cond.fieldLink RX4 176 "PowerRails$Reader" "depth" "I", Cond.fieldLink RX4 27 "PowerRails$Reader" "any" "[[J", Cond.fieldLink RX4 182 "PowerRails$Plan" "tables" "[J", Cond.methodLink RX4 186 arraycopyName, Cond.native arraycopyName, Cond.static arraycopyName, Cond.initialized "java/lang/System", Cond.methodLink RX4 167 yX4_openDepth, Cond.instanceMethod yX4_openDepth, Cond.selects RX4 yX4_openDepth yX4_openDepth, Cond.code yX4_openDepth cX4_openDepth 2 none, Cond.fieldLink RX4 30 "PowerRails$Reader" "all" "[[J", Cond.constantLong RX4 203 (-1), Cond.methodLink RX4 200 yJ7_fill_d0a16, Cond.static yJ7_fill_d0a16, Cond.code yJ7_fill_d0a16 cJ7_fill_d0a16 5 none, Cond.methodLink RX4 170 yX4_takeUnit, Cond.instanceMethod yX4_takeUnit, Cond.selects RX4 yX4_takeUnit yX4_takeUnit]
def wsX10_text_r8 : List Cond := [Cond.code yX4_takeUnit cX4_takeUnit 2 (some .boolean), Cond.methodLink RX4 113 yX4_isSign, Cond.instanceMethod yX4_isSign, Cond.selects RX4 yX4_isSign yX4_isSign, Cond.code yX4_isSign cX4_isSign 2 (some .boolean), Cond.methodLink RX4 194 yX4_joinPart, Cond.instanceMethod yX4_joinPart, Cond.selects RX4 yX4_joinPart yX4_joinPart, Cond.code yX4_joinPart cX4_joinPart 4 none, Cond.fieldLink RX4 208 "PowerRails$Reader" "IN_WORD" "[J", Cond.methodLink RX4 205 yX3_number, Cond.instanceMethod yX3_number, Cond.selects RX3 yX3_number yX3_number, Cond.code yX3_number cX3_number 3 (some .int), Cond.methodLink RX4 197 yX4_noteUse, Cond.instanceMethod yX4_noteUse, Cond.selects RX4 yX4_noteUse yX4_noteUse, Cond.code yX4_noteUse cX4_noteUse 2 none, Cond.methodLink RX4 173 yX4_joinAny, Cond.instanceMethod yX4_joinAny, Cond.selects RX4 yX4_joinAny yX4_joinAny, Cond.code yX4_joinAny cX4_joinAny 2 none, Cond.methodLink RX4 179 yX4_closeDepth, Cond.instanceMethod yX4_closeDepth]
def wsX10_text_r9 : List Cond := [Cond.selects RX4 yX4_closeDepth yX4_closeDepth, Cond.code yX4_closeDepth cX4_closeDepth 2 none, Cond.methodLink RX4 72 yX4_readRule, Cond.instanceMethod yX4_readRule, Cond.selects RX4 yX4_readRule yX4_readRule, Cond.code yX4_readRule cX4_readRule 1 none, Cond.fieldLink RX4 129 "PowerRails$Plan" "limit" "I", Cond.fieldLink RX4 133 "PowerRails$Plan" "retry" "I", Cond.fieldLink RX4 135 "PowerRails$Plan" "behind" "I", Cond.methodLink RX4 75 yX4_takeSign, Cond.instanceMethod yX4_takeSign, Cond.selects RX4 yX4_takeSign yX4_takeSign, Cond.code yX4_takeSign cX4_takeSign 2 none, Cond.methodLink RX4 79 yX4_findNotTold, Cond.instanceMethod yX4_findNotTold, Cond.selects RX4 yX4_findNotTold yX4_findNotTold, Cond.code yX4_findNotTold cX4_findNotTold 3 none, Cond.methodLink RX4 211 Lib.Math.min.name, Cond.static Lib.Math.min.name, Cond.initialized "java/lang/Math", Cond.code Lib.Math.min.name Lib.Math.min.code 2 (some .int), Cond.methodLink RX10 93 yX5_reset, Cond.instanceMethod yX5_reset, Cond.selects RX5 yX5_reset yX5_reset]
def wsX10_text_r10 : List Cond := [Cond.initialized RX5, Cond.code yX5_reset cX5_reset 3 none, Cond.fieldLink RX5 12 "PowerRails$Run" "history" "LPowerRails$History;", Cond.fieldLink RX5 42 "PowerRails$History" "size" "I", Cond.fieldLink RX5 18 "PowerRails$Run" "states" "[I", Cond.fieldLink RX5 22 "PowerRails$Run" "since" "[I", Cond.fieldLink RX5 25 "PowerRails$Run" "asked" "[I", Cond.fieldLink RX5 28 "PowerRails$Run" "takes" "[I", Cond.fieldLink RX5 31 "PowerRails$Run" "timesGood" "[I", Cond.fieldLink RX5 34 "PowerRails$Run" "dead" "I", Cond.fieldLink RX5 38 "PowerRails$Run" "key" "Z", Cond.fieldLink RX5 51 "PowerRails$Run" "tick" "I", Cond.fieldLink RX5 54 "PowerRails$Run" "held" "I", Cond.fieldLink RX5 57 "PowerRails$Plan" "retry" "I", Cond.fieldLink RX5 60 "PowerRails$Run" "tries" "I", Cond.fieldLink RX5 63 "PowerRails$Run" "trips" "I", Cond.fieldLink RX5 66 "PowerRails$Run" "latestDraw" "I", Cond.fieldLink RX5 69 "PowerRails$Run" "greatestDraw" "I", Cond.methodLink RX5 47 yX3_number, Cond.methodLink RX10 97 yX10_forgetReckoned, Cond.instanceMethod yX10_forgetReckoned, Cond.selects RX10 yX10_forgetReckoned yX10_forgetReckoned, Cond.initialized RX10, Cond.code yX10_forgetReckoned cX10_forgetReckoned 1 none]
def wsX10_text_r11 : List Cond := [Cond.fieldLink RX10 35 "PowerRails" "ways" "LPowerRails$Ways;", Cond.fieldLink RX10 42 "PowerRails" "staggering" "LPowerRails$Stagger;", Cond.fieldLink RX10 324 "PowerRails$Stagger" "known" "Z", Cond.methodLink RX10 321 yX9_forget, Cond.instanceMethod yX9_forget, Cond.selects RX9 yX9_forget yX9_forget, Cond.initialized RX9, Cond.code yX9_forget cX9_forget 2 none, Cond.fieldLink RX9 23 "PowerRails$Ways" "peaksKnown" "Z", Cond.fieldLink RX9 19 "PowerRails$Ways" "behindKnown" "[Z"]
def wsX10_text : List Cond := .code yX10_text cX10_text 3 (some .int) :: ((wsX10_text_r1 ++ (wsX10_text_r2 ++ (wsX10_text_r3 ++ (wsX10_text_r4 ++ (wsX10_text_r5 ++ (wsX10_text_r6 ++ (wsX10_text_r7 ++ (wsX10_text_r8 ++ (wsX10_text_r9 ++ (wsX10_text_r10 ++ wsX10_text_r11)))))))))) ++ wsX100 ++ wsX80 ++ wsX40 ++ wsX30 ++ wsX50 ++ wsX20 ++ wsX70 ++ wsX90)
def wsX10_fault : List Cond := .code yX10_fault cX10_fault 1 (some .int) :: ([.fieldLink RX10 72 "PowerRails" "latestFault" "I"] ++ wsX100)
def wsX10_rail : List Cond := .code yX10_rail cX10_rail 3 (some .int) :: ([.fieldLink RX10 56 "PowerRails" "plan" "LPowerRails$Plan;", .methodLink RX10 100 yX3_hasRail, .instanceMethod yX3_hasRail, .selects RX3 yX3_hasRail yX3_hasRail, .initialized RX3, .code yX3_hasRail cX3_hasRail 2 (some .boolean), .fieldLink RX3 19 "PowerRails$Plan" "rails" "I", .methodLink RX10 104 yX3_number, .instanceMethod yX3_number, .selects RX3 yX3_number yX3_number, .code yX3_number cX3_number 3 (some .int), .fieldLink RX3 11 "PowerRails$Plan" "numbers" "[I"] ++ wsX100 ++ wsX30)
def wsX10_rule : List Cond := .code yX10_rule cX10_rule 2 (some .int) :: ([.fieldLink RX10 56 "PowerRails" "plan" "LPowerRails$Plan;", .fieldLink RX10 108 "PowerRails$Plan" "limit" "I", .fieldLink RX10 111 "PowerRails$Plan" "retry" "I", .fieldLink RX10 114 "PowerRails$Plan" "behind" "I", .fieldLink RX10 117 "PowerRails$Plan" "rails" "I"] ++ wsX100 ++ wsX30)
def wsX10_asNumber : List Cond := .code yX10_asNumber cX10_asNumber 1 (some .int) :: ([])
def wsX10_holds : List Cond := .code yX10_holds cX10_holds 3 (some .int) :: ([.fieldLink RX10 56 "PowerRails" "plan" "LPowerRails$Plan;", .methodLink RX10 100 yX3_hasRail, .instanceMethod yX3_hasRail, .selects RX3 yX3_hasRail yX3_hasRail, .initialized RX3, .code yX3_hasRail cX3_hasRail 2 (some .boolean), .fieldLink RX3 19 "PowerRails$Plan" "rails" "I", .methodLink RX10 120 yX3_allRails, .instanceMethod yX3_allRails, .selects RX3 yX3_allRails yX3_allRails, .code yX3_allRails cX3_allRails 1 (some .int), .methodLink RX10 124 yX3_holdsWith, .instanceMethod yX3_holdsWith, .selects RX3 yX3_holdsWith yX3_holdsWith, .code yX3_holdsWith cX3_holdsWith 3 (some .boolean), .fieldLink RX3 15 "PowerRails$Plan" "tables" "[J", .methodLink RX10 128 yX10_asNumber, .static yX10_asNumber, .initialized RX10, .code yX10_asNumber cX10_asNumber 1 (some .int)] ++ wsX100 ++ wsX30)
def wsX10_words : List Cond := .code yX10_words cX10_words 3 (some .int) :: ([.fieldLink RX10 56 "PowerRails" "plan" "LPowerRails$Plan;", .methodLink RX10 100 yX3_hasRail, .instanceMethod yX3_hasRail, .selects RX3 yX3_hasRail yX3_hasRail, .initialized RX3, .code yX3_hasRail cX3_hasRail 2 (some .boolean), .fieldLink RX3 19 "PowerRails$Plan" "rails" "I", .methodLink RX10 132 yX3_countLeastSets, .instanceMethod yX3_countLeastSets, .selects RX3 yX3_countLeastSets yX3_countLeastSets, .code yX3_countLeastSets cX3_countLeastSets 4 (some .int), .methodLink RX3 42 yX3_isLeastSet, .instanceMethod yX3_isLeastSet, .selects RX3 yX3_isLeastSet yX3_isLeastSet, .code yX3_isLeastSet cX3_isLeastSet 4 (some .boolean), .methodLink RX3 38 yX3_holdsWith, .instanceMethod yX3_holdsWith, .selects RX3 yX3_holdsWith yX3_holdsWith, .code yX3_holdsWith cX3_holdsWith 3 (some .boolean), .fieldLink RX3 15 "PowerRails$Plan" "tables" "[J", .methodLink RX10 136 yX3_leastSet, .instanceMethod yX3_leastSet, .selects RX3 yX3_leastSet yX3_leastSet, .code yX3_leastSet cX3_leastSet 5 (some .int)] ++ wsX100 ++ wsX30)
def wsX10_key : List Cond := .code yX10_key cX10_key 3 (some .int) :: ([.fieldLink RX10 19 "PowerRails" "run" "LPowerRails$Run;", .fieldLink RX10 139 "PowerRails$Run" "key" "Z", .fieldLink RX10 56 "PowerRails" "plan" "LPowerRails$Plan;", .methodLink RX10 128 yX10_asNumber, .static yX10_asNumber, .initialized RX10, .code yX10_asNumber cX10_asNumber 1 (some .int), .methodLink RX10 143 yX5_turnKey, .instanceMethod yX5_turnKey, .selects RX5 yX5_turnKey yX5_turnKey, .initialized RX5, .code yX5_turnKey cX5_turnKey 3 none, .fieldLink RX5 38 "PowerRails$Run" "key" "Z", .fieldLink RX5 57 "PowerRails$Plan" "retry" "I", .fieldLink RX5 60 "PowerRails$Run" "tries" "I", .fieldLink RX5 54 "PowerRails$Run" "held" "I"] ++ wsX100 ++ wsX50 ++ wsX30)
def wsX10_dead_r1 : List Cond := [Cond.fieldLink RX10 56 "PowerRails" "plan" "LPowerRails$Plan;", Cond.fieldLink RX10 19 "PowerRails" "run" "LPowerRails$Run;", Cond.fieldLink RX10 147 "PowerRails$Run" "dead" "I", Cond.methodLink RX10 100 yX3_hasRail, Cond.instanceMethod yX3_hasRail, Cond.selects RX3 yX3_hasRail yX3_hasRail, Cond.initialized RX3, Cond.code yX3_hasRail cX3_hasRail 2 (some .boolean), Cond.fieldLink RX3 19 "PowerRails$Plan" "rails" "I", Cond.methodLink RX10 128 yX10_asNumber, Cond.static yX10_asNumber, Cond.initialized RX10, Cond.code yX10_asNumber cX10_asNumber 1 (some .int), Cond.methodLink RX10 97 yX10_forgetReckoned, Cond.instanceMethod yX10_forgetReckoned, Cond.selects RX10 yX10_forgetReckoned yX10_forgetReckoned, Cond.code yX10_forgetReckoned cX10_forgetReckoned 1 none, Cond.fieldLink RX10 35 "PowerRails" "ways" "LPowerRails$Ways;", Cond.fieldLink RX10 42 "PowerRails" "staggering" "LPowerRails$Stagger;", Cond.fieldLink RX10 324 "PowerRails$Stagger" "known" "Z", Cond.methodLink RX10 321 yX9_forget, Cond.instanceMethod yX9_forget, Cond.selects RX9 yX9_forget yX9_forget, Cond.initialized RX9]
def wsX10_dead_r2 : List Cond := [Cond.code yX9_forget cX9_forget 2 none, Cond.fieldLink RX9 23 "PowerRails$Ways" "peaksKnown" "Z", Cond.fieldLink RX9 19 "PowerRails$Ways" "behindKnown" "[Z"]
def wsX10_dead : List Cond := .code yX10_dead cX10_dead 5 (some .int) :: ((wsX10_dead_r1 ++ wsX10_dead_r2) ++ wsX100 ++ wsX50 ++ wsX30 ++ wsX70 ++ wsX90)
def wsX10_time_r1 : List Cond := [Cond.fieldLink RX10 56 "PowerRails" "plan" "LPowerRails$Plan;", Cond.fieldLink RX10 19 "PowerRails" "run" "LPowerRails$Run;", Cond.fieldLink RX10 150 "PowerRails$Run" "takes" "[I", Cond.methodLink RX10 100 yX3_hasRail, Cond.instanceMethod yX3_hasRail, Cond.selects RX3 yX3_hasRail yX3_hasRail, Cond.initialized RX3, Cond.code yX3_hasRail cX3_hasRail 2 (some .boolean), Cond.fieldLink RX3 19 "PowerRails$Plan" "rails" "I", Cond.methodLink RX10 104 yX3_number, Cond.instanceMethod yX3_number, Cond.selects RX3 yX3_number yX3_number, Cond.code yX3_number cX3_number 3 (some .int), Cond.fieldLink RX3 11 "PowerRails$Plan" "numbers" "[I", Cond.methodLink RX10 97 yX10_forgetReckoned, Cond.instanceMethod yX10_forgetReckoned, Cond.selects RX10 yX10_forgetReckoned yX10_forgetReckoned, Cond.initialized RX10, Cond.code yX10_forgetReckoned cX10_forgetReckoned 1 none, Cond.fieldLink RX10 35 "PowerRails" "ways" "LPowerRails$Ways;", Cond.fieldLink RX10 42 "PowerRails" "staggering" "LPowerRails$Stagger;", Cond.fieldLink RX10 324 "PowerRails$Stagger" "known" "Z", Cond.methodLink RX10 321 yX9_forget, Cond.instanceMethod yX9_forget]
def wsX10_time_r2 : List Cond := [Cond.selects RX9 yX9_forget yX9_forget, Cond.initialized RX9, Cond.code yX9_forget cX9_forget 2 none, Cond.fieldLink RX9 23 "PowerRails$Ways" "peaksKnown" "Z", Cond.fieldLink RX9 19 "PowerRails$Ways" "behindKnown" "[Z"]
def wsX10_time : List Cond := .code yX10_time cX10_time 4 (some .int) :: ((wsX10_time_r1 ++ wsX10_time_r2) ++ wsX100 ++ wsX50 ++ wsX30 ++ wsX70 ++ wsX90)
def wsX10_go_r1 : List Cond := [Cond.fieldLink RX10 19 "PowerRails" "run" "LPowerRails$Run;", Cond.fieldLink RX10 154 "PowerRails$Run" "trips" "I", Cond.fieldLink RX10 56 "PowerRails" "plan" "LPowerRails$Plan;", Cond.methodLink RX10 157 yX5_passTick, Cond.instanceMethod yX5_passTick, Cond.selects RX5 yX5_passTick yX5_passTick, Cond.initialized RX5, Cond.code yX5_passTick cX5_passTick 3 none, Cond.fieldLink RX5 66 "PowerRails$Run" "latestDraw" "I", Cond.fieldLink RX5 69 "PowerRails$Run" "greatestDraw" "I", Cond.methodLink RX5 80 Lib.Math.max.name, Cond.static Lib.Math.max.name, Cond.initialized "java/lang/Math", Cond.code Lib.Math.max.name Lib.Math.max.code 2 (some .int), Cond.methodLink RX5 72 yX5_settle, Cond.instanceMethod yX5_settle, Cond.selects RX5 yX5_settle yX5_settle, Cond.code yX5_settle cX5_settle 4 none, Cond.methodLink RX5 95 yX5_railsThatMay, Cond.instanceMethod yX5_railsThatMay, Cond.selects RX5 yX5_railsThatMay yX5_railsThatMay, Cond.code yX5_railsThatMay cX5_railsThatMay 5 (some .int), Cond.fieldLink RX5 54 "PowerRails$Run" "held" "I", Cond.fieldLink RX5 38 "PowerRails$Run" "key" "Z"]
def wsX10_go_r2 : List Cond := [Cond.fieldLink RX5 106 "PowerRails$Plan" "rails" "I", Cond.methodLink RX5 102 yX5_railsThatAre, Cond.instanceMethod yX5_railsThatAre, Cond.selects RX5 yX5_railsThatAre yX5_railsThatAre, Cond.code yX5_railsThatAre cX5_railsThatAre 4 (some .int), Cond.fieldLink RX5 18 "PowerRails$Run" "states" "[I", Cond.methodLink RX5 109 yX3_holdsWith, Cond.instanceMethod yX3_holdsWith, Cond.selects RX3 yX3_holdsWith yX3_holdsWith, Cond.initialized RX3, Cond.code yX3_holdsWith cX3_holdsWith 3 (some .boolean), Cond.fieldLink RX3 15 "PowerRails$Plan" "tables" "[J", Cond.methodLink RX5 98 yX5_changeRails, Cond.instanceMethod yX5_changeRails, Cond.selects RX5 yX5_changeRails yX5_changeRails, Cond.code yX5_changeRails cX5_changeRails 6 (some .boolean), Cond.methodLink RX5 113 yX5_nextState, Cond.instanceMethod yX5_nextState, Cond.selects RX5 yX5_nextState yX5_nextState, Cond.code yX5_nextState cX5_nextState 5 (some .int), Cond.fieldLink RX5 34 "PowerRails$Run" "dead" "I", Cond.fieldLink RX5 22 "PowerRails$Run" "since" "[I", Cond.fieldLink RX5 28 "PowerRails$Run" "takes" "[I", Cond.methodLink RX5 47 yX3_number]
def wsX10_go_r3 : List Cond := [Cond.instanceMethod yX3_number, Cond.selects RX3 yX3_number yX3_number, Cond.code yX3_number cX3_number 3 (some .int), Cond.fieldLink RX3 11 "PowerRails$Plan" "numbers" "[I", Cond.methodLink RX5 117 yX5_become, Cond.instanceMethod yX5_become, Cond.selects RX5 yX5_become yX5_become, Cond.code yX5_become cX5_become 3 none, Cond.fieldLink RX5 25 "PowerRails$Run" "asked" "[I", Cond.fieldLink RX5 31 "PowerRails$Run" "timesGood" "[I", Cond.fieldLink RX5 12 "PowerRails$Run" "history" "LPowerRails$History;", Cond.fieldLink RX5 51 "PowerRails$Run" "tick" "I", Cond.methodLink RX5 121 yX2_note, Cond.instanceMethod yX2_note, Cond.selects RX2 yX2_note yX2_note, Cond.initialized RX2, Cond.code yX2_note cX2_note 4 none, Cond.fieldLink RX2 19 "PowerRails$History" "size" "I", Cond.fieldLink RX2 9 "PowerRails$History" "ticks" "[I", Cond.fieldLink RX2 13 "PowerRails$History" "who" "[I", Cond.fieldLink RX2 16 "PowerRails$History" "became" "[I", Cond.methodLink RX5 76 yX5_sumDraw, Cond.instanceMethod yX5_sumDraw, Cond.selects RX5 yX5_sumDraw yX5_sumDraw]
def wsX10_go_r4 : List Cond := [Cond.code yX5_sumDraw cX5_sumDraw 4 (some .int), Cond.methodLink RX5 85 yX5_whyTrip, Cond.instanceMethod yX5_whyTrip, Cond.selects RX5 yX5_whyTrip yX5_whyTrip, Cond.code yX5_whyTrip cX5_whyTrip 5 (some .int), Cond.fieldLink RX5 125 "PowerRails$Plan" "limit" "I", Cond.methodLink RX5 88 yX5_trip, Cond.instanceMethod yX5_trip, Cond.selects RX5 yX5_trip yX5_trip, Cond.code yX5_trip cX5_trip 3 none, Cond.fieldLink RX5 63 "PowerRails$Run" "trips" "I", Cond.fieldLink RX5 60 "PowerRails$Run" "tries" "I", Cond.fieldLink RX5 128 "PowerRails$Plan" "behind" "I", Cond.methodLink RX5 92 yX5_growOlder, Cond.instanceMethod yX5_growOlder, Cond.selects RX5 yX5_growOlder yX5_growOlder, Cond.code yX5_growOlder cX5_growOlder 3 none]
def wsX10_go : List Cond := .code yX10_go cX10_go 4 (some .int) :: ((wsX10_go_r1 ++ (wsX10_go_r2 ++ (wsX10_go_r3 ++ wsX10_go_r4))) ++ wsX100 ++ wsX50 ++ wsX30 ++ wsX20)
def wsX10_now : List Cond := .code yX10_now cX10_now 2 (some .int) :: ([.fieldLink RX10 19 "PowerRails" "run" "LPowerRails$Run;", .fieldLink RX10 160 "PowerRails$Run" "tick" "I", .fieldLink RX10 166 "PowerRails$Run" "latestDraw" "I", .fieldLink RX10 169 "PowerRails$Run" "held" "I", .fieldLink RX10 172 "PowerRails$Run" "tries" "I", .fieldLink RX10 175 "PowerRails$Run" "greatestDraw" "I", .fieldLink RX10 139 "PowerRails$Run" "key" "Z", .fieldLink RX10 154 "PowerRails$Run" "trips" "I", .methodLink RX10 163 yX5_railsThatAre, .instanceMethod yX5_railsThatAre, .selects RX5 yX5_railsThatAre yX5_railsThatAre, .initialized RX5, .code yX5_railsThatAre cX5_railsThatAre 4 (some .int), .fieldLink RX5 18 "PowerRails$Run" "states" "[I", .methodLink RX10 128 yX10_asNumber, .static yX10_asNumber, .initialized RX10, .code yX10_asNumber cX10_asNumber 1 (some .int)] ++ wsX100 ++ wsX50)
def wsX10_is : List Cond := .code yX10_is cX10_is 3 (some .int) :: ([.fieldLink RX10 56 "PowerRails" "plan" "LPowerRails$Plan;", .fieldLink RX10 19 "PowerRails" "run" "LPowerRails$Run;", .fieldLink RX10 178 "PowerRails$Run" "states" "[I", .fieldLink RX10 181 "PowerRails$Run" "since" "[I", .fieldLink RX10 147 "PowerRails$Run" "dead" "I", .fieldLink RX10 150 "PowerRails$Run" "takes" "[I", .fieldLink RX10 184 "PowerRails$Run" "timesGood" "[I", .methodLink RX10 100 yX3_hasRail, .instanceMethod yX3_hasRail, .selects RX3 yX3_hasRail yX3_hasRail, .initialized RX3, .code yX3_hasRail cX3_hasRail 2 (some .boolean), .fieldLink RX3 19 "PowerRails$Plan" "rails" "I"] ++ wsX100 ++ wsX50 ++ wsX30)
def wsX10_happened : List Cond := .code yX10_happened cX10_happened 3 (some .int) :: ([.fieldLink RX10 19 "PowerRails" "run" "LPowerRails$Run;", .fieldLink RX10 187 "PowerRails$Run" "history" "LPowerRails$History;", .fieldLink RX10 191 "PowerRails$History" "size" "I", .fieldLink RX10 196 "PowerRails$History" "ticks" "[I", .fieldLink RX10 199 "PowerRails$History" "who" "[I", .fieldLink RX10 202 "PowerRails$History" "became" "[I"] ++ wsX100 ++ wsX50 ++ wsX20)
def wsX10_up : List Cond := .code yX10_up cX10_up 4 (some .int) :: ([.fieldLink RX10 56 "PowerRails" "plan" "LPowerRails$Plan;", .fieldLink RX10 19 "PowerRails" "run" "LPowerRails$Run;", .fieldLink RX10 147 "PowerRails$Run" "dead" "I", .methodLink RX10 120 yX3_allRails, .instanceMethod yX3_allRails, .selects RX3 yX3_allRails yX3_allRails, .initialized RX3, .code yX3_allRails cX3_allRails 1 (some .int), .fieldLink RX3 19 "PowerRails$Plan" "rails" "I", .methodLink RX10 205 yX3_upAmong, .instanceMethod yX3_upAmong, .selects RX3 yX3_upAmong yX3_upAmong, .code yX3_upAmong cX3_upAmong 6 (some .int), .methodLink RX3 38 yX3_holdsWith, .instanceMethod yX3_holdsWith, .selects RX3 yX3_holdsWith yX3_holdsWith, .code yX3_holdsWith cX3_holdsWith 3 (some .boolean), .fieldLink RX3 15 "PowerRails$Plan" "tables" "[J"] ++ wsX100 ++ wsX50 ++ wsX30)
def wsX10_alive : List Cond := .code yX10_alive cX10_alive 1 (some .int) :: ([.fieldLink RX10 56 "PowerRails" "plan" "LPowerRails$Plan;", .fieldLink RX10 19 "PowerRails" "run" "LPowerRails$Run;", .fieldLink RX10 147 "PowerRails$Run" "dead" "I", .methodLink RX10 120 yX3_allRails, .instanceMethod yX3_allRails, .selects RX3 yX3_allRails yX3_allRails, .initialized RX3, .code yX3_allRails cX3_allRails 1 (some .int), .fieldLink RX3 19 "PowerRails$Plan" "rails" "I"] ++ wsX100 ++ wsX50 ++ wsX30)
def wsX10_followTimes_r1 : List Cond := [Cond.fieldLink RX10 26 "PowerRails" "course" "LPowerRails$Course;", Cond.fieldLink RX10 56 "PowerRails" "plan" "LPowerRails$Plan;", Cond.fieldLink RX10 19 "PowerRails" "run" "LPowerRails$Run;", Cond.fieldLink RX10 150 "PowerRails$Run" "takes" "[I", Cond.methodLink RX10 211 yX0_setWaits, Cond.instanceMethod yX0_setWaits, Cond.selects RX0 yX0_setWaits yX0_setWaits, Cond.initialized RX0, Cond.code yX0_setWaits cX0_setWaits 3 none, Cond.fieldLink RX0 27 "PowerRails$Plan" "rails" "I", Cond.fieldLink RX0 9 "PowerRails$Course" "waits" "[I", Cond.methodLink RX0 33 yX3_number, Cond.instanceMethod yX3_number, Cond.selects RX3 yX3_number yX3_number, Cond.initialized RX3, Cond.code yX3_number cX3_number 3 (some .int), Cond.fieldLink RX3 11 "PowerRails$Plan" "numbers" "[I", Cond.methodLink RX10 318 yX0_copyTakes, Cond.instanceMethod yX0_copyTakes, Cond.selects RX0 yX0_copyTakes yX0_copyTakes, Cond.code yX0_copyTakes cX0_copyTakes 2 none, Cond.fieldLink RX0 15 "PowerRails$Course" "takes" "[I", Cond.methodLink RX0 37 arraycopyName, Cond.native arraycopyName]
def wsX10_followTimes_r2 : List Cond := [Cond.static arraycopyName, Cond.initialized "java/lang/System", Cond.methodLink RX10 218 yX10_alive, Cond.instanceMethod yX10_alive, Cond.selects RX10 yX10_alive yX10_alive, Cond.initialized RX10, Cond.code yX10_alive cX10_alive 1 (some .int), Cond.fieldLink RX10 147 "PowerRails$Run" "dead" "I", Cond.methodLink RX10 120 yX3_allRails, Cond.instanceMethod yX3_allRails, Cond.selects RX3 yX3_allRails yX3_allRails, Cond.code yX3_allRails cX3_allRails 1 (some .int), Cond.fieldLink RX3 19 "PowerRails$Plan" "rails" "I", Cond.methodLink RX10 221 yX0_follow, Cond.instanceMethod yX0_follow, Cond.selects RX0 yX0_follow yX0_follow, Cond.code yX0_follow cX0_follow 7 none, Cond.fieldLink RX0 43 "PowerRails$Course" "up" "I", Cond.fieldLink RX0 46 "PowerRails$Course" "last" "I", Cond.fieldLink RX0 21 "PowerRails$Course" "goodAt" "[I", Cond.methodLink RX0 49 yX0_begin, Cond.instanceMethod yX0_begin, Cond.selects RX0 yX0_begin yX0_begin, Cond.code yX0_begin cX0_begin 5 (some .int)]
def wsX10_followTimes_r3 : List Cond := [Cond.fieldLink RX0 18 "PowerRails$Course" "risesAt" "[I", Cond.methodLink RX0 57 yX3_holdsWith, Cond.instanceMethod yX3_holdsWith, Cond.selects RX3 yX3_holdsWith yX3_holdsWith, Cond.code yX3_holdsWith cX3_holdsWith 3 (some .boolean), Cond.fieldLink RX3 15 "PowerRails$Plan" "tables" "[J", Cond.methodLink RX0 53 yX0_soonest, Cond.instanceMethod yX0_soonest, Cond.selects RX0 yX0_soonest yX0_soonest, Cond.code yX0_soonest cX0_soonest 4 (some .int), Cond.methodLink RX0 61 Lib.Math.min.name, Cond.static Lib.Math.min.name, Cond.initialized "java/lang/Math", Cond.code Lib.Math.min.name Lib.Math.min.code 2 (some .int)]
def wsX10_followTimes : List Cond := .code yX10_followTimes cX10_followTimes 1 none :: ((wsX10_followTimes_r1 ++ (wsX10_followTimes_r2 ++ wsX10_followTimes_r3)) ++ wsX100 ++ wsX50 ++ wsX30 ++ wsX00)
def wsX10_when_r1 : List Cond := [Cond.fieldLink RX10 56 "PowerRails" "plan" "LPowerRails$Plan;", Cond.fieldLink RX10 26 "PowerRails" "course" "LPowerRails$Course;", Cond.fieldLink RX10 227 "PowerRails$Course" "goodAt" "[I", Cond.methodLink RX10 100 yX3_hasRail, Cond.instanceMethod yX3_hasRail, Cond.selects RX3 yX3_hasRail yX3_hasRail, Cond.initialized RX3, Cond.code yX3_hasRail cX3_hasRail 2 (some .boolean), Cond.fieldLink RX3 19 "PowerRails$Plan" "rails" "I", Cond.methodLink RX10 208 yX10_followTimes, Cond.instanceMethod yX10_followTimes, Cond.selects RX10 yX10_followTimes yX10_followTimes, Cond.initialized RX10, Cond.code yX10_followTimes cX10_followTimes 1 none, Cond.fieldLink RX10 19 "PowerRails" "run" "LPowerRails$Run;", Cond.fieldLink RX10 150 "PowerRails$Run" "takes" "[I", Cond.methodLink RX10 211 yX0_setWaits, Cond.instanceMethod yX0_setWaits, Cond.selects RX0 yX0_setWaits yX0_setWaits, Cond.initialized RX0, Cond.code yX0_setWaits cX0_setWaits 3 none, Cond.fieldLink RX0 27 "PowerRails$Plan" "rails" "I", Cond.fieldLink RX0 9 "PowerRails$Course" "waits" "[I", Cond.methodLink RX0 33 yX3_number]
def wsX10_when_r2 : List Cond := [Cond.instanceMethod yX3_number, Cond.selects RX3 yX3_number yX3_number, Cond.code yX3_number cX3_number 3 (some .int), Cond.fieldLink RX3 11 "PowerRails$Plan" "numbers" "[I", Cond.methodLink RX10 318 yX0_copyTakes, Cond.instanceMethod yX0_copyTakes, Cond.selects RX0 yX0_copyTakes yX0_copyTakes, Cond.code yX0_copyTakes cX0_copyTakes 2 none, Cond.fieldLink RX0 15 "PowerRails$Course" "takes" "[I", Cond.methodLink RX0 37 arraycopyName, Cond.native arraycopyName, Cond.static arraycopyName, Cond.initialized "java/lang/System", Cond.methodLink RX10 218 yX10_alive, Cond.instanceMethod yX10_alive, Cond.selects RX10 yX10_alive yX10_alive, Cond.code yX10_alive cX10_alive 1 (some .int), Cond.fieldLink RX10 147 "PowerRails$Run" "dead" "I", Cond.methodLink RX10 120 yX3_allRails, Cond.instanceMethod yX3_allRails, Cond.selects RX3 yX3_allRails yX3_allRails, Cond.code yX3_allRails cX3_allRails 1 (some .int), Cond.methodLink RX10 221 yX0_follow, Cond.instanceMethod yX0_follow]
def wsX10_when_r3 : List Cond := [Cond.selects RX0 yX0_follow yX0_follow, Cond.code yX0_follow cX0_follow 7 none, Cond.fieldLink RX0 43 "PowerRails$Course" "up" "I", Cond.fieldLink RX0 46 "PowerRails$Course" "last" "I", Cond.fieldLink RX0 21 "PowerRails$Course" "goodAt" "[I", Cond.methodLink RX0 49 yX0_begin, Cond.instanceMethod yX0_begin, Cond.selects RX0 yX0_begin yX0_begin, Cond.code yX0_begin cX0_begin 5 (some .int), Cond.fieldLink RX0 18 "PowerRails$Course" "risesAt" "[I", Cond.methodLink RX0 57 yX3_holdsWith, Cond.instanceMethod yX3_holdsWith, Cond.selects RX3 yX3_holdsWith yX3_holdsWith, Cond.code yX3_holdsWith cX3_holdsWith 3 (some .boolean), Cond.fieldLink RX3 15 "PowerRails$Plan" "tables" "[J", Cond.methodLink RX0 53 yX0_soonest, Cond.instanceMethod yX0_soonest, Cond.selects RX0 yX0_soonest yX0_soonest, Cond.code yX0_soonest cX0_soonest 4 (some .int), Cond.methodLink RX0 61 Lib.Math.min.name, Cond.static Lib.Math.min.name, Cond.initialized "java/lang/Math", Cond.code Lib.Math.min.name Lib.Math.min.code 2 (some .int), Cond.methodLink RX10 214 yX0_setTakes]
def wsX10_when_r4 : List Cond := [Cond.instanceMethod yX0_setTakes, Cond.selects RX0 yX0_setTakes yX0_setTakes, Cond.code yX0_setTakes cX0_setTakes 4 none, Cond.methodLink RX10 224 yX0_isUp, Cond.instanceMethod yX0_isUp, Cond.selects RX0 yX0_isUp yX0_isUp, Cond.code yX0_isUp cX0_isUp 2 (some .boolean)]
def wsX10_when : List Cond := .code yX10_when cX10_when 3 (some .int) :: ((wsX10_when_r1 ++ (wsX10_when_r2 ++ (wsX10_when_r3 ++ wsX10_when_r4))) ++ wsX100 ++ wsX00 ++ wsX30 ++ wsX50)
def wsX10_ahead_r1 : List Cond := [Cond.fieldLink RX10 56 "PowerRails" "plan" "LPowerRails$Plan;", Cond.fieldLink RX10 35 "PowerRails" "ways" "LPowerRails$Ways;", Cond.methodLink RX10 100 yX3_hasRail, Cond.instanceMethod yX3_hasRail, Cond.selects RX3 yX3_hasRail yX3_hasRail, Cond.initialized RX3, Cond.code yX3_hasRail cX3_hasRail 2 (some .boolean), Cond.fieldLink RX3 19 "PowerRails$Plan" "rails" "I", Cond.methodLink RX10 230 yX3_countWays, Cond.instanceMethod yX3_countWays, Cond.selects RX3 yX3_countWays yX3_countWays, Cond.code yX3_countWays cX3_countWays 3 (some .int), Cond.methodLink RX3 45 yX3_number, Cond.instanceMethod yX3_number, Cond.selects RX3 yX3_number yX3_number, Cond.code yX3_number cX3_number 3 (some .int), Cond.fieldLink RX3 11 "PowerRails$Plan" "numbers" "[I", Cond.methodLink RX10 218 yX10_alive, Cond.instanceMethod yX10_alive, Cond.selects RX10 yX10_alive yX10_alive, Cond.initialized RX10, Cond.code yX10_alive cX10_alive 1 (some .int), Cond.fieldLink RX10 19 "PowerRails" "run" "LPowerRails$Run;", Cond.fieldLink RX10 147 "PowerRails$Run" "dead" "I"]
def wsX10_ahead_r2 : List Cond := [Cond.methodLink RX10 120 yX3_allRails, Cond.instanceMethod yX3_allRails, Cond.selects RX3 yX3_allRails yX3_allRails, Cond.code yX3_allRails cX3_allRails 1 (some .int), Cond.methodLink RX10 205 yX3_upAmong, Cond.instanceMethod yX3_upAmong, Cond.selects RX3 yX3_upAmong yX3_upAmong, Cond.code yX3_upAmong cX3_upAmong 6 (some .int), Cond.methodLink RX3 38 yX3_holdsWith, Cond.instanceMethod yX3_holdsWith, Cond.selects RX3 yX3_holdsWith yX3_holdsWith, Cond.code yX3_holdsWith cX3_holdsWith 3 (some .boolean), Cond.fieldLink RX3 15 "PowerRails$Plan" "tables" "[J", Cond.methodLink RX10 233 yX9_mostBehind, Cond.instanceMethod yX9_mostBehind, Cond.selects RX9 yX9_mostBehind yX9_mostBehind, Cond.initialized RX9, Cond.code yX9_mostBehind cX9_mostBehind 10 (some .int), Cond.fieldLink RX9 19 "PowerRails$Ways" "behindKnown" "[Z", Cond.fieldLink RX9 15 "PowerRails$Ways" "behind" "[I", Cond.fieldLink RX9 9 "PowerRails$Ways" "course" "LPowerRails$Course;", Cond.fieldLink RX9 46 "PowerRails$Course" "goodAt" "[I", Cond.methodLink RX9 49 Lib.Math.max.name, Cond.static Lib.Math.max.name]
def wsX10_ahead_r3 : List Cond := [Cond.initialized "java/lang/Math", Cond.code Lib.Math.max.name Lib.Math.max.code 2 (some .int), Cond.methodLink RX9 27 yX3_sourcesOf, Cond.instanceMethod yX3_sourcesOf, Cond.selects RX3 yX3_sourcesOf yX3_sourcesOf, Cond.code yX3_sourcesOf cX3_sourcesOf 5 (some .int), Cond.methodLink RX3 49 yX3_allRails, Cond.methodLink RX9 33 yX3_upAmong, Cond.methodLink RX9 36 yX9_start, Cond.instanceMethod yX9_start, Cond.selects RX9 yX9_start yX9_start, Cond.code yX9_start cX9_start 2 none, Cond.methodLink RX9 75 yX0_setWaits, Cond.instanceMethod yX0_setWaits, Cond.selects RX0 yX0_setWaits yX0_setWaits, Cond.initialized RX0, Cond.code yX0_setWaits cX0_setWaits 3 none, Cond.fieldLink RX0 27 "PowerRails$Plan" "rails" "I", Cond.fieldLink RX0 9 "PowerRails$Course" "waits" "[I", Cond.methodLink RX0 33 yX3_number, Cond.methodLink RX9 78 yX0_setTakes, Cond.instanceMethod yX0_setTakes, Cond.selects RX0 yX0_setTakes yX0_setTakes, Cond.code yX0_setTakes cX0_setTakes 4 none]
def wsX10_ahead_r4 : List Cond := [Cond.fieldLink RX0 15 "PowerRails$Course" "takes" "[I", Cond.methodLink RX9 42 yX0_follow, Cond.instanceMethod yX0_follow, Cond.selects RX0 yX0_follow yX0_follow, Cond.code yX0_follow cX0_follow 7 none, Cond.fieldLink RX0 43 "PowerRails$Course" "up" "I", Cond.fieldLink RX0 46 "PowerRails$Course" "last" "I", Cond.fieldLink RX0 21 "PowerRails$Course" "goodAt" "[I", Cond.methodLink RX0 49 yX0_begin, Cond.instanceMethod yX0_begin, Cond.selects RX0 yX0_begin yX0_begin, Cond.code yX0_begin cX0_begin 5 (some .int), Cond.fieldLink RX0 18 "PowerRails$Course" "risesAt" "[I", Cond.methodLink RX0 57 yX3_holdsWith, Cond.methodLink RX0 53 yX0_soonest, Cond.instanceMethod yX0_soonest, Cond.selects RX0 yX0_soonest yX0_soonest, Cond.code yX0_soonest cX0_soonest 4 (some .int), Cond.methodLink RX0 61 Lib.Math.min.name, Cond.static Lib.Math.min.name, Cond.code Lib.Math.min.name Lib.Math.min.code 2 (some .int), Cond.methodLink RX9 55 yX9_nextWay, Cond.instanceMethod yX9_nextWay, Cond.selects RX9 yX9_nextWay yX9_nextWay]
def wsX10_ahead_r5 : List Cond := [Cond.code yX9_nextWay cX9_nextWay 4 (some .boolean), Cond.fieldLink RX9 81 "PowerRails$Plan" "rails" "I", Cond.fieldLink RX9 84 "PowerRails$Course" "takes" "[I", Cond.methodLink RX9 87 yX3_number]
def wsX10_ahead : List Cond := .code yX10_ahead cX10_ahead 6 (some .int) :: ((wsX10_ahead_r1 ++ (wsX10_ahead_r2 ++ (wsX10_ahead_r3 ++ (wsX10_ahead_r4 ++ wsX10_ahead_r5)))) ++ wsX100 ++ wsX30 ++ wsX50 ++ wsX90 ++ wsX00)
def wsX10_drawn_r1 : List Cond := [Cond.fieldLink RX10 26 "PowerRails" "course" "LPowerRails$Course;", Cond.fieldLink RX10 56 "PowerRails" "plan" "LPowerRails$Plan;", Cond.methodLink RX10 208 yX10_followTimes, Cond.instanceMethod yX10_followTimes, Cond.selects RX10 yX10_followTimes yX10_followTimes, Cond.initialized RX10, Cond.code yX10_followTimes cX10_followTimes 1 none, Cond.fieldLink RX10 19 "PowerRails" "run" "LPowerRails$Run;", Cond.fieldLink RX10 150 "PowerRails$Run" "takes" "[I", Cond.methodLink RX10 211 yX0_setWaits, Cond.instanceMethod yX0_setWaits, Cond.selects RX0 yX0_setWaits yX0_setWaits, Cond.initialized RX0, Cond.code yX0_setWaits cX0_setWaits 3 none, Cond.fieldLink RX0 27 "PowerRails$Plan" "rails" "I", Cond.fieldLink RX0 9 "PowerRails$Course" "waits" "[I", Cond.methodLink RX0 33 yX3_number, Cond.instanceMethod yX3_number, Cond.selects RX3 yX3_number yX3_number, Cond.initialized RX3, Cond.code yX3_number cX3_number 3 (some .int), Cond.fieldLink RX3 11 "PowerRails$Plan" "numbers" "[I", Cond.methodLink RX10 318 yX0_copyTakes, Cond.instanceMethod yX0_copyTakes]
def wsX10_drawn_r2 : List Cond := [Cond.selects RX0 yX0_copyTakes yX0_copyTakes, Cond.code yX0_copyTakes cX0_copyTakes 2 none, Cond.fieldLink RX0 15 "PowerRails$Course" "takes" "[I", Cond.methodLink RX0 37 arraycopyName, Cond.native arraycopyName, Cond.static arraycopyName, Cond.initialized "java/lang/System", Cond.methodLink RX10 218 yX10_alive, Cond.instanceMethod yX10_alive, Cond.selects RX10 yX10_alive yX10_alive, Cond.code yX10_alive cX10_alive 1 (some .int), Cond.fieldLink RX10 147 "PowerRails$Run" "dead" "I", Cond.methodLink RX10 120 yX3_allRails, Cond.instanceMethod yX3_allRails, Cond.selects RX3 yX3_allRails yX3_allRails, Cond.code yX3_allRails cX3_allRails 1 (some .int), Cond.fieldLink RX3 19 "PowerRails$Plan" "rails" "I", Cond.methodLink RX10 221 yX0_follow, Cond.instanceMethod yX0_follow, Cond.selects RX0 yX0_follow yX0_follow, Cond.code yX0_follow cX0_follow 7 none, Cond.fieldLink RX0 43 "PowerRails$Course" "up" "I", Cond.fieldLink RX0 46 "PowerRails$Course" "last" "I", Cond.fieldLink RX0 21 "PowerRails$Course" "goodAt" "[I"]
def wsX10_drawn_r3 : List Cond := [Cond.methodLink RX0 49 yX0_begin, Cond.instanceMethod yX0_begin, Cond.selects RX0 yX0_begin yX0_begin, Cond.code yX0_begin cX0_begin 5 (some .int), Cond.fieldLink RX0 18 "PowerRails$Course" "risesAt" "[I", Cond.methodLink RX0 57 yX3_holdsWith, Cond.instanceMethod yX3_holdsWith, Cond.selects RX3 yX3_holdsWith yX3_holdsWith, Cond.code yX3_holdsWith cX3_holdsWith 3 (some .boolean), Cond.fieldLink RX3 15 "PowerRails$Plan" "tables" "[J", Cond.methodLink RX0 53 yX0_soonest, Cond.instanceMethod yX0_soonest, Cond.selects RX0 yX0_soonest yX0_soonest, Cond.code yX0_soonest cX0_soonest 4 (some .int), Cond.methodLink RX0 61 Lib.Math.min.name, Cond.static Lib.Math.min.name, Cond.initialized "java/lang/Math", Cond.code Lib.Math.min.name Lib.Math.min.code 2 (some .int), Cond.methodLink RX10 237 yX0_drawnAt, Cond.instanceMethod yX0_drawnAt, Cond.selects RX0 yX0_drawnAt yX0_drawnAt, Cond.code yX0_drawnAt cX0_drawnAt 5 (some .int), Cond.methodLink RX0 66 yX0_isUp, Cond.instanceMethod yX0_isUp]
def wsX10_drawn_r4 : List Cond := [Cond.selects RX0 yX0_isUp yX0_isUp, Cond.code yX0_isUp cX0_isUp 2 (some .boolean)]
def wsX10_drawn : List Cond := .code yX10_drawn cX10_drawn 2 (some .int) :: ((wsX10_drawn_r1 ++ (wsX10_drawn_r2 ++ (wsX10_drawn_r3 ++ wsX10_drawn_r4))) ++ wsX100 ++ wsX50 ++ wsX30 ++ wsX00)
def wsX10_peak_r1 : List Cond := [Cond.fieldLink RX10 56 "PowerRails" "plan" "LPowerRails$Plan;", Cond.fieldLink RX10 35 "PowerRails" "ways" "LPowerRails$Ways;", Cond.fieldLink RX10 244 "PowerRails$Ways" "greatestPeak" "I", Cond.fieldLink RX10 247 "PowerRails$Ways" "leastPeak" "I", Cond.fieldLink RX10 26 "PowerRails" "course" "LPowerRails$Course;", Cond.fieldLink RX10 253 "PowerRails$Course" "peak" "I", Cond.fieldLink RX10 256 "PowerRails$Course" "peakTick" "I", Cond.methodLink RX10 230 yX3_countWays, Cond.instanceMethod yX3_countWays, Cond.selects RX3 yX3_countWays yX3_countWays, Cond.initialized RX3, Cond.code yX3_countWays cX3_countWays 3 (some .int), Cond.fieldLink RX3 19 "PowerRails$Plan" "rails" "I", Cond.methodLink RX3 45 yX3_number, Cond.instanceMethod yX3_number, Cond.selects RX3 yX3_number yX3_number, Cond.code yX3_number cX3_number 3 (some .int), Cond.fieldLink RX3 11 "PowerRails$Plan" "numbers" "[I", Cond.methodLink RX10 218 yX10_alive, Cond.instanceMethod yX10_alive, Cond.selects RX10 yX10_alive yX10_alive, Cond.initialized RX10, Cond.code yX10_alive cX10_alive 1 (some .int), Cond.fieldLink RX10 19 "PowerRails" "run" "LPowerRails$Run;"]
def wsX10_peak_r2 : List Cond := [Cond.fieldLink RX10 147 "PowerRails$Run" "dead" "I", Cond.methodLink RX10 120 yX3_allRails, Cond.instanceMethod yX3_allRails, Cond.selects RX3 yX3_allRails yX3_allRails, Cond.code yX3_allRails cX3_allRails 1 (some .int), Cond.methodLink RX10 205 yX3_upAmong, Cond.instanceMethod yX3_upAmong, Cond.selects RX3 yX3_upAmong yX3_upAmong, Cond.code yX3_upAmong cX3_upAmong 6 (some .int), Cond.methodLink RX3 38 yX3_holdsWith, Cond.instanceMethod yX3_holdsWith, Cond.selects RX3 yX3_holdsWith yX3_holdsWith, Cond.code yX3_holdsWith cX3_holdsWith 3 (some .boolean), Cond.fieldLink RX3 15 "PowerRails$Plan" "tables" "[J", Cond.methodLink RX10 241 yX9_findPeaks, Cond.instanceMethod yX9_findPeaks, Cond.selects RX9 yX9_findPeaks yX9_findPeaks, Cond.initialized RX9, Cond.code yX9_findPeaks cX9_findPeaks 6 none, Cond.fieldLink RX9 23 "PowerRails$Ways" "peaksKnown" "Z", Cond.fieldLink RX9 9 "PowerRails$Ways" "course" "LPowerRails$Course;", Cond.fieldLink RX9 62 "PowerRails$Course" "peak" "I", Cond.fieldLink RX9 66 "PowerRails$Ways" "greatestPeak" "I", Cond.fieldLink RX9 69 "PowerRails$Ways" "leastPeak" "I"]
def wsX10_peak_r3 : List Cond := [Cond.methodLink RX9 49 Lib.Math.max.name, Cond.static Lib.Math.max.name, Cond.initialized "java/lang/Math", Cond.code Lib.Math.max.name Lib.Math.max.code 2 (some .int), Cond.methodLink RX9 72 Lib.Math.min.name, Cond.static Lib.Math.min.name, Cond.code Lib.Math.min.name Lib.Math.min.code 2 (some .int), Cond.methodLink RX9 33 yX3_upAmong, Cond.methodLink RX9 36 yX9_start, Cond.instanceMethod yX9_start, Cond.selects RX9 yX9_start yX9_start, Cond.code yX9_start cX9_start 2 none, Cond.methodLink RX9 75 yX0_setWaits, Cond.instanceMethod yX0_setWaits, Cond.selects RX0 yX0_setWaits yX0_setWaits, Cond.initialized RX0, Cond.code yX0_setWaits cX0_setWaits 3 none, Cond.fieldLink RX0 27 "PowerRails$Plan" "rails" "I", Cond.fieldLink RX0 9 "PowerRails$Course" "waits" "[I", Cond.methodLink RX0 33 yX3_number, Cond.methodLink RX9 78 yX0_setTakes, Cond.instanceMethod yX0_setTakes, Cond.selects RX0 yX0_setTakes yX0_setTakes, Cond.code yX0_setTakes cX0_setTakes 4 none]
def wsX10_peak_r4 : List Cond := [Cond.fieldLink RX0 15 "PowerRails$Course" "takes" "[I", Cond.methodLink RX9 42 yX0_follow, Cond.instanceMethod yX0_follow, Cond.selects RX0 yX0_follow yX0_follow, Cond.code yX0_follow cX0_follow 7 none, Cond.fieldLink RX0 43 "PowerRails$Course" "up" "I", Cond.fieldLink RX0 46 "PowerRails$Course" "last" "I", Cond.fieldLink RX0 21 "PowerRails$Course" "goodAt" "[I", Cond.methodLink RX0 49 yX0_begin, Cond.instanceMethod yX0_begin, Cond.selects RX0 yX0_begin yX0_begin, Cond.code yX0_begin cX0_begin 5 (some .int), Cond.fieldLink RX0 18 "PowerRails$Course" "risesAt" "[I", Cond.methodLink RX0 57 yX3_holdsWith, Cond.methodLink RX0 53 yX0_soonest, Cond.instanceMethod yX0_soonest, Cond.selects RX0 yX0_soonest yX0_soonest, Cond.code yX0_soonest cX0_soonest 4 (some .int), Cond.methodLink RX0 61 Lib.Math.min.name, Cond.methodLink RX9 59 yX0_findPeak, Cond.instanceMethod yX0_findPeak, Cond.selects RX0 yX0_findPeak yX0_findPeak, Cond.code yX0_findPeak cX0_findPeak 4 none, Cond.fieldLink RX0 24 "PowerRails$Course" "changes" "[I"]
def wsX10_peak_r5 : List Cond := [Cond.fieldLink RX0 70 "PowerRails$Course" "peak" "I", Cond.fieldLink RX0 73 "PowerRails$Course" "peakTick" "I", Cond.methodLink RX0 66 yX0_isUp, Cond.instanceMethod yX0_isUp, Cond.selects RX0 yX0_isUp yX0_isUp, Cond.code yX0_isUp cX0_isUp 2 (some .boolean), Cond.methodLink RX9 55 yX9_nextWay, Cond.instanceMethod yX9_nextWay, Cond.selects RX9 yX9_nextWay yX9_nextWay, Cond.code yX9_nextWay cX9_nextWay 4 (some .boolean), Cond.fieldLink RX9 81 "PowerRails$Plan" "rails" "I", Cond.fieldLink RX9 84 "PowerRails$Course" "takes" "[I", Cond.methodLink RX9 87 yX3_number, Cond.methodLink RX10 208 yX10_followTimes, Cond.instanceMethod yX10_followTimes, Cond.selects RX10 yX10_followTimes yX10_followTimes, Cond.code yX10_followTimes cX10_followTimes 1 none, Cond.fieldLink RX10 150 "PowerRails$Run" "takes" "[I", Cond.methodLink RX10 211 yX0_setWaits, Cond.methodLink RX10 318 yX0_copyTakes, Cond.instanceMethod yX0_copyTakes, Cond.selects RX0 yX0_copyTakes yX0_copyTakes, Cond.code yX0_copyTakes cX0_copyTakes 2 none, Cond.methodLink RX0 37 arraycopyName]
def wsX10_peak_r6 : List Cond := [Cond.native arraycopyName, Cond.static arraycopyName, Cond.initialized "java/lang/System", Cond.methodLink RX10 221 yX0_follow, Cond.methodLink RX10 250 yX0_findPeak]
def wsX10_peak : List Cond := .code yX10_peak cX10_peak 2 (some .int) :: ((wsX10_peak_r1 ++ (wsX10_peak_r2 ++ (wsX10_peak_r3 ++ (wsX10_peak_r4 ++ (wsX10_peak_r5 ++ wsX10_peak_r6))))) ++ wsX100 ++ wsX90 ++ wsX00 ++ wsX30 ++ wsX50)
def wsX10_stagger_r1 : List Cond := [Cond.fieldLink RX10 56 "PowerRails" "plan" "LPowerRails$Plan;", Cond.fieldLink RX10 117 "PowerRails$Plan" "rails" "I", Cond.fieldLink RX10 42 "PowerRails" "staggering" "LPowerRails$Stagger;", Cond.fieldLink RX10 19 "PowerRails" "run" "LPowerRails$Run;", Cond.fieldLink RX10 150 "PowerRails$Run" "takes" "[I", Cond.fieldLink RX10 263 "PowerRails$Stagger" "last" "I", Cond.fieldLink RX10 266 "PowerRails$Stagger" "row" "[I", Cond.methodLink RX10 218 yX10_alive, Cond.instanceMethod yX10_alive, Cond.selects RX10 yX10_alive yX10_alive, Cond.initialized RX10, Cond.code yX10_alive cX10_alive 1 (some .int), Cond.fieldLink RX10 147 "PowerRails$Run" "dead" "I", Cond.methodLink RX10 120 yX3_allRails, Cond.instanceMethod yX3_allRails, Cond.selects RX3 yX3_allRails yX3_allRails, Cond.initialized RX3, Cond.code yX3_allRails cX3_allRails 1 (some .int), Cond.fieldLink RX3 19 "PowerRails$Plan" "rails" "I", Cond.methodLink RX10 259 yX7_findRow, Cond.instanceMethod yX7_findRow, Cond.selects RX7 yX7_findRow yX7_findRow, Cond.initialized RX7, Cond.code yX7_findRow cX7_findRow 8 none]
def wsX10_stagger_r2 : List Cond := [Cond.fieldLink RX7 19 "PowerRails$Stagger" "known" "Z", Cond.fieldLink RX7 23 "PowerRails$Stagger" "last" "I", Cond.fieldLink RX7 15 "PowerRails$Stagger" "row" "[I", Cond.fieldLink RX7 9 "PowerRails$Stagger" "course" "LPowerRails$Course;", Cond.fieldLink RX7 33 "PowerRails$Course" "waits" "[I", Cond.fieldLink RX7 46 "PowerRails$Course" "up" "I", Cond.fieldLink RX7 49 "PowerRails$Course" "last" "I", Cond.methodLink RX7 27 yJ7_fill_53178, Cond.static yJ7_fill_53178, Cond.initialized RJ7, Cond.code yJ7_fill_53178 cJ7_fill_53178 4 none, Cond.methodLink RX7 38 yX0_copyTakes, Cond.instanceMethod yX0_copyTakes, Cond.selects RX0 yX0_copyTakes yX0_copyTakes, Cond.initialized RX0, Cond.code yX0_copyTakes cX0_copyTakes 2 none, Cond.fieldLink RX0 15 "PowerRails$Course" "takes" "[I", Cond.methodLink RX0 37 arraycopyName, Cond.native arraycopyName, Cond.static arraycopyName, Cond.initialized "java/lang/System", Cond.methodLink RX7 42 yX0_follow, Cond.instanceMethod yX0_follow, Cond.selects RX0 yX0_follow yX0_follow]
def wsX10_stagger_r3 : List Cond := [Cond.code yX0_follow cX0_follow 7 none, Cond.fieldLink RX0 43 "PowerRails$Course" "up" "I", Cond.fieldLink RX0 46 "PowerRails$Course" "last" "I", Cond.fieldLink RX0 21 "PowerRails$Course" "goodAt" "[I", Cond.methodLink RX0 49 yX0_begin, Cond.instanceMethod yX0_begin, Cond.selects RX0 yX0_begin yX0_begin, Cond.code yX0_begin cX0_begin 5 (some .int), Cond.fieldLink RX0 27 "PowerRails$Plan" "rails" "I", Cond.fieldLink RX0 18 "PowerRails$Course" "risesAt" "[I", Cond.fieldLink RX0 9 "PowerRails$Course" "waits" "[I", Cond.methodLink RX0 57 yX3_holdsWith, Cond.instanceMethod yX3_holdsWith, Cond.selects RX3 yX3_holdsWith yX3_holdsWith, Cond.code yX3_holdsWith cX3_holdsWith 3 (some .boolean), Cond.fieldLink RX3 15 "PowerRails$Plan" "tables" "[J", Cond.methodLink RX0 53 yX0_soonest, Cond.instanceMethod yX0_soonest, Cond.selects RX0 yX0_soonest yX0_soonest, Cond.code yX0_soonest cX0_soonest 4 (some .int), Cond.methodLink RX0 61 Lib.Math.min.name, Cond.static Lib.Math.min.name, Cond.initialized "java/lang/Math", Cond.code Lib.Math.min.name Lib.Math.min.code 2 (some .int)]
def wsX10_stagger_r4 : List Cond := [Cond.methodLink RX7 50 yX7_keepIfBelowLimit, Cond.instanceMethod yX7_keepIfBelowLimit, Cond.selects RX7 yX7_keepIfBelowLimit yX7_keepIfBelowLimit, Cond.code yX7_keepIfBelowLimit cX7_keepIfBelowLimit 2 none, Cond.fieldLink RX7 61 "PowerRails$Course" "peak" "I", Cond.fieldLink RX7 64 "PowerRails$Plan" "limit" "I", Cond.methodLink RX7 69 arraycopyName, Cond.methodLink RX7 58 yX0_findPeak, Cond.instanceMethod yX0_findPeak, Cond.selects RX0 yX0_findPeak yX0_findPeak, Cond.code yX0_findPeak cX0_findPeak 4 none, Cond.fieldLink RX0 24 "PowerRails$Course" "changes" "[I", Cond.fieldLink RX0 70 "PowerRails$Course" "peak" "I", Cond.fieldLink RX0 73 "PowerRails$Course" "peakTick" "I", Cond.methodLink RX0 66 yX0_isUp, Cond.instanceMethod yX0_isUp, Cond.selects RX0 yX0_isUp yX0_isUp, Cond.code yX0_isUp cX0_isUp 2 (some .boolean), Cond.methodLink RX0 33 yX3_number, Cond.instanceMethod yX3_number, Cond.selects RX3 yX3_number yX3_number, Cond.code yX3_number cX3_number 3 (some .int), Cond.fieldLink RX3 11 "PowerRails$Plan" "numbers" "[I", Cond.methodLink RX7 54 yX7_nextRow]
def wsX10_stagger_r5 : List Cond := [Cond.instanceMethod yX7_nextRow, Cond.selects RX7 yX7_nextRow yX7_nextRow, Cond.code yX7_nextRow cX7_nextRow 3 (some .boolean)]
def wsX10_stagger : List Cond := .code yX10_stagger cX10_stagger 2 (some .int) :: ((wsX10_stagger_r1 ++ (wsX10_stagger_r2 ++ (wsX10_stagger_r3 ++ (wsX10_stagger_r4 ++ wsX10_stagger_r5)))) ++ wsX100 ++ wsX30 ++ wsX50 ++ wsX70 ++ wsX00)
def wsX10_adopt_r1 : List Cond := [Cond.fieldLink RX10 56 "PowerRails" "plan" "LPowerRails$Plan;", Cond.fieldLink RX10 117 "PowerRails$Plan" "rails" "I", Cond.fieldLink RX10 42 "PowerRails" "staggering" "LPowerRails$Stagger;", Cond.fieldLink RX10 19 "PowerRails" "run" "LPowerRails$Run;", Cond.fieldLink RX10 150 "PowerRails$Run" "takes" "[I", Cond.fieldLink RX10 263 "PowerRails$Stagger" "last" "I", Cond.fieldLink RX10 266 "PowerRails$Stagger" "row" "[I", Cond.methodLink RX10 218 yX10_alive, Cond.instanceMethod yX10_alive, Cond.selects RX10 yX10_alive yX10_alive, Cond.initialized RX10, Cond.code yX10_alive cX10_alive 1 (some .int), Cond.fieldLink RX10 147 "PowerRails$Run" "dead" "I", Cond.methodLink RX10 120 yX3_allRails, Cond.instanceMethod yX3_allRails, Cond.selects RX3 yX3_allRails yX3_allRails, Cond.initialized RX3, Cond.code yX3_allRails cX3_allRails 1 (some .int), Cond.fieldLink RX3 19 "PowerRails$Plan" "rails" "I", Cond.methodLink RX10 259 yX7_findRow, Cond.instanceMethod yX7_findRow, Cond.selects RX7 yX7_findRow yX7_findRow, Cond.initialized RX7, Cond.code yX7_findRow cX7_findRow 8 none]
def wsX10_adopt_r2 : List Cond := [Cond.fieldLink RX7 19 "PowerRails$Stagger" "known" "Z", Cond.fieldLink RX7 23 "PowerRails$Stagger" "last" "I", Cond.fieldLink RX7 15 "PowerRails$Stagger" "row" "[I", Cond.fieldLink RX7 9 "PowerRails$Stagger" "course" "LPowerRails$Course;", Cond.fieldLink RX7 33 "PowerRails$Course" "waits" "[I", Cond.fieldLink RX7 46 "PowerRails$Course" "up" "I", Cond.fieldLink RX7 49 "PowerRails$Course" "last" "I", Cond.methodLink RX7 27 yJ7_fill_53178, Cond.static yJ7_fill_53178, Cond.initialized RJ7, Cond.code yJ7_fill_53178 cJ7_fill_53178 4 none, Cond.methodLink RX7 38 yX0_copyTakes, Cond.instanceMethod yX0_copyTakes, Cond.selects RX0 yX0_copyTakes yX0_copyTakes, Cond.initialized RX0, Cond.code yX0_copyTakes cX0_copyTakes 2 none, Cond.fieldLink RX0 15 "PowerRails$Course" "takes" "[I", Cond.methodLink RX0 37 arraycopyName, Cond.native arraycopyName, Cond.static arraycopyName, Cond.initialized "java/lang/System", Cond.methodLink RX7 42 yX0_follow, Cond.instanceMethod yX0_follow, Cond.selects RX0 yX0_follow yX0_follow]
def wsX10_adopt_r3 : List Cond := [Cond.code yX0_follow cX0_follow 7 none, Cond.fieldLink RX0 43 "PowerRails$Course" "up" "I", Cond.fieldLink RX0 46 "PowerRails$Course" "last" "I", Cond.fieldLink RX0 21 "PowerRails$Course" "goodAt" "[I", Cond.methodLink RX0 49 yX0_begin, Cond.instanceMethod yX0_begin, Cond.selects RX0 yX0_begin yX0_begin, Cond.code yX0_begin cX0_begin 5 (some .int), Cond.fieldLink RX0 27 "PowerRails$Plan" "rails" "I", Cond.fieldLink RX0 18 "PowerRails$Course" "risesAt" "[I", Cond.fieldLink RX0 9 "PowerRails$Course" "waits" "[I", Cond.methodLink RX0 57 yX3_holdsWith, Cond.instanceMethod yX3_holdsWith, Cond.selects RX3 yX3_holdsWith yX3_holdsWith, Cond.code yX3_holdsWith cX3_holdsWith 3 (some .boolean), Cond.fieldLink RX3 15 "PowerRails$Plan" "tables" "[J", Cond.methodLink RX0 53 yX0_soonest, Cond.instanceMethod yX0_soonest, Cond.selects RX0 yX0_soonest yX0_soonest, Cond.code yX0_soonest cX0_soonest 4 (some .int), Cond.methodLink RX0 61 Lib.Math.min.name, Cond.static Lib.Math.min.name, Cond.initialized "java/lang/Math", Cond.code Lib.Math.min.name Lib.Math.min.code 2 (some .int)]
def wsX10_adopt_r4 : List Cond := [Cond.methodLink RX7 50 yX7_keepIfBelowLimit, Cond.instanceMethod yX7_keepIfBelowLimit, Cond.selects RX7 yX7_keepIfBelowLimit yX7_keepIfBelowLimit, Cond.code yX7_keepIfBelowLimit cX7_keepIfBelowLimit 2 none, Cond.fieldLink RX7 61 "PowerRails$Course" "peak" "I", Cond.fieldLink RX7 64 "PowerRails$Plan" "limit" "I", Cond.methodLink RX7 69 arraycopyName, Cond.methodLink RX7 58 yX0_findPeak, Cond.instanceMethod yX0_findPeak, Cond.selects RX0 yX0_findPeak yX0_findPeak, Cond.code yX0_findPeak cX0_findPeak 4 none, Cond.fieldLink RX0 24 "PowerRails$Course" "changes" "[I", Cond.fieldLink RX0 70 "PowerRails$Course" "peak" "I", Cond.fieldLink RX0 73 "PowerRails$Course" "peakTick" "I", Cond.methodLink RX0 66 yX0_isUp, Cond.instanceMethod yX0_isUp, Cond.selects RX0 yX0_isUp yX0_isUp, Cond.code yX0_isUp cX0_isUp 2 (some .boolean), Cond.methodLink RX0 33 yX3_number, Cond.instanceMethod yX3_number, Cond.selects RX3 yX3_number yX3_number, Cond.code yX3_number cX3_number 3 (some .int), Cond.fieldLink RX3 11 "PowerRails$Plan" "numbers" "[I", Cond.methodLink RX7 54 yX7_nextRow]
def wsX10_adopt_r5 : List Cond := [Cond.instanceMethod yX7_nextRow, Cond.selects RX7 yX7_nextRow yX7_nextRow, Cond.code yX7_nextRow cX7_nextRow 3 (some .boolean), Cond.methodLink RX10 269 yX3_setWaits, Cond.instanceMethod yX3_setWaits, Cond.selects RX3 yX3_setWaits yX3_setWaits, Cond.code yX3_setWaits cX3_setWaits 3 none, Cond.methodLink RX3 32 yX3_setNumber, Cond.instanceMethod yX3_setNumber, Cond.selects RX3 yX3_setNumber yX3_setNumber, Cond.code yX3_setNumber cX3_setNumber 4 none, Cond.methodLink RX10 97 yX10_forgetReckoned, Cond.instanceMethod yX10_forgetReckoned, Cond.selects RX10 yX10_forgetReckoned yX10_forgetReckoned, Cond.code yX10_forgetReckoned cX10_forgetReckoned 1 none, Cond.fieldLink RX10 35 "PowerRails" "ways" "LPowerRails$Ways;", Cond.fieldLink RX10 324 "PowerRails$Stagger" "known" "Z", Cond.methodLink RX10 321 yX9_forget, Cond.instanceMethod yX9_forget, Cond.selects RX9 yX9_forget yX9_forget, Cond.initialized RX9, Cond.code yX9_forget cX9_forget 2 none, Cond.fieldLink RX9 23 "PowerRails$Ways" "peaksKnown" "Z", Cond.fieldLink RX9 19 "PowerRails$Ways" "behindKnown" "[Z"]
def wsX10_adopt : List Cond := .code yX10_adopt cX10_adopt 2 (some .int) :: ((wsX10_adopt_r1 ++ (wsX10_adopt_r2 ++ (wsX10_adopt_r3 ++ (wsX10_adopt_r4 ++ wsX10_adopt_r5)))) ++ wsX100 ++ wsX30 ++ wsX50 ++ wsX70 ++ wsX00 ++ wsX90)
def wsX10_down : List Cond := .code yX10_down cX10_down 2 (some .int) :: ([.fieldLink RX10 56 "PowerRails" "plan" "LPowerRails$Plan;", .methodLink RX10 120 yX3_allRails, .instanceMethod yX3_allRails, .selects RX3 yX3_allRails yX3_allRails, .initialized RX3, .code yX3_allRails cX3_allRails 1 (some .int), .fieldLink RX3 19 "PowerRails$Plan" "rails" "I", .methodLink RX10 218 yX10_alive, .instanceMethod yX10_alive, .selects RX10 yX10_alive yX10_alive, .initialized RX10, .code yX10_alive cX10_alive 1 (some .int), .fieldLink RX10 19 "PowerRails" "run" "LPowerRails$Run;", .fieldLink RX10 147 "PowerRails$Run" "dead" "I", .methodLink RX10 205 yX3_upAmong, .instanceMethod yX3_upAmong, .selects RX3 yX3_upAmong yX3_upAmong, .code yX3_upAmong cX3_upAmong 6 (some .int), .methodLink RX3 38 yX3_holdsWith, .instanceMethod yX3_holdsWith, .selects RX3 yX3_holdsWith yX3_holdsWith, .code yX3_holdsWith cX3_holdsWith 3 (some .boolean), .fieldLink RX3 15 "PowerRails$Plan" "tables" "[J"] ++ wsX100 ++ wsX30 ++ wsX50)
def wsX10_canBeUp : List Cond := .code yX10_canBeUp cX10_canBeUp 2 (some .boolean) :: ([.fieldLink RX10 56 "PowerRails" "plan" "LPowerRails$Plan;", .methodLink RX10 218 yX10_alive, .instanceMethod yX10_alive, .selects RX10 yX10_alive yX10_alive, .initialized RX10, .code yX10_alive cX10_alive 1 (some .int), .fieldLink RX10 19 "PowerRails" "run" "LPowerRails$Run;", .fieldLink RX10 147 "PowerRails$Run" "dead" "I", .methodLink RX10 120 yX3_allRails, .instanceMethod yX3_allRails, .selects RX3 yX3_allRails yX3_allRails, .initialized RX3, .code yX3_allRails cX3_allRails 1 (some .int), .fieldLink RX3 19 "PowerRails$Plan" "rails" "I", .methodLink RX10 205 yX3_upAmong, .instanceMethod yX3_upAmong, .selects RX3 yX3_upAmong yX3_upAmong, .code yX3_upAmong cX3_upAmong 6 (some .int), .methodLink RX3 38 yX3_holdsWith, .instanceMethod yX3_holdsWith, .selects RX3 yX3_holdsWith yX3_holdsWith, .code yX3_holdsWith cX3_holdsWith 3 (some .boolean), .fieldLink RX3 15 "PowerRails$Plan" "tables" "[J"] ++ wsX100 ++ wsX50 ++ wsX30)
def wsX10_cut_r1 : List Cond := [Cond.fieldLink RX10 56 "PowerRails" "plan" "LPowerRails$Plan;", Cond.methodLink RX10 100 yX3_hasRail, Cond.instanceMethod yX3_hasRail, Cond.selects RX3 yX3_hasRail yX3_hasRail, Cond.initialized RX3, Cond.code yX3_hasRail cX3_hasRail 2 (some .boolean), Cond.fieldLink RX3 19 "PowerRails$Plan" "rails" "I", Cond.methodLink RX10 272 yX10_canBeUp, Cond.instanceMethod yX10_canBeUp, Cond.selects RX10 yX10_canBeUp yX10_canBeUp, Cond.initialized RX10, Cond.code yX10_canBeUp cX10_canBeUp 2 (some .boolean), Cond.methodLink RX10 218 yX10_alive, Cond.instanceMethod yX10_alive, Cond.selects RX10 yX10_alive yX10_alive, Cond.code yX10_alive cX10_alive 1 (some .int), Cond.fieldLink RX10 19 "PowerRails" "run" "LPowerRails$Run;", Cond.fieldLink RX10 147 "PowerRails$Run" "dead" "I", Cond.methodLink RX10 120 yX3_allRails, Cond.instanceMethod yX3_allRails, Cond.selects RX3 yX3_allRails yX3_allRails, Cond.code yX3_allRails cX3_allRails 1 (some .int), Cond.methodLink RX10 205 yX3_upAmong, Cond.instanceMethod yX3_upAmong]
def wsX10_cut_r2 : List Cond := [Cond.selects RX3 yX3_upAmong yX3_upAmong, Cond.code yX3_upAmong cX3_upAmong 6 (some .int), Cond.methodLink RX3 38 yX3_holdsWith, Cond.instanceMethod yX3_holdsWith, Cond.selects RX3 yX3_holdsWith yX3_holdsWith, Cond.code yX3_holdsWith cX3_holdsWith 3 (some .boolean), Cond.fieldLink RX3 15 "PowerRails$Plan" "tables" "[J", Cond.methodLink RX10 275 yX1_fewestThatCut, Cond.static yX1_fewestThatCut, Cond.initialized RX1, Cond.code yX1_fewestThatCut cX1_fewestThatCut 7 (some .int), Cond.methodLink RX1 15 yX3_allRails, Cond.methodLink RX1 19 yJ6_bitCount_0f7a4, Cond.static yJ6_bitCount_0f7a4, Cond.initialized RJ6, Cond.code yJ6_bitCount_0f7a4 cJ6_bitCount_0f7a4 1 (some .int), Cond.constant RJ6 265 (1431655765), Cond.constant RJ6 266 (858993459), Cond.constant RJ6 267 (252645135), Cond.methodLink RX1 24 yX1_isUpAmong, Cond.static yX1_isUpAmong, Cond.code yX1_isUpAmong cX1_isUpAmong 3 (some .boolean), Cond.methodLink RX1 9 yX3_upAmong, Cond.methodLink RX10 281 yJ6_bitCount_0f7a4]
def wsX10_cut : List Cond := .code yX10_cut cX10_cut 4 (some .int) :: ((wsX10_cut_r1 ++ wsX10_cut_r2) ++ wsX100 ++ wsX30 ++ wsX50)
def wsX10_need_r1 : List Cond := [Cond.fieldLink RX10 56 "PowerRails" "plan" "LPowerRails$Plan;", Cond.methodLink RX10 100 yX3_hasRail, Cond.instanceMethod yX3_hasRail, Cond.selects RX3 yX3_hasRail yX3_hasRail, Cond.initialized RX3, Cond.code yX3_hasRail cX3_hasRail 2 (some .boolean), Cond.fieldLink RX3 19 "PowerRails$Plan" "rails" "I", Cond.methodLink RX10 272 yX10_canBeUp, Cond.instanceMethod yX10_canBeUp, Cond.selects RX10 yX10_canBeUp yX10_canBeUp, Cond.initialized RX10, Cond.code yX10_canBeUp cX10_canBeUp 2 (some .boolean), Cond.methodLink RX10 218 yX10_alive, Cond.instanceMethod yX10_alive, Cond.selects RX10 yX10_alive yX10_alive, Cond.code yX10_alive cX10_alive 1 (some .int), Cond.fieldLink RX10 19 "PowerRails" "run" "LPowerRails$Run;", Cond.fieldLink RX10 147 "PowerRails$Run" "dead" "I", Cond.methodLink RX10 120 yX3_allRails, Cond.instanceMethod yX3_allRails, Cond.selects RX3 yX3_allRails yX3_allRails, Cond.code yX3_allRails cX3_allRails 1 (some .int), Cond.methodLink RX10 205 yX3_upAmong, Cond.instanceMethod yX3_upAmong]
def wsX10_need_r2 : List Cond := [Cond.selects RX3 yX3_upAmong yX3_upAmong, Cond.code yX3_upAmong cX3_upAmong 6 (some .int), Cond.methodLink RX3 38 yX3_holdsWith, Cond.instanceMethod yX3_holdsWith, Cond.selects RX3 yX3_holdsWith yX3_holdsWith, Cond.code yX3_holdsWith cX3_holdsWith 3 (some .boolean), Cond.fieldLink RX3 15 "PowerRails$Plan" "tables" "[J", Cond.methodLink RX10 286 yX1_fewestThatDo, Cond.static yX1_fewestThatDo, Cond.initialized RX1, Cond.code yX1_fewestThatDo cX1_fewestThatDo 6 (some .int), Cond.methodLink RX1 15 yX3_allRails, Cond.methodLink RX1 19 yJ6_bitCount_0f7a4, Cond.static yJ6_bitCount_0f7a4, Cond.initialized RJ6, Cond.code yJ6_bitCount_0f7a4 cJ6_bitCount_0f7a4 1 (some .int), Cond.constant RJ6 265 (1431655765), Cond.constant RJ6 266 (858993459), Cond.constant RJ6 267 (252645135), Cond.methodLink RX1 24 yX1_isUpAmong, Cond.static yX1_isUpAmong, Cond.code yX1_isUpAmong cX1_isUpAmong 3 (some .boolean), Cond.methodLink RX1 9 yX3_upAmong, Cond.methodLink RX10 281 yJ6_bitCount_0f7a4]
def wsX10_need : List Cond := .code yX10_need cX10_need 4 (some .int) :: ((wsX10_need_r1 ++ wsX10_need_r2) ++ wsX100 ++ wsX30 ++ wsX50)
def wsX10_must_r1 : List Cond := [Cond.fieldLink RX10 56 "PowerRails" "plan" "LPowerRails$Plan;", Cond.methodLink RX10 100 yX3_hasRail, Cond.instanceMethod yX3_hasRail, Cond.selects RX3 yX3_hasRail yX3_hasRail, Cond.initialized RX3, Cond.code yX3_hasRail cX3_hasRail 2 (some .boolean), Cond.fieldLink RX3 19 "PowerRails$Plan" "rails" "I", Cond.methodLink RX10 272 yX10_canBeUp, Cond.instanceMethod yX10_canBeUp, Cond.selects RX10 yX10_canBeUp yX10_canBeUp, Cond.initialized RX10, Cond.code yX10_canBeUp cX10_canBeUp 2 (some .boolean), Cond.methodLink RX10 218 yX10_alive, Cond.instanceMethod yX10_alive, Cond.selects RX10 yX10_alive yX10_alive, Cond.code yX10_alive cX10_alive 1 (some .int), Cond.fieldLink RX10 19 "PowerRails" "run" "LPowerRails$Run;", Cond.fieldLink RX10 147 "PowerRails$Run" "dead" "I", Cond.methodLink RX10 120 yX3_allRails, Cond.instanceMethod yX3_allRails, Cond.selects RX3 yX3_allRails yX3_allRails, Cond.code yX3_allRails cX3_allRails 1 (some .int), Cond.methodLink RX10 205 yX3_upAmong, Cond.instanceMethod yX3_upAmong]
def wsX10_must_r2 : List Cond := [Cond.selects RX3 yX3_upAmong yX3_upAmong, Cond.code yX3_upAmong cX3_upAmong 6 (some .int), Cond.methodLink RX3 38 yX3_holdsWith, Cond.instanceMethod yX3_holdsWith, Cond.selects RX3 yX3_holdsWith yX3_holdsWith, Cond.code yX3_holdsWith cX3_holdsWith 3 (some .boolean), Cond.fieldLink RX3 15 "PowerRails$Plan" "tables" "[J", Cond.methodLink RX10 289 yX1_neverWithout, Cond.static yX1_neverWithout, Cond.initialized RX1, Cond.code yX1_neverWithout cX1_neverWithout 5 (some .int), Cond.fieldLink RX1 30 "PowerRails$Plan" "rails" "I", Cond.methodLink RX1 24 yX1_isUpAmong, Cond.static yX1_isUpAmong, Cond.code yX1_isUpAmong cX1_isUpAmong 3 (some .boolean), Cond.methodLink RX1 9 yX3_upAmong]
def wsX10_must : List Cond := .code yX10_must cX10_must 2 (some .int) :: ((wsX10_must_r1 ++ wsX10_must_r2) ++ wsX100 ++ wsX30 ++ wsX50)
def wsX10_seen : List Cond := .code yX10_seen cX10_seen 2 (some .int) :: ([.fieldLink RX10 56 "PowerRails" "plan" "LPowerRails$Plan;", .methodLink RX10 120 yX3_allRails, .instanceMethod yX3_allRails, .selects RX3 yX3_allRails yX3_allRails, .initialized RX3, .code yX3_allRails cX3_allRails 1 (some .int), .fieldLink RX3 19 "PowerRails$Plan" "rails" "I", .methodLink RX10 292 yX1_thatExplain, .static yX1_thatExplain, .initialized RX1, .code yX1_thatExplain cX1_thatExplain 5 (some .int), .fieldLink RX1 30 "PowerRails$Plan" "rails" "I", .methodLink RX1 15 yX3_allRails, .methodLink RX1 9 yX3_upAmong, .instanceMethod yX3_upAmong, .selects RX3 yX3_upAmong yX3_upAmong, .code yX3_upAmong cX3_upAmong 6 (some .int), .methodLink RX3 38 yX3_holdsWith, .instanceMethod yX3_holdsWith, .selects RX3 yX3_holdsWith yX3_holdsWith, .code yX3_holdsWith cX3_holdsWith 3 (some .boolean), .fieldLink RX3 15 "PowerRails$Plan" "tables" "[J"] ++ wsX100 ++ wsX30)
def wsX10_sheet : List Cond := .code yX10_sheet cX10_sheet 4 (some .int) :: ([.fieldLink RX10 49 "PowerRails" "sheets" "LPowerRails$Sheets;", .methodLink RX10 295 yX6_hasPlace, .static yX6_hasPlace, .initialized RX6, .code yX6_hasPlace cX6_hasPlace 1 (some .boolean), .methodLink RX10 298 yX6_isLane, .static yX6_isLane, .code yX6_isLane cX6_isLane 1 (some .boolean), .methodLink RX10 301 yX6_renew, .instanceMethod yX6_renew, .selects RX6 yX6_renew yX6_renew, .code yX6_renew cX6_renew 4 none, .fieldLink RX6 16 "PowerRails$Sheets" "lanes" "[I", .fieldLink RX6 20 "PowerRails$Sheets" "sizes" "[I", .fieldLink RX6 13 "PowerRails$Sheets" "cells" "[[I", .methodLink RX6 23 yJ7_fill_53178, .static yJ7_fill_53178, .initialized RJ7, .code yJ7_fill_53178 cJ7_fill_53178 4 none] ++ wsX100 ++ wsX60)
def wsX10_lay : List Cond := .code yX10_lay cX10_lay 4 (some .int) :: ([.fieldLink RX10 49 "PowerRails" "sheets" "LPowerRails$Sheets;", .fieldLink RX10 305 "PowerRails$Sheets" "sizes" "[I", .methodLink RX10 295 yX6_hasPlace, .static yX6_hasPlace, .initialized RX6, .code yX6_hasPlace cX6_hasPlace 1 (some .boolean), .methodLink RX10 308 yX6_put, .instanceMethod yX6_put, .selects RX6 yX6_put yX6_put, .code yX6_put cX6_put 4 none, .fieldLink RX6 16 "PowerRails$Sheets" "lanes" "[I", .fieldLink RX6 13 "PowerRails$Sheets" "cells" "[[I"] ++ wsX100 ++ wsX60)
def wsX10_compareSheet_r1 : List Cond := [Cond.fieldLink RX10 49 "PowerRails" "sheets" "LPowerRails$Sheets;", Cond.fieldLink RX10 305 "PowerRails$Sheets" "sizes" "[I", Cond.fieldLink RX10 327 "PowerRails$Sheets" "cells" "[[I", Cond.fieldLink RX10 26 "PowerRails" "course" "LPowerRails$Course;", Cond.fieldLink RX10 56 "PowerRails" "plan" "LPowerRails$Plan;", Cond.methodLink RX10 331 Lib.Math.abs.name, Cond.static Lib.Math.abs.name, Cond.initialized "java/lang/Math", Cond.code Lib.Math.abs.name Lib.Math.abs.code 1 (some .int), Cond.methodLink RX10 237 yX0_drawnAt, Cond.instanceMethod yX0_drawnAt, Cond.selects RX0 yX0_drawnAt yX0_drawnAt, Cond.initialized RX0, Cond.code yX0_drawnAt cX0_drawnAt 5 (some .int), Cond.fieldLink RX0 27 "PowerRails$Plan" "rails" "I", Cond.fieldLink RX0 21 "PowerRails$Course" "goodAt" "[I", Cond.fieldLink RX0 18 "PowerRails$Course" "risesAt" "[I", Cond.methodLink RX0 66 yX0_isUp, Cond.instanceMethod yX0_isUp, Cond.selects RX0 yX0_isUp yX0_isUp, Cond.code yX0_isUp cX0_isUp 2 (some .boolean), Cond.fieldLink RX0 43 "PowerRails$Course" "up" "I", Cond.methodLink RX0 33 yX3_number, Cond.instanceMethod yX3_number]
def wsX10_compareSheet_r2 : List Cond := [Cond.selects RX3 yX3_number yX3_number, Cond.initialized RX3, Cond.code yX3_number cX3_number 3 (some .int), Cond.fieldLink RX3 11 "PowerRails$Plan" "numbers" "[I"]
def wsX10_compareSheet : List Cond := .code yX10_compareSheet cX10_compareSheet 12 (some .int) :: ((wsX10_compareSheet_r1 ++ wsX10_compareSheet_r2) ++ wsX100 ++ wsX60 ++ wsX30 ++ wsX00)
def wsX10_measured_r1 : List Cond := [Cond.fieldLink RX10 49 "PowerRails" "sheets" "LPowerRails$Sheets;", Cond.fieldLink RX10 305 "PowerRails$Sheets" "sizes" "[I", Cond.fieldLink RX10 311 "PowerRails$Sheets" "lanes" "[I", Cond.methodLink RX10 295 yX6_hasPlace, Cond.static yX6_hasPlace, Cond.initialized RX6, Cond.code yX6_hasPlace cX6_hasPlace 1 (some .boolean), Cond.methodLink RX10 298 yX6_isLane, Cond.static yX6_isLane, Cond.code yX6_isLane cX6_isLane 1 (some .boolean), Cond.methodLink RX10 208 yX10_followTimes, Cond.instanceMethod yX10_followTimes, Cond.selects RX10 yX10_followTimes yX10_followTimes, Cond.initialized RX10, Cond.code yX10_followTimes cX10_followTimes 1 none, Cond.fieldLink RX10 26 "PowerRails" "course" "LPowerRails$Course;", Cond.fieldLink RX10 56 "PowerRails" "plan" "LPowerRails$Plan;", Cond.fieldLink RX10 19 "PowerRails" "run" "LPowerRails$Run;", Cond.fieldLink RX10 150 "PowerRails$Run" "takes" "[I", Cond.methodLink RX10 211 yX0_setWaits, Cond.instanceMethod yX0_setWaits, Cond.selects RX0 yX0_setWaits yX0_setWaits, Cond.initialized RX0, Cond.code yX0_setWaits cX0_setWaits 3 none]
def wsX10_measured_r2 : List Cond := [Cond.fieldLink RX0 27 "PowerRails$Plan" "rails" "I", Cond.fieldLink RX0 9 "PowerRails$Course" "waits" "[I", Cond.methodLink RX0 33 yX3_number, Cond.instanceMethod yX3_number, Cond.selects RX3 yX3_number yX3_number, Cond.initialized RX3, Cond.code yX3_number cX3_number 3 (some .int), Cond.fieldLink RX3 11 "PowerRails$Plan" "numbers" "[I", Cond.methodLink RX10 318 yX0_copyTakes, Cond.instanceMethod yX0_copyTakes, Cond.selects RX0 yX0_copyTakes yX0_copyTakes, Cond.code yX0_copyTakes cX0_copyTakes 2 none, Cond.fieldLink RX0 15 "PowerRails$Course" "takes" "[I", Cond.methodLink RX0 37 arraycopyName, Cond.native arraycopyName, Cond.static arraycopyName, Cond.initialized "java/lang/System", Cond.methodLink RX10 218 yX10_alive, Cond.instanceMethod yX10_alive, Cond.selects RX10 yX10_alive yX10_alive, Cond.code yX10_alive cX10_alive 1 (some .int), Cond.fieldLink RX10 147 "PowerRails$Run" "dead" "I", Cond.methodLink RX10 120 yX3_allRails, Cond.instanceMethod yX3_allRails]
def wsX10_measured_r3 : List Cond := [Cond.selects RX3 yX3_allRails yX3_allRails, Cond.code yX3_allRails cX3_allRails 1 (some .int), Cond.fieldLink RX3 19 "PowerRails$Plan" "rails" "I", Cond.methodLink RX10 221 yX0_follow, Cond.instanceMethod yX0_follow, Cond.selects RX0 yX0_follow yX0_follow, Cond.code yX0_follow cX0_follow 7 none, Cond.fieldLink RX0 43 "PowerRails$Course" "up" "I", Cond.fieldLink RX0 46 "PowerRails$Course" "last" "I", Cond.fieldLink RX0 21 "PowerRails$Course" "goodAt" "[I", Cond.methodLink RX0 49 yX0_begin, Cond.instanceMethod yX0_begin, Cond.selects RX0 yX0_begin yX0_begin, Cond.code yX0_begin cX0_begin 5 (some .int), Cond.fieldLink RX0 18 "PowerRails$Course" "risesAt" "[I", Cond.methodLink RX0 57 yX3_holdsWith, Cond.instanceMethod yX3_holdsWith, Cond.selects RX3 yX3_holdsWith yX3_holdsWith, Cond.code yX3_holdsWith cX3_holdsWith 3 (some .boolean), Cond.fieldLink RX3 15 "PowerRails$Plan" "tables" "[J", Cond.methodLink RX0 53 yX0_soonest, Cond.instanceMethod yX0_soonest, Cond.selects RX0 yX0_soonest yX0_soonest, Cond.code yX0_soonest cX0_soonest 4 (some .int)]
def wsX10_measured_r4 : List Cond := [Cond.methodLink RX0 61 Lib.Math.min.name, Cond.static Lib.Math.min.name, Cond.initialized "java/lang/Math", Cond.code Lib.Math.min.name Lib.Math.min.code 2 (some .int), Cond.methodLink RX10 314 yX10_compareSheet, Cond.instanceMethod yX10_compareSheet, Cond.selects RX10 yX10_compareSheet yX10_compareSheet, Cond.code yX10_compareSheet cX10_compareSheet 12 (some .int), Cond.fieldLink RX10 327 "PowerRails$Sheets" "cells" "[[I", Cond.methodLink RX10 331 Lib.Math.abs.name, Cond.static Lib.Math.abs.name, Cond.code Lib.Math.abs.name Lib.Math.abs.code 1 (some .int), Cond.methodLink RX10 237 yX0_drawnAt, Cond.instanceMethod yX0_drawnAt, Cond.selects RX0 yX0_drawnAt yX0_drawnAt, Cond.code yX0_drawnAt cX0_drawnAt 5 (some .int), Cond.methodLink RX0 66 yX0_isUp, Cond.instanceMethod yX0_isUp, Cond.selects RX0 yX0_isUp yX0_isUp, Cond.code yX0_isUp cX0_isUp 2 (some .boolean)]
def wsX10_measured : List Cond := .code yX10_measured cX10_measured 6 (some .int) :: ((wsX10_measured_r1 ++ (wsX10_measured_r2 ++ (wsX10_measured_r3 ++ wsX10_measured_r4))) ++ wsX100 ++ wsX60 ++ wsX50 ++ wsX30 ++ wsX00)
def wsX10_count_r1 : List Cond := [Cond.fieldLink RX10 56 "PowerRails" "plan" "LPowerRails$Plan;", Cond.fieldLink RX10 117 "PowerRails$Plan" "rails" "I", Cond.fieldLink RX10 19 "PowerRails" "run" "LPowerRails$Run;", Cond.fieldLink RX10 147 "PowerRails$Run" "dead" "I", Cond.fieldLink RX10 187 "PowerRails$Run" "history" "LPowerRails$History;", Cond.fieldLink RX10 191 "PowerRails$History" "size" "I", Cond.fieldLink RX10 10 "PowerRails" "tape" "LPowerRails$Tape;", Cond.fieldLink RX10 80 "PowerRails$Tape" "length" "I", Cond.fieldLink RX10 49 "PowerRails" "sheets" "LPowerRails$Sheets;", Cond.fieldLink RX10 305 "PowerRails$Sheets" "sizes" "[I", Cond.methodLink RX10 281 yJ6_bitCount_0f7a4, Cond.static yJ6_bitCount_0f7a4, Cond.initialized RJ6, Cond.code yJ6_bitCount_0f7a4 cJ6_bitCount_0f7a4 1 (some .int), Cond.constant RJ6 265 (1431655765), Cond.constant RJ6 266 (858993459), Cond.constant RJ6 267 (252645135), Cond.methodLink RX10 230 yX3_countWays, Cond.instanceMethod yX3_countWays, Cond.selects RX3 yX3_countWays yX3_countWays, Cond.initialized RX3, Cond.code yX3_countWays cX3_countWays 3 (some .int), Cond.fieldLink RX3 19 "PowerRails$Plan" "rails" "I", Cond.methodLink RX3 45 yX3_number]
def wsX10_count_r2 : List Cond := [Cond.instanceMethod yX3_number, Cond.selects RX3 yX3_number yX3_number, Cond.code yX3_number cX3_number 3 (some .int), Cond.fieldLink RX3 11 "PowerRails$Plan" "numbers" "[I"]
def wsX10_count : List Cond := .code yX10_count cX10_count 2 (some .int) :: ((wsX10_count_r1 ++ wsX10_count_r2) ++ wsX100 ++ wsX30 ++ wsX50 ++ wsX20 ++ wsX80 ++ wsX60)
def wsX11_firstDraft : List Cond := .code yX11_firstDraft cX11_firstDraft 1 none :: ([.fieldLink RX11 98 "PowerRailsModel" "dRails" "I", .fieldLink RX11 102 "PowerRailsModel" "dLimit" "I", .fieldLink RX11 105 "PowerRailsModel" "dRetry" "I", .fieldLink RX11 108 "PowerRailsModel" "dPause" "I", .fieldLink RX11 111 "PowerRailsModel" "hasLimit" "Z", .fieldLink RX11 115 "PowerRailsModel" "hasRetry" "Z", .fieldLink RX11 118 "PowerRailsModel" "used" "I"] ++ wsX110)
def wsX11_of : List Cond := .code yX11_of cX11_of 3 (some .int) :: ([.fieldLink RX11 7 "PowerRailsModel" "told" "[I"] ++ wsX110)
def wsX11_begins : List Cond := .code yX11_begins cX11_begins 2 none :: ([.fieldLink RX11 267 "PowerRailsModel" "tick" "I", .fieldLink RX11 270 "PowerRailsModel" "isOn" "Z", .fieldLink RX11 273 "PowerRailsModel" "held" "I", .fieldLink RX11 127 "PowerRailsModel" "retry" "I", .fieldLink RX11 276 "PowerRailsModel" "tries" "I", .fieldLink RX11 279 "PowerRailsModel" "drawnNow" "I", .fieldLink RX11 282 "PowerRailsModel" "drawnMost" "I", .fieldLink RX11 285 "PowerRailsModel" "trips" "I", .fieldLink RX11 288 "PowerRailsModel" "happenings" "I", .fieldLink RX11 47 "PowerRailsModel" "state" "[I", .fieldLink RX11 50 "PowerRailsModel" "since" "[I", .fieldLink RX11 53 "PowerRailsModel" "upSince" "[I", .fieldLink RX11 56 "PowerRailsModel" "isDead" "[Z", .fieldLink RX11 59 "PowerRailsModel" "takes" "[I", .fieldLink RX11 121 "PowerRailsModel" "rails" "I", .fieldLink RX11 62 "PowerRailsModel" "wasGood" "[I", .methodLink RX11 251 yX11_of, .instanceMethod yX11_of, .selects RX11 yX11_of yX11_of, .initialized RX11, .code yX11_of cX11_of 3 (some .int), .fieldLink RX11 7 "PowerRailsModel" "told" "[I"] ++ wsX110)
def wsX11_keepDraft_r1 : List Cond := [Cond.fieldLink RX11 98 "PowerRailsModel" "dRails" "I", Cond.fieldLink RX11 121 "PowerRailsModel" "rails" "I", Cond.fieldLink RX11 102 "PowerRailsModel" "dLimit" "I", Cond.fieldLink RX11 124 "PowerRailsModel" "limit" "I", Cond.fieldLink RX11 105 "PowerRailsModel" "dRetry" "I", Cond.fieldLink RX11 127 "PowerRailsModel" "retry" "I", Cond.fieldLink RX11 108 "PowerRailsModel" "dPause" "I", Cond.fieldLink RX11 130 "PowerRailsModel" "pause" "I", Cond.fieldLink RX11 7 "PowerRailsModel" "told" "[I", Cond.fieldLink RX11 20 "PowerRailsModel" "dTold" "[I", Cond.fieldLink RX11 13 "PowerRailsModel" "names" "[I", Cond.fieldLink RX11 23 "PowerRailsModel" "dNames" "[I", Cond.fieldLink RX11 16 "PowerRailsModel" "table" "[Z", Cond.fieldLink RX11 26 "PowerRailsModel" "dTable" "[Z", Cond.methodLink RX11 133 yX11_begins, Cond.instanceMethod yX11_begins, Cond.selects RX11 yX11_begins yX11_begins, Cond.initialized RX11, Cond.code yX11_begins cX11_begins 2 none, Cond.fieldLink RX11 267 "PowerRailsModel" "tick" "I", Cond.fieldLink RX11 270 "PowerRailsModel" "isOn" "Z", Cond.fieldLink RX11 273 "PowerRailsModel" "held" "I", Cond.fieldLink RX11 276 "PowerRailsModel" "tries" "I", Cond.fieldLink RX11 279 "PowerRailsModel" "drawnNow" "I"]
def wsX11_keepDraft_r2 : List Cond := [Cond.fieldLink RX11 282 "PowerRailsModel" "drawnMost" "I", Cond.fieldLink RX11 285 "PowerRailsModel" "trips" "I", Cond.fieldLink RX11 288 "PowerRailsModel" "happenings" "I", Cond.fieldLink RX11 47 "PowerRailsModel" "state" "[I", Cond.fieldLink RX11 50 "PowerRailsModel" "since" "[I", Cond.fieldLink RX11 53 "PowerRailsModel" "upSince" "[I", Cond.fieldLink RX11 56 "PowerRailsModel" "isDead" "[Z", Cond.fieldLink RX11 59 "PowerRailsModel" "takes" "[I", Cond.fieldLink RX11 62 "PowerRailsModel" "wasGood" "[I", Cond.methodLink RX11 251 yX11_of, Cond.instanceMethod yX11_of, Cond.selects RX11 yX11_of yX11_of, Cond.code yX11_of cX11_of 3 (some .int)]
def wsX11_keepDraft : List Cond := .code yX11_keepDraft cX11_keepDraft 2 none :: ((wsX11_keepDraft_r1 ++ wsX11_keepDraft_r2) ++ wsX110)
def wsX11_init_r1 : List Cond := [Cond.methodLink RX11 1 objectInit, Cond.instanceMethod objectInit, Cond.code objectInit ⟨#[0xb1]⟩ 1 none, Cond.arrayClass .int, Cond.fieldLink RX11 7 "PowerRailsModel" "told" "[I", Cond.fieldLink RX11 13 "PowerRailsModel" "names" "[I", Cond.arrayClass .boolean, Cond.fieldLink RX11 16 "PowerRailsModel" "table" "[Z", Cond.fieldLink RX11 20 "PowerRailsModel" "dTold" "[I", Cond.fieldLink RX11 23 "PowerRailsModel" "dNames" "[I", Cond.fieldLink RX11 26 "PowerRailsModel" "dTable" "[Z", Cond.fieldLink RX11 29 "PowerRailsModel" "usedRail" "[I", Cond.fieldLink RX11 32 "PowerRailsModel" "usedAt" "[I", Cond.fieldLink RX11 35 "PowerRailsModel" "code" "[I", Cond.fieldLink RX11 38 "PowerRailsModel" "wait" "[I", Cond.fieldLink RX11 41 "PowerRailsModel" "pile" "[Z", Cond.fieldLink RX11 44 "PowerRailsModel" "tape" "[I", Cond.fieldLink RX11 47 "PowerRailsModel" "state" "[I", Cond.fieldLink RX11 50 "PowerRailsModel" "since" "[I", Cond.fieldLink RX11 53 "PowerRailsModel" "upSince" "[I", Cond.fieldLink RX11 56 "PowerRailsModel" "isDead" "[Z", Cond.fieldLink RX11 59 "PowerRailsModel" "takes" "[I", Cond.fieldLink RX11 62 "PowerRailsModel" "wasGood" "[I", Cond.fieldLink RX11 65 "PowerRailsModel" "happening" "[I"]
def wsX11_init_r2 : List Cond := [Cond.fieldLink RX11 68 "PowerRailsModel" "mayAt" "[I", Cond.fieldLink RX11 71 "PowerRailsModel" "goodAt" "[I", Cond.fieldLink RX11 74 "PowerRailsModel" "by" "[I", Cond.fieldLink RX11 77 "PowerRailsModel" "waits" "[I", Cond.fieldLink RX11 80 "PowerRailsModel" "bestWaits" "[I", Cond.fieldLink RX11 83 "PowerRailsModel" "lanes" "[I", Cond.fieldLink RX11 86 "PowerRailsModel" "sizes" "[I", Cond.fieldLink RX11 89 "PowerRailsModel" "cells" "[I", Cond.methodLink RX11 92 yX11_firstDraft, Cond.instanceMethod yX11_firstDraft, Cond.selects RX11 yX11_firstDraft yX11_firstDraft, Cond.initialized RX11, Cond.code yX11_firstDraft cX11_firstDraft 1 none, Cond.fieldLink RX11 98 "PowerRailsModel" "dRails" "I", Cond.fieldLink RX11 102 "PowerRailsModel" "dLimit" "I", Cond.fieldLink RX11 105 "PowerRailsModel" "dRetry" "I", Cond.fieldLink RX11 108 "PowerRailsModel" "dPause" "I", Cond.fieldLink RX11 111 "PowerRailsModel" "hasLimit" "Z", Cond.fieldLink RX11 115 "PowerRailsModel" "hasRetry" "Z", Cond.fieldLink RX11 118 "PowerRailsModel" "used" "I", Cond.methodLink RX11 95 yX11_keepDraft, Cond.instanceMethod yX11_keepDraft, Cond.selects RX11 yX11_keepDraft yX11_keepDraft, Cond.code yX11_keepDraft cX11_keepDraft 2 none]
def wsX11_init_r3 : List Cond := [Cond.fieldLink RX11 121 "PowerRailsModel" "rails" "I", Cond.fieldLink RX11 124 "PowerRailsModel" "limit" "I", Cond.fieldLink RX11 127 "PowerRailsModel" "retry" "I", Cond.fieldLink RX11 130 "PowerRailsModel" "pause" "I", Cond.methodLink RX11 133 yX11_begins, Cond.instanceMethod yX11_begins, Cond.selects RX11 yX11_begins yX11_begins, Cond.code yX11_begins cX11_begins 2 none, Cond.fieldLink RX11 267 "PowerRailsModel" "tick" "I", Cond.fieldLink RX11 270 "PowerRailsModel" "isOn" "Z", Cond.fieldLink RX11 273 "PowerRailsModel" "held" "I", Cond.fieldLink RX11 276 "PowerRailsModel" "tries" "I", Cond.fieldLink RX11 279 "PowerRailsModel" "drawnNow" "I", Cond.fieldLink RX11 282 "PowerRailsModel" "drawnMost" "I", Cond.fieldLink RX11 285 "PowerRailsModel" "trips" "I", Cond.fieldLink RX11 288 "PowerRailsModel" "happenings" "I", Cond.methodLink RX11 251 yX11_of, Cond.instanceMethod yX11_of, Cond.selects RX11 yX11_of yX11_of, Cond.code yX11_of cX11_of 3 (some .int)]
def wsX11_init : List Cond := .code yX11_init cX11_init 2 none :: ((wsX11_init_r1 ++ (wsX11_init_r2 ++ wsX11_init_r3)) ++ wsX110)
def wsX11_in : List Cond := .code yX11_in cX11_in 6 (some .boolean) :: ([])
def wsX11_flag : List Cond := .code yX11_flag cX11_flag 1 (some .int) :: ([])
def wsX11_countOf : List Cond := .code yX11_countOf cX11_countOf 3 (some .int) :: ([])
def wsX11_feed : List Cond := .code yX11_feed cX11_feed 4 (some .int) :: ([.fieldLink RX11 136 "PowerRailsModel" "taped" "I", .fieldLink RX11 44 "PowerRailsModel" "tape" "[I", .constantLong RX11 139 (255)] ++ wsX110)
def wsX11_end : List Cond := .code yX11_end cX11_end 3 (some .int) :: ([.fieldLink RX11 136 "PowerRailsModel" "taped" "I", .methodLink RX11 141 yX11_in, .static yX11_in, .initialized RX11, .code yX11_in cX11_in 6 (some .boolean)] ++ wsX110)
def wsX11_wants : List Cond := .code yX11_wants cX11_wants 3 none :: ([.fieldLink RX11 145 "PowerRailsModel" "fault" "I", .fieldLink RX11 148 "PowerRailsModel" "from" "I", .fieldLink RX11 151 "PowerRailsModel" "wrongAt" "I"] ++ wsX110)
def wsX11_look : List Cond := .code yX11_look cX11_look 2 (some .int) :: ([.fieldLink RX11 136 "PowerRailsModel" "taped" "I", .fieldLink RX11 44 "PowerRailsModel" "tape" "[I"] ++ wsX110)
def wsX11_is : List Cond := .code yX11_is cX11_is 6 (some .boolean) :: ([.fieldLink RX11 154 "PowerRailsModel" "pos" "I", .fieldLink RX11 148 "PowerRailsModel" "from" "I", .methodLink RX11 157 yX11_look, .instanceMethod yX11_look, .selects RX11 yX11_look yX11_look, .initialized RX11, .code yX11_look cX11_look 2 (some .int), .fieldLink RX11 136 "PowerRailsModel" "taped" "I", .fieldLink RX11 44 "PowerRailsModel" "tape" "[I"] ++ wsX110)
def wsX11_nameNow : List Cond := .code yX11_nameNow cX11_nameNow 2 (some .int) :: ([.fieldLink RX11 148 "PowerRailsModel" "from" "I", .fieldLink RX11 154 "PowerRailsModel" "pos" "I", .constantLong RX11 161 (7), .methodLink RX11 157 yX11_look, .instanceMethod yX11_look, .selects RX11 yX11_look yX11_look, .initialized RX11, .code yX11_look cX11_look 2 (some .int), .fieldLink RX11 136 "PowerRailsModel" "taped" "I", .fieldLink RX11 44 "PowerRailsModel" "tape" "[I", .methodLink RX11 141 yX11_in, .static yX11_in, .code yX11_in cX11_in 6 (some .boolean), .methodLink RX11 163 yX11_is, .instanceMethod yX11_is, .selects RX11 yX11_is yX11_is, .code yX11_is cX11_is 6 (some .boolean)] ++ wsX110)
def wsX11_next : List Cond := .code yX11_next cX11_next 2 none :: ([.fieldLink RX11 145 "PowerRailsModel" "fault" "I", .fieldLink RX11 154 "PowerRailsModel" "pos" "I", .fieldLink RX11 148 "PowerRailsModel" "from" "I", .fieldLink RX11 167 "PowerRailsModel" "sort" "I", .constantLong RX11 170 (97), .constantLong RX11 172 (122), .constantLong RX11 174 (48), .constantLong RX11 176 (57), .fieldLink RX11 178 "PowerRailsModel" "value" "I", .methodLink RX11 157 yX11_look, .instanceMethod yX11_look, .selects RX11 yX11_look yX11_look, .initialized RX11, .code yX11_look cX11_look 2 (some .int), .fieldLink RX11 136 "PowerRailsModel" "taped" "I", .fieldLink RX11 44 "PowerRailsModel" "tape" "[I", .methodLink RX11 141 yX11_in, .static yX11_in, .code yX11_in cX11_in 6 (some .boolean), .methodLink RX11 181 yX11_wants, .instanceMethod yX11_wants, .selects RX11 yX11_wants yX11_wants, .code yX11_wants cX11_wants 3 none, .fieldLink RX11 151 "PowerRailsModel" "wrongAt" "I"] ++ wsX110)
def wsX11_readNumber_r1 : List Cond := [Cond.fieldLink RX11 145 "PowerRailsModel" "fault" "I", Cond.fieldLink RX11 167 "PowerRailsModel" "sort" "I", Cond.fieldLink RX11 178 "PowerRailsModel" "value" "I", Cond.methodLink RX11 181 yX11_wants, Cond.instanceMethod yX11_wants, Cond.selects RX11 yX11_wants yX11_wants, Cond.initialized RX11, Cond.code yX11_wants cX11_wants 3 none, Cond.fieldLink RX11 148 "PowerRailsModel" "from" "I", Cond.fieldLink RX11 151 "PowerRailsModel" "wrongAt" "I", Cond.methodLink RX11 141 yX11_in, Cond.static yX11_in, Cond.code yX11_in cX11_in 6 (some .boolean), Cond.methodLink RX11 185 yX11_next, Cond.instanceMethod yX11_next, Cond.selects RX11 yX11_next yX11_next, Cond.code yX11_next cX11_next 2 none, Cond.fieldLink RX11 154 "PowerRailsModel" "pos" "I", Cond.constantLong RX11 170 (97), Cond.constantLong RX11 172 (122), Cond.constantLong RX11 174 (48), Cond.constantLong RX11 176 (57), Cond.methodLink RX11 157 yX11_look, Cond.instanceMethod yX11_look]
def wsX11_readNumber_r2 : List Cond := [Cond.selects RX11 yX11_look yX11_look, Cond.code yX11_look cX11_look 2 (some .int), Cond.fieldLink RX11 136 "PowerRailsModel" "taped" "I", Cond.fieldLink RX11 44 "PowerRailsModel" "tape" "[I"]
def wsX11_readNumber : List Cond := .code yX11_readNumber cX11_readNumber 4 (some .int) :: ((wsX11_readNumber_r1 ++ wsX11_readNumber_r2) ++ wsX110)
def wsX11_readLetter_r1 : List Cond := [Cond.constantLong RX11 161 (7), Cond.fieldLink RX11 145 "PowerRailsModel" "fault" "I", Cond.fieldLink RX11 35 "PowerRailsModel" "code" "[I", Cond.fieldLink RX11 192 "PowerRailsModel" "coded" "I", Cond.fieldLink RX11 29 "PowerRailsModel" "usedRail" "[I", Cond.fieldLink RX11 118 "PowerRailsModel" "used" "I", Cond.fieldLink RX11 32 "PowerRailsModel" "usedAt" "[I", Cond.fieldLink RX11 148 "PowerRailsModel" "from" "I", Cond.methodLink RX11 188 yX11_nameNow, Cond.instanceMethod yX11_nameNow, Cond.selects RX11 yX11_nameNow yX11_nameNow, Cond.initialized RX11, Cond.code yX11_nameNow cX11_nameNow 2 (some .int), Cond.fieldLink RX11 154 "PowerRailsModel" "pos" "I", Cond.methodLink RX11 157 yX11_look, Cond.instanceMethod yX11_look, Cond.selects RX11 yX11_look yX11_look, Cond.code yX11_look cX11_look 2 (some .int), Cond.fieldLink RX11 136 "PowerRailsModel" "taped" "I", Cond.fieldLink RX11 44 "PowerRailsModel" "tape" "[I", Cond.methodLink RX11 141 yX11_in, Cond.static yX11_in, Cond.code yX11_in cX11_in 6 (some .boolean), Cond.methodLink RX11 163 yX11_is]
def wsX11_readLetter_r2 : List Cond := [Cond.instanceMethod yX11_is, Cond.selects RX11 yX11_is yX11_is, Cond.code yX11_is cX11_is 6 (some .boolean), Cond.methodLink RX11 181 yX11_wants, Cond.instanceMethod yX11_wants, Cond.selects RX11 yX11_wants yX11_wants, Cond.code yX11_wants cX11_wants 3 none, Cond.fieldLink RX11 151 "PowerRailsModel" "wrongAt" "I", Cond.methodLink RX11 185 yX11_next, Cond.instanceMethod yX11_next, Cond.selects RX11 yX11_next yX11_next, Cond.code yX11_next cX11_next 2 none, Cond.fieldLink RX11 167 "PowerRailsModel" "sort" "I", Cond.constantLong RX11 170 (97), Cond.constantLong RX11 172 (122), Cond.constantLong RX11 174 (48), Cond.constantLong RX11 176 (57), Cond.fieldLink RX11 178 "PowerRailsModel" "value" "I"]
def wsX11_readLetter : List Cond := .code yX11_readLetter cX11_readLetter 2 none :: ((wsX11_readLetter_r1 ++ wsX11_readLetter_r2) ++ wsX110)
def wsX11_done : List Cond := .code yX11_done cX11_done 2 none :: ([.fieldLink RX11 195 "PowerRailsModel" "waiting" "I", .fieldLink RX11 38 "PowerRailsModel" "wait" "[I", .fieldLink RX11 35 "PowerRailsModel" "code" "[I", .fieldLink RX11 192 "PowerRailsModel" "coded" "I"] ++ wsX110)
def wsX11_holdsBack : List Cond := .code yX11_holdsBack cX11_holdsBack 2 none :: ([.fieldLink RX11 38 "PowerRailsModel" "wait" "[I", .fieldLink RX11 195 "PowerRailsModel" "waiting" "I"] ++ wsX110)
def wsX11_readUnit_r1 : List Cond := [Cond.fieldLink RX11 145 "PowerRailsModel" "fault" "I", Cond.fieldLink RX11 167 "PowerRailsModel" "sort" "I", Cond.fieldLink RX11 198 "PowerRailsModel" "deep" "I", Cond.fieldLink RX11 195 "PowerRailsModel" "waiting" "I", Cond.methodLink RX11 181 yX11_wants, Cond.instanceMethod yX11_wants, Cond.selects RX11 yX11_wants yX11_wants, Cond.initialized RX11, Cond.code yX11_wants cX11_wants 3 none, Cond.fieldLink RX11 148 "PowerRailsModel" "from" "I", Cond.fieldLink RX11 151 "PowerRailsModel" "wrongAt" "I", Cond.methodLink RX11 201 yX11_holdsBack, Cond.instanceMethod yX11_holdsBack, Cond.selects RX11 yX11_holdsBack yX11_holdsBack, Cond.code yX11_holdsBack cX11_holdsBack 2 none, Cond.fieldLink RX11 38 "PowerRailsModel" "wait" "[I", Cond.methodLink RX11 185 yX11_next, Cond.instanceMethod yX11_next, Cond.selects RX11 yX11_next yX11_next, Cond.code yX11_next cX11_next 2 none, Cond.fieldLink RX11 154 "PowerRailsModel" "pos" "I", Cond.constantLong RX11 170 (97), Cond.constantLong RX11 172 (122), Cond.constantLong RX11 174 (48)]
def wsX11_readUnit_r2 : List Cond := [Cond.constantLong RX11 176 (57), Cond.fieldLink RX11 178 "PowerRailsModel" "value" "I", Cond.methodLink RX11 157 yX11_look, Cond.instanceMethod yX11_look, Cond.selects RX11 yX11_look yX11_look, Cond.code yX11_look cX11_look 2 (some .int), Cond.fieldLink RX11 136 "PowerRailsModel" "taped" "I", Cond.fieldLink RX11 44 "PowerRailsModel" "tape" "[I", Cond.methodLink RX11 141 yX11_in, Cond.static yX11_in, Cond.code yX11_in cX11_in 6 (some .boolean), Cond.methodLink RX11 205 yX11_readLetter, Cond.instanceMethod yX11_readLetter, Cond.selects RX11 yX11_readLetter yX11_readLetter, Cond.code yX11_readLetter cX11_readLetter 2 none, Cond.constantLong RX11 161 (7), Cond.fieldLink RX11 35 "PowerRailsModel" "code" "[I", Cond.fieldLink RX11 192 "PowerRailsModel" "coded" "I", Cond.fieldLink RX11 29 "PowerRailsModel" "usedRail" "[I", Cond.fieldLink RX11 118 "PowerRailsModel" "used" "I", Cond.fieldLink RX11 32 "PowerRailsModel" "usedAt" "[I", Cond.methodLink RX11 188 yX11_nameNow, Cond.instanceMethod yX11_nameNow, Cond.selects RX11 yX11_nameNow yX11_nameNow]
def wsX11_readUnit_r3 : List Cond := [Cond.code yX11_nameNow cX11_nameNow 2 (some .int), Cond.methodLink RX11 163 yX11_is, Cond.instanceMethod yX11_is, Cond.selects RX11 yX11_is yX11_is, Cond.code yX11_is cX11_is 6 (some .boolean), Cond.methodLink RX11 208 yX11_done, Cond.instanceMethod yX11_done, Cond.selects RX11 yX11_done yX11_done, Cond.code yX11_done cX11_done 2 none]
def wsX11_readUnit : List Cond := .code yX11_readUnit cX11_readUnit 1 none :: ((wsX11_readUnit_r1 ++ (wsX11_readUnit_r2 ++ wsX11_readUnit_r3)) ++ wsX110)
def wsX11_readFormula_r1 : List Cond := [Cond.fieldLink RX11 192 "PowerRailsModel" "coded" "I", Cond.fieldLink RX11 195 "PowerRailsModel" "waiting" "I", Cond.fieldLink RX11 198 "PowerRailsModel" "deep" "I", Cond.fieldLink RX11 145 "PowerRailsModel" "fault" "I", Cond.fieldLink RX11 167 "PowerRailsModel" "sort" "I", Cond.methodLink RX11 211 yX11_readUnit, Cond.instanceMethod yX11_readUnit, Cond.selects RX11 yX11_readUnit yX11_readUnit, Cond.initialized RX11, Cond.code yX11_readUnit cX11_readUnit 1 none, Cond.methodLink RX11 181 yX11_wants, Cond.instanceMethod yX11_wants, Cond.selects RX11 yX11_wants yX11_wants, Cond.code yX11_wants cX11_wants 3 none, Cond.fieldLink RX11 148 "PowerRailsModel" "from" "I", Cond.fieldLink RX11 151 "PowerRailsModel" "wrongAt" "I", Cond.methodLink RX11 201 yX11_holdsBack, Cond.instanceMethod yX11_holdsBack, Cond.selects RX11 yX11_holdsBack yX11_holdsBack, Cond.code yX11_holdsBack cX11_holdsBack 2 none, Cond.fieldLink RX11 38 "PowerRailsModel" "wait" "[I", Cond.methodLink RX11 185 yX11_next, Cond.instanceMethod yX11_next, Cond.selects RX11 yX11_next yX11_next]
def wsX11_readFormula_r2 : List Cond := [Cond.code yX11_next cX11_next 2 none, Cond.fieldLink RX11 154 "PowerRailsModel" "pos" "I", Cond.constantLong RX11 170 (97), Cond.constantLong RX11 172 (122), Cond.constantLong RX11 174 (48), Cond.constantLong RX11 176 (57), Cond.fieldLink RX11 178 "PowerRailsModel" "value" "I", Cond.methodLink RX11 157 yX11_look, Cond.instanceMethod yX11_look, Cond.selects RX11 yX11_look yX11_look, Cond.code yX11_look cX11_look 2 (some .int), Cond.fieldLink RX11 136 "PowerRailsModel" "taped" "I", Cond.fieldLink RX11 44 "PowerRailsModel" "tape" "[I", Cond.methodLink RX11 141 yX11_in, Cond.static yX11_in, Cond.code yX11_in cX11_in 6 (some .boolean), Cond.methodLink RX11 205 yX11_readLetter, Cond.instanceMethod yX11_readLetter, Cond.selects RX11 yX11_readLetter yX11_readLetter, Cond.code yX11_readLetter cX11_readLetter 2 none, Cond.constantLong RX11 161 (7), Cond.fieldLink RX11 35 "PowerRailsModel" "code" "[I", Cond.fieldLink RX11 29 "PowerRailsModel" "usedRail" "[I", Cond.fieldLink RX11 118 "PowerRailsModel" "used" "I"]
def wsX11_readFormula_r3 : List Cond := [Cond.fieldLink RX11 32 "PowerRailsModel" "usedAt" "[I", Cond.methodLink RX11 188 yX11_nameNow, Cond.instanceMethod yX11_nameNow, Cond.selects RX11 yX11_nameNow yX11_nameNow, Cond.code yX11_nameNow cX11_nameNow 2 (some .int), Cond.methodLink RX11 163 yX11_is, Cond.instanceMethod yX11_is, Cond.selects RX11 yX11_is yX11_is, Cond.code yX11_is cX11_is 6 (some .boolean), Cond.methodLink RX11 208 yX11_done, Cond.instanceMethod yX11_done, Cond.selects RX11 yX11_done yX11_done, Cond.code yX11_done cX11_done 2 none]
def wsX11_readFormula : List Cond := .code yX11_readFormula cX11_readFormula 2 none :: ((wsX11_readFormula_r1 ++ (wsX11_readFormula_r2 ++ wsX11_readFormula_r3)) ++ wsX110)
def wsX11_worth : List Cond := .code yX11_worth cX11_worth 4 (some .boolean) :: ([.fieldLink RX11 192 "PowerRailsModel" "coded" "I", .fieldLink RX11 35 "PowerRailsModel" "code" "[I", .fieldLink RX11 41 "PowerRailsModel" "pile" "[Z"] ++ wsX110)
def wsX11_keepFormula : List Cond := .code yX11_keepFormula cX11_keepFormula 2 none :: ([.fieldLink RX11 23 "PowerRailsModel" "dNames" "[I", .fieldLink RX11 98 "PowerRailsModel" "dRails" "I", .fieldLink RX11 192 "PowerRailsModel" "coded" "I", .fieldLink RX11 35 "PowerRailsModel" "code" "[I", .fieldLink RX11 26 "PowerRailsModel" "dTable" "[Z", .methodLink RX11 214 yX11_worth, .instanceMethod yX11_worth, .selects RX11 yX11_worth yX11_worth, .initialized RX11, .code yX11_worth cX11_worth 4 (some .boolean), .fieldLink RX11 41 "PowerRailsModel" "pile" "[Z"] ++ wsX110)
def wsX11_readWith_r1 : List Cond := [Cond.fieldLink RX11 98 "PowerRailsModel" "dRails" "I", Cond.fieldLink RX11 20 "PowerRailsModel" "dTold" "[I", Cond.methodLink RX11 185 yX11_next, Cond.instanceMethod yX11_next, Cond.selects RX11 yX11_next yX11_next, Cond.initialized RX11, Cond.code yX11_next cX11_next 2 none, Cond.fieldLink RX11 145 "PowerRailsModel" "fault" "I", Cond.fieldLink RX11 154 "PowerRailsModel" "pos" "I", Cond.fieldLink RX11 148 "PowerRailsModel" "from" "I", Cond.fieldLink RX11 167 "PowerRailsModel" "sort" "I", Cond.constantLong RX11 170 (97), Cond.constantLong RX11 172 (122), Cond.constantLong RX11 174 (48), Cond.constantLong RX11 176 (57), Cond.fieldLink RX11 178 "PowerRailsModel" "value" "I", Cond.methodLink RX11 157 yX11_look, Cond.instanceMethod yX11_look, Cond.selects RX11 yX11_look yX11_look, Cond.code yX11_look cX11_look 2 (some .int), Cond.fieldLink RX11 136 "PowerRailsModel" "taped" "I", Cond.fieldLink RX11 44 "PowerRailsModel" "tape" "[I", Cond.methodLink RX11 141 yX11_in, Cond.static yX11_in]
def wsX11_readWith_r2 : List Cond := [Cond.code yX11_in cX11_in 6 (some .boolean), Cond.methodLink RX11 181 yX11_wants, Cond.instanceMethod yX11_wants, Cond.selects RX11 yX11_wants yX11_wants, Cond.code yX11_wants cX11_wants 3 none, Cond.fieldLink RX11 151 "PowerRailsModel" "wrongAt" "I", Cond.methodLink RX11 218 yX11_readNumber, Cond.instanceMethod yX11_readNumber, Cond.selects RX11 yX11_readNumber yX11_readNumber, Cond.code yX11_readNumber cX11_readNumber 4 (some .int)]
def wsX11_readWith : List Cond := .code yX11_readWith cX11_readWith 3 none :: ((wsX11_readWith_r1 ++ wsX11_readWith_r2) ++ wsX110)
def wsX11_readWhen_r1 : List Cond := [Cond.fieldLink RX11 145 "PowerRailsModel" "fault" "I", Cond.fieldLink RX11 167 "PowerRailsModel" "sort" "I", Cond.fieldLink RX11 35 "PowerRailsModel" "code" "[I", Cond.fieldLink RX11 192 "PowerRailsModel" "coded" "I", Cond.fieldLink RX11 98 "PowerRailsModel" "dRails" "I", Cond.methodLink RX11 185 yX11_next, Cond.instanceMethod yX11_next, Cond.selects RX11 yX11_next yX11_next, Cond.initialized RX11, Cond.code yX11_next cX11_next 2 none, Cond.fieldLink RX11 154 "PowerRailsModel" "pos" "I", Cond.fieldLink RX11 148 "PowerRailsModel" "from" "I", Cond.constantLong RX11 170 (97), Cond.constantLong RX11 172 (122), Cond.constantLong RX11 174 (48), Cond.constantLong RX11 176 (57), Cond.fieldLink RX11 178 "PowerRailsModel" "value" "I", Cond.methodLink RX11 157 yX11_look, Cond.instanceMethod yX11_look, Cond.selects RX11 yX11_look yX11_look, Cond.code yX11_look cX11_look 2 (some .int), Cond.fieldLink RX11 136 "PowerRailsModel" "taped" "I", Cond.fieldLink RX11 44 "PowerRailsModel" "tape" "[I", Cond.methodLink RX11 141 yX11_in]
def wsX11_readWhen_r2 : List Cond := [Cond.static yX11_in, Cond.code yX11_in cX11_in 6 (some .boolean), Cond.methodLink RX11 181 yX11_wants, Cond.instanceMethod yX11_wants, Cond.selects RX11 yX11_wants yX11_wants, Cond.code yX11_wants cX11_wants 3 none, Cond.fieldLink RX11 151 "PowerRailsModel" "wrongAt" "I", Cond.methodLink RX11 232 yX11_readFormula, Cond.instanceMethod yX11_readFormula, Cond.selects RX11 yX11_readFormula yX11_readFormula, Cond.code yX11_readFormula cX11_readFormula 2 none, Cond.fieldLink RX11 195 "PowerRailsModel" "waiting" "I", Cond.fieldLink RX11 198 "PowerRailsModel" "deep" "I", Cond.methodLink RX11 211 yX11_readUnit, Cond.instanceMethod yX11_readUnit, Cond.selects RX11 yX11_readUnit yX11_readUnit, Cond.code yX11_readUnit cX11_readUnit 1 none, Cond.methodLink RX11 201 yX11_holdsBack, Cond.instanceMethod yX11_holdsBack, Cond.selects RX11 yX11_holdsBack yX11_holdsBack, Cond.code yX11_holdsBack cX11_holdsBack 2 none, Cond.fieldLink RX11 38 "PowerRailsModel" "wait" "[I", Cond.methodLink RX11 205 yX11_readLetter, Cond.instanceMethod yX11_readLetter]
def wsX11_readWhen_r3 : List Cond := [Cond.selects RX11 yX11_readLetter yX11_readLetter, Cond.code yX11_readLetter cX11_readLetter 2 none, Cond.constantLong RX11 161 (7), Cond.fieldLink RX11 29 "PowerRailsModel" "usedRail" "[I", Cond.fieldLink RX11 118 "PowerRailsModel" "used" "I", Cond.fieldLink RX11 32 "PowerRailsModel" "usedAt" "[I", Cond.methodLink RX11 188 yX11_nameNow, Cond.instanceMethod yX11_nameNow, Cond.selects RX11 yX11_nameNow yX11_nameNow, Cond.code yX11_nameNow cX11_nameNow 2 (some .int), Cond.methodLink RX11 163 yX11_is, Cond.instanceMethod yX11_is, Cond.selects RX11 yX11_is yX11_is, Cond.code yX11_is cX11_is 6 (some .boolean), Cond.methodLink RX11 208 yX11_done, Cond.instanceMethod yX11_done, Cond.selects RX11 yX11_done yX11_done, Cond.code yX11_done cX11_done 2 none, Cond.methodLink RX11 235 yX11_keepFormula, Cond.instanceMethod yX11_keepFormula, Cond.selects RX11 yX11_keepFormula yX11_keepFormula, Cond.code yX11_keepFormula cX11_keepFormula 2 none, Cond.fieldLink RX11 23 "PowerRailsModel" "dNames" "[I", Cond.fieldLink RX11 26 "PowerRailsModel" "dTable" "[Z"]
def wsX11_readWhen_r4 : List Cond := [Cond.methodLink RX11 214 yX11_worth, Cond.instanceMethod yX11_worth, Cond.selects RX11 yX11_worth yX11_worth, Cond.code yX11_worth cX11_worth 4 (some .boolean), Cond.fieldLink RX11 41 "PowerRailsModel" "pile" "[Z"]
def wsX11_readWhen : List Cond := .code yX11_readWhen cX11_readWhen 1 none :: ((wsX11_readWhen_r1 ++ (wsX11_readWhen_r2 ++ (wsX11_readWhen_r3 ++ wsX11_readWhen_r4))) ++ wsX110)
def wsX11_readRail_r1 : List Cond := [Cond.fieldLink RX11 98 "PowerRailsModel" "dRails" "I", Cond.fieldLink RX11 145 "PowerRailsModel" "fault" "I", Cond.fieldLink RX11 167 "PowerRailsModel" "sort" "I", Cond.fieldLink RX11 20 "PowerRailsModel" "dTold" "[I", Cond.constantLong RX11 222 (23), Cond.constantLong RX11 224 (26), Cond.methodLink RX11 181 yX11_wants, Cond.instanceMethod yX11_wants, Cond.selects RX11 yX11_wants yX11_wants, Cond.initialized RX11, Cond.code yX11_wants cX11_wants 3 none, Cond.fieldLink RX11 148 "PowerRailsModel" "from" "I", Cond.fieldLink RX11 151 "PowerRailsModel" "wrongAt" "I", Cond.methodLink RX11 185 yX11_next, Cond.instanceMethod yX11_next, Cond.selects RX11 yX11_next yX11_next, Cond.code yX11_next cX11_next 2 none, Cond.fieldLink RX11 154 "PowerRailsModel" "pos" "I", Cond.constantLong RX11 170 (97), Cond.constantLong RX11 172 (122), Cond.constantLong RX11 174 (48), Cond.constantLong RX11 176 (57), Cond.fieldLink RX11 178 "PowerRailsModel" "value" "I", Cond.methodLink RX11 157 yX11_look]
def wsX11_readRail_r2 : List Cond := [Cond.instanceMethod yX11_look, Cond.selects RX11 yX11_look yX11_look, Cond.code yX11_look cX11_look 2 (some .int), Cond.fieldLink RX11 136 "PowerRailsModel" "taped" "I", Cond.fieldLink RX11 44 "PowerRailsModel" "tape" "[I", Cond.methodLink RX11 141 yX11_in, Cond.static yX11_in, Cond.code yX11_in cX11_in 6 (some .boolean), Cond.methodLink RX11 188 yX11_nameNow, Cond.instanceMethod yX11_nameNow, Cond.selects RX11 yX11_nameNow yX11_nameNow, Cond.code yX11_nameNow cX11_nameNow 2 (some .int), Cond.constantLong RX11 161 (7), Cond.methodLink RX11 163 yX11_is, Cond.instanceMethod yX11_is, Cond.selects RX11 yX11_is yX11_is, Cond.code yX11_is cX11_is 6 (some .boolean), Cond.methodLink RX11 218 yX11_readNumber, Cond.instanceMethod yX11_readNumber, Cond.selects RX11 yX11_readNumber yX11_readNumber, Cond.code yX11_readNumber cX11_readNumber 4 (some .int), Cond.methodLink RX11 226 yX11_readWith, Cond.instanceMethod yX11_readWith, Cond.selects RX11 yX11_readWith yX11_readWith]
def wsX11_readRail_r3 : List Cond := [Cond.code yX11_readWith cX11_readWith 3 none, Cond.methodLink RX11 229 yX11_readWhen, Cond.instanceMethod yX11_readWhen, Cond.selects RX11 yX11_readWhen yX11_readWhen, Cond.code yX11_readWhen cX11_readWhen 1 none, Cond.fieldLink RX11 35 "PowerRailsModel" "code" "[I", Cond.fieldLink RX11 192 "PowerRailsModel" "coded" "I", Cond.methodLink RX11 232 yX11_readFormula, Cond.instanceMethod yX11_readFormula, Cond.selects RX11 yX11_readFormula yX11_readFormula, Cond.code yX11_readFormula cX11_readFormula 2 none, Cond.fieldLink RX11 195 "PowerRailsModel" "waiting" "I", Cond.fieldLink RX11 198 "PowerRailsModel" "deep" "I", Cond.methodLink RX11 211 yX11_readUnit, Cond.instanceMethod yX11_readUnit, Cond.selects RX11 yX11_readUnit yX11_readUnit, Cond.code yX11_readUnit cX11_readUnit 1 none, Cond.methodLink RX11 201 yX11_holdsBack, Cond.instanceMethod yX11_holdsBack, Cond.selects RX11 yX11_holdsBack yX11_holdsBack, Cond.code yX11_holdsBack cX11_holdsBack 2 none, Cond.fieldLink RX11 38 "PowerRailsModel" "wait" "[I", Cond.methodLink RX11 205 yX11_readLetter, Cond.instanceMethod yX11_readLetter]
def wsX11_readRail_r4 : List Cond := [Cond.selects RX11 yX11_readLetter yX11_readLetter, Cond.code yX11_readLetter cX11_readLetter 2 none, Cond.fieldLink RX11 29 "PowerRailsModel" "usedRail" "[I", Cond.fieldLink RX11 118 "PowerRailsModel" "used" "I", Cond.fieldLink RX11 32 "PowerRailsModel" "usedAt" "[I", Cond.methodLink RX11 208 yX11_done, Cond.instanceMethod yX11_done, Cond.selects RX11 yX11_done yX11_done, Cond.code yX11_done cX11_done 2 none, Cond.methodLink RX11 235 yX11_keepFormula, Cond.instanceMethod yX11_keepFormula, Cond.selects RX11 yX11_keepFormula yX11_keepFormula, Cond.code yX11_keepFormula cX11_keepFormula 2 none, Cond.fieldLink RX11 23 "PowerRailsModel" "dNames" "[I", Cond.fieldLink RX11 26 "PowerRailsModel" "dTable" "[Z", Cond.methodLink RX11 214 yX11_worth, Cond.instanceMethod yX11_worth, Cond.selects RX11 yX11_worth yX11_worth, Cond.code yX11_worth cX11_worth 4 (some .boolean), Cond.fieldLink RX11 41 "PowerRailsModel" "pile" "[Z"]
def wsX11_readRail : List Cond := .code yX11_readRail cX11_readRail 5 none :: ((wsX11_readRail_r1 ++ (wsX11_readRail_r2 ++ (wsX11_readRail_r3 ++ wsX11_readRail_r4))) ++ wsX110)
def wsX11_readLine_r1 : List Cond := [Cond.fieldLink RX11 167 "PowerRailsModel" "sort" "I", Cond.constantLong RX11 238 (20), Cond.constantLong RX11 240 (22), Cond.fieldLink RX11 111 "PowerRailsModel" "hasLimit" "Z", Cond.fieldLink RX11 102 "PowerRailsModel" "dLimit" "I", Cond.fieldLink RX11 115 "PowerRailsModel" "hasRetry" "Z", Cond.fieldLink RX11 105 "PowerRailsModel" "dRetry" "I", Cond.fieldLink RX11 108 "PowerRailsModel" "dPause" "I", Cond.fieldLink RX11 145 "PowerRailsModel" "fault" "I", Cond.methodLink RX11 188 yX11_nameNow, Cond.instanceMethod yX11_nameNow, Cond.selects RX11 yX11_nameNow yX11_nameNow, Cond.initialized RX11, Cond.code yX11_nameNow cX11_nameNow 2 (some .int), Cond.fieldLink RX11 148 "PowerRailsModel" "from" "I", Cond.fieldLink RX11 154 "PowerRailsModel" "pos" "I", Cond.constantLong RX11 161 (7), Cond.methodLink RX11 157 yX11_look, Cond.instanceMethod yX11_look, Cond.selects RX11 yX11_look yX11_look, Cond.code yX11_look cX11_look 2 (some .int), Cond.fieldLink RX11 136 "PowerRailsModel" "taped" "I", Cond.fieldLink RX11 44 "PowerRailsModel" "tape" "[I", Cond.methodLink RX11 141 yX11_in]
def wsX11_readLine_r2 : List Cond := [Cond.static yX11_in, Cond.code yX11_in cX11_in 6 (some .boolean), Cond.methodLink RX11 163 yX11_is, Cond.instanceMethod yX11_is, Cond.selects RX11 yX11_is yX11_is, Cond.code yX11_is cX11_is 6 (some .boolean), Cond.methodLink RX11 181 yX11_wants, Cond.instanceMethod yX11_wants, Cond.selects RX11 yX11_wants yX11_wants, Cond.code yX11_wants cX11_wants 3 none, Cond.fieldLink RX11 151 "PowerRailsModel" "wrongAt" "I", Cond.methodLink RX11 242 yX11_readRail, Cond.instanceMethod yX11_readRail, Cond.selects RX11 yX11_readRail yX11_readRail, Cond.code yX11_readRail cX11_readRail 5 none, Cond.fieldLink RX11 98 "PowerRailsModel" "dRails" "I", Cond.fieldLink RX11 20 "PowerRailsModel" "dTold" "[I", Cond.constantLong RX11 222 (23), Cond.constantLong RX11 224 (26), Cond.methodLink RX11 185 yX11_next, Cond.instanceMethod yX11_next, Cond.selects RX11 yX11_next yX11_next, Cond.code yX11_next cX11_next 2 none, Cond.constantLong RX11 170 (97)]
def wsX11_readLine_r3 : List Cond := [Cond.constantLong RX11 172 (122), Cond.constantLong RX11 174 (48), Cond.constantLong RX11 176 (57), Cond.fieldLink RX11 178 "PowerRailsModel" "value" "I", Cond.methodLink RX11 218 yX11_readNumber, Cond.instanceMethod yX11_readNumber, Cond.selects RX11 yX11_readNumber yX11_readNumber, Cond.code yX11_readNumber cX11_readNumber 4 (some .int), Cond.methodLink RX11 226 yX11_readWith, Cond.instanceMethod yX11_readWith, Cond.selects RX11 yX11_readWith yX11_readWith, Cond.code yX11_readWith cX11_readWith 3 none, Cond.methodLink RX11 229 yX11_readWhen, Cond.instanceMethod yX11_readWhen, Cond.selects RX11 yX11_readWhen yX11_readWhen, Cond.code yX11_readWhen cX11_readWhen 1 none, Cond.fieldLink RX11 35 "PowerRailsModel" "code" "[I", Cond.fieldLink RX11 192 "PowerRailsModel" "coded" "I", Cond.methodLink RX11 232 yX11_readFormula, Cond.instanceMethod yX11_readFormula, Cond.selects RX11 yX11_readFormula yX11_readFormula, Cond.code yX11_readFormula cX11_readFormula 2 none, Cond.fieldLink RX11 195 "PowerRailsModel" "waiting" "I", Cond.fieldLink RX11 198 "PowerRailsModel" "deep" "I"]
def wsX11_readLine_r4 : List Cond := [Cond.methodLink RX11 211 yX11_readUnit, Cond.instanceMethod yX11_readUnit, Cond.selects RX11 yX11_readUnit yX11_readUnit, Cond.code yX11_readUnit cX11_readUnit 1 none, Cond.methodLink RX11 201 yX11_holdsBack, Cond.instanceMethod yX11_holdsBack, Cond.selects RX11 yX11_holdsBack yX11_holdsBack, Cond.code yX11_holdsBack cX11_holdsBack 2 none, Cond.fieldLink RX11 38 "PowerRailsModel" "wait" "[I", Cond.methodLink RX11 205 yX11_readLetter, Cond.instanceMethod yX11_readLetter, Cond.selects RX11 yX11_readLetter yX11_readLetter, Cond.code yX11_readLetter cX11_readLetter 2 none, Cond.fieldLink RX11 29 "PowerRailsModel" "usedRail" "[I", Cond.fieldLink RX11 118 "PowerRailsModel" "used" "I", Cond.fieldLink RX11 32 "PowerRailsModel" "usedAt" "[I", Cond.methodLink RX11 208 yX11_done, Cond.instanceMethod yX11_done, Cond.selects RX11 yX11_done yX11_done, Cond.code yX11_done cX11_done 2 none, Cond.methodLink RX11 235 yX11_keepFormula, Cond.instanceMethod yX11_keepFormula, Cond.selects RX11 yX11_keepFormula yX11_keepFormula, Cond.code yX11_keepFormula cX11_keepFormula 2 none]
def wsX11_readLine_r5 : List Cond := [Cond.fieldLink RX11 23 "PowerRailsModel" "dNames" "[I", Cond.fieldLink RX11 26 "PowerRailsModel" "dTable" "[Z", Cond.methodLink RX11 214 yX11_worth, Cond.instanceMethod yX11_worth, Cond.selects RX11 yX11_worth yX11_worth, Cond.code yX11_worth cX11_worth 4 (some .boolean), Cond.fieldLink RX11 41 "PowerRailsModel" "pile" "[Z"]
def wsX11_readLine : List Cond := .code yX11_readLine cX11_readLine 2 none :: ((wsX11_readLine_r1 ++ (wsX11_readLine_r2 ++ (wsX11_readLine_r3 ++ (wsX11_readLine_r4 ++ wsX11_readLine_r5)))) ++ wsX110)
def wsX11_text_r1 : List Cond := [Cond.fieldLink RX11 145 "PowerRailsModel" "fault" "I", Cond.fieldLink RX11 154 "PowerRailsModel" "pos" "I", Cond.fieldLink RX11 167 "PowerRailsModel" "sort" "I", Cond.fieldLink RX11 118 "PowerRailsModel" "used" "I", Cond.fieldLink RX11 29 "PowerRailsModel" "usedRail" "[I", Cond.fieldLink RX11 98 "PowerRailsModel" "dRails" "I", Cond.fieldLink RX11 32 "PowerRailsModel" "usedAt" "[I", Cond.fieldLink RX11 151 "PowerRailsModel" "wrongAt" "I", Cond.fieldLink RX11 136 "PowerRailsModel" "taped" "I", Cond.methodLink RX11 92 yX11_firstDraft, Cond.instanceMethod yX11_firstDraft, Cond.selects RX11 yX11_firstDraft yX11_firstDraft, Cond.initialized RX11, Cond.code yX11_firstDraft cX11_firstDraft 1 none, Cond.fieldLink RX11 102 "PowerRailsModel" "dLimit" "I", Cond.fieldLink RX11 105 "PowerRailsModel" "dRetry" "I", Cond.fieldLink RX11 108 "PowerRailsModel" "dPause" "I", Cond.fieldLink RX11 111 "PowerRailsModel" "hasLimit" "Z", Cond.fieldLink RX11 115 "PowerRailsModel" "hasRetry" "Z", Cond.methodLink RX11 185 yX11_next, Cond.instanceMethod yX11_next, Cond.selects RX11 yX11_next yX11_next, Cond.code yX11_next cX11_next 2 none, Cond.fieldLink RX11 148 "PowerRailsModel" "from" "I"]
def wsX11_text_r2 : List Cond := [Cond.constantLong RX11 170 (97), Cond.constantLong RX11 172 (122), Cond.constantLong RX11 174 (48), Cond.constantLong RX11 176 (57), Cond.fieldLink RX11 178 "PowerRailsModel" "value" "I", Cond.methodLink RX11 157 yX11_look, Cond.instanceMethod yX11_look, Cond.selects RX11 yX11_look yX11_look, Cond.code yX11_look cX11_look 2 (some .int), Cond.fieldLink RX11 44 "PowerRailsModel" "tape" "[I", Cond.methodLink RX11 141 yX11_in, Cond.static yX11_in, Cond.code yX11_in cX11_in 6 (some .boolean), Cond.methodLink RX11 181 yX11_wants, Cond.instanceMethod yX11_wants, Cond.selects RX11 yX11_wants yX11_wants, Cond.code yX11_wants cX11_wants 3 none, Cond.methodLink RX11 245 yX11_readLine, Cond.instanceMethod yX11_readLine, Cond.selects RX11 yX11_readLine yX11_readLine, Cond.code yX11_readLine cX11_readLine 2 none, Cond.constantLong RX11 238 (20), Cond.constantLong RX11 240 (22), Cond.methodLink RX11 188 yX11_nameNow]
def wsX11_text_r3 : List Cond := [Cond.instanceMethod yX11_nameNow, Cond.selects RX11 yX11_nameNow yX11_nameNow, Cond.code yX11_nameNow cX11_nameNow 2 (some .int), Cond.constantLong RX11 161 (7), Cond.methodLink RX11 163 yX11_is, Cond.instanceMethod yX11_is, Cond.selects RX11 yX11_is yX11_is, Cond.code yX11_is cX11_is 6 (some .boolean), Cond.methodLink RX11 242 yX11_readRail, Cond.instanceMethod yX11_readRail, Cond.selects RX11 yX11_readRail yX11_readRail, Cond.code yX11_readRail cX11_readRail 5 none, Cond.fieldLink RX11 20 "PowerRailsModel" "dTold" "[I", Cond.constantLong RX11 222 (23), Cond.constantLong RX11 224 (26), Cond.methodLink RX11 218 yX11_readNumber, Cond.instanceMethod yX11_readNumber, Cond.selects RX11 yX11_readNumber yX11_readNumber, Cond.code yX11_readNumber cX11_readNumber 4 (some .int), Cond.methodLink RX11 226 yX11_readWith, Cond.instanceMethod yX11_readWith, Cond.selects RX11 yX11_readWith yX11_readWith, Cond.code yX11_readWith cX11_readWith 3 none, Cond.methodLink RX11 229 yX11_readWhen]
def wsX11_text_r4 : List Cond := [Cond.instanceMethod yX11_readWhen, Cond.selects RX11 yX11_readWhen yX11_readWhen, Cond.code yX11_readWhen cX11_readWhen 1 none, Cond.fieldLink RX11 35 "PowerRailsModel" "code" "[I", Cond.fieldLink RX11 192 "PowerRailsModel" "coded" "I", Cond.methodLink RX11 232 yX11_readFormula, Cond.instanceMethod yX11_readFormula, Cond.selects RX11 yX11_readFormula yX11_readFormula, Cond.code yX11_readFormula cX11_readFormula 2 none, Cond.fieldLink RX11 195 "PowerRailsModel" "waiting" "I", Cond.fieldLink RX11 198 "PowerRailsModel" "deep" "I", Cond.methodLink RX11 211 yX11_readUnit, Cond.instanceMethod yX11_readUnit, Cond.selects RX11 yX11_readUnit yX11_readUnit, Cond.code yX11_readUnit cX11_readUnit 1 none, Cond.methodLink RX11 201 yX11_holdsBack, Cond.instanceMethod yX11_holdsBack, Cond.selects RX11 yX11_holdsBack yX11_holdsBack, Cond.code yX11_holdsBack cX11_holdsBack 2 none, Cond.fieldLink RX11 38 "PowerRailsModel" "wait" "[I", Cond.methodLink RX11 205 yX11_readLetter, Cond.instanceMethod yX11_readLetter, Cond.selects RX11 yX11_readLetter yX11_readLetter, Cond.code yX11_readLetter cX11_readLetter 2 none]
def wsX11_text_r5 : List Cond := [Cond.methodLink RX11 208 yX11_done, Cond.instanceMethod yX11_done, Cond.selects RX11 yX11_done yX11_done, Cond.code yX11_done cX11_done 2 none, Cond.methodLink RX11 235 yX11_keepFormula, Cond.instanceMethod yX11_keepFormula, Cond.selects RX11 yX11_keepFormula yX11_keepFormula, Cond.code yX11_keepFormula cX11_keepFormula 2 none, Cond.fieldLink RX11 23 "PowerRailsModel" "dNames" "[I", Cond.fieldLink RX11 26 "PowerRailsModel" "dTable" "[Z", Cond.methodLink RX11 214 yX11_worth, Cond.instanceMethod yX11_worth, Cond.selects RX11 yX11_worth yX11_worth, Cond.code yX11_worth cX11_worth 4 (some .boolean), Cond.fieldLink RX11 41 "PowerRailsModel" "pile" "[Z", Cond.methodLink RX11 95 yX11_keepDraft, Cond.instanceMethod yX11_keepDraft, Cond.selects RX11 yX11_keepDraft yX11_keepDraft, Cond.code yX11_keepDraft cX11_keepDraft 2 none, Cond.fieldLink RX11 121 "PowerRailsModel" "rails" "I", Cond.fieldLink RX11 124 "PowerRailsModel" "limit" "I", Cond.fieldLink RX11 127 "PowerRailsModel" "retry" "I", Cond.fieldLink RX11 130 "PowerRailsModel" "pause" "I", Cond.fieldLink RX11 7 "PowerRailsModel" "told" "[I"]
def wsX11_text_r6 : List Cond := [Cond.fieldLink RX11 13 "PowerRailsModel" "names" "[I", Cond.fieldLink RX11 16 "PowerRailsModel" "table" "[Z", Cond.methodLink RX11 133 yX11_begins, Cond.instanceMethod yX11_begins, Cond.selects RX11 yX11_begins yX11_begins, Cond.code yX11_begins cX11_begins 2 none, Cond.fieldLink RX11 267 "PowerRailsModel" "tick" "I", Cond.fieldLink RX11 270 "PowerRailsModel" "isOn" "Z", Cond.fieldLink RX11 273 "PowerRailsModel" "held" "I", Cond.fieldLink RX11 276 "PowerRailsModel" "tries" "I", Cond.fieldLink RX11 279 "PowerRailsModel" "drawnNow" "I", Cond.fieldLink RX11 282 "PowerRailsModel" "drawnMost" "I", Cond.fieldLink RX11 285 "PowerRailsModel" "trips" "I", Cond.fieldLink RX11 288 "PowerRailsModel" "happenings" "I", Cond.fieldLink RX11 47 "PowerRailsModel" "state" "[I", Cond.fieldLink RX11 50 "PowerRailsModel" "since" "[I", Cond.fieldLink RX11 53 "PowerRailsModel" "upSince" "[I", Cond.fieldLink RX11 56 "PowerRailsModel" "isDead" "[Z", Cond.fieldLink RX11 59 "PowerRailsModel" "takes" "[I", Cond.fieldLink RX11 62 "PowerRailsModel" "wasGood" "[I", Cond.methodLink RX11 251 yX11_of, Cond.instanceMethod yX11_of, Cond.selects RX11 yX11_of yX11_of, Cond.code yX11_of cX11_of 3 (some .int)]
def wsX11_text : List Cond := .code yX11_text cX11_text 3 (some .int) :: ((wsX11_text_r1 ++ (wsX11_text_r2 ++ (wsX11_text_r3 ++ (wsX11_text_r4 ++ (wsX11_text_r5 ++ wsX11_text_r6))))) ++ wsX110)
def wsX11_fault : List Cond := .code yX11_fault cX11_fault 1 (some .int) :: ([.fieldLink RX11 145 "PowerRailsModel" "fault" "I"] ++ wsX110)
def wsX11_isRail : List Cond := .code yX11_isRail cX11_isRail 2 (some .boolean) :: ([.fieldLink RX11 121 "PowerRailsModel" "rails" "I", .methodLink RX11 141 yX11_in, .static yX11_in, .initialized RX11, .code yX11_in cX11_in 6 (some .boolean)] ++ wsX110)
def wsX11_areRails : List Cond := .code yX11_areRails cX11_areRails 2 (some .boolean) :: ([.fieldLink RX11 121 "PowerRailsModel" "rails" "I", .methodLink RX11 141 yX11_in, .static yX11_in, .initialized RX11, .code yX11_in cX11_in 6 (some .boolean)] ++ wsX110)
def wsX11_rail : List Cond := .code yX11_rail cX11_rail 3 (some .int) :: ([.constantLong RX11 161 (7), .fieldLink RX11 13 "PowerRailsModel" "names" "[I", .methodLink RX11 248 yX11_isRail, .instanceMethod yX11_isRail, .selects RX11 yX11_isRail yX11_isRail, .initialized RX11, .code yX11_isRail cX11_isRail 2 (some .boolean), .fieldLink RX11 121 "PowerRailsModel" "rails" "I", .methodLink RX11 141 yX11_in, .static yX11_in, .code yX11_in cX11_in 6 (some .boolean), .methodLink RX11 251 yX11_of, .instanceMethod yX11_of, .selects RX11 yX11_of yX11_of, .code yX11_of cX11_of 3 (some .int), .fieldLink RX11 7 "PowerRailsModel" "told" "[I"] ++ wsX110)
def wsX11_rule : List Cond := .code yX11_rule cX11_rule 2 (some .int) :: ([.fieldLink RX11 124 "PowerRailsModel" "limit" "I", .fieldLink RX11 127 "PowerRailsModel" "retry" "I", .fieldLink RX11 130 "PowerRailsModel" "pause" "I", .fieldLink RX11 121 "PowerRailsModel" "rails" "I"] ++ wsX110)
def wsX11_isSo : List Cond := .code yX11_isSo cX11_isSo 3 (some .boolean) :: ([.fieldLink RX11 16 "PowerRailsModel" "table" "[Z"] ++ wsX110)
def wsX11_holds : List Cond := .code yX11_holds cX11_holds 3 (some .int) :: ([.constantLong RX11 254 (511), .methodLink RX11 248 yX11_isRail, .instanceMethod yX11_isRail, .selects RX11 yX11_isRail yX11_isRail, .initialized RX11, .code yX11_isRail cX11_isRail 2 (some .boolean), .fieldLink RX11 121 "PowerRailsModel" "rails" "I", .methodLink RX11 141 yX11_in, .static yX11_in, .code yX11_in cX11_in 6 (some .boolean), .methodLink RX11 256 yX11_isSo, .instanceMethod yX11_isSo, .selects RX11 yX11_isSo yX11_isSo, .code yX11_isSo cX11_isSo 3 (some .boolean), .fieldLink RX11 16 "PowerRailsModel" "table" "[Z", .methodLink RX11 260 yX11_flag, .static yX11_flag, .code yX11_flag cX11_flag 1 (some .int)] ++ wsX110)
def wsX11_isLeast : List Cond := .code yX11_isLeast cX11_isLeast 5 (some .boolean) :: ([.methodLink RX11 256 yX11_isSo, .instanceMethod yX11_isSo, .selects RX11 yX11_isSo yX11_isSo, .initialized RX11, .code yX11_isSo cX11_isSo 3 (some .boolean), .fieldLink RX11 16 "PowerRailsModel" "table" "[Z"] ++ wsX110)
def wsX11_words : List Cond := .code yX11_words cX11_words 5 (some .int) :: ([.methodLink RX11 248 yX11_isRail, .instanceMethod yX11_isRail, .selects RX11 yX11_isRail yX11_isRail, .initialized RX11, .code yX11_isRail cX11_isRail 2 (some .boolean), .fieldLink RX11 121 "PowerRailsModel" "rails" "I", .methodLink RX11 141 yX11_in, .static yX11_in, .code yX11_in cX11_in 6 (some .boolean), .methodLink RX11 264 yX11_isLeast, .instanceMethod yX11_isLeast, .selects RX11 yX11_isLeast yX11_isLeast, .code yX11_isLeast cX11_isLeast 5 (some .boolean), .methodLink RX11 256 yX11_isSo, .instanceMethod yX11_isSo, .selects RX11 yX11_isSo yX11_isSo, .code yX11_isSo cX11_isSo 3 (some .boolean), .fieldLink RX11 16 "PowerRailsModel" "table" "[Z"] ++ wsX110)
def wsX11_happens : List Cond := .code yX11_happens cX11_happens 3 none :: ([.fieldLink RX11 288 "PowerRailsModel" "happenings" "I", .fieldLink RX11 65 "PowerRailsModel" "happening" "[I", .fieldLink RX11 267 "PowerRailsModel" "tick" "I"] ++ wsX110)
def wsX11_key : List Cond := .code yX11_key cX11_key 3 (some .int) :: ([.fieldLink RX11 270 "PowerRailsModel" "isOn" "Z", .fieldLink RX11 273 "PowerRailsModel" "held" "I", .fieldLink RX11 127 "PowerRailsModel" "retry" "I", .fieldLink RX11 276 "PowerRailsModel" "tries" "I", .methodLink RX11 260 yX11_flag, .static yX11_flag, .initialized RX11, .code yX11_flag cX11_flag 1 (some .int)] ++ wsX110)
def wsX11_dead : List Cond := .code yX11_dead cX11_dead 4 (some .int) :: ([.fieldLink RX11 56 "PowerRailsModel" "isDead" "[Z", .methodLink RX11 248 yX11_isRail, .instanceMethod yX11_isRail, .selects RX11 yX11_isRail yX11_isRail, .initialized RX11, .code yX11_isRail cX11_isRail 2 (some .boolean), .fieldLink RX11 121 "PowerRailsModel" "rails" "I", .methodLink RX11 141 yX11_in, .static yX11_in, .code yX11_in cX11_in 6 (some .boolean), .methodLink RX11 260 yX11_flag, .static yX11_flag, .code yX11_flag cX11_flag 1 (some .int)] ++ wsX110)
def wsX11_time : List Cond := .code yX11_time cX11_time 4 (some .int) :: ([.fieldLink RX11 59 "PowerRailsModel" "takes" "[I", .methodLink RX11 248 yX11_isRail, .instanceMethod yX11_isRail, .selects RX11 yX11_isRail yX11_isRail, .initialized RX11, .code yX11_isRail cX11_isRail 2 (some .boolean), .fieldLink RX11 121 "PowerRailsModel" "rails" "I", .methodLink RX11 141 yX11_in, .static yX11_in, .code yX11_in cX11_in 6 (some .boolean), .methodLink RX11 251 yX11_of, .instanceMethod yX11_of, .selects RX11 yX11_of yX11_of, .code yX11_of cX11_of 3 (some .int), .fieldLink RX11 7 "PowerRailsModel" "told" "[I"] ++ wsX110)
def wsX11_allIn : List Cond := .code yX11_allIn cX11_allIn 4 (some .int) :: ([.fieldLink RX11 121 "PowerRailsModel" "rails" "I", .fieldLink RX11 47 "PowerRailsModel" "state" "[I"] ++ wsX110)
def wsX11_becomes : List Cond := .code yX11_becomes cX11_becomes 3 (some .int) :: ([.fieldLink RX11 47 "PowerRailsModel" "state" "[I", .fieldLink RX11 50 "PowerRailsModel" "since" "[I", .fieldLink RX11 56 "PowerRailsModel" "isDead" "[Z", .fieldLink RX11 59 "PowerRailsModel" "takes" "[I", .methodLink RX11 251 yX11_of, .instanceMethod yX11_of, .selects RX11 yX11_of yX11_of, .initialized RX11, .code yX11_of cX11_of 3 (some .int), .fieldLink RX11 7 "PowerRailsModel" "told" "[I"] ++ wsX110)
def wsX11_round_r1 : List Cond := [Cond.fieldLink RX11 270 "PowerRailsModel" "isOn" "Z", Cond.fieldLink RX11 121 "PowerRailsModel" "rails" "I", Cond.fieldLink RX11 273 "PowerRailsModel" "held" "I", Cond.fieldLink RX11 47 "PowerRailsModel" "state" "[I", Cond.fieldLink RX11 50 "PowerRailsModel" "since" "[I", Cond.fieldLink RX11 53 "PowerRailsModel" "upSince" "[I", Cond.fieldLink RX11 62 "PowerRailsModel" "wasGood" "[I", Cond.methodLink RX11 291 yX11_allIn, Cond.instanceMethod yX11_allIn, Cond.selects RX11 yX11_allIn yX11_allIn, Cond.initialized RX11, Cond.code yX11_allIn cX11_allIn 4 (some .int), Cond.methodLink RX11 256 yX11_isSo, Cond.instanceMethod yX11_isSo, Cond.selects RX11 yX11_isSo yX11_isSo, Cond.code yX11_isSo cX11_isSo 3 (some .boolean), Cond.fieldLink RX11 16 "PowerRailsModel" "table" "[Z", Cond.methodLink RX11 294 yX11_becomes, Cond.instanceMethod yX11_becomes, Cond.selects RX11 yX11_becomes yX11_becomes, Cond.code yX11_becomes cX11_becomes 3 (some .int), Cond.fieldLink RX11 56 "PowerRailsModel" "isDead" "[Z", Cond.fieldLink RX11 59 "PowerRailsModel" "takes" "[I", Cond.methodLink RX11 251 yX11_of]
def wsX11_round_r2 : List Cond := [Cond.instanceMethod yX11_of, Cond.selects RX11 yX11_of yX11_of, Cond.code yX11_of cX11_of 3 (some .int), Cond.fieldLink RX11 7 "PowerRailsModel" "told" "[I", Cond.methodLink RX11 298 yX11_happens, Cond.instanceMethod yX11_happens, Cond.selects RX11 yX11_happens yX11_happens, Cond.code yX11_happens cX11_happens 3 none, Cond.fieldLink RX11 288 "PowerRailsModel" "happenings" "I", Cond.fieldLink RX11 65 "PowerRailsModel" "happening" "[I", Cond.fieldLink RX11 267 "PowerRailsModel" "tick" "I"]
def wsX11_round : List Cond := .code yX11_round cX11_round 5 (some .boolean) :: ((wsX11_round_r1 ++ wsX11_round_r2) ++ wsX110)
def wsX11_settles_r1 : List Cond := [Cond.methodLink RX11 302 yX11_round, Cond.instanceMethod yX11_round, Cond.selects RX11 yX11_round yX11_round, Cond.initialized RX11, Cond.code yX11_round cX11_round 5 (some .boolean), Cond.fieldLink RX11 270 "PowerRailsModel" "isOn" "Z", Cond.fieldLink RX11 121 "PowerRailsModel" "rails" "I", Cond.fieldLink RX11 273 "PowerRailsModel" "held" "I", Cond.fieldLink RX11 47 "PowerRailsModel" "state" "[I", Cond.fieldLink RX11 50 "PowerRailsModel" "since" "[I", Cond.fieldLink RX11 53 "PowerRailsModel" "upSince" "[I", Cond.fieldLink RX11 62 "PowerRailsModel" "wasGood" "[I", Cond.methodLink RX11 291 yX11_allIn, Cond.instanceMethod yX11_allIn, Cond.selects RX11 yX11_allIn yX11_allIn, Cond.code yX11_allIn cX11_allIn 4 (some .int), Cond.methodLink RX11 256 yX11_isSo, Cond.instanceMethod yX11_isSo, Cond.selects RX11 yX11_isSo yX11_isSo, Cond.code yX11_isSo cX11_isSo 3 (some .boolean), Cond.fieldLink RX11 16 "PowerRailsModel" "table" "[Z", Cond.methodLink RX11 294 yX11_becomes, Cond.instanceMethod yX11_becomes, Cond.selects RX11 yX11_becomes yX11_becomes]
def wsX11_settles_r2 : List Cond := [Cond.code yX11_becomes cX11_becomes 3 (some .int), Cond.fieldLink RX11 56 "PowerRailsModel" "isDead" "[Z", Cond.fieldLink RX11 59 "PowerRailsModel" "takes" "[I", Cond.methodLink RX11 251 yX11_of, Cond.instanceMethod yX11_of, Cond.selects RX11 yX11_of yX11_of, Cond.code yX11_of cX11_of 3 (some .int), Cond.fieldLink RX11 7 "PowerRailsModel" "told" "[I", Cond.methodLink RX11 298 yX11_happens, Cond.instanceMethod yX11_happens, Cond.selects RX11 yX11_happens yX11_happens, Cond.code yX11_happens cX11_happens 3 none, Cond.fieldLink RX11 288 "PowerRailsModel" "happenings" "I", Cond.fieldLink RX11 65 "PowerRailsModel" "happening" "[I", Cond.fieldLink RX11 267 "PowerRailsModel" "tick" "I"]
def wsX11_settles : List Cond := .code yX11_settles cX11_settles 2 none :: ((wsX11_settles_r1 ++ wsX11_settles_r2) ++ wsX110)
def wsX11_drawnOf : List Cond := .code yX11_drawnOf cX11_drawnOf 5 (some .int) :: ([.fieldLink RX11 121 "PowerRailsModel" "rails" "I", .methodLink RX11 251 yX11_of, .instanceMethod yX11_of, .selects RX11 yX11_of yX11_of, .initialized RX11, .code yX11_of cX11_of 3 (some .int), .fieldLink RX11 7 "PowerRailsModel" "told" "[I"] ++ wsX110)
def wsX11_tripNow : List Cond := .code yX11_tripNow cX11_tripNow 3 (some .int) :: ([.fieldLink RX11 121 "PowerRailsModel" "rails" "I", .fieldLink RX11 47 "PowerRailsModel" "state" "[I", .fieldLink RX11 53 "PowerRailsModel" "upSince" "[I", .fieldLink RX11 279 "PowerRailsModel" "drawnNow" "I", .fieldLink RX11 124 "PowerRailsModel" "limit" "I", .methodLink RX11 251 yX11_of, .instanceMethod yX11_of, .selects RX11 yX11_of yX11_of, .initialized RX11, .code yX11_of cX11_of 3 (some .int), .fieldLink RX11 7 "PowerRailsModel" "told" "[I"] ++ wsX110)
def wsX11_aTick_r1 : List Cond := [Cond.fieldLink RX11 279 "PowerRailsModel" "drawnNow" "I", Cond.fieldLink RX11 282 "PowerRailsModel" "drawnMost" "I", Cond.fieldLink RX11 285 "PowerRailsModel" "trips" "I", Cond.fieldLink RX11 276 "PowerRailsModel" "tries" "I", Cond.fieldLink RX11 130 "PowerRailsModel" "pause" "I", Cond.fieldLink RX11 273 "PowerRailsModel" "held" "I", Cond.fieldLink RX11 121 "PowerRailsModel" "rails" "I", Cond.fieldLink RX11 50 "PowerRailsModel" "since" "[I", Cond.fieldLink RX11 53 "PowerRailsModel" "upSince" "[I", Cond.fieldLink RX11 267 "PowerRailsModel" "tick" "I", Cond.methodLink RX11 306 yX11_settles, Cond.instanceMethod yX11_settles, Cond.selects RX11 yX11_settles yX11_settles, Cond.initialized RX11, Cond.code yX11_settles cX11_settles 2 none, Cond.methodLink RX11 302 yX11_round, Cond.instanceMethod yX11_round, Cond.selects RX11 yX11_round yX11_round, Cond.code yX11_round cX11_round 5 (some .boolean), Cond.fieldLink RX11 270 "PowerRailsModel" "isOn" "Z", Cond.fieldLink RX11 47 "PowerRailsModel" "state" "[I", Cond.fieldLink RX11 62 "PowerRailsModel" "wasGood" "[I", Cond.methodLink RX11 291 yX11_allIn, Cond.instanceMethod yX11_allIn]
def wsX11_aTick_r2 : List Cond := [Cond.selects RX11 yX11_allIn yX11_allIn, Cond.code yX11_allIn cX11_allIn 4 (some .int), Cond.methodLink RX11 256 yX11_isSo, Cond.instanceMethod yX11_isSo, Cond.selects RX11 yX11_isSo yX11_isSo, Cond.code yX11_isSo cX11_isSo 3 (some .boolean), Cond.fieldLink RX11 16 "PowerRailsModel" "table" "[Z", Cond.methodLink RX11 294 yX11_becomes, Cond.instanceMethod yX11_becomes, Cond.selects RX11 yX11_becomes yX11_becomes, Cond.code yX11_becomes cX11_becomes 3 (some .int), Cond.fieldLink RX11 56 "PowerRailsModel" "isDead" "[Z", Cond.fieldLink RX11 59 "PowerRailsModel" "takes" "[I", Cond.methodLink RX11 251 yX11_of, Cond.instanceMethod yX11_of, Cond.selects RX11 yX11_of yX11_of, Cond.code yX11_of cX11_of 3 (some .int), Cond.fieldLink RX11 7 "PowerRailsModel" "told" "[I", Cond.methodLink RX11 298 yX11_happens, Cond.instanceMethod yX11_happens, Cond.selects RX11 yX11_happens yX11_happens, Cond.code yX11_happens cX11_happens 3 none, Cond.fieldLink RX11 288 "PowerRailsModel" "happenings" "I", Cond.fieldLink RX11 65 "PowerRailsModel" "happening" "[I"]
def wsX11_aTick_r3 : List Cond := [Cond.methodLink RX11 309 yX11_drawnOf, Cond.instanceMethod yX11_drawnOf, Cond.selects RX11 yX11_drawnOf yX11_drawnOf, Cond.code yX11_drawnOf cX11_drawnOf 5 (some .int), Cond.methodLink RX11 312 yX11_tripNow, Cond.instanceMethod yX11_tripNow, Cond.selects RX11 yX11_tripNow yX11_tripNow, Cond.code yX11_tripNow cX11_tripNow 3 (some .int), Cond.fieldLink RX11 124 "PowerRailsModel" "limit" "I"]
def wsX11_aTick : List Cond := .code yX11_aTick cX11_aTick 3 none :: ((wsX11_aTick_r1 ++ (wsX11_aTick_r2 ++ wsX11_aTick_r3)) ++ wsX110)
def wsX11_go_r1 : List Cond := [Cond.constantLong RX11 315 (999), Cond.fieldLink RX11 285 "PowerRailsModel" "trips" "I", Cond.methodLink RX11 141 yX11_in, Cond.static yX11_in, Cond.initialized RX11, Cond.code yX11_in cX11_in 6 (some .boolean), Cond.methodLink RX11 317 yX11_aTick, Cond.instanceMethod yX11_aTick, Cond.selects RX11 yX11_aTick yX11_aTick, Cond.code yX11_aTick cX11_aTick 3 none, Cond.fieldLink RX11 279 "PowerRailsModel" "drawnNow" "I", Cond.fieldLink RX11 282 "PowerRailsModel" "drawnMost" "I", Cond.fieldLink RX11 276 "PowerRailsModel" "tries" "I", Cond.fieldLink RX11 130 "PowerRailsModel" "pause" "I", Cond.fieldLink RX11 273 "PowerRailsModel" "held" "I", Cond.fieldLink RX11 121 "PowerRailsModel" "rails" "I", Cond.fieldLink RX11 50 "PowerRailsModel" "since" "[I", Cond.fieldLink RX11 53 "PowerRailsModel" "upSince" "[I", Cond.fieldLink RX11 267 "PowerRailsModel" "tick" "I", Cond.methodLink RX11 306 yX11_settles, Cond.instanceMethod yX11_settles, Cond.selects RX11 yX11_settles yX11_settles, Cond.code yX11_settles cX11_settles 2 none, Cond.methodLink RX11 302 yX11_round]
def wsX11_go_r2 : List Cond := [Cond.instanceMethod yX11_round, Cond.selects RX11 yX11_round yX11_round, Cond.code yX11_round cX11_round 5 (some .boolean), Cond.fieldLink RX11 270 "PowerRailsModel" "isOn" "Z", Cond.fieldLink RX11 47 "PowerRailsModel" "state" "[I", Cond.fieldLink RX11 62 "PowerRailsModel" "wasGood" "[I", Cond.methodLink RX11 291 yX11_allIn, Cond.instanceMethod yX11_allIn, Cond.selects RX11 yX11_allIn yX11_allIn, Cond.code yX11_allIn cX11_allIn 4 (some .int), Cond.methodLink RX11 256 yX11_isSo, Cond.instanceMethod yX11_isSo, Cond.selects RX11 yX11_isSo yX11_isSo, Cond.code yX11_isSo cX11_isSo 3 (some .boolean), Cond.fieldLink RX11 16 "PowerRailsModel" "table" "[Z", Cond.methodLink RX11 294 yX11_becomes, Cond.instanceMethod yX11_becomes, Cond.selects RX11 yX11_becomes yX11_becomes, Cond.code yX11_becomes cX11_becomes 3 (some .int), Cond.fieldLink RX11 56 "PowerRailsModel" "isDead" "[Z", Cond.fieldLink RX11 59 "PowerRailsModel" "takes" "[I", Cond.methodLink RX11 251 yX11_of, Cond.instanceMethod yX11_of, Cond.selects RX11 yX11_of yX11_of]
def wsX11_go_r3 : List Cond := [Cond.code yX11_of cX11_of 3 (some .int), Cond.fieldLink RX11 7 "PowerRailsModel" "told" "[I", Cond.methodLink RX11 298 yX11_happens, Cond.instanceMethod yX11_happens, Cond.selects RX11 yX11_happens yX11_happens, Cond.code yX11_happens cX11_happens 3 none, Cond.fieldLink RX11 288 "PowerRailsModel" "happenings" "I", Cond.fieldLink RX11 65 "PowerRailsModel" "happening" "[I", Cond.methodLink RX11 309 yX11_drawnOf, Cond.instanceMethod yX11_drawnOf, Cond.selects RX11 yX11_drawnOf yX11_drawnOf, Cond.code yX11_drawnOf cX11_drawnOf 5 (some .int), Cond.methodLink RX11 312 yX11_tripNow, Cond.instanceMethod yX11_tripNow, Cond.selects RX11 yX11_tripNow yX11_tripNow, Cond.code yX11_tripNow cX11_tripNow 3 (some .int), Cond.fieldLink RX11 124 "PowerRailsModel" "limit" "I"]
def wsX11_go : List Cond := .code yX11_go cX11_go 4 (some .int) :: ((wsX11_go_r1 ++ (wsX11_go_r2 ++ wsX11_go_r3)) ++ wsX110)
def wsX11_now : List Cond := .code yX11_now cX11_now 2 (some .int) :: ([.fieldLink RX11 267 "PowerRailsModel" "tick" "I", .fieldLink RX11 279 "PowerRailsModel" "drawnNow" "I", .fieldLink RX11 273 "PowerRailsModel" "held" "I", .fieldLink RX11 276 "PowerRailsModel" "tries" "I", .fieldLink RX11 282 "PowerRailsModel" "drawnMost" "I", .fieldLink RX11 270 "PowerRailsModel" "isOn" "Z", .fieldLink RX11 285 "PowerRailsModel" "trips" "I", .methodLink RX11 291 yX11_allIn, .instanceMethod yX11_allIn, .selects RX11 yX11_allIn yX11_allIn, .initialized RX11, .code yX11_allIn cX11_allIn 4 (some .int), .fieldLink RX11 121 "PowerRailsModel" "rails" "I", .fieldLink RX11 47 "PowerRailsModel" "state" "[I", .methodLink RX11 260 yX11_flag, .static yX11_flag, .code yX11_flag cX11_flag 1 (some .int)] ++ wsX110)
def wsX11_is_ : List Cond := .code yX11_is_ cX11_is_ 3 (some .int) :: ([.constantLong RX11 320 (4), .fieldLink RX11 47 "PowerRailsModel" "state" "[I", .fieldLink RX11 50 "PowerRailsModel" "since" "[I", .fieldLink RX11 56 "PowerRailsModel" "isDead" "[Z", .fieldLink RX11 59 "PowerRailsModel" "takes" "[I", .fieldLink RX11 62 "PowerRailsModel" "wasGood" "[I", .methodLink RX11 248 yX11_isRail, .instanceMethod yX11_isRail, .selects RX11 yX11_isRail yX11_isRail, .initialized RX11, .code yX11_isRail cX11_isRail 2 (some .boolean), .fieldLink RX11 121 "PowerRailsModel" "rails" "I", .methodLink RX11 141 yX11_in, .static yX11_in, .code yX11_in cX11_in 6 (some .boolean), .methodLink RX11 260 yX11_flag, .static yX11_flag, .code yX11_flag cX11_flag 1 (some .int)] ++ wsX110)
def wsX11_happened : List Cond := .code yX11_happened cX11_happened 3 (some .int) :: ([.fieldLink RX11 288 "PowerRailsModel" "happenings" "I", .constantLong RX11 322 (2), .fieldLink RX11 65 "PowerRailsModel" "happening" "[I", .methodLink RX11 141 yX11_in, .static yX11_in, .initialized RX11, .code yX11_in cX11_in 6 (some .boolean)] ++ wsX110)
def wsX11_deadOnes : List Cond := .code yX11_deadOnes cX11_deadOnes 3 (some .int) :: ([.fieldLink RX11 121 "PowerRailsModel" "rails" "I", .fieldLink RX11 56 "PowerRailsModel" "isDead" "[Z"] ++ wsX110)
def wsX11_upBut : List Cond := .code yX11_upBut cX11_upBut 6 (some .int) :: ([.fieldLink RX11 121 "PowerRailsModel" "rails" "I", .methodLink RX11 256 yX11_isSo, .instanceMethod yX11_isSo, .selects RX11 yX11_isSo yX11_isSo, .initialized RX11, .code yX11_isSo cX11_isSo 3 (some .boolean), .fieldLink RX11 16 "PowerRailsModel" "table" "[Z"] ++ wsX110)
def wsX11_up : List Cond := .code yX11_up cX11_up 4 (some .int) :: ([.constantLong RX11 322 (2), .fieldLink RX11 121 "PowerRailsModel" "rails" "I", .methodLink RX11 141 yX11_in, .static yX11_in, .initialized RX11, .code yX11_in cX11_in 6 (some .boolean), .methodLink RX11 324 yX11_deadOnes, .instanceMethod yX11_deadOnes, .selects RX11 yX11_deadOnes yX11_deadOnes, .code yX11_deadOnes cX11_deadOnes 3 (some .int), .fieldLink RX11 56 "PowerRailsModel" "isDead" "[Z", .methodLink RX11 327 yX11_upBut, .instanceMethod yX11_upBut, .selects RX11 yX11_upBut yX11_upBut, .code yX11_upBut cX11_upBut 6 (some .int), .methodLink RX11 256 yX11_isSo, .instanceMethod yX11_isSo, .selects RX11 yX11_isSo yX11_isSo, .code yX11_isSo cX11_isSo 3 (some .boolean), .fieldLink RX11 16 "PowerRailsModel" "table" "[Z"] ++ wsX110)
def wsX11_setWaits : List Cond := .code yX11_setWaits cX11_setWaits 2 none :: ([.fieldLink RX11 121 "PowerRailsModel" "rails" "I", .fieldLink RX11 77 "PowerRailsModel" "waits" "[I", .methodLink RX11 251 yX11_of, .instanceMethod yX11_of, .selects RX11 yX11_of yX11_of, .initialized RX11, .code yX11_of cX11_of 3 (some .int), .fieldLink RX11 7 "PowerRailsModel" "told" "[I"] ++ wsX110)
def wsX11_findTimes : List Cond := .code yX11_findTimes cX11_findTimes 4 none :: ([.fieldLink RX11 330 "PowerRailsModel" "upNow" "I", .fieldLink RX11 68 "PowerRailsModel" "mayAt" "[I", .constant RX11 333 (100000), .fieldLink RX11 71 "PowerRailsModel" "goodAt" "[I", .fieldLink RX11 121 "PowerRailsModel" "rails" "I", .fieldLink RX11 77 "PowerRailsModel" "waits" "[I", .fieldLink RX11 74 "PowerRailsModel" "by" "[I", .methodLink RX11 324 yX11_deadOnes, .instanceMethod yX11_deadOnes, .selects RX11 yX11_deadOnes yX11_deadOnes, .initialized RX11, .code yX11_deadOnes cX11_deadOnes 3 (some .int), .fieldLink RX11 56 "PowerRailsModel" "isDead" "[Z", .methodLink RX11 327 yX11_upBut, .instanceMethod yX11_upBut, .selects RX11 yX11_upBut yX11_upBut, .code yX11_upBut cX11_upBut 6 (some .int), .methodLink RX11 256 yX11_isSo, .instanceMethod yX11_isSo, .selects RX11 yX11_isSo yX11_isSo, .code yX11_isSo cX11_isSo 3 (some .boolean), .fieldLink RX11 16 "PowerRailsModel" "table" "[Z"] ++ wsX110)
def wsX11_setTimes : List Cond := .code yX11_setTimes cX11_setTimes 3 none :: ([.fieldLink RX11 121 "PowerRailsModel" "rails" "I", .fieldLink RX11 74 "PowerRailsModel" "by" "[I", .fieldLink RX11 59 "PowerRailsModel" "takes" "[I", .methodLink RX11 251 yX11_of, .instanceMethod yX11_of, .selects RX11 yX11_of yX11_of, .initialized RX11, .code yX11_of cX11_of 3 (some .int), .fieldLink RX11 7 "PowerRailsModel" "told" "[I"] ++ wsX110)
def wsX11_when_r1 : List Cond := [Cond.constantLong RX11 322 (2), Cond.fieldLink RX11 330 "PowerRailsModel" "upNow" "I", Cond.fieldLink RX11 71 "PowerRailsModel" "goodAt" "[I", Cond.methodLink RX11 248 yX11_isRail, Cond.instanceMethod yX11_isRail, Cond.selects RX11 yX11_isRail yX11_isRail, Cond.initialized RX11, Cond.code yX11_isRail cX11_isRail 2 (some .boolean), Cond.fieldLink RX11 121 "PowerRailsModel" "rails" "I", Cond.methodLink RX11 141 yX11_in, Cond.static yX11_in, Cond.code yX11_in cX11_in 6 (some .boolean), Cond.methodLink RX11 334 yX11_setWaits, Cond.instanceMethod yX11_setWaits, Cond.selects RX11 yX11_setWaits yX11_setWaits, Cond.code yX11_setWaits cX11_setWaits 2 none, Cond.fieldLink RX11 77 "PowerRailsModel" "waits" "[I", Cond.methodLink RX11 251 yX11_of, Cond.instanceMethod yX11_of, Cond.selects RX11 yX11_of yX11_of, Cond.code yX11_of cX11_of 3 (some .int), Cond.fieldLink RX11 7 "PowerRailsModel" "told" "[I", Cond.methodLink RX11 337 yX11_setTimes, Cond.instanceMethod yX11_setTimes]
def wsX11_when_r2 : List Cond := [Cond.selects RX11 yX11_setTimes yX11_setTimes, Cond.code yX11_setTimes cX11_setTimes 3 none, Cond.fieldLink RX11 74 "PowerRailsModel" "by" "[I", Cond.fieldLink RX11 59 "PowerRailsModel" "takes" "[I", Cond.methodLink RX11 340 yX11_findTimes, Cond.instanceMethod yX11_findTimes, Cond.selects RX11 yX11_findTimes yX11_findTimes, Cond.code yX11_findTimes cX11_findTimes 4 none, Cond.fieldLink RX11 68 "PowerRailsModel" "mayAt" "[I", Cond.constant RX11 333 (100000), Cond.methodLink RX11 324 yX11_deadOnes, Cond.instanceMethod yX11_deadOnes, Cond.selects RX11 yX11_deadOnes yX11_deadOnes, Cond.code yX11_deadOnes cX11_deadOnes 3 (some .int), Cond.fieldLink RX11 56 "PowerRailsModel" "isDead" "[Z", Cond.methodLink RX11 327 yX11_upBut, Cond.instanceMethod yX11_upBut, Cond.selects RX11 yX11_upBut yX11_upBut, Cond.code yX11_upBut cX11_upBut 6 (some .int), Cond.methodLink RX11 256 yX11_isSo, Cond.instanceMethod yX11_isSo, Cond.selects RX11 yX11_isSo yX11_isSo, Cond.code yX11_isSo cX11_isSo 3 (some .boolean), Cond.fieldLink RX11 16 "PowerRailsModel" "table" "[Z"]
def wsX11_when : List Cond := .code yX11_when cX11_when 3 (some .int) :: ((wsX11_when_r1 ++ wsX11_when_r2) ++ wsX110)
def wsX11_ways : List Cond := .code yX11_ways cX11_ways 3 (some .int) :: ([.fieldLink RX11 121 "PowerRailsModel" "rails" "I", .methodLink RX11 251 yX11_of, .instanceMethod yX11_of, .selects RX11 yX11_of yX11_of, .initialized RX11, .code yX11_of cX11_of 3 (some .int), .fieldLink RX11 7 "PowerRailsModel" "told" "[I"] ++ wsX110)
def wsX11_goesOn : List Cond := .code yX11_goesOn cX11_goesOn 2 (some .boolean) :: ([.fieldLink RX11 121 "PowerRailsModel" "rails" "I", .fieldLink RX11 74 "PowerRailsModel" "by" "[I", .methodLink RX11 251 yX11_of, .instanceMethod yX11_of, .selects RX11 yX11_of yX11_of, .initialized RX11, .code yX11_of cX11_of 3 (some .int), .fieldLink RX11 7 "PowerRailsModel" "told" "[I"] ++ wsX110)
def wsX11_ahead_r1 : List Cond := [Cond.constant RX11 346 (-100000), Cond.fieldLink RX11 71 "PowerRailsModel" "goodAt" "[I", Cond.methodLink RX11 248 yX11_isRail, Cond.instanceMethod yX11_isRail, Cond.selects RX11 yX11_isRail yX11_isRail, Cond.initialized RX11, Cond.code yX11_isRail cX11_isRail 2 (some .boolean), Cond.fieldLink RX11 121 "PowerRailsModel" "rails" "I", Cond.methodLink RX11 141 yX11_in, Cond.static yX11_in, Cond.code yX11_in cX11_in 6 (some .boolean), Cond.methodLink RX11 343 yX11_ways, Cond.instanceMethod yX11_ways, Cond.selects RX11 yX11_ways yX11_ways, Cond.code yX11_ways cX11_ways 3 (some .int), Cond.methodLink RX11 251 yX11_of, Cond.instanceMethod yX11_of, Cond.selects RX11 yX11_of yX11_of, Cond.code yX11_of cX11_of 3 (some .int), Cond.fieldLink RX11 7 "PowerRailsModel" "told" "[I", Cond.methodLink RX11 324 yX11_deadOnes, Cond.instanceMethod yX11_deadOnes, Cond.selects RX11 yX11_deadOnes yX11_deadOnes, Cond.code yX11_deadOnes cX11_deadOnes 3 (some .int)]
def wsX11_ahead_r2 : List Cond := [Cond.fieldLink RX11 56 "PowerRailsModel" "isDead" "[Z", Cond.methodLink RX11 327 yX11_upBut, Cond.instanceMethod yX11_upBut, Cond.selects RX11 yX11_upBut yX11_upBut, Cond.code yX11_upBut cX11_upBut 6 (some .int), Cond.methodLink RX11 256 yX11_isSo, Cond.instanceMethod yX11_isSo, Cond.selects RX11 yX11_isSo yX11_isSo, Cond.code yX11_isSo cX11_isSo 3 (some .boolean), Cond.fieldLink RX11 16 "PowerRailsModel" "table" "[Z", Cond.methodLink RX11 334 yX11_setWaits, Cond.instanceMethod yX11_setWaits, Cond.selects RX11 yX11_setWaits yX11_setWaits, Cond.code yX11_setWaits cX11_setWaits 2 none, Cond.fieldLink RX11 77 "PowerRailsModel" "waits" "[I", Cond.methodLink RX11 337 yX11_setTimes, Cond.instanceMethod yX11_setTimes, Cond.selects RX11 yX11_setTimes yX11_setTimes, Cond.code yX11_setTimes cX11_setTimes 3 none, Cond.fieldLink RX11 74 "PowerRailsModel" "by" "[I", Cond.fieldLink RX11 59 "PowerRailsModel" "takes" "[I", Cond.methodLink RX11 340 yX11_findTimes, Cond.instanceMethod yX11_findTimes, Cond.selects RX11 yX11_findTimes yX11_findTimes]
def wsX11_ahead_r3 : List Cond := [Cond.code yX11_findTimes cX11_findTimes 4 none, Cond.fieldLink RX11 330 "PowerRailsModel" "upNow" "I", Cond.fieldLink RX11 68 "PowerRailsModel" "mayAt" "[I", Cond.constant RX11 333 (100000), Cond.methodLink RX11 347 yX11_goesOn, Cond.instanceMethod yX11_goesOn, Cond.selects RX11 yX11_goesOn yX11_goesOn, Cond.code yX11_goesOn cX11_goesOn 2 (some .boolean)]
def wsX11_ahead : List Cond := .code yX11_ahead cX11_ahead 7 (some .int) :: ((wsX11_ahead_r1 ++ (wsX11_ahead_r2 ++ wsX11_ahead_r3)) ++ wsX110)
def wsX11_drawnAt : List Cond := .code yX11_drawnAt cX11_drawnAt 5 (some .int) :: ([.fieldLink RX11 121 "PowerRailsModel" "rails" "I", .fieldLink RX11 71 "PowerRailsModel" "goodAt" "[I", .fieldLink RX11 68 "PowerRailsModel" "mayAt" "[I", .constant RX11 333 (100000), .fieldLink RX11 77 "PowerRailsModel" "waits" "[I", .methodLink RX11 309 yX11_drawnOf, .instanceMethod yX11_drawnOf, .selects RX11 yX11_drawnOf yX11_drawnOf, .initialized RX11, .code yX11_drawnOf cX11_drawnOf 5 (some .int), .methodLink RX11 251 yX11_of, .instanceMethod yX11_of, .selects RX11 yX11_of yX11_of, .code yX11_of cX11_of 3 (some .int), .fieldLink RX11 7 "PowerRailsModel" "told" "[I"] ++ wsX110)
def wsX11_drawn_r1 : List Cond := [Cond.constantLong RX11 315 (999), Cond.methodLink RX11 141 yX11_in, Cond.static yX11_in, Cond.initialized RX11, Cond.code yX11_in cX11_in 6 (some .boolean), Cond.methodLink RX11 334 yX11_setWaits, Cond.instanceMethod yX11_setWaits, Cond.selects RX11 yX11_setWaits yX11_setWaits, Cond.code yX11_setWaits cX11_setWaits 2 none, Cond.fieldLink RX11 121 "PowerRailsModel" "rails" "I", Cond.fieldLink RX11 77 "PowerRailsModel" "waits" "[I", Cond.methodLink RX11 251 yX11_of, Cond.instanceMethod yX11_of, Cond.selects RX11 yX11_of yX11_of, Cond.code yX11_of cX11_of 3 (some .int), Cond.fieldLink RX11 7 "PowerRailsModel" "told" "[I", Cond.methodLink RX11 337 yX11_setTimes, Cond.instanceMethod yX11_setTimes, Cond.selects RX11 yX11_setTimes yX11_setTimes, Cond.code yX11_setTimes cX11_setTimes 3 none, Cond.fieldLink RX11 74 "PowerRailsModel" "by" "[I", Cond.fieldLink RX11 59 "PowerRailsModel" "takes" "[I", Cond.methodLink RX11 340 yX11_findTimes, Cond.instanceMethod yX11_findTimes]
def wsX11_drawn_r2 : List Cond := [Cond.selects RX11 yX11_findTimes yX11_findTimes, Cond.code yX11_findTimes cX11_findTimes 4 none, Cond.fieldLink RX11 330 "PowerRailsModel" "upNow" "I", Cond.fieldLink RX11 68 "PowerRailsModel" "mayAt" "[I", Cond.constant RX11 333 (100000), Cond.fieldLink RX11 71 "PowerRailsModel" "goodAt" "[I", Cond.methodLink RX11 324 yX11_deadOnes, Cond.instanceMethod yX11_deadOnes, Cond.selects RX11 yX11_deadOnes yX11_deadOnes, Cond.code yX11_deadOnes cX11_deadOnes 3 (some .int), Cond.fieldLink RX11 56 "PowerRailsModel" "isDead" "[Z", Cond.methodLink RX11 327 yX11_upBut, Cond.instanceMethod yX11_upBut, Cond.selects RX11 yX11_upBut yX11_upBut, Cond.code yX11_upBut cX11_upBut 6 (some .int), Cond.methodLink RX11 256 yX11_isSo, Cond.instanceMethod yX11_isSo, Cond.selects RX11 yX11_isSo yX11_isSo, Cond.code yX11_isSo cX11_isSo 3 (some .boolean), Cond.fieldLink RX11 16 "PowerRailsModel" "table" "[Z", Cond.methodLink RX11 350 yX11_drawnAt, Cond.instanceMethod yX11_drawnAt, Cond.selects RX11 yX11_drawnAt yX11_drawnAt, Cond.code yX11_drawnAt cX11_drawnAt 5 (some .int)]
def wsX11_drawn_r3 : List Cond := [Cond.methodLink RX11 309 yX11_drawnOf, Cond.instanceMethod yX11_drawnOf, Cond.selects RX11 yX11_drawnOf yX11_drawnOf, Cond.code yX11_drawnOf cX11_drawnOf 5 (some .int)]
def wsX11_drawn : List Cond := .code yX11_drawn cX11_drawn 2 (some .int) :: ((wsX11_drawn_r1 ++ (wsX11_drawn_r2 ++ wsX11_drawn_r3)) ++ wsX110)
def wsX11_peakNow : List Cond := .code yX11_peakNow cX11_peakNow 4 (some .int) :: ([.fieldLink RX11 353 "PowerRailsModel" "peakAt" "I", .methodLink RX11 350 yX11_drawnAt, .instanceMethod yX11_drawnAt, .selects RX11 yX11_drawnAt yX11_drawnAt, .initialized RX11, .code yX11_drawnAt cX11_drawnAt 5 (some .int), .fieldLink RX11 121 "PowerRailsModel" "rails" "I", .fieldLink RX11 71 "PowerRailsModel" "goodAt" "[I", .fieldLink RX11 68 "PowerRailsModel" "mayAt" "[I", .constant RX11 333 (100000), .fieldLink RX11 77 "PowerRailsModel" "waits" "[I", .methodLink RX11 309 yX11_drawnOf, .instanceMethod yX11_drawnOf, .selects RX11 yX11_drawnOf yX11_drawnOf, .code yX11_drawnOf cX11_drawnOf 5 (some .int), .methodLink RX11 251 yX11_of, .instanceMethod yX11_of, .selects RX11 yX11_of yX11_of, .code yX11_of cX11_of 3 (some .int), .fieldLink RX11 7 "PowerRailsModel" "told" "[I"] ++ wsX110)
def wsX11_peak_r1 : List Cond := [Cond.constantLong RX11 356 (3), Cond.fieldLink RX11 353 "PowerRailsModel" "peakAt" "I", Cond.methodLink RX11 141 yX11_in, Cond.static yX11_in, Cond.initialized RX11, Cond.code yX11_in cX11_in 6 (some .boolean), Cond.methodLink RX11 343 yX11_ways, Cond.instanceMethod yX11_ways, Cond.selects RX11 yX11_ways yX11_ways, Cond.code yX11_ways cX11_ways 3 (some .int), Cond.fieldLink RX11 121 "PowerRailsModel" "rails" "I", Cond.methodLink RX11 251 yX11_of, Cond.instanceMethod yX11_of, Cond.selects RX11 yX11_of yX11_of, Cond.code yX11_of cX11_of 3 (some .int), Cond.fieldLink RX11 7 "PowerRailsModel" "told" "[I", Cond.methodLink RX11 324 yX11_deadOnes, Cond.instanceMethod yX11_deadOnes, Cond.selects RX11 yX11_deadOnes yX11_deadOnes, Cond.code yX11_deadOnes cX11_deadOnes 3 (some .int), Cond.fieldLink RX11 56 "PowerRailsModel" "isDead" "[Z", Cond.methodLink RX11 327 yX11_upBut, Cond.instanceMethod yX11_upBut, Cond.selects RX11 yX11_upBut yX11_upBut]
def wsX11_peak_r2 : List Cond := [Cond.code yX11_upBut cX11_upBut 6 (some .int), Cond.methodLink RX11 256 yX11_isSo, Cond.instanceMethod yX11_isSo, Cond.selects RX11 yX11_isSo yX11_isSo, Cond.code yX11_isSo cX11_isSo 3 (some .boolean), Cond.fieldLink RX11 16 "PowerRailsModel" "table" "[Z", Cond.methodLink RX11 334 yX11_setWaits, Cond.instanceMethod yX11_setWaits, Cond.selects RX11 yX11_setWaits yX11_setWaits, Cond.code yX11_setWaits cX11_setWaits 2 none, Cond.fieldLink RX11 77 "PowerRailsModel" "waits" "[I", Cond.methodLink RX11 337 yX11_setTimes, Cond.instanceMethod yX11_setTimes, Cond.selects RX11 yX11_setTimes yX11_setTimes, Cond.code yX11_setTimes cX11_setTimes 3 none, Cond.fieldLink RX11 74 "PowerRailsModel" "by" "[I", Cond.fieldLink RX11 59 "PowerRailsModel" "takes" "[I", Cond.methodLink RX11 340 yX11_findTimes, Cond.instanceMethod yX11_findTimes, Cond.selects RX11 yX11_findTimes yX11_findTimes, Cond.code yX11_findTimes cX11_findTimes 4 none, Cond.fieldLink RX11 330 "PowerRailsModel" "upNow" "I", Cond.fieldLink RX11 68 "PowerRailsModel" "mayAt" "[I", Cond.constant RX11 333 (100000)]
def wsX11_peak_r3 : List Cond := [Cond.fieldLink RX11 71 "PowerRailsModel" "goodAt" "[I", Cond.methodLink RX11 358 yX11_peakNow, Cond.instanceMethod yX11_peakNow, Cond.selects RX11 yX11_peakNow yX11_peakNow, Cond.code yX11_peakNow cX11_peakNow 4 (some .int), Cond.methodLink RX11 350 yX11_drawnAt, Cond.instanceMethod yX11_drawnAt, Cond.selects RX11 yX11_drawnAt yX11_drawnAt, Cond.code yX11_drawnAt cX11_drawnAt 5 (some .int), Cond.methodLink RX11 309 yX11_drawnOf, Cond.instanceMethod yX11_drawnOf, Cond.selects RX11 yX11_drawnOf yX11_drawnOf, Cond.code yX11_drawnOf cX11_drawnOf 5 (some .int), Cond.methodLink RX11 347 yX11_goesOn, Cond.instanceMethod yX11_goesOn, Cond.selects RX11 yX11_goesOn yX11_goesOn, Cond.code yX11_goesOn cX11_goesOn 2 (some .boolean)]
def wsX11_peak : List Cond := .code yX11_peak cX11_peak 5 (some .int) :: ((wsX11_peak_r1 ++ (wsX11_peak_r2 ++ wsX11_peak_r3)) ++ wsX110)
def wsX11_lastGood : List Cond := .code yX11_lastGood cX11_lastGood 3 (some .int) :: ([.fieldLink RX11 121 "PowerRailsModel" "rails" "I", .fieldLink RX11 71 "PowerRailsModel" "goodAt" "[I", .constant RX11 333 (100000)] ++ wsX110)
def wsX11_findStagger_r1 : List Cond := [Cond.fieldLink RX11 361 "PowerRailsModel" "soonest" "I", Cond.fieldLink RX11 121 "PowerRailsModel" "rails" "I", Cond.fieldLink RX11 77 "PowerRailsModel" "waits" "[I", Cond.fieldLink RX11 124 "PowerRailsModel" "limit" "I", Cond.fieldLink RX11 80 "PowerRailsModel" "bestWaits" "[I", Cond.methodLink RX11 337 yX11_setTimes, Cond.instanceMethod yX11_setTimes, Cond.selects RX11 yX11_setTimes yX11_setTimes, Cond.initialized RX11, Cond.code yX11_setTimes cX11_setTimes 3 none, Cond.fieldLink RX11 74 "PowerRailsModel" "by" "[I", Cond.fieldLink RX11 59 "PowerRailsModel" "takes" "[I", Cond.methodLink RX11 251 yX11_of, Cond.instanceMethod yX11_of, Cond.selects RX11 yX11_of yX11_of, Cond.code yX11_of cX11_of 3 (some .int), Cond.fieldLink RX11 7 "PowerRailsModel" "told" "[I", Cond.methodLink RX11 340 yX11_findTimes, Cond.instanceMethod yX11_findTimes, Cond.selects RX11 yX11_findTimes yX11_findTimes, Cond.code yX11_findTimes cX11_findTimes 4 none, Cond.fieldLink RX11 330 "PowerRailsModel" "upNow" "I", Cond.fieldLink RX11 68 "PowerRailsModel" "mayAt" "[I", Cond.constant RX11 333 (100000)]
def wsX11_findStagger_r2 : List Cond := [Cond.fieldLink RX11 71 "PowerRailsModel" "goodAt" "[I", Cond.methodLink RX11 324 yX11_deadOnes, Cond.instanceMethod yX11_deadOnes, Cond.selects RX11 yX11_deadOnes yX11_deadOnes, Cond.code yX11_deadOnes cX11_deadOnes 3 (some .int), Cond.fieldLink RX11 56 "PowerRailsModel" "isDead" "[Z", Cond.methodLink RX11 327 yX11_upBut, Cond.instanceMethod yX11_upBut, Cond.selects RX11 yX11_upBut yX11_upBut, Cond.code yX11_upBut cX11_upBut 6 (some .int), Cond.methodLink RX11 256 yX11_isSo, Cond.instanceMethod yX11_isSo, Cond.selects RX11 yX11_isSo yX11_isSo, Cond.code yX11_isSo cX11_isSo 3 (some .boolean), Cond.fieldLink RX11 16 "PowerRailsModel" "table" "[Z", Cond.methodLink RX11 364 yX11_lastGood, Cond.instanceMethod yX11_lastGood, Cond.selects RX11 yX11_lastGood yX11_lastGood, Cond.code yX11_lastGood cX11_lastGood 3 (some .int), Cond.methodLink RX11 358 yX11_peakNow, Cond.instanceMethod yX11_peakNow, Cond.selects RX11 yX11_peakNow yX11_peakNow, Cond.code yX11_peakNow cX11_peakNow 4 (some .int), Cond.fieldLink RX11 353 "PowerRailsModel" "peakAt" "I"]
def wsX11_findStagger_r3 : List Cond := [Cond.methodLink RX11 350 yX11_drawnAt, Cond.instanceMethod yX11_drawnAt, Cond.selects RX11 yX11_drawnAt yX11_drawnAt, Cond.code yX11_drawnAt cX11_drawnAt 5 (some .int), Cond.methodLink RX11 309 yX11_drawnOf, Cond.instanceMethod yX11_drawnOf, Cond.selects RX11 yX11_drawnOf yX11_drawnOf, Cond.code yX11_drawnOf cX11_drawnOf 5 (some .int)]
def wsX11_findStagger : List Cond := .code yX11_findStagger cX11_findStagger 4 none :: ((wsX11_findStagger_r1 ++ (wsX11_findStagger_r2 ++ wsX11_findStagger_r3)) ++ wsX110)
def wsX11_stagger_r1 : List Cond := [Cond.constantLong RX11 367 (10), Cond.fieldLink RX11 121 "PowerRailsModel" "rails" "I", Cond.fieldLink RX11 361 "PowerRailsModel" "soonest" "I", Cond.fieldLink RX11 80 "PowerRailsModel" "bestWaits" "[I", Cond.methodLink RX11 141 yX11_in, Cond.static yX11_in, Cond.initialized RX11, Cond.code yX11_in cX11_in 6 (some .boolean), Cond.methodLink RX11 369 yX11_findStagger, Cond.instanceMethod yX11_findStagger, Cond.selects RX11 yX11_findStagger yX11_findStagger, Cond.code yX11_findStagger cX11_findStagger 4 none, Cond.fieldLink RX11 77 "PowerRailsModel" "waits" "[I", Cond.fieldLink RX11 124 "PowerRailsModel" "limit" "I", Cond.methodLink RX11 337 yX11_setTimes, Cond.instanceMethod yX11_setTimes, Cond.selects RX11 yX11_setTimes yX11_setTimes, Cond.code yX11_setTimes cX11_setTimes 3 none, Cond.fieldLink RX11 74 "PowerRailsModel" "by" "[I", Cond.fieldLink RX11 59 "PowerRailsModel" "takes" "[I", Cond.methodLink RX11 251 yX11_of, Cond.instanceMethod yX11_of, Cond.selects RX11 yX11_of yX11_of, Cond.code yX11_of cX11_of 3 (some .int)]
def wsX11_stagger_r2 : List Cond := [Cond.fieldLink RX11 7 "PowerRailsModel" "told" "[I", Cond.methodLink RX11 340 yX11_findTimes, Cond.instanceMethod yX11_findTimes, Cond.selects RX11 yX11_findTimes yX11_findTimes, Cond.code yX11_findTimes cX11_findTimes 4 none, Cond.fieldLink RX11 330 "PowerRailsModel" "upNow" "I", Cond.fieldLink RX11 68 "PowerRailsModel" "mayAt" "[I", Cond.constant RX11 333 (100000), Cond.fieldLink RX11 71 "PowerRailsModel" "goodAt" "[I", Cond.methodLink RX11 324 yX11_deadOnes, Cond.instanceMethod yX11_deadOnes, Cond.selects RX11 yX11_deadOnes yX11_deadOnes, Cond.code yX11_deadOnes cX11_deadOnes 3 (some .int), Cond.fieldLink RX11 56 "PowerRailsModel" "isDead" "[Z", Cond.methodLink RX11 327 yX11_upBut, Cond.instanceMethod yX11_upBut, Cond.selects RX11 yX11_upBut yX11_upBut, Cond.code yX11_upBut cX11_upBut 6 (some .int), Cond.methodLink RX11 256 yX11_isSo, Cond.instanceMethod yX11_isSo, Cond.selects RX11 yX11_isSo yX11_isSo, Cond.code yX11_isSo cX11_isSo 3 (some .boolean), Cond.fieldLink RX11 16 "PowerRailsModel" "table" "[Z", Cond.methodLink RX11 364 yX11_lastGood]
def wsX11_stagger_r3 : List Cond := [Cond.instanceMethod yX11_lastGood, Cond.selects RX11 yX11_lastGood yX11_lastGood, Cond.code yX11_lastGood cX11_lastGood 3 (some .int), Cond.methodLink RX11 358 yX11_peakNow, Cond.instanceMethod yX11_peakNow, Cond.selects RX11 yX11_peakNow yX11_peakNow, Cond.code yX11_peakNow cX11_peakNow 4 (some .int), Cond.fieldLink RX11 353 "PowerRailsModel" "peakAt" "I", Cond.methodLink RX11 350 yX11_drawnAt, Cond.instanceMethod yX11_drawnAt, Cond.selects RX11 yX11_drawnAt yX11_drawnAt, Cond.code yX11_drawnAt cX11_drawnAt 5 (some .int), Cond.methodLink RX11 309 yX11_drawnOf, Cond.instanceMethod yX11_drawnOf, Cond.selects RX11 yX11_drawnOf yX11_drawnOf, Cond.code yX11_drawnOf cX11_drawnOf 5 (some .int)]
def wsX11_stagger : List Cond := .code yX11_stagger cX11_stagger 2 (some .int) :: ((wsX11_stagger_r1 ++ (wsX11_stagger_r2 ++ wsX11_stagger_r3)) ++ wsX110)
def wsX11_adopt_r1 : List Cond := [Cond.fieldLink RX11 121 "PowerRailsModel" "rails" "I", Cond.fieldLink RX11 361 "PowerRailsModel" "soonest" "I", Cond.fieldLink RX11 7 "PowerRailsModel" "told" "[I", Cond.fieldLink RX11 80 "PowerRailsModel" "bestWaits" "[I", Cond.methodLink RX11 369 yX11_findStagger, Cond.instanceMethod yX11_findStagger, Cond.selects RX11 yX11_findStagger yX11_findStagger, Cond.initialized RX11, Cond.code yX11_findStagger cX11_findStagger 4 none, Cond.fieldLink RX11 77 "PowerRailsModel" "waits" "[I", Cond.fieldLink RX11 124 "PowerRailsModel" "limit" "I", Cond.methodLink RX11 337 yX11_setTimes, Cond.instanceMethod yX11_setTimes, Cond.selects RX11 yX11_setTimes yX11_setTimes, Cond.code yX11_setTimes cX11_setTimes 3 none, Cond.fieldLink RX11 74 "PowerRailsModel" "by" "[I", Cond.fieldLink RX11 59 "PowerRailsModel" "takes" "[I", Cond.methodLink RX11 251 yX11_of, Cond.instanceMethod yX11_of, Cond.selects RX11 yX11_of yX11_of, Cond.code yX11_of cX11_of 3 (some .int), Cond.methodLink RX11 340 yX11_findTimes, Cond.instanceMethod yX11_findTimes, Cond.selects RX11 yX11_findTimes yX11_findTimes]
def wsX11_adopt_r2 : List Cond := [Cond.code yX11_findTimes cX11_findTimes 4 none, Cond.fieldLink RX11 330 "PowerRailsModel" "upNow" "I", Cond.fieldLink RX11 68 "PowerRailsModel" "mayAt" "[I", Cond.constant RX11 333 (100000), Cond.fieldLink RX11 71 "PowerRailsModel" "goodAt" "[I", Cond.methodLink RX11 324 yX11_deadOnes, Cond.instanceMethod yX11_deadOnes, Cond.selects RX11 yX11_deadOnes yX11_deadOnes, Cond.code yX11_deadOnes cX11_deadOnes 3 (some .int), Cond.fieldLink RX11 56 "PowerRailsModel" "isDead" "[Z", Cond.methodLink RX11 327 yX11_upBut, Cond.instanceMethod yX11_upBut, Cond.selects RX11 yX11_upBut yX11_upBut, Cond.code yX11_upBut cX11_upBut 6 (some .int), Cond.methodLink RX11 256 yX11_isSo, Cond.instanceMethod yX11_isSo, Cond.selects RX11 yX11_isSo yX11_isSo, Cond.code yX11_isSo cX11_isSo 3 (some .boolean), Cond.fieldLink RX11 16 "PowerRailsModel" "table" "[Z", Cond.methodLink RX11 364 yX11_lastGood, Cond.instanceMethod yX11_lastGood, Cond.selects RX11 yX11_lastGood yX11_lastGood, Cond.code yX11_lastGood cX11_lastGood 3 (some .int), Cond.methodLink RX11 358 yX11_peakNow]
def wsX11_adopt_r3 : List Cond := [Cond.instanceMethod yX11_peakNow, Cond.selects RX11 yX11_peakNow yX11_peakNow, Cond.code yX11_peakNow cX11_peakNow 4 (some .int), Cond.fieldLink RX11 353 "PowerRailsModel" "peakAt" "I", Cond.methodLink RX11 350 yX11_drawnAt, Cond.instanceMethod yX11_drawnAt, Cond.selects RX11 yX11_drawnAt yX11_drawnAt, Cond.code yX11_drawnAt cX11_drawnAt 5 (some .int), Cond.methodLink RX11 309 yX11_drawnOf, Cond.instanceMethod yX11_drawnOf, Cond.selects RX11 yX11_drawnOf yX11_drawnOf, Cond.code yX11_drawnOf cX11_drawnOf 5 (some .int)]
def wsX11_adopt : List Cond := .code yX11_adopt cX11_adopt 2 (some .int) :: ((wsX11_adopt_r1 ++ (wsX11_adopt_r2 ++ wsX11_adopt_r3)) ++ wsX110)
def wsX11_down : List Cond := .code yX11_down cX11_down 2 (some .int) :: ([.methodLink RX11 372 yX11_areRails, .instanceMethod yX11_areRails, .selects RX11 yX11_areRails yX11_areRails, .initialized RX11, .code yX11_areRails cX11_areRails 2 (some .boolean), .fieldLink RX11 121 "PowerRailsModel" "rails" "I", .methodLink RX11 141 yX11_in, .static yX11_in, .code yX11_in cX11_in 6 (some .boolean), .methodLink RX11 324 yX11_deadOnes, .instanceMethod yX11_deadOnes, .selects RX11 yX11_deadOnes yX11_deadOnes, .code yX11_deadOnes cX11_deadOnes 3 (some .int), .fieldLink RX11 56 "PowerRailsModel" "isDead" "[Z", .methodLink RX11 327 yX11_upBut, .instanceMethod yX11_upBut, .selects RX11 yX11_upBut yX11_upBut, .code yX11_upBut cX11_upBut 6 (some .int), .methodLink RX11 256 yX11_isSo, .instanceMethod yX11_isSo, .selects RX11 yX11_isSo yX11_isSo, .code yX11_isSo cX11_isSo 3 (some .boolean), .fieldLink RX11 16 "PowerRailsModel" "table" "[Z"] ++ wsX110)
def wsX11_isUp : List Cond := .code yX11_isUp cX11_isUp 3 (some .boolean) :: ([.methodLink RX11 327 yX11_upBut, .instanceMethod yX11_upBut, .selects RX11 yX11_upBut yX11_upBut, .initialized RX11, .code yX11_upBut cX11_upBut 6 (some .int), .fieldLink RX11 121 "PowerRailsModel" "rails" "I", .methodLink RX11 256 yX11_isSo, .instanceMethod yX11_isSo, .selects RX11 yX11_isSo yX11_isSo, .code yX11_isSo cX11_isSo 3 (some .boolean), .fieldLink RX11 16 "PowerRailsModel" "table" "[Z"] ++ wsX110)
def wsX11_cut_r1 : List Cond := [Cond.fieldLink RX11 121 "PowerRailsModel" "rails" "I", Cond.methodLink RX11 248 yX11_isRail, Cond.instanceMethod yX11_isRail, Cond.selects RX11 yX11_isRail yX11_isRail, Cond.initialized RX11, Cond.code yX11_isRail cX11_isRail 2 (some .boolean), Cond.methodLink RX11 141 yX11_in, Cond.static yX11_in, Cond.code yX11_in cX11_in 6 (some .boolean), Cond.methodLink RX11 324 yX11_deadOnes, Cond.instanceMethod yX11_deadOnes, Cond.selects RX11 yX11_deadOnes yX11_deadOnes, Cond.code yX11_deadOnes cX11_deadOnes 3 (some .int), Cond.fieldLink RX11 56 "PowerRailsModel" "isDead" "[Z", Cond.methodLink RX11 375 yX11_isUp, Cond.instanceMethod yX11_isUp, Cond.selects RX11 yX11_isUp yX11_isUp, Cond.code yX11_isUp cX11_isUp 3 (some .boolean), Cond.methodLink RX11 327 yX11_upBut, Cond.instanceMethod yX11_upBut, Cond.selects RX11 yX11_upBut yX11_upBut, Cond.code yX11_upBut cX11_upBut 6 (some .int), Cond.methodLink RX11 256 yX11_isSo, Cond.instanceMethod yX11_isSo]
def wsX11_cut_r2 : List Cond := [Cond.selects RX11 yX11_isSo yX11_isSo, Cond.code yX11_isSo cX11_isSo 3 (some .boolean), Cond.fieldLink RX11 16 "PowerRailsModel" "table" "[Z", Cond.methodLink RX11 378 yX11_countOf, Cond.static yX11_countOf, Cond.code yX11_countOf cX11_countOf 3 (some .int)]
def wsX11_cut : List Cond := .code yX11_cut cX11_cut 6 (some .int) :: ((wsX11_cut_r1 ++ wsX11_cut_r2) ++ wsX110)
def wsX11_need_r1 : List Cond := [Cond.fieldLink RX11 121 "PowerRailsModel" "rails" "I", Cond.methodLink RX11 248 yX11_isRail, Cond.instanceMethod yX11_isRail, Cond.selects RX11 yX11_isRail yX11_isRail, Cond.initialized RX11, Cond.code yX11_isRail cX11_isRail 2 (some .boolean), Cond.methodLink RX11 141 yX11_in, Cond.static yX11_in, Cond.code yX11_in cX11_in 6 (some .boolean), Cond.methodLink RX11 324 yX11_deadOnes, Cond.instanceMethod yX11_deadOnes, Cond.selects RX11 yX11_deadOnes yX11_deadOnes, Cond.code yX11_deadOnes cX11_deadOnes 3 (some .int), Cond.fieldLink RX11 56 "PowerRailsModel" "isDead" "[Z", Cond.methodLink RX11 375 yX11_isUp, Cond.instanceMethod yX11_isUp, Cond.selects RX11 yX11_isUp yX11_isUp, Cond.code yX11_isUp cX11_isUp 3 (some .boolean), Cond.methodLink RX11 327 yX11_upBut, Cond.instanceMethod yX11_upBut, Cond.selects RX11 yX11_upBut yX11_upBut, Cond.code yX11_upBut cX11_upBut 6 (some .int), Cond.methodLink RX11 256 yX11_isSo, Cond.instanceMethod yX11_isSo]
def wsX11_need_r2 : List Cond := [Cond.selects RX11 yX11_isSo yX11_isSo, Cond.code yX11_isSo cX11_isSo 3 (some .boolean), Cond.fieldLink RX11 16 "PowerRailsModel" "table" "[Z", Cond.methodLink RX11 378 yX11_countOf, Cond.static yX11_countOf, Cond.code yX11_countOf cX11_countOf 3 (some .int)]
def wsX11_need : List Cond := .code yX11_need cX11_need 7 (some .int) :: ((wsX11_need_r1 ++ wsX11_need_r2) ++ wsX110)
def wsX11_must_r1 : List Cond := [Cond.fieldLink RX11 121 "PowerRailsModel" "rails" "I", Cond.methodLink RX11 248 yX11_isRail, Cond.instanceMethod yX11_isRail, Cond.selects RX11 yX11_isRail yX11_isRail, Cond.initialized RX11, Cond.code yX11_isRail cX11_isRail 2 (some .boolean), Cond.methodLink RX11 141 yX11_in, Cond.static yX11_in, Cond.code yX11_in cX11_in 6 (some .boolean), Cond.methodLink RX11 324 yX11_deadOnes, Cond.instanceMethod yX11_deadOnes, Cond.selects RX11 yX11_deadOnes yX11_deadOnes, Cond.code yX11_deadOnes cX11_deadOnes 3 (some .int), Cond.fieldLink RX11 56 "PowerRailsModel" "isDead" "[Z", Cond.methodLink RX11 375 yX11_isUp, Cond.instanceMethod yX11_isUp, Cond.selects RX11 yX11_isUp yX11_isUp, Cond.code yX11_isUp cX11_isUp 3 (some .boolean), Cond.methodLink RX11 327 yX11_upBut, Cond.instanceMethod yX11_upBut, Cond.selects RX11 yX11_upBut yX11_upBut, Cond.code yX11_upBut cX11_upBut 6 (some .int), Cond.methodLink RX11 256 yX11_isSo, Cond.instanceMethod yX11_isSo]
def wsX11_must_r2 : List Cond := [Cond.selects RX11 yX11_isSo yX11_isSo, Cond.code yX11_isSo cX11_isSo 3 (some .boolean), Cond.fieldLink RX11 16 "PowerRailsModel" "table" "[Z"]
def wsX11_must : List Cond := .code yX11_must cX11_must 4 (some .int) :: ((wsX11_must_r1 ++ wsX11_must_r2) ++ wsX110)
def wsX11_seen : List Cond := .code yX11_seen cX11_seen 4 (some .int) :: ([.fieldLink RX11 121 "PowerRailsModel" "rails" "I", .methodLink RX11 372 yX11_areRails, .instanceMethod yX11_areRails, .selects RX11 yX11_areRails yX11_areRails, .initialized RX11, .code yX11_areRails cX11_areRails 2 (some .boolean), .methodLink RX11 141 yX11_in, .static yX11_in, .code yX11_in cX11_in 6 (some .boolean), .methodLink RX11 327 yX11_upBut, .instanceMethod yX11_upBut, .selects RX11 yX11_upBut yX11_upBut, .code yX11_upBut cX11_upBut 6 (some .int), .methodLink RX11 256 yX11_isSo, .instanceMethod yX11_isSo, .selects RX11 yX11_isSo yX11_isSo, .code yX11_isSo cX11_isSo 3 (some .boolean), .fieldLink RX11 16 "PowerRailsModel" "table" "[Z"] ++ wsX110)
def wsX11_isSheet : List Cond := .code yX11_isSheet cX11_isSheet 2 (some .boolean) :: ([.constantLong RX11 356 (3), .constantLong RX11 322 (2), .methodLink RX11 141 yX11_in, .static yX11_in, .initialized RX11, .code yX11_in cX11_in 6 (some .boolean)])
def wsX11_sheet : List Cond := .code yX11_sheet cX11_sheet 5 (some .int) :: ([.fieldLink RX11 83 "PowerRailsModel" "lanes" "[I", .fieldLink RX11 86 "PowerRailsModel" "sizes" "[I", .fieldLink RX11 89 "PowerRailsModel" "cells" "[I", .methodLink RX11 381 yX11_isSheet, .static yX11_isSheet, .initialized RX11, .code yX11_isSheet cX11_isSheet 2 (some .boolean), .constantLong RX11 356 (3), .constantLong RX11 322 (2), .methodLink RX11 141 yX11_in, .static yX11_in, .code yX11_in cX11_in 6 (some .boolean)] ++ wsX110)
def wsX11_lay : List Cond := .code yX11_lay cX11_lay 4 (some .int) :: ([.fieldLink RX11 83 "PowerRailsModel" "lanes" "[I", .fieldLink RX11 86 "PowerRailsModel" "sizes" "[I", .fieldLink RX11 89 "PowerRailsModel" "cells" "[I", .methodLink RX11 381 yX11_isSheet, .static yX11_isSheet, .initialized RX11, .code yX11_isSheet cX11_isSheet 2 (some .boolean), .constantLong RX11 356 (3), .constantLong RX11 322 (2), .methodLink RX11 141 yX11_in, .static yX11_in, .code yX11_in cX11_in 6 (some .boolean)] ++ wsX110)
def wsX11_measured_r1 : List Cond := [Cond.constantLong RX11 384 (40), Cond.constantLong RX11 322 (2), Cond.fieldLink RX11 83 "PowerRailsModel" "lanes" "[I", Cond.fieldLink RX11 86 "PowerRailsModel" "sizes" "[I", Cond.fieldLink RX11 89 "PowerRailsModel" "cells" "[I", Cond.constantLong RX11 386 (9999), Cond.methodLink RX11 381 yX11_isSheet, Cond.static yX11_isSheet, Cond.initialized RX11, Cond.code yX11_isSheet cX11_isSheet 2 (some .boolean), Cond.constantLong RX11 356 (3), Cond.methodLink RX11 141 yX11_in, Cond.static yX11_in, Cond.code yX11_in cX11_in 6 (some .boolean), Cond.methodLink RX11 334 yX11_setWaits, Cond.instanceMethod yX11_setWaits, Cond.selects RX11 yX11_setWaits yX11_setWaits, Cond.code yX11_setWaits cX11_setWaits 2 none, Cond.fieldLink RX11 121 "PowerRailsModel" "rails" "I", Cond.fieldLink RX11 77 "PowerRailsModel" "waits" "[I", Cond.methodLink RX11 251 yX11_of, Cond.instanceMethod yX11_of, Cond.selects RX11 yX11_of yX11_of, Cond.code yX11_of cX11_of 3 (some .int)]
def wsX11_measured_r2 : List Cond := [Cond.fieldLink RX11 7 "PowerRailsModel" "told" "[I", Cond.methodLink RX11 337 yX11_setTimes, Cond.instanceMethod yX11_setTimes, Cond.selects RX11 yX11_setTimes yX11_setTimes, Cond.code yX11_setTimes cX11_setTimes 3 none, Cond.fieldLink RX11 74 "PowerRailsModel" "by" "[I", Cond.fieldLink RX11 59 "PowerRailsModel" "takes" "[I", Cond.methodLink RX11 340 yX11_findTimes, Cond.instanceMethod yX11_findTimes, Cond.selects RX11 yX11_findTimes yX11_findTimes, Cond.code yX11_findTimes cX11_findTimes 4 none, Cond.fieldLink RX11 330 "PowerRailsModel" "upNow" "I", Cond.fieldLink RX11 68 "PowerRailsModel" "mayAt" "[I", Cond.constant RX11 333 (100000), Cond.fieldLink RX11 71 "PowerRailsModel" "goodAt" "[I", Cond.methodLink RX11 324 yX11_deadOnes, Cond.instanceMethod yX11_deadOnes, Cond.selects RX11 yX11_deadOnes yX11_deadOnes, Cond.code yX11_deadOnes cX11_deadOnes 3 (some .int), Cond.fieldLink RX11 56 "PowerRailsModel" "isDead" "[Z", Cond.methodLink RX11 327 yX11_upBut, Cond.instanceMethod yX11_upBut, Cond.selects RX11 yX11_upBut yX11_upBut, Cond.code yX11_upBut cX11_upBut 6 (some .int)]
def wsX11_measured_r3 : List Cond := [Cond.methodLink RX11 256 yX11_isSo, Cond.instanceMethod yX11_isSo, Cond.selects RX11 yX11_isSo yX11_isSo, Cond.code yX11_isSo cX11_isSo 3 (some .boolean), Cond.fieldLink RX11 16 "PowerRailsModel" "table" "[Z", Cond.methodLink RX11 350 yX11_drawnAt, Cond.instanceMethod yX11_drawnAt, Cond.selects RX11 yX11_drawnAt yX11_drawnAt, Cond.code yX11_drawnAt cX11_drawnAt 5 (some .int), Cond.methodLink RX11 309 yX11_drawnOf, Cond.instanceMethod yX11_drawnOf, Cond.selects RX11 yX11_drawnOf yX11_drawnOf, Cond.code yX11_drawnOf cX11_drawnOf 5 (some .int)]
def wsX11_measured : List Cond := .code yX11_measured cX11_measured 14 (some .int) :: ((wsX11_measured_r1 ++ (wsX11_measured_r2 ++ wsX11_measured_r3)) ++ wsX110)
def wsX11_count : List Cond := .code yX11_count cX11_count 2 (some .int) :: ([.fieldLink RX11 121 "PowerRailsModel" "rails" "I", .fieldLink RX11 288 "PowerRailsModel" "happenings" "I", .fieldLink RX11 136 "PowerRailsModel" "taped" "I", .fieldLink RX11 83 "PowerRailsModel" "lanes" "[I", .fieldLink RX11 86 "PowerRailsModel" "sizes" "[I", .methodLink RX11 324 yX11_deadOnes, .instanceMethod yX11_deadOnes, .selects RX11 yX11_deadOnes yX11_deadOnes, .initialized RX11, .code yX11_deadOnes cX11_deadOnes 3 (some .int), .fieldLink RX11 56 "PowerRailsModel" "isDead" "[Z", .methodLink RX11 378 yX11_countOf, .static yX11_countOf, .code yX11_countOf cX11_countOf 3 (some .int), .methodLink RX11 343 yX11_ways, .instanceMethod yX11_ways, .selects RX11 yX11_ways yX11_ways, .code yX11_ways cX11_ways 3 (some .int), .methodLink RX11 251 yX11_of, .instanceMethod yX11_of, .selects RX11 yX11_of yX11_of, .code yX11_of cX11_of 3 (some .int), .fieldLink RX11 7 "PowerRailsModel" "told" "[I"] ++ wsX110)
def wsJ9_abs_0f7a4 : List Cond := .code yJ9_abs_0f7a4 cJ9_abs_0f7a4 1 (some .int) :: ([])
def wsJ9_max_7cf53 : List Cond := .code yJ9_max_7cf53 cJ9_max_7cf53 2 (some .int) :: ([])
def wsJ9_min_7cf53 : List Cond := .code yJ9_min_7cf53 cJ9_min_7cf53 2 (some .int) :: ([])
def wsL_law_r1 : List Cond := [Cond.classLink RL 7 RX10, Cond.instantiable RX10 10, Cond.initialized RX10, Cond.classLink RL 10 RX11, Cond.instantiable RX11 59, Cond.initialized RX11, Cond.constantLong RL 13 (4294967295), Cond.methodLink RL 9 yX10_init, Cond.instanceMethod yX10_init, Cond.code yX10_init cX10_init 1 none, Cond.methodLink RX10 1 objectInit, Cond.instanceMethod objectInit, Cond.code objectInit ⟨#[0xb1]⟩ 1 none, Cond.classLink RX10 7 RX8, Cond.instantiable RX8 2, Cond.initialized RX8, Cond.fieldLink RX10 10 "PowerRails" "tape" "LPowerRails$Tape;", Cond.classLink RX10 16 RX5, Cond.instantiable RX5 14, Cond.initialized RX5, Cond.fieldLink RX10 19 "PowerRails" "run" "LPowerRails$Run;", Cond.classLink RX10 23 RX0, Cond.instantiable RX0 9, Cond.initialized RX0]
def wsL_law_r2 : List Cond := [Cond.fieldLink RX10 26 "PowerRails" "course" "LPowerRails$Course;", Cond.classLink RX10 30 RX9, Cond.instantiable RX9 6, Cond.initialized RX9, Cond.fieldLink RX10 35 "PowerRails" "ways" "LPowerRails$Ways;", Cond.classLink RX10 39 RX7, Cond.instantiable RX7 4, Cond.initialized RX7, Cond.fieldLink RX10 42 "PowerRails" "staggering" "LPowerRails$Stagger;", Cond.classLink RX10 46 RX6, Cond.instantiable RX6 3, Cond.initialized RX6, Cond.fieldLink RX10 49 "PowerRails" "sheets" "LPowerRails$Sheets;", Cond.classLink RX10 53 RX3, Cond.instantiable RX3 6, Cond.initialized RX3, Cond.fieldLink RX10 56 "PowerRails" "plan" "LPowerRails$Plan;", Cond.fieldLink RX10 60 "PowerRails" "spare" "LPowerRails$Plan;", Cond.classLink RX10 63 RX4, Cond.instantiable RX4 13, Cond.initialized RX4, Cond.fieldLink RX10 68 "PowerRails" "reader" "LPowerRails$Reader;", Cond.fieldLink RX10 72 "PowerRails" "latestFault" "I", Cond.methodLink RX10 9 yX8_init]
def wsL_law_r3 : List Cond := [Cond.instanceMethod yX8_init, Cond.code yX8_init cX8_init 1 none, Cond.methodLink RX8 1 objectInit, Cond.arrayClass .int, Cond.fieldLink RX8 9 "PowerRails$Tape" "bytes" "[I", Cond.fieldLink RX8 13 "PowerRails$Tape" "length" "I", Cond.methodLink RX10 18 yX5_init, Cond.instanceMethod yX5_init, Cond.code yX5_init cX5_init 1 none, Cond.methodLink RX5 3 objectInit, Cond.classLink RX5 9 RX2, Cond.instantiable RX2 4, Cond.initialized RX2, Cond.fieldLink RX5 12 "PowerRails$Run" "history" "LPowerRails$History;", Cond.fieldLink RX5 18 "PowerRails$Run" "states" "[I", Cond.fieldLink RX5 22 "PowerRails$Run" "since" "[I", Cond.fieldLink RX5 25 "PowerRails$Run" "asked" "[I", Cond.fieldLink RX5 28 "PowerRails$Run" "takes" "[I", Cond.fieldLink RX5 31 "PowerRails$Run" "timesGood" "[I", Cond.fieldLink RX5 34 "PowerRails$Run" "dead" "I", Cond.fieldLink RX5 38 "PowerRails$Run" "key" "Z", Cond.methodLink RX5 11 yX2_init, Cond.instanceMethod yX2_init, Cond.code yX2_init cX2_init 1 none]
def wsL_law_r4 : List Cond := [Cond.methodLink RX2 1 objectInit, Cond.fieldLink RX2 9 "PowerRails$History" "ticks" "[I", Cond.fieldLink RX2 13 "PowerRails$History" "who" "[I", Cond.fieldLink RX2 16 "PowerRails$History" "became" "[I", Cond.fieldLink RX2 19 "PowerRails$History" "size" "I", Cond.methodLink RX10 25 yX0_init, Cond.instanceMethod yX0_init, Cond.code yX0_init cX0_init 1 none, Cond.methodLink RX0 3 objectInit, Cond.fieldLink RX0 9 "PowerRails$Course" "waits" "[I", Cond.fieldLink RX0 15 "PowerRails$Course" "takes" "[I", Cond.fieldLink RX0 18 "PowerRails$Course" "risesAt" "[I", Cond.fieldLink RX0 21 "PowerRails$Course" "goodAt" "[I", Cond.fieldLink RX0 24 "PowerRails$Course" "changes" "[I", Cond.methodLink RX10 32 yX9_init, Cond.instanceMethod yX9_init, Cond.code yX9_init cX9_init 2 none, Cond.methodLink RX9 3 objectInit, Cond.fieldLink RX9 9 "PowerRails$Ways" "course" "LPowerRails$Course;", Cond.fieldLink RX9 15 "PowerRails$Ways" "behind" "[I", Cond.arrayClass .boolean, Cond.fieldLink RX9 19 "PowerRails$Ways" "behindKnown" "[Z", Cond.fieldLink RX9 23 "PowerRails$Ways" "peaksKnown" "Z", Cond.methodLink RX10 41 yX7_init]
def wsL_law_r5 : List Cond := [Cond.instanceMethod yX7_init, Cond.code yX7_init cX7_init 2 none, Cond.methodLink RX7 3 objectInit, Cond.fieldLink RX7 9 "PowerRails$Stagger" "course" "LPowerRails$Course;", Cond.fieldLink RX7 15 "PowerRails$Stagger" "row" "[I", Cond.fieldLink RX7 19 "PowerRails$Stagger" "known" "Z", Cond.fieldLink RX7 23 "PowerRails$Stagger" "last" "I", Cond.methodLink RX10 48 yX6_init, Cond.instanceMethod yX6_init, Cond.code yX6_init cX6_init 1 none, Cond.methodLink RX6 3 objectInit, Cond.classLink RX6 11 "[[I", Cond.fieldLink RX6 13 "PowerRails$Sheets" "cells" "[[I", Cond.fieldLink RX6 16 "PowerRails$Sheets" "lanes" "[I", Cond.fieldLink RX6 20 "PowerRails$Sheets" "sizes" "[I", Cond.methodLink RX6 23 yJ7_fill_53178, Cond.static yJ7_fill_53178, Cond.initialized RJ7, Cond.code yJ7_fill_53178 cJ7_fill_53178 4 none, Cond.methodLink RX10 55 yX3_init, Cond.instanceMethod yX3_init, Cond.code yX3_init cX3_init 1 none, Cond.methodLink RX3 3 objectInit, Cond.fieldLink RX3 11 "PowerRails$Plan" "numbers" "[I"]
def wsL_law_r6 : List Cond := [Cond.arrayClass .long, Cond.fieldLink RX3 15 "PowerRails$Plan" "tables" "[J", Cond.fieldLink RX3 19 "PowerRails$Plan" "rails" "I", Cond.fieldLink RX3 23 "PowerRails$Plan" "limit" "I", Cond.fieldLink RX3 26 "PowerRails$Plan" "retry" "I", Cond.fieldLink RX3 29 "PowerRails$Plan" "behind" "I", Cond.methodLink RX10 65 yX4_init, Cond.instanceMethod yX4_init, Cond.code yX4_init cX4_init 3 none, Cond.methodLink RX4 3 objectInit, Cond.fieldLink RX4 9 "PowerRails$Reader" "tape" "LPowerRails$Tape;", Cond.fieldLink RX4 15 "PowerRails$Reader" "plan" "LPowerRails$Plan;", Cond.fieldLink RX4 19 "PowerRails$Reader" "firstUse" "[I", Cond.classLink RX4 25 "[[J", Cond.fieldLink RX4 27 "PowerRails$Reader" "any" "[[J", Cond.fieldLink RX4 30 "PowerRails$Reader" "all" "[[J", Cond.methodLink RL 12 yX11_init, Cond.instanceMethod yX11_init, Cond.code yX11_init cX11_init 2 none, Cond.methodLink RX11 1 objectInit, Cond.fieldLink RX11 7 "PowerRailsModel" "told" "[I", Cond.fieldLink RX11 13 "PowerRailsModel" "names" "[I", Cond.fieldLink RX11 16 "PowerRailsModel" "table" "[Z", Cond.fieldLink RX11 20 "PowerRailsModel" "dTold" "[I"]
def wsL_law_r7 : List Cond := [Cond.fieldLink RX11 23 "PowerRailsModel" "dNames" "[I", Cond.fieldLink RX11 26 "PowerRailsModel" "dTable" "[Z", Cond.fieldLink RX11 29 "PowerRailsModel" "usedRail" "[I", Cond.fieldLink RX11 32 "PowerRailsModel" "usedAt" "[I", Cond.fieldLink RX11 35 "PowerRailsModel" "code" "[I", Cond.fieldLink RX11 38 "PowerRailsModel" "wait" "[I", Cond.fieldLink RX11 41 "PowerRailsModel" "pile" "[Z", Cond.fieldLink RX11 44 "PowerRailsModel" "tape" "[I", Cond.fieldLink RX11 47 "PowerRailsModel" "state" "[I", Cond.fieldLink RX11 50 "PowerRailsModel" "since" "[I", Cond.fieldLink RX11 53 "PowerRailsModel" "upSince" "[I", Cond.fieldLink RX11 56 "PowerRailsModel" "isDead" "[Z", Cond.fieldLink RX11 59 "PowerRailsModel" "takes" "[I", Cond.fieldLink RX11 62 "PowerRailsModel" "wasGood" "[I", Cond.fieldLink RX11 65 "PowerRailsModel" "happening" "[I", Cond.fieldLink RX11 68 "PowerRailsModel" "mayAt" "[I", Cond.fieldLink RX11 71 "PowerRailsModel" "goodAt" "[I", Cond.fieldLink RX11 74 "PowerRailsModel" "by" "[I", Cond.fieldLink RX11 77 "PowerRailsModel" "waits" "[I", Cond.fieldLink RX11 80 "PowerRailsModel" "bestWaits" "[I", Cond.fieldLink RX11 83 "PowerRailsModel" "lanes" "[I", Cond.fieldLink RX11 86 "PowerRailsModel" "sizes" "[I", Cond.fieldLink RX11 89 "PowerRailsModel" "cells" "[I", Cond.methodLink RX11 92 yX11_firstDraft]
def wsL_law_r8 : List Cond := [Cond.instanceMethod yX11_firstDraft, Cond.selects RX11 yX11_firstDraft yX11_firstDraft, Cond.code yX11_firstDraft cX11_firstDraft 1 none, Cond.fieldLink RX11 98 "PowerRailsModel" "dRails" "I", Cond.fieldLink RX11 102 "PowerRailsModel" "dLimit" "I", Cond.fieldLink RX11 105 "PowerRailsModel" "dRetry" "I", Cond.fieldLink RX11 108 "PowerRailsModel" "dPause" "I", Cond.fieldLink RX11 111 "PowerRailsModel" "hasLimit" "Z", Cond.fieldLink RX11 115 "PowerRailsModel" "hasRetry" "Z", Cond.fieldLink RX11 118 "PowerRailsModel" "used" "I", Cond.methodLink RX11 95 yX11_keepDraft, Cond.instanceMethod yX11_keepDraft, Cond.selects RX11 yX11_keepDraft yX11_keepDraft, Cond.code yX11_keepDraft cX11_keepDraft 2 none, Cond.fieldLink RX11 121 "PowerRailsModel" "rails" "I", Cond.fieldLink RX11 124 "PowerRailsModel" "limit" "I", Cond.fieldLink RX11 127 "PowerRailsModel" "retry" "I", Cond.fieldLink RX11 130 "PowerRailsModel" "pause" "I", Cond.methodLink RX11 133 yX11_begins, Cond.instanceMethod yX11_begins, Cond.selects RX11 yX11_begins yX11_begins, Cond.code yX11_begins cX11_begins 2 none, Cond.fieldLink RX11 267 "PowerRailsModel" "tick" "I", Cond.fieldLink RX11 270 "PowerRailsModel" "isOn" "Z"]
def wsL_law_r9 : List Cond := [Cond.fieldLink RX11 273 "PowerRailsModel" "held" "I", Cond.fieldLink RX11 276 "PowerRailsModel" "tries" "I", Cond.fieldLink RX11 279 "PowerRailsModel" "drawnNow" "I", Cond.fieldLink RX11 282 "PowerRailsModel" "drawnMost" "I", Cond.fieldLink RX11 285 "PowerRailsModel" "trips" "I", Cond.fieldLink RX11 288 "PowerRailsModel" "happenings" "I", Cond.methodLink RX11 251 yX11_of, Cond.instanceMethod yX11_of, Cond.selects RX11 yX11_of yX11_of, Cond.code yX11_of cX11_of 3 (some .int), Cond.methodLink RL 15 yX10_feed, Cond.instanceMethod yX10_feed, Cond.selects RX10 yX10_feed yX10_feed, Cond.code yX10_feed cX10_feed 3 (some .int), Cond.fieldLink RX10 80 "PowerRails$Tape" "length" "I", Cond.methodLink RX10 76 yX8_push, Cond.instanceMethod yX8_push, Cond.selects RX8 yX8_push yX8_push, Cond.code yX8_push cX8_push 4 (some .boolean), Cond.methodLink RL 19 yX11_feed, Cond.instanceMethod yX11_feed, Cond.selects RX11 yX11_feed yX11_feed, Cond.code yX11_feed cX11_feed 4 (some .int), Cond.fieldLink RX11 136 "PowerRailsModel" "taped" "I"]
def wsL_law_r10 : List Cond := [Cond.constantLong RX11 139 (255), Cond.methodLink RL 20 yX10_end, Cond.instanceMethod yX10_end, Cond.selects RX10 yX10_end yX10_end, Cond.code yX10_end cX10_end 3 (some .int), Cond.methodLink RL 24 yX11_end, Cond.instanceMethod yX11_end, Cond.selects RX11 yX11_end yX11_end, Cond.code yX11_end cX11_end 3 (some .int), Cond.methodLink RX11 141 yX11_in, Cond.static yX11_in, Cond.code yX11_in cX11_in 6 (some .boolean), Cond.methodLink RL 25 yX10_text, Cond.instanceMethod yX10_text, Cond.selects RX10 yX10_text yX10_text, Cond.code yX10_text cX10_text 3 (some .int), Cond.fieldLink RX10 87 "PowerRails$Reader" "fault" "I", Cond.fieldLink RX10 90 "PowerRails$Reader" "faultPlace" "I", Cond.methodLink RX10 83 yX4_readText, Cond.instanceMethod yX4_readText, Cond.selects RX4 yX4_readText yX4_readText, Cond.code yX4_readText cX4_readText 4 (some .int), Cond.fieldLink RX4 36 "PowerRails$Reader" "place" "I", Cond.fieldLink RX4 40 "PowerRails$Reader" "told" "I"]
def wsL_law_r11 : List Cond := [Cond.fieldLink RX4 43 "PowerRails$Reader" "fault" "I", Cond.fieldLink RX4 46 "PowerRails$Reader" "faultPlace" "I", Cond.fieldLink RX4 60 "PowerRails$Reader" "kind" "I", Cond.methodLink RX4 33 yX3_reset, Cond.instanceMethod yX3_reset, Cond.selects RX3 yX3_reset yX3_reset, Cond.code yX3_reset cX3_reset 1 none, Cond.methodLink RX4 49 yJ7_fill_53178, Cond.methodLink RX4 55 yX4_step, Cond.instanceMethod yX4_step, Cond.selects RX4 yX4_step yX4_step, Cond.code yX4_step cX4_step 2 none, Cond.fieldLink RX4 82 "PowerRails$Tape" "length" "I", Cond.fieldLink RX4 85 "PowerRails$Tape" "bytes" "[I", Cond.fieldLink RX4 88 "PowerRails$Reader" "from" "I", Cond.fieldLink RX4 91 "PowerRails$Reader" "value" "I", Cond.methodLink RX4 94 yX4_skipWithin, Cond.instanceMethod yX4_skipWithin, Cond.selects RX4 yX4_skipWithin yX4_skipWithin, Cond.code yX4_skipWithin cX4_skipWithin 3 none, Cond.methodLink RX4 98 yX4_valueNumber, Cond.instanceMethod yX4_valueNumber, Cond.selects RX4 yX4_valueNumber yX4_valueNumber, Cond.code yX4_valueNumber cX4_valueNumber 2 none]
def wsL_law_r12 : List Cond := [Cond.methodLink RX4 101 yX4_refuse, Cond.instanceMethod yX4_refuse, Cond.selects RX4 yX4_refuse yX4_refuse, Cond.code yX4_refuse cX4_refuse 3 none, Cond.methodLink RX4 65 yX4_isWord, Cond.instanceMethod yX4_isWord, Cond.selects RX4 yX4_isWord yX4_isWord, Cond.code yX4_isWord cX4_isWord 3 (some .boolean), Cond.methodLink RX4 104 yJ0_length_8abf5, Cond.instanceMethod yJ0_length_8abf5, Cond.selects RJ0 yJ0_length_8abf5 yJ0_length_8abf5, Cond.initialized RJ0, Cond.code yJ0_length_8abf5 cJ0_length_8abf5 1 (some .int), Cond.fieldLink RJ0 9 "java/lang/String" "value" "[B", Cond.methodLink RJ0 335 yJ0_coder_7d493, Cond.instanceMethod yJ0_coder_7d493, Cond.selects RJ0 yJ0_coder_7d493 yJ0_coder_7d493, Cond.code yJ0_coder_7d493 cJ0_coder_7d493 1 (some .byte), Cond.fieldLink RJ0 38 "java/lang/String" "COMPACT_STRINGS" "Z", Cond.fieldLink RJ0 15 "java/lang/String" "coder" "B", Cond.methodLink RX4 109 yJ0_charAt_5068e, Cond.instanceMethod yJ0_charAt_5068e, Cond.selects RJ0 yJ0_charAt_5068e yJ0_charAt_5068e, Cond.code yJ0_charAt_5068e cJ0_charAt_5068e 2 (some .char)]
def wsL_law_r13 : List Cond := [Cond.methodLink RJ0 492 yJ0_isLatin1_aae02, Cond.instanceMethod yJ0_isLatin1_aae02, Cond.selects RJ0 yJ0_isLatin1_aae02 yJ0_isLatin1_aae02, Cond.code yJ0_isLatin1_aae02 cJ0_isLatin1_aae02 1 (some .boolean), Cond.methodLink RJ0 495 yJ1_charAt_3b067, Cond.static yJ1_charAt_3b067, Cond.initialized RJ1, Cond.code yJ1_charAt_3b067 cJ1_charAt_3b067 2 (some .char), Cond.methodLink RJ1 9 yJ0_checkIndex_df160, Cond.static yJ0_checkIndex_df160, Cond.code yJ0_checkIndex_df160 cJ0_checkIndex_df160 2 none, Cond.fieldLink RJ0 1053 "jdk/internal/util/Preconditions" "SIOOBE_FORMATTER" "Ljava/util/function/BiFunction;", Cond.methodLink RJ0 1059 yJ3_checkIndex_8e157, Cond.static yJ3_checkIndex_8e157, Cond.initialized RJ3, Cond.code yJ3_checkIndex_8e157 cJ3_checkIndex_8e157 3 (some .int), Cond.methodLink RJ0 498 yJ2_charAt_3b067, Cond.static yJ2_charAt_3b067, Cond.initialized RJ2, Cond.code yJ2_charAt_3b067 cJ2_charAt_3b067 2 (some .char), Cond.methodLink RJ2 67 yJ2_checkIndex_2214a, Cond.static yJ2_checkIndex_2214a, Cond.code yJ2_checkIndex_2214a cJ2_checkIndex_2214a 2 none, Cond.methodLink RJ2 48 yJ2_length_9d52b]
def wsL_law_r14 : List Cond := [Cond.static yJ2_length_9d52b, Cond.code yJ2_length_9d52b cJ2_length_9d52b 1 (some .int), Cond.methodLink RJ2 414 yJ0_checkIndex_df160, Cond.methodLink RJ2 71 yJ2_getChar_3b067, Cond.static yJ2_getChar_3b067, Cond.code yJ2_getChar_3b067 cJ2_getChar_3b067 2 (some .char), Cond.fieldLink RJ2 44 "java/lang/StringUTF16" "$assertionsDisabled" "Z", Cond.fieldLink RJ2 59 "java/lang/StringUTF16" "HI_BYTE_SHIFT" "I", Cond.fieldLink RJ2 63 "java/lang/StringUTF16" "LO_BYTE_SHIFT" "I", Cond.methodLink RX4 69 yX4_readRail, Cond.instanceMethod yX4_readRail, Cond.selects RX4 yX4_readRail yX4_readRail, Cond.code yX4_readRail cX4_readRail 4 none, Cond.fieldLink RX4 138 "PowerRails$Plan" "rails" "I", Cond.methodLink RX4 141 yX3_addRail, Cond.instanceMethod yX3_addRail, Cond.selects RX3 yX3_addRail yX3_addRail, Cond.code yX3_addRail cX3_addRail 2 none, Cond.constantLong RX3 36 (-1), Cond.methodLink RX3 32 yX3_setNumber, Cond.instanceMethod yX3_setNumber, Cond.selects RX3 yX3_setNumber yX3_setNumber, Cond.code yX3_setNumber cX3_setNumber 4 none, Cond.methodLink RX4 144 yX4_takeTurn]
def wsL_law_r15 : List Cond := [Cond.instanceMethod yX4_takeTurn, Cond.selects RX4 yX4_takeTurn yX4_takeTurn, Cond.code yX4_takeTurn cX4_takeTurn 2 none, Cond.methodLink RX4 117 yX4_railNamed, Cond.instanceMethod yX4_railNamed, Cond.selects RX4 yX4_railNamed yX4_railNamed, Cond.code yX4_railNamed cX4_railNamed 2 (some .int), Cond.methodLink RX4 125 yX4_takeNumber, Cond.instanceMethod yX4_takeNumber, Cond.selects RX4 yX4_takeNumber yX4_takeNumber, Cond.code yX4_takeNumber cX4_takeNumber 4 (some .int), Cond.methodLink RX4 147 yX3_setNumber, Cond.methodLink RX4 153 yX4_readWith, Cond.instanceMethod yX4_readWith, Cond.selects RX4 yX4_readWith yX4_readWith, Cond.code yX4_readWith cX4_readWith 2 none, Cond.methodLink RX4 122 yX4_takeOnce, Cond.instanceMethod yX4_takeOnce, Cond.selects RX4 yX4_takeOnce yX4_takeOnce, Cond.code yX4_takeOnce cX4_takeOnce 2 none, Cond.methodLink RX4 156 yX4_readFormula, Cond.instanceMethod yX4_readFormula, Cond.selects RX4 yX4_readFormula yX4_readFormula, Cond.code yX4_readFormula cX4_readFormula 5 none]
def wsL_law_r16 : List Cond := [Cond.fieldLink RX4 176 "PowerRails$Reader" "depth" "I", Cond.fieldLink RX4 182 "PowerRails$Plan" "tables" "[J", Cond.methodLink RX4 186 arraycopyName, Cond.native arraycopyName, Cond.static arraycopyName, Cond.initialized "java/lang/System", Cond.methodLink RX4 167 yX4_openDepth, Cond.instanceMethod yX4_openDepth, Cond.selects RX4 yX4_openDepth yX4_openDepth, Cond.code yX4_openDepth cX4_openDepth 2 none, Cond.constantLong RX4 203 (-1), Cond.methodLink RX4 200 yJ7_fill_d0a16, Cond.static yJ7_fill_d0a16, Cond.code yJ7_fill_d0a16 cJ7_fill_d0a16 5 none, Cond.methodLink RX4 170 yX4_takeUnit, Cond.instanceMethod yX4_takeUnit, Cond.selects RX4 yX4_takeUnit yX4_takeUnit, Cond.code yX4_takeUnit cX4_takeUnit 2 (some .boolean), Cond.methodLink RX4 113 yX4_isSign, Cond.instanceMethod yX4_isSign, Cond.selects RX4 yX4_isSign yX4_isSign, Cond.code yX4_isSign cX4_isSign 2 (some .boolean), Cond.methodLink RX4 194 yX4_joinPart, Cond.instanceMethod yX4_joinPart]
def wsL_law_r17 : List Cond := [Cond.selects RX4 yX4_joinPart yX4_joinPart, Cond.code yX4_joinPart cX4_joinPart 4 none, Cond.fieldLink RX4 208 "PowerRails$Reader" "IN_WORD" "[J", Cond.methodLink RX4 205 yX3_number, Cond.instanceMethod yX3_number, Cond.selects RX3 yX3_number yX3_number, Cond.code yX3_number cX3_number 3 (some .int), Cond.methodLink RX4 197 yX4_noteUse, Cond.instanceMethod yX4_noteUse, Cond.selects RX4 yX4_noteUse yX4_noteUse, Cond.code yX4_noteUse cX4_noteUse 2 none, Cond.methodLink RX4 173 yX4_joinAny, Cond.instanceMethod yX4_joinAny, Cond.selects RX4 yX4_joinAny yX4_joinAny, Cond.code yX4_joinAny cX4_joinAny 2 none, Cond.methodLink RX4 179 yX4_closeDepth, Cond.instanceMethod yX4_closeDepth, Cond.selects RX4 yX4_closeDepth yX4_closeDepth, Cond.code yX4_closeDepth cX4_closeDepth 2 none, Cond.methodLink RX4 72 yX4_readRule, Cond.instanceMethod yX4_readRule, Cond.selects RX4 yX4_readRule yX4_readRule, Cond.code yX4_readRule cX4_readRule 1 none, Cond.fieldLink RX4 129 "PowerRails$Plan" "limit" "I"]
def wsL_law_r18 : List Cond := [Cond.fieldLink RX4 133 "PowerRails$Plan" "retry" "I", Cond.fieldLink RX4 135 "PowerRails$Plan" "behind" "I", Cond.methodLink RX4 75 yX4_takeSign, Cond.instanceMethod yX4_takeSign, Cond.selects RX4 yX4_takeSign yX4_takeSign, Cond.code yX4_takeSign cX4_takeSign 2 none, Cond.methodLink RX4 79 yX4_findNotTold, Cond.instanceMethod yX4_findNotTold, Cond.selects RX4 yX4_findNotTold yX4_findNotTold, Cond.code yX4_findNotTold cX4_findNotTold 3 none, Cond.methodLink RX4 211 Lib.Math.min.name, Cond.static Lib.Math.min.name, Cond.initialized "java/lang/Math", Cond.code Lib.Math.min.name Lib.Math.min.code 2 (some .int), Cond.methodLink RX10 93 yX5_reset, Cond.instanceMethod yX5_reset, Cond.selects RX5 yX5_reset yX5_reset, Cond.code yX5_reset cX5_reset 3 none, Cond.fieldLink RX5 42 "PowerRails$History" "size" "I", Cond.fieldLink RX5 51 "PowerRails$Run" "tick" "I", Cond.fieldLink RX5 54 "PowerRails$Run" "held" "I", Cond.fieldLink RX5 57 "PowerRails$Plan" "retry" "I", Cond.fieldLink RX5 60 "PowerRails$Run" "tries" "I", Cond.fieldLink RX5 63 "PowerRails$Run" "trips" "I"]
def wsL_law_r19 : List Cond := [Cond.fieldLink RX5 66 "PowerRails$Run" "latestDraw" "I", Cond.fieldLink RX5 69 "PowerRails$Run" "greatestDraw" "I", Cond.methodLink RX5 47 yX3_number, Cond.methodLink RX10 97 yX10_forgetReckoned, Cond.instanceMethod yX10_forgetReckoned, Cond.selects RX10 yX10_forgetReckoned yX10_forgetReckoned, Cond.code yX10_forgetReckoned cX10_forgetReckoned 1 none, Cond.fieldLink RX10 324 "PowerRails$Stagger" "known" "Z", Cond.methodLink RX10 321 yX9_forget, Cond.instanceMethod yX9_forget, Cond.selects RX9 yX9_forget yX9_forget, Cond.code yX9_forget cX9_forget 2 none, Cond.methodLink RL 29 yX11_text, Cond.instanceMethod yX11_text, Cond.selects RX11 yX11_text yX11_text, Cond.code yX11_text cX11_text 3 (some .int), Cond.fieldLink RX11 145 "PowerRailsModel" "fault" "I", Cond.fieldLink RX11 154 "PowerRailsModel" "pos" "I", Cond.fieldLink RX11 167 "PowerRailsModel" "sort" "I", Cond.fieldLink RX11 151 "PowerRailsModel" "wrongAt" "I", Cond.methodLink RX11 185 yX11_next, Cond.instanceMethod yX11_next, Cond.selects RX11 yX11_next yX11_next, Cond.code yX11_next cX11_next 2 none]
def wsL_law_r20 : List Cond := [Cond.fieldLink RX11 148 "PowerRailsModel" "from" "I", Cond.constantLong RX11 170 (97), Cond.constantLong RX11 172 (122), Cond.constantLong RX11 174 (48), Cond.constantLong RX11 176 (57), Cond.fieldLink RX11 178 "PowerRailsModel" "value" "I", Cond.methodLink RX11 157 yX11_look, Cond.instanceMethod yX11_look, Cond.selects RX11 yX11_look yX11_look, Cond.code yX11_look cX11_look 2 (some .int), Cond.methodLink RX11 181 yX11_wants, Cond.instanceMethod yX11_wants, Cond.selects RX11 yX11_wants yX11_wants, Cond.code yX11_wants cX11_wants 3 none, Cond.methodLink RX11 245 yX11_readLine, Cond.instanceMethod yX11_readLine, Cond.selects RX11 yX11_readLine yX11_readLine, Cond.code yX11_readLine cX11_readLine 2 none, Cond.constantLong RX11 238 (20), Cond.constantLong RX11 240 (22), Cond.methodLink RX11 188 yX11_nameNow, Cond.instanceMethod yX11_nameNow, Cond.selects RX11 yX11_nameNow yX11_nameNow, Cond.code yX11_nameNow cX11_nameNow 2 (some .int)]
def wsL_law_r21 : List Cond := [Cond.constantLong RX11 161 (7), Cond.methodLink RX11 163 yX11_is, Cond.instanceMethod yX11_is, Cond.selects RX11 yX11_is yX11_is, Cond.code yX11_is cX11_is 6 (some .boolean), Cond.methodLink RX11 242 yX11_readRail, Cond.instanceMethod yX11_readRail, Cond.selects RX11 yX11_readRail yX11_readRail, Cond.code yX11_readRail cX11_readRail 5 none, Cond.constantLong RX11 222 (23), Cond.constantLong RX11 224 (26), Cond.methodLink RX11 218 yX11_readNumber, Cond.instanceMethod yX11_readNumber, Cond.selects RX11 yX11_readNumber yX11_readNumber, Cond.code yX11_readNumber cX11_readNumber 4 (some .int), Cond.methodLink RX11 226 yX11_readWith, Cond.instanceMethod yX11_readWith, Cond.selects RX11 yX11_readWith yX11_readWith, Cond.code yX11_readWith cX11_readWith 3 none, Cond.methodLink RX11 229 yX11_readWhen, Cond.instanceMethod yX11_readWhen, Cond.selects RX11 yX11_readWhen yX11_readWhen, Cond.code yX11_readWhen cX11_readWhen 1 none, Cond.fieldLink RX11 192 "PowerRailsModel" "coded" "I"]
def wsL_law_r22 : List Cond := [Cond.methodLink RX11 232 yX11_readFormula, Cond.instanceMethod yX11_readFormula, Cond.selects RX11 yX11_readFormula yX11_readFormula, Cond.code yX11_readFormula cX11_readFormula 2 none, Cond.fieldLink RX11 195 "PowerRailsModel" "waiting" "I", Cond.fieldLink RX11 198 "PowerRailsModel" "deep" "I", Cond.methodLink RX11 211 yX11_readUnit, Cond.instanceMethod yX11_readUnit, Cond.selects RX11 yX11_readUnit yX11_readUnit, Cond.code yX11_readUnit cX11_readUnit 1 none, Cond.methodLink RX11 201 yX11_holdsBack, Cond.instanceMethod yX11_holdsBack, Cond.selects RX11 yX11_holdsBack yX11_holdsBack, Cond.code yX11_holdsBack cX11_holdsBack 2 none, Cond.methodLink RX11 205 yX11_readLetter, Cond.instanceMethod yX11_readLetter, Cond.selects RX11 yX11_readLetter yX11_readLetter, Cond.code yX11_readLetter cX11_readLetter 2 none, Cond.methodLink RX11 208 yX11_done, Cond.instanceMethod yX11_done, Cond.selects RX11 yX11_done yX11_done, Cond.code yX11_done cX11_done 2 none, Cond.methodLink RX11 235 yX11_keepFormula, Cond.instanceMethod yX11_keepFormula]
def wsL_law_r23 : List Cond := [Cond.selects RX11 yX11_keepFormula yX11_keepFormula, Cond.code yX11_keepFormula cX11_keepFormula 2 none, Cond.methodLink RX11 214 yX11_worth, Cond.instanceMethod yX11_worth, Cond.selects RX11 yX11_worth yX11_worth, Cond.code yX11_worth cX11_worth 4 (some .boolean), Cond.methodLink RL 30 yX10_fault, Cond.instanceMethod yX10_fault, Cond.selects RX10 yX10_fault yX10_fault, Cond.code yX10_fault cX10_fault 1 (some .int), Cond.methodLink RL 33 yX11_fault, Cond.instanceMethod yX11_fault, Cond.selects RX11 yX11_fault yX11_fault, Cond.code yX11_fault cX11_fault 1 (some .int), Cond.methodLink RL 34 yX10_rail, Cond.instanceMethod yX10_rail, Cond.selects RX10 yX10_rail yX10_rail, Cond.code yX10_rail cX10_rail 3 (some .int), Cond.methodLink RX10 100 yX3_hasRail, Cond.instanceMethod yX3_hasRail, Cond.selects RX3 yX3_hasRail yX3_hasRail, Cond.code yX3_hasRail cX3_hasRail 2 (some .boolean), Cond.methodLink RX10 104 yX3_number, Cond.methodLink RL 38 yX11_rail]
def wsL_law_r24 : List Cond := [Cond.instanceMethod yX11_rail, Cond.selects RX11 yX11_rail yX11_rail, Cond.code yX11_rail cX11_rail 3 (some .int), Cond.methodLink RX11 248 yX11_isRail, Cond.instanceMethod yX11_isRail, Cond.selects RX11 yX11_isRail yX11_isRail, Cond.code yX11_isRail cX11_isRail 2 (some .boolean), Cond.methodLink RL 39 yX10_rule, Cond.instanceMethod yX10_rule, Cond.selects RX10 yX10_rule yX10_rule, Cond.code yX10_rule cX10_rule 2 (some .int), Cond.fieldLink RX10 108 "PowerRails$Plan" "limit" "I", Cond.fieldLink RX10 111 "PowerRails$Plan" "retry" "I", Cond.fieldLink RX10 114 "PowerRails$Plan" "behind" "I", Cond.fieldLink RX10 117 "PowerRails$Plan" "rails" "I", Cond.methodLink RL 42 yX11_rule, Cond.instanceMethod yX11_rule, Cond.selects RX11 yX11_rule yX11_rule, Cond.code yX11_rule cX11_rule 2 (some .int), Cond.methodLink RL 43 yX10_holds, Cond.instanceMethod yX10_holds, Cond.selects RX10 yX10_holds yX10_holds, Cond.code yX10_holds cX10_holds 3 (some .int), Cond.methodLink RX10 120 yX3_allRails]
def wsL_law_r25 : List Cond := [Cond.instanceMethod yX3_allRails, Cond.selects RX3 yX3_allRails yX3_allRails, Cond.code yX3_allRails cX3_allRails 1 (some .int), Cond.methodLink RX10 124 yX3_holdsWith, Cond.instanceMethod yX3_holdsWith, Cond.selects RX3 yX3_holdsWith yX3_holdsWith, Cond.code yX3_holdsWith cX3_holdsWith 3 (some .boolean), Cond.methodLink RX10 128 yX10_asNumber, Cond.static yX10_asNumber, Cond.code yX10_asNumber cX10_asNumber 1 (some .int), Cond.methodLink RL 46 yX11_holds, Cond.instanceMethod yX11_holds, Cond.selects RX11 yX11_holds yX11_holds, Cond.code yX11_holds cX11_holds 3 (some .int), Cond.constantLong RX11 254 (511), Cond.methodLink RX11 256 yX11_isSo, Cond.instanceMethod yX11_isSo, Cond.selects RX11 yX11_isSo yX11_isSo, Cond.code yX11_isSo cX11_isSo 3 (some .boolean), Cond.methodLink RX11 260 yX11_flag, Cond.static yX11_flag, Cond.code yX11_flag cX11_flag 1 (some .int), Cond.methodLink RL 47 yX10_words, Cond.instanceMethod yX10_words]
def wsL_law_r26 : List Cond := [Cond.selects RX10 yX10_words yX10_words, Cond.code yX10_words cX10_words 3 (some .int), Cond.methodLink RX10 132 yX3_countLeastSets, Cond.instanceMethod yX3_countLeastSets, Cond.selects RX3 yX3_countLeastSets yX3_countLeastSets, Cond.code yX3_countLeastSets cX3_countLeastSets 4 (some .int), Cond.methodLink RX3 42 yX3_isLeastSet, Cond.instanceMethod yX3_isLeastSet, Cond.selects RX3 yX3_isLeastSet yX3_isLeastSet, Cond.code yX3_isLeastSet cX3_isLeastSet 4 (some .boolean), Cond.methodLink RX3 38 yX3_holdsWith, Cond.methodLink RX10 136 yX3_leastSet, Cond.instanceMethod yX3_leastSet, Cond.selects RX3 yX3_leastSet yX3_leastSet, Cond.code yX3_leastSet cX3_leastSet 5 (some .int), Cond.methodLink RL 50 yX11_words, Cond.instanceMethod yX11_words, Cond.selects RX11 yX11_words yX11_words, Cond.code yX11_words cX11_words 5 (some .int), Cond.methodLink RX11 264 yX11_isLeast, Cond.instanceMethod yX11_isLeast, Cond.selects RX11 yX11_isLeast yX11_isLeast, Cond.code yX11_isLeast cX11_isLeast 5 (some .boolean), Cond.methodLink RL 51 yX10_key]
def wsL_law_r27 : List Cond := [Cond.instanceMethod yX10_key, Cond.selects RX10 yX10_key yX10_key, Cond.code yX10_key cX10_key 3 (some .int), Cond.fieldLink RX10 139 "PowerRails$Run" "key" "Z", Cond.methodLink RX10 143 yX5_turnKey, Cond.instanceMethod yX5_turnKey, Cond.selects RX5 yX5_turnKey yX5_turnKey, Cond.code yX5_turnKey cX5_turnKey 3 none, Cond.methodLink RL 55 yX11_key, Cond.instanceMethod yX11_key, Cond.selects RX11 yX11_key yX11_key, Cond.code yX11_key cX11_key 3 (some .int), Cond.methodLink RL 56 yX10_dead, Cond.instanceMethod yX10_dead, Cond.selects RX10 yX10_dead yX10_dead, Cond.code yX10_dead cX10_dead 5 (some .int), Cond.fieldLink RX10 147 "PowerRails$Run" "dead" "I", Cond.methodLink RL 60 yX11_dead, Cond.instanceMethod yX11_dead, Cond.selects RX11 yX11_dead yX11_dead, Cond.code yX11_dead cX11_dead 4 (some .int), Cond.methodLink RL 61 yX10_time, Cond.instanceMethod yX10_time, Cond.selects RX10 yX10_time yX10_time]
def wsL_law_r28 : List Cond := [Cond.code yX10_time cX10_time 4 (some .int), Cond.fieldLink RX10 150 "PowerRails$Run" "takes" "[I", Cond.methodLink RL 64 yX11_time, Cond.instanceMethod yX11_time, Cond.selects RX11 yX11_time yX11_time, Cond.code yX11_time cX11_time 4 (some .int), Cond.methodLink RL 65 yX10_go, Cond.instanceMethod yX10_go, Cond.selects RX10 yX10_go yX10_go, Cond.code yX10_go cX10_go 4 (some .int), Cond.fieldLink RX10 154 "PowerRails$Run" "trips" "I", Cond.methodLink RX10 157 yX5_passTick, Cond.instanceMethod yX5_passTick, Cond.selects RX5 yX5_passTick yX5_passTick, Cond.code yX5_passTick cX5_passTick 3 none, Cond.methodLink RX5 80 Lib.Math.max.name, Cond.static Lib.Math.max.name, Cond.code Lib.Math.max.name Lib.Math.max.code 2 (some .int), Cond.methodLink RX5 72 yX5_settle, Cond.instanceMethod yX5_settle, Cond.selects RX5 yX5_settle yX5_settle, Cond.code yX5_settle cX5_settle 4 none, Cond.methodLink RX5 95 yX5_railsThatMay, Cond.instanceMethod yX5_railsThatMay]
def wsL_law_r29 : List Cond := [Cond.selects RX5 yX5_railsThatMay yX5_railsThatMay, Cond.code yX5_railsThatMay cX5_railsThatMay 5 (some .int), Cond.fieldLink RX5 106 "PowerRails$Plan" "rails" "I", Cond.methodLink RX5 102 yX5_railsThatAre, Cond.instanceMethod yX5_railsThatAre, Cond.selects RX5 yX5_railsThatAre yX5_railsThatAre, Cond.code yX5_railsThatAre cX5_railsThatAre 4 (some .int), Cond.methodLink RX5 109 yX3_holdsWith, Cond.methodLink RX5 98 yX5_changeRails, Cond.instanceMethod yX5_changeRails, Cond.selects RX5 yX5_changeRails yX5_changeRails, Cond.code yX5_changeRails cX5_changeRails 6 (some .boolean), Cond.methodLink RX5 113 yX5_nextState, Cond.instanceMethod yX5_nextState, Cond.selects RX5 yX5_nextState yX5_nextState, Cond.code yX5_nextState cX5_nextState 5 (some .int), Cond.methodLink RX5 117 yX5_become, Cond.instanceMethod yX5_become, Cond.selects RX5 yX5_become yX5_become, Cond.code yX5_become cX5_become 3 none, Cond.methodLink RX5 121 yX2_note, Cond.instanceMethod yX2_note, Cond.selects RX2 yX2_note yX2_note, Cond.code yX2_note cX2_note 4 none]
def wsL_law_r30 : List Cond := [Cond.methodLink RX5 76 yX5_sumDraw, Cond.instanceMethod yX5_sumDraw, Cond.selects RX5 yX5_sumDraw yX5_sumDraw, Cond.code yX5_sumDraw cX5_sumDraw 4 (some .int), Cond.methodLink RX5 85 yX5_whyTrip, Cond.instanceMethod yX5_whyTrip, Cond.selects RX5 yX5_whyTrip yX5_whyTrip, Cond.code yX5_whyTrip cX5_whyTrip 5 (some .int), Cond.fieldLink RX5 125 "PowerRails$Plan" "limit" "I", Cond.methodLink RX5 88 yX5_trip, Cond.instanceMethod yX5_trip, Cond.selects RX5 yX5_trip yX5_trip, Cond.code yX5_trip cX5_trip 3 none, Cond.fieldLink RX5 128 "PowerRails$Plan" "behind" "I", Cond.methodLink RX5 92 yX5_growOlder, Cond.instanceMethod yX5_growOlder, Cond.selects RX5 yX5_growOlder yX5_growOlder, Cond.code yX5_growOlder cX5_growOlder 3 none, Cond.methodLink RL 68 yX11_go, Cond.instanceMethod yX11_go, Cond.selects RX11 yX11_go yX11_go, Cond.code yX11_go cX11_go 4 (some .int), Cond.constantLong RX11 315 (999), Cond.methodLink RX11 317 yX11_aTick]
def wsL_law_r31 : List Cond := [Cond.instanceMethod yX11_aTick, Cond.selects RX11 yX11_aTick yX11_aTick, Cond.code yX11_aTick cX11_aTick 3 none, Cond.methodLink RX11 306 yX11_settles, Cond.instanceMethod yX11_settles, Cond.selects RX11 yX11_settles yX11_settles, Cond.code yX11_settles cX11_settles 2 none, Cond.methodLink RX11 302 yX11_round, Cond.instanceMethod yX11_round, Cond.selects RX11 yX11_round yX11_round, Cond.code yX11_round cX11_round 5 (some .boolean), Cond.methodLink RX11 291 yX11_allIn, Cond.instanceMethod yX11_allIn, Cond.selects RX11 yX11_allIn yX11_allIn, Cond.code yX11_allIn cX11_allIn 4 (some .int), Cond.methodLink RX11 294 yX11_becomes, Cond.instanceMethod yX11_becomes, Cond.selects RX11 yX11_becomes yX11_becomes, Cond.code yX11_becomes cX11_becomes 3 (some .int), Cond.methodLink RX11 298 yX11_happens, Cond.instanceMethod yX11_happens, Cond.selects RX11 yX11_happens yX11_happens, Cond.code yX11_happens cX11_happens 3 none, Cond.methodLink RX11 309 yX11_drawnOf]
def wsL_law_r32 : List Cond := [Cond.instanceMethod yX11_drawnOf, Cond.selects RX11 yX11_drawnOf yX11_drawnOf, Cond.code yX11_drawnOf cX11_drawnOf 5 (some .int), Cond.methodLink RX11 312 yX11_tripNow, Cond.instanceMethod yX11_tripNow, Cond.selects RX11 yX11_tripNow yX11_tripNow, Cond.code yX11_tripNow cX11_tripNow 3 (some .int), Cond.methodLink RL 69 yX10_now, Cond.instanceMethod yX10_now, Cond.selects RX10 yX10_now yX10_now, Cond.code yX10_now cX10_now 2 (some .int), Cond.fieldLink RX10 160 "PowerRails$Run" "tick" "I", Cond.fieldLink RX10 166 "PowerRails$Run" "latestDraw" "I", Cond.fieldLink RX10 169 "PowerRails$Run" "held" "I", Cond.fieldLink RX10 172 "PowerRails$Run" "tries" "I", Cond.fieldLink RX10 175 "PowerRails$Run" "greatestDraw" "I", Cond.methodLink RX10 163 yX5_railsThatAre, Cond.methodLink RL 72 yX11_now, Cond.instanceMethod yX11_now, Cond.selects RX11 yX11_now yX11_now, Cond.code yX11_now cX11_now 2 (some .int), Cond.methodLink RL 73 yX10_is, Cond.instanceMethod yX10_is, Cond.selects RX10 yX10_is yX10_is]
def wsL_law_r33 : List Cond := [Cond.code yX10_is cX10_is 3 (some .int), Cond.fieldLink RX10 178 "PowerRails$Run" "states" "[I", Cond.fieldLink RX10 181 "PowerRails$Run" "since" "[I", Cond.fieldLink RX10 184 "PowerRails$Run" "timesGood" "[I", Cond.methodLink RL 76 yX11_is_, Cond.instanceMethod yX11_is_, Cond.selects RX11 yX11_is_ yX11_is_, Cond.code yX11_is_ cX11_is_ 3 (some .int), Cond.constantLong RX11 320 (4), Cond.methodLink RL 77 yX10_happened, Cond.instanceMethod yX10_happened, Cond.selects RX10 yX10_happened yX10_happened, Cond.code yX10_happened cX10_happened 3 (some .int), Cond.fieldLink RX10 187 "PowerRails$Run" "history" "LPowerRails$History;", Cond.fieldLink RX10 191 "PowerRails$History" "size" "I", Cond.fieldLink RX10 196 "PowerRails$History" "ticks" "[I", Cond.fieldLink RX10 199 "PowerRails$History" "who" "[I", Cond.fieldLink RX10 202 "PowerRails$History" "became" "[I", Cond.methodLink RL 80 yX11_happened, Cond.instanceMethod yX11_happened, Cond.selects RX11 yX11_happened yX11_happened, Cond.code yX11_happened cX11_happened 3 (some .int), Cond.constantLong RX11 322 (2), Cond.methodLink RL 81 yX10_up]
def wsL_law_r34 : List Cond := [Cond.instanceMethod yX10_up, Cond.selects RX10 yX10_up yX10_up, Cond.code yX10_up cX10_up 4 (some .int), Cond.methodLink RX10 205 yX3_upAmong, Cond.instanceMethod yX3_upAmong, Cond.selects RX3 yX3_upAmong yX3_upAmong, Cond.code yX3_upAmong cX3_upAmong 6 (some .int), Cond.methodLink RL 84 yX11_up, Cond.instanceMethod yX11_up, Cond.selects RX11 yX11_up yX11_up, Cond.code yX11_up cX11_up 4 (some .int), Cond.methodLink RX11 324 yX11_deadOnes, Cond.instanceMethod yX11_deadOnes, Cond.selects RX11 yX11_deadOnes yX11_deadOnes, Cond.code yX11_deadOnes cX11_deadOnes 3 (some .int), Cond.methodLink RX11 327 yX11_upBut, Cond.instanceMethod yX11_upBut, Cond.selects RX11 yX11_upBut yX11_upBut, Cond.code yX11_upBut cX11_upBut 6 (some .int), Cond.methodLink RL 85 yX10_when, Cond.instanceMethod yX10_when, Cond.selects RX10 yX10_when yX10_when, Cond.code yX10_when cX10_when 3 (some .int), Cond.fieldLink RX10 227 "PowerRails$Course" "goodAt" "[I"]
def wsL_law_r35 : List Cond := [Cond.methodLink RX10 208 yX10_followTimes, Cond.instanceMethod yX10_followTimes, Cond.selects RX10 yX10_followTimes yX10_followTimes, Cond.code yX10_followTimes cX10_followTimes 1 none, Cond.methodLink RX10 211 yX0_setWaits, Cond.instanceMethod yX0_setWaits, Cond.selects RX0 yX0_setWaits yX0_setWaits, Cond.code yX0_setWaits cX0_setWaits 3 none, Cond.fieldLink RX0 27 "PowerRails$Plan" "rails" "I", Cond.methodLink RX0 33 yX3_number, Cond.methodLink RX10 318 yX0_copyTakes, Cond.instanceMethod yX0_copyTakes, Cond.selects RX0 yX0_copyTakes yX0_copyTakes, Cond.code yX0_copyTakes cX0_copyTakes 2 none, Cond.methodLink RX0 37 arraycopyName, Cond.methodLink RX10 218 yX10_alive, Cond.instanceMethod yX10_alive, Cond.selects RX10 yX10_alive yX10_alive, Cond.code yX10_alive cX10_alive 1 (some .int), Cond.methodLink RX10 221 yX0_follow, Cond.instanceMethod yX0_follow, Cond.selects RX0 yX0_follow yX0_follow, Cond.code yX0_follow cX0_follow 7 none, Cond.fieldLink RX0 43 "PowerRails$Course" "up" "I"]
def wsL_law_r36 : List Cond := [Cond.fieldLink RX0 46 "PowerRails$Course" "last" "I", Cond.methodLink RX0 49 yX0_begin, Cond.instanceMethod yX0_begin, Cond.selects RX0 yX0_begin yX0_begin, Cond.code yX0_begin cX0_begin 5 (some .int), Cond.methodLink RX0 57 yX3_holdsWith, Cond.methodLink RX0 53 yX0_soonest, Cond.instanceMethod yX0_soonest, Cond.selects RX0 yX0_soonest yX0_soonest, Cond.code yX0_soonest cX0_soonest 4 (some .int), Cond.methodLink RX0 61 Lib.Math.min.name, Cond.methodLink RX10 214 yX0_setTakes, Cond.instanceMethod yX0_setTakes, Cond.selects RX0 yX0_setTakes yX0_setTakes, Cond.code yX0_setTakes cX0_setTakes 4 none, Cond.methodLink RX10 224 yX0_isUp, Cond.instanceMethod yX0_isUp, Cond.selects RX0 yX0_isUp yX0_isUp, Cond.code yX0_isUp cX0_isUp 2 (some .boolean), Cond.methodLink RL 88 yX11_when, Cond.instanceMethod yX11_when, Cond.selects RX11 yX11_when yX11_when, Cond.code yX11_when cX11_when 3 (some .int), Cond.fieldLink RX11 330 "PowerRailsModel" "upNow" "I"]
def wsL_law_r37 : List Cond := [Cond.methodLink RX11 334 yX11_setWaits, Cond.instanceMethod yX11_setWaits, Cond.selects RX11 yX11_setWaits yX11_setWaits, Cond.code yX11_setWaits cX11_setWaits 2 none, Cond.methodLink RX11 337 yX11_setTimes, Cond.instanceMethod yX11_setTimes, Cond.selects RX11 yX11_setTimes yX11_setTimes, Cond.code yX11_setTimes cX11_setTimes 3 none, Cond.methodLink RX11 340 yX11_findTimes, Cond.instanceMethod yX11_findTimes, Cond.selects RX11 yX11_findTimes yX11_findTimes, Cond.code yX11_findTimes cX11_findTimes 4 none, Cond.constant RX11 333 (100000), Cond.methodLink RL 89 yX10_ahead, Cond.instanceMethod yX10_ahead, Cond.selects RX10 yX10_ahead yX10_ahead, Cond.code yX10_ahead cX10_ahead 6 (some .int), Cond.methodLink RX10 230 yX3_countWays, Cond.instanceMethod yX3_countWays, Cond.selects RX3 yX3_countWays yX3_countWays, Cond.code yX3_countWays cX3_countWays 3 (some .int), Cond.methodLink RX3 45 yX3_number, Cond.methodLink RX10 233 yX9_mostBehind, Cond.instanceMethod yX9_mostBehind]
def wsL_law_r38 : List Cond := [Cond.selects RX9 yX9_mostBehind yX9_mostBehind, Cond.code yX9_mostBehind cX9_mostBehind 10 (some .int), Cond.fieldLink RX9 46 "PowerRails$Course" "goodAt" "[I", Cond.methodLink RX9 49 Lib.Math.max.name, Cond.methodLink RX9 27 yX3_sourcesOf, Cond.instanceMethod yX3_sourcesOf, Cond.selects RX3 yX3_sourcesOf yX3_sourcesOf, Cond.code yX3_sourcesOf cX3_sourcesOf 5 (some .int), Cond.methodLink RX3 49 yX3_allRails, Cond.methodLink RX9 33 yX3_upAmong, Cond.methodLink RX9 36 yX9_start, Cond.instanceMethod yX9_start, Cond.selects RX9 yX9_start yX9_start, Cond.code yX9_start cX9_start 2 none, Cond.methodLink RX9 75 yX0_setWaits, Cond.methodLink RX9 78 yX0_setTakes, Cond.methodLink RX9 42 yX0_follow, Cond.methodLink RX9 55 yX9_nextWay, Cond.instanceMethod yX9_nextWay, Cond.selects RX9 yX9_nextWay yX9_nextWay, Cond.code yX9_nextWay cX9_nextWay 4 (some .boolean), Cond.fieldLink RX9 81 "PowerRails$Plan" "rails" "I", Cond.fieldLink RX9 84 "PowerRails$Course" "takes" "[I", Cond.methodLink RX9 87 yX3_number]
def wsL_law_r39 : List Cond := [Cond.methodLink RL 93 yX11_ahead, Cond.instanceMethod yX11_ahead, Cond.selects RX11 yX11_ahead yX11_ahead, Cond.code yX11_ahead cX11_ahead 7 (some .int), Cond.constant RX11 346 (-100000), Cond.methodLink RX11 343 yX11_ways, Cond.instanceMethod yX11_ways, Cond.selects RX11 yX11_ways yX11_ways, Cond.code yX11_ways cX11_ways 3 (some .int), Cond.methodLink RX11 347 yX11_goesOn, Cond.instanceMethod yX11_goesOn, Cond.selects RX11 yX11_goesOn yX11_goesOn, Cond.code yX11_goesOn cX11_goesOn 2 (some .boolean), Cond.methodLink RL 94 yX10_drawn, Cond.instanceMethod yX10_drawn, Cond.selects RX10 yX10_drawn yX10_drawn, Cond.code yX10_drawn cX10_drawn 2 (some .int), Cond.methodLink RX10 237 yX0_drawnAt, Cond.instanceMethod yX0_drawnAt, Cond.selects RX0 yX0_drawnAt yX0_drawnAt, Cond.code yX0_drawnAt cX0_drawnAt 5 (some .int), Cond.methodLink RX0 66 yX0_isUp, Cond.methodLink RL 97 yX11_drawn, Cond.instanceMethod yX11_drawn]
def wsL_law_r40 : List Cond := [Cond.selects RX11 yX11_drawn yX11_drawn, Cond.code yX11_drawn cX11_drawn 2 (some .int), Cond.methodLink RX11 350 yX11_drawnAt, Cond.instanceMethod yX11_drawnAt, Cond.selects RX11 yX11_drawnAt yX11_drawnAt, Cond.code yX11_drawnAt cX11_drawnAt 5 (some .int), Cond.methodLink RL 98 yX10_peak, Cond.instanceMethod yX10_peak, Cond.selects RX10 yX10_peak yX10_peak, Cond.code yX10_peak cX10_peak 2 (some .int), Cond.fieldLink RX10 244 "PowerRails$Ways" "greatestPeak" "I", Cond.fieldLink RX10 247 "PowerRails$Ways" "leastPeak" "I", Cond.fieldLink RX10 253 "PowerRails$Course" "peak" "I", Cond.fieldLink RX10 256 "PowerRails$Course" "peakTick" "I", Cond.methodLink RX10 241 yX9_findPeaks, Cond.instanceMethod yX9_findPeaks, Cond.selects RX9 yX9_findPeaks yX9_findPeaks, Cond.code yX9_findPeaks cX9_findPeaks 6 none, Cond.fieldLink RX9 62 "PowerRails$Course" "peak" "I", Cond.fieldLink RX9 66 "PowerRails$Ways" "greatestPeak" "I", Cond.fieldLink RX9 69 "PowerRails$Ways" "leastPeak" "I", Cond.methodLink RX9 72 Lib.Math.min.name, Cond.methodLink RX9 59 yX0_findPeak, Cond.instanceMethod yX0_findPeak]
def wsL_law_r41 : List Cond := [Cond.selects RX0 yX0_findPeak yX0_findPeak, Cond.code yX0_findPeak cX0_findPeak 4 none, Cond.fieldLink RX0 70 "PowerRails$Course" "peak" "I", Cond.fieldLink RX0 73 "PowerRails$Course" "peakTick" "I", Cond.methodLink RX10 250 yX0_findPeak, Cond.methodLink RL 101 yX11_peak, Cond.instanceMethod yX11_peak, Cond.selects RX11 yX11_peak yX11_peak, Cond.code yX11_peak cX11_peak 5 (some .int), Cond.constantLong RX11 356 (3), Cond.fieldLink RX11 353 "PowerRailsModel" "peakAt" "I", Cond.methodLink RX11 358 yX11_peakNow, Cond.instanceMethod yX11_peakNow, Cond.selects RX11 yX11_peakNow yX11_peakNow, Cond.code yX11_peakNow cX11_peakNow 4 (some .int), Cond.methodLink RL 102 yX10_stagger, Cond.instanceMethod yX10_stagger, Cond.selects RX10 yX10_stagger yX10_stagger, Cond.code yX10_stagger cX10_stagger 2 (some .int), Cond.fieldLink RX10 263 "PowerRails$Stagger" "last" "I", Cond.fieldLink RX10 266 "PowerRails$Stagger" "row" "[I", Cond.methodLink RX10 259 yX7_findRow, Cond.instanceMethod yX7_findRow, Cond.selects RX7 yX7_findRow yX7_findRow]
def wsL_law_r42 : List Cond := [Cond.code yX7_findRow cX7_findRow 8 none, Cond.fieldLink RX7 33 "PowerRails$Course" "waits" "[I", Cond.fieldLink RX7 46 "PowerRails$Course" "up" "I", Cond.fieldLink RX7 49 "PowerRails$Course" "last" "I", Cond.methodLink RX7 27 yJ7_fill_53178, Cond.methodLink RX7 38 yX0_copyTakes, Cond.methodLink RX7 42 yX0_follow, Cond.methodLink RX7 50 yX7_keepIfBelowLimit, Cond.instanceMethod yX7_keepIfBelowLimit, Cond.selects RX7 yX7_keepIfBelowLimit yX7_keepIfBelowLimit, Cond.code yX7_keepIfBelowLimit cX7_keepIfBelowLimit 2 none, Cond.fieldLink RX7 61 "PowerRails$Course" "peak" "I", Cond.fieldLink RX7 64 "PowerRails$Plan" "limit" "I", Cond.methodLink RX7 69 arraycopyName, Cond.methodLink RX7 58 yX0_findPeak, Cond.methodLink RX7 54 yX7_nextRow, Cond.instanceMethod yX7_nextRow, Cond.selects RX7 yX7_nextRow yX7_nextRow, Cond.code yX7_nextRow cX7_nextRow 3 (some .boolean), Cond.methodLink RL 105 yX11_stagger, Cond.instanceMethod yX11_stagger, Cond.selects RX11 yX11_stagger yX11_stagger, Cond.code yX11_stagger cX11_stagger 2 (some .int), Cond.constantLong RX11 367 (10)]
def wsL_law_r43 : List Cond := [Cond.fieldLink RX11 361 "PowerRailsModel" "soonest" "I", Cond.methodLink RX11 369 yX11_findStagger, Cond.instanceMethod yX11_findStagger, Cond.selects RX11 yX11_findStagger yX11_findStagger, Cond.code yX11_findStagger cX11_findStagger 4 none, Cond.methodLink RX11 364 yX11_lastGood, Cond.instanceMethod yX11_lastGood, Cond.selects RX11 yX11_lastGood yX11_lastGood, Cond.code yX11_lastGood cX11_lastGood 3 (some .int), Cond.methodLink RL 106 yX10_adopt, Cond.instanceMethod yX10_adopt, Cond.selects RX10 yX10_adopt yX10_adopt, Cond.code yX10_adopt cX10_adopt 2 (some .int), Cond.methodLink RX10 269 yX3_setWaits, Cond.instanceMethod yX3_setWaits, Cond.selects RX3 yX3_setWaits yX3_setWaits, Cond.code yX3_setWaits cX3_setWaits 3 none, Cond.methodLink RL 109 yX11_adopt, Cond.instanceMethod yX11_adopt, Cond.selects RX11 yX11_adopt yX11_adopt, Cond.code yX11_adopt cX11_adopt 2 (some .int), Cond.methodLink RL 110 yX10_down, Cond.instanceMethod yX10_down, Cond.selects RX10 yX10_down yX10_down]
def wsL_law_r44 : List Cond := [Cond.code yX10_down cX10_down 2 (some .int), Cond.methodLink RL 113 yX11_down, Cond.instanceMethod yX11_down, Cond.selects RX11 yX11_down yX11_down, Cond.code yX11_down cX11_down 2 (some .int), Cond.methodLink RX11 372 yX11_areRails, Cond.instanceMethod yX11_areRails, Cond.selects RX11 yX11_areRails yX11_areRails, Cond.code yX11_areRails cX11_areRails 2 (some .boolean), Cond.methodLink RL 114 yX10_cut, Cond.instanceMethod yX10_cut, Cond.selects RX10 yX10_cut yX10_cut, Cond.code yX10_cut cX10_cut 4 (some .int), Cond.methodLink RX10 272 yX10_canBeUp, Cond.instanceMethod yX10_canBeUp, Cond.selects RX10 yX10_canBeUp yX10_canBeUp, Cond.code yX10_canBeUp cX10_canBeUp 2 (some .boolean), Cond.methodLink RX10 275 yX1_fewestThatCut, Cond.static yX1_fewestThatCut, Cond.initialized RX1, Cond.code yX1_fewestThatCut cX1_fewestThatCut 7 (some .int), Cond.methodLink RX1 15 yX3_allRails, Cond.methodLink RX1 19 yJ6_bitCount_0f7a4, Cond.static yJ6_bitCount_0f7a4]
def wsL_law_r45 : List Cond := [Cond.initialized RJ6, Cond.code yJ6_bitCount_0f7a4 cJ6_bitCount_0f7a4 1 (some .int), Cond.constant RJ6 265 (1431655765), Cond.constant RJ6 266 (858993459), Cond.constant RJ6 267 (252645135), Cond.methodLink RX1 24 yX1_isUpAmong, Cond.static yX1_isUpAmong, Cond.code yX1_isUpAmong cX1_isUpAmong 3 (some .boolean), Cond.methodLink RX1 9 yX3_upAmong, Cond.methodLink RX10 281 yJ6_bitCount_0f7a4, Cond.methodLink RL 117 yX11_cut, Cond.instanceMethod yX11_cut, Cond.selects RX11 yX11_cut yX11_cut, Cond.code yX11_cut cX11_cut 6 (some .int), Cond.methodLink RX11 375 yX11_isUp, Cond.instanceMethod yX11_isUp, Cond.selects RX11 yX11_isUp yX11_isUp, Cond.code yX11_isUp cX11_isUp 3 (some .boolean), Cond.methodLink RX11 378 yX11_countOf, Cond.static yX11_countOf, Cond.code yX11_countOf cX11_countOf 3 (some .int), Cond.methodLink RL 118 yX10_need, Cond.instanceMethod yX10_need, Cond.selects RX10 yX10_need yX10_need]
def wsL_law_r46 : List Cond := [Cond.code yX10_need cX10_need 4 (some .int), Cond.methodLink RX10 286 yX1_fewestThatDo, Cond.static yX1_fewestThatDo, Cond.code yX1_fewestThatDo cX1_fewestThatDo 6 (some .int), Cond.methodLink RL 121 yX11_need, Cond.instanceMethod yX11_need, Cond.selects RX11 yX11_need yX11_need, Cond.code yX11_need cX11_need 7 (some .int), Cond.methodLink RL 122 yX10_must, Cond.instanceMethod yX10_must, Cond.selects RX10 yX10_must yX10_must, Cond.code yX10_must cX10_must 2 (some .int), Cond.methodLink RX10 289 yX1_neverWithout, Cond.static yX1_neverWithout, Cond.code yX1_neverWithout cX1_neverWithout 5 (some .int), Cond.fieldLink RX1 30 "PowerRails$Plan" "rails" "I", Cond.methodLink RL 125 yX11_must, Cond.instanceMethod yX11_must, Cond.selects RX11 yX11_must yX11_must, Cond.code yX11_must cX11_must 4 (some .int), Cond.methodLink RL 126 yX10_seen, Cond.instanceMethod yX10_seen, Cond.selects RX10 yX10_seen yX10_seen, Cond.code yX10_seen cX10_seen 2 (some .int)]
def wsL_law_r47 : List Cond := [Cond.methodLink RX10 292 yX1_thatExplain, Cond.static yX1_thatExplain, Cond.code yX1_thatExplain cX1_thatExplain 5 (some .int), Cond.methodLink RL 129 yX11_seen, Cond.instanceMethod yX11_seen, Cond.selects RX11 yX11_seen yX11_seen, Cond.code yX11_seen cX11_seen 4 (some .int), Cond.methodLink RL 130 yX10_sheet, Cond.instanceMethod yX10_sheet, Cond.selects RX10 yX10_sheet yX10_sheet, Cond.code yX10_sheet cX10_sheet 4 (some .int), Cond.methodLink RX10 295 yX6_hasPlace, Cond.static yX6_hasPlace, Cond.code yX6_hasPlace cX6_hasPlace 1 (some .boolean), Cond.methodLink RX10 298 yX6_isLane, Cond.static yX6_isLane, Cond.code yX6_isLane cX6_isLane 1 (some .boolean), Cond.methodLink RX10 301 yX6_renew, Cond.instanceMethod yX6_renew, Cond.selects RX6 yX6_renew yX6_renew, Cond.code yX6_renew cX6_renew 4 none, Cond.methodLink RL 133 yX11_sheet, Cond.instanceMethod yX11_sheet, Cond.selects RX11 yX11_sheet yX11_sheet]
def wsL_law_r48 : List Cond := [Cond.code yX11_sheet cX11_sheet 5 (some .int), Cond.methodLink RX11 381 yX11_isSheet, Cond.static yX11_isSheet, Cond.code yX11_isSheet cX11_isSheet 2 (some .boolean), Cond.methodLink RL 134 yX10_lay, Cond.instanceMethod yX10_lay, Cond.selects RX10 yX10_lay yX10_lay, Cond.code yX10_lay cX10_lay 4 (some .int), Cond.fieldLink RX10 305 "PowerRails$Sheets" "sizes" "[I", Cond.methodLink RX10 308 yX6_put, Cond.instanceMethod yX6_put, Cond.selects RX6 yX6_put yX6_put, Cond.code yX6_put cX6_put 4 none, Cond.methodLink RL 137 yX11_lay, Cond.instanceMethod yX11_lay, Cond.selects RX11 yX11_lay yX11_lay, Cond.code yX11_lay cX11_lay 4 (some .int), Cond.methodLink RL 138 yX10_measured, Cond.instanceMethod yX10_measured, Cond.selects RX10 yX10_measured yX10_measured, Cond.code yX10_measured cX10_measured 6 (some .int), Cond.fieldLink RX10 311 "PowerRails$Sheets" "lanes" "[I", Cond.methodLink RX10 314 yX10_compareSheet, Cond.instanceMethod yX10_compareSheet]
def wsL_law_r49 : List Cond := [Cond.selects RX10 yX10_compareSheet yX10_compareSheet, Cond.code yX10_compareSheet cX10_compareSheet 12 (some .int), Cond.fieldLink RX10 327 "PowerRails$Sheets" "cells" "[[I", Cond.methodLink RX10 331 Lib.Math.abs.name, Cond.static Lib.Math.abs.name, Cond.code Lib.Math.abs.name Lib.Math.abs.code 1 (some .int), Cond.methodLink RL 142 yX11_measured, Cond.instanceMethod yX11_measured, Cond.selects RX11 yX11_measured yX11_measured, Cond.code yX11_measured cX11_measured 14 (some .int), Cond.constantLong RX11 384 (40), Cond.constantLong RX11 386 (9999), Cond.methodLink RL 143 yX10_count, Cond.instanceMethod yX10_count, Cond.selects RX10 yX10_count yX10_count, Cond.code yX10_count cX10_count 2 (some .int), Cond.methodLink RL 146 yX11_count, Cond.instanceMethod yX11_count, Cond.selects RX11 yX11_count yX11_count, Cond.code yX11_count cX11_count 2 (some .int)]
def wsL_law : List Cond := (wsL_law_r1 ++ (wsL_law_r2 ++ (wsL_law_r3 ++ (wsL_law_r4 ++ (wsL_law_r5 ++ (wsL_law_r6 ++ (wsL_law_r7 ++ (wsL_law_r8 ++ (wsL_law_r9 ++ (wsL_law_r10 ++ (wsL_law_r11 ++ (wsL_law_r12 ++ (wsL_law_r13 ++ (wsL_law_r14 ++ (wsL_law_r15 ++ (wsL_law_r16 ++ (wsL_law_r17 ++ (wsL_law_r18 ++ (wsL_law_r19 ++ (wsL_law_r20 ++ (wsL_law_r21 ++ (wsL_law_r22 ++ (wsL_law_r23 ++ (wsL_law_r24 ++ (wsL_law_r25 ++ (wsL_law_r26 ++ (wsL_law_r27 ++ (wsL_law_r28 ++ (wsL_law_r29 ++ (wsL_law_r30 ++ (wsL_law_r31 ++ (wsL_law_r32 ++ (wsL_law_r33 ++ (wsL_law_r34 ++ (wsL_law_r35 ++ (wsL_law_r36 ++ (wsL_law_r37 ++ (wsL_law_r38 ++ (wsL_law_r39 ++ (wsL_law_r40 ++ (wsL_law_r41 ++ (wsL_law_r42 ++ (wsL_law_r43 ++ (wsL_law_r44 ++ (wsL_law_r45 ++ (wsL_law_r46 ++ (wsL_law_r47 ++ (wsL_law_r48 ++ wsL_law_r49)))))))))))))))))))))))))))))))))))))))))))))))) ++ wsX100 ++ wsX110 ++ wsX80 ++ wsX50 ++ wsX00 ++ wsX90 ++ wsX70 ++ wsX60 ++ wsX30 ++ wsX40 ++ wsX20 ++ ([] : List Cond)
abbrev vwCl : List vw_C := [(RX0, TX0, 9), (RX2, TX2, 4), (RX3, TX3, 6), (RX4, TX4, 13), (RX5, TX5, 14), (RX6, TX6, 3), (RX7, TX7, 4), (RX8, TX8, 2), (RX9, TX9, 6), (RX10, TX10, 10), (RX11, TX11, 59)]
end
section
theorem dX0_init_0 : decode cX0_init 0 = .ok (.aload_n 0, 1) := by decide +kernel
theorem dX0_init_1 : decode cX0_init 1 = .ok (.invokespecial 3, 3) := by decide +kernel
theorem dX0_init_4 : decode cX0_init 4 = .ok (.aload_n 0, 1) := by decide +kernel
theorem dX0_init_5 : decode cX0_init 5 = .ok (.bipush 8, 2) := by decide +kernel
theorem dX0_init_7 : decode cX0_init 7 = .ok (.newarray .int, 2) := by decide +kernel
theorem dX0_init_9 : decode cX0_init 9 = .ok (.putfield 9, 3) := by decide +kernel
theorem dX0_init_12 : decode cX0_init 12 = .ok (.aload_n 0, 1) := by decide +kernel
theorem dX0_init_13 : decode cX0_init 13 = .ok (.bipush 8, 2) := by decide +kernel
theorem dX0_init_15 : decode cX0_init 15 = .ok (.newarray .int, 2) := by decide +kernel
theorem dX0_init_17 : decode cX0_init 17 = .ok (.putfield 15, 3) := by decide +kernel
theorem dX0_init_20 : decode cX0_init 20 = .ok (.aload_n 0, 1) := by decide +kernel
theorem dX0_init_21 : decode cX0_init 21 = .ok (.bipush 8, 2) := by decide +kernel
theorem dX0_init_23 : decode cX0_init 23 = .ok (.newarray .int, 2) := by decide +kernel
theorem dX0_init_25 : decode cX0_init 25 = .ok (.putfield 18, 3) := by decide +kernel
theorem dX0_init_28 : decode cX0_init 28 = .ok (.aload_n 0, 1) := by decide +kernel
theorem dX0_init_29 : decode cX0_init 29 = .ok (.bipush 8, 2) := by decide +kernel
theorem dX0_init_31 : decode cX0_init 31 = .ok (.newarray .int, 2) := by decide +kernel
theorem dX0_init_33 : decode cX0_init 33 = .ok (.putfield 21, 3) := by decide +kernel
theorem dX0_init_36 : decode cX0_init 36 = .ok (.aload_n 0, 1) := by decide +kernel
theorem dX0_init_37 : decode cX0_init 37 = .ok (.sipush 145, 3) := by decide +kernel
theorem dX0_init_40 : decode cX0_init 40 = .ok (.newarray .int, 2) := by decide +kernel
theorem dX0_init_42 : decode cX0_init 42 = .ok (.putfield 24, 3) := by decide +kernel
theorem dX0_init_45 : decode cX0_init 45 = .ok (.return_, 1) := by decide +kernel
theorem dX0_setWaits_0 : decode cX0_setWaits 0 = .ok (.iconst 0, 1) := by decide +kernel
theorem dX0_setWaits_1 : decode cX0_setWaits 1 = .ok (.istore_n 2, 1) := by decide +kernel
theorem dX0_setWaits_2 : decode cX0_setWaits 2 = .ok (.iload_n 2, 1) := by decide +kernel
theorem dX0_setWaits_3 : decode cX0_setWaits 3 = .ok (.aload_n 1, 1) := by decide +kernel
theorem dX0_setWaits_4 : decode cX0_setWaits 4 = .ok (.getfield 27, 3) := by decide +kernel
theorem dX0_setWaits_7 : decode cX0_setWaits 7 = .ok (.if_icmp .ge 21, 3) := by decide +kernel
theorem dX0_setWaits_28 : decode cX0_setWaits 28 = .ok (.return_, 1) := by decide +kernel
theorem dX0_copyTakes_0 : decode cX0_copyTakes 0 = .ok (.aload_n 1, 1) := by decide +kernel
theorem dX0_copyTakes_1 : decode cX0_copyTakes 1 = .ok (.iconst 0, 1) := by decide +kernel
theorem dX0_copyTakes_2 : decode cX0_copyTakes 2 = .ok (.aload_n 0, 1) := by decide +kernel
theorem dX0_copyTakes_3 : decode cX0_copyTakes 3 = .ok (.getfield 15, 3) := by decide +kernel
theorem dX0_copyTakes_6 : decode cX0_copyTakes 6 = .ok (.iconst 0, 1) := by decide +kernel
theorem dX0_copyTakes_7 : decode cX0_copyTakes 7 = .ok (.bipush 8, 2) := by decide +kernel
theorem dX0_copyTakes_9 : decode cX0_copyTakes 9 = .ok (.invokestatic 37, 3) := by decide +kernel
theorem dX0_copyTakes_12 : decode cX0_copyTakes 12 = .ok (.return_, 1) := by decide +kernel
theorem dX0_follow_0 : decode cX0_follow 0 = .ok (.iconst 0, 1) := by decide +kernel
theorem dX0_follow_1 : decode cX0_follow 1 = .ok (.istore_n 3, 1) := by decide +kernel
theorem dX0_follow_2 : decode cX0_follow 2 = .ok (.aload_n 0, 1) := by decide +kernel
theorem dX0_follow_3 : decode cX0_follow 3 = .ok (.iconst 0, 1) := by decide +kernel
theorem dX0_follow_4 : decode cX0_follow 4 = .ok (.putfield 43, 3) := by decide +kernel
theorem dX0_follow_7 : decode cX0_follow 7 = .ok (.aload_n 0, 1) := by decide +kernel
theorem dX0_follow_8 : decode cX0_follow 8 = .ok (.iconst 0, 1) := by decide +kernel
theorem dX0_follow_9 : decode cX0_follow 9 = .ok (.putfield 46, 3) := by decide +kernel
theorem dX0_follow_12 : decode cX0_follow 12 = .ok (.iconst 0, 1) := by decide +kernel
theorem dX0_follow_13 : decode cX0_follow 13 = .ok (.istore 4, 2) := by decide +kernel
theorem dX0_follow_15 : decode cX0_follow 15 = .ok (.iload 4, 2) := by decide +kernel
theorem dX0_follow_17 : decode cX0_follow 17 = .ok (.bipush 8, 2) := by decide +kernel
theorem dX0_follow_19 : decode cX0_follow 19 = .ok (.if_icmp .gt 102, 3) := by decide +kernel
theorem dX0_follow_22 : decode cX0_follow 22 = .ok (.iload_n 3, 1) := by decide +kernel
theorem dX0_follow_23 : decode cX0_follow 23 = .ok (.aload_n 0, 1) := by decide +kernel
theorem dX0_follow_24 : decode cX0_follow 24 = .ok (.aload_n 1, 1) := by decide +kernel
theorem dX0_follow_25 : decode cX0_follow 25 = .ok (.iload_n 2, 1) := by decide +kernel
theorem dX0_follow_26 : decode cX0_follow 26 = .ok (.iload_n 3, 1) := by decide +kernel
theorem dX0_follow_27 : decode cX0_follow 27 = .ok (.iconst (-1), 1) := by decide +kernel
theorem dX0_follow_28 : decode cX0_follow 28 = .ok (.ixor, 1) := by decide +kernel
theorem dX0_follow_29 : decode cX0_follow 29 = .ok (.iand, 1) := by decide +kernel
theorem dX0_follow_30 : decode cX0_follow 30 = .ok (.invokevirtual 49, 3) := by decide +kernel
theorem dX0_follow_33 : decode cX0_follow 33 = .ok (.ior, 1) := by decide +kernel
theorem dX0_follow_34 : decode cX0_follow 34 = .ok (.istore_n 3, 1) := by decide +kernel
theorem dX0_follow_35 : decode cX0_follow 35 = .ok (.iload_n 3, 1) := by decide +kernel
theorem dX0_follow_36 : decode cX0_follow 36 = .ok (.aload_n 0, 1) := by decide +kernel
theorem dX0_follow_37 : decode cX0_follow 37 = .ok (.getfield 43, 3) := by decide +kernel
theorem dX0_follow_40 : decode cX0_follow 40 = .ok (.iconst (-1), 1) := by decide +kernel
theorem dX0_follow_41 : decode cX0_follow 41 = .ok (.ixor, 1) := by decide +kernel
theorem dX0_follow_42 : decode cX0_follow 42 = .ok (.iand, 1) := by decide +kernel
theorem dX0_follow_43 : decode cX0_follow 43 = .ok (.istore 5, 2) := by decide +kernel
theorem dX0_follow_45 : decode cX0_follow 45 = .ok (.iload 5, 2) := by decide +kernel
theorem dX0_follow_47 : decode cX0_follow 47 = .ok (.ifCond .ne 4, 3) := by decide +kernel
theorem dX0_follow_50 : decode cX0_follow 50 = .ok (.return_, 1) := by decide +kernel
theorem dX0_begin_0 : decode cX0_begin 0 = .ok (.iconst 0, 1) := by decide +kernel
theorem dX0_begin_1 : decode cX0_begin 1 = .ok (.istore_n 3, 1) := by decide +kernel
theorem dX0_begin_2 : decode cX0_begin 2 = .ok (.iconst 0, 1) := by decide +kernel
theorem dX0_begin_3 : decode cX0_begin 3 = .ok (.istore 4, 2) := by decide +kernel
theorem dX0_begin_5 : decode cX0_begin 5 = .ok (.iload 4, 2) := by decide +kernel
theorem dX0_begin_7 : decode cX0_begin 7 = .ok (.aload_n 1, 1) := by decide +kernel
theorem dX0_begin_8 : decode cX0_begin 8 = .ok (.getfield 27, 3) := by decide +kernel
theorem dX0_begin_11 : decode cX0_begin 11 = .ok (.if_icmp .ge 84, 3) := by decide +kernel
theorem dX0_begin_95 : decode cX0_begin 95 = .ok (.iload_n 3, 1) := by decide +kernel
theorem dX0_begin_96 : decode cX0_begin 96 = .ok (.ireturn, 1) := by decide +kernel
theorem dX0_drawnAt_0 : decode cX0_drawnAt 0 = .ok (.iconst 0, 1) := by decide +kernel
theorem dX0_drawnAt_1 : decode cX0_drawnAt 1 = .ok (.istore_n 3, 1) := by decide +kernel
theorem dX0_drawnAt_2 : decode cX0_drawnAt 2 = .ok (.iconst 0, 1) := by decide +kernel
theorem dX0_drawnAt_3 : decode cX0_drawnAt 3 = .ok (.istore 4, 2) := by decide +kernel
theorem dX0_drawnAt_5 : decode cX0_drawnAt 5 = .ok (.iload 4, 2) := by decide +kernel
theorem dX0_drawnAt_7 : decode cX0_drawnAt 7 = .ok (.aload_n 1, 1) := by decide +kernel
theorem dX0_drawnAt_8 : decode cX0_drawnAt 8 = .ok (.getfield 27, 3) := by decide +kernel
theorem dX0_drawnAt_11 : decode cX0_drawnAt 11 = .ok (.if_icmp .ge 66, 3) := by decide +kernel
theorem dX0_drawnAt_77 : decode cX0_drawnAt 77 = .ok (.iload_n 3, 1) := by decide +kernel
theorem dX0_drawnAt_78 : decode cX0_drawnAt 78 = .ok (.ireturn, 1) := by decide +kernel
theorem dX1_thatExplain_0 : decode cX1_thatExplain 0 = .ok (.aload_n 0, 1) := by decide +kernel
theorem dX1_thatExplain_1 : decode cX1_thatExplain 1 = .ok (.invokevirtual 15, 3) := by decide +kernel
theorem dX1_thatExplain_4 : decode cX1_thatExplain 4 = .ok (.istore_n 2, 1) := by decide +kernel
theorem dX1_thatExplain_5 : decode cX1_thatExplain 5 = .ok (.aload_n 0, 1) := by decide +kernel
theorem dX1_thatExplain_6 : decode cX1_thatExplain 6 = .ok (.iload_n 2, 1) := by decide +kernel
theorem dX1_thatExplain_7 : decode cX1_thatExplain 7 = .ok (.invokevirtual 9, 3) := by decide +kernel
theorem dX1_thatExplain_10 : decode cX1_thatExplain 10 = .ok (.iload_n 1, 1) := by decide +kernel
theorem dX1_thatExplain_11 : decode cX1_thatExplain 11 = .ok (.if_icmp .ne 9, 3) := by decide +kernel
theorem dX1_thatExplain_14 : decode cX1_thatExplain 14 = .ok (.sipush 256, 3) := by decide +kernel
theorem dX1_thatExplain_17 : decode cX1_thatExplain 17 = .ok (.goto 4, 3) := by decide +kernel
theorem dX1_thatExplain_21 : decode cX1_thatExplain 21 = .ok (.istore_n 3, 1) := by decide +kernel
theorem dX1_thatExplain_22 : decode cX1_thatExplain 22 = .ok (.iconst 0, 1) := by decide +kernel
theorem dX1_thatExplain_23 : decode cX1_thatExplain 23 = .ok (.istore 4, 2) := by decide +kernel
theorem dX1_thatExplain_25 : decode cX1_thatExplain 25 = .ok (.iload 4, 2) := by decide +kernel
theorem dX1_thatExplain_27 : decode cX1_thatExplain 27 = .ok (.aload_n 0, 1) := by decide +kernel
theorem dX1_thatExplain_28 : decode cX1_thatExplain 28 = .ok (.getfield 30, 3) := by decide +kernel
theorem dX1_thatExplain_31 : decode cX1_thatExplain 31 = .ok (.if_icmp .ge 32, 3) := by decide +kernel
theorem dX1_thatExplain_63 : decode cX1_thatExplain 63 = .ok (.iload_n 3, 1) := by decide +kernel
theorem dX1_thatExplain_64 : decode cX1_thatExplain 64 = .ok (.ireturn, 1) := by decide +kernel
theorem dX2_init_0 : decode cX2_init 0 = .ok (.aload_n 0, 1) := by decide +kernel
theorem dX2_init_1 : decode cX2_init 1 = .ok (.invokespecial 1, 3) := by decide +kernel
theorem dX2_init_4 : decode cX2_init 4 = .ok (.aload_n 0, 1) := by decide +kernel
theorem dX2_init_5 : decode cX2_init 5 = .ok (.bipush 64, 2) := by decide +kernel
theorem dX2_init_7 : decode cX2_init 7 = .ok (.newarray .int, 2) := by decide +kernel
theorem dX2_init_9 : decode cX2_init 9 = .ok (.putfield 9, 3) := by decide +kernel
theorem dX2_init_12 : decode cX2_init 12 = .ok (.aload_n 0, 1) := by decide +kernel
theorem dX2_init_13 : decode cX2_init 13 = .ok (.bipush 64, 2) := by decide +kernel
theorem dX2_init_15 : decode cX2_init 15 = .ok (.newarray .int, 2) := by decide +kernel
theorem dX2_init_17 : decode cX2_init 17 = .ok (.putfield 13, 3) := by decide +kernel
theorem dX2_init_20 : decode cX2_init 20 = .ok (.aload_n 0, 1) := by decide +kernel
theorem dX2_init_21 : decode cX2_init 21 = .ok (.bipush 64, 2) := by decide +kernel
theorem dX2_init_23 : decode cX2_init 23 = .ok (.newarray .int, 2) := by decide +kernel
theorem dX2_init_25 : decode cX2_init 25 = .ok (.putfield 16, 3) := by decide +kernel
theorem dX2_init_28 : decode cX2_init 28 = .ok (.aload_n 0, 1) := by decide +kernel
theorem dX2_init_29 : decode cX2_init 29 = .ok (.iconst 0, 1) := by decide +kernel
theorem dX2_init_30 : decode cX2_init 30 = .ok (.putfield 19, 3) := by decide +kernel
theorem dX2_init_33 : decode cX2_init 33 = .ok (.return_, 1) := by decide +kernel
theorem dX3_init_0 : decode cX3_init 0 = .ok (.aload_n 0, 1) := by decide +kernel
theorem dX3_init_1 : decode cX3_init 1 = .ok (.invokespecial 3, 3) := by decide +kernel
theorem dX3_init_4 : decode cX3_init 4 = .ok (.aload_n 0, 1) := by decide +kernel
theorem dX3_init_5 : decode cX3_init 5 = .ok (.bipush 64, 2) := by decide +kernel
theorem dX3_init_7 : decode cX3_init 7 = .ok (.newarray .int, 2) := by decide +kernel
theorem dX3_init_9 : decode cX3_init 9 = .ok (.putfield 11, 3) := by decide +kernel
theorem dX3_init_12 : decode cX3_init 12 = .ok (.aload_n 0, 1) := by decide +kernel
theorem dX3_init_13 : decode cX3_init 13 = .ok (.bipush 64, 2) := by decide +kernel
theorem dX3_init_15 : decode cX3_init 15 = .ok (.newarray .long, 2) := by decide +kernel
theorem dX3_init_17 : decode cX3_init 17 = .ok (.putfield 15, 3) := by decide +kernel
theorem dX3_init_20 : decode cX3_init 20 = .ok (.aload_n 0, 1) := by decide +kernel
theorem dX3_init_21 : decode cX3_init 21 = .ok (.iconst 0, 1) := by decide +kernel
theorem dX3_init_22 : decode cX3_init 22 = .ok (.putfield 19, 3) := by decide +kernel
theorem dX3_init_25 : decode cX3_init 25 = .ok (.aload_n 0, 1) := by decide +kernel
theorem dX3_init_26 : decode cX3_init 26 = .ok (.sipush 999, 3) := by decide +kernel
theorem dX3_init_29 : decode cX3_init 29 = .ok (.putfield 23, 3) := by decide +kernel
theorem dX3_init_32 : decode cX3_init 32 = .ok (.aload_n 0, 1) := by decide +kernel
theorem dX3_init_33 : decode cX3_init 33 = .ok (.iconst 0, 1) := by decide +kernel
theorem dX3_init_34 : decode cX3_init 34 = .ok (.putfield 26, 3) := by decide +kernel
theorem dX3_init_37 : decode cX3_init 37 = .ok (.aload_n 0, 1) := by decide +kernel
theorem dX3_init_38 : decode cX3_init 38 = .ok (.iconst 5, 1) := by decide +kernel
theorem dX3_init_39 : decode cX3_init 39 = .ok (.putfield 29, 3) := by decide +kernel
theorem dX3_init_42 : decode cX3_init 42 = .ok (.return_, 1) := by decide +kernel
theorem dX3_reset_0 : decode cX3_reset 0 = .ok (.aload_n 0, 1) := by decide +kernel
theorem dX3_reset_1 : decode cX3_reset 1 = .ok (.iconst 0, 1) := by decide +kernel
theorem dX3_reset_2 : decode cX3_reset 2 = .ok (.putfield 19, 3) := by decide +kernel
theorem dX3_reset_5 : decode cX3_reset 5 = .ok (.aload_n 0, 1) := by decide +kernel
theorem dX3_reset_6 : decode cX3_reset 6 = .ok (.sipush 999, 3) := by decide +kernel
theorem dX3_reset_9 : decode cX3_reset 9 = .ok (.putfield 23, 3) := by decide +kernel
theorem dX3_reset_12 : decode cX3_reset 12 = .ok (.aload_n 0, 1) := by decide +kernel
theorem dX3_reset_13 : decode cX3_reset 13 = .ok (.iconst 0, 1) := by decide +kernel
theorem dX3_reset_14 : decode cX3_reset 14 = .ok (.putfield 26, 3) := by decide +kernel
theorem dX3_reset_17 : decode cX3_reset 17 = .ok (.aload_n 0, 1) := by decide +kernel
theorem dX3_reset_18 : decode cX3_reset 18 = .ok (.iconst 5, 1) := by decide +kernel
theorem dX3_reset_19 : decode cX3_reset 19 = .ok (.putfield 29, 3) := by decide +kernel
theorem dX3_reset_22 : decode cX3_reset 22 = .ok (.return_, 1) := by decide +kernel
theorem dX3_hasRail_0 : decode cX3_hasRail 0 = .ok (.iload_n 1, 1) := by decide +kernel
theorem dX3_hasRail_1 : decode cX3_hasRail 1 = .ok (.ifCond .lt 15, 3) := by decide +kernel
theorem dX3_hasRail_4 : decode cX3_hasRail 4 = .ok (.iload_n 1, 1) := by decide +kernel
theorem dX3_hasRail_5 : decode cX3_hasRail 5 = .ok (.aload_n 0, 1) := by decide +kernel
theorem dX3_hasRail_6 : decode cX3_hasRail 6 = .ok (.getfield 19, 3) := by decide +kernel
theorem dX3_hasRail_9 : decode cX3_hasRail 9 = .ok (.if_icmp .ge 7, 3) := by decide +kernel
theorem dX3_hasRail_16 : decode cX3_hasRail 16 = .ok (.iconst 0, 1) := by decide +kernel
theorem dX3_hasRail_17 : decode cX3_hasRail 17 = .ok (.ireturn, 1) := by decide +kernel
theorem dX3_allRails_0 : decode cX3_allRails 0 = .ok (.iconst 1, 1) := by decide +kernel
theorem dX3_allRails_1 : decode cX3_allRails 1 = .ok (.aload_n 0, 1) := by decide +kernel
theorem dX3_allRails_2 : decode cX3_allRails 2 = .ok (.getfield 19, 3) := by decide +kernel
theorem dX3_allRails_5 : decode cX3_allRails 5 = .ok (.ishl, 1) := by decide +kernel
theorem dX3_allRails_6 : decode cX3_allRails 6 = .ok (.iconst 1, 1) := by decide +kernel
theorem dX3_allRails_7 : decode cX3_allRails 7 = .ok (.isub, 1) := by decide +kernel
theorem dX3_allRails_8 : decode cX3_allRails 8 = .ok (.ireturn, 1) := by decide +kernel
theorem dX3_number_0 : decode cX3_number 0 = .ok (.aload_n 0, 1) := by decide +kernel
theorem dX3_number_1 : decode cX3_number 1 = .ok (.getfield 11, 3) := by decide +kernel
theorem dX3_number_4 : decode cX3_number 4 = .ok (.iload_n 1, 1) := by decide +kernel
theorem dX3_number_5 : decode cX3_number 5 = .ok (.bipush 8, 2) := by decide +kernel
theorem dX3_number_7 : decode cX3_number 7 = .ok (.imul, 1) := by decide +kernel
theorem dX3_number_8 : decode cX3_number 8 = .ok (.iload_n 2, 1) := by decide +kernel
theorem dX3_number_9 : decode cX3_number 9 = .ok (.iadd, 1) := by decide +kernel
theorem dX3_number_10 : decode cX3_number 10 = .ok (.iaload, 1) := by decide +kernel
theorem dX3_number_11 : decode cX3_number 11 = .ok (.ireturn, 1) := by decide +kernel
theorem dX3_upAmong_0 : decode cX3_upAmong 0 = .ok (.iconst 0, 1) := by decide +kernel
theorem dX3_upAmong_1 : decode cX3_upAmong 1 = .ok (.istore_n 2, 1) := by decide +kernel
theorem dX3_upAmong_2 : decode cX3_upAmong 2 = .ok (.iconst 0, 1) := by decide +kernel
theorem dX3_upAmong_3 : decode cX3_upAmong 3 = .ok (.istore_n 3, 1) := by decide +kernel
theorem dX3_upAmong_4 : decode cX3_upAmong 4 = .ok (.iload_n 3, 1) := by decide +kernel
theorem dX3_upAmong_5 : decode cX3_upAmong 5 = .ok (.bipush 8, 2) := by decide +kernel
theorem dX3_upAmong_7 : decode cX3_upAmong 7 = .ok (.if_icmp .gt 75, 3) := by decide +kernel
theorem dX3_upAmong_10 : decode cX3_upAmong 10 = .ok (.iload_n 2, 1) := by decide +kernel
theorem dX3_upAmong_11 : decode cX3_upAmong 11 = .ok (.istore 4, 2) := by decide +kernel
theorem dX3_upAmong_13 : decode cX3_upAmong 13 = .ok (.iconst 0, 1) := by decide +kernel
theorem dX3_upAmong_14 : decode cX3_upAmong 14 = .ok (.istore 5, 2) := by decide +kernel
theorem dX3_upAmong_16 : decode cX3_upAmong 16 = .ok (.iload 5, 2) := by decide +kernel
theorem dX3_upAmong_18 : decode cX3_upAmong 18 = .ok (.aload_n 0, 1) := by decide +kernel
theorem dX3_upAmong_19 : decode cX3_upAmong 19 = .ok (.getfield 19, 3) := by decide +kernel
theorem dX3_upAmong_22 : decode cX3_upAmong 22 = .ok (.if_icmp .ge 42, 3) := by decide +kernel
theorem dX3_upAmong_64 : decode cX3_upAmong 64 = .ok (.iload 4, 2) := by decide +kernel
theorem dX3_upAmong_66 : decode cX3_upAmong 66 = .ok (.iload_n 2, 1) := by decide +kernel
theorem dX3_upAmong_67 : decode cX3_upAmong 67 = .ok (.if_icmp .ne 6, 3) := by decide +kernel
theorem dX3_upAmong_70 : decode cX3_upAmong 70 = .ok (.goto 12, 3) := by decide +kernel
theorem dX3_upAmong_82 : decode cX3_upAmong 82 = .ok (.iload_n 2, 1) := by decide +kernel
theorem dX3_upAmong_83 : decode cX3_upAmong 83 = .ok (.ireturn, 1) := by decide +kernel
theorem dX3_countWays_0 : decode cX3_countWays 0 = .ok (.iconst 1, 1) := by decide +kernel
theorem dX3_countWays_1 : decode cX3_countWays 1 = .ok (.istore_n 1, 1) := by decide +kernel
theorem dX3_countWays_2 : decode cX3_countWays 2 = .ok (.iconst 0, 1) := by decide +kernel
theorem dX3_countWays_3 : decode cX3_countWays 3 = .ok (.istore_n 2, 1) := by decide +kernel
theorem dX3_countWays_4 : decode cX3_countWays 4 = .ok (.iload_n 2, 1) := by decide +kernel
theorem dX3_countWays_5 : decode cX3_countWays 5 = .ok (.aload_n 0, 1) := by decide +kernel
theorem dX3_countWays_6 : decode cX3_countWays 6 = .ok (.getfield 19, 3) := by decide +kernel
theorem dX3_countWays_9 : decode cX3_countWays 9 = .ok (.if_icmp .ge 27, 3) := by decide +kernel
theorem dX3_countWays_36 : decode cX3_countWays 36 = .ok (.iload_n 1, 1) := by decide +kernel
theorem dX3_countWays_37 : decode cX3_countWays 37 = .ok (.ireturn, 1) := by decide +kernel
theorem dX4_init_0 : decode cX4_init 0 = .ok (.aload_n 0, 1) := by decide +kernel
theorem dX4_init_1 : decode cX4_init 1 = .ok (.invokespecial 3, 3) := by decide +kernel
theorem dX4_init_4 : decode cX4_init 4 = .ok (.aload_n 0, 1) := by decide +kernel
theorem dX4_init_5 : decode cX4_init 5 = .ok (.aload_n 1, 1) := by decide +kernel
theorem dX4_init_6 : decode cX4_init 6 = .ok (.putfield 9, 3) := by decide +kernel
theorem dX4_init_9 : decode cX4_init 9 = .ok (.aload_n 0, 1) := by decide +kernel
theorem dX4_init_10 : decode cX4_init 10 = .ok (.aload_n 2, 1) := by decide +kernel
theorem dX4_init_11 : decode cX4_init 11 = .ok (.putfield 15, 3) := by decide +kernel
theorem dX4_init_14 : decode cX4_init 14 = .ok (.aload_n 0, 1) := by decide +kernel
theorem dX4_init_15 : decode cX4_init 15 = .ok (.bipush 8, 2) := by decide +kernel
theorem dX4_init_17 : decode cX4_init 17 = .ok (.newarray .int, 2) := by decide +kernel
theorem dX4_init_19 : decode cX4_init 19 = .ok (.putfield 19, 3) := by decide +kernel
theorem dX4_init_22 : decode cX4_init 22 = .ok (.aload_n 0, 1) := by decide +kernel
theorem dX4_init_23 : decode cX4_init 23 = .ok (.bipush 7, 2) := by decide +kernel
theorem dX4_init_25 : decode cX4_init 25 = .ok (.bipush 8, 2) := by decide +kernel
theorem dX4_init_27 : decode cX4_init 27 = .ok (.multianewarray 25 2, 4) := by decide +kernel
theorem dX4_init_31 : decode cX4_init 31 = .ok (.putfield 27, 3) := by decide +kernel
theorem dX4_init_34 : decode cX4_init 34 = .ok (.aload_n 0, 1) := by decide +kernel
theorem dX4_init_35 : decode cX4_init 35 = .ok (.bipush 7, 2) := by decide +kernel
theorem dX4_init_37 : decode cX4_init 37 = .ok (.bipush 8, 2) := by decide +kernel
theorem dX4_init_39 : decode cX4_init 39 = .ok (.multianewarray 25 2, 4) := by decide +kernel
theorem dX4_init_43 : decode cX4_init 43 = .ok (.putfield 30, 3) := by decide +kernel
theorem dX4_init_46 : decode cX4_init 46 = .ok (.return_, 1) := by decide +kernel
theorem dX4_readText_0 : decode cX4_readText 0 = .ok (.aload_n 0, 1) := by decide +kernel
theorem dX4_readText_1 : decode cX4_readText 1 = .ok (.aload_n 1, 1) := by decide +kernel
theorem dX4_readText_2 : decode cX4_readText 2 = .ok (.putfield 15, 3) := by decide +kernel
theorem dX4_readText_5 : decode cX4_readText 5 = .ok (.aload_n 0, 1) := by decide +kernel
theorem dX4_readText_6 : decode cX4_readText 6 = .ok (.getfield 15, 3) := by decide +kernel
theorem dX4_readText_9 : decode cX4_readText 9 = .ok (.invokevirtual 33, 3) := by decide +kernel
theorem dX4_readText_12 : decode cX4_readText 12 = .ok (.aload_n 0, 1) := by decide +kernel
theorem dX4_readText_13 : decode cX4_readText 13 = .ok (.iconst 0, 1) := by decide +kernel
theorem dX4_readText_14 : decode cX4_readText 14 = .ok (.putfield 36, 3) := by decide +kernel
theorem dX4_readText_17 : decode cX4_readText 17 = .ok (.aload_n 0, 1) := by decide +kernel
theorem dX4_readText_18 : decode cX4_readText 18 = .ok (.iconst 0, 1) := by decide +kernel
theorem dX4_readText_19 : decode cX4_readText 19 = .ok (.putfield 40, 3) := by decide +kernel
theorem dX4_readText_22 : decode cX4_readText 22 = .ok (.aload_n 0, 1) := by decide +kernel
theorem dX4_readText_23 : decode cX4_readText 23 = .ok (.iconst 0, 1) := by decide +kernel
theorem dX4_readText_24 : decode cX4_readText 24 = .ok (.putfield 43, 3) := by decide +kernel
theorem dX4_readText_27 : decode cX4_readText 27 = .ok (.aload_n 0, 1) := by decide +kernel
theorem dX4_readText_28 : decode cX4_readText 28 = .ok (.iconst 0, 1) := by decide +kernel
theorem dX4_readText_29 : decode cX4_readText 29 = .ok (.putfield 46, 3) := by decide +kernel
theorem dX4_readText_32 : decode cX4_readText 32 = .ok (.aload_n 0, 1) := by decide +kernel
theorem dX4_readText_33 : decode cX4_readText 33 = .ok (.getfield 19, 3) := by decide +kernel
theorem dX4_readText_36 : decode cX4_readText 36 = .ok (.bipush (-4), 2) := by decide +kernel
theorem dX4_readText_38 : decode cX4_readText 38 = .ok (.invokestatic 49, 3) := by decide +kernel
theorem dX4_readText_41 : decode cX4_readText 41 = .ok (.aload_n 0, 1) := by decide +kernel
theorem dX4_readText_42 : decode cX4_readText 42 = .ok (.invokevirtual 55, 3) := by decide +kernel
theorem dX4_readText_45 : decode cX4_readText 45 = .ok (.iconst 0, 1) := by decide +kernel
theorem dX4_readText_46 : decode cX4_readText 46 = .ok (.istore_n 2, 1) := by decide +kernel
theorem dX4_readText_47 : decode cX4_readText 47 = .ok (.iconst 0, 1) := by decide +kernel
theorem dX4_readText_48 : decode cX4_readText 48 = .ok (.istore_n 3, 1) := by decide +kernel
theorem dX4_readText_49 : decode cX4_readText 49 = .ok (.iload_n 3, 1) := by decide +kernel
theorem dX4_readText_50 : decode cX4_readText 50 = .ok (.sipush 400, 3) := by decide +kernel
theorem dX4_readText_53 : decode cX4_readText 53 = .ok (.if_icmp .ge 52, 3) := by decide +kernel
theorem dX4_readText_56 : decode cX4_readText 56 = .ok (.aload_n 0, 1) := by decide +kernel
theorem dX4_readText_57 : decode cX4_readText 57 = .ok (.getfield 43, 3) := by decide +kernel
theorem dX4_readText_60 : decode cX4_readText 60 = .ok (.ifCond .ne 45, 3) := by decide +kernel
theorem dX4_readText_63 : decode cX4_readText 63 = .ok (.aload_n 0, 1) := by decide +kernel
theorem dX4_readText_64 : decode cX4_readText 64 = .ok (.getfield 60, 3) := by decide +kernel
theorem dX4_readText_67 : decode cX4_readText 67 = .ok (.ifCond .eq 38, 3) := by decide +kernel
theorem dX4_readText_105 : decode cX4_readText 105 = .ok (.aload_n 0, 1) := by decide +kernel
theorem dX4_readText_106 : decode cX4_readText 106 = .ok (.invokevirtual 79, 3) := by decide +kernel
theorem dX4_readText_109 : decode cX4_readText 109 = .ok (.iload_n 2, 1) := by decide +kernel
theorem dX4_readText_110 : decode cX4_readText 110 = .ok (.ireturn, 1) := by decide +kernel
theorem dX4_step_0 : decode cX4_step 0 = .ok (.aload_n 0, 1) := by decide +kernel
theorem dX4_step_1 : decode cX4_step 1 = .ok (.getfield 36, 3) := by decide +kernel
theorem dX4_step_4 : decode cX4_step 4 = .ok (.aload_n 0, 1) := by decide +kernel
theorem dX4_step_5 : decode cX4_step 5 = .ok (.getfield 9, 3) := by decide +kernel
theorem dX4_step_8 : decode cX4_step 8 = .ok (.getfield 82, 3) := by decide +kernel
theorem dX4_step_11 : decode cX4_step 11 = .ok (.if_icmp .ge 33, 3) := by decide +kernel
theorem dX4_step_44 : decode cX4_step 44 = .ok (.aload_n 0, 1) := by decide +kernel
theorem dX4_step_45 : decode cX4_step 45 = .ok (.aload_n 0, 1) := by decide +kernel
theorem dX4_step_46 : decode cX4_step 46 = .ok (.getfield 36, 3) := by decide +kernel
theorem dX4_step_49 : decode cX4_step 49 = .ok (.putfield 88, 3) := by decide +kernel
theorem dX4_step_52 : decode cX4_step 52 = .ok (.aload_n 0, 1) := by decide +kernel
theorem dX4_step_53 : decode cX4_step 53 = .ok (.iconst 0, 1) := by decide +kernel
theorem dX4_step_54 : decode cX4_step 54 = .ok (.putfield 91, 3) := by decide +kernel
theorem dX4_step_57 : decode cX4_step 57 = .ok (.aload_n 0, 1) := by decide +kernel
theorem dX4_step_58 : decode cX4_step 58 = .ok (.getfield 36, 3) := by decide +kernel
theorem dX4_step_61 : decode cX4_step 61 = .ok (.aload_n 0, 1) := by decide +kernel
theorem dX4_step_62 : decode cX4_step 62 = .ok (.getfield 9, 3) := by decide +kernel
theorem dX4_step_65 : decode cX4_step 65 = .ok (.getfield 82, 3) := by decide +kernel
theorem dX4_step_68 : decode cX4_step 68 = .ok (.if_icmp .lt 9, 3) := by decide +kernel
theorem dX4_step_71 : decode cX4_step 71 = .ok (.aload_n 0, 1) := by decide +kernel
theorem dX4_step_72 : decode cX4_step 72 = .ok (.iconst 0, 1) := by decide +kernel
theorem dX4_step_73 : decode cX4_step 73 = .ok (.putfield 60, 3) := by decide +kernel
theorem dX4_step_76 : decode cX4_step 76 = .ok (.return_, 1) := by decide +kernel
theorem dX4_findNotTold_0 : decode cX4_findNotTold 0 = .ok (.sipush 400, 3) := by decide +kernel
theorem dX4_findNotTold_3 : decode cX4_findNotTold 3 = .ok (.istore_n 1, 1) := by decide +kernel
theorem dX4_findNotTold_4 : decode cX4_findNotTold 4 = .ok (.aload_n 0, 1) := by decide +kernel
theorem dX4_findNotTold_5 : decode cX4_findNotTold 5 = .ok (.getfield 15, 3) := by decide +kernel
theorem dX4_findNotTold_8 : decode cX4_findNotTold 8 = .ok (.getfield 138, 3) := by decide +kernel
theorem dX4_findNotTold_11 : decode cX4_findNotTold 11 = .ok (.istore_n 2, 1) := by decide +kernel
theorem dX4_findNotTold_12 : decode cX4_findNotTold 12 = .ok (.iload_n 2, 1) := by decide +kernel
theorem dX4_findNotTold_13 : decode cX4_findNotTold 13 = .ok (.bipush 8, 2) := by decide +kernel
theorem dX4_findNotTold_15 : decode cX4_findNotTold 15 = .ok (.if_icmp .ge 31, 3) := by decide +kernel
theorem dX4_findNotTold_18 : decode cX4_findNotTold 18 = .ok (.aload_n 0, 1) := by decide +kernel
theorem dX4_findNotTold_19 : decode cX4_findNotTold 19 = .ok (.getfield 19, 3) := by decide +kernel
theorem dX4_findNotTold_22 : decode cX4_findNotTold 22 = .ok (.iload_n 2, 1) := by decide +kernel
theorem dX4_findNotTold_23 : decode cX4_findNotTold 23 = .ok (.iaload, 1) := by decide +kernel
theorem dX4_findNotTold_24 : decode cX4_findNotTold 24 = .ok (.bipush (-4), 2) := by decide +kernel
theorem dX4_findNotTold_26 : decode cX4_findNotTold 26 = .ok (.if_icmp .eq 14, 3) := by decide +kernel
theorem dX4_findNotTold_40 : decode cX4_findNotTold 40 = .ok (.iinc 2 1, 3) := by decide +kernel
theorem dX4_findNotTold_43 : decode cX4_findNotTold 43 = .ok (.goto (-31), 3) := by decide +kernel
theorem dX4_findNotTold_46 : decode cX4_findNotTold 46 = .ok (.iload_n 1, 1) := by decide +kernel
theorem dX4_findNotTold_47 : decode cX4_findNotTold 47 = .ok (.sipush 400, 3) := by decide +kernel
theorem dX4_findNotTold_50 : decode cX4_findNotTold 50 = .ok (.if_icmp .ge 10, 3) := by decide +kernel
theorem dX4_findNotTold_60 : decode cX4_findNotTold 60 = .ok (.return_, 1) := by decide +kernel
theorem dX5_init_0 : decode cX5_init 0 = .ok (.aload_n 0, 1) := by decide +kernel
theorem dX5_init_1 : decode cX5_init 1 = .ok (.invokespecial 3, 3) := by decide +kernel
theorem dX5_init_4 : decode cX5_init 4 = .ok (.aload_n 0, 1) := by decide +kernel
theorem dX5_init_5 : decode cX5_init 5 = .ok (.new 9, 3) := by decide +kernel
theorem dX5_init_8 : decode cX5_init 8 = .ok (.dup, 1) := by decide +kernel
theorem dX5_init_9 : decode cX5_init 9 = .ok (.invokespecial 11, 3) := by decide +kernel
theorem dX5_init_12 : decode cX5_init 12 = .ok (.putfield 12, 3) := by decide +kernel
theorem dX5_init_15 : decode cX5_init 15 = .ok (.aload_n 0, 1) := by decide +kernel
theorem dX5_init_16 : decode cX5_init 16 = .ok (.bipush 8, 2) := by decide +kernel
theorem dX5_init_18 : decode cX5_init 18 = .ok (.newarray .int, 2) := by decide +kernel
theorem dX5_init_20 : decode cX5_init 20 = .ok (.putfield 18, 3) := by decide +kernel
theorem dX5_init_23 : decode cX5_init 23 = .ok (.aload_n 0, 1) := by decide +kernel
theorem dX5_init_24 : decode cX5_init 24 = .ok (.bipush 8, 2) := by decide +kernel
theorem dX5_init_26 : decode cX5_init 26 = .ok (.newarray .int, 2) := by decide +kernel
theorem dX5_init_28 : decode cX5_init 28 = .ok (.putfield 22, 3) := by decide +kernel
theorem dX5_init_31 : decode cX5_init 31 = .ok (.aload_n 0, 1) := by decide +kernel
theorem dX5_init_32 : decode cX5_init 32 = .ok (.bipush 8, 2) := by decide +kernel
theorem dX5_init_34 : decode cX5_init 34 = .ok (.newarray .int, 2) := by decide +kernel
theorem dX5_init_36 : decode cX5_init 36 = .ok (.putfield 25, 3) := by decide +kernel
theorem dX5_init_39 : decode cX5_init 39 = .ok (.aload_n 0, 1) := by decide +kernel
theorem dX5_init_40 : decode cX5_init 40 = .ok (.bipush 8, 2) := by decide +kernel
theorem dX5_init_42 : decode cX5_init 42 = .ok (.newarray .int, 2) := by decide +kernel
theorem dX5_init_44 : decode cX5_init 44 = .ok (.putfield 28, 3) := by decide +kernel
theorem dX5_init_47 : decode cX5_init 47 = .ok (.aload_n 0, 1) := by decide +kernel
theorem dX5_init_48 : decode cX5_init 48 = .ok (.bipush 8, 2) := by decide +kernel
theorem dX5_init_50 : decode cX5_init 50 = .ok (.newarray .int, 2) := by decide +kernel
theorem dX5_init_52 : decode cX5_init 52 = .ok (.putfield 31, 3) := by decide +kernel
theorem dX5_init_55 : decode cX5_init 55 = .ok (.aload_n 0, 1) := by decide +kernel
theorem dX5_init_56 : decode cX5_init 56 = .ok (.iconst 0, 1) := by decide +kernel
theorem dX5_init_57 : decode cX5_init 57 = .ok (.putfield 34, 3) := by decide +kernel
theorem dX5_init_60 : decode cX5_init 60 = .ok (.aload_n 0, 1) := by decide +kernel
theorem dX5_init_61 : decode cX5_init 61 = .ok (.iconst 0, 1) := by decide +kernel
theorem dX5_init_62 : decode cX5_init 62 = .ok (.putfield 38, 3) := by decide +kernel
theorem dX5_init_65 : decode cX5_init 65 = .ok (.return_, 1) := by decide +kernel
theorem dX5_reset_0 : decode cX5_reset 0 = .ok (.aload_n 0, 1) := by decide +kernel
theorem dX5_reset_1 : decode cX5_reset 1 = .ok (.getfield 12, 3) := by decide +kernel
theorem dX5_reset_4 : decode cX5_reset 4 = .ok (.iconst 0, 1) := by decide +kernel
theorem dX5_reset_5 : decode cX5_reset 5 = .ok (.putfield 42, 3) := by decide +kernel
theorem dX5_reset_8 : decode cX5_reset 8 = .ok (.iconst 0, 1) := by decide +kernel
theorem dX5_reset_9 : decode cX5_reset 9 = .ok (.istore_n 2, 1) := by decide +kernel
theorem dX5_reset_10 : decode cX5_reset 10 = .ok (.iload_n 2, 1) := by decide +kernel
theorem dX5_reset_11 : decode cX5_reset 11 = .ok (.bipush 8, 2) := by decide +kernel
theorem dX5_reset_13 : decode cX5_reset 13 = .ok (.if_icmp .ge 49, 3) := by decide +kernel
theorem dX5_reset_16 : decode cX5_reset 16 = .ok (.aload_n 0, 1) := by decide +kernel
theorem dX5_reset_17 : decode cX5_reset 17 = .ok (.getfield 18, 3) := by decide +kernel
theorem dX5_reset_20 : decode cX5_reset 20 = .ok (.iload_n 2, 1) := by decide +kernel
theorem dX5_reset_21 : decode cX5_reset 21 = .ok (.iconst 0, 1) := by decide +kernel
theorem dX5_reset_22 : decode cX5_reset 22 = .ok (.iastore, 1) := by decide +kernel
theorem dX5_reset_23 : decode cX5_reset 23 = .ok (.aload_n 0, 1) := by decide +kernel
theorem dX5_reset_24 : decode cX5_reset 24 = .ok (.getfield 22, 3) := by decide +kernel
theorem dX5_reset_27 : decode cX5_reset 27 = .ok (.iload_n 2, 1) := by decide +kernel
theorem dX5_reset_28 : decode cX5_reset 28 = .ok (.iconst 0, 1) := by decide +kernel
theorem dX5_reset_29 : decode cX5_reset 29 = .ok (.iastore, 1) := by decide +kernel
theorem dX5_reset_30 : decode cX5_reset 30 = .ok (.aload_n 0, 1) := by decide +kernel
theorem dX5_reset_31 : decode cX5_reset 31 = .ok (.getfield 25, 3) := by decide +kernel
theorem dX5_reset_34 : decode cX5_reset 34 = .ok (.iload_n 2, 1) := by decide +kernel
theorem dX5_reset_35 : decode cX5_reset 35 = .ok (.iconst 0, 1) := by decide +kernel
theorem dX5_reset_36 : decode cX5_reset 36 = .ok (.iastore, 1) := by decide +kernel
theorem dX5_reset_37 : decode cX5_reset 37 = .ok (.aload_n 0, 1) := by decide +kernel
theorem dX5_reset_38 : decode cX5_reset 38 = .ok (.getfield 28, 3) := by decide +kernel
theorem dX5_reset_41 : decode cX5_reset 41 = .ok (.iload_n 2, 1) := by decide +kernel
theorem dX5_reset_42 : decode cX5_reset 42 = .ok (.aload_n 1, 1) := by decide +kernel
theorem dX5_reset_43 : decode cX5_reset 43 = .ok (.iload_n 2, 1) := by decide +kernel
theorem dX5_reset_44 : decode cX5_reset 44 = .ok (.iconst 0, 1) := by decide +kernel
theorem dX5_reset_45 : decode cX5_reset 45 = .ok (.invokevirtual 47, 3) := by decide +kernel
theorem dX5_reset_48 : decode cX5_reset 48 = .ok (.iastore, 1) := by decide +kernel
theorem dX5_reset_49 : decode cX5_reset 49 = .ok (.aload_n 0, 1) := by decide +kernel
theorem dX5_reset_50 : decode cX5_reset 50 = .ok (.getfield 31, 3) := by decide +kernel
theorem dX5_reset_53 : decode cX5_reset 53 = .ok (.iload_n 2, 1) := by decide +kernel
theorem dX5_reset_54 : decode cX5_reset 54 = .ok (.iconst 0, 1) := by decide +kernel
theorem dX5_reset_55 : decode cX5_reset 55 = .ok (.iastore, 1) := by decide +kernel
theorem dX5_reset_56 : decode cX5_reset 56 = .ok (.iinc 2 1, 3) := by decide +kernel
theorem dX5_reset_59 : decode cX5_reset 59 = .ok (.goto (-49), 3) := by decide +kernel
theorem dX5_reset_62 : decode cX5_reset 62 = .ok (.aload_n 0, 1) := by decide +kernel
theorem dX5_reset_63 : decode cX5_reset 63 = .ok (.iconst 0, 1) := by decide +kernel
theorem dX5_reset_64 : decode cX5_reset 64 = .ok (.putfield 34, 3) := by decide +kernel
theorem dX5_reset_67 : decode cX5_reset 67 = .ok (.aload_n 0, 1) := by decide +kernel
theorem dX5_reset_68 : decode cX5_reset 68 = .ok (.iconst 0, 1) := by decide +kernel
theorem dX5_reset_69 : decode cX5_reset 69 = .ok (.putfield 38, 3) := by decide +kernel
theorem dX5_reset_72 : decode cX5_reset 72 = .ok (.aload_n 0, 1) := by decide +kernel
theorem dX5_reset_73 : decode cX5_reset 73 = .ok (.iconst 0, 1) := by decide +kernel
theorem dX5_reset_74 : decode cX5_reset 74 = .ok (.putfield 51, 3) := by decide +kernel
theorem dX5_reset_77 : decode cX5_reset 77 = .ok (.aload_n 0, 1) := by decide +kernel
theorem dX5_reset_78 : decode cX5_reset 78 = .ok (.iconst 0, 1) := by decide +kernel
theorem dX5_reset_79 : decode cX5_reset 79 = .ok (.putfield 54, 3) := by decide +kernel
theorem dX5_reset_82 : decode cX5_reset 82 = .ok (.aload_n 0, 1) := by decide +kernel
theorem dX5_reset_83 : decode cX5_reset 83 = .ok (.aload_n 1, 1) := by decide +kernel
theorem dX5_reset_84 : decode cX5_reset 84 = .ok (.getfield 57, 3) := by decide +kernel
theorem dX5_reset_87 : decode cX5_reset 87 = .ok (.putfield 60, 3) := by decide +kernel
theorem dX5_reset_90 : decode cX5_reset 90 = .ok (.aload_n 0, 1) := by decide +kernel
theorem dX5_reset_91 : decode cX5_reset 91 = .ok (.iconst 0, 1) := by decide +kernel
theorem dX5_reset_92 : decode cX5_reset 92 = .ok (.putfield 63, 3) := by decide +kernel
theorem dX5_reset_95 : decode cX5_reset 95 = .ok (.aload_n 0, 1) := by decide +kernel
theorem dX5_reset_96 : decode cX5_reset 96 = .ok (.iconst 0, 1) := by decide +kernel
theorem dX5_reset_97 : decode cX5_reset 97 = .ok (.putfield 66, 3) := by decide +kernel
theorem dX5_reset_100 : decode cX5_reset 100 = .ok (.aload_n 0, 1) := by decide +kernel
theorem dX5_reset_101 : decode cX5_reset 101 = .ok (.iconst 0, 1) := by decide +kernel
theorem dX5_reset_102 : decode cX5_reset 102 = .ok (.putfield 69, 3) := by decide +kernel
theorem dX5_reset_105 : decode cX5_reset 105 = .ok (.return_, 1) := by decide +kernel
theorem dX5_turnKey_0 : decode cX5_turnKey 0 = .ok (.aload_n 0, 1) := by decide +kernel
theorem dX5_turnKey_1 : decode cX5_turnKey 1 = .ok (.iload_n 2, 1) := by decide +kernel
theorem dX5_turnKey_2 : decode cX5_turnKey 2 = .ok (.putfield 38, 3) := by decide +kernel
theorem dX5_turnKey_5 : decode cX5_turnKey 5 = .ok (.iload_n 2, 1) := by decide +kernel
theorem dX5_turnKey_6 : decode cX5_turnKey 6 = .ok (.ifCond .ne 25, 3) := by decide +kernel
theorem dX5_turnKey_9 : decode cX5_turnKey 9 = .ok (.aload_n 0, 1) := by decide +kernel
theorem dX5_turnKey_10 : decode cX5_turnKey 10 = .ok (.aload_n 1, 1) := by decide +kernel
theorem dX5_turnKey_11 : decode cX5_turnKey 11 = .ok (.getfield 57, 3) := by decide +kernel
theorem dX5_turnKey_14 : decode cX5_turnKey 14 = .ok (.putfield 60, 3) := by decide +kernel
theorem dX5_turnKey_17 : decode cX5_turnKey 17 = .ok (.aload_n 0, 1) := by decide +kernel
theorem dX5_turnKey_18 : decode cX5_turnKey 18 = .ok (.getfield 54, 3) := by decide +kernel
theorem dX5_turnKey_21 : decode cX5_turnKey 21 = .ok (.bipush (-4), 2) := by decide +kernel
theorem dX5_turnKey_23 : decode cX5_turnKey 23 = .ok (.if_icmp .ne 8, 3) := by decide +kernel
theorem dX5_turnKey_31 : decode cX5_turnKey 31 = .ok (.return_, 1) := by decide +kernel
theorem dX5_railsThatAre_0 : decode cX5_railsThatAre 0 = .ok (.iconst 0, 1) := by decide +kernel
theorem dX5_railsThatAre_1 : decode cX5_railsThatAre 1 = .ok (.istore_n 2, 1) := by decide +kernel
theorem dX5_railsThatAre_2 : decode cX5_railsThatAre 2 = .ok (.iconst 0, 1) := by decide +kernel
theorem dX5_railsThatAre_3 : decode cX5_railsThatAre 3 = .ok (.istore_n 3, 1) := by decide +kernel
theorem dX5_railsThatAre_4 : decode cX5_railsThatAre 4 = .ok (.iload_n 3, 1) := by decide +kernel
theorem dX5_railsThatAre_5 : decode cX5_railsThatAre 5 = .ok (.bipush 8, 2) := by decide +kernel
theorem dX5_railsThatAre_7 : decode cX5_railsThatAre 7 = .ok (.if_icmp .ge 25, 3) := by decide +kernel
theorem dX5_railsThatAre_10 : decode cX5_railsThatAre 10 = .ok (.aload_n 0, 1) := by decide +kernel
theorem dX5_railsThatAre_11 : decode cX5_railsThatAre 11 = .ok (.getfield 18, 3) := by decide +kernel
theorem dX5_railsThatAre_14 : decode cX5_railsThatAre 14 = .ok (.iload_n 3, 1) := by decide +kernel
theorem dX5_railsThatAre_15 : decode cX5_railsThatAre 15 = .ok (.iaload, 1) := by decide +kernel
theorem dX5_railsThatAre_16 : decode cX5_railsThatAre 16 = .ok (.iload_n 1, 1) := by decide +kernel
theorem dX5_railsThatAre_17 : decode cX5_railsThatAre 17 = .ok (.if_icmp .ne 9, 3) := by decide +kernel
theorem dX5_railsThatAre_26 : decode cX5_railsThatAre 26 = .ok (.iinc 3 1, 3) := by decide +kernel
theorem dX5_railsThatAre_29 : decode cX5_railsThatAre 29 = .ok (.goto (-25), 3) := by decide +kernel
theorem dX5_railsThatAre_32 : decode cX5_railsThatAre 32 = .ok (.iload_n 2, 1) := by decide +kernel
theorem dX5_railsThatAre_33 : decode cX5_railsThatAre 33 = .ok (.ireturn, 1) := by decide +kernel
theorem dX5_passTick_0 : decode cX5_passTick 0 = .ok (.aload_n 0, 1) := by decide +kernel
theorem dX5_passTick_1 : decode cX5_passTick 1 = .ok (.aload_n 1, 1) := by decide +kernel
theorem dX5_passTick_2 : decode cX5_passTick 2 = .ok (.invokevirtual 72, 3) := by decide +kernel
theorem dX5_passTick_5 : decode cX5_passTick 5 = .ok (.aload_n 0, 1) := by decide +kernel
theorem dX5_passTick_6 : decode cX5_passTick 6 = .ok (.aload_n 0, 1) := by decide +kernel
theorem dX5_passTick_7 : decode cX5_passTick 7 = .ok (.aload_n 1, 1) := by decide +kernel
theorem dX5_passTick_8 : decode cX5_passTick 8 = .ok (.invokevirtual 76, 3) := by decide +kernel
theorem dX5_passTick_11 : decode cX5_passTick 11 = .ok (.putfield 66, 3) := by decide +kernel
theorem dX5_passTick_14 : decode cX5_passTick 14 = .ok (.aload_n 0, 1) := by decide +kernel
theorem dX5_passTick_15 : decode cX5_passTick 15 = .ok (.aload_n 0, 1) := by decide +kernel
theorem dX5_passTick_16 : decode cX5_passTick 16 = .ok (.getfield 69, 3) := by decide +kernel
theorem dX5_passTick_19 : decode cX5_passTick 19 = .ok (.aload_n 0, 1) := by decide +kernel
theorem dX5_passTick_20 : decode cX5_passTick 20 = .ok (.getfield 66, 3) := by decide +kernel
theorem dX5_passTick_23 : decode cX5_passTick 23 = .ok (.invokestatic 80, 3) := by decide +kernel
theorem dX5_passTick_26 : decode cX5_passTick 26 = .ok (.putfield 69, 3) := by decide +kernel
theorem dX5_passTick_29 : decode cX5_passTick 29 = .ok (.aload_n 0, 1) := by decide +kernel
theorem dX5_passTick_30 : decode cX5_passTick 30 = .ok (.aload_n 1, 1) := by decide +kernel
theorem dX5_passTick_31 : decode cX5_passTick 31 = .ok (.invokevirtual 85, 3) := by decide +kernel
theorem dX5_passTick_34 : decode cX5_passTick 34 = .ok (.istore_n 2, 1) := by decide +kernel
theorem dX5_passTick_35 : decode cX5_passTick 35 = .ok (.iload_n 2, 1) := by decide +kernel
theorem dX5_passTick_36 : decode cX5_passTick 36 = .ok (.ifCond .eq 14, 3) := by decide +kernel
theorem dX5_passTick_50 : decode cX5_passTick 50 = .ok (.aload_n 0, 1) := by decide +kernel
theorem dX5_passTick_51 : decode cX5_passTick 51 = .ok (.aload_n 1, 1) := by decide +kernel
theorem dX5_passTick_52 : decode cX5_passTick 52 = .ok (.invokevirtual 92, 3) := by decide +kernel
theorem dX5_passTick_55 : decode cX5_passTick 55 = .ok (.return_, 1) := by decide +kernel
theorem dX5_settle_0 : decode cX5_settle 0 = .ok (.iconst 1, 1) := by decide +kernel
theorem dX5_settle_1 : decode cX5_settle 1 = .ok (.istore_n 2, 1) := by decide +kernel
theorem dX5_settle_2 : decode cX5_settle 2 = .ok (.iconst 0, 1) := by decide +kernel
theorem dX5_settle_3 : decode cX5_settle 3 = .ok (.istore_n 3, 1) := by decide +kernel
theorem dX5_settle_4 : decode cX5_settle 4 = .ok (.iload_n 3, 1) := by decide +kernel
theorem dX5_settle_5 : decode cX5_settle 5 = .ok (.sipush 1000, 3) := by decide +kernel
theorem dX5_settle_8 : decode cX5_settle 8 = .ok (.if_icmp .ge 24, 3) := by decide +kernel
theorem dX5_settle_11 : decode cX5_settle 11 = .ok (.iload_n 2, 1) := by decide +kernel
theorem dX5_settle_12 : decode cX5_settle 12 = .ok (.ifCond .eq 20, 3) := by decide +kernel
theorem dX5_settle_15 : decode cX5_settle 15 = .ok (.aload_n 0, 1) := by decide +kernel
theorem dX5_settle_16 : decode cX5_settle 16 = .ok (.aload_n 1, 1) := by decide +kernel
theorem dX5_settle_17 : decode cX5_settle 17 = .ok (.aload_n 0, 1) := by decide +kernel
theorem dX5_settle_18 : decode cX5_settle 18 = .ok (.aload_n 1, 1) := by decide +kernel
theorem dX5_settle_19 : decode cX5_settle 19 = .ok (.invokevirtual 95, 3) := by decide +kernel
theorem dX5_settle_22 : decode cX5_settle 22 = .ok (.invokevirtual 98, 3) := by decide +kernel
theorem dX5_settle_25 : decode cX5_settle 25 = .ok (.istore_n 2, 1) := by decide +kernel
theorem dX5_settle_26 : decode cX5_settle 26 = .ok (.iinc 3 1, 3) := by decide +kernel
theorem dX5_settle_29 : decode cX5_settle 29 = .ok (.goto (-25), 3) := by decide +kernel
theorem dX5_settle_32 : decode cX5_settle 32 = .ok (.return_, 1) := by decide +kernel
theorem dX5_railsThatMay_0 : decode cX5_railsThatMay 0 = .ok (.aload_n 0, 1) := by decide +kernel
theorem dX5_railsThatMay_1 : decode cX5_railsThatMay 1 = .ok (.getfield 54, 3) := by decide +kernel
theorem dX5_railsThatMay_4 : decode cX5_railsThatMay 4 = .ok (.ifCond .eq 5, 3) := by decide +kernel
theorem dX5_railsThatMay_9 : decode cX5_railsThatMay 9 = .ok (.aload_n 0, 1) := by decide +kernel
theorem dX5_railsThatMay_10 : decode cX5_railsThatMay 10 = .ok (.iconst 3, 1) := by decide +kernel
theorem dX5_railsThatMay_11 : decode cX5_railsThatMay 11 = .ok (.invokevirtual 102, 3) := by decide +kernel
theorem dX5_railsThatMay_14 : decode cX5_railsThatMay 14 = .ok (.aload_n 0, 1) := by decide +kernel
theorem dX5_railsThatMay_15 : decode cX5_railsThatMay 15 = .ok (.getfield 38, 3) := by decide +kernel
theorem dX5_railsThatMay_18 : decode cX5_railsThatMay 18 = .ok (.ifCond .eq 9, 3) := by decide +kernel
theorem dX5_railsThatMay_27 : decode cX5_railsThatMay 27 = .ok (.iconst 0, 1) := by decide +kernel
theorem dX5_railsThatMay_28 : decode cX5_railsThatMay 28 = .ok (.ior, 1) := by decide +kernel
theorem dX5_railsThatMay_29 : decode cX5_railsThatMay 29 = .ok (.istore_n 2, 1) := by decide +kernel
theorem dX5_railsThatMay_30 : decode cX5_railsThatMay 30 = .ok (.iconst 0, 1) := by decide +kernel
theorem dX5_railsThatMay_31 : decode cX5_railsThatMay 31 = .ok (.istore_n 3, 1) := by decide +kernel
theorem dX5_railsThatMay_32 : decode cX5_railsThatMay 32 = .ok (.iconst 0, 1) := by decide +kernel
theorem dX5_railsThatMay_33 : decode cX5_railsThatMay 33 = .ok (.istore 4, 2) := by decide +kernel
theorem dX5_railsThatMay_35 : decode cX5_railsThatMay 35 = .ok (.iload 4, 2) := by decide +kernel
theorem dX5_railsThatMay_37 : decode cX5_railsThatMay 37 = .ok (.aload_n 1, 1) := by decide +kernel
theorem dX5_railsThatMay_38 : decode cX5_railsThatMay 38 = .ok (.getfield 106, 3) := by decide +kernel
theorem dX5_railsThatMay_41 : decode cX5_railsThatMay 41 = .ok (.if_icmp .ge 26, 3) := by decide +kernel
theorem dX5_railsThatMay_67 : decode cX5_railsThatMay 67 = .ok (.iload_n 3, 1) := by decide +kernel
theorem dX5_railsThatMay_68 : decode cX5_railsThatMay 68 = .ok (.ireturn, 1) := by decide +kernel
theorem dX5_changeRails_0 : decode cX5_changeRails 0 = .ok (.iconst 0, 1) := by decide +kernel
theorem dX5_changeRails_1 : decode cX5_changeRails 1 = .ok (.istore_n 3, 1) := by decide +kernel
theorem dX5_changeRails_2 : decode cX5_changeRails 2 = .ok (.iconst 0, 1) := by decide +kernel
theorem dX5_changeRails_3 : decode cX5_changeRails 3 = .ok (.istore 4, 2) := by decide +kernel
theorem dX5_changeRails_5 : decode cX5_changeRails 5 = .ok (.iload 4, 2) := by decide +kernel
theorem dX5_changeRails_7 : decode cX5_changeRails 7 = .ok (.aload_n 1, 1) := by decide +kernel
theorem dX5_changeRails_8 : decode cX5_changeRails 8 = .ok (.getfield 106, 3) := by decide +kernel
theorem dX5_changeRails_11 : decode cX5_changeRails 11 = .ok (.if_icmp .ge 55, 3) := by decide +kernel
theorem dX5_changeRails_66 : decode cX5_changeRails 66 = .ok (.iload_n 3, 1) := by decide +kernel
theorem dX5_changeRails_67 : decode cX5_changeRails 67 = .ok (.ireturn, 1) := by decide +kernel
theorem dX5_sumDraw_0 : decode cX5_sumDraw 0 = .ok (.iconst 0, 1) := by decide +kernel
theorem dX5_sumDraw_1 : decode cX5_sumDraw 1 = .ok (.istore_n 2, 1) := by decide +kernel
theorem dX5_sumDraw_2 : decode cX5_sumDraw 2 = .ok (.iconst 0, 1) := by decide +kernel
theorem dX5_sumDraw_3 : decode cX5_sumDraw 3 = .ok (.istore_n 3, 1) := by decide +kernel
theorem dX5_sumDraw_4 : decode cX5_sumDraw 4 = .ok (.iload_n 3, 1) := by decide +kernel
theorem dX5_sumDraw_5 : decode cX5_sumDraw 5 = .ok (.aload_n 1, 1) := by decide +kernel
theorem dX5_sumDraw_6 : decode cX5_sumDraw 6 = .ok (.getfield 106, 3) := by decide +kernel
theorem dX5_sumDraw_9 : decode cX5_sumDraw 9 = .ok (.if_icmp .ge 50, 3) := by decide +kernel
theorem dX5_sumDraw_59 : decode cX5_sumDraw 59 = .ok (.iload_n 2, 1) := by decide +kernel
theorem dX5_sumDraw_60 : decode cX5_sumDraw 60 = .ok (.ireturn, 1) := by decide +kernel
theorem dX5_whyTrip_0 : decode cX5_whyTrip 0 = .ok (.aload_n 0, 1) := by decide +kernel
theorem dX5_whyTrip_1 : decode cX5_whyTrip 1 = .ok (.getfield 66, 3) := by decide +kernel
theorem dX5_whyTrip_4 : decode cX5_whyTrip 4 = .ok (.aload_n 1, 1) := by decide +kernel
theorem dX5_whyTrip_5 : decode cX5_whyTrip 5 = .ok (.getfield 125, 3) := by decide +kernel
theorem dX5_whyTrip_8 : decode cX5_whyTrip 8 = .ok (.if_icmp .le 5, 3) := by decide +kernel
theorem dX5_whyTrip_13 : decode cX5_whyTrip 13 = .ok (.iconst 0, 1) := by decide +kernel
theorem dX5_whyTrip_14 : decode cX5_whyTrip 14 = .ok (.istore_n 2, 1) := by decide +kernel
theorem dX5_whyTrip_15 : decode cX5_whyTrip 15 = .ok (.iload_n 2, 1) := by decide +kernel
theorem dX5_whyTrip_16 : decode cX5_whyTrip 16 = .ok (.aload_n 1, 1) := by decide +kernel
theorem dX5_whyTrip_17 : decode cX5_whyTrip 17 = .ok (.getfield 106, 3) := by decide +kernel
theorem dX5_whyTrip_20 : decode cX5_whyTrip 20 = .ok (.if_icmp .ge 65, 3) := by decide +kernel
theorem dX5_whyTrip_85 : decode cX5_whyTrip 85 = .ok (.iconst 0, 1) := by decide +kernel
theorem dX5_whyTrip_86 : decode cX5_whyTrip 86 = .ok (.ireturn, 1) := by decide +kernel
theorem dX5_growOlder_0 : decode cX5_growOlder 0 = .ok (.iconst 0, 1) := by decide +kernel
theorem dX5_growOlder_1 : decode cX5_growOlder 1 = .ok (.istore_n 2, 1) := by decide +kernel
theorem dX5_growOlder_2 : decode cX5_growOlder 2 = .ok (.iload_n 2, 1) := by decide +kernel
theorem dX5_growOlder_3 : decode cX5_growOlder 3 = .ok (.aload_n 1, 1) := by decide +kernel
theorem dX5_growOlder_4 : decode cX5_growOlder 4 = .ok (.getfield 106, 3) := by decide +kernel
theorem dX5_growOlder_7 : decode cX5_growOlder 7 = .ok (.if_icmp .ge 29, 3) := by decide +kernel
theorem dX5_growOlder_36 : decode cX5_growOlder 36 = .ok (.aload_n 0, 1) := by decide +kernel
theorem dX5_growOlder_37 : decode cX5_growOlder 37 = .ok (.dup, 1) := by decide +kernel
theorem dX5_growOlder_38 : decode cX5_growOlder 38 = .ok (.getfield 51, 3) := by decide +kernel
theorem dX5_growOlder_41 : decode cX5_growOlder 41 = .ok (.iconst 1, 1) := by decide +kernel
theorem dX5_growOlder_42 : decode cX5_growOlder 42 = .ok (.iadd, 1) := by decide +kernel
theorem dX5_growOlder_43 : decode cX5_growOlder 43 = .ok (.putfield 51, 3) := by decide +kernel
theorem dX5_growOlder_46 : decode cX5_growOlder 46 = .ok (.aload_n 0, 1) := by decide +kernel
theorem dX5_growOlder_47 : decode cX5_growOlder 47 = .ok (.getfield 54, 3) := by decide +kernel
theorem dX5_growOlder_50 : decode cX5_growOlder 50 = .ok (.ifCond .le 13, 3) := by decide +kernel
theorem dX5_growOlder_63 : decode cX5_growOlder 63 = .ok (.return_, 1) := by decide +kernel
theorem dX6_init_0 : decode cX6_init 0 = .ok (.aload_n 0, 1) := by decide +kernel
theorem dX6_init_1 : decode cX6_init 1 = .ok (.invokespecial 3, 3) := by decide +kernel
theorem dX6_init_4 : decode cX6_init 4 = .ok (.aload_n 0, 1) := by decide +kernel
theorem dX6_init_5 : decode cX6_init 5 = .ok (.iconst 4, 1) := by decide +kernel
theorem dX6_init_6 : decode cX6_init 6 = .ok (.bipush 40, 2) := by decide +kernel
theorem dX6_init_8 : decode cX6_init 8 = .ok (.multianewarray 11 2, 4) := by decide +kernel
theorem dX6_init_12 : decode cX6_init 12 = .ok (.putfield 13, 3) := by decide +kernel
theorem dX6_init_15 : decode cX6_init 15 = .ok (.aload_n 0, 1) := by decide +kernel
theorem dX6_init_16 : decode cX6_init 16 = .ok (.iconst 4, 1) := by decide +kernel
theorem dX6_init_17 : decode cX6_init 17 = .ok (.newarray .int, 2) := by decide +kernel
theorem dX6_init_19 : decode cX6_init 19 = .ok (.putfield 16, 3) := by decide +kernel
theorem dX6_init_22 : decode cX6_init 22 = .ok (.aload_n 0, 1) := by decide +kernel
theorem dX6_init_23 : decode cX6_init 23 = .ok (.iconst 4, 1) := by decide +kernel
theorem dX6_init_24 : decode cX6_init 24 = .ok (.newarray .int, 2) := by decide +kernel
theorem dX6_init_26 : decode cX6_init 26 = .ok (.putfield 20, 3) := by decide +kernel
theorem dX6_init_29 : decode cX6_init 29 = .ok (.aload_n 0, 1) := by decide +kernel
theorem dX6_init_30 : decode cX6_init 30 = .ok (.getfield 20, 3) := by decide +kernel
theorem dX6_init_33 : decode cX6_init 33 = .ok (.bipush (-4), 2) := by decide +kernel
theorem dX6_init_35 : decode cX6_init 35 = .ok (.invokestatic 23, 3) := by decide +kernel
theorem dX6_init_38 : decode cX6_init 38 = .ok (.return_, 1) := by decide +kernel
theorem dX6_hasPlace_0 : decode cX6_hasPlace 0 = .ok (.iload_n 0, 1) := by decide +kernel
theorem dX6_hasPlace_1 : decode cX6_hasPlace 1 = .ok (.ifCond .lt 12, 3) := by decide +kernel
theorem dX6_hasPlace_4 : decode cX6_hasPlace 4 = .ok (.iload_n 0, 1) := by decide +kernel
theorem dX6_hasPlace_5 : decode cX6_hasPlace 5 = .ok (.iconst 4, 1) := by decide +kernel
theorem dX6_hasPlace_6 : decode cX6_hasPlace 6 = .ok (.if_icmp .ge 7, 3) := by decide +kernel
theorem dX6_hasPlace_9 : decode cX6_hasPlace 9 = .ok (.iconst 1, 1) := by decide +kernel
theorem dX6_hasPlace_10 : decode cX6_hasPlace 10 = .ok (.goto 4, 3) := by decide +kernel
theorem dX6_hasPlace_13 : decode cX6_hasPlace 13 = .ok (.iconst 0, 1) := by decide +kernel
theorem dX6_hasPlace_14 : decode cX6_hasPlace 14 = .ok (.ireturn, 1) := by decide +kernel
theorem dX6_isLane_0 : decode cX6_isLane 0 = .ok (.iload_n 0, 1) := by decide +kernel
theorem dX6_isLane_1 : decode cX6_isLane 1 = .ok (.ifCond .lt 12, 3) := by decide +kernel
theorem dX6_isLane_4 : decode cX6_isLane 4 = .ok (.iload_n 0, 1) := by decide +kernel
theorem dX6_isLane_5 : decode cX6_isLane 5 = .ok (.iconst 2, 1) := by decide +kernel
theorem dX6_isLane_6 : decode cX6_isLane 6 = .ok (.if_icmp .gt 7, 3) := by decide +kernel
theorem dX6_isLane_9 : decode cX6_isLane 9 = .ok (.iconst 1, 1) := by decide +kernel
theorem dX6_isLane_10 : decode cX6_isLane 10 = .ok (.goto 4, 3) := by decide +kernel
theorem dX6_isLane_13 : decode cX6_isLane 13 = .ok (.iconst 0, 1) := by decide +kernel
theorem dX6_isLane_14 : decode cX6_isLane 14 = .ok (.ireturn, 1) := by decide +kernel
theorem dX6_renew_0 : decode cX6_renew 0 = .ok (.aload_n 0, 1) := by decide +kernel
theorem dX6_renew_1 : decode cX6_renew 1 = .ok (.getfield 16, 3) := by decide +kernel
theorem dX6_renew_4 : decode cX6_renew 4 = .ok (.iload_n 1, 1) := by decide +kernel
theorem dX6_renew_5 : decode cX6_renew 5 = .ok (.iload_n 2, 1) := by decide +kernel
theorem dX6_renew_6 : decode cX6_renew 6 = .ok (.iastore, 1) := by decide +kernel
theorem dX6_renew_7 : decode cX6_renew 7 = .ok (.aload_n 0, 1) := by decide +kernel
theorem dX6_renew_8 : decode cX6_renew 8 = .ok (.getfield 20, 3) := by decide +kernel
theorem dX6_renew_11 : decode cX6_renew 11 = .ok (.iload_n 1, 1) := by decide +kernel
theorem dX6_renew_12 : decode cX6_renew 12 = .ok (.iload_n 3, 1) := by decide +kernel
theorem dX6_renew_13 : decode cX6_renew 13 = .ok (.iastore, 1) := by decide +kernel
theorem dX6_renew_14 : decode cX6_renew 14 = .ok (.aload_n 0, 1) := by decide +kernel
theorem dX6_renew_15 : decode cX6_renew 15 = .ok (.getfield 13, 3) := by decide +kernel
theorem dX6_renew_18 : decode cX6_renew 18 = .ok (.iload_n 1, 1) := by decide +kernel
theorem dX6_renew_19 : decode cX6_renew 19 = .ok (.aaload, 1) := by decide +kernel
theorem dX6_renew_20 : decode cX6_renew 20 = .ok (.iconst 0, 1) := by decide +kernel
theorem dX6_renew_21 : decode cX6_renew 21 = .ok (.invokestatic 23, 3) := by decide +kernel
theorem dX6_renew_24 : decode cX6_renew 24 = .ok (.return_, 1) := by decide +kernel
theorem dX7_init_0 : decode cX7_init 0 = .ok (.aload_n 0, 1) := by decide +kernel
theorem dX7_init_1 : decode cX7_init 1 = .ok (.invokespecial 3, 3) := by decide +kernel
theorem dX7_init_4 : decode cX7_init 4 = .ok (.aload_n 0, 1) := by decide +kernel
theorem dX7_init_5 : decode cX7_init 5 = .ok (.aload_n 1, 1) := by decide +kernel
theorem dX7_init_6 : decode cX7_init 6 = .ok (.putfield 9, 3) := by decide +kernel
theorem dX7_init_9 : decode cX7_init 9 = .ok (.aload_n 0, 1) := by decide +kernel
theorem dX7_init_10 : decode cX7_init 10 = .ok (.bipush 8, 2) := by decide +kernel
theorem dX7_init_12 : decode cX7_init 12 = .ok (.newarray .int, 2) := by decide +kernel
theorem dX7_init_14 : decode cX7_init 14 = .ok (.putfield 15, 3) := by decide +kernel
theorem dX7_init_17 : decode cX7_init 17 = .ok (.aload_n 0, 1) := by decide +kernel
theorem dX7_init_18 : decode cX7_init 18 = .ok (.iconst 0, 1) := by decide +kernel
theorem dX7_init_19 : decode cX7_init 19 = .ok (.putfield 19, 3) := by decide +kernel
theorem dX7_init_22 : decode cX7_init 22 = .ok (.aload_n 0, 1) := by decide +kernel
theorem dX7_init_23 : decode cX7_init 23 = .ok (.bipush (-4), 2) := by decide +kernel
theorem dX7_init_25 : decode cX7_init 25 = .ok (.putfield 23, 3) := by decide +kernel
theorem dX7_init_28 : decode cX7_init 28 = .ok (.return_, 1) := by decide +kernel
theorem dX7_findRow_0 : decode cX7_findRow 0 = .ok (.aload_n 0, 1) := by decide +kernel
theorem dX7_findRow_1 : decode cX7_findRow 1 = .ok (.getfield 19, 3) := by decide +kernel
theorem dX7_findRow_4 : decode cX7_findRow 4 = .ok (.ifCond .eq 4, 3) := by decide +kernel
theorem dX7_findRow_8 : decode cX7_findRow 8 = .ok (.aload_n 0, 1) := by decide +kernel
theorem dX7_findRow_9 : decode cX7_findRow 9 = .ok (.iconst 1, 1) := by decide +kernel
theorem dX7_findRow_10 : decode cX7_findRow 10 = .ok (.putfield 19, 3) := by decide +kernel
theorem dX7_findRow_13 : decode cX7_findRow 13 = .ok (.aload_n 0, 1) := by decide +kernel
theorem dX7_findRow_14 : decode cX7_findRow 14 = .ok (.bipush (-4), 2) := by decide +kernel
theorem dX7_findRow_16 : decode cX7_findRow 16 = .ok (.putfield 23, 3) := by decide +kernel
theorem dX7_findRow_19 : decode cX7_findRow 19 = .ok (.aload_n 0, 1) := by decide +kernel
theorem dX7_findRow_20 : decode cX7_findRow 20 = .ok (.getfield 15, 3) := by decide +kernel
theorem dX7_findRow_23 : decode cX7_findRow 23 = .ok (.iconst 0, 1) := by decide +kernel
theorem dX7_findRow_24 : decode cX7_findRow 24 = .ok (.invokestatic 27, 3) := by decide +kernel
theorem dX7_findRow_27 : decode cX7_findRow 27 = .ok (.aload_n 0, 1) := by decide +kernel
theorem dX7_findRow_28 : decode cX7_findRow 28 = .ok (.getfield 9, 3) := by decide +kernel
theorem dX7_findRow_31 : decode cX7_findRow 31 = .ok (.getfield 33, 3) := by decide +kernel
theorem dX7_findRow_34 : decode cX7_findRow 34 = .ok (.iconst 0, 1) := by decide +kernel
theorem dX7_findRow_35 : decode cX7_findRow 35 = .ok (.invokestatic 27, 3) := by decide +kernel
theorem dX7_findRow_38 : decode cX7_findRow 38 = .ok (.aload_n 0, 1) := by decide +kernel
theorem dX7_findRow_39 : decode cX7_findRow 39 = .ok (.getfield 9, 3) := by decide +kernel
theorem dX7_findRow_42 : decode cX7_findRow 42 = .ok (.aload_n 3, 1) := by decide +kernel
theorem dX7_findRow_43 : decode cX7_findRow 43 = .ok (.invokevirtual 38, 3) := by decide +kernel
theorem dX7_findRow_46 : decode cX7_findRow 46 = .ok (.aload_n 0, 1) := by decide +kernel
theorem dX7_findRow_47 : decode cX7_findRow 47 = .ok (.getfield 9, 3) := by decide +kernel
theorem dX7_findRow_50 : decode cX7_findRow 50 = .ok (.aload_n 1, 1) := by decide +kernel
theorem dX7_findRow_51 : decode cX7_findRow 51 = .ok (.iload_n 2, 1) := by decide +kernel
theorem dX7_findRow_52 : decode cX7_findRow 52 = .ok (.invokevirtual 42, 3) := by decide +kernel
theorem dX7_findRow_55 : decode cX7_findRow 55 = .ok (.aload_n 0, 1) := by decide +kernel
theorem dX7_findRow_56 : decode cX7_findRow 56 = .ok (.getfield 9, 3) := by decide +kernel
theorem dX7_findRow_59 : decode cX7_findRow 59 = .ok (.getfield 46, 3) := by decide +kernel
theorem dX7_findRow_62 : decode cX7_findRow 62 = .ok (.istore 4, 2) := by decide +kernel
theorem dX7_findRow_64 : decode cX7_findRow 64 = .ok (.iload 4, 2) := by decide +kernel
theorem dX7_findRow_66 : decode cX7_findRow 66 = .ok (.ifCond .ne 4, 3) := by decide +kernel
theorem dX7_findRow_69 : decode cX7_findRow 69 = .ok (.return_, 1) := by decide +kernel
theorem dX8_init_0 : decode cX8_init 0 = .ok (.aload_n 0, 1) := by decide +kernel
theorem dX8_init_1 : decode cX8_init 1 = .ok (.invokespecial 1, 3) := by decide +kernel
theorem dX8_init_4 : decode cX8_init 4 = .ok (.aload_n 0, 1) := by decide +kernel
theorem dX8_init_5 : decode cX8_init 5 = .ok (.sipush 400, 3) := by decide +kernel
theorem dX8_init_8 : decode cX8_init 8 = .ok (.newarray .int, 2) := by decide +kernel
theorem dX8_init_10 : decode cX8_init 10 = .ok (.putfield 9, 3) := by decide +kernel
theorem dX8_init_13 : decode cX8_init 13 = .ok (.aload_n 0, 1) := by decide +kernel
theorem dX8_init_14 : decode cX8_init 14 = .ok (.iconst 0, 1) := by decide +kernel
theorem dX8_init_15 : decode cX8_init 15 = .ok (.putfield 13, 3) := by decide +kernel
theorem dX8_init_18 : decode cX8_init 18 = .ok (.return_, 1) := by decide +kernel
theorem dX8_push_0 : decode cX8_push 0 = .ok (.aload_n 0, 1) := by decide +kernel
theorem dX8_push_1 : decode cX8_push 1 = .ok (.getfield 13, 3) := by decide +kernel
theorem dX8_push_4 : decode cX8_push 4 = .ok (.bipush 8, 2) := by decide +kernel
theorem dX8_push_6 : decode cX8_push 6 = .ok (.iadd, 1) := by decide +kernel
theorem dX8_push_7 : decode cX8_push 7 = .ok (.sipush 400, 3) := by decide +kernel
theorem dX8_push_10 : decode cX8_push 10 = .ok (.if_icmp .le 5, 3) := by decide +kernel
theorem dX8_push_15 : decode cX8_push 15 = .ok (.bipush 56, 2) := by decide +kernel
theorem dX8_push_17 : decode cX8_push 17 = .ok (.istore_n 3, 1) := by decide +kernel
theorem dX8_push_18 : decode cX8_push 18 = .ok (.iload_n 3, 1) := by decide +kernel
theorem dX8_push_19 : decode cX8_push 19 = .ok (.ifCond .lt 36, 3) := by decide +kernel
theorem dX8_push_22 : decode cX8_push 22 = .ok (.aload_n 0, 1) := by decide +kernel
theorem dX8_push_23 : decode cX8_push 23 = .ok (.getfield 9, 3) := by decide +kernel
theorem dX8_push_26 : decode cX8_push 26 = .ok (.aload_n 0, 1) := by decide +kernel
theorem dX8_push_27 : decode cX8_push 27 = .ok (.getfield 13, 3) := by decide +kernel
theorem dX8_push_30 : decode cX8_push 30 = .ok (.lload_n 1, 1) := by decide +kernel
theorem dX8_push_31 : decode cX8_push 31 = .ok (.iload_n 3, 1) := by decide +kernel
theorem dX8_push_32 : decode cX8_push 32 = .ok (.lushr, 1) := by decide +kernel
theorem dX8_push_33 : decode cX8_push 33 = .ok (.l2i, 1) := by decide +kernel
theorem dX8_push_34 : decode cX8_push 34 = .ok (.sipush 255, 3) := by decide +kernel
theorem dX8_push_37 : decode cX8_push 37 = .ok (.iand, 1) := by decide +kernel
theorem dX8_push_38 : decode cX8_push 38 = .ok (.iastore, 1) := by decide +kernel
theorem dX8_push_39 : decode cX8_push 39 = .ok (.aload_n 0, 1) := by decide +kernel
theorem dX8_push_40 : decode cX8_push 40 = .ok (.dup, 1) := by decide +kernel
theorem dX8_push_41 : decode cX8_push 41 = .ok (.getfield 13, 3) := by decide +kernel
theorem dX8_push_44 : decode cX8_push 44 = .ok (.iconst 1, 1) := by decide +kernel
theorem dX8_push_45 : decode cX8_push 45 = .ok (.iadd, 1) := by decide +kernel
theorem dX8_push_46 : decode cX8_push 46 = .ok (.putfield 13, 3) := by decide +kernel
theorem dX8_push_49 : decode cX8_push 49 = .ok (.iinc 3 (-8), 3) := by decide +kernel
theorem dX8_push_52 : decode cX8_push 52 = .ok (.goto (-34), 3) := by decide +kernel
theorem dX8_push_55 : decode cX8_push 55 = .ok (.iconst 1, 1) := by decide +kernel
theorem dX8_push_56 : decode cX8_push 56 = .ok (.ireturn, 1) := by decide +kernel
theorem dX9_init_0 : decode cX9_init 0 = .ok (.aload_n 0, 1) := by decide +kernel
theorem dX9_init_1 : decode cX9_init 1 = .ok (.invokespecial 3, 3) := by decide +kernel
theorem dX9_init_4 : decode cX9_init 4 = .ok (.aload_n 0, 1) := by decide +kernel
theorem dX9_init_5 : decode cX9_init 5 = .ok (.aload_n 1, 1) := by decide +kernel
theorem dX9_init_6 : decode cX9_init 6 = .ok (.putfield 9, 3) := by decide +kernel
theorem dX9_init_9 : decode cX9_init 9 = .ok (.aload_n 0, 1) := by decide +kernel
theorem dX9_init_10 : decode cX9_init 10 = .ok (.bipush 64, 2) := by decide +kernel
theorem dX9_init_12 : decode cX9_init 12 = .ok (.newarray .int, 2) := by decide +kernel
theorem dX9_init_14 : decode cX9_init 14 = .ok (.putfield 15, 3) := by decide +kernel
theorem dX9_init_17 : decode cX9_init 17 = .ok (.aload_n 0, 1) := by decide +kernel
theorem dX9_init_18 : decode cX9_init 18 = .ok (.bipush 64, 2) := by decide +kernel
theorem dX9_init_20 : decode cX9_init 20 = .ok (.newarray .boolean, 2) := by decide +kernel
theorem dX9_init_22 : decode cX9_init 22 = .ok (.putfield 19, 3) := by decide +kernel
theorem dX9_init_25 : decode cX9_init 25 = .ok (.aload_n 0, 1) := by decide +kernel
theorem dX9_init_26 : decode cX9_init 26 = .ok (.iconst 0, 1) := by decide +kernel
theorem dX9_init_27 : decode cX9_init 27 = .ok (.putfield 23, 3) := by decide +kernel
theorem dX9_init_30 : decode cX9_init 30 = .ok (.return_, 1) := by decide +kernel
theorem dX9_forget_0 : decode cX9_forget 0 = .ok (.aload_n 0, 1) := by decide +kernel
theorem dX9_forget_1 : decode cX9_forget 1 = .ok (.iconst 0, 1) := by decide +kernel
theorem dX9_forget_2 : decode cX9_forget 2 = .ok (.putfield 23, 3) := by decide +kernel
theorem dX9_forget_5 : decode cX9_forget 5 = .ok (.iconst 0, 1) := by decide +kernel
theorem dX9_forget_6 : decode cX9_forget 6 = .ok (.istore_n 1, 1) := by decide +kernel
theorem dX9_forget_7 : decode cX9_forget 7 = .ok (.iload_n 1, 1) := by decide +kernel
theorem dX9_forget_8 : decode cX9_forget 8 = .ok (.bipush 64, 2) := by decide +kernel
theorem dX9_forget_10 : decode cX9_forget 10 = .ok (.if_icmp .ge 16, 3) := by decide +kernel
theorem dX9_forget_13 : decode cX9_forget 13 = .ok (.aload_n 0, 1) := by decide +kernel
theorem dX9_forget_14 : decode cX9_forget 14 = .ok (.getfield 19, 3) := by decide +kernel
theorem dX9_forget_17 : decode cX9_forget 17 = .ok (.iload_n 1, 1) := by decide +kernel
theorem dX9_forget_18 : decode cX9_forget 18 = .ok (.iconst 0, 1) := by decide +kernel
theorem dX9_forget_19 : decode cX9_forget 19 = .ok (.bastore, 1) := by decide +kernel
theorem dX9_forget_20 : decode cX9_forget 20 = .ok (.iinc 1 1, 3) := by decide +kernel
theorem dX9_forget_23 : decode cX9_forget 23 = .ok (.goto (-16), 3) := by decide +kernel
theorem dX9_forget_26 : decode cX9_forget 26 = .ok (.return_, 1) := by decide +kernel
theorem dX10_init_0 : decode cX10_init 0 = .ok (.aload_n 0, 1) := by decide +kernel
theorem dX10_init_1 : decode cX10_init 1 = .ok (.invokespecial 1, 3) := by decide +kernel
theorem dX10_init_4 : decode cX10_init 4 = .ok (.aload_n 0, 1) := by decide +kernel
theorem dX10_init_5 : decode cX10_init 5 = .ok (.new 7, 3) := by decide +kernel
theorem dX10_init_8 : decode cX10_init 8 = .ok (.dup, 1) := by decide +kernel
theorem dX10_init_9 : decode cX10_init 9 = .ok (.invokespecial 9, 3) := by decide +kernel
theorem dX10_init_12 : decode cX10_init 12 = .ok (.putfield 10, 3) := by decide +kernel
theorem dX10_init_15 : decode cX10_init 15 = .ok (.aload_n 0, 1) := by decide +kernel
theorem dX10_init_16 : decode cX10_init 16 = .ok (.new 16, 3) := by decide +kernel
theorem dX10_init_19 : decode cX10_init 19 = .ok (.dup, 1) := by decide +kernel
theorem dX10_init_20 : decode cX10_init 20 = .ok (.invokespecial 18, 3) := by decide +kernel
theorem dX10_init_23 : decode cX10_init 23 = .ok (.putfield 19, 3) := by decide +kernel
theorem dX10_init_26 : decode cX10_init 26 = .ok (.aload_n 0, 1) := by decide +kernel
theorem dX10_init_27 : decode cX10_init 27 = .ok (.new 23, 3) := by decide +kernel
theorem dX10_init_30 : decode cX10_init 30 = .ok (.dup, 1) := by decide +kernel
theorem dX10_init_31 : decode cX10_init 31 = .ok (.invokespecial 25, 3) := by decide +kernel
theorem dX10_init_34 : decode cX10_init 34 = .ok (.putfield 26, 3) := by decide +kernel
theorem dX10_init_37 : decode cX10_init 37 = .ok (.aload_n 0, 1) := by decide +kernel
theorem dX10_init_38 : decode cX10_init 38 = .ok (.new 30, 3) := by decide +kernel
theorem dX10_init_41 : decode cX10_init 41 = .ok (.dup, 1) := by decide +kernel
theorem dX10_init_42 : decode cX10_init 42 = .ok (.aload_n 0, 1) := by decide +kernel
theorem dX10_init_43 : decode cX10_init 43 = .ok (.getfield 26, 3) := by decide +kernel
theorem dX10_init_46 : decode cX10_init 46 = .ok (.invokespecial 32, 3) := by decide +kernel
theorem dX10_init_49 : decode cX10_init 49 = .ok (.putfield 35, 3) := by decide +kernel
theorem dX10_init_52 : decode cX10_init 52 = .ok (.aload_n 0, 1) := by decide +kernel
theorem dX10_init_53 : decode cX10_init 53 = .ok (.new 39, 3) := by decide +kernel
theorem dX10_init_56 : decode cX10_init 56 = .ok (.dup, 1) := by decide +kernel
theorem dX10_init_57 : decode cX10_init 57 = .ok (.aload_n 0, 1) := by decide +kernel
theorem dX10_init_58 : decode cX10_init 58 = .ok (.getfield 26, 3) := by decide +kernel
theorem dX10_init_61 : decode cX10_init 61 = .ok (.invokespecial 41, 3) := by decide +kernel
theorem dX10_init_64 : decode cX10_init 64 = .ok (.putfield 42, 3) := by decide +kernel
theorem dX10_init_67 : decode cX10_init 67 = .ok (.aload_n 0, 1) := by decide +kernel
theorem dX10_init_68 : decode cX10_init 68 = .ok (.new 46, 3) := by decide +kernel
theorem dX10_init_71 : decode cX10_init 71 = .ok (.dup, 1) := by decide +kernel
theorem dX10_init_72 : decode cX10_init 72 = .ok (.invokespecial 48, 3) := by decide +kernel
theorem dX10_init_75 : decode cX10_init 75 = .ok (.putfield 49, 3) := by decide +kernel
theorem dX10_init_78 : decode cX10_init 78 = .ok (.aload_n 0, 1) := by decide +kernel
theorem dX10_init_79 : decode cX10_init 79 = .ok (.new 53, 3) := by decide +kernel
theorem dX10_init_82 : decode cX10_init 82 = .ok (.dup, 1) := by decide +kernel
theorem dX10_init_83 : decode cX10_init 83 = .ok (.invokespecial 55, 3) := by decide +kernel
theorem dX10_init_86 : decode cX10_init 86 = .ok (.putfield 56, 3) := by decide +kernel
theorem dX10_init_89 : decode cX10_init 89 = .ok (.aload_n 0, 1) := by decide +kernel
theorem dX10_init_90 : decode cX10_init 90 = .ok (.new 53, 3) := by decide +kernel
theorem dX10_init_93 : decode cX10_init 93 = .ok (.dup, 1) := by decide +kernel
theorem dX10_init_94 : decode cX10_init 94 = .ok (.invokespecial 55, 3) := by decide +kernel
theorem dX10_init_97 : decode cX10_init 97 = .ok (.putfield 60, 3) := by decide +kernel
theorem dX10_init_100 : decode cX10_init 100 = .ok (.aload_n 0, 1) := by decide +kernel
theorem dX10_init_101 : decode cX10_init 101 = .ok (.new 63, 3) := by decide +kernel
theorem dX10_init_104 : decode cX10_init 104 = .ok (.dup, 1) := by decide +kernel
theorem dX10_init_105 : decode cX10_init 105 = .ok (.aload_n 0, 1) := by decide +kernel
theorem dX10_init_106 : decode cX10_init 106 = .ok (.getfield 10, 3) := by decide +kernel
theorem dX10_init_109 : decode cX10_init 109 = .ok (.aload_n 0, 1) := by decide +kernel
theorem dX10_init_110 : decode cX10_init 110 = .ok (.getfield 60, 3) := by decide +kernel
theorem dX10_init_113 : decode cX10_init 113 = .ok (.invokespecial 65, 3) := by decide +kernel
theorem dX10_init_116 : decode cX10_init 116 = .ok (.putfield 68, 3) := by decide +kernel
theorem dX10_init_119 : decode cX10_init 119 = .ok (.aload_n 0, 1) := by decide +kernel
theorem dX10_init_120 : decode cX10_init 120 = .ok (.iconst 0, 1) := by decide +kernel
theorem dX10_init_121 : decode cX10_init 121 = .ok (.putfield 72, 3) := by decide +kernel
theorem dX10_init_124 : decode cX10_init 124 = .ok (.return_, 1) := by decide +kernel
theorem dX10_feed_0 : decode cX10_feed 0 = .ok (.aload_n 0, 1) := by decide +kernel
theorem dX10_feed_1 : decode cX10_feed 1 = .ok (.getfield 10, 3) := by decide +kernel
theorem dX10_feed_4 : decode cX10_feed 4 = .ok (.lload_n 1, 1) := by decide +kernel
theorem dX10_feed_5 : decode cX10_feed 5 = .ok (.invokevirtual 76, 3) := by decide +kernel
theorem dX10_feed_8 : decode cX10_feed 8 = .ok (.ifCond .eq 13, 3) := by decide +kernel
theorem dX10_feed_11 : decode cX10_feed 11 = .ok (.aload_n 0, 1) := by decide +kernel
theorem dX10_feed_12 : decode cX10_feed 12 = .ok (.getfield 10, 3) := by decide +kernel
theorem dX10_feed_15 : decode cX10_feed 15 = .ok (.getfield 80, 3) := by decide +kernel
theorem dX10_feed_18 : decode cX10_feed 18 = .ok (.goto 5, 3) := by decide +kernel
theorem dX10_feed_23 : decode cX10_feed 23 = .ok (.ireturn, 1) := by decide +kernel
theorem dX10_end_0 : decode cX10_end 0 = .ok (.iload_n 1, 1) := by decide +kernel
theorem dX10_end_1 : decode cX10_end 1 = .ok (.ifCond .lt 14, 3) := by decide +kernel
theorem dX10_end_4 : decode cX10_end 4 = .ok (.iload_n 1, 1) := by decide +kernel
theorem dX10_end_5 : decode cX10_end 5 = .ok (.aload_n 0, 1) := by decide +kernel
theorem dX10_end_6 : decode cX10_end 6 = .ok (.getfield 10, 3) := by decide +kernel
theorem dX10_end_9 : decode cX10_end 9 = .ok (.getfield 80, 3) := by decide +kernel
theorem dX10_end_12 : decode cX10_end 12 = .ok (.if_icmp .le 5, 3) := by decide +kernel
theorem dX10_end_15 : decode cX10_end 15 = .ok (.iconst (-1), 1) := by decide +kernel
theorem dX10_end_16 : decode cX10_end 16 = .ok (.ireturn, 1) := by decide +kernel
theorem dX10_end_17 : decode cX10_end 17 = .ok (.aload_n 0, 1) := by decide +kernel
theorem dX10_end_18 : decode cX10_end 18 = .ok (.getfield 10, 3) := by decide +kernel
theorem dX10_end_21 : decode cX10_end 21 = .ok (.getfield 80, 3) := by decide +kernel
theorem dX10_end_24 : decode cX10_end 24 = .ok (.istore_n 2, 1) := by decide +kernel
theorem dX10_end_25 : decode cX10_end 25 = .ok (.aload_n 0, 1) := by decide +kernel
theorem dX10_end_26 : decode cX10_end 26 = .ok (.getfield 10, 3) := by decide +kernel
theorem dX10_end_29 : decode cX10_end 29 = .ok (.iload_n 1, 1) := by decide +kernel
theorem dX10_end_30 : decode cX10_end 30 = .ok (.putfield 80, 3) := by decide +kernel
theorem dX10_end_33 : decode cX10_end 33 = .ok (.iload_n 2, 1) := by decide +kernel
theorem dX10_end_34 : decode cX10_end 34 = .ok (.ireturn, 1) := by decide +kernel
theorem dX10_text_0 : decode cX10_text 0 = .ok (.aload_n 0, 1) := by decide +kernel
theorem dX10_text_1 : decode cX10_text 1 = .ok (.getfield 68, 3) := by decide +kernel
theorem dX10_text_4 : decode cX10_text 4 = .ok (.aload_n 0, 1) := by decide +kernel
theorem dX10_text_5 : decode cX10_text 5 = .ok (.getfield 60, 3) := by decide +kernel
theorem dX10_text_8 : decode cX10_text 8 = .ok (.invokevirtual 83, 3) := by decide +kernel
theorem dX10_text_11 : decode cX10_text 11 = .ok (.istore_n 1, 1) := by decide +kernel
theorem dX10_text_12 : decode cX10_text 12 = .ok (.aload_n 0, 1) := by decide +kernel
theorem dX10_text_13 : decode cX10_text 13 = .ok (.getfield 10, 3) := by decide +kernel
theorem dX10_text_16 : decode cX10_text 16 = .ok (.iconst 0, 1) := by decide +kernel
theorem dX10_text_17 : decode cX10_text 17 = .ok (.putfield 80, 3) := by decide +kernel
theorem dX10_text_20 : decode cX10_text 20 = .ok (.aload_n 0, 1) := by decide +kernel
theorem dX10_text_21 : decode cX10_text 21 = .ok (.aload_n 0, 1) := by decide +kernel
theorem dX10_text_22 : decode cX10_text 22 = .ok (.getfield 68, 3) := by decide +kernel
theorem dX10_text_25 : decode cX10_text 25 = .ok (.getfield 87, 3) := by decide +kernel
theorem dX10_text_28 : decode cX10_text 28 = .ok (.putfield 72, 3) := by decide +kernel
theorem dX10_text_31 : decode cX10_text 31 = .ok (.aload_n 0, 1) := by decide +kernel
theorem dX10_text_32 : decode cX10_text 32 = .ok (.getfield 68, 3) := by decide +kernel
theorem dX10_text_35 : decode cX10_text 35 = .ok (.getfield 87, 3) := by decide +kernel
theorem dX10_text_38 : decode cX10_text 38 = .ok (.ifCond .eq 14, 3) := by decide +kernel
theorem dX10_text_52 : decode cX10_text 52 = .ok (.aload_n 0, 1) := by decide +kernel
theorem dX10_text_53 : decode cX10_text 53 = .ok (.getfield 56, 3) := by decide +kernel
theorem dX10_text_56 : decode cX10_text 56 = .ok (.astore_n 2, 1) := by decide +kernel
theorem dX10_text_57 : decode cX10_text 57 = .ok (.aload_n 0, 1) := by decide +kernel
theorem dX10_text_58 : decode cX10_text 58 = .ok (.aload_n 0, 1) := by decide +kernel
theorem dX10_text_59 : decode cX10_text 59 = .ok (.getfield 60, 3) := by decide +kernel
theorem dX10_text_62 : decode cX10_text 62 = .ok (.putfield 56, 3) := by decide +kernel
theorem dX10_text_65 : decode cX10_text 65 = .ok (.aload_n 0, 1) := by decide +kernel
theorem dX10_text_66 : decode cX10_text 66 = .ok (.aload_n 2, 1) := by decide +kernel
theorem dX10_text_67 : decode cX10_text 67 = .ok (.putfield 60, 3) := by decide +kernel
theorem dX10_text_70 : decode cX10_text 70 = .ok (.aload_n 0, 1) := by decide +kernel
theorem dX10_text_71 : decode cX10_text 71 = .ok (.getfield 19, 3) := by decide +kernel
theorem dX10_text_74 : decode cX10_text 74 = .ok (.aload_n 0, 1) := by decide +kernel
theorem dX10_text_75 : decode cX10_text 75 = .ok (.getfield 56, 3) := by decide +kernel
theorem dX10_text_78 : decode cX10_text 78 = .ok (.invokevirtual 93, 3) := by decide +kernel
theorem dX10_text_81 : decode cX10_text 81 = .ok (.aload_n 0, 1) := by decide +kernel
theorem dX10_text_82 : decode cX10_text 82 = .ok (.invokevirtual 97, 3) := by decide +kernel
theorem dX10_text_85 : decode cX10_text 85 = .ok (.iload_n 1, 1) := by decide +kernel
theorem dX10_text_86 : decode cX10_text 86 = .ok (.ireturn, 1) := by decide +kernel
theorem dX10_fault_0 : decode cX10_fault 0 = .ok (.aload_n 0, 1) := by decide +kernel
theorem dX10_fault_1 : decode cX10_fault 1 = .ok (.getfield 72, 3) := by decide +kernel
theorem dX10_fault_4 : decode cX10_fault 4 = .ok (.ireturn, 1) := by decide +kernel
theorem dX10_rail_0 : decode cX10_rail 0 = .ok (.aload_n 0, 1) := by decide +kernel
theorem dX10_rail_1 : decode cX10_rail 1 = .ok (.getfield 56, 3) := by decide +kernel
theorem dX10_rail_4 : decode cX10_rail 4 = .ok (.iload_n 1, 1) := by decide +kernel
theorem dX10_rail_5 : decode cX10_rail 5 = .ok (.invokevirtual 100, 3) := by decide +kernel
theorem dX10_rail_8 : decode cX10_rail 8 = .ok (.ifCond .eq 13, 3) := by decide +kernel
theorem dX10_rail_21 : decode cX10_rail 21 = .ok (.iconst (-1), 1) := by decide +kernel
theorem dX10_rail_22 : decode cX10_rail 22 = .ok (.ireturn, 1) := by decide +kernel
theorem dX10_rule_0 : decode cX10_rule 0 = .ok (.iload_n 1, 1) := by decide +kernel
theorem dX10_rule_1 : decode cX10_rule 1 = .ok (.tableswitch 63 0 3 #[31, 39, 47, 55], 31) := by decide +kernel
theorem dX10_rule_32 : decode cX10_rule 32 = .ok (.aload_n 0, 1) := by decide +kernel
theorem dX10_rule_33 : decode cX10_rule 33 = .ok (.getfield 56, 3) := by decide +kernel
theorem dX10_rule_36 : decode cX10_rule 36 = .ok (.getfield 108, 3) := by decide +kernel
theorem dX10_rule_39 : decode cX10_rule 39 = .ok (.ireturn, 1) := by decide +kernel
theorem dX10_rule_40 : decode cX10_rule 40 = .ok (.aload_n 0, 1) := by decide +kernel
theorem dX10_rule_41 : decode cX10_rule 41 = .ok (.getfield 56, 3) := by decide +kernel
theorem dX10_rule_44 : decode cX10_rule 44 = .ok (.getfield 111, 3) := by decide +kernel
theorem dX10_rule_47 : decode cX10_rule 47 = .ok (.ireturn, 1) := by decide +kernel
theorem dX10_rule_48 : decode cX10_rule 48 = .ok (.aload_n 0, 1) := by decide +kernel
theorem dX10_rule_49 : decode cX10_rule 49 = .ok (.getfield 56, 3) := by decide +kernel
theorem dX10_rule_52 : decode cX10_rule 52 = .ok (.getfield 114, 3) := by decide +kernel
theorem dX10_rule_55 : decode cX10_rule 55 = .ok (.ireturn, 1) := by decide +kernel
theorem dX10_rule_56 : decode cX10_rule 56 = .ok (.aload_n 0, 1) := by decide +kernel
theorem dX10_rule_57 : decode cX10_rule 57 = .ok (.getfield 56, 3) := by decide +kernel
theorem dX10_rule_60 : decode cX10_rule 60 = .ok (.getfield 117, 3) := by decide +kernel
theorem dX10_rule_63 : decode cX10_rule 63 = .ok (.ireturn, 1) := by decide +kernel
theorem dX10_rule_64 : decode cX10_rule 64 = .ok (.iconst (-1), 1) := by decide +kernel
theorem dX10_rule_65 : decode cX10_rule 65 = .ok (.ireturn, 1) := by decide +kernel
theorem dX10_holds_0 : decode cX10_holds 0 = .ok (.aload_n 0, 1) := by decide +kernel
theorem dX10_holds_1 : decode cX10_holds 1 = .ok (.getfield 56, 3) := by decide +kernel
theorem dX10_holds_4 : decode cX10_holds 4 = .ok (.iload_n 1, 1) := by decide +kernel
theorem dX10_holds_5 : decode cX10_holds 5 = .ok (.invokevirtual 100, 3) := by decide +kernel
theorem dX10_holds_8 : decode cX10_holds 8 = .ok (.ifCond .eq 21, 3) := by decide +kernel
theorem dX10_holds_29 : decode cX10_holds 29 = .ok (.iconst (-1), 1) := by decide +kernel
theorem dX10_holds_30 : decode cX10_holds 30 = .ok (.ireturn, 1) := by decide +kernel
theorem dX10_words_0 : decode cX10_words 0 = .ok (.aload_n 0, 1) := by decide +kernel
theorem dX10_words_1 : decode cX10_words 1 = .ok (.getfield 56, 3) := by decide +kernel
theorem dX10_words_4 : decode cX10_words 4 = .ok (.iload_n 1, 1) := by decide +kernel
theorem dX10_words_5 : decode cX10_words 5 = .ok (.invokevirtual 100, 3) := by decide +kernel
theorem dX10_words_8 : decode cX10_words 8 = .ok (.ifCond .eq 13, 3) := by decide +kernel
theorem dX10_words_21 : decode cX10_words 21 = .ok (.iconst (-1), 1) := by decide +kernel
theorem dX10_words_22 : decode cX10_words 22 = .ok (.ireturn, 1) := by decide +kernel
theorem dX10_key_0 : decode cX10_key 0 = .ok (.aload_n 0, 1) := by decide +kernel
theorem dX10_key_1 : decode cX10_key 1 = .ok (.getfield 19, 3) := by decide +kernel
theorem dX10_key_4 : decode cX10_key 4 = .ok (.getfield 139, 3) := by decide +kernel
theorem dX10_key_7 : decode cX10_key 7 = .ok (.invokestatic 128, 3) := by decide +kernel
theorem dX10_key_10 : decode cX10_key 10 = .ok (.istore_n 2, 1) := by decide +kernel
theorem dX10_key_11 : decode cX10_key 11 = .ok (.aload_n 0, 1) := by decide +kernel
theorem dX10_key_12 : decode cX10_key 12 = .ok (.getfield 19, 3) := by decide +kernel
theorem dX10_key_15 : decode cX10_key 15 = .ok (.aload_n 0, 1) := by decide +kernel
theorem dX10_key_16 : decode cX10_key 16 = .ok (.getfield 56, 3) := by decide +kernel
theorem dX10_key_19 : decode cX10_key 19 = .ok (.iload_n 1, 1) := by decide +kernel
theorem dX10_key_20 : decode cX10_key 20 = .ok (.invokevirtual 143, 3) := by decide +kernel
theorem dX10_key_23 : decode cX10_key 23 = .ok (.iload_n 2, 1) := by decide +kernel
theorem dX10_key_24 : decode cX10_key 24 = .ok (.ireturn, 1) := by decide +kernel
theorem dX10_dead_0 : decode cX10_dead 0 = .ok (.aload_n 0, 1) := by decide +kernel
theorem dX10_dead_1 : decode cX10_dead 1 = .ok (.getfield 56, 3) := by decide +kernel
theorem dX10_dead_4 : decode cX10_dead 4 = .ok (.iload_n 1, 1) := by decide +kernel
theorem dX10_dead_5 : decode cX10_dead 5 = .ok (.invokevirtual 100, 3) := by decide +kernel
theorem dX10_dead_8 : decode cX10_dead 8 = .ok (.ifCond .ne 5, 3) := by decide +kernel
theorem dX10_dead_11 : decode cX10_dead 11 = .ok (.iconst (-1), 1) := by decide +kernel
theorem dX10_dead_12 : decode cX10_dead 12 = .ok (.ireturn, 1) := by decide +kernel
theorem dX10_time_0 : decode cX10_time 0 = .ok (.aload_n 0, 1) := by decide +kernel
theorem dX10_time_1 : decode cX10_time 1 = .ok (.getfield 56, 3) := by decide +kernel
theorem dX10_time_4 : decode cX10_time 4 = .ok (.iload_n 1, 1) := by decide +kernel
theorem dX10_time_5 : decode cX10_time 5 = .ok (.invokevirtual 100, 3) := by decide +kernel
theorem dX10_time_8 : decode cX10_time 8 = .ok (.ifCond .eq 29, 3) := by decide +kernel
theorem dX10_time_37 : decode cX10_time 37 = .ok (.iconst (-1), 1) := by decide +kernel
theorem dX10_time_38 : decode cX10_time 38 = .ok (.ireturn, 1) := by decide +kernel
theorem dX10_go_0 : decode cX10_go 0 = .ok (.iload_n 1, 1) := by decide +kernel
theorem dX10_go_1 : decode cX10_go 1 = .ok (.iconst 1, 1) := by decide +kernel
theorem dX10_go_2 : decode cX10_go 2 = .ok (.if_icmp .lt 10, 3) := by decide +kernel
theorem dX10_go_5 : decode cX10_go 5 = .ok (.iload_n 1, 1) := by decide +kernel
theorem dX10_go_6 : decode cX10_go 6 = .ok (.sipush 999, 3) := by decide +kernel
theorem dX10_go_9 : decode cX10_go 9 = .ok (.if_icmp .le 5, 3) := by decide +kernel
theorem dX10_go_12 : decode cX10_go 12 = .ok (.iconst (-1), 1) := by decide +kernel
theorem dX10_go_13 : decode cX10_go 13 = .ok (.ireturn, 1) := by decide +kernel
theorem dX10_go_14 : decode cX10_go 14 = .ok (.aload_n 0, 1) := by decide +kernel
theorem dX10_go_15 : decode cX10_go 15 = .ok (.getfield 19, 3) := by decide +kernel
theorem dX10_go_18 : decode cX10_go 18 = .ok (.getfield 154, 3) := by decide +kernel
theorem dX10_go_21 : decode cX10_go 21 = .ok (.istore_n 2, 1) := by decide +kernel
theorem dX10_go_22 : decode cX10_go 22 = .ok (.iconst 0, 1) := by decide +kernel
theorem dX10_go_23 : decode cX10_go 23 = .ok (.istore_n 3, 1) := by decide +kernel
theorem dX10_go_24 : decode cX10_go 24 = .ok (.iload_n 3, 1) := by decide +kernel
theorem dX10_go_25 : decode cX10_go 25 = .ok (.iload_n 1, 1) := by decide +kernel
theorem dX10_go_26 : decode cX10_go 26 = .ok (.if_icmp .ge 20, 3) := by decide +kernel
theorem dX10_go_29 : decode cX10_go 29 = .ok (.aload_n 0, 1) := by decide +kernel
theorem dX10_go_30 : decode cX10_go 30 = .ok (.getfield 19, 3) := by decide +kernel
theorem dX10_go_33 : decode cX10_go 33 = .ok (.aload_n 0, 1) := by decide +kernel
theorem dX10_go_34 : decode cX10_go 34 = .ok (.getfield 56, 3) := by decide +kernel
theorem dX10_go_37 : decode cX10_go 37 = .ok (.invokevirtual 157, 3) := by decide +kernel
theorem dX10_go_40 : decode cX10_go 40 = .ok (.iinc 3 1, 3) := by decide +kernel
theorem dX10_go_43 : decode cX10_go 43 = .ok (.goto (-19), 3) := by decide +kernel
theorem dX10_go_46 : decode cX10_go 46 = .ok (.aload_n 0, 1) := by decide +kernel
theorem dX10_go_47 : decode cX10_go 47 = .ok (.getfield 19, 3) := by decide +kernel
theorem dX10_go_50 : decode cX10_go 50 = .ok (.getfield 154, 3) := by decide +kernel
theorem dX10_go_53 : decode cX10_go 53 = .ok (.iload_n 2, 1) := by decide +kernel
theorem dX10_go_54 : decode cX10_go 54 = .ok (.isub, 1) := by decide +kernel
theorem dX10_go_55 : decode cX10_go 55 = .ok (.ireturn, 1) := by decide +kernel
theorem dX10_now_0 : decode cX10_now 0 = .ok (.iload_n 1, 1) := by decide +kernel
theorem dX10_now_1 : decode cX10_now 1 = .ok (.tableswitch 128 0 8 #[51, 59, 68, 77, 85, 93, 101, 109, 120], 51) := by decide +kernel
theorem dX10_now_52 : decode cX10_now 52 = .ok (.aload_n 0, 1) := by decide +kernel
theorem dX10_now_53 : decode cX10_now 53 = .ok (.getfield 19, 3) := by decide +kernel
theorem dX10_now_56 : decode cX10_now 56 = .ok (.getfield 160, 3) := by decide +kernel
theorem dX10_now_59 : decode cX10_now 59 = .ok (.ireturn, 1) := by decide +kernel
theorem dX10_now_60 : decode cX10_now 60 = .ok (.aload_n 0, 1) := by decide +kernel
theorem dX10_now_61 : decode cX10_now 61 = .ok (.getfield 19, 3) := by decide +kernel
theorem dX10_now_64 : decode cX10_now 64 = .ok (.iconst 3, 1) := by decide +kernel
theorem dX10_now_65 : decode cX10_now 65 = .ok (.invokevirtual 163, 3) := by decide +kernel
theorem dX10_now_68 : decode cX10_now 68 = .ok (.ireturn, 1) := by decide +kernel
theorem dX10_now_69 : decode cX10_now 69 = .ok (.aload_n 0, 1) := by decide +kernel
theorem dX10_now_70 : decode cX10_now 70 = .ok (.getfield 19, 3) := by decide +kernel
theorem dX10_now_73 : decode cX10_now 73 = .ok (.iconst 2, 1) := by decide +kernel
theorem dX10_now_74 : decode cX10_now 74 = .ok (.invokevirtual 163, 3) := by decide +kernel
theorem dX10_now_77 : decode cX10_now 77 = .ok (.ireturn, 1) := by decide +kernel
theorem dX10_now_78 : decode cX10_now 78 = .ok (.aload_n 0, 1) := by decide +kernel
theorem dX10_now_79 : decode cX10_now 79 = .ok (.getfield 19, 3) := by decide +kernel
theorem dX10_now_82 : decode cX10_now 82 = .ok (.getfield 166, 3) := by decide +kernel
theorem dX10_now_85 : decode cX10_now 85 = .ok (.ireturn, 1) := by decide +kernel
theorem dX10_now_86 : decode cX10_now 86 = .ok (.aload_n 0, 1) := by decide +kernel
theorem dX10_now_87 : decode cX10_now 87 = .ok (.getfield 19, 3) := by decide +kernel
theorem dX10_now_90 : decode cX10_now 90 = .ok (.getfield 169, 3) := by decide +kernel
theorem dX10_now_93 : decode cX10_now 93 = .ok (.ireturn, 1) := by decide +kernel
theorem dX10_now_94 : decode cX10_now 94 = .ok (.aload_n 0, 1) := by decide +kernel
theorem dX10_now_95 : decode cX10_now 95 = .ok (.getfield 19, 3) := by decide +kernel
theorem dX10_now_98 : decode cX10_now 98 = .ok (.getfield 172, 3) := by decide +kernel
theorem dX10_now_101 : decode cX10_now 101 = .ok (.ireturn, 1) := by decide +kernel
theorem dX10_now_102 : decode cX10_now 102 = .ok (.aload_n 0, 1) := by decide +kernel
theorem dX10_now_103 : decode cX10_now 103 = .ok (.getfield 19, 3) := by decide +kernel
theorem dX10_now_106 : decode cX10_now 106 = .ok (.getfield 175, 3) := by decide +kernel
theorem dX10_now_109 : decode cX10_now 109 = .ok (.ireturn, 1) := by decide +kernel
theorem dX10_now_110 : decode cX10_now 110 = .ok (.aload_n 0, 1) := by decide +kernel
theorem dX10_now_111 : decode cX10_now 111 = .ok (.getfield 19, 3) := by decide +kernel
theorem dX10_now_114 : decode cX10_now 114 = .ok (.getfield 139, 3) := by decide +kernel
theorem dX10_now_117 : decode cX10_now 117 = .ok (.invokestatic 128, 3) := by decide +kernel
theorem dX10_now_120 : decode cX10_now 120 = .ok (.ireturn, 1) := by decide +kernel
theorem dX10_now_121 : decode cX10_now 121 = .ok (.aload_n 0, 1) := by decide +kernel
theorem dX10_now_122 : decode cX10_now 122 = .ok (.getfield 19, 3) := by decide +kernel
theorem dX10_now_125 : decode cX10_now 125 = .ok (.getfield 154, 3) := by decide +kernel
theorem dX10_now_128 : decode cX10_now 128 = .ok (.ireturn, 1) := by decide +kernel
theorem dX10_now_129 : decode cX10_now 129 = .ok (.bipush (-9), 2) := by decide +kernel
theorem dX10_now_131 : decode cX10_now 131 = .ok (.ireturn, 1) := by decide +kernel
theorem dX10_is_0 : decode cX10_is 0 = .ok (.aload_n 0, 1) := by decide +kernel
theorem dX10_is_1 : decode cX10_is 1 = .ok (.getfield 56, 3) := by decide +kernel
theorem dX10_is_4 : decode cX10_is 4 = .ok (.iload_n 1, 1) := by decide +kernel
theorem dX10_is_5 : decode cX10_is 5 = .ok (.invokevirtual 100, 3) := by decide +kernel
theorem dX10_is_8 : decode cX10_is 8 = .ok (.ifCond .ne 5, 3) := by decide +kernel
theorem dX10_is_11 : decode cX10_is 11 = .ok (.iconst (-1), 1) := by decide +kernel
theorem dX10_is_12 : decode cX10_is 12 = .ok (.ireturn, 1) := by decide +kernel
theorem dX10_happened_0 : decode cX10_happened 0 = .ok (.iload_n 1, 1) := by decide +kernel
theorem dX10_happened_1 : decode cX10_happened 1 = .ok (.ifCond .lt 17, 3) := by decide +kernel
theorem dX10_happened_4 : decode cX10_happened 4 = .ok (.iload_n 1, 1) := by decide +kernel
theorem dX10_happened_5 : decode cX10_happened 5 = .ok (.aload_n 0, 1) := by decide +kernel
theorem dX10_happened_6 : decode cX10_happened 6 = .ok (.getfield 19, 3) := by decide +kernel
theorem dX10_happened_9 : decode cX10_happened 9 = .ok (.getfield 187, 3) := by decide +kernel
theorem dX10_happened_12 : decode cX10_happened 12 = .ok (.getfield 191, 3) := by decide +kernel
theorem dX10_happened_15 : decode cX10_happened 15 = .ok (.if_icmp .lt 5, 3) := by decide +kernel
theorem dX10_happened_18 : decode cX10_happened 18 = .ok (.iconst (-1), 1) := by decide +kernel
theorem dX10_happened_19 : decode cX10_happened 19 = .ok (.ireturn, 1) := by decide +kernel
theorem dX10_up_0 : decode cX10_up 0 = .ok (.aload_n 0, 1) := by decide +kernel
theorem dX10_up_1 : decode cX10_up 1 = .ok (.getfield 56, 3) := by decide +kernel
theorem dX10_up_4 : decode cX10_up 4 = .ok (.invokevirtual 120, 3) := by decide +kernel
theorem dX10_up_7 : decode cX10_up 7 = .ok (.istore_n 2, 1) := by decide +kernel
theorem dX10_up_8 : decode cX10_up 8 = .ok (.iload_n 2, 1) := by decide +kernel
theorem dX10_up_9 : decode cX10_up 9 = .ok (.aload_n 0, 1) := by decide +kernel
theorem dX10_up_10 : decode cX10_up 10 = .ok (.getfield 19, 3) := by decide +kernel
theorem dX10_up_13 : decode cX10_up 13 = .ok (.getfield 147, 3) := by decide +kernel
theorem dX10_up_16 : decode cX10_up 16 = .ok (.iconst (-1), 1) := by decide +kernel
theorem dX10_up_17 : decode cX10_up 17 = .ok (.ixor, 1) := by decide +kernel
theorem dX10_up_18 : decode cX10_up 18 = .ok (.iand, 1) := by decide +kernel
theorem dX10_up_19 : decode cX10_up 19 = .ok (.istore_n 3, 1) := by decide +kernel
theorem dX10_up_20 : decode cX10_up 20 = .ok (.iload_n 1, 1) := by decide +kernel
theorem dX10_up_21 : decode cX10_up 21 = .ok (.tableswitch 62 0 2 #[27, 36, 49], 27) := by decide +kernel
theorem dX10_up_48 : decode cX10_up 48 = .ok (.aload_n 0, 1) := by decide +kernel
theorem dX10_up_49 : decode cX10_up 49 = .ok (.getfield 56, 3) := by decide +kernel
theorem dX10_up_52 : decode cX10_up 52 = .ok (.iload_n 3, 1) := by decide +kernel
theorem dX10_up_53 : decode cX10_up 53 = .ok (.invokevirtual 205, 3) := by decide +kernel
theorem dX10_up_56 : decode cX10_up 56 = .ok (.ireturn, 1) := by decide +kernel
theorem dX10_up_57 : decode cX10_up 57 = .ok (.iload_n 3, 1) := by decide +kernel
theorem dX10_up_58 : decode cX10_up 58 = .ok (.aload_n 0, 1) := by decide +kernel
theorem dX10_up_59 : decode cX10_up 59 = .ok (.getfield 56, 3) := by decide +kernel
theorem dX10_up_62 : decode cX10_up 62 = .ok (.iload_n 3, 1) := by decide +kernel
theorem dX10_up_63 : decode cX10_up 63 = .ok (.invokevirtual 205, 3) := by decide +kernel
theorem dX10_up_66 : decode cX10_up 66 = .ok (.iconst (-1), 1) := by decide +kernel
theorem dX10_up_67 : decode cX10_up 67 = .ok (.ixor, 1) := by decide +kernel
theorem dX10_up_68 : decode cX10_up 68 = .ok (.iand, 1) := by decide +kernel
theorem dX10_up_69 : decode cX10_up 69 = .ok (.ireturn, 1) := by decide +kernel
theorem dX10_up_70 : decode cX10_up 70 = .ok (.iload_n 2, 1) := by decide +kernel
theorem dX10_up_71 : decode cX10_up 71 = .ok (.aload_n 0, 1) := by decide +kernel
theorem dX10_up_72 : decode cX10_up 72 = .ok (.getfield 56, 3) := by decide +kernel
theorem dX10_up_75 : decode cX10_up 75 = .ok (.iload_n 2, 1) := by decide +kernel
theorem dX10_up_76 : decode cX10_up 76 = .ok (.invokevirtual 205, 3) := by decide +kernel
theorem dX10_up_79 : decode cX10_up 79 = .ok (.iconst (-1), 1) := by decide +kernel
theorem dX10_up_80 : decode cX10_up 80 = .ok (.ixor, 1) := by decide +kernel
theorem dX10_up_81 : decode cX10_up 81 = .ok (.iand, 1) := by decide +kernel
theorem dX10_up_82 : decode cX10_up 82 = .ok (.ireturn, 1) := by decide +kernel
theorem dX10_up_83 : decode cX10_up 83 = .ok (.iconst (-1), 1) := by decide +kernel
theorem dX10_up_84 : decode cX10_up 84 = .ok (.ireturn, 1) := by decide +kernel
theorem dX10_when_0 : decode cX10_when 0 = .ok (.aload_n 0, 1) := by decide +kernel
theorem dX10_when_1 : decode cX10_when 1 = .ok (.getfield 56, 3) := by decide +kernel
theorem dX10_when_4 : decode cX10_when 4 = .ok (.iload_n 1, 1) := by decide +kernel
theorem dX10_when_5 : decode cX10_when 5 = .ok (.invokevirtual 100, 3) := by decide +kernel
theorem dX10_when_8 : decode cX10_when 8 = .ok (.ifCond .eq 12, 3) := by decide +kernel
theorem dX10_when_20 : decode cX10_when 20 = .ok (.iconst (-1), 1) := by decide +kernel
theorem dX10_when_21 : decode cX10_when 21 = .ok (.ireturn, 1) := by decide +kernel
theorem dX10_ahead_0 : decode cX10_ahead 0 = .ok (.aload_n 0, 1) := by decide +kernel
theorem dX10_ahead_1 : decode cX10_ahead 1 = .ok (.getfield 56, 3) := by decide +kernel
theorem dX10_ahead_4 : decode cX10_ahead 4 = .ok (.iload_n 1, 1) := by decide +kernel
theorem dX10_ahead_5 : decode cX10_ahead 5 = .ok (.invokevirtual 100, 3) := by decide +kernel
theorem dX10_ahead_8 : decode cX10_ahead 8 = .ok (.ifCond .eq 28, 3) := by decide +kernel
theorem dX10_ahead_36 : decode cX10_ahead 36 = .ok (.sipush (-1000), 3) := by decide +kernel
theorem dX10_ahead_39 : decode cX10_ahead 39 = .ok (.ireturn, 1) := by decide +kernel
theorem dX10_drawn_0 : decode cX10_drawn 0 = .ok (.iload_n 1, 1) := by decide +kernel
theorem dX10_drawn_1 : decode cX10_drawn 1 = .ok (.ifCond .lt 10, 3) := by decide +kernel
theorem dX10_drawn_4 : decode cX10_drawn 4 = .ok (.iload_n 1, 1) := by decide +kernel
theorem dX10_drawn_5 : decode cX10_drawn 5 = .ok (.sipush 999, 3) := by decide +kernel
theorem dX10_drawn_8 : decode cX10_drawn 8 = .ok (.if_icmp .le 5, 3) := by decide +kernel
theorem dX10_drawn_11 : decode cX10_drawn 11 = .ok (.iconst (-1), 1) := by decide +kernel
theorem dX10_drawn_12 : decode cX10_drawn 12 = .ok (.ireturn, 1) := by decide +kernel
theorem dX10_drawn_13 : decode cX10_drawn 13 = .ok (.aload_n 0, 1) := by decide +kernel
theorem dX10_drawn_14 : decode cX10_drawn 14 = .ok (.invokevirtual 208, 3) := by decide +kernel
theorem dX10_drawn_17 : decode cX10_drawn 17 = .ok (.aload_n 0, 1) := by decide +kernel
theorem dX10_drawn_18 : decode cX10_drawn 18 = .ok (.getfield 26, 3) := by decide +kernel
theorem dX10_drawn_21 : decode cX10_drawn 21 = .ok (.aload_n 0, 1) := by decide +kernel
theorem dX10_drawn_22 : decode cX10_drawn 22 = .ok (.getfield 56, 3) := by decide +kernel
theorem dX10_drawn_25 : decode cX10_drawn 25 = .ok (.iload_n 1, 1) := by decide +kernel
theorem dX10_drawn_26 : decode cX10_drawn 26 = .ok (.invokevirtual 237, 3) := by decide +kernel
theorem dX10_drawn_29 : decode cX10_drawn 29 = .ok (.ireturn, 1) := by decide +kernel
theorem dX10_peak_0 : decode cX10_peak 0 = .ok (.iload_n 1, 1) := by decide +kernel
theorem dX10_peak_1 : decode cX10_peak 1 = .ok (.ifCond .lt 8, 3) := by decide +kernel
theorem dX10_peak_4 : decode cX10_peak 4 = .ok (.iload_n 1, 1) := by decide +kernel
theorem dX10_peak_5 : decode cX10_peak 5 = .ok (.iconst 3, 1) := by decide +kernel
theorem dX10_peak_6 : decode cX10_peak 6 = .ok (.if_icmp .le 5, 3) := by decide +kernel
theorem dX10_peak_9 : decode cX10_peak 9 = .ok (.iconst (-1), 1) := by decide +kernel
theorem dX10_peak_10 : decode cX10_peak 10 = .ok (.ireturn, 1) := by decide +kernel
theorem dX10_peak_11 : decode cX10_peak 11 = .ok (.iload_n 1, 1) := by decide +kernel
theorem dX10_peak_12 : decode cX10_peak 12 = .ok (.iconst 2, 1) := by decide +kernel
theorem dX10_peak_13 : decode cX10_peak 13 = .ok (.if_icmp .lt 19, 3) := by decide +kernel
theorem dX10_peak_16 : decode cX10_peak 16 = .ok (.aload_n 0, 1) := by decide +kernel
theorem dX10_peak_17 : decode cX10_peak 17 = .ok (.getfield 56, 3) := by decide +kernel
theorem dX10_peak_20 : decode cX10_peak 20 = .ok (.invokevirtual 230, 3) := by decide +kernel
theorem dX10_peak_23 : decode cX10_peak 23 = .ok (.sipush 20000, 3) := by decide +kernel
theorem dX10_peak_26 : decode cX10_peak 26 = .ok (.if_icmp .le 6, 3) := by decide +kernel
theorem dX10_peak_32 : decode cX10_peak 32 = .ok (.aload_n 0, 1) := by decide +kernel
theorem dX10_peak_33 : decode cX10_peak 33 = .ok (.getfield 56, 3) := by decide +kernel
theorem dX10_peak_36 : decode cX10_peak 36 = .ok (.aload_n 0, 1) := by decide +kernel
theorem dX10_peak_37 : decode cX10_peak 37 = .ok (.invokevirtual 218, 3) := by decide +kernel
theorem dX10_peak_40 : decode cX10_peak 40 = .ok (.invokevirtual 205, 3) := by decide +kernel
theorem dX10_peak_43 : decode cX10_peak 43 = .ok (.ifCond .ne 6, 3) := by decide +kernel
theorem dX10_peak_46 : decode cX10_peak 46 = .ok (.bipush (-4), 2) := by decide +kernel
theorem dX10_peak_48 : decode cX10_peak 48 = .ok (.ireturn, 1) := by decide +kernel
theorem dX10_stagger_0 : decode cX10_stagger 0 = .ok (.iload_n 1, 1) := by decide +kernel
theorem dX10_stagger_1 : decode cX10_stagger 1 = .ok (.ifCond .eq 25, 3) := by decide +kernel
theorem dX10_stagger_4 : decode cX10_stagger 4 = .ok (.iload_n 1, 1) := by decide +kernel
theorem dX10_stagger_5 : decode cX10_stagger 5 = .ok (.bipush 10, 2) := by decide +kernel
theorem dX10_stagger_7 : decode cX10_stagger 7 = .ok (.if_icmp .lt 17, 3) := by decide +kernel
theorem dX10_stagger_10 : decode cX10_stagger 10 = .ok (.iload_n 1, 1) := by decide +kernel
theorem dX10_stagger_11 : decode cX10_stagger 11 = .ok (.bipush 10, 2) := by decide +kernel
theorem dX10_stagger_13 : decode cX10_stagger 13 = .ok (.aload_n 0, 1) := by decide +kernel
theorem dX10_stagger_14 : decode cX10_stagger 14 = .ok (.getfield 56, 3) := by decide +kernel
theorem dX10_stagger_17 : decode cX10_stagger 17 = .ok (.getfield 117, 3) := by decide +kernel
theorem dX10_stagger_20 : decode cX10_stagger 20 = .ok (.iadd, 1) := by decide +kernel
theorem dX10_stagger_21 : decode cX10_stagger 21 = .ok (.if_icmp .lt 5, 3) := by decide +kernel
theorem dX10_stagger_24 : decode cX10_stagger 24 = .ok (.iconst (-1), 1) := by decide +kernel
theorem dX10_stagger_25 : decode cX10_stagger 25 = .ok (.ireturn, 1) := by decide +kernel
theorem dX10_stagger_26 : decode cX10_stagger 26 = .ok (.aload_n 0, 1) := by decide +kernel
theorem dX10_stagger_27 : decode cX10_stagger 27 = .ok (.getfield 56, 3) := by decide +kernel
theorem dX10_stagger_30 : decode cX10_stagger 30 = .ok (.getfield 117, 3) := by decide +kernel
theorem dX10_stagger_33 : decode cX10_stagger 33 = .ok (.bipush 6, 2) := by decide +kernel
theorem dX10_stagger_35 : decode cX10_stagger 35 = .ok (.if_icmp .le 6, 3) := by decide +kernel
theorem dX10_stagger_41 : decode cX10_stagger 41 = .ok (.aload_n 0, 1) := by decide +kernel
theorem dX10_stagger_42 : decode cX10_stagger 42 = .ok (.getfield 42, 3) := by decide +kernel
theorem dX10_stagger_45 : decode cX10_stagger 45 = .ok (.aload_n 0, 1) := by decide +kernel
theorem dX10_stagger_46 : decode cX10_stagger 46 = .ok (.getfield 56, 3) := by decide +kernel
theorem dX10_stagger_49 : decode cX10_stagger 49 = .ok (.aload_n 0, 1) := by decide +kernel
theorem dX10_stagger_50 : decode cX10_stagger 50 = .ok (.invokevirtual 218, 3) := by decide +kernel
theorem dX10_stagger_53 : decode cX10_stagger 53 = .ok (.aload_n 0, 1) := by decide +kernel
theorem dX10_stagger_54 : decode cX10_stagger 54 = .ok (.getfield 19, 3) := by decide +kernel
theorem dX10_stagger_57 : decode cX10_stagger 57 = .ok (.getfield 150, 3) := by decide +kernel
theorem dX10_stagger_60 : decode cX10_stagger 60 = .ok (.invokevirtual 259, 3) := by decide +kernel
theorem dX10_stagger_63 : decode cX10_stagger 63 = .ok (.iload_n 1, 1) := by decide +kernel
theorem dX10_stagger_64 : decode cX10_stagger 64 = .ok (.ifCond .eq 15, 3) := by decide +kernel
theorem dX10_stagger_79 : decode cX10_stagger 79 = .ok (.aload_n 0, 1) := by decide +kernel
theorem dX10_stagger_80 : decode cX10_stagger 80 = .ok (.getfield 42, 3) := by decide +kernel
theorem dX10_stagger_83 : decode cX10_stagger 83 = .ok (.getfield 263, 3) := by decide +kernel
theorem dX10_stagger_86 : decode cX10_stagger 86 = .ok (.ireturn, 1) := by decide +kernel
theorem dX10_adopt_0 : decode cX10_adopt 0 = .ok (.aload_n 0, 1) := by decide +kernel
theorem dX10_adopt_1 : decode cX10_adopt 1 = .ok (.getfield 56, 3) := by decide +kernel
theorem dX10_adopt_4 : decode cX10_adopt 4 = .ok (.getfield 117, 3) := by decide +kernel
theorem dX10_adopt_7 : decode cX10_adopt 7 = .ok (.bipush 6, 2) := by decide +kernel
theorem dX10_adopt_9 : decode cX10_adopt 9 = .ok (.if_icmp .le 6, 3) := by decide +kernel
theorem dX10_adopt_15 : decode cX10_adopt 15 = .ok (.aload_n 0, 1) := by decide +kernel
theorem dX10_adopt_16 : decode cX10_adopt 16 = .ok (.getfield 42, 3) := by decide +kernel
theorem dX10_adopt_19 : decode cX10_adopt 19 = .ok (.aload_n 0, 1) := by decide +kernel
theorem dX10_adopt_20 : decode cX10_adopt 20 = .ok (.getfield 56, 3) := by decide +kernel
theorem dX10_adopt_23 : decode cX10_adopt 23 = .ok (.aload_n 0, 1) := by decide +kernel
theorem dX10_adopt_24 : decode cX10_adopt 24 = .ok (.invokevirtual 218, 3) := by decide +kernel
theorem dX10_adopt_27 : decode cX10_adopt 27 = .ok (.aload_n 0, 1) := by decide +kernel
theorem dX10_adopt_28 : decode cX10_adopt 28 = .ok (.getfield 19, 3) := by decide +kernel
theorem dX10_adopt_31 : decode cX10_adopt 31 = .ok (.getfield 150, 3) := by decide +kernel
theorem dX10_adopt_34 : decode cX10_adopt 34 = .ok (.invokevirtual 259, 3) := by decide +kernel
theorem dX10_adopt_37 : decode cX10_adopt 37 = .ok (.aload_n 0, 1) := by decide +kernel
theorem dX10_adopt_38 : decode cX10_adopt 38 = .ok (.getfield 42, 3) := by decide +kernel
theorem dX10_adopt_41 : decode cX10_adopt 41 = .ok (.getfield 263, 3) := by decide +kernel
theorem dX10_adopt_44 : decode cX10_adopt 44 = .ok (.istore_n 1, 1) := by decide +kernel
theorem dX10_adopt_45 : decode cX10_adopt 45 = .ok (.iload_n 1, 1) := by decide +kernel
theorem dX10_adopt_46 : decode cX10_adopt 46 = .ok (.bipush (-4), 2) := by decide +kernel
theorem dX10_adopt_48 : decode cX10_adopt 48 = .ok (.if_icmp .eq 21, 3) := by decide +kernel
theorem dX10_adopt_69 : decode cX10_adopt 69 = .ok (.iload_n 1, 1) := by decide +kernel
theorem dX10_adopt_70 : decode cX10_adopt 70 = .ok (.ireturn, 1) := by decide +kernel
theorem dX10_down_0 : decode cX10_down 0 = .ok (.iload_n 1, 1) := by decide +kernel
theorem dX10_down_1 : decode cX10_down 1 = .ok (.aload_n 0, 1) := by decide +kernel
theorem dX10_down_2 : decode cX10_down 2 = .ok (.getfield 56, 3) := by decide +kernel
theorem dX10_down_5 : decode cX10_down 5 = .ok (.invokevirtual 120, 3) := by decide +kernel
theorem dX10_down_8 : decode cX10_down 8 = .ok (.iconst (-1), 1) := by decide +kernel
theorem dX10_down_9 : decode cX10_down 9 = .ok (.ixor, 1) := by decide +kernel
theorem dX10_down_10 : decode cX10_down 10 = .ok (.iand, 1) := by decide +kernel
theorem dX10_down_11 : decode cX10_down 11 = .ok (.ifCond .eq 5, 3) := by decide +kernel
theorem dX10_down_14 : decode cX10_down 14 = .ok (.iconst (-1), 1) := by decide +kernel
theorem dX10_down_15 : decode cX10_down 15 = .ok (.ireturn, 1) := by decide +kernel
theorem dX10_down_16 : decode cX10_down 16 = .ok (.aload_n 0, 1) := by decide +kernel
theorem dX10_down_17 : decode cX10_down 17 = .ok (.getfield 56, 3) := by decide +kernel
theorem dX10_down_20 : decode cX10_down 20 = .ok (.aload_n 0, 1) := by decide +kernel
theorem dX10_down_21 : decode cX10_down 21 = .ok (.invokevirtual 218, 3) := by decide +kernel
theorem dX10_down_24 : decode cX10_down 24 = .ok (.invokevirtual 205, 3) := by decide +kernel
theorem dX10_down_27 : decode cX10_down 27 = .ok (.aload_n 0, 1) := by decide +kernel
theorem dX10_down_28 : decode cX10_down 28 = .ok (.getfield 56, 3) := by decide +kernel
theorem dX10_down_31 : decode cX10_down 31 = .ok (.aload_n 0, 1) := by decide +kernel
theorem dX10_down_32 : decode cX10_down 32 = .ok (.invokevirtual 218, 3) := by decide +kernel
theorem dX10_down_35 : decode cX10_down 35 = .ok (.iload_n 1, 1) := by decide +kernel
theorem dX10_down_36 : decode cX10_down 36 = .ok (.iconst (-1), 1) := by decide +kernel
theorem dX10_down_37 : decode cX10_down 37 = .ok (.ixor, 1) := by decide +kernel
theorem dX10_down_38 : decode cX10_down 38 = .ok (.iand, 1) := by decide +kernel
theorem dX10_down_39 : decode cX10_down 39 = .ok (.invokevirtual 205, 3) := by decide +kernel
theorem dX10_down_42 : decode cX10_down 42 = .ok (.iconst (-1), 1) := by decide +kernel
theorem dX10_down_43 : decode cX10_down 43 = .ok (.ixor, 1) := by decide +kernel
theorem dX10_down_44 : decode cX10_down 44 = .ok (.iand, 1) := by decide +kernel
theorem dX10_down_45 : decode cX10_down 45 = .ok (.ireturn, 1) := by decide +kernel
theorem dX10_cut_0 : decode cX10_cut 0 = .ok (.aload_n 0, 1) := by decide +kernel
theorem dX10_cut_1 : decode cX10_cut 1 = .ok (.getfield 56, 3) := by decide +kernel
theorem dX10_cut_4 : decode cX10_cut 4 = .ok (.iload_n 1, 1) := by decide +kernel
theorem dX10_cut_5 : decode cX10_cut 5 = .ok (.invokevirtual 100, 3) := by decide +kernel
theorem dX10_cut_8 : decode cX10_cut 8 = .ok (.ifCond .eq 12, 3) := by decide +kernel
theorem dX10_cut_20 : decode cX10_cut 20 = .ok (.iconst (-1), 1) := by decide +kernel
theorem dX10_cut_21 : decode cX10_cut 21 = .ok (.ireturn, 1) := by decide +kernel
theorem dX10_need_0 : decode cX10_need 0 = .ok (.aload_n 0, 1) := by decide +kernel
theorem dX10_need_1 : decode cX10_need 1 = .ok (.getfield 56, 3) := by decide +kernel
theorem dX10_need_4 : decode cX10_need 4 = .ok (.iload_n 1, 1) := by decide +kernel
theorem dX10_need_5 : decode cX10_need 5 = .ok (.invokevirtual 100, 3) := by decide +kernel
theorem dX10_need_8 : decode cX10_need 8 = .ok (.ifCond .eq 12, 3) := by decide +kernel
theorem dX10_need_20 : decode cX10_need 20 = .ok (.iconst (-1), 1) := by decide +kernel
theorem dX10_need_21 : decode cX10_need 21 = .ok (.ireturn, 1) := by decide +kernel
theorem dX10_must_0 : decode cX10_must 0 = .ok (.aload_n 0, 1) := by decide +kernel
theorem dX10_must_1 : decode cX10_must 1 = .ok (.getfield 56, 3) := by decide +kernel
theorem dX10_must_4 : decode cX10_must 4 = .ok (.iload_n 1, 1) := by decide +kernel
theorem dX10_must_5 : decode cX10_must 5 = .ok (.invokevirtual 100, 3) := by decide +kernel
theorem dX10_must_8 : decode cX10_must 8 = .ok (.ifCond .ne 5, 3) := by decide +kernel
theorem dX10_must_11 : decode cX10_must 11 = .ok (.iconst (-1), 1) := by decide +kernel
theorem dX10_must_12 : decode cX10_must 12 = .ok (.ireturn, 1) := by decide +kernel
theorem dX10_seen_0 : decode cX10_seen 0 = .ok (.iload_n 1, 1) := by decide +kernel
theorem dX10_seen_1 : decode cX10_seen 1 = .ok (.aload_n 0, 1) := by decide +kernel
theorem dX10_seen_2 : decode cX10_seen 2 = .ok (.getfield 56, 3) := by decide +kernel
theorem dX10_seen_5 : decode cX10_seen 5 = .ok (.invokevirtual 120, 3) := by decide +kernel
theorem dX10_seen_8 : decode cX10_seen 8 = .ok (.iconst (-1), 1) := by decide +kernel
theorem dX10_seen_9 : decode cX10_seen 9 = .ok (.ixor, 1) := by decide +kernel
theorem dX10_seen_10 : decode cX10_seen 10 = .ok (.iand, 1) := by decide +kernel
theorem dX10_seen_11 : decode cX10_seen 11 = .ok (.ifCond .eq 5, 3) := by decide +kernel
theorem dX10_seen_14 : decode cX10_seen 14 = .ok (.iconst (-1), 1) := by decide +kernel
theorem dX10_seen_15 : decode cX10_seen 15 = .ok (.ireturn, 1) := by decide +kernel
theorem dX10_seen_16 : decode cX10_seen 16 = .ok (.aload_n 0, 1) := by decide +kernel
theorem dX10_seen_17 : decode cX10_seen 17 = .ok (.getfield 56, 3) := by decide +kernel
theorem dX10_seen_20 : decode cX10_seen 20 = .ok (.iload_n 1, 1) := by decide +kernel
theorem dX10_seen_21 : decode cX10_seen 21 = .ok (.invokestatic 292, 3) := by decide +kernel
theorem dX10_seen_24 : decode cX10_seen 24 = .ok (.ireturn, 1) := by decide +kernel
theorem dX10_sheet_0 : decode cX10_sheet 0 = .ok (.iload_n 1, 1) := by decide +kernel
theorem dX10_sheet_1 : decode cX10_sheet 1 = .ok (.invokestatic 295, 3) := by decide +kernel
theorem dX10_sheet_4 : decode cX10_sheet 4 = .ok (.ifCond .eq 16, 3) := by decide +kernel
theorem dX10_sheet_7 : decode cX10_sheet 7 = .ok (.iload_n 2, 1) := by decide +kernel
theorem dX10_sheet_8 : decode cX10_sheet 8 = .ok (.invokestatic 298, 3) := by decide +kernel
theorem dX10_sheet_11 : decode cX10_sheet 11 = .ok (.ifCond .eq 9, 3) := by decide +kernel
theorem dX10_sheet_14 : decode cX10_sheet 14 = .ok (.iload_n 3, 1) := by decide +kernel
theorem dX10_sheet_15 : decode cX10_sheet 15 = .ok (.bipush 40, 2) := by decide +kernel
theorem dX10_sheet_17 : decode cX10_sheet 17 = .ok (.if_icmp .le 5, 3) := by decide +kernel
theorem dX10_sheet_20 : decode cX10_sheet 20 = .ok (.iconst (-1), 1) := by decide +kernel
theorem dX10_sheet_21 : decode cX10_sheet 21 = .ok (.ireturn, 1) := by decide +kernel
theorem dX10_sheet_22 : decode cX10_sheet 22 = .ok (.iload_n 3, 1) := by decide +kernel
theorem dX10_sheet_23 : decode cX10_sheet 23 = .ok (.ifCond .ge 6, 3) := by decide +kernel
theorem dX10_sheet_26 : decode cX10_sheet 26 = .ok (.bipush (-14), 2) := by decide +kernel
theorem dX10_sheet_28 : decode cX10_sheet 28 = .ok (.ireturn, 1) := by decide +kernel
theorem dX10_sheet_29 : decode cX10_sheet 29 = .ok (.aload_n 0, 1) := by decide +kernel
theorem dX10_sheet_30 : decode cX10_sheet 30 = .ok (.getfield 49, 3) := by decide +kernel
theorem dX10_sheet_33 : decode cX10_sheet 33 = .ok (.iload_n 1, 1) := by decide +kernel
theorem dX10_sheet_34 : decode cX10_sheet 34 = .ok (.iload_n 2, 1) := by decide +kernel
theorem dX10_sheet_35 : decode cX10_sheet 35 = .ok (.iload_n 3, 1) := by decide +kernel
theorem dX10_sheet_36 : decode cX10_sheet 36 = .ok (.invokevirtual 301, 3) := by decide +kernel
theorem dX10_sheet_39 : decode cX10_sheet 39 = .ok (.iconst 1, 1) := by decide +kernel
theorem dX10_sheet_40 : decode cX10_sheet 40 = .ok (.ireturn, 1) := by decide +kernel
theorem dX10_lay_0 : decode cX10_lay 0 = .ok (.iload_n 1, 1) := by decide +kernel
theorem dX10_lay_1 : decode cX10_lay 1 = .ok (.invokestatic 295, 3) := by decide +kernel
theorem dX10_lay_4 : decode cX10_lay 4 = .ok (.ifCond .ne 5, 3) := by decide +kernel
theorem dX10_lay_7 : decode cX10_lay 7 = .ok (.iconst (-1), 1) := by decide +kernel
theorem dX10_lay_8 : decode cX10_lay 8 = .ok (.ireturn, 1) := by decide +kernel
theorem dX10_lay_9 : decode cX10_lay 9 = .ok (.aload_n 0, 1) := by decide +kernel
theorem dX10_lay_10 : decode cX10_lay 10 = .ok (.getfield 49, 3) := by decide +kernel
theorem dX10_lay_13 : decode cX10_lay 13 = .ok (.getfield 305, 3) := by decide +kernel
theorem dX10_lay_16 : decode cX10_lay 16 = .ok (.iload_n 1, 1) := by decide +kernel
theorem dX10_lay_17 : decode cX10_lay 17 = .ok (.iaload, 1) := by decide +kernel
theorem dX10_lay_18 : decode cX10_lay 18 = .ok (.bipush (-4), 2) := by decide +kernel
theorem dX10_lay_20 : decode cX10_lay 20 = .ok (.if_icmp .ne 6, 3) := by decide +kernel
theorem dX10_lay_23 : decode cX10_lay 23 = .ok (.bipush (-11), 2) := by decide +kernel
theorem dX10_lay_25 : decode cX10_lay 25 = .ok (.ireturn, 1) := by decide +kernel
theorem dX10_measured_0 : decode cX10_measured 0 = .ok (.iload_n 1, 1) := by decide +kernel
theorem dX10_measured_1 : decode cX10_measured 1 = .ok (.invokestatic 295, 3) := by decide +kernel
theorem dX10_measured_4 : decode cX10_measured 4 = .ok (.ifCond .eq 10, 3) := by decide +kernel
theorem dX10_measured_7 : decode cX10_measured 7 = .ok (.iload_n 2, 1) := by decide +kernel
theorem dX10_measured_8 : decode cX10_measured 8 = .ok (.invokestatic 298, 3) := by decide +kernel
theorem dX10_measured_11 : decode cX10_measured 11 = .ok (.ifCond .ne 5, 3) := by decide +kernel
theorem dX10_measured_14 : decode cX10_measured 14 = .ok (.iconst (-1), 1) := by decide +kernel
theorem dX10_measured_15 : decode cX10_measured 15 = .ok (.ireturn, 1) := by decide +kernel
theorem dX10_measured_16 : decode cX10_measured 16 = .ok (.iload 4, 2) := by decide +kernel
theorem dX10_measured_18 : decode cX10_measured 18 = .ok (.ifCond .lt 21, 3) := by decide +kernel
theorem dX10_measured_21 : decode cX10_measured 21 = .ok (.iload 4, 2) := by decide +kernel
theorem dX10_measured_23 : decode cX10_measured 23 = .ok (.bipush 40, 2) := by decide +kernel
theorem dX10_measured_25 : decode cX10_measured 25 = .ok (.if_icmp .gt 14, 3) := by decide +kernel
theorem dX10_measured_28 : decode cX10_measured 28 = .ok (.iload 5, 2) := by decide +kernel
theorem dX10_measured_30 : decode cX10_measured 30 = .ok (.ifCond .lt 9, 3) := by decide +kernel
theorem dX10_measured_33 : decode cX10_measured 33 = .ok (.iload 5, 2) := by decide +kernel
theorem dX10_measured_35 : decode cX10_measured 35 = .ok (.iconst 2, 1) := by decide +kernel
theorem dX10_measured_36 : decode cX10_measured 36 = .ok (.if_icmp .le 5, 3) := by decide +kernel
theorem dX10_measured_39 : decode cX10_measured 39 = .ok (.iconst (-1), 1) := by decide +kernel
theorem dX10_measured_40 : decode cX10_measured 40 = .ok (.ireturn, 1) := by decide +kernel
theorem dX10_measured_41 : decode cX10_measured 41 = .ok (.aload_n 0, 1) := by decide +kernel
theorem dX10_measured_42 : decode cX10_measured 42 = .ok (.getfield 49, 3) := by decide +kernel
theorem dX10_measured_45 : decode cX10_measured 45 = .ok (.getfield 305, 3) := by decide +kernel
theorem dX10_measured_48 : decode cX10_measured 48 = .ok (.iload_n 1, 1) := by decide +kernel
theorem dX10_measured_49 : decode cX10_measured 49 = .ok (.iaload, 1) := by decide +kernel
theorem dX10_measured_50 : decode cX10_measured 50 = .ok (.bipush (-4), 2) := by decide +kernel
theorem dX10_measured_52 : decode cX10_measured 52 = .ok (.if_icmp .ne 6, 3) := by decide +kernel
theorem dX10_measured_55 : decode cX10_measured 55 = .ok (.bipush (-11), 2) := by decide +kernel
theorem dX10_measured_57 : decode cX10_measured 57 = .ok (.ireturn, 1) := by decide +kernel
theorem dX10_count_0 : decode cX10_count 0 = .ok (.iload_n 1, 1) := by decide +kernel
theorem dX10_count_1 : decode cX10_count 1 = .ok (.tableswitch 113 0 5 #[39, 47, 58, 69, 95, 103], 39) := by decide +kernel
theorem dX10_count_40 : decode cX10_count 40 = .ok (.aload_n 0, 1) := by decide +kernel
theorem dX10_count_41 : decode cX10_count 41 = .ok (.getfield 56, 3) := by decide +kernel
theorem dX10_count_44 : decode cX10_count 44 = .ok (.getfield 117, 3) := by decide +kernel
theorem dX10_count_47 : decode cX10_count 47 = .ok (.ireturn, 1) := by decide +kernel
theorem dX10_count_48 : decode cX10_count 48 = .ok (.aload_n 0, 1) := by decide +kernel
theorem dX10_count_49 : decode cX10_count 49 = .ok (.getfield 19, 3) := by decide +kernel
theorem dX10_count_52 : decode cX10_count 52 = .ok (.getfield 147, 3) := by decide +kernel
theorem dX10_count_55 : decode cX10_count 55 = .ok (.invokestatic 281, 3) := by decide +kernel
theorem dX10_count_58 : decode cX10_count 58 = .ok (.ireturn, 1) := by decide +kernel
theorem dX10_count_59 : decode cX10_count 59 = .ok (.aload_n 0, 1) := by decide +kernel
theorem dX10_count_60 : decode cX10_count 60 = .ok (.getfield 19, 3) := by decide +kernel
theorem dX10_count_63 : decode cX10_count 63 = .ok (.getfield 187, 3) := by decide +kernel
theorem dX10_count_66 : decode cX10_count 66 = .ok (.getfield 191, 3) := by decide +kernel
theorem dX10_count_69 : decode cX10_count 69 = .ok (.ireturn, 1) := by decide +kernel
theorem dX10_count_70 : decode cX10_count 70 = .ok (.aload_n 0, 1) := by decide +kernel
theorem dX10_count_71 : decode cX10_count 71 = .ok (.getfield 56, 3) := by decide +kernel
theorem dX10_count_74 : decode cX10_count 74 = .ok (.invokevirtual 230, 3) := by decide +kernel
theorem dX10_count_77 : decode cX10_count 77 = .ok (.sipush 20000, 3) := by decide +kernel
theorem dX10_count_80 : decode cX10_count 80 = .ok (.if_icmp .le 8, 3) := by decide +kernel
theorem dX10_count_88 : decode cX10_count 88 = .ok (.aload_n 0, 1) := by decide +kernel
theorem dX10_count_89 : decode cX10_count 89 = .ok (.getfield 56, 3) := by decide +kernel
theorem dX10_count_92 : decode cX10_count 92 = .ok (.invokevirtual 230, 3) := by decide +kernel
theorem dX10_count_95 : decode cX10_count 95 = .ok (.ireturn, 1) := by decide +kernel
theorem dX10_count_96 : decode cX10_count 96 = .ok (.aload_n 0, 1) := by decide +kernel
theorem dX10_count_97 : decode cX10_count 97 = .ok (.getfield 10, 3) := by decide +kernel
theorem dX10_count_100 : decode cX10_count 100 = .ok (.getfield 80, 3) := by decide +kernel
theorem dX10_count_103 : decode cX10_count 103 = .ok (.ireturn, 1) := by decide +kernel
theorem dX10_count_104 : decode cX10_count 104 = .ok (.aload_n 0, 1) := by decide +kernel
theorem dX10_count_105 : decode cX10_count 105 = .ok (.getfield 49, 3) := by decide +kernel
theorem dX10_count_108 : decode cX10_count 108 = .ok (.getfield 305, 3) := by decide +kernel
theorem dX10_count_111 : decode cX10_count 111 = .ok (.iconst 0, 1) := by decide +kernel
theorem dX10_count_112 : decode cX10_count 112 = .ok (.iaload, 1) := by decide +kernel
theorem dX10_count_113 : decode cX10_count 113 = .ok (.ireturn, 1) := by decide +kernel
theorem dX10_count_114 : decode cX10_count 114 = .ok (.iconst (-1), 1) := by decide +kernel
theorem dX10_count_115 : decode cX10_count 115 = .ok (.ireturn, 1) := by decide +kernel
theorem dX10_asNumber_0 : decode cX10_asNumber 0 = .ok (.iload_n 0, 1) := by decide +kernel
theorem dX10_asNumber_1 : decode cX10_asNumber 1 = .ok (.ifCond .eq 7, 3) := by decide +kernel
theorem dX10_asNumber_4 : decode cX10_asNumber 4 = .ok (.iconst 1, 1) := by decide +kernel
theorem dX10_asNumber_5 : decode cX10_asNumber 5 = .ok (.goto 4, 3) := by decide +kernel
theorem dX10_asNumber_8 : decode cX10_asNumber 8 = .ok (.iconst 0, 1) := by decide +kernel
theorem dX10_asNumber_9 : decode cX10_asNumber 9 = .ok (.ireturn, 1) := by decide +kernel
theorem dX10_alive_0 : decode cX10_alive 0 = .ok (.aload_n 0, 1) := by decide +kernel
theorem dX10_alive_1 : decode cX10_alive 1 = .ok (.getfield 56, 3) := by decide +kernel
theorem dX10_alive_4 : decode cX10_alive 4 = .ok (.invokevirtual 120, 3) := by decide +kernel
theorem dX10_alive_7 : decode cX10_alive 7 = .ok (.aload_n 0, 1) := by decide +kernel
theorem dX10_alive_8 : decode cX10_alive 8 = .ok (.getfield 19, 3) := by decide +kernel
theorem dX10_alive_11 : decode cX10_alive 11 = .ok (.getfield 147, 3) := by decide +kernel
theorem dX10_alive_14 : decode cX10_alive 14 = .ok (.iconst (-1), 1) := by decide +kernel
theorem dX10_alive_15 : decode cX10_alive 15 = .ok (.ixor, 1) := by decide +kernel
theorem dX10_alive_16 : decode cX10_alive 16 = .ok (.iand, 1) := by decide +kernel
theorem dX10_alive_17 : decode cX10_alive 17 = .ok (.ireturn, 1) := by decide +kernel
theorem dX10_followTimes_0 : decode cX10_followTimes 0 = .ok (.aload_n 0, 1) := by decide +kernel
theorem dX10_followTimes_1 : decode cX10_followTimes 1 = .ok (.getfield 26, 3) := by decide +kernel
theorem dX10_followTimes_4 : decode cX10_followTimes 4 = .ok (.aload_n 0, 1) := by decide +kernel
theorem dX10_followTimes_5 : decode cX10_followTimes 5 = .ok (.getfield 56, 3) := by decide +kernel
theorem dX10_followTimes_8 : decode cX10_followTimes 8 = .ok (.invokevirtual 211, 3) := by decide +kernel
theorem dX10_followTimes_11 : decode cX10_followTimes 11 = .ok (.aload_n 0, 1) := by decide +kernel
theorem dX10_followTimes_12 : decode cX10_followTimes 12 = .ok (.getfield 26, 3) := by decide +kernel
theorem dX10_followTimes_15 : decode cX10_followTimes 15 = .ok (.aload_n 0, 1) := by decide +kernel
theorem dX10_followTimes_16 : decode cX10_followTimes 16 = .ok (.getfield 19, 3) := by decide +kernel
theorem dX10_followTimes_19 : decode cX10_followTimes 19 = .ok (.getfield 150, 3) := by decide +kernel
theorem dX10_followTimes_22 : decode cX10_followTimes 22 = .ok (.invokevirtual 318, 3) := by decide +kernel
theorem dX10_followTimes_25 : decode cX10_followTimes 25 = .ok (.aload_n 0, 1) := by decide +kernel
theorem dX10_followTimes_26 : decode cX10_followTimes 26 = .ok (.getfield 26, 3) := by decide +kernel
theorem dX10_followTimes_29 : decode cX10_followTimes 29 = .ok (.aload_n 0, 1) := by decide +kernel
theorem dX10_followTimes_30 : decode cX10_followTimes 30 = .ok (.getfield 56, 3) := by decide +kernel
theorem dX10_followTimes_33 : decode cX10_followTimes 33 = .ok (.aload_n 0, 1) := by decide +kernel
theorem dX10_followTimes_34 : decode cX10_followTimes 34 = .ok (.invokevirtual 218, 3) := by decide +kernel
theorem dX10_followTimes_37 : decode cX10_followTimes 37 = .ok (.invokevirtual 221, 3) := by decide +kernel
theorem dX10_followTimes_40 : decode cX10_followTimes 40 = .ok (.return_, 1) := by decide +kernel
theorem dX10_forgetReckoned_0 : decode cX10_forgetReckoned 0 = .ok (.aload_n 0, 1) := by decide +kernel
theorem dX10_forgetReckoned_1 : decode cX10_forgetReckoned 1 = .ok (.getfield 35, 3) := by decide +kernel
theorem dX10_forgetReckoned_4 : decode cX10_forgetReckoned 4 = .ok (.invokevirtual 321, 3) := by decide +kernel
theorem dX10_forgetReckoned_7 : decode cX10_forgetReckoned 7 = .ok (.aload_n 0, 1) := by decide +kernel
theorem dX10_forgetReckoned_8 : decode cX10_forgetReckoned 8 = .ok (.getfield 42, 3) := by decide +kernel
theorem dX10_forgetReckoned_11 : decode cX10_forgetReckoned 11 = .ok (.iconst 0, 1) := by decide +kernel
theorem dX10_forgetReckoned_12 : decode cX10_forgetReckoned 12 = .ok (.putfield 324, 3) := by decide +kernel
theorem dX10_forgetReckoned_15 : decode cX10_forgetReckoned 15 = .ok (.return_, 1) := by decide +kernel
theorem dX11_init_0 : decode cX11_init 0 = .ok (.aload_n 0, 1) := by decide +kernel
theorem dX11_init_1 : decode cX11_init 1 = .ok (.invokespecial 1, 3) := by decide +kernel
theorem dX11_init_4 : decode cX11_init 4 = .ok (.aload_n 0, 1) := by decide +kernel
theorem dX11_init_5 : decode cX11_init 5 = .ok (.bipush 56, 2) := by decide +kernel
theorem dX11_init_7 : decode cX11_init 7 = .ok (.newarray .int, 2) := by decide +kernel
theorem dX11_init_9 : decode cX11_init 9 = .ok (.putfield 7, 3) := by decide +kernel
theorem dX11_init_12 : decode cX11_init 12 = .ok (.aload_n 0, 1) := by decide +kernel
theorem dX11_init_13 : decode cX11_init 13 = .ok (.bipush 8, 2) := by decide +kernel
theorem dX11_init_15 : decode cX11_init 15 = .ok (.newarray .int, 2) := by decide +kernel
theorem dX11_init_17 : decode cX11_init 17 = .ok (.putfield 13, 3) := by decide +kernel
theorem dX11_init_20 : decode cX11_init 20 = .ok (.aload_n 0, 1) := by decide +kernel
theorem dX11_init_21 : decode cX11_init 21 = .ok (.sipush 4096, 3) := by decide +kernel
theorem dX11_init_24 : decode cX11_init 24 = .ok (.newarray .boolean, 2) := by decide +kernel
theorem dX11_init_26 : decode cX11_init 26 = .ok (.putfield 16, 3) := by decide +kernel
theorem dX11_init_29 : decode cX11_init 29 = .ok (.aload_n 0, 1) := by decide +kernel
theorem dX11_init_30 : decode cX11_init 30 = .ok (.bipush 56, 2) := by decide +kernel
theorem dX11_init_32 : decode cX11_init 32 = .ok (.newarray .int, 2) := by decide +kernel
theorem dX11_init_34 : decode cX11_init 34 = .ok (.putfield 20, 3) := by decide +kernel
theorem dX11_init_37 : decode cX11_init 37 = .ok (.aload_n 0, 1) := by decide +kernel
theorem dX11_init_38 : decode cX11_init 38 = .ok (.bipush 8, 2) := by decide +kernel
theorem dX11_init_40 : decode cX11_init 40 = .ok (.newarray .int, 2) := by decide +kernel
theorem dX11_init_42 : decode cX11_init 42 = .ok (.putfield 23, 3) := by decide +kernel
theorem dX11_init_45 : decode cX11_init 45 = .ok (.aload_n 0, 1) := by decide +kernel
theorem dX11_init_46 : decode cX11_init 46 = .ok (.sipush 4096, 3) := by decide +kernel
theorem dX11_init_49 : decode cX11_init 49 = .ok (.newarray .boolean, 2) := by decide +kernel
theorem dX11_init_51 : decode cX11_init 51 = .ok (.putfield 26, 3) := by decide +kernel
theorem dX11_init_54 : decode cX11_init 54 = .ok (.aload_n 0, 1) := by decide +kernel
theorem dX11_init_55 : decode cX11_init 55 = .ok (.sipush 400, 3) := by decide +kernel
theorem dX11_init_58 : decode cX11_init 58 = .ok (.newarray .int, 2) := by decide +kernel
theorem dX11_init_60 : decode cX11_init 60 = .ok (.putfield 29, 3) := by decide +kernel
theorem dX11_init_63 : decode cX11_init 63 = .ok (.aload_n 0, 1) := by decide +kernel
theorem dX11_init_64 : decode cX11_init 64 = .ok (.sipush 400, 3) := by decide +kernel
theorem dX11_init_67 : decode cX11_init 67 = .ok (.newarray .int, 2) := by decide +kernel
theorem dX11_init_69 : decode cX11_init 69 = .ok (.putfield 32, 3) := by decide +kernel
theorem dX11_init_72 : decode cX11_init 72 = .ok (.aload_n 0, 1) := by decide +kernel
theorem dX11_init_73 : decode cX11_init 73 = .ok (.sipush 400, 3) := by decide +kernel
theorem dX11_init_76 : decode cX11_init 76 = .ok (.newarray .int, 2) := by decide +kernel
theorem dX11_init_78 : decode cX11_init 78 = .ok (.putfield 35, 3) := by decide +kernel
theorem dX11_init_81 : decode cX11_init 81 = .ok (.aload_n 0, 1) := by decide +kernel
theorem dX11_init_82 : decode cX11_init 82 = .ok (.sipush 400, 3) := by decide +kernel
theorem dX11_init_85 : decode cX11_init 85 = .ok (.newarray .int, 2) := by decide +kernel
theorem dX11_init_87 : decode cX11_init 87 = .ok (.putfield 38, 3) := by decide +kernel
theorem dX11_init_90 : decode cX11_init 90 = .ok (.aload_n 0, 1) := by decide +kernel
theorem dX11_init_91 : decode cX11_init 91 = .ok (.sipush 400, 3) := by decide +kernel
theorem dX11_init_94 : decode cX11_init 94 = .ok (.newarray .boolean, 2) := by decide +kernel
theorem dX11_init_96 : decode cX11_init 96 = .ok (.putfield 41, 3) := by decide +kernel
theorem dX11_init_99 : decode cX11_init 99 = .ok (.aload_n 0, 1) := by decide +kernel
theorem dX11_init_100 : decode cX11_init 100 = .ok (.sipush 400, 3) := by decide +kernel
theorem dX11_init_103 : decode cX11_init 103 = .ok (.newarray .int, 2) := by decide +kernel
theorem dX11_init_105 : decode cX11_init 105 = .ok (.putfield 44, 3) := by decide +kernel
theorem dX11_init_108 : decode cX11_init 108 = .ok (.aload_n 0, 1) := by decide +kernel
theorem dX11_init_109 : decode cX11_init 109 = .ok (.bipush 8, 2) := by decide +kernel
theorem dX11_init_111 : decode cX11_init 111 = .ok (.newarray .int, 2) := by decide +kernel
theorem dX11_init_113 : decode cX11_init 113 = .ok (.putfield 47, 3) := by decide +kernel
theorem dX11_init_116 : decode cX11_init 116 = .ok (.aload_n 0, 1) := by decide +kernel
theorem dX11_init_117 : decode cX11_init 117 = .ok (.bipush 8, 2) := by decide +kernel
theorem dX11_init_119 : decode cX11_init 119 = .ok (.newarray .int, 2) := by decide +kernel
theorem dX11_init_121 : decode cX11_init 121 = .ok (.putfield 50, 3) := by decide +kernel
theorem dX11_init_124 : decode cX11_init 124 = .ok (.aload_n 0, 1) := by decide +kernel
theorem dX11_init_125 : decode cX11_init 125 = .ok (.bipush 8, 2) := by decide +kernel
theorem dX11_init_127 : decode cX11_init 127 = .ok (.newarray .int, 2) := by decide +kernel
theorem dX11_init_129 : decode cX11_init 129 = .ok (.putfield 53, 3) := by decide +kernel
theorem dX11_init_132 : decode cX11_init 132 = .ok (.aload_n 0, 1) := by decide +kernel
theorem dX11_init_133 : decode cX11_init 133 = .ok (.bipush 8, 2) := by decide +kernel
theorem dX11_init_135 : decode cX11_init 135 = .ok (.newarray .boolean, 2) := by decide +kernel
theorem dX11_init_137 : decode cX11_init 137 = .ok (.putfield 56, 3) := by decide +kernel
theorem dX11_init_140 : decode cX11_init 140 = .ok (.aload_n 0, 1) := by decide +kernel
theorem dX11_init_141 : decode cX11_init 141 = .ok (.bipush 8, 2) := by decide +kernel
theorem dX11_init_143 : decode cX11_init 143 = .ok (.newarray .int, 2) := by decide +kernel
theorem dX11_init_145 : decode cX11_init 145 = .ok (.putfield 59, 3) := by decide +kernel
theorem dX11_init_148 : decode cX11_init 148 = .ok (.aload_n 0, 1) := by decide +kernel
theorem dX11_init_149 : decode cX11_init 149 = .ok (.bipush 8, 2) := by decide +kernel
theorem dX11_init_151 : decode cX11_init 151 = .ok (.newarray .int, 2) := by decide +kernel
theorem dX11_init_153 : decode cX11_init 153 = .ok (.putfield 62, 3) := by decide +kernel
theorem dX11_init_156 : decode cX11_init 156 = .ok (.aload_n 0, 1) := by decide +kernel
theorem dX11_init_157 : decode cX11_init 157 = .ok (.sipush 192, 3) := by decide +kernel
theorem dX11_init_160 : decode cX11_init 160 = .ok (.newarray .int, 2) := by decide +kernel
theorem dX11_init_162 : decode cX11_init 162 = .ok (.putfield 65, 3) := by decide +kernel
theorem dX11_init_165 : decode cX11_init 165 = .ok (.aload_n 0, 1) := by decide +kernel
theorem dX11_init_166 : decode cX11_init 166 = .ok (.bipush 8, 2) := by decide +kernel
theorem dX11_init_168 : decode cX11_init 168 = .ok (.newarray .int, 2) := by decide +kernel
theorem dX11_init_170 : decode cX11_init 170 = .ok (.putfield 68, 3) := by decide +kernel
theorem dX11_init_173 : decode cX11_init 173 = .ok (.aload_n 0, 1) := by decide +kernel
theorem dX11_init_174 : decode cX11_init 174 = .ok (.bipush 8, 2) := by decide +kernel
theorem dX11_init_176 : decode cX11_init 176 = .ok (.newarray .int, 2) := by decide +kernel
theorem dX11_init_178 : decode cX11_init 178 = .ok (.putfield 71, 3) := by decide +kernel
theorem dX11_init_181 : decode cX11_init 181 = .ok (.aload_n 0, 1) := by decide +kernel
theorem dX11_init_182 : decode cX11_init 182 = .ok (.bipush 8, 2) := by decide +kernel
theorem dX11_init_184 : decode cX11_init 184 = .ok (.newarray .int, 2) := by decide +kernel
theorem dX11_init_186 : decode cX11_init 186 = .ok (.putfield 74, 3) := by decide +kernel
theorem dX11_init_189 : decode cX11_init 189 = .ok (.aload_n 0, 1) := by decide +kernel
theorem dX11_init_190 : decode cX11_init 190 = .ok (.bipush 8, 2) := by decide +kernel
theorem dX11_init_192 : decode cX11_init 192 = .ok (.newarray .int, 2) := by decide +kernel
theorem dX11_init_194 : decode cX11_init 194 = .ok (.putfield 77, 3) := by decide +kernel
theorem dX11_init_197 : decode cX11_init 197 = .ok (.aload_n 0, 1) := by decide +kernel
theorem dX11_init_198 : decode cX11_init 198 = .ok (.bipush 8, 2) := by decide +kernel
theorem dX11_init_200 : decode cX11_init 200 = .ok (.newarray .int, 2) := by decide +kernel
theorem dX11_init_202 : decode cX11_init 202 = .ok (.putfield 80, 3) := by decide +kernel
theorem dX11_init_205 : decode cX11_init 205 = .ok (.aload_n 0, 1) := by decide +kernel
theorem dX11_init_206 : decode cX11_init 206 = .ok (.iconst 4, 1) := by decide +kernel
theorem dX11_init_207 : decode cX11_init 207 = .ok (.newarray .int, 2) := by decide +kernel
theorem dX11_init_209 : decode cX11_init 209 = .ok (.putfield 83, 3) := by decide +kernel
theorem dX11_init_212 : decode cX11_init 212 = .ok (.aload_n 0, 1) := by decide +kernel
theorem dX11_init_213 : decode cX11_init 213 = .ok (.iconst 4, 1) := by decide +kernel
theorem dX11_init_214 : decode cX11_init 214 = .ok (.newarray .int, 2) := by decide +kernel
theorem dX11_init_216 : decode cX11_init 216 = .ok (.putfield 86, 3) := by decide +kernel
theorem dX11_init_219 : decode cX11_init 219 = .ok (.aload_n 0, 1) := by decide +kernel
theorem dX11_init_220 : decode cX11_init 220 = .ok (.sipush 160, 3) := by decide +kernel
theorem dX11_init_223 : decode cX11_init 223 = .ok (.newarray .int, 2) := by decide +kernel
theorem dX11_init_225 : decode cX11_init 225 = .ok (.putfield 89, 3) := by decide +kernel
theorem dX11_init_228 : decode cX11_init 228 = .ok (.iconst 0, 1) := by decide +kernel
theorem dX11_init_229 : decode cX11_init 229 = .ok (.istore_n 1, 1) := by decide +kernel
theorem dX11_init_230 : decode cX11_init 230 = .ok (.iload_n 1, 1) := by decide +kernel
theorem dX11_init_231 : decode cX11_init 231 = .ok (.iconst 4, 1) := by decide +kernel
theorem dX11_init_232 : decode cX11_init 232 = .ok (.if_icmp .ge 17, 3) := by decide +kernel
theorem dX11_init_235 : decode cX11_init 235 = .ok (.aload_n 0, 1) := by decide +kernel
theorem dX11_init_236 : decode cX11_init 236 = .ok (.getfield 83, 3) := by decide +kernel
theorem dX11_init_239 : decode cX11_init 239 = .ok (.iload_n 1, 1) := by decide +kernel
theorem dX11_init_240 : decode cX11_init 240 = .ok (.bipush (-4), 2) := by decide +kernel
theorem dX11_init_242 : decode cX11_init 242 = .ok (.iastore, 1) := by decide +kernel
theorem dX11_init_243 : decode cX11_init 243 = .ok (.iinc 1 1, 3) := by decide +kernel
theorem dX11_init_246 : decode cX11_init 246 = .ok (.goto (-16), 3) := by decide +kernel
theorem dX11_init_249 : decode cX11_init 249 = .ok (.aload_n 0, 1) := by decide +kernel
theorem dX11_init_250 : decode cX11_init 250 = .ok (.invokevirtual 92, 3) := by decide +kernel
theorem dX11_init_253 : decode cX11_init 253 = .ok (.aload_n 0, 1) := by decide +kernel
theorem dX11_init_254 : decode cX11_init 254 = .ok (.invokevirtual 95, 3) := by decide +kernel
theorem dX11_init_257 : decode cX11_init 257 = .ok (.return_, 1) := by decide +kernel
theorem dX11_in_0 : decode cX11_in 0 = .ok (.lload_n 0, 1) := by decide +kernel
theorem dX11_in_1 : decode cX11_in 1 = .ok (.lload_n 2, 1) := by decide +kernel
theorem dX11_in_2 : decode cX11_in 2 = .ok (.lcmp, 1) := by decide +kernel
theorem dX11_in_3 : decode cX11_in 3 = .ok (.ifCond .lt 14, 3) := by decide +kernel
theorem dX11_in_6 : decode cX11_in 6 = .ok (.lload_n 0, 1) := by decide +kernel
theorem dX11_in_7 : decode cX11_in 7 = .ok (.lload 4, 2) := by decide +kernel
theorem dX11_in_9 : decode cX11_in 9 = .ok (.lcmp, 1) := by decide +kernel
theorem dX11_in_10 : decode cX11_in 10 = .ok (.ifCond .gt 7, 3) := by decide +kernel
theorem dX11_in_13 : decode cX11_in 13 = .ok (.iconst 1, 1) := by decide +kernel
theorem dX11_in_14 : decode cX11_in 14 = .ok (.goto 4, 3) := by decide +kernel
theorem dX11_in_17 : decode cX11_in 17 = .ok (.iconst 0, 1) := by decide +kernel
theorem dX11_in_18 : decode cX11_in 18 = .ok (.ireturn, 1) := by decide +kernel
theorem dX11_flag_0 : decode cX11_flag 0 = .ok (.iload_n 0, 1) := by decide +kernel
theorem dX11_flag_1 : decode cX11_flag 1 = .ok (.ifCond .eq 7, 3) := by decide +kernel
theorem dX11_flag_8 : decode cX11_flag 8 = .ok (.iconst 0, 1) := by decide +kernel
theorem dX11_flag_9 : decode cX11_flag 9 = .ok (.ireturn, 1) := by decide +kernel
theorem dX11_countOf_0 : decode cX11_countOf 0 = .ok (.iconst 0, 1) := by decide +kernel
theorem dX11_countOf_1 : decode cX11_countOf 1 = .ok (.istore_n 1, 1) := by decide +kernel
theorem dX11_countOf_2 : decode cX11_countOf 2 = .ok (.iconst 0, 1) := by decide +kernel
theorem dX11_countOf_3 : decode cX11_countOf 3 = .ok (.istore_n 2, 1) := by decide +kernel
theorem dX11_countOf_4 : decode cX11_countOf 4 = .ok (.iload_n 2, 1) := by decide +kernel
theorem dX11_countOf_5 : decode cX11_countOf 5 = .ok (.bipush 9, 2) := by decide +kernel
theorem dX11_countOf_7 : decode cX11_countOf 7 = .ok (.if_icmp .ge 17, 3) := by decide +kernel
theorem dX11_countOf_10 : decode cX11_countOf 10 = .ok (.iload_n 1, 1) := by decide +kernel
theorem dX11_countOf_11 : decode cX11_countOf 11 = .ok (.iload_n 0, 1) := by decide +kernel
theorem dX11_countOf_12 : decode cX11_countOf 12 = .ok (.iload_n 2, 1) := by decide +kernel
theorem dX11_countOf_13 : decode cX11_countOf 13 = .ok (.ishr, 1) := by decide +kernel
theorem dX11_countOf_14 : decode cX11_countOf 14 = .ok (.iconst 1, 1) := by decide +kernel
theorem dX11_countOf_15 : decode cX11_countOf 15 = .ok (.iand, 1) := by decide +kernel
theorem dX11_countOf_16 : decode cX11_countOf 16 = .ok (.iadd, 1) := by decide +kernel
theorem dX11_countOf_17 : decode cX11_countOf 17 = .ok (.istore_n 1, 1) := by decide +kernel
theorem dX11_countOf_18 : decode cX11_countOf 18 = .ok (.iinc 2 1, 3) := by decide +kernel
theorem dX11_countOf_21 : decode cX11_countOf 21 = .ok (.goto (-17), 3) := by decide +kernel
theorem dX11_countOf_24 : decode cX11_countOf 24 = .ok (.iload_n 1, 1) := by decide +kernel
theorem dX11_countOf_25 : decode cX11_countOf 25 = .ok (.ireturn, 1) := by decide +kernel
theorem dX11_firstDraft_0 : decode cX11_firstDraft 0 = .ok (.aload_n 0, 1) := by decide +kernel
theorem dX11_firstDraft_1 : decode cX11_firstDraft 1 = .ok (.iconst 0, 1) := by decide +kernel
theorem dX11_firstDraft_2 : decode cX11_firstDraft 2 = .ok (.putfield 98, 3) := by decide +kernel
theorem dX11_firstDraft_5 : decode cX11_firstDraft 5 = .ok (.aload_n 0, 1) := by decide +kernel
theorem dX11_firstDraft_6 : decode cX11_firstDraft 6 = .ok (.sipush 999, 3) := by decide +kernel
theorem dX11_firstDraft_9 : decode cX11_firstDraft 9 = .ok (.putfield 102, 3) := by decide +kernel
theorem dX11_firstDraft_12 : decode cX11_firstDraft 12 = .ok (.aload_n 0, 1) := by decide +kernel
theorem dX11_firstDraft_13 : decode cX11_firstDraft 13 = .ok (.iconst 0, 1) := by decide +kernel
theorem dX11_firstDraft_14 : decode cX11_firstDraft 14 = .ok (.putfield 105, 3) := by decide +kernel
theorem dX11_firstDraft_17 : decode cX11_firstDraft 17 = .ok (.aload_n 0, 1) := by decide +kernel
theorem dX11_firstDraft_18 : decode cX11_firstDraft 18 = .ok (.iconst 5, 1) := by decide +kernel
theorem dX11_firstDraft_19 : decode cX11_firstDraft 19 = .ok (.putfield 108, 3) := by decide +kernel
theorem dX11_firstDraft_22 : decode cX11_firstDraft 22 = .ok (.aload_n 0, 1) := by decide +kernel
theorem dX11_firstDraft_23 : decode cX11_firstDraft 23 = .ok (.iconst 0, 1) := by decide +kernel
theorem dX11_firstDraft_24 : decode cX11_firstDraft 24 = .ok (.putfield 111, 3) := by decide +kernel
theorem dX11_firstDraft_27 : decode cX11_firstDraft 27 = .ok (.aload_n 0, 1) := by decide +kernel
theorem dX11_firstDraft_28 : decode cX11_firstDraft 28 = .ok (.iconst 0, 1) := by decide +kernel
theorem dX11_firstDraft_29 : decode cX11_firstDraft 29 = .ok (.putfield 115, 3) := by decide +kernel
theorem dX11_firstDraft_32 : decode cX11_firstDraft 32 = .ok (.aload_n 0, 1) := by decide +kernel
theorem dX11_firstDraft_33 : decode cX11_firstDraft 33 = .ok (.iconst 0, 1) := by decide +kernel
theorem dX11_firstDraft_34 : decode cX11_firstDraft 34 = .ok (.putfield 118, 3) := by decide +kernel
theorem dX11_firstDraft_37 : decode cX11_firstDraft 37 = .ok (.return_, 1) := by decide +kernel
theorem dX11_keepDraft_0 : decode cX11_keepDraft 0 = .ok (.aload_n 0, 1) := by decide +kernel
theorem dX11_keepDraft_1 : decode cX11_keepDraft 1 = .ok (.aload_n 0, 1) := by decide +kernel
theorem dX11_keepDraft_2 : decode cX11_keepDraft 2 = .ok (.getfield 98, 3) := by decide +kernel
theorem dX11_keepDraft_5 : decode cX11_keepDraft 5 = .ok (.putfield 121, 3) := by decide +kernel
theorem dX11_keepDraft_8 : decode cX11_keepDraft 8 = .ok (.aload_n 0, 1) := by decide +kernel
theorem dX11_keepDraft_9 : decode cX11_keepDraft 9 = .ok (.aload_n 0, 1) := by decide +kernel
theorem dX11_keepDraft_10 : decode cX11_keepDraft 10 = .ok (.getfield 102, 3) := by decide +kernel
theorem dX11_keepDraft_13 : decode cX11_keepDraft 13 = .ok (.putfield 124, 3) := by decide +kernel
theorem dX11_keepDraft_16 : decode cX11_keepDraft 16 = .ok (.aload_n 0, 1) := by decide +kernel
theorem dX11_keepDraft_17 : decode cX11_keepDraft 17 = .ok (.aload_n 0, 1) := by decide +kernel
theorem dX11_keepDraft_18 : decode cX11_keepDraft 18 = .ok (.getfield 105, 3) := by decide +kernel
theorem dX11_keepDraft_21 : decode cX11_keepDraft 21 = .ok (.putfield 127, 3) := by decide +kernel
theorem dX11_keepDraft_24 : decode cX11_keepDraft 24 = .ok (.aload_n 0, 1) := by decide +kernel
theorem dX11_keepDraft_25 : decode cX11_keepDraft 25 = .ok (.aload_n 0, 1) := by decide +kernel
theorem dX11_keepDraft_26 : decode cX11_keepDraft 26 = .ok (.getfield 108, 3) := by decide +kernel
theorem dX11_keepDraft_29 : decode cX11_keepDraft 29 = .ok (.putfield 130, 3) := by decide +kernel
theorem dX11_keepDraft_32 : decode cX11_keepDraft 32 = .ok (.iconst 0, 1) := by decide +kernel
theorem dX11_keepDraft_33 : decode cX11_keepDraft 33 = .ok (.istore_n 1, 1) := by decide +kernel
theorem dX11_keepDraft_34 : decode cX11_keepDraft 34 = .ok (.iload_n 1, 1) := by decide +kernel
theorem dX11_keepDraft_35 : decode cX11_keepDraft 35 = .ok (.bipush 56, 2) := by decide +kernel
theorem dX11_keepDraft_37 : decode cX11_keepDraft 37 = .ok (.if_icmp .ge 21, 3) := by decide +kernel
theorem dX11_keepDraft_40 : decode cX11_keepDraft 40 = .ok (.aload_n 0, 1) := by decide +kernel
theorem dX11_keepDraft_41 : decode cX11_keepDraft 41 = .ok (.getfield 7, 3) := by decide +kernel
theorem dX11_keepDraft_44 : decode cX11_keepDraft 44 = .ok (.iload_n 1, 1) := by decide +kernel
theorem dX11_keepDraft_45 : decode cX11_keepDraft 45 = .ok (.aload_n 0, 1) := by decide +kernel
theorem dX11_keepDraft_46 : decode cX11_keepDraft 46 = .ok (.getfield 20, 3) := by decide +kernel
theorem dX11_keepDraft_49 : decode cX11_keepDraft 49 = .ok (.iload_n 1, 1) := by decide +kernel
theorem dX11_keepDraft_50 : decode cX11_keepDraft 50 = .ok (.iaload, 1) := by decide +kernel
theorem dX11_keepDraft_51 : decode cX11_keepDraft 51 = .ok (.iastore, 1) := by decide +kernel
theorem dX11_keepDraft_52 : decode cX11_keepDraft 52 = .ok (.iinc 1 1, 3) := by decide +kernel
theorem dX11_keepDraft_55 : decode cX11_keepDraft 55 = .ok (.goto (-21), 3) := by decide +kernel
theorem dX11_keepDraft_58 : decode cX11_keepDraft 58 = .ok (.iconst 0, 1) := by decide +kernel
theorem dX11_keepDraft_59 : decode cX11_keepDraft 59 = .ok (.istore_n 1, 1) := by decide +kernel
theorem dX11_keepDraft_60 : decode cX11_keepDraft 60 = .ok (.iload_n 1, 1) := by decide +kernel
theorem dX11_keepDraft_61 : decode cX11_keepDraft 61 = .ok (.bipush 8, 2) := by decide +kernel
theorem dX11_keepDraft_63 : decode cX11_keepDraft 63 = .ok (.if_icmp .ge 21, 3) := by decide +kernel
theorem dX11_keepDraft_84 : decode cX11_keepDraft 84 = .ok (.iconst 0, 1) := by decide +kernel
theorem dX11_keepDraft_85 : decode cX11_keepDraft 85 = .ok (.istore_n 1, 1) := by decide +kernel
theorem dX11_keepDraft_86 : decode cX11_keepDraft 86 = .ok (.iload_n 1, 1) := by decide +kernel
theorem dX11_keepDraft_87 : decode cX11_keepDraft 87 = .ok (.sipush 4096, 3) := by decide +kernel
theorem dX11_keepDraft_90 : decode cX11_keepDraft 90 = .ok (.if_icmp .ge 21, 3) := by decide +kernel
theorem dX11_keepDraft_93 : decode cX11_keepDraft 93 = .ok (.aload_n 0, 1) := by decide +kernel
theorem dX11_keepDraft_94 : decode cX11_keepDraft 94 = .ok (.getfield 16, 3) := by decide +kernel
theorem dX11_keepDraft_97 : decode cX11_keepDraft 97 = .ok (.iload_n 1, 1) := by decide +kernel
theorem dX11_keepDraft_98 : decode cX11_keepDraft 98 = .ok (.aload_n 0, 1) := by decide +kernel
theorem dX11_keepDraft_99 : decode cX11_keepDraft 99 = .ok (.getfield 26, 3) := by decide +kernel
theorem dX11_keepDraft_102 : decode cX11_keepDraft 102 = .ok (.iload_n 1, 1) := by decide +kernel
theorem dX11_keepDraft_103 : decode cX11_keepDraft 103 = .ok (.baload, 1) := by decide +kernel
theorem dX11_keepDraft_104 : decode cX11_keepDraft 104 = .ok (.bastore, 1) := by decide +kernel
theorem dX11_keepDraft_105 : decode cX11_keepDraft 105 = .ok (.iinc 1 1, 3) := by decide +kernel
theorem dX11_keepDraft_108 : decode cX11_keepDraft 108 = .ok (.goto (-22), 3) := by decide +kernel
theorem dX11_keepDraft_111 : decode cX11_keepDraft 111 = .ok (.aload_n 0, 1) := by decide +kernel
theorem dX11_keepDraft_112 : decode cX11_keepDraft 112 = .ok (.invokevirtual 133, 3) := by decide +kernel
theorem dX11_keepDraft_115 : decode cX11_keepDraft 115 = .ok (.return_, 1) := by decide +kernel
theorem dX11_feed_0 : decode cX11_feed 0 = .ok (.aload_n 0, 1) := by decide +kernel
theorem dX11_feed_1 : decode cX11_feed 1 = .ok (.getfield 136, 3) := by decide +kernel
theorem dX11_feed_4 : decode cX11_feed 4 = .ok (.bipush 8, 2) := by decide +kernel
theorem dX11_feed_6 : decode cX11_feed 6 = .ok (.iadd, 1) := by decide +kernel
theorem dX11_feed_7 : decode cX11_feed 7 = .ok (.sipush 400, 3) := by decide +kernel
theorem dX11_feed_10 : decode cX11_feed 10 = .ok (.if_icmp .le 6, 3) := by decide +kernel
theorem dX11_feed_16 : decode cX11_feed 16 = .ok (.bipush 56, 2) := by decide +kernel
theorem dX11_feed_18 : decode cX11_feed 18 = .ok (.istore_n 3, 1) := by decide +kernel
theorem dX11_feed_19 : decode cX11_feed 19 = .ok (.iload_n 3, 1) := by decide +kernel
theorem dX11_feed_20 : decode cX11_feed 20 = .ok (.ifCond .lt 36, 3) := by decide +kernel
theorem dX11_feed_23 : decode cX11_feed 23 = .ok (.aload_n 0, 1) := by decide +kernel
theorem dX11_feed_24 : decode cX11_feed 24 = .ok (.getfield 44, 3) := by decide +kernel
theorem dX11_feed_27 : decode cX11_feed 27 = .ok (.aload_n 0, 1) := by decide +kernel
theorem dX11_feed_28 : decode cX11_feed 28 = .ok (.getfield 136, 3) := by decide +kernel
theorem dX11_feed_31 : decode cX11_feed 31 = .ok (.lload_n 1, 1) := by decide +kernel
theorem dX11_feed_32 : decode cX11_feed 32 = .ok (.iload_n 3, 1) := by decide +kernel
theorem dX11_feed_33 : decode cX11_feed 33 = .ok (.lshr, 1) := by decide +kernel
theorem dX11_feed_34 : decode cX11_feed 34 = .ok (.ldc2_w 139, 3) := by decide +kernel
theorem dX11_feed_37 : decode cX11_feed 37 = .ok (.land, 1) := by decide +kernel
theorem dX11_feed_38 : decode cX11_feed 38 = .ok (.l2i, 1) := by decide +kernel
theorem dX11_feed_39 : decode cX11_feed 39 = .ok (.iastore, 1) := by decide +kernel
theorem dX11_feed_40 : decode cX11_feed 40 = .ok (.aload_n 0, 1) := by decide +kernel
theorem dX11_feed_41 : decode cX11_feed 41 = .ok (.dup, 1) := by decide +kernel
theorem dX11_feed_42 : decode cX11_feed 42 = .ok (.getfield 136, 3) := by decide +kernel
theorem dX11_feed_45 : decode cX11_feed 45 = .ok (.iconst 1, 1) := by decide +kernel
theorem dX11_feed_46 : decode cX11_feed 46 = .ok (.iadd, 1) := by decide +kernel
theorem dX11_feed_47 : decode cX11_feed 47 = .ok (.putfield 136, 3) := by decide +kernel
theorem dX11_feed_50 : decode cX11_feed 50 = .ok (.iinc 3 (-8), 3) := by decide +kernel
theorem dX11_feed_53 : decode cX11_feed 53 = .ok (.goto (-34), 3) := by decide +kernel
theorem dX11_feed_56 : decode cX11_feed 56 = .ok (.aload_n 0, 1) := by decide +kernel
theorem dX11_feed_57 : decode cX11_feed 57 = .ok (.getfield 136, 3) := by decide +kernel
theorem dX11_feed_60 : decode cX11_feed 60 = .ok (.ireturn, 1) := by decide +kernel
theorem dX11_end_0 : decode cX11_end 0 = .ok (.iload_n 1, 1) := by decide +kernel
theorem dX11_end_1 : decode cX11_end 1 = .ok (.i2l, 1) := by decide +kernel
theorem dX11_end_2 : decode cX11_end 2 = .ok (.lconst 0, 1) := by decide +kernel
theorem dX11_end_3 : decode cX11_end 3 = .ok (.aload_n 0, 1) := by decide +kernel
theorem dX11_end_4 : decode cX11_end 4 = .ok (.getfield 136, 3) := by decide +kernel
theorem dX11_end_7 : decode cX11_end 7 = .ok (.i2l, 1) := by decide +kernel
theorem dX11_end_8 : decode cX11_end 8 = .ok (.invokestatic 141, 3) := by decide +kernel
theorem dX11_end_11 : decode cX11_end 11 = .ok (.ifCond .ne 5, 3) := by decide +kernel
theorem dX11_end_14 : decode cX11_end 14 = .ok (.iconst (-1), 1) := by decide +kernel
theorem dX11_end_15 : decode cX11_end 15 = .ok (.ireturn, 1) := by decide +kernel
theorem dX11_end_16 : decode cX11_end 16 = .ok (.aload_n 0, 1) := by decide +kernel
theorem dX11_end_17 : decode cX11_end 17 = .ok (.getfield 136, 3) := by decide +kernel
theorem dX11_end_20 : decode cX11_end 20 = .ok (.istore_n 2, 1) := by decide +kernel
theorem dX11_end_21 : decode cX11_end 21 = .ok (.aload_n 0, 1) := by decide +kernel
theorem dX11_end_22 : decode cX11_end 22 = .ok (.iload_n 1, 1) := by decide +kernel
theorem dX11_end_23 : decode cX11_end 23 = .ok (.putfield 136, 3) := by decide +kernel
theorem dX11_end_26 : decode cX11_end 26 = .ok (.iload_n 2, 1) := by decide +kernel
theorem dX11_end_27 : decode cX11_end 27 = .ok (.ireturn, 1) := by decide +kernel
theorem dX11_look_0 : decode cX11_look 0 = .ok (.iload_n 1, 1) := by decide +kernel
theorem dX11_look_1 : decode cX11_look 1 = .ok (.aload_n 0, 1) := by decide +kernel
theorem dX11_look_2 : decode cX11_look 2 = .ok (.getfield 136, 3) := by decide +kernel
theorem dX11_look_5 : decode cX11_look 5 = .ok (.if_icmp .ge 12, 3) := by decide +kernel
theorem dX11_look_17 : decode cX11_look 17 = .ok (.iconst (-1), 1) := by decide +kernel
theorem dX11_look_18 : decode cX11_look 18 = .ok (.ireturn, 1) := by decide +kernel
theorem dX11_next_0 : decode cX11_next 0 = .ok (.aload_n 0, 1) := by decide +kernel
theorem dX11_next_1 : decode cX11_next 1 = .ok (.getfield 145, 3) := by decide +kernel
theorem dX11_next_4 : decode cX11_next 4 = .ok (.ifCond .le 4, 3) := by decide +kernel
theorem dX11_next_8 : decode cX11_next 8 = .ok (.aload_n 0, 1) := by decide +kernel
theorem dX11_next_9 : decode cX11_next 9 = .ok (.aload_n 0, 1) := by decide +kernel
theorem dX11_next_10 : decode cX11_next 10 = .ok (.getfield 154, 3) := by decide +kernel
theorem dX11_next_13 : decode cX11_next 13 = .ok (.invokevirtual 157, 3) := by decide +kernel
theorem dX11_next_16 : decode cX11_next 16 = .ok (.bipush 32, 2) := by decide +kernel
theorem dX11_next_18 : decode cX11_next 18 = .ok (.if_icmp .ne 16, 3) := by decide +kernel
theorem dX11_next_34 : decode cX11_next 34 = .ok (.aload_n 0, 1) := by decide +kernel
theorem dX11_next_35 : decode cX11_next 35 = .ok (.aload_n 0, 1) := by decide +kernel
theorem dX11_next_36 : decode cX11_next 36 = .ok (.getfield 154, 3) := by decide +kernel
theorem dX11_next_39 : decode cX11_next 39 = .ok (.putfield 148, 3) := by decide +kernel
theorem dX11_next_42 : decode cX11_next 42 = .ok (.aload_n 0, 1) := by decide +kernel
theorem dX11_next_43 : decode cX11_next 43 = .ok (.aload_n 0, 1) := by decide +kernel
theorem dX11_next_44 : decode cX11_next 44 = .ok (.getfield 154, 3) := by decide +kernel
theorem dX11_next_47 : decode cX11_next 47 = .ok (.invokevirtual 157, 3) := by decide +kernel
theorem dX11_next_50 : decode cX11_next 50 = .ok (.istore_n 1, 1) := by decide +kernel
theorem dX11_next_51 : decode cX11_next 51 = .ok (.iload_n 1, 1) := by decide +kernel
theorem dX11_next_52 : decode cX11_next 52 = .ok (.ifCond .ge 11, 3) := by decide +kernel
theorem dX11_next_55 : decode cX11_next 55 = .ok (.aload_n 0, 1) := by decide +kernel
theorem dX11_next_56 : decode cX11_next 56 = .ok (.iconst 0, 1) := by decide +kernel
theorem dX11_next_57 : decode cX11_next 57 = .ok (.putfield 167, 3) := by decide +kernel
theorem dX11_next_60 : decode cX11_next 60 = .ok (.goto 265, 3) := by decide +kernel
theorem dX11_next_325 : decode cX11_next 325 = .ok (.return_, 1) := by decide +kernel
theorem dX11_text_0 : decode cX11_text 0 = .ok (.iconst 0, 1) := by decide +kernel
theorem dX11_text_1 : decode cX11_text 1 = .ok (.istore_n 1, 1) := by decide +kernel
theorem dX11_text_2 : decode cX11_text 2 = .ok (.aload_n 0, 1) := by decide +kernel
theorem dX11_text_3 : decode cX11_text 3 = .ok (.iconst 0, 1) := by decide +kernel
theorem dX11_text_4 : decode cX11_text 4 = .ok (.putfield 145, 3) := by decide +kernel
theorem dX11_text_7 : decode cX11_text 7 = .ok (.aload_n 0, 1) := by decide +kernel
theorem dX11_text_8 : decode cX11_text 8 = .ok (.iconst 0, 1) := by decide +kernel
theorem dX11_text_9 : decode cX11_text 9 = .ok (.putfield 154, 3) := by decide +kernel
theorem dX11_text_12 : decode cX11_text 12 = .ok (.aload_n 0, 1) := by decide +kernel
theorem dX11_text_13 : decode cX11_text 13 = .ok (.invokevirtual 92, 3) := by decide +kernel
theorem dX11_text_16 : decode cX11_text 16 = .ok (.aload_n 0, 1) := by decide +kernel
theorem dX11_text_17 : decode cX11_text 17 = .ok (.invokevirtual 185, 3) := by decide +kernel
theorem dX11_text_20 : decode cX11_text 20 = .ok (.aload_n 0, 1) := by decide +kernel
theorem dX11_text_21 : decode cX11_text 21 = .ok (.getfield 145, 3) := by decide +kernel
theorem dX11_text_24 : decode cX11_text 24 = .ok (.ifCond .ne 20, 3) := by decide +kernel
theorem dX11_text_27 : decode cX11_text 27 = .ok (.aload_n 0, 1) := by decide +kernel
theorem dX11_text_28 : decode cX11_text 28 = .ok (.getfield 167, 3) := by decide +kernel
theorem dX11_text_31 : decode cX11_text 31 = .ok (.ifCond .eq 13, 3) := by decide +kernel
theorem dX11_text_44 : decode cX11_text 44 = .ok (.iconst 0, 1) := by decide +kernel
theorem dX11_text_45 : decode cX11_text 45 = .ok (.istore_n 2, 1) := by decide +kernel
theorem dX11_text_46 : decode cX11_text 46 = .ok (.iload_n 2, 1) := by decide +kernel
theorem dX11_text_47 : decode cX11_text 47 = .ok (.aload_n 0, 1) := by decide +kernel
theorem dX11_text_48 : decode cX11_text 48 = .ok (.getfield 118, 3) := by decide +kernel
theorem dX11_text_51 : decode cX11_text 51 = .ok (.if_icmp .ge 45, 3) := by decide +kernel
theorem dX11_text_96 : decode cX11_text 96 = .ok (.aload_n 0, 1) := by decide +kernel
theorem dX11_text_97 : decode cX11_text 97 = .ok (.iconst 0, 1) := by decide +kernel
theorem dX11_text_98 : decode cX11_text 98 = .ok (.putfield 136, 3) := by decide +kernel
theorem dX11_text_101 : decode cX11_text 101 = .ok (.aload_n 0, 1) := by decide +kernel
theorem dX11_text_102 : decode cX11_text 102 = .ok (.getfield 145, 3) := by decide +kernel
theorem dX11_text_105 : decode cX11_text 105 = .ok (.ifCond .le 11, 3) := by decide +kernel
theorem dX11_text_116 : decode cX11_text 116 = .ok (.aload_n 0, 1) := by decide +kernel
theorem dX11_text_117 : decode cX11_text 117 = .ok (.invokevirtual 95, 3) := by decide +kernel
theorem dX11_text_120 : decode cX11_text 120 = .ok (.iload_n 1, 1) := by decide +kernel
theorem dX11_text_121 : decode cX11_text 121 = .ok (.ireturn, 1) := by decide +kernel
theorem dX11_fault_0 : decode cX11_fault 0 = .ok (.aload_n 0, 1) := by decide +kernel
theorem dX11_fault_1 : decode cX11_fault 1 = .ok (.getfield 145, 3) := by decide +kernel
theorem dX11_fault_4 : decode cX11_fault 4 = .ok (.ireturn, 1) := by decide +kernel
theorem dX11_isRail_0 : decode cX11_isRail 0 = .ok (.iload_n 1, 1) := by decide +kernel
theorem dX11_isRail_1 : decode cX11_isRail 1 = .ok (.i2l, 1) := by decide +kernel
theorem dX11_isRail_2 : decode cX11_isRail 2 = .ok (.lconst 0, 1) := by decide +kernel
theorem dX11_isRail_3 : decode cX11_isRail 3 = .ok (.aload_n 0, 1) := by decide +kernel
theorem dX11_isRail_4 : decode cX11_isRail 4 = .ok (.getfield 121, 3) := by decide +kernel
theorem dX11_isRail_7 : decode cX11_isRail 7 = .ok (.iconst 1, 1) := by decide +kernel
theorem dX11_isRail_8 : decode cX11_isRail 8 = .ok (.isub, 1) := by decide +kernel
theorem dX11_isRail_9 : decode cX11_isRail 9 = .ok (.i2l, 1) := by decide +kernel
theorem dX11_isRail_10 : decode cX11_isRail 10 = .ok (.invokestatic 141, 3) := by decide +kernel
theorem dX11_isRail_13 : decode cX11_isRail 13 = .ok (.ireturn, 1) := by decide +kernel
theorem dX11_areRails_0 : decode cX11_areRails 0 = .ok (.iload_n 1, 1) := by decide +kernel
theorem dX11_areRails_1 : decode cX11_areRails 1 = .ok (.i2l, 1) := by decide +kernel
theorem dX11_areRails_2 : decode cX11_areRails 2 = .ok (.lconst 0, 1) := by decide +kernel
theorem dX11_areRails_3 : decode cX11_areRails 3 = .ok (.iconst 1, 1) := by decide +kernel
theorem dX11_areRails_4 : decode cX11_areRails 4 = .ok (.aload_n 0, 1) := by decide +kernel
theorem dX11_areRails_5 : decode cX11_areRails 5 = .ok (.getfield 121, 3) := by decide +kernel
theorem dX11_areRails_8 : decode cX11_areRails 8 = .ok (.ishl, 1) := by decide +kernel
theorem dX11_areRails_9 : decode cX11_areRails 9 = .ok (.iconst 1, 1) := by decide +kernel
theorem dX11_areRails_10 : decode cX11_areRails 10 = .ok (.isub, 1) := by decide +kernel
theorem dX11_areRails_11 : decode cX11_areRails 11 = .ok (.i2l, 1) := by decide +kernel
theorem dX11_areRails_12 : decode cX11_areRails 12 = .ok (.invokestatic 141, 3) := by decide +kernel
theorem dX11_areRails_15 : decode cX11_areRails 15 = .ok (.ireturn, 1) := by decide +kernel
theorem dX11_rail_0 : decode cX11_rail 0 = .ok (.aload_n 0, 1) := by decide +kernel
theorem dX11_rail_1 : decode cX11_rail 1 = .ok (.iload_n 1, 1) := by decide +kernel
theorem dX11_rail_2 : decode cX11_rail 2 = .ok (.invokevirtual 248, 3) := by decide +kernel
theorem dX11_rail_5 : decode cX11_rail 5 = .ok (.ifCond .eq 15, 3) := by decide +kernel
theorem dX11_rail_20 : decode cX11_rail 20 = .ok (.iconst (-1), 1) := by decide +kernel
theorem dX11_rail_21 : decode cX11_rail 21 = .ok (.goto 24, 3) := by decide +kernel
theorem dX11_rail_45 : decode cX11_rail 45 = .ok (.ireturn, 1) := by decide +kernel
theorem dX11_rule_0 : decode cX11_rule 0 = .ok (.iload_n 1, 1) := by decide +kernel
theorem dX11_rule_1 : decode cX11_rule 1 = .ok (.ifCond .ne 10, 3) := by decide +kernel
theorem dX11_rule_4 : decode cX11_rule 4 = .ok (.aload_n 0, 1) := by decide +kernel
theorem dX11_rule_5 : decode cX11_rule 5 = .ok (.getfield 124, 3) := by decide +kernel
theorem dX11_rule_8 : decode cX11_rule 8 = .ok (.goto 40, 3) := by decide +kernel
theorem dX11_rule_11 : decode cX11_rule 11 = .ok (.iload_n 1, 1) := by decide +kernel
theorem dX11_rule_12 : decode cX11_rule 12 = .ok (.iconst 1, 1) := by decide +kernel
theorem dX11_rule_13 : decode cX11_rule 13 = .ok (.if_icmp .ne 10, 3) := by decide +kernel
theorem dX11_rule_16 : decode cX11_rule 16 = .ok (.aload_n 0, 1) := by decide +kernel
theorem dX11_rule_17 : decode cX11_rule 17 = .ok (.getfield 127, 3) := by decide +kernel
theorem dX11_rule_20 : decode cX11_rule 20 = .ok (.goto 28, 3) := by decide +kernel
theorem dX11_rule_23 : decode cX11_rule 23 = .ok (.iload_n 1, 1) := by decide +kernel
theorem dX11_rule_24 : decode cX11_rule 24 = .ok (.iconst 2, 1) := by decide +kernel
theorem dX11_rule_25 : decode cX11_rule 25 = .ok (.if_icmp .ne 10, 3) := by decide +kernel
theorem dX11_rule_28 : decode cX11_rule 28 = .ok (.aload_n 0, 1) := by decide +kernel
theorem dX11_rule_29 : decode cX11_rule 29 = .ok (.getfield 130, 3) := by decide +kernel
theorem dX11_rule_32 : decode cX11_rule 32 = .ok (.goto 16, 3) := by decide +kernel
theorem dX11_rule_35 : decode cX11_rule 35 = .ok (.iload_n 1, 1) := by decide +kernel
theorem dX11_rule_36 : decode cX11_rule 36 = .ok (.iconst 3, 1) := by decide +kernel
theorem dX11_rule_37 : decode cX11_rule 37 = .ok (.if_icmp .ne 10, 3) := by decide +kernel
theorem dX11_rule_40 : decode cX11_rule 40 = .ok (.aload_n 0, 1) := by decide +kernel
theorem dX11_rule_41 : decode cX11_rule 41 = .ok (.getfield 121, 3) := by decide +kernel
theorem dX11_rule_44 : decode cX11_rule 44 = .ok (.goto 4, 3) := by decide +kernel
theorem dX11_rule_47 : decode cX11_rule 47 = .ok (.iconst (-1), 1) := by decide +kernel
theorem dX11_rule_48 : decode cX11_rule 48 = .ok (.ireturn, 1) := by decide +kernel
theorem dX11_holds_0 : decode cX11_holds 0 = .ok (.aload_n 0, 1) := by decide +kernel
theorem dX11_holds_1 : decode cX11_holds 1 = .ok (.iload_n 1, 1) := by decide +kernel
theorem dX11_holds_2 : decode cX11_holds 2 = .ok (.invokevirtual 248, 3) := by decide +kernel
theorem dX11_holds_5 : decode cX11_holds 5 = .ok (.ifCond .eq 27, 3) := by decide +kernel
theorem dX11_holds_32 : decode cX11_holds 32 = .ok (.iconst (-1), 1) := by decide +kernel
theorem dX11_holds_33 : decode cX11_holds 33 = .ok (.ireturn, 1) := by decide +kernel
theorem dX11_words_0 : decode cX11_words 0 = .ok (.aload_n 0, 1) := by decide +kernel
theorem dX11_words_1 : decode cX11_words 1 = .ok (.iload_n 1, 1) := by decide +kernel
theorem dX11_words_2 : decode cX11_words 2 = .ok (.invokevirtual 248, 3) := by decide +kernel
theorem dX11_words_5 : decode cX11_words 5 = .ok (.ifCond .eq 13, 3) := by decide +kernel
theorem dX11_words_18 : decode cX11_words 18 = .ok (.iconst (-1), 1) := by decide +kernel
theorem dX11_words_19 : decode cX11_words 19 = .ok (.ireturn, 1) := by decide +kernel
theorem dX11_begins_0 : decode cX11_begins 0 = .ok (.aload_n 0, 1) := by decide +kernel
theorem dX11_begins_1 : decode cX11_begins 1 = .ok (.iconst 0, 1) := by decide +kernel
theorem dX11_begins_2 : decode cX11_begins 2 = .ok (.putfield 267, 3) := by decide +kernel
theorem dX11_begins_5 : decode cX11_begins 5 = .ok (.aload_n 0, 1) := by decide +kernel
theorem dX11_begins_6 : decode cX11_begins 6 = .ok (.iconst 0, 1) := by decide +kernel
theorem dX11_begins_7 : decode cX11_begins 7 = .ok (.putfield 270, 3) := by decide +kernel
theorem dX11_begins_10 : decode cX11_begins 10 = .ok (.aload_n 0, 1) := by decide +kernel
theorem dX11_begins_11 : decode cX11_begins 11 = .ok (.iconst 0, 1) := by decide +kernel
theorem dX11_begins_12 : decode cX11_begins 12 = .ok (.putfield 273, 3) := by decide +kernel
theorem dX11_begins_15 : decode cX11_begins 15 = .ok (.aload_n 0, 1) := by decide +kernel
theorem dX11_begins_16 : decode cX11_begins 16 = .ok (.aload_n 0, 1) := by decide +kernel
theorem dX11_begins_17 : decode cX11_begins 17 = .ok (.getfield 127, 3) := by decide +kernel
theorem dX11_begins_20 : decode cX11_begins 20 = .ok (.putfield 276, 3) := by decide +kernel
theorem dX11_begins_23 : decode cX11_begins 23 = .ok (.aload_n 0, 1) := by decide +kernel
theorem dX11_begins_24 : decode cX11_begins 24 = .ok (.iconst 0, 1) := by decide +kernel
theorem dX11_begins_25 : decode cX11_begins 25 = .ok (.putfield 279, 3) := by decide +kernel
theorem dX11_begins_28 : decode cX11_begins 28 = .ok (.aload_n 0, 1) := by decide +kernel
theorem dX11_begins_29 : decode cX11_begins 29 = .ok (.iconst 0, 1) := by decide +kernel
theorem dX11_begins_30 : decode cX11_begins 30 = .ok (.putfield 282, 3) := by decide +kernel
theorem dX11_begins_33 : decode cX11_begins 33 = .ok (.aload_n 0, 1) := by decide +kernel
theorem dX11_begins_34 : decode cX11_begins 34 = .ok (.iconst 0, 1) := by decide +kernel
theorem dX11_begins_35 : decode cX11_begins 35 = .ok (.putfield 285, 3) := by decide +kernel
theorem dX11_begins_38 : decode cX11_begins 38 = .ok (.aload_n 0, 1) := by decide +kernel
theorem dX11_begins_39 : decode cX11_begins 39 = .ok (.iconst 0, 1) := by decide +kernel
theorem dX11_begins_40 : decode cX11_begins 40 = .ok (.putfield 288, 3) := by decide +kernel
theorem dX11_begins_43 : decode cX11_begins 43 = .ok (.iconst 0, 1) := by decide +kernel
theorem dX11_begins_44 : decode cX11_begins 44 = .ok (.istore_n 1, 1) := by decide +kernel
theorem dX11_begins_45 : decode cX11_begins 45 = .ok (.iload_n 1, 1) := by decide +kernel
theorem dX11_begins_46 : decode cX11_begins 46 = .ok (.bipush 8, 2) := by decide +kernel
theorem dX11_begins_48 : decode cX11_begins 48 = .ok (.if_icmp .ge 68, 3) := by decide +kernel
theorem dX11_begins_51 : decode cX11_begins 51 = .ok (.aload_n 0, 1) := by decide +kernel
theorem dX11_begins_52 : decode cX11_begins 52 = .ok (.getfield 47, 3) := by decide +kernel
theorem dX11_begins_55 : decode cX11_begins 55 = .ok (.iload_n 1, 1) := by decide +kernel
theorem dX11_begins_56 : decode cX11_begins 56 = .ok (.iconst 0, 1) := by decide +kernel
theorem dX11_begins_57 : decode cX11_begins 57 = .ok (.iastore, 1) := by decide +kernel
theorem dX11_begins_58 : decode cX11_begins 58 = .ok (.aload_n 0, 1) := by decide +kernel
theorem dX11_begins_59 : decode cX11_begins 59 = .ok (.getfield 50, 3) := by decide +kernel
theorem dX11_begins_62 : decode cX11_begins 62 = .ok (.iload_n 1, 1) := by decide +kernel
theorem dX11_begins_63 : decode cX11_begins 63 = .ok (.iconst 0, 1) := by decide +kernel
theorem dX11_begins_64 : decode cX11_begins 64 = .ok (.iastore, 1) := by decide +kernel
theorem dX11_begins_65 : decode cX11_begins 65 = .ok (.aload_n 0, 1) := by decide +kernel
theorem dX11_begins_66 : decode cX11_begins 66 = .ok (.getfield 53, 3) := by decide +kernel
theorem dX11_begins_69 : decode cX11_begins 69 = .ok (.iload_n 1, 1) := by decide +kernel
theorem dX11_begins_70 : decode cX11_begins 70 = .ok (.iconst 0, 1) := by decide +kernel
theorem dX11_begins_71 : decode cX11_begins 71 = .ok (.iastore, 1) := by decide +kernel
theorem dX11_begins_72 : decode cX11_begins 72 = .ok (.aload_n 0, 1) := by decide +kernel
theorem dX11_begins_73 : decode cX11_begins 73 = .ok (.getfield 56, 3) := by decide +kernel
theorem dX11_begins_76 : decode cX11_begins 76 = .ok (.iload_n 1, 1) := by decide +kernel
theorem dX11_begins_77 : decode cX11_begins 77 = .ok (.iconst 0, 1) := by decide +kernel
theorem dX11_begins_78 : decode cX11_begins 78 = .ok (.bastore, 1) := by decide +kernel
theorem dX11_begins_79 : decode cX11_begins 79 = .ok (.aload_n 0, 1) := by decide +kernel
theorem dX11_begins_80 : decode cX11_begins 80 = .ok (.getfield 59, 3) := by decide +kernel
theorem dX11_begins_83 : decode cX11_begins 83 = .ok (.iload_n 1, 1) := by decide +kernel
theorem dX11_begins_84 : decode cX11_begins 84 = .ok (.iload_n 1, 1) := by decide +kernel
theorem dX11_begins_85 : decode cX11_begins 85 = .ok (.aload_n 0, 1) := by decide +kernel
theorem dX11_begins_86 : decode cX11_begins 86 = .ok (.getfield 121, 3) := by decide +kernel
theorem dX11_begins_89 : decode cX11_begins 89 = .ok (.if_icmp .ge 12, 3) := by decide +kernel
theorem dX11_begins_101 : decode cX11_begins 101 = .ok (.iconst 0, 1) := by decide +kernel
theorem dX11_begins_102 : decode cX11_begins 102 = .ok (.iastore, 1) := by decide +kernel
theorem dX11_begins_103 : decode cX11_begins 103 = .ok (.aload_n 0, 1) := by decide +kernel
theorem dX11_begins_104 : decode cX11_begins 104 = .ok (.getfield 62, 3) := by decide +kernel
theorem dX11_begins_107 : decode cX11_begins 107 = .ok (.iload_n 1, 1) := by decide +kernel
theorem dX11_begins_108 : decode cX11_begins 108 = .ok (.iconst 0, 1) := by decide +kernel
theorem dX11_begins_109 : decode cX11_begins 109 = .ok (.iastore, 1) := by decide +kernel
theorem dX11_begins_110 : decode cX11_begins 110 = .ok (.iinc 1 1, 3) := by decide +kernel
theorem dX11_begins_113 : decode cX11_begins 113 = .ok (.goto (-68), 3) := by decide +kernel
theorem dX11_begins_116 : decode cX11_begins 116 = .ok (.return_, 1) := by decide +kernel
theorem dX11_key_0 : decode cX11_key 0 = .ok (.aload_n 0, 1) := by decide +kernel
theorem dX11_key_1 : decode cX11_key 1 = .ok (.getfield 270, 3) := by decide +kernel
theorem dX11_key_4 : decode cX11_key 4 = .ok (.invokestatic 260, 3) := by decide +kernel
theorem dX11_key_7 : decode cX11_key 7 = .ok (.istore_n 2, 1) := by decide +kernel
theorem dX11_key_8 : decode cX11_key 8 = .ok (.aload_n 0, 1) := by decide +kernel
theorem dX11_key_9 : decode cX11_key 9 = .ok (.iload_n 1, 1) := by decide +kernel
theorem dX11_key_10 : decode cX11_key 10 = .ok (.putfield 270, 3) := by decide +kernel
theorem dX11_key_13 : decode cX11_key 13 = .ok (.iload_n 1, 1) := by decide +kernel
theorem dX11_key_14 : decode cX11_key 14 = .ok (.ifCond .ne 32, 3) := by decide +kernel
theorem dX11_key_17 : decode cX11_key 17 = .ok (.aload_n 0, 1) := by decide +kernel
theorem dX11_key_18 : decode cX11_key 18 = .ok (.aload_n 0, 1) := by decide +kernel
theorem dX11_key_19 : decode cX11_key 19 = .ok (.getfield 273, 3) := by decide +kernel
theorem dX11_key_22 : decode cX11_key 22 = .ok (.bipush (-4), 2) := by decide +kernel
theorem dX11_key_24 : decode cX11_key 24 = .ok (.if_icmp .ne 7, 3) := by decide +kernel
theorem dX11_key_31 : decode cX11_key 31 = .ok (.aload_n 0, 1) := by decide +kernel
theorem dX11_key_32 : decode cX11_key 32 = .ok (.getfield 273, 3) := by decide +kernel
theorem dX11_key_35 : decode cX11_key 35 = .ok (.putfield 273, 3) := by decide +kernel
theorem dX11_key_38 : decode cX11_key 38 = .ok (.aload_n 0, 1) := by decide +kernel
theorem dX11_key_39 : decode cX11_key 39 = .ok (.aload_n 0, 1) := by decide +kernel
theorem dX11_key_40 : decode cX11_key 40 = .ok (.getfield 127, 3) := by decide +kernel
theorem dX11_key_43 : decode cX11_key 43 = .ok (.putfield 276, 3) := by decide +kernel
theorem dX11_key_46 : decode cX11_key 46 = .ok (.iload_n 2, 1) := by decide +kernel
theorem dX11_key_47 : decode cX11_key 47 = .ok (.ireturn, 1) := by decide +kernel
theorem dX11_dead_0 : decode cX11_dead 0 = .ok (.aload_n 0, 1) := by decide +kernel
theorem dX11_dead_1 : decode cX11_dead 1 = .ok (.iload_n 1, 1) := by decide +kernel
theorem dX11_dead_2 : decode cX11_dead 2 = .ok (.invokevirtual 248, 3) := by decide +kernel
theorem dX11_dead_5 : decode cX11_dead 5 = .ok (.ifCond .ne 5, 3) := by decide +kernel
theorem dX11_dead_8 : decode cX11_dead 8 = .ok (.iconst (-1), 1) := by decide +kernel
theorem dX11_dead_9 : decode cX11_dead 9 = .ok (.ireturn, 1) := by decide +kernel
theorem dX11_time_0 : decode cX11_time 0 = .ok (.aload_n 0, 1) := by decide +kernel
theorem dX11_time_1 : decode cX11_time 1 = .ok (.iload_n 1, 1) := by decide +kernel
theorem dX11_time_2 : decode cX11_time 2 = .ok (.invokevirtual 248, 3) := by decide +kernel
theorem dX11_time_5 : decode cX11_time 5 = .ok (.ifCond .eq 25, 3) := by decide +kernel
theorem dX11_time_30 : decode cX11_time 30 = .ok (.iconst (-1), 1) := by decide +kernel
theorem dX11_time_31 : decode cX11_time 31 = .ok (.ireturn, 1) := by decide +kernel
theorem dX11_allIn_0 : decode cX11_allIn 0 = .ok (.iconst 0, 1) := by decide +kernel
theorem dX11_allIn_1 : decode cX11_allIn 1 = .ok (.istore_n 2, 1) := by decide +kernel
theorem dX11_allIn_2 : decode cX11_allIn 2 = .ok (.iconst 0, 1) := by decide +kernel
theorem dX11_allIn_3 : decode cX11_allIn 3 = .ok (.istore_n 3, 1) := by decide +kernel
theorem dX11_allIn_4 : decode cX11_allIn 4 = .ok (.iload_n 3, 1) := by decide +kernel
theorem dX11_allIn_5 : decode cX11_allIn 5 = .ok (.aload_n 0, 1) := by decide +kernel
theorem dX11_allIn_6 : decode cX11_allIn 6 = .ok (.getfield 121, 3) := by decide +kernel
theorem dX11_allIn_9 : decode cX11_allIn 9 = .ok (.if_icmp .ge 29, 3) := by decide +kernel
theorem dX11_allIn_38 : decode cX11_allIn 38 = .ok (.iload_n 2, 1) := by decide +kernel
theorem dX11_allIn_39 : decode cX11_allIn 39 = .ok (.ireturn, 1) := by decide +kernel
theorem dX11_round_0 : decode cX11_round 0 = .ok (.aload_n 0, 1) := by decide +kernel
theorem dX11_round_1 : decode cX11_round 1 = .ok (.iconst 3, 1) := by decide +kernel
theorem dX11_round_2 : decode cX11_round 2 = .ok (.invokevirtual 291, 3) := by decide +kernel
theorem dX11_round_5 : decode cX11_round 5 = .ok (.aload_n 0, 1) := by decide +kernel
theorem dX11_round_6 : decode cX11_round 6 = .ok (.getfield 270, 3) := by decide +kernel
theorem dX11_round_9 : decode cX11_round 9 = .ok (.ifCond .eq 9, 3) := by decide +kernel
theorem dX11_round_18 : decode cX11_round 18 = .ok (.iconst 0, 1) := by decide +kernel
theorem dX11_round_19 : decode cX11_round 19 = .ok (.ior, 1) := by decide +kernel
theorem dX11_round_20 : decode cX11_round 20 = .ok (.istore_n 1, 1) := by decide +kernel
theorem dX11_round_21 : decode cX11_round 21 = .ok (.iconst 0, 1) := by decide +kernel
theorem dX11_round_22 : decode cX11_round 22 = .ok (.istore_n 2, 1) := by decide +kernel
theorem dX11_round_23 : decode cX11_round 23 = .ok (.iconst 0, 1) := by decide +kernel
theorem dX11_round_24 : decode cX11_round 24 = .ok (.istore_n 3, 1) := by decide +kernel
theorem dX11_round_25 : decode cX11_round 25 = .ok (.iload_n 3, 1) := by decide +kernel
theorem dX11_round_26 : decode cX11_round 26 = .ok (.aload_n 0, 1) := by decide +kernel
theorem dX11_round_27 : decode cX11_round 27 = .ok (.getfield 121, 3) := by decide +kernel
theorem dX11_round_30 : decode cX11_round 30 = .ok (.if_icmp .ge 110, 3) := by decide +kernel
theorem dX11_round_140 : decode cX11_round 140 = .ok (.iload_n 2, 1) := by decide +kernel
theorem dX11_round_141 : decode cX11_round 141 = .ok (.ireturn, 1) := by decide +kernel
theorem dX11_settles_0 : decode cX11_settles 0 = .ok (.iconst 1, 1) := by decide +kernel
theorem dX11_settles_1 : decode cX11_settles 1 = .ok (.istore_n 1, 1) := by decide +kernel
theorem dX11_settles_2 : decode cX11_settles 2 = .ok (.iload_n 1, 1) := by decide +kernel
theorem dX11_settles_3 : decode cX11_settles 3 = .ok (.ifCond .eq 11, 3) := by decide +kernel
theorem dX11_settles_6 : decode cX11_settles 6 = .ok (.aload_n 0, 1) := by decide +kernel
theorem dX11_settles_7 : decode cX11_settles 7 = .ok (.invokevirtual 302, 3) := by decide +kernel
theorem dX11_settles_10 : decode cX11_settles 10 = .ok (.istore_n 1, 1) := by decide +kernel
theorem dX11_settles_11 : decode cX11_settles 11 = .ok (.goto (-9), 3) := by decide +kernel
theorem dX11_settles_14 : decode cX11_settles 14 = .ok (.return_, 1) := by decide +kernel
theorem dX11_drawnOf_0 : decode cX11_drawnOf 0 = .ok (.iconst 0, 1) := by decide +kernel
theorem dX11_drawnOf_1 : decode cX11_drawnOf 1 = .ok (.istore_n 3, 1) := by decide +kernel
theorem dX11_drawnOf_2 : decode cX11_drawnOf 2 = .ok (.iconst 0, 1) := by decide +kernel
theorem dX11_drawnOf_3 : decode cX11_drawnOf 3 = .ok (.istore 4, 2) := by decide +kernel
theorem dX11_drawnOf_5 : decode cX11_drawnOf 5 = .ok (.iload 4, 2) := by decide +kernel
theorem dX11_drawnOf_7 : decode cX11_drawnOf 7 = .ok (.aload_n 0, 1) := by decide +kernel
theorem dX11_drawnOf_8 : decode cX11_drawnOf 8 = .ok (.getfield 121, 3) := by decide +kernel
theorem dX11_drawnOf_11 : decode cX11_drawnOf 11 = .ok (.if_icmp .ge 53, 3) := by decide +kernel
theorem dX11_drawnOf_64 : decode cX11_drawnOf 64 = .ok (.iload_n 3, 1) := by decide +kernel
theorem dX11_drawnOf_65 : decode cX11_drawnOf 65 = .ok (.ireturn, 1) := by decide +kernel
theorem dX11_tripNow_0 : decode cX11_tripNow 0 = .ok (.iconst 0, 1) := by decide +kernel
theorem dX11_tripNow_1 : decode cX11_tripNow 1 = .ok (.istore_n 1, 1) := by decide +kernel
theorem dX11_tripNow_2 : decode cX11_tripNow 2 = .ok (.iconst 0, 1) := by decide +kernel
theorem dX11_tripNow_3 : decode cX11_tripNow 3 = .ok (.istore_n 2, 1) := by decide +kernel
theorem dX11_tripNow_4 : decode cX11_tripNow 4 = .ok (.iload_n 2, 1) := by decide +kernel
theorem dX11_tripNow_5 : decode cX11_tripNow 5 = .ok (.aload_n 0, 1) := by decide +kernel
theorem dX11_tripNow_6 : decode cX11_tripNow 6 = .ok (.getfield 121, 3) := by decide +kernel
theorem dX11_tripNow_9 : decode cX11_tripNow 9 = .ok (.if_icmp .ge 65, 3) := by decide +kernel
theorem dX11_tripNow_74 : decode cX11_tripNow 74 = .ok (.aload_n 0, 1) := by decide +kernel
theorem dX11_tripNow_75 : decode cX11_tripNow 75 = .ok (.getfield 279, 3) := by decide +kernel
theorem dX11_tripNow_78 : decode cX11_tripNow 78 = .ok (.aload_n 0, 1) := by decide +kernel
theorem dX11_tripNow_79 : decode cX11_tripNow 79 = .ok (.getfield 124, 3) := by decide +kernel
theorem dX11_tripNow_82 : decode cX11_tripNow 82 = .ok (.if_icmp .le 7, 3) := by decide +kernel
theorem dX11_tripNow_89 : decode cX11_tripNow 89 = .ok (.iload_n 1, 1) := by decide +kernel
theorem dX11_tripNow_90 : decode cX11_tripNow 90 = .ok (.ifCond .eq 7, 3) := by decide +kernel
theorem dX11_tripNow_97 : decode cX11_tripNow 97 = .ok (.iconst 0, 1) := by decide +kernel
theorem dX11_tripNow_98 : decode cX11_tripNow 98 = .ok (.ireturn, 1) := by decide +kernel
theorem dX11_aTick_0 : decode cX11_aTick 0 = .ok (.aload_n 0, 1) := by decide +kernel
theorem dX11_aTick_1 : decode cX11_aTick 1 = .ok (.invokevirtual 306, 3) := by decide +kernel
theorem dX11_aTick_4 : decode cX11_aTick 4 = .ok (.aload_n 0, 1) := by decide +kernel
theorem dX11_aTick_5 : decode cX11_aTick 5 = .ok (.aload_n 0, 1) := by decide +kernel
theorem dX11_aTick_6 : decode cX11_aTick 6 = .ok (.aload_n 0, 1) := by decide +kernel
theorem dX11_aTick_7 : decode cX11_aTick 7 = .ok (.iconst 3, 1) := by decide +kernel
theorem dX11_aTick_8 : decode cX11_aTick 8 = .ok (.invokevirtual 291, 3) := by decide +kernel
theorem dX11_aTick_11 : decode cX11_aTick 11 = .ok (.aload_n 0, 1) := by decide +kernel
theorem dX11_aTick_12 : decode cX11_aTick 12 = .ok (.iconst 2, 1) := by decide +kernel
theorem dX11_aTick_13 : decode cX11_aTick 13 = .ok (.invokevirtual 291, 3) := by decide +kernel
theorem dX11_aTick_16 : decode cX11_aTick 16 = .ok (.invokevirtual 309, 3) := by decide +kernel
theorem dX11_aTick_19 : decode cX11_aTick 19 = .ok (.putfield 279, 3) := by decide +kernel
theorem dX11_aTick_22 : decode cX11_aTick 22 = .ok (.aload_n 0, 1) := by decide +kernel
theorem dX11_aTick_23 : decode cX11_aTick 23 = .ok (.aload_n 0, 1) := by decide +kernel
theorem dX11_aTick_24 : decode cX11_aTick 24 = .ok (.getfield 279, 3) := by decide +kernel
theorem dX11_aTick_27 : decode cX11_aTick 27 = .ok (.aload_n 0, 1) := by decide +kernel
theorem dX11_aTick_28 : decode cX11_aTick 28 = .ok (.getfield 282, 3) := by decide +kernel
theorem dX11_aTick_31 : decode cX11_aTick 31 = .ok (.if_icmp .le 10, 3) := by decide +kernel
theorem dX11_aTick_41 : decode cX11_aTick 41 = .ok (.aload_n 0, 1) := by decide +kernel
theorem dX11_aTick_42 : decode cX11_aTick 42 = .ok (.getfield 282, 3) := by decide +kernel
theorem dX11_aTick_45 : decode cX11_aTick 45 = .ok (.putfield 282, 3) := by decide +kernel
theorem dX11_aTick_48 : decode cX11_aTick 48 = .ok (.aload_n 0, 1) := by decide +kernel
theorem dX11_aTick_49 : decode cX11_aTick 49 = .ok (.invokevirtual 312, 3) := by decide +kernel
theorem dX11_aTick_52 : decode cX11_aTick 52 = .ok (.istore_n 1, 1) := by decide +kernel
theorem dX11_aTick_53 : decode cX11_aTick 53 = .ok (.iload_n 1, 1) := by decide +kernel
theorem dX11_aTick_54 : decode cX11_aTick 54 = .ok (.ifCond .le 67, 3) := by decide +kernel
theorem dX11_aTick_121 : decode cX11_aTick 121 = .ok (.iconst 0, 1) := by decide +kernel
theorem dX11_aTick_122 : decode cX11_aTick 122 = .ok (.istore_n 2, 1) := by decide +kernel
theorem dX11_aTick_123 : decode cX11_aTick 123 = .ok (.iload_n 2, 1) := by decide +kernel
theorem dX11_aTick_124 : decode cX11_aTick 124 = .ok (.aload_n 0, 1) := by decide +kernel
theorem dX11_aTick_125 : decode cX11_aTick 125 = .ok (.getfield 121, 3) := by decide +kernel
theorem dX11_aTick_128 : decode cX11_aTick 128 = .ok (.if_icmp .ge 29, 3) := by decide +kernel
theorem dX11_aTick_157 : decode cX11_aTick 157 = .ok (.aload_n 0, 1) := by decide +kernel
theorem dX11_aTick_158 : decode cX11_aTick 158 = .ok (.dup, 1) := by decide +kernel
theorem dX11_aTick_159 : decode cX11_aTick 159 = .ok (.getfield 273, 3) := by decide +kernel
theorem dX11_aTick_162 : decode cX11_aTick 162 = .ok (.aload_n 0, 1) := by decide +kernel
theorem dX11_aTick_163 : decode cX11_aTick 163 = .ok (.getfield 273, 3) := by decide +kernel
theorem dX11_aTick_166 : decode cX11_aTick 166 = .ok (.ifCond .le 7, 3) := by decide +kernel
theorem dX11_aTick_173 : decode cX11_aTick 173 = .ok (.iconst 0, 1) := by decide +kernel
theorem dX11_aTick_174 : decode cX11_aTick 174 = .ok (.isub, 1) := by decide +kernel
theorem dX11_aTick_175 : decode cX11_aTick 175 = .ok (.putfield 273, 3) := by decide +kernel
theorem dX11_aTick_178 : decode cX11_aTick 178 = .ok (.aload_n 0, 1) := by decide +kernel
theorem dX11_aTick_179 : decode cX11_aTick 179 = .ok (.dup, 1) := by decide +kernel
theorem dX11_aTick_180 : decode cX11_aTick 180 = .ok (.getfield 267, 3) := by decide +kernel
theorem dX11_aTick_183 : decode cX11_aTick 183 = .ok (.iconst 1, 1) := by decide +kernel
theorem dX11_aTick_184 : decode cX11_aTick 184 = .ok (.iadd, 1) := by decide +kernel
theorem dX11_aTick_185 : decode cX11_aTick 185 = .ok (.putfield 267, 3) := by decide +kernel
theorem dX11_aTick_188 : decode cX11_aTick 188 = .ok (.return_, 1) := by decide +kernel
theorem dX11_go_0 : decode cX11_go 0 = .ok (.iload_n 1, 1) := by decide +kernel
theorem dX11_go_1 : decode cX11_go 1 = .ok (.i2l, 1) := by decide +kernel
theorem dX11_go_2 : decode cX11_go 2 = .ok (.lconst 1, 1) := by decide +kernel
theorem dX11_go_3 : decode cX11_go 3 = .ok (.ldc2_w 315, 3) := by decide +kernel
theorem dX11_go_6 : decode cX11_go 6 = .ok (.invokestatic 141, 3) := by decide +kernel
theorem dX11_go_9 : decode cX11_go 9 = .ok (.ifCond .ne 5, 3) := by decide +kernel
theorem dX11_go_12 : decode cX11_go 12 = .ok (.iconst (-1), 1) := by decide +kernel
theorem dX11_go_13 : decode cX11_go 13 = .ok (.ireturn, 1) := by decide +kernel
theorem dX11_go_14 : decode cX11_go 14 = .ok (.aload_n 0, 1) := by decide +kernel
theorem dX11_go_15 : decode cX11_go 15 = .ok (.getfield 285, 3) := by decide +kernel
theorem dX11_go_18 : decode cX11_go 18 = .ok (.istore_n 2, 1) := by decide +kernel
theorem dX11_go_19 : decode cX11_go 19 = .ok (.iconst 0, 1) := by decide +kernel
theorem dX11_go_20 : decode cX11_go 20 = .ok (.istore_n 3, 1) := by decide +kernel
theorem dX11_go_21 : decode cX11_go 21 = .ok (.iload_n 3, 1) := by decide +kernel
theorem dX11_go_22 : decode cX11_go 22 = .ok (.iload_n 1, 1) := by decide +kernel
theorem dX11_go_23 : decode cX11_go 23 = .ok (.if_icmp .ge 13, 3) := by decide +kernel
theorem dX11_go_26 : decode cX11_go 26 = .ok (.aload_n 0, 1) := by decide +kernel
theorem dX11_go_27 : decode cX11_go 27 = .ok (.invokevirtual 317, 3) := by decide +kernel
theorem dX11_go_30 : decode cX11_go 30 = .ok (.iinc 3 1, 3) := by decide +kernel
theorem dX11_go_33 : decode cX11_go 33 = .ok (.goto (-12), 3) := by decide +kernel
theorem dX11_go_36 : decode cX11_go 36 = .ok (.aload_n 0, 1) := by decide +kernel
theorem dX11_go_37 : decode cX11_go 37 = .ok (.getfield 285, 3) := by decide +kernel
theorem dX11_go_40 : decode cX11_go 40 = .ok (.iload_n 2, 1) := by decide +kernel
theorem dX11_go_41 : decode cX11_go 41 = .ok (.isub, 1) := by decide +kernel
theorem dX11_go_42 : decode cX11_go 42 = .ok (.ireturn, 1) := by decide +kernel
theorem dX11_now_0 : decode cX11_now 0 = .ok (.iload_n 1, 1) := by decide +kernel
theorem dX11_now_1 : decode cX11_now 1 = .ok (.tableswitch 101 0 8 #[51, 56, 62, 68, 73, 78, 83, 88, 96], 51) := by decide +kernel
theorem dX11_now_52 : decode cX11_now 52 = .ok (.aload_n 0, 1) := by decide +kernel
theorem dX11_now_53 : decode cX11_now 53 = .ok (.getfield 267, 3) := by decide +kernel
theorem dX11_now_56 : decode cX11_now 56 = .ok (.ireturn, 1) := by decide +kernel
theorem dX11_now_57 : decode cX11_now 57 = .ok (.aload_n 0, 1) := by decide +kernel
theorem dX11_now_58 : decode cX11_now 58 = .ok (.iconst 3, 1) := by decide +kernel
theorem dX11_now_59 : decode cX11_now 59 = .ok (.invokevirtual 291, 3) := by decide +kernel
theorem dX11_now_62 : decode cX11_now 62 = .ok (.ireturn, 1) := by decide +kernel
theorem dX11_now_63 : decode cX11_now 63 = .ok (.aload_n 0, 1) := by decide +kernel
theorem dX11_now_64 : decode cX11_now 64 = .ok (.iconst 2, 1) := by decide +kernel
theorem dX11_now_65 : decode cX11_now 65 = .ok (.invokevirtual 291, 3) := by decide +kernel
theorem dX11_now_68 : decode cX11_now 68 = .ok (.ireturn, 1) := by decide +kernel
theorem dX11_now_69 : decode cX11_now 69 = .ok (.aload_n 0, 1) := by decide +kernel
theorem dX11_now_70 : decode cX11_now 70 = .ok (.getfield 279, 3) := by decide +kernel
theorem dX11_now_73 : decode cX11_now 73 = .ok (.ireturn, 1) := by decide +kernel
theorem dX11_now_74 : decode cX11_now 74 = .ok (.aload_n 0, 1) := by decide +kernel
theorem dX11_now_75 : decode cX11_now 75 = .ok (.getfield 273, 3) := by decide +kernel
theorem dX11_now_78 : decode cX11_now 78 = .ok (.ireturn, 1) := by decide +kernel
theorem dX11_now_79 : decode cX11_now 79 = .ok (.aload_n 0, 1) := by decide +kernel
theorem dX11_now_80 : decode cX11_now 80 = .ok (.getfield 276, 3) := by decide +kernel
theorem dX11_now_83 : decode cX11_now 83 = .ok (.ireturn, 1) := by decide +kernel
theorem dX11_now_84 : decode cX11_now 84 = .ok (.aload_n 0, 1) := by decide +kernel
theorem dX11_now_85 : decode cX11_now 85 = .ok (.getfield 282, 3) := by decide +kernel
theorem dX11_now_88 : decode cX11_now 88 = .ok (.ireturn, 1) := by decide +kernel
theorem dX11_now_89 : decode cX11_now 89 = .ok (.aload_n 0, 1) := by decide +kernel
theorem dX11_now_90 : decode cX11_now 90 = .ok (.getfield 270, 3) := by decide +kernel
theorem dX11_now_93 : decode cX11_now 93 = .ok (.invokestatic 260, 3) := by decide +kernel
theorem dX11_now_96 : decode cX11_now 96 = .ok (.ireturn, 1) := by decide +kernel
theorem dX11_now_97 : decode cX11_now 97 = .ok (.aload_n 0, 1) := by decide +kernel
theorem dX11_now_98 : decode cX11_now 98 = .ok (.getfield 285, 3) := by decide +kernel
theorem dX11_now_101 : decode cX11_now 101 = .ok (.ireturn, 1) := by decide +kernel
theorem dX11_now_102 : decode cX11_now 102 = .ok (.bipush (-9), 2) := by decide +kernel
theorem dX11_now_104 : decode cX11_now 104 = .ok (.ireturn, 1) := by decide +kernel
theorem dX11_is__0 : decode cX11_is_ 0 = .ok (.aload_n 0, 1) := by decide +kernel
theorem dX11_is__1 : decode cX11_is_ 1 = .ok (.iload_n 1, 1) := by decide +kernel
theorem dX11_is__2 : decode cX11_is_ 2 = .ok (.invokevirtual 248, 3) := by decide +kernel
theorem dX11_is__5 : decode cX11_is_ 5 = .ok (.ifCond .eq 15, 3) := by decide +kernel
theorem dX11_is__20 : decode cX11_is_ 20 = .ok (.iconst (-1), 1) := by decide +kernel
theorem dX11_is__21 : decode cX11_is_ 21 = .ok (.ireturn, 1) := by decide +kernel
theorem dX11_happened_0 : decode cX11_happened 0 = .ok (.iload_n 1, 1) := by decide +kernel
theorem dX11_happened_1 : decode cX11_happened 1 = .ok (.i2l, 1) := by decide +kernel
theorem dX11_happened_2 : decode cX11_happened 2 = .ok (.lconst 0, 1) := by decide +kernel
theorem dX11_happened_3 : decode cX11_happened 3 = .ok (.aload_n 0, 1) := by decide +kernel
theorem dX11_happened_4 : decode cX11_happened 4 = .ok (.getfield 288, 3) := by decide +kernel
theorem dX11_happened_7 : decode cX11_happened 7 = .ok (.iconst 1, 1) := by decide +kernel
theorem dX11_happened_8 : decode cX11_happened 8 = .ok (.isub, 1) := by decide +kernel
theorem dX11_happened_9 : decode cX11_happened 9 = .ok (.i2l, 1) := by decide +kernel
theorem dX11_happened_10 : decode cX11_happened 10 = .ok (.invokestatic 141, 3) := by decide +kernel
theorem dX11_happened_13 : decode cX11_happened 13 = .ok (.ifCond .eq 28, 3) := by decide +kernel
theorem dX11_happened_41 : decode cX11_happened 41 = .ok (.iconst (-1), 1) := by decide +kernel
theorem dX11_happened_42 : decode cX11_happened 42 = .ok (.ireturn, 1) := by decide +kernel
theorem dX11_deadOnes_0 : decode cX11_deadOnes 0 = .ok (.iconst 0, 1) := by decide +kernel
theorem dX11_deadOnes_1 : decode cX11_deadOnes 1 = .ok (.istore_n 1, 1) := by decide +kernel
theorem dX11_deadOnes_2 : decode cX11_deadOnes 2 = .ok (.iconst 0, 1) := by decide +kernel
theorem dX11_deadOnes_3 : decode cX11_deadOnes 3 = .ok (.istore_n 2, 1) := by decide +kernel
theorem dX11_deadOnes_4 : decode cX11_deadOnes 4 = .ok (.iload_n 2, 1) := by decide +kernel
theorem dX11_deadOnes_5 : decode cX11_deadOnes 5 = .ok (.aload_n 0, 1) := by decide +kernel
theorem dX11_deadOnes_6 : decode cX11_deadOnes 6 = .ok (.getfield 121, 3) := by decide +kernel
theorem dX11_deadOnes_9 : decode cX11_deadOnes 9 = .ok (.if_icmp .ge 28, 3) := by decide +kernel
theorem dX11_deadOnes_37 : decode cX11_deadOnes 37 = .ok (.iload_n 1, 1) := by decide +kernel
theorem dX11_deadOnes_38 : decode cX11_deadOnes 38 = .ok (.ireturn, 1) := by decide +kernel
theorem dX11_upBut_0 : decode cX11_upBut 0 = .ok (.iconst 0, 1) := by decide +kernel
theorem dX11_upBut_1 : decode cX11_upBut 1 = .ok (.istore_n 2, 1) := by decide +kernel
theorem dX11_upBut_2 : decode cX11_upBut 2 = .ok (.iconst 1, 1) := by decide +kernel
theorem dX11_upBut_3 : decode cX11_upBut 3 = .ok (.istore_n 3, 1) := by decide +kernel
theorem dX11_upBut_4 : decode cX11_upBut 4 = .ok (.iload_n 3, 1) := by decide +kernel
theorem dX11_upBut_5 : decode cX11_upBut 5 = .ok (.ifCond .eq 74, 3) := by decide +kernel
theorem dX11_upBut_8 : decode cX11_upBut 8 = .ok (.iload_n 2, 1) := by decide +kernel
theorem dX11_upBut_9 : decode cX11_upBut 9 = .ok (.istore 4, 2) := by decide +kernel
theorem dX11_upBut_11 : decode cX11_upBut 11 = .ok (.iconst 0, 1) := by decide +kernel
theorem dX11_upBut_12 : decode cX11_upBut 12 = .ok (.istore 5, 2) := by decide +kernel
theorem dX11_upBut_14 : decode cX11_upBut 14 = .ok (.iload 5, 2) := by decide +kernel
theorem dX11_upBut_16 : decode cX11_upBut 16 = .ok (.aload_n 0, 1) := by decide +kernel
theorem dX11_upBut_17 : decode cX11_upBut 17 = .ok (.getfield 121, 3) := by decide +kernel
theorem dX11_upBut_20 : decode cX11_upBut 20 = .ok (.if_icmp .ge 44, 3) := by decide +kernel
theorem dX11_upBut_64 : decode cX11_upBut 64 = .ok (.iload_n 2, 1) := by decide +kernel
theorem dX11_upBut_65 : decode cX11_upBut 65 = .ok (.iload 4, 2) := by decide +kernel
theorem dX11_upBut_67 : decode cX11_upBut 67 = .ok (.if_icmp .eq 7, 3) := by decide +kernel
theorem dX11_upBut_74 : decode cX11_upBut 74 = .ok (.iconst 0, 1) := by decide +kernel
theorem dX11_upBut_75 : decode cX11_upBut 75 = .ok (.istore_n 3, 1) := by decide +kernel
theorem dX11_upBut_76 : decode cX11_upBut 76 = .ok (.goto (-72), 3) := by decide +kernel
theorem dX11_upBut_79 : decode cX11_upBut 79 = .ok (.iload_n 2, 1) := by decide +kernel
theorem dX11_upBut_80 : decode cX11_upBut 80 = .ok (.ireturn, 1) := by decide +kernel
theorem dX11_up_0 : decode cX11_up 0 = .ok (.iload_n 1, 1) := by decide +kernel
theorem dX11_up_1 : decode cX11_up 1 = .ok (.i2l, 1) := by decide +kernel
theorem dX11_up_2 : decode cX11_up 2 = .ok (.lconst 0, 1) := by decide +kernel
theorem dX11_up_3 : decode cX11_up 3 = .ok (.ldc2_w 322, 3) := by decide +kernel
theorem dX11_up_6 : decode cX11_up 6 = .ok (.invokestatic 141, 3) := by decide +kernel
theorem dX11_up_9 : decode cX11_up 9 = .ok (.ifCond .ne 5, 3) := by decide +kernel
theorem dX11_up_12 : decode cX11_up 12 = .ok (.iconst (-1), 1) := by decide +kernel
theorem dX11_up_13 : decode cX11_up 13 = .ok (.ireturn, 1) := by decide +kernel
theorem dX11_up_14 : decode cX11_up 14 = .ok (.iconst 1, 1) := by decide +kernel
theorem dX11_up_15 : decode cX11_up 15 = .ok (.aload_n 0, 1) := by decide +kernel
theorem dX11_up_16 : decode cX11_up 16 = .ok (.getfield 121, 3) := by decide +kernel
theorem dX11_up_19 : decode cX11_up 19 = .ok (.ishl, 1) := by decide +kernel
theorem dX11_up_20 : decode cX11_up 20 = .ok (.iconst 1, 1) := by decide +kernel
theorem dX11_up_21 : decode cX11_up 21 = .ok (.isub, 1) := by decide +kernel
theorem dX11_up_22 : decode cX11_up 22 = .ok (.istore_n 2, 1) := by decide +kernel
theorem dX11_up_23 : decode cX11_up 23 = .ok (.aload_n 0, 1) := by decide +kernel
theorem dX11_up_24 : decode cX11_up 24 = .ok (.aload_n 0, 1) := by decide +kernel
theorem dX11_up_25 : decode cX11_up 25 = .ok (.invokevirtual 324, 3) := by decide +kernel
theorem dX11_up_28 : decode cX11_up 28 = .ok (.invokevirtual 327, 3) := by decide +kernel
theorem dX11_up_31 : decode cX11_up 31 = .ok (.istore_n 3, 1) := by decide +kernel
theorem dX11_up_32 : decode cX11_up 32 = .ok (.iload_n 1, 1) := by decide +kernel
theorem dX11_up_33 : decode cX11_up 33 = .ok (.ifCond .ne 7, 3) := by decide +kernel
theorem dX11_up_36 : decode cX11_up 36 = .ok (.iload_n 3, 1) := by decide +kernel
theorem dX11_up_37 : decode cX11_up 37 = .ok (.goto 32, 3) := by decide +kernel
theorem dX11_up_40 : decode cX11_up 40 = .ok (.iload_n 1, 1) := by decide +kernel
theorem dX11_up_41 : decode cX11_up 41 = .ok (.iconst 1, 1) := by decide +kernel
theorem dX11_up_42 : decode cX11_up 42 = .ok (.if_icmp .ne 18, 3) := by decide +kernel
theorem dX11_up_45 : decode cX11_up 45 = .ok (.iload_n 2, 1) := by decide +kernel
theorem dX11_up_46 : decode cX11_up 46 = .ok (.iload_n 3, 1) := by decide +kernel
theorem dX11_up_47 : decode cX11_up 47 = .ok (.iconst (-1), 1) := by decide +kernel
theorem dX11_up_48 : decode cX11_up 48 = .ok (.ixor, 1) := by decide +kernel
theorem dX11_up_49 : decode cX11_up 49 = .ok (.iand, 1) := by decide +kernel
theorem dX11_up_50 : decode cX11_up 50 = .ok (.aload_n 0, 1) := by decide +kernel
theorem dX11_up_51 : decode cX11_up 51 = .ok (.invokevirtual 324, 3) := by decide +kernel
theorem dX11_up_54 : decode cX11_up 54 = .ok (.iconst (-1), 1) := by decide +kernel
theorem dX11_up_55 : decode cX11_up 55 = .ok (.ixor, 1) := by decide +kernel
theorem dX11_up_56 : decode cX11_up 56 = .ok (.iand, 1) := by decide +kernel
theorem dX11_up_57 : decode cX11_up 57 = .ok (.goto 12, 3) := by decide +kernel
theorem dX11_up_60 : decode cX11_up 60 = .ok (.iload_n 2, 1) := by decide +kernel
theorem dX11_up_61 : decode cX11_up 61 = .ok (.aload_n 0, 1) := by decide +kernel
theorem dX11_up_62 : decode cX11_up 62 = .ok (.iconst 0, 1) := by decide +kernel
theorem dX11_up_63 : decode cX11_up 63 = .ok (.invokevirtual 327, 3) := by decide +kernel
theorem dX11_up_66 : decode cX11_up 66 = .ok (.iconst (-1), 1) := by decide +kernel
theorem dX11_up_67 : decode cX11_up 67 = .ok (.ixor, 1) := by decide +kernel
theorem dX11_up_68 : decode cX11_up 68 = .ok (.iand, 1) := by decide +kernel
theorem dX11_up_69 : decode cX11_up 69 = .ok (.ireturn, 1) := by decide +kernel
theorem dX11_setWaits_0 : decode cX11_setWaits 0 = .ok (.iconst 0, 1) := by decide +kernel
theorem dX11_setWaits_1 : decode cX11_setWaits 1 = .ok (.istore_n 1, 1) := by decide +kernel
theorem dX11_setWaits_2 : decode cX11_setWaits 2 = .ok (.iload_n 1, 1) := by decide +kernel
theorem dX11_setWaits_3 : decode cX11_setWaits 3 = .ok (.aload_n 0, 1) := by decide +kernel
theorem dX11_setWaits_4 : decode cX11_setWaits 4 = .ok (.getfield 121, 3) := by decide +kernel
theorem dX11_setWaits_7 : decode cX11_setWaits 7 = .ok (.if_icmp .ge 21, 3) := by decide +kernel
theorem dX11_setWaits_28 : decode cX11_setWaits 28 = .ok (.return_, 1) := by decide +kernel
theorem dX11_findTimes_0 : decode cX11_findTimes 0 = .ok (.aload_n 0, 1) := by decide +kernel
theorem dX11_findTimes_1 : decode cX11_findTimes 1 = .ok (.aload_n 0, 1) := by decide +kernel
theorem dX11_findTimes_2 : decode cX11_findTimes 2 = .ok (.aload_n 0, 1) := by decide +kernel
theorem dX11_findTimes_3 : decode cX11_findTimes 3 = .ok (.invokevirtual 324, 3) := by decide +kernel
theorem dX11_findTimes_6 : decode cX11_findTimes 6 = .ok (.invokevirtual 327, 3) := by decide +kernel
theorem dX11_findTimes_9 : decode cX11_findTimes 9 = .ok (.putfield 330, 3) := by decide +kernel
theorem dX11_findTimes_12 : decode cX11_findTimes 12 = .ok (.iconst 0, 1) := by decide +kernel
theorem dX11_findTimes_13 : decode cX11_findTimes 13 = .ok (.istore_n 1, 1) := by decide +kernel
theorem dX11_findTimes_14 : decode cX11_findTimes 14 = .ok (.iload_n 1, 1) := by decide +kernel
theorem dX11_findTimes_15 : decode cX11_findTimes 15 = .ok (.bipush 8, 2) := by decide +kernel
theorem dX11_findTimes_17 : decode cX11_findTimes 17 = .ok (.if_icmp .ge 27, 3) := by decide +kernel
theorem dX11_findTimes_20 : decode cX11_findTimes 20 = .ok (.aload_n 0, 1) := by decide +kernel
theorem dX11_findTimes_21 : decode cX11_findTimes 21 = .ok (.getfield 68, 3) := by decide +kernel
theorem dX11_findTimes_24 : decode cX11_findTimes 24 = .ok (.iload_n 1, 1) := by decide +kernel
theorem dX11_findTimes_25 : decode cX11_findTimes 25 = .ok (.ldc_w 333, 3) := by decide +kernel
theorem dX11_findTimes_28 : decode cX11_findTimes 28 = .ok (.iastore, 1) := by decide +kernel
theorem dX11_findTimes_29 : decode cX11_findTimes 29 = .ok (.aload_n 0, 1) := by decide +kernel
theorem dX11_findTimes_30 : decode cX11_findTimes 30 = .ok (.getfield 71, 3) := by decide +kernel
theorem dX11_findTimes_33 : decode cX11_findTimes 33 = .ok (.iload_n 1, 1) := by decide +kernel
theorem dX11_findTimes_34 : decode cX11_findTimes 34 = .ok (.ldc_w 333, 3) := by decide +kernel
theorem dX11_findTimes_37 : decode cX11_findTimes 37 = .ok (.iastore, 1) := by decide +kernel
theorem dX11_findTimes_38 : decode cX11_findTimes 38 = .ok (.iinc 1 1, 3) := by decide +kernel
theorem dX11_findTimes_41 : decode cX11_findTimes 41 = .ok (.goto (-27), 3) := by decide +kernel
theorem dX11_findTimes_44 : decode cX11_findTimes 44 = .ok (.iconst 0, 1) := by decide +kernel
theorem dX11_findTimes_45 : decode cX11_findTimes 45 = .ok (.istore_n 1, 1) := by decide +kernel
theorem dX11_findTimes_46 : decode cX11_findTimes 46 = .ok (.iload_n 1, 1) := by decide +kernel
theorem dX11_findTimes_47 : decode cX11_findTimes 47 = .ok (.sipush 200, 3) := by decide +kernel
theorem dX11_findTimes_50 : decode cX11_findTimes 50 = .ok (.if_icmp .gt 126, 3) := by decide +kernel
theorem dX11_findTimes_53 : decode cX11_findTimes 53 = .ok (.sipush 256, 3) := by decide +kernel
theorem dX11_findTimes_56 : decode cX11_findTimes 56 = .ok (.istore_n 2, 1) := by decide +kernel
theorem dX11_findTimes_57 : decode cX11_findTimes 57 = .ok (.iconst 0, 1) := by decide +kernel
theorem dX11_findTimes_58 : decode cX11_findTimes 58 = .ok (.istore_n 3, 1) := by decide +kernel
theorem dX11_findTimes_59 : decode cX11_findTimes 59 = .ok (.iload_n 3, 1) := by decide +kernel
theorem dX11_findTimes_60 : decode cX11_findTimes 60 = .ok (.aload_n 0, 1) := by decide +kernel
theorem dX11_findTimes_61 : decode cX11_findTimes 61 = .ok (.getfield 121, 3) := by decide +kernel
theorem dX11_findTimes_64 : decode cX11_findTimes 64 = .ok (.if_icmp .ge 29, 3) := by decide +kernel
theorem dX11_findTimes_93 : decode cX11_findTimes 93 = .ok (.iconst 0, 1) := by decide +kernel
theorem dX11_findTimes_94 : decode cX11_findTimes 94 = .ok (.istore_n 3, 1) := by decide +kernel
theorem dX11_findTimes_95 : decode cX11_findTimes 95 = .ok (.iload_n 3, 1) := by decide +kernel
theorem dX11_findTimes_96 : decode cX11_findTimes 96 = .ok (.aload_n 0, 1) := by decide +kernel
theorem dX11_findTimes_97 : decode cX11_findTimes 97 = .ok (.getfield 121, 3) := by decide +kernel
theorem dX11_findTimes_100 : decode cX11_findTimes 100 = .ok (.if_icmp .ge 70, 3) := by decide +kernel
theorem dX11_findTimes_170 : decode cX11_findTimes 170 = .ok (.iinc 1 1, 3) := by decide +kernel
theorem dX11_findTimes_173 : decode cX11_findTimes 173 = .ok (.goto (-127), 3) := by decide +kernel
theorem dX11_findTimes_176 : decode cX11_findTimes 176 = .ok (.return_, 1) := by decide +kernel
theorem dX11_setTimes_0 : decode cX11_setTimes 0 = .ok (.iconst 0, 1) := by decide +kernel
theorem dX11_setTimes_1 : decode cX11_setTimes 1 = .ok (.istore_n 2, 1) := by decide +kernel
theorem dX11_setTimes_2 : decode cX11_setTimes 2 = .ok (.iload_n 2, 1) := by decide +kernel
theorem dX11_setTimes_3 : decode cX11_setTimes 3 = .ok (.aload_n 0, 1) := by decide +kernel
theorem dX11_setTimes_4 : decode cX11_setTimes 4 = .ok (.getfield 121, 3) := by decide +kernel
theorem dX11_setTimes_7 : decode cX11_setTimes 7 = .ok (.if_icmp .ge 36, 3) := by decide +kernel
theorem dX11_setTimes_43 : decode cX11_setTimes 43 = .ok (.return_, 1) := by decide +kernel
theorem dX11_when_0 : decode cX11_when 0 = .ok (.aload_n 0, 1) := by decide +kernel
theorem dX11_when_1 : decode cX11_when 1 = .ok (.iload_n 1, 1) := by decide +kernel
theorem dX11_when_2 : decode cX11_when 2 = .ok (.invokevirtual 248, 3) := by decide +kernel
theorem dX11_when_5 : decode cX11_when 5 = .ok (.ifCond .eq 15, 3) := by decide +kernel
theorem dX11_when_20 : decode cX11_when 20 = .ok (.iconst (-1), 1) := by decide +kernel
theorem dX11_when_21 : decode cX11_when 21 = .ok (.ireturn, 1) := by decide +kernel
theorem dX11_ways_0 : decode cX11_ways 0 = .ok (.iconst 1, 1) := by decide +kernel
theorem dX11_ways_1 : decode cX11_ways 1 = .ok (.istore_n 1, 1) := by decide +kernel
theorem dX11_ways_2 : decode cX11_ways 2 = .ok (.iconst 0, 1) := by decide +kernel
theorem dX11_ways_3 : decode cX11_ways 3 = .ok (.istore_n 2, 1) := by decide +kernel
theorem dX11_ways_4 : decode cX11_ways 4 = .ok (.iload_n 2, 1) := by decide +kernel
theorem dX11_ways_5 : decode cX11_ways 5 = .ok (.aload_n 0, 1) := by decide +kernel
theorem dX11_ways_6 : decode cX11_ways 6 = .ok (.getfield 121, 3) := by decide +kernel
theorem dX11_ways_9 : decode cX11_ways 9 = .ok (.if_icmp .ge 38, 3) := by decide +kernel
theorem dX11_ways_47 : decode cX11_ways 47 = .ok (.iload_n 1, 1) := by decide +kernel
theorem dX11_ways_48 : decode cX11_ways 48 = .ok (.ireturn, 1) := by decide +kernel
theorem dX11_ahead_0 : decode cX11_ahead 0 = .ok (.aload_n 0, 1) := by decide +kernel
theorem dX11_ahead_1 : decode cX11_ahead 1 = .ok (.iload_n 1, 1) := by decide +kernel
theorem dX11_ahead_2 : decode cX11_ahead 2 = .ok (.invokevirtual 248, 3) := by decide +kernel
theorem dX11_ahead_5 : decode cX11_ahead 5 = .ok (.ifCond .eq 26, 3) := by decide +kernel
theorem dX11_ahead_31 : decode cX11_ahead 31 = .ok (.sipush (-1000), 3) := by decide +kernel
theorem dX11_ahead_34 : decode cX11_ahead 34 = .ok (.ireturn, 1) := by decide +kernel
theorem dX11_drawnAt_0 : decode cX11_drawnAt 0 = .ok (.iconst 0, 1) := by decide +kernel
theorem dX11_drawnAt_1 : decode cX11_drawnAt 1 = .ok (.istore_n 2, 1) := by decide +kernel
theorem dX11_drawnAt_2 : decode cX11_drawnAt 2 = .ok (.iconst 0, 1) := by decide +kernel
theorem dX11_drawnAt_3 : decode cX11_drawnAt 3 = .ok (.istore_n 3, 1) := by decide +kernel
theorem dX11_drawnAt_4 : decode cX11_drawnAt 4 = .ok (.iconst 0, 1) := by decide +kernel
theorem dX11_drawnAt_5 : decode cX11_drawnAt 5 = .ok (.istore 4, 2) := by decide +kernel
theorem dX11_drawnAt_7 : decode cX11_drawnAt 7 = .ok (.iload 4, 2) := by decide +kernel
theorem dX11_drawnAt_9 : decode cX11_drawnAt 9 = .ok (.aload_n 0, 1) := by decide +kernel
theorem dX11_drawnAt_10 : decode cX11_drawnAt 10 = .ok (.getfield 121, 3) := by decide +kernel
theorem dX11_drawnAt_13 : decode cX11_drawnAt 13 = .ok (.if_icmp .ge 85, 3) := by decide +kernel
theorem dX11_drawnAt_98 : decode cX11_drawnAt 98 = .ok (.aload_n 0, 1) := by decide +kernel
theorem dX11_drawnAt_99 : decode cX11_drawnAt 99 = .ok (.iload_n 2, 1) := by decide +kernel
theorem dX11_drawnAt_100 : decode cX11_drawnAt 100 = .ok (.iload_n 3, 1) := by decide +kernel
theorem dX11_drawnAt_101 : decode cX11_drawnAt 101 = .ok (.invokevirtual 309, 3) := by decide +kernel
theorem dX11_drawnAt_104 : decode cX11_drawnAt 104 = .ok (.ireturn, 1) := by decide +kernel
theorem dX11_drawn_0 : decode cX11_drawn 0 = .ok (.iload_n 1, 1) := by decide +kernel
theorem dX11_drawn_1 : decode cX11_drawn 1 = .ok (.i2l, 1) := by decide +kernel
theorem dX11_drawn_2 : decode cX11_drawn 2 = .ok (.lconst 0, 1) := by decide +kernel
theorem dX11_drawn_3 : decode cX11_drawn 3 = .ok (.ldc2_w 315, 3) := by decide +kernel
theorem dX11_drawn_6 : decode cX11_drawn 6 = .ok (.invokestatic 141, 3) := by decide +kernel
theorem dX11_drawn_9 : decode cX11_drawn 9 = .ok (.ifCond .ne 5, 3) := by decide +kernel
theorem dX11_drawn_12 : decode cX11_drawn 12 = .ok (.iconst (-1), 1) := by decide +kernel
theorem dX11_drawn_13 : decode cX11_drawn 13 = .ok (.ireturn, 1) := by decide +kernel
theorem dX11_drawn_14 : decode cX11_drawn 14 = .ok (.aload_n 0, 1) := by decide +kernel
theorem dX11_drawn_15 : decode cX11_drawn 15 = .ok (.invokevirtual 334, 3) := by decide +kernel
theorem dX11_drawn_18 : decode cX11_drawn 18 = .ok (.aload_n 0, 1) := by decide +kernel
theorem dX11_drawn_19 : decode cX11_drawn 19 = .ok (.iconst 0, 1) := by decide +kernel
theorem dX11_drawn_20 : decode cX11_drawn 20 = .ok (.invokevirtual 337, 3) := by decide +kernel
theorem dX11_drawn_23 : decode cX11_drawn 23 = .ok (.aload_n 0, 1) := by decide +kernel
theorem dX11_drawn_24 : decode cX11_drawn 24 = .ok (.invokevirtual 340, 3) := by decide +kernel
theorem dX11_drawn_27 : decode cX11_drawn 27 = .ok (.aload_n 0, 1) := by decide +kernel
theorem dX11_drawn_28 : decode cX11_drawn 28 = .ok (.iload_n 1, 1) := by decide +kernel
theorem dX11_drawn_29 : decode cX11_drawn 29 = .ok (.invokevirtual 350, 3) := by decide +kernel
theorem dX11_drawn_32 : decode cX11_drawn 32 = .ok (.ireturn, 1) := by decide +kernel
theorem dX11_peak_0 : decode cX11_peak 0 = .ok (.iload_n 1, 1) := by decide +kernel
theorem dX11_peak_1 : decode cX11_peak 1 = .ok (.i2l, 1) := by decide +kernel
theorem dX11_peak_2 : decode cX11_peak 2 = .ok (.lconst 0, 1) := by decide +kernel
theorem dX11_peak_3 : decode cX11_peak 3 = .ok (.ldc2_w 356, 3) := by decide +kernel
theorem dX11_peak_6 : decode cX11_peak 6 = .ok (.invokestatic 141, 3) := by decide +kernel
theorem dX11_peak_9 : decode cX11_peak 9 = .ok (.ifCond .ne 5, 3) := by decide +kernel
theorem dX11_peak_12 : decode cX11_peak 12 = .ok (.iconst (-1), 1) := by decide +kernel
theorem dX11_peak_13 : decode cX11_peak 13 = .ok (.ireturn, 1) := by decide +kernel
theorem dX11_peak_14 : decode cX11_peak 14 = .ok (.iload_n 1, 1) := by decide +kernel
theorem dX11_peak_15 : decode cX11_peak 15 = .ok (.iconst 1, 1) := by decide +kernel
theorem dX11_peak_16 : decode cX11_peak 16 = .ok (.if_icmp .le 16, 3) := by decide +kernel
theorem dX11_peak_19 : decode cX11_peak 19 = .ok (.aload_n 0, 1) := by decide +kernel
theorem dX11_peak_20 : decode cX11_peak 20 = .ok (.invokevirtual 343, 3) := by decide +kernel
theorem dX11_peak_23 : decode cX11_peak 23 = .ok (.sipush 20000, 3) := by decide +kernel
theorem dX11_peak_26 : decode cX11_peak 26 = .ok (.if_icmp .le 6, 3) := by decide +kernel
theorem dX11_peak_32 : decode cX11_peak 32 = .ok (.aload_n 0, 1) := by decide +kernel
theorem dX11_peak_33 : decode cX11_peak 33 = .ok (.aload_n 0, 1) := by decide +kernel
theorem dX11_peak_34 : decode cX11_peak 34 = .ok (.invokevirtual 324, 3) := by decide +kernel
theorem dX11_peak_37 : decode cX11_peak 37 = .ok (.invokevirtual 327, 3) := by decide +kernel
theorem dX11_peak_40 : decode cX11_peak 40 = .ok (.ifCond .ne 6, 3) := by decide +kernel
theorem dX11_peak_43 : decode cX11_peak 43 = .ok (.bipush (-4), 2) := by decide +kernel
theorem dX11_peak_45 : decode cX11_peak 45 = .ok (.ireturn, 1) := by decide +kernel
theorem dX11_lastGood_0 : decode cX11_lastGood 0 = .ok (.bipush (-4), 2) := by decide +kernel
theorem dX11_lastGood_2 : decode cX11_lastGood 2 = .ok (.istore_n 1, 1) := by decide +kernel
theorem dX11_lastGood_3 : decode cX11_lastGood 3 = .ok (.iconst 0, 1) := by decide +kernel
theorem dX11_lastGood_4 : decode cX11_lastGood 4 = .ok (.istore_n 2, 1) := by decide +kernel
theorem dX11_lastGood_5 : decode cX11_lastGood 5 = .ok (.iload_n 2, 1) := by decide +kernel
theorem dX11_lastGood_6 : decode cX11_lastGood 6 = .ok (.aload_n 0, 1) := by decide +kernel
theorem dX11_lastGood_7 : decode cX11_lastGood 7 = .ok (.getfield 121, 3) := by decide +kernel
theorem dX11_lastGood_10 : decode cX11_lastGood 10 = .ok (.if_icmp .ge 42, 3) := by decide +kernel
theorem dX11_lastGood_52 : decode cX11_lastGood 52 = .ok (.iload_n 1, 1) := by decide +kernel
theorem dX11_lastGood_53 : decode cX11_lastGood 53 = .ok (.ireturn, 1) := by decide +kernel
theorem dX11_findStagger_0 : decode cX11_findStagger 0 = .ok (.aload_n 0, 1) := by decide +kernel
theorem dX11_findStagger_1 : decode cX11_findStagger 1 = .ok (.bipush (-4), 2) := by decide +kernel
theorem dX11_findStagger_3 : decode cX11_findStagger 3 = .ok (.putfield 361, 3) := by decide +kernel
theorem dX11_findStagger_6 : decode cX11_findStagger 6 = .ok (.aload_n 0, 1) := by decide +kernel
theorem dX11_findStagger_7 : decode cX11_findStagger 7 = .ok (.iconst 0, 1) := by decide +kernel
theorem dX11_findStagger_8 : decode cX11_findStagger 8 = .ok (.invokevirtual 337, 3) := by decide +kernel
theorem dX11_findStagger_11 : decode cX11_findStagger 11 = .ok (.iconst 0, 1) := by decide +kernel
theorem dX11_findStagger_12 : decode cX11_findStagger 12 = .ok (.istore_n 1, 1) := by decide +kernel
theorem dX11_findStagger_13 : decode cX11_findStagger 13 = .ok (.iload_n 1, 1) := by decide +kernel
theorem dX11_findStagger_14 : decode cX11_findStagger 14 = .ok (.iconst 1, 1) := by decide +kernel
theorem dX11_findStagger_15 : decode cX11_findStagger 15 = .ok (.iconst 2, 1) := by decide +kernel
theorem dX11_findStagger_16 : decode cX11_findStagger 16 = .ok (.aload_n 0, 1) := by decide +kernel
theorem dX11_findStagger_17 : decode cX11_findStagger 17 = .ok (.getfield 121, 3) := by decide +kernel
theorem dX11_findStagger_20 : decode cX11_findStagger 20 = .ok (.imul, 1) := by decide +kernel
theorem dX11_findStagger_21 : decode cX11_findStagger 21 = .ok (.ishl, 1) := by decide +kernel
theorem dX11_findStagger_22 : decode cX11_findStagger 22 = .ok (.if_icmp .ge 121, 3) := by decide +kernel
theorem dX11_findStagger_25 : decode cX11_findStagger 25 = .ok (.iconst 0, 1) := by decide +kernel
theorem dX11_findStagger_26 : decode cX11_findStagger 26 = .ok (.istore_n 2, 1) := by decide +kernel
theorem dX11_findStagger_27 : decode cX11_findStagger 27 = .ok (.iload_n 2, 1) := by decide +kernel
theorem dX11_findStagger_28 : decode cX11_findStagger 28 = .ok (.aload_n 0, 1) := by decide +kernel
theorem dX11_findStagger_29 : decode cX11_findStagger 29 = .ok (.getfield 121, 3) := by decide +kernel
theorem dX11_findStagger_32 : decode cX11_findStagger 32 = .ok (.if_icmp .ge 29, 3) := by decide +kernel
theorem dX11_findStagger_61 : decode cX11_findStagger 61 = .ok (.aload_n 0, 1) := by decide +kernel
theorem dX11_findStagger_62 : decode cX11_findStagger 62 = .ok (.invokevirtual 340, 3) := by decide +kernel
theorem dX11_findStagger_65 : decode cX11_findStagger 65 = .ok (.aload_n 0, 1) := by decide +kernel
theorem dX11_findStagger_66 : decode cX11_findStagger 66 = .ok (.invokevirtual 364, 3) := by decide +kernel
theorem dX11_findStagger_69 : decode cX11_findStagger 69 = .ok (.istore_n 2, 1) := by decide +kernel
theorem dX11_findStagger_70 : decode cX11_findStagger 70 = .ok (.iload_n 2, 1) := by decide +kernel
theorem dX11_findStagger_71 : decode cX11_findStagger 71 = .ok (.bipush (-4), 2) := by decide +kernel
theorem dX11_findStagger_73 : decode cX11_findStagger 73 = .ok (.if_icmp .eq 64, 3) := by decide +kernel
theorem dX11_findStagger_137 : decode cX11_findStagger 137 = .ok (.iinc 1 1, 3) := by decide +kernel
theorem dX11_findStagger_140 : decode cX11_findStagger 140 = .ok (.goto (-127), 3) := by decide +kernel
theorem dX11_findStagger_143 : decode cX11_findStagger 143 = .ok (.return_, 1) := by decide +kernel
theorem dX11_stagger_0 : decode cX11_stagger 0 = .ok (.iload_n 1, 1) := by decide +kernel
theorem dX11_stagger_1 : decode cX11_stagger 1 = .ok (.ifCond .eq 24, 3) := by decide +kernel
theorem dX11_stagger_4 : decode cX11_stagger 4 = .ok (.iload_n 1, 1) := by decide +kernel
theorem dX11_stagger_5 : decode cX11_stagger 5 = .ok (.i2l, 1) := by decide +kernel
theorem dX11_stagger_6 : decode cX11_stagger 6 = .ok (.ldc2_w 367, 3) := by decide +kernel
theorem dX11_stagger_9 : decode cX11_stagger 9 = .ok (.bipush 9, 2) := by decide +kernel
theorem dX11_stagger_11 : decode cX11_stagger 11 = .ok (.aload_n 0, 1) := by decide +kernel
theorem dX11_stagger_12 : decode cX11_stagger 12 = .ok (.getfield 121, 3) := by decide +kernel
theorem dX11_stagger_15 : decode cX11_stagger 15 = .ok (.iadd, 1) := by decide +kernel
theorem dX11_stagger_16 : decode cX11_stagger 16 = .ok (.i2l, 1) := by decide +kernel
theorem dX11_stagger_17 : decode cX11_stagger 17 = .ok (.invokestatic 141, 3) := by decide +kernel
theorem dX11_stagger_20 : decode cX11_stagger 20 = .ok (.ifCond .ne 5, 3) := by decide +kernel
theorem dX11_stagger_23 : decode cX11_stagger 23 = .ok (.iconst (-1), 1) := by decide +kernel
theorem dX11_stagger_24 : decode cX11_stagger 24 = .ok (.ireturn, 1) := by decide +kernel
theorem dX11_stagger_25 : decode cX11_stagger 25 = .ok (.aload_n 0, 1) := by decide +kernel
theorem dX11_stagger_26 : decode cX11_stagger 26 = .ok (.getfield 121, 3) := by decide +kernel
theorem dX11_stagger_29 : decode cX11_stagger 29 = .ok (.bipush 6, 2) := by decide +kernel
theorem dX11_stagger_31 : decode cX11_stagger 31 = .ok (.if_icmp .le 6, 3) := by decide +kernel
theorem dX11_stagger_37 : decode cX11_stagger 37 = .ok (.aload_n 0, 1) := by decide +kernel
theorem dX11_stagger_38 : decode cX11_stagger 38 = .ok (.invokevirtual 369, 3) := by decide +kernel
theorem dX11_stagger_41 : decode cX11_stagger 41 = .ok (.aload_n 0, 1) := by decide +kernel
theorem dX11_stagger_42 : decode cX11_stagger 42 = .ok (.getfield 361, 3) := by decide +kernel
theorem dX11_stagger_45 : decode cX11_stagger 45 = .ok (.bipush (-4), 2) := by decide +kernel
theorem dX11_stagger_47 : decode cX11_stagger 47 = .ok (.if_icmp .ne 8, 3) := by decide +kernel
theorem dX11_stagger_50 : decode cX11_stagger 50 = .ok (.bipush (-4), 2) := by decide +kernel
theorem dX11_stagger_52 : decode cX11_stagger 52 = .ok (.goto 23, 3) := by decide +kernel
theorem dX11_stagger_75 : decode cX11_stagger 75 = .ok (.ireturn, 1) := by decide +kernel
theorem dX11_adopt_0 : decode cX11_adopt 0 = .ok (.aload_n 0, 1) := by decide +kernel
theorem dX11_adopt_1 : decode cX11_adopt 1 = .ok (.getfield 121, 3) := by decide +kernel
theorem dX11_adopt_4 : decode cX11_adopt 4 = .ok (.bipush 6, 2) := by decide +kernel
theorem dX11_adopt_6 : decode cX11_adopt 6 = .ok (.if_icmp .le 6, 3) := by decide +kernel
theorem dX11_adopt_12 : decode cX11_adopt 12 = .ok (.aload_n 0, 1) := by decide +kernel
theorem dX11_adopt_13 : decode cX11_adopt 13 = .ok (.invokevirtual 369, 3) := by decide +kernel
theorem dX11_adopt_16 : decode cX11_adopt 16 = .ok (.iconst 0, 1) := by decide +kernel
theorem dX11_adopt_17 : decode cX11_adopt 17 = .ok (.istore_n 1, 1) := by decide +kernel
theorem dX11_adopt_18 : decode cX11_adopt 18 = .ok (.iload_n 1, 1) := by decide +kernel
theorem dX11_adopt_19 : decode cX11_adopt 19 = .ok (.aload_n 0, 1) := by decide +kernel
theorem dX11_adopt_20 : decode cX11_adopt 20 = .ok (.getfield 121, 3) := by decide +kernel
theorem dX11_adopt_23 : decode cX11_adopt 23 = .ok (.if_icmp .ge 35, 3) := by decide +kernel
theorem dX11_adopt_58 : decode cX11_adopt 58 = .ok (.aload_n 0, 1) := by decide +kernel
theorem dX11_adopt_59 : decode cX11_adopt 59 = .ok (.getfield 361, 3) := by decide +kernel
theorem dX11_adopt_62 : decode cX11_adopt 62 = .ok (.ireturn, 1) := by decide +kernel
theorem dX11_down_0 : decode cX11_down 0 = .ok (.aload_n 0, 1) := by decide +kernel
theorem dX11_down_1 : decode cX11_down 1 = .ok (.iload_n 1, 1) := by decide +kernel
theorem dX11_down_2 : decode cX11_down 2 = .ok (.invokevirtual 372, 3) := by decide +kernel
theorem dX11_down_5 : decode cX11_down 5 = .ok (.ifCond .eq 27, 3) := by decide +kernel
theorem dX11_down_8 : decode cX11_down 8 = .ok (.aload_n 0, 1) := by decide +kernel
theorem dX11_down_9 : decode cX11_down 9 = .ok (.aload_n 0, 1) := by decide +kernel
theorem dX11_down_10 : decode cX11_down 10 = .ok (.invokevirtual 324, 3) := by decide +kernel
theorem dX11_down_13 : decode cX11_down 13 = .ok (.invokevirtual 327, 3) := by decide +kernel
theorem dX11_down_16 : decode cX11_down 16 = .ok (.aload_n 0, 1) := by decide +kernel
theorem dX11_down_17 : decode cX11_down 17 = .ok (.aload_n 0, 1) := by decide +kernel
theorem dX11_down_18 : decode cX11_down 18 = .ok (.invokevirtual 324, 3) := by decide +kernel
theorem dX11_down_21 : decode cX11_down 21 = .ok (.iload_n 1, 1) := by decide +kernel
theorem dX11_down_22 : decode cX11_down 22 = .ok (.ior, 1) := by decide +kernel
theorem dX11_down_23 : decode cX11_down 23 = .ok (.invokevirtual 327, 3) := by decide +kernel
theorem dX11_down_26 : decode cX11_down 26 = .ok (.iconst (-1), 1) := by decide +kernel
theorem dX11_down_27 : decode cX11_down 27 = .ok (.ixor, 1) := by decide +kernel
theorem dX11_down_28 : decode cX11_down 28 = .ok (.iand, 1) := by decide +kernel
theorem dX11_down_29 : decode cX11_down 29 = .ok (.goto 4, 3) := by decide +kernel
theorem dX11_down_32 : decode cX11_down 32 = .ok (.iconst (-1), 1) := by decide +kernel
theorem dX11_down_33 : decode cX11_down 33 = .ok (.ireturn, 1) := by decide +kernel
theorem dX11_cut_0 : decode cX11_cut 0 = .ok (.aload_n 0, 1) := by decide +kernel
theorem dX11_cut_1 : decode cX11_cut 1 = .ok (.iload_n 1, 1) := by decide +kernel
theorem dX11_cut_2 : decode cX11_cut 2 = .ok (.invokevirtual 248, 3) := by decide +kernel
theorem dX11_cut_5 : decode cX11_cut 5 = .ok (.ifCond .eq 13, 3) := by decide +kernel
theorem dX11_cut_18 : decode cX11_cut 18 = .ok (.iconst (-1), 1) := by decide +kernel
theorem dX11_cut_19 : decode cX11_cut 19 = .ok (.ireturn, 1) := by decide +kernel
theorem dX11_need_0 : decode cX11_need 0 = .ok (.aload_n 0, 1) := by decide +kernel
theorem dX11_need_1 : decode cX11_need 1 = .ok (.iload_n 1, 1) := by decide +kernel
theorem dX11_need_2 : decode cX11_need 2 = .ok (.invokevirtual 248, 3) := by decide +kernel
theorem dX11_need_5 : decode cX11_need 5 = .ok (.ifCond .eq 13, 3) := by decide +kernel
theorem dX11_need_18 : decode cX11_need 18 = .ok (.iconst (-1), 1) := by decide +kernel
theorem dX11_need_19 : decode cX11_need 19 = .ok (.ireturn, 1) := by decide +kernel
theorem dX11_must_0 : decode cX11_must 0 = .ok (.aload_n 0, 1) := by decide +kernel
theorem dX11_must_1 : decode cX11_must 1 = .ok (.iload_n 1, 1) := by decide +kernel
theorem dX11_must_2 : decode cX11_must 2 = .ok (.invokevirtual 248, 3) := by decide +kernel
theorem dX11_must_5 : decode cX11_must 5 = .ok (.ifCond .ne 5, 3) := by decide +kernel
theorem dX11_must_8 : decode cX11_must 8 = .ok (.iconst (-1), 1) := by decide +kernel
theorem dX11_must_9 : decode cX11_must 9 = .ok (.ireturn, 1) := by decide +kernel
theorem dX11_seen_0 : decode cX11_seen 0 = .ok (.aload_n 0, 1) := by decide +kernel
theorem dX11_seen_1 : decode cX11_seen 1 = .ok (.iload_n 1, 1) := by decide +kernel
theorem dX11_seen_2 : decode cX11_seen 2 = .ok (.invokevirtual 372, 3) := by decide +kernel
theorem dX11_seen_5 : decode cX11_seen 5 = .ok (.ifCond .ne 5, 3) := by decide +kernel
theorem dX11_seen_8 : decode cX11_seen 8 = .ok (.iconst (-1), 1) := by decide +kernel
theorem dX11_seen_9 : decode cX11_seen 9 = .ok (.ireturn, 1) := by decide +kernel
theorem dX11_seen_10 : decode cX11_seen 10 = .ok (.aload_n 0, 1) := by decide +kernel
theorem dX11_seen_11 : decode cX11_seen 11 = .ok (.iconst 0, 1) := by decide +kernel
theorem dX11_seen_12 : decode cX11_seen 12 = .ok (.invokevirtual 327, 3) := by decide +kernel
theorem dX11_seen_15 : decode cX11_seen 15 = .ok (.iload_n 1, 1) := by decide +kernel
theorem dX11_seen_16 : decode cX11_seen 16 = .ok (.if_icmp .ne 9, 3) := by decide +kernel
theorem dX11_seen_19 : decode cX11_seen 19 = .ok (.sipush 256, 3) := by decide +kernel
theorem dX11_seen_22 : decode cX11_seen 22 = .ok (.goto 4, 3) := by decide +kernel
theorem dX11_seen_26 : decode cX11_seen 26 = .ok (.istore_n 2, 1) := by decide +kernel
theorem dX11_seen_27 : decode cX11_seen 27 = .ok (.iconst 0, 1) := by decide +kernel
theorem dX11_seen_28 : decode cX11_seen 28 = .ok (.istore_n 3, 1) := by decide +kernel
theorem dX11_seen_29 : decode cX11_seen 29 = .ok (.iload_n 3, 1) := by decide +kernel
theorem dX11_seen_30 : decode cX11_seen 30 = .ok (.aload_n 0, 1) := by decide +kernel
theorem dX11_seen_31 : decode cX11_seen 31 = .ok (.getfield 121, 3) := by decide +kernel
theorem dX11_seen_34 : decode cX11_seen 34 = .ok (.if_icmp .ge 30, 3) := by decide +kernel
theorem dX11_seen_64 : decode cX11_seen 64 = .ok (.iload_n 2, 1) := by decide +kernel
theorem dX11_seen_65 : decode cX11_seen 65 = .ok (.ireturn, 1) := by decide +kernel
theorem dX11_isSheet_0 : decode cX11_isSheet 0 = .ok (.iload_n 0, 1) := by decide +kernel
theorem dX11_isSheet_1 : decode cX11_isSheet 1 = .ok (.i2l, 1) := by decide +kernel
theorem dX11_isSheet_2 : decode cX11_isSheet 2 = .ok (.lconst 0, 1) := by decide +kernel
theorem dX11_isSheet_3 : decode cX11_isSheet 3 = .ok (.ldc2_w 356, 3) := by decide +kernel
theorem dX11_isSheet_6 : decode cX11_isSheet 6 = .ok (.invokestatic 141, 3) := by decide +kernel
theorem dX11_isSheet_9 : decode cX11_isSheet 9 = .ok (.ifCond .eq 19, 3) := by decide +kernel
theorem dX11_isSheet_12 : decode cX11_isSheet 12 = .ok (.iload_n 1, 1) := by decide +kernel
theorem dX11_isSheet_13 : decode cX11_isSheet 13 = .ok (.i2l, 1) := by decide +kernel
theorem dX11_isSheet_14 : decode cX11_isSheet 14 = .ok (.lconst 0, 1) := by decide +kernel
theorem dX11_isSheet_15 : decode cX11_isSheet 15 = .ok (.ldc2_w 322, 3) := by decide +kernel
theorem dX11_isSheet_18 : decode cX11_isSheet 18 = .ok (.invokestatic 141, 3) := by decide +kernel
theorem dX11_isSheet_21 : decode cX11_isSheet 21 = .ok (.ifCond .eq 7, 3) := by decide +kernel
theorem dX11_isSheet_24 : decode cX11_isSheet 24 = .ok (.iconst 1, 1) := by decide +kernel
theorem dX11_isSheet_25 : decode cX11_isSheet 25 = .ok (.goto 4, 3) := by decide +kernel
theorem dX11_isSheet_28 : decode cX11_isSheet 28 = .ok (.iconst 0, 1) := by decide +kernel
theorem dX11_isSheet_29 : decode cX11_isSheet 29 = .ok (.ireturn, 1) := by decide +kernel
theorem dX11_sheet_0 : decode cX11_sheet 0 = .ok (.iload_n 1, 1) := by decide +kernel
theorem dX11_sheet_1 : decode cX11_sheet 1 = .ok (.iload_n 2, 1) := by decide +kernel
theorem dX11_sheet_2 : decode cX11_sheet 2 = .ok (.invokestatic 381, 3) := by decide +kernel
theorem dX11_sheet_5 : decode cX11_sheet 5 = .ok (.ifCond .eq 9, 3) := by decide +kernel
theorem dX11_sheet_8 : decode cX11_sheet 8 = .ok (.iload_n 3, 1) := by decide +kernel
theorem dX11_sheet_9 : decode cX11_sheet 9 = .ok (.bipush 40, 2) := by decide +kernel
theorem dX11_sheet_11 : decode cX11_sheet 11 = .ok (.if_icmp .le 5, 3) := by decide +kernel
theorem dX11_sheet_14 : decode cX11_sheet 14 = .ok (.iconst (-1), 1) := by decide +kernel
theorem dX11_sheet_15 : decode cX11_sheet 15 = .ok (.ireturn, 1) := by decide +kernel
theorem dX11_sheet_16 : decode cX11_sheet 16 = .ok (.iload_n 3, 1) := by decide +kernel
theorem dX11_sheet_17 : decode cX11_sheet 17 = .ok (.ifCond .ge 6, 3) := by decide +kernel
theorem dX11_sheet_20 : decode cX11_sheet 20 = .ok (.bipush (-14), 2) := by decide +kernel
theorem dX11_sheet_22 : decode cX11_sheet 22 = .ok (.ireturn, 1) := by decide +kernel
theorem dX11_sheet_23 : decode cX11_sheet 23 = .ok (.aload_n 0, 1) := by decide +kernel
theorem dX11_sheet_24 : decode cX11_sheet 24 = .ok (.getfield 83, 3) := by decide +kernel
theorem dX11_sheet_27 : decode cX11_sheet 27 = .ok (.iload_n 1, 1) := by decide +kernel
theorem dX11_sheet_28 : decode cX11_sheet 28 = .ok (.iload_n 2, 1) := by decide +kernel
theorem dX11_sheet_29 : decode cX11_sheet 29 = .ok (.iastore, 1) := by decide +kernel
theorem dX11_sheet_30 : decode cX11_sheet 30 = .ok (.aload_n 0, 1) := by decide +kernel
theorem dX11_sheet_31 : decode cX11_sheet 31 = .ok (.getfield 86, 3) := by decide +kernel
theorem dX11_sheet_34 : decode cX11_sheet 34 = .ok (.iload_n 1, 1) := by decide +kernel
theorem dX11_sheet_35 : decode cX11_sheet 35 = .ok (.iload_n 3, 1) := by decide +kernel
theorem dX11_sheet_36 : decode cX11_sheet 36 = .ok (.iastore, 1) := by decide +kernel
theorem dX11_sheet_37 : decode cX11_sheet 37 = .ok (.iconst 0, 1) := by decide +kernel
theorem dX11_sheet_38 : decode cX11_sheet 38 = .ok (.istore 4, 2) := by decide +kernel
theorem dX11_sheet_40 : decode cX11_sheet 40 = .ok (.iload 4, 2) := by decide +kernel
theorem dX11_sheet_42 : decode cX11_sheet 42 = .ok (.bipush 40, 2) := by decide +kernel
theorem dX11_sheet_44 : decode cX11_sheet 44 = .ok (.if_icmp .ge 22, 3) := by decide +kernel
theorem dX11_sheet_47 : decode cX11_sheet 47 = .ok (.aload_n 0, 1) := by decide +kernel
theorem dX11_sheet_48 : decode cX11_sheet 48 = .ok (.getfield 89, 3) := by decide +kernel
theorem dX11_sheet_51 : decode cX11_sheet 51 = .ok (.bipush 40, 2) := by decide +kernel
theorem dX11_sheet_53 : decode cX11_sheet 53 = .ok (.iload_n 1, 1) := by decide +kernel
theorem dX11_sheet_54 : decode cX11_sheet 54 = .ok (.imul, 1) := by decide +kernel
theorem dX11_sheet_55 : decode cX11_sheet 55 = .ok (.iload 4, 2) := by decide +kernel
theorem dX11_sheet_57 : decode cX11_sheet 57 = .ok (.iadd, 1) := by decide +kernel
theorem dX11_sheet_58 : decode cX11_sheet 58 = .ok (.iconst 0, 1) := by decide +kernel
theorem dX11_sheet_59 : decode cX11_sheet 59 = .ok (.iastore, 1) := by decide +kernel
theorem dX11_sheet_60 : decode cX11_sheet 60 = .ok (.iinc 4 1, 3) := by decide +kernel
theorem dX11_sheet_63 : decode cX11_sheet 63 = .ok (.goto (-23), 3) := by decide +kernel
theorem dX11_sheet_66 : decode cX11_sheet 66 = .ok (.iconst 1, 1) := by decide +kernel
theorem dX11_sheet_67 : decode cX11_sheet 67 = .ok (.ireturn, 1) := by decide +kernel
theorem dX11_lay_0 : decode cX11_lay 0 = .ok (.iload_n 1, 1) := by decide +kernel
theorem dX11_lay_1 : decode cX11_lay 1 = .ok (.iconst 0, 1) := by decide +kernel
theorem dX11_lay_2 : decode cX11_lay 2 = .ok (.invokestatic 381, 3) := by decide +kernel
theorem dX11_lay_5 : decode cX11_lay 5 = .ok (.ifCond .ne 5, 3) := by decide +kernel
theorem dX11_lay_8 : decode cX11_lay 8 = .ok (.iconst (-1), 1) := by decide +kernel
theorem dX11_lay_9 : decode cX11_lay 9 = .ok (.ireturn, 1) := by decide +kernel
theorem dX11_lay_10 : decode cX11_lay 10 = .ok (.aload_n 0, 1) := by decide +kernel
theorem dX11_lay_11 : decode cX11_lay 11 = .ok (.getfield 83, 3) := by decide +kernel
theorem dX11_lay_14 : decode cX11_lay 14 = .ok (.iload_n 1, 1) := by decide +kernel
theorem dX11_lay_15 : decode cX11_lay 15 = .ok (.iaload, 1) := by decide +kernel
theorem dX11_lay_16 : decode cX11_lay 16 = .ok (.bipush (-4), 2) := by decide +kernel
theorem dX11_lay_18 : decode cX11_lay 18 = .ok (.if_icmp .ne 6, 3) := by decide +kernel
theorem dX11_lay_21 : decode cX11_lay 21 = .ok (.bipush (-11), 2) := by decide +kernel
theorem dX11_lay_23 : decode cX11_lay 23 = .ok (.ireturn, 1) := by decide +kernel
theorem dX11_measured_0 : decode cX11_measured 0 = .ok (.iload_n 1, 1) := by decide +kernel
theorem dX11_measured_1 : decode cX11_measured 1 = .ok (.iload_n 2, 1) := by decide +kernel
theorem dX11_measured_2 : decode cX11_measured 2 = .ok (.invokestatic 381, 3) := by decide +kernel
theorem dX11_measured_5 : decode cX11_measured 5 = .ok (.ifCond .eq 29, 3) := by decide +kernel
theorem dX11_measured_8 : decode cX11_measured 8 = .ok (.iload 4, 2) := by decide +kernel
theorem dX11_measured_10 : decode cX11_measured 10 = .ok (.i2l, 1) := by decide +kernel
theorem dX11_measured_11 : decode cX11_measured 11 = .ok (.lconst 0, 1) := by decide +kernel
theorem dX11_measured_12 : decode cX11_measured 12 = .ok (.ldc2_w 384, 3) := by decide +kernel
theorem dX11_measured_15 : decode cX11_measured 15 = .ok (.invokestatic 141, 3) := by decide +kernel
theorem dX11_measured_18 : decode cX11_measured 18 = .ok (.ifCond .eq 16, 3) := by decide +kernel
theorem dX11_measured_21 : decode cX11_measured 21 = .ok (.iload 5, 2) := by decide +kernel
theorem dX11_measured_23 : decode cX11_measured 23 = .ok (.i2l, 1) := by decide +kernel
theorem dX11_measured_24 : decode cX11_measured 24 = .ok (.lconst 0, 1) := by decide +kernel
theorem dX11_measured_25 : decode cX11_measured 25 = .ok (.ldc2_w 322, 3) := by decide +kernel
theorem dX11_measured_28 : decode cX11_measured 28 = .ok (.invokestatic 141, 3) := by decide +kernel
theorem dX11_measured_31 : decode cX11_measured 31 = .ok (.ifCond .ne 5, 3) := by decide +kernel
theorem dX11_measured_34 : decode cX11_measured 34 = .ok (.iconst (-1), 1) := by decide +kernel
theorem dX11_measured_35 : decode cX11_measured 35 = .ok (.ireturn, 1) := by decide +kernel
theorem dX11_measured_36 : decode cX11_measured 36 = .ok (.aload_n 0, 1) := by decide +kernel
theorem dX11_measured_37 : decode cX11_measured 37 = .ok (.getfield 83, 3) := by decide +kernel
theorem dX11_measured_40 : decode cX11_measured 40 = .ok (.iload_n 1, 1) := by decide +kernel
theorem dX11_measured_41 : decode cX11_measured 41 = .ok (.iaload, 1) := by decide +kernel
theorem dX11_measured_42 : decode cX11_measured 42 = .ok (.iload_n 2, 1) := by decide +kernel
theorem dX11_measured_43 : decode cX11_measured 43 = .ok (.if_icmp .eq 22, 3) := by decide +kernel
theorem dX11_measured_46 : decode cX11_measured 46 = .ok (.aload_n 0, 1) := by decide +kernel
theorem dX11_measured_47 : decode cX11_measured 47 = .ok (.getfield 83, 3) := by decide +kernel
theorem dX11_measured_50 : decode cX11_measured 50 = .ok (.iload_n 1, 1) := by decide +kernel
theorem dX11_measured_51 : decode cX11_measured 51 = .ok (.iaload, 1) := by decide +kernel
theorem dX11_measured_52 : decode cX11_measured 52 = .ok (.bipush (-4), 2) := by decide +kernel
theorem dX11_measured_54 : decode cX11_measured 54 = .ok (.if_icmp .ne 8, 3) := by decide +kernel
theorem dX11_measured_57 : decode cX11_measured 57 = .ok (.bipush (-11), 2) := by decide +kernel
theorem dX11_measured_59 : decode cX11_measured 59 = .ok (.goto 5, 3) := by decide +kernel
theorem dX11_measured_64 : decode cX11_measured 64 = .ok (.ireturn, 1) := by decide +kernel
theorem dX11_count_0 : decode cX11_count 0 = .ok (.iload_n 1, 1) := by decide +kernel
theorem dX11_count_1 : decode cX11_count 1 = .ok (.tableswitch 105 0 5 #[39, 44, 52, 57, 77, 82], 39) := by decide +kernel
theorem dX11_count_40 : decode cX11_count 40 = .ok (.aload_n 0, 1) := by decide +kernel
theorem dX11_count_41 : decode cX11_count 41 = .ok (.getfield 121, 3) := by decide +kernel
theorem dX11_count_44 : decode cX11_count 44 = .ok (.ireturn, 1) := by decide +kernel
theorem dX11_count_45 : decode cX11_count 45 = .ok (.aload_n 0, 1) := by decide +kernel
theorem dX11_count_46 : decode cX11_count 46 = .ok (.invokevirtual 324, 3) := by decide +kernel
theorem dX11_count_49 : decode cX11_count 49 = .ok (.invokestatic 378, 3) := by decide +kernel
theorem dX11_count_52 : decode cX11_count 52 = .ok (.ireturn, 1) := by decide +kernel
theorem dX11_count_53 : decode cX11_count 53 = .ok (.aload_n 0, 1) := by decide +kernel
theorem dX11_count_54 : decode cX11_count 54 = .ok (.getfield 288, 3) := by decide +kernel
theorem dX11_count_57 : decode cX11_count 57 = .ok (.ireturn, 1) := by decide +kernel
theorem dX11_count_58 : decode cX11_count 58 = .ok (.aload_n 0, 1) := by decide +kernel
theorem dX11_count_59 : decode cX11_count 59 = .ok (.invokevirtual 343, 3) := by decide +kernel
theorem dX11_count_62 : decode cX11_count 62 = .ok (.sipush 20000, 3) := by decide +kernel
theorem dX11_count_65 : decode cX11_count 65 = .ok (.if_icmp .le 8, 3) := by decide +kernel
theorem dX11_count_73 : decode cX11_count 73 = .ok (.aload_n 0, 1) := by decide +kernel
theorem dX11_count_74 : decode cX11_count 74 = .ok (.invokevirtual 343, 3) := by decide +kernel
theorem dX11_count_77 : decode cX11_count 77 = .ok (.ireturn, 1) := by decide +kernel
theorem dX11_count_78 : decode cX11_count 78 = .ok (.aload_n 0, 1) := by decide +kernel
theorem dX11_count_79 : decode cX11_count 79 = .ok (.getfield 136, 3) := by decide +kernel
theorem dX11_count_82 : decode cX11_count 82 = .ok (.ireturn, 1) := by decide +kernel
theorem dX11_count_83 : decode cX11_count 83 = .ok (.aload_n 0, 1) := by decide +kernel
theorem dX11_count_84 : decode cX11_count 84 = .ok (.getfield 83, 3) := by decide +kernel
theorem dX11_count_87 : decode cX11_count 87 = .ok (.iconst 0, 1) := by decide +kernel
theorem dX11_count_88 : decode cX11_count 88 = .ok (.iaload, 1) := by decide +kernel
theorem dX11_count_89 : decode cX11_count 89 = .ok (.bipush (-4), 2) := by decide +kernel
theorem dX11_count_91 : decode cX11_count 91 = .ok (.if_icmp .ne 8, 3) := by decide +kernel
theorem dX11_count_94 : decode cX11_count 94 = .ok (.bipush (-4), 2) := by decide +kernel
theorem dX11_count_96 : decode cX11_count 96 = .ok (.goto 9, 3) := by decide +kernel
theorem dX11_count_105 : decode cX11_count 105 = .ok (.ireturn, 1) := by decide +kernel
theorem dX11_count_106 : decode cX11_count 106 = .ok (.iconst (-1), 1) := by decide +kernel
theorem dX11_count_107 : decode cX11_count 107 = .ok (.ireturn, 1) := by decide +kernel
theorem dJ6_bitCount_0f7a4_0 : decode cJ6_bitCount_0f7a4 0 = .ok (.iload_n 0, 1) := by decide +kernel
theorem dJ6_bitCount_0f7a4_1 : decode cJ6_bitCount_0f7a4 1 = .ok (.iload_n 0, 1) := by decide +kernel
theorem dJ6_bitCount_0f7a4_2 : decode cJ6_bitCount_0f7a4 2 = .ok (.iconst 1, 1) := by decide +kernel
theorem dJ6_bitCount_0f7a4_3 : decode cJ6_bitCount_0f7a4 3 = .ok (.iushr, 1) := by decide +kernel
theorem dJ6_bitCount_0f7a4_4 : decode cJ6_bitCount_0f7a4 4 = .ok (.ldc_w 265, 3) := by decide +kernel
theorem dJ6_bitCount_0f7a4_7 : decode cJ6_bitCount_0f7a4 7 = .ok (.iand, 1) := by decide +kernel
theorem dJ6_bitCount_0f7a4_8 : decode cJ6_bitCount_0f7a4 8 = .ok (.isub, 1) := by decide +kernel
theorem dJ6_bitCount_0f7a4_9 : decode cJ6_bitCount_0f7a4 9 = .ok (.istore_n 0, 1) := by decide +kernel
theorem dJ6_bitCount_0f7a4_10 : decode cJ6_bitCount_0f7a4 10 = .ok (.iload_n 0, 1) := by decide +kernel
theorem dJ6_bitCount_0f7a4_11 : decode cJ6_bitCount_0f7a4 11 = .ok (.ldc_w 266, 3) := by decide +kernel
theorem dJ6_bitCount_0f7a4_14 : decode cJ6_bitCount_0f7a4 14 = .ok (.iand, 1) := by decide +kernel
theorem dJ6_bitCount_0f7a4_15 : decode cJ6_bitCount_0f7a4 15 = .ok (.iload_n 0, 1) := by decide +kernel
theorem dJ6_bitCount_0f7a4_16 : decode cJ6_bitCount_0f7a4 16 = .ok (.iconst 2, 1) := by decide +kernel
theorem dJ6_bitCount_0f7a4_17 : decode cJ6_bitCount_0f7a4 17 = .ok (.iushr, 1) := by decide +kernel
theorem dJ6_bitCount_0f7a4_18 : decode cJ6_bitCount_0f7a4 18 = .ok (.ldc_w 266, 3) := by decide +kernel
theorem dJ6_bitCount_0f7a4_21 : decode cJ6_bitCount_0f7a4 21 = .ok (.iand, 1) := by decide +kernel
theorem dJ6_bitCount_0f7a4_22 : decode cJ6_bitCount_0f7a4 22 = .ok (.iadd, 1) := by decide +kernel
theorem dJ6_bitCount_0f7a4_23 : decode cJ6_bitCount_0f7a4 23 = .ok (.istore_n 0, 1) := by decide +kernel
theorem dJ6_bitCount_0f7a4_24 : decode cJ6_bitCount_0f7a4 24 = .ok (.iload_n 0, 1) := by decide +kernel
theorem dJ6_bitCount_0f7a4_25 : decode cJ6_bitCount_0f7a4 25 = .ok (.iload_n 0, 1) := by decide +kernel
theorem dJ6_bitCount_0f7a4_26 : decode cJ6_bitCount_0f7a4 26 = .ok (.iconst 4, 1) := by decide +kernel
theorem dJ6_bitCount_0f7a4_27 : decode cJ6_bitCount_0f7a4 27 = .ok (.iushr, 1) := by decide +kernel
theorem dJ6_bitCount_0f7a4_28 : decode cJ6_bitCount_0f7a4 28 = .ok (.iadd, 1) := by decide +kernel
theorem dJ6_bitCount_0f7a4_29 : decode cJ6_bitCount_0f7a4 29 = .ok (.ldc_w 267, 3) := by decide +kernel
theorem dJ6_bitCount_0f7a4_32 : decode cJ6_bitCount_0f7a4 32 = .ok (.iand, 1) := by decide +kernel
theorem dJ6_bitCount_0f7a4_33 : decode cJ6_bitCount_0f7a4 33 = .ok (.istore_n 0, 1) := by decide +kernel
theorem dJ6_bitCount_0f7a4_34 : decode cJ6_bitCount_0f7a4 34 = .ok (.iload_n 0, 1) := by decide +kernel
theorem dJ6_bitCount_0f7a4_35 : decode cJ6_bitCount_0f7a4 35 = .ok (.iload_n 0, 1) := by decide +kernel
theorem dJ6_bitCount_0f7a4_36 : decode cJ6_bitCount_0f7a4 36 = .ok (.bipush 8, 2) := by decide +kernel
theorem dJ6_bitCount_0f7a4_38 : decode cJ6_bitCount_0f7a4 38 = .ok (.iushr, 1) := by decide +kernel
theorem dJ6_bitCount_0f7a4_39 : decode cJ6_bitCount_0f7a4 39 = .ok (.iadd, 1) := by decide +kernel
theorem dJ6_bitCount_0f7a4_40 : decode cJ6_bitCount_0f7a4 40 = .ok (.istore_n 0, 1) := by decide +kernel
theorem dJ6_bitCount_0f7a4_41 : decode cJ6_bitCount_0f7a4 41 = .ok (.iload_n 0, 1) := by decide +kernel
theorem dJ6_bitCount_0f7a4_42 : decode cJ6_bitCount_0f7a4 42 = .ok (.iload_n 0, 1) := by decide +kernel
theorem dJ6_bitCount_0f7a4_43 : decode cJ6_bitCount_0f7a4 43 = .ok (.bipush 16, 2) := by decide +kernel
theorem dJ6_bitCount_0f7a4_45 : decode cJ6_bitCount_0f7a4 45 = .ok (.iushr, 1) := by decide +kernel
theorem dJ6_bitCount_0f7a4_46 : decode cJ6_bitCount_0f7a4 46 = .ok (.iadd, 1) := by decide +kernel
theorem dJ6_bitCount_0f7a4_47 : decode cJ6_bitCount_0f7a4 47 = .ok (.istore_n 0, 1) := by decide +kernel
theorem dJ6_bitCount_0f7a4_48 : decode cJ6_bitCount_0f7a4 48 = .ok (.iload_n 0, 1) := by decide +kernel
theorem dJ6_bitCount_0f7a4_49 : decode cJ6_bitCount_0f7a4 49 = .ok (.bipush 63, 2) := by decide +kernel
theorem dJ6_bitCount_0f7a4_51 : decode cJ6_bitCount_0f7a4 51 = .ok (.iand, 1) := by decide +kernel
theorem dJ6_bitCount_0f7a4_52 : decode cJ6_bitCount_0f7a4 52 = .ok (.ireturn, 1) := by decide +kernel
theorem dJ7_fill_d0a16_0 : decode cJ7_fill_d0a16 0 = .ok (.iconst 0, 1) := by decide +kernel
theorem dJ7_fill_d0a16_1 : decode cJ7_fill_d0a16 1 = .ok (.istore_n 3, 1) := by decide +kernel
theorem dJ7_fill_d0a16_2 : decode cJ7_fill_d0a16 2 = .ok (.aload_n 0, 1) := by decide +kernel
theorem dJ7_fill_d0a16_3 : decode cJ7_fill_d0a16 3 = .ok (.arraylength, 1) := by decide +kernel
theorem dJ7_fill_d0a16_4 : decode cJ7_fill_d0a16 4 = .ok (.istore 4, 2) := by decide +kernel
theorem dJ7_fill_d0a16_6 : decode cJ7_fill_d0a16 6 = .ok (.iload_n 3, 1) := by decide +kernel
theorem dJ7_fill_d0a16_7 : decode cJ7_fill_d0a16 7 = .ok (.iload 4, 2) := by decide +kernel
theorem dJ7_fill_d0a16_9 : decode cJ7_fill_d0a16 9 = .ok (.if_icmp .ge 13, 3) := by decide +kernel
theorem dJ7_fill_d0a16_12 : decode cJ7_fill_d0a16 12 = .ok (.aload_n 0, 1) := by decide +kernel
theorem dJ7_fill_d0a16_13 : decode cJ7_fill_d0a16 13 = .ok (.iload_n 3, 1) := by decide +kernel
theorem dJ7_fill_d0a16_14 : decode cJ7_fill_d0a16 14 = .ok (.lload_n 1, 1) := by decide +kernel
theorem dJ7_fill_d0a16_15 : decode cJ7_fill_d0a16 15 = .ok (.lastore, 1) := by decide +kernel
theorem dJ7_fill_d0a16_16 : decode cJ7_fill_d0a16 16 = .ok (.iinc 3 1, 3) := by decide +kernel
theorem dJ7_fill_d0a16_19 : decode cJ7_fill_d0a16 19 = .ok (.goto (-13), 3) := by decide +kernel
theorem dJ7_fill_d0a16_22 : decode cJ7_fill_d0a16 22 = .ok (.return_, 1) := by decide +kernel
theorem dJ7_fill_53178_0 : decode cJ7_fill_53178 0 = .ok (.iconst 0, 1) := by decide +kernel
theorem dJ7_fill_53178_1 : decode cJ7_fill_53178 1 = .ok (.istore_n 2, 1) := by decide +kernel
theorem dJ7_fill_53178_2 : decode cJ7_fill_53178 2 = .ok (.aload_n 0, 1) := by decide +kernel
theorem dJ7_fill_53178_3 : decode cJ7_fill_53178 3 = .ok (.arraylength, 1) := by decide +kernel
theorem dJ7_fill_53178_4 : decode cJ7_fill_53178 4 = .ok (.istore_n 3, 1) := by decide +kernel
theorem dJ7_fill_53178_5 : decode cJ7_fill_53178 5 = .ok (.iload_n 2, 1) := by decide +kernel
theorem dJ7_fill_53178_6 : decode cJ7_fill_53178 6 = .ok (.iload_n 3, 1) := by decide +kernel
theorem dJ7_fill_53178_7 : decode cJ7_fill_53178 7 = .ok (.if_icmp .ge 13, 3) := by decide +kernel
theorem dJ7_fill_53178_10 : decode cJ7_fill_53178 10 = .ok (.aload_n 0, 1) := by decide +kernel
theorem dJ7_fill_53178_11 : decode cJ7_fill_53178 11 = .ok (.iload_n 2, 1) := by decide +kernel
theorem dJ7_fill_53178_12 : decode cJ7_fill_53178 12 = .ok (.iload_n 1, 1) := by decide +kernel
theorem dJ7_fill_53178_13 : decode cJ7_fill_53178 13 = .ok (.iastore, 1) := by decide +kernel
theorem dJ7_fill_53178_14 : decode cJ7_fill_53178 14 = .ok (.iinc 2 1, 3) := by decide +kernel
theorem dJ7_fill_53178_17 : decode cJ7_fill_53178 17 = .ok (.goto (-12), 3) := by decide +kernel
theorem dJ7_fill_53178_20 : decode cJ7_fill_53178 20 = .ok (.return_, 1) := by decide +kernel
theorem dL_law_0 : decode cL_law 0 = .ok (.new 7, 3) := by decide +kernel
theorem dL_law_3 : decode cL_law 3 = .ok (.dup, 1) := by decide +kernel
theorem dL_law_4 : decode cL_law 4 = .ok (.invokespecial 9, 3) := by decide +kernel
theorem dL_law_7 : decode cL_law 7 = .ok (.astore_n 1, 1) := by decide +kernel
theorem dL_law_8 : decode cL_law 8 = .ok (.new 10, 3) := by decide +kernel
theorem dL_law_11 : decode cL_law 11 = .ok (.dup, 1) := by decide +kernel
theorem dL_law_12 : decode cL_law 12 = .ok (.invokespecial 12, 3) := by decide +kernel
theorem dL_law_15 : decode cL_law 15 = .ok (.astore_n 2, 1) := by decide +kernel
theorem dL_law_16 : decode cL_law 16 = .ok (.iconst 0, 1) := by decide +kernel
theorem dL_law_17 : decode cL_law 17 = .ok (.istore_n 3, 1) := by decide +kernel
theorem dL_law_18 : decode cL_law 18 = .ok (.iload_n 3, 1) := by decide +kernel
theorem dL_law_19 : decode cL_law 19 = .ok (.aload_n 0, 1) := by decide +kernel
theorem dL_law_20 : decode cL_law 20 = .ok (.arraylength, 1) := by decide +kernel
theorem dL_law_21 : decode cL_law 21 = .ok (.bipush 6, 2) := by decide +kernel
theorem dL_law_23 : decode cL_law 23 = .ok (.isub, 1) := by decide +kernel
theorem dL_law_24 : decode cL_law 24 = .ok (.if_icmp .gt 1099, 3) := by decide +kernel
theorem dL_law_27 : decode cL_law 27 = .ok (.aload_n 0, 1) := by decide +kernel
theorem dL_law_28 : decode cL_law 28 = .ok (.iload_n 3, 1) := by decide +kernel
theorem dL_law_29 : decode cL_law 29 = .ok (.iaload, 1) := by decide +kernel
theorem dL_law_30 : decode cL_law 30 = .ok (.bipush 31, 2) := by decide +kernel
theorem dL_law_32 : decode cL_law 32 = .ok (.iand, 1) := by decide +kernel
theorem dL_law_33 : decode cL_law 33 = .ok (.tableswitch 1084 0 30 #[139, 192, 215, 228, 241, 274, 297, 330, 363, 402, 451, 484, 507, 530, 563, 596, 619, 652, 695, 718, 741, 764, 777, 800, 833, 866, 889, 912, 955, 998, 1061], 139) := by decide +kernel
theorem dL_law_172 : decode cL_law 172 = .ok (.aload_n 1, 1) := by decide +kernel
theorem dL_law_173 : decode cL_law 173 = .ok (.aload_n 0, 1) := by decide +kernel
theorem dL_law_174 : decode cL_law 174 = .ok (.iload_n 3, 1) := by decide +kernel
theorem dL_law_175 : decode cL_law 175 = .ok (.iconst 1, 1) := by decide +kernel
theorem dL_law_176 : decode cL_law 176 = .ok (.iadd, 1) := by decide +kernel
theorem dL_law_177 : decode cL_law 177 = .ok (.iaload, 1) := by decide +kernel
theorem dL_law_178 : decode cL_law 178 = .ok (.i2l, 1) := by decide +kernel
theorem dL_law_179 : decode cL_law 179 = .ok (.bipush 32, 2) := by decide +kernel
theorem dL_law_181 : decode cL_law 181 = .ok (.lshl, 1) := by decide +kernel
theorem dL_law_182 : decode cL_law 182 = .ok (.aload_n 0, 1) := by decide +kernel
theorem dL_law_183 : decode cL_law 183 = .ok (.iload_n 3, 1) := by decide +kernel
theorem dL_law_184 : decode cL_law 184 = .ok (.iconst 2, 1) := by decide +kernel
theorem dL_law_185 : decode cL_law 185 = .ok (.iadd, 1) := by decide +kernel
theorem dL_law_186 : decode cL_law 186 = .ok (.iaload, 1) := by decide +kernel
theorem dL_law_187 : decode cL_law 187 = .ok (.i2l, 1) := by decide +kernel
theorem dL_law_188 : decode cL_law 188 = .ok (.ldc2_w 13, 3) := by decide +kernel
theorem dL_law_191 : decode cL_law 191 = .ok (.land, 1) := by decide +kernel
theorem dL_law_192 : decode cL_law 192 = .ok (.lor, 1) := by decide +kernel
theorem dL_law_193 : decode cL_law 193 = .ok (.invokevirtual 15, 3) := by decide +kernel
theorem dL_law_196 : decode cL_law 196 = .ok (.aload_n 2, 1) := by decide +kernel
theorem dL_law_197 : decode cL_law 197 = .ok (.aload_n 0, 1) := by decide +kernel
theorem dL_law_198 : decode cL_law 198 = .ok (.iload_n 3, 1) := by decide +kernel
theorem dL_law_199 : decode cL_law 199 = .ok (.iconst 1, 1) := by decide +kernel
theorem dL_law_200 : decode cL_law 200 = .ok (.iadd, 1) := by decide +kernel
theorem dL_law_201 : decode cL_law 201 = .ok (.iaload, 1) := by decide +kernel
theorem dL_law_202 : decode cL_law 202 = .ok (.i2l, 1) := by decide +kernel
theorem dL_law_203 : decode cL_law 203 = .ok (.bipush 32, 2) := by decide +kernel
theorem dL_law_205 : decode cL_law 205 = .ok (.lshl, 1) := by decide +kernel
theorem dL_law_206 : decode cL_law 206 = .ok (.aload_n 0, 1) := by decide +kernel
theorem dL_law_207 : decode cL_law 207 = .ok (.iload_n 3, 1) := by decide +kernel
theorem dL_law_208 : decode cL_law 208 = .ok (.iconst 2, 1) := by decide +kernel
theorem dL_law_209 : decode cL_law 209 = .ok (.iadd, 1) := by decide +kernel
theorem dL_law_210 : decode cL_law 210 = .ok (.iaload, 1) := by decide +kernel
theorem dL_law_211 : decode cL_law 211 = .ok (.i2l, 1) := by decide +kernel
theorem dL_law_212 : decode cL_law 212 = .ok (.ldc2_w 13, 3) := by decide +kernel
theorem dL_law_215 : decode cL_law 215 = .ok (.land, 1) := by decide +kernel
theorem dL_law_216 : decode cL_law 216 = .ok (.lor, 1) := by decide +kernel
theorem dL_law_217 : decode cL_law 217 = .ok (.invokevirtual 19, 3) := by decide +kernel
theorem dL_law_220 : decode cL_law 220 = .ok (.if_icmp .eq 897, 3) := by decide +kernel
theorem dL_law_225 : decode cL_law 225 = .ok (.aload_n 1, 1) := by decide +kernel
theorem dL_law_226 : decode cL_law 226 = .ok (.aload_n 0, 1) := by decide +kernel
theorem dL_law_227 : decode cL_law 227 = .ok (.iload_n 3, 1) := by decide +kernel
theorem dL_law_228 : decode cL_law 228 = .ok (.iconst 1, 1) := by decide +kernel
theorem dL_law_229 : decode cL_law 229 = .ok (.iadd, 1) := by decide +kernel
theorem dL_law_230 : decode cL_law 230 = .ok (.iaload, 1) := by decide +kernel
theorem dL_law_231 : decode cL_law 231 = .ok (.invokevirtual 20, 3) := by decide +kernel
theorem dL_law_234 : decode cL_law 234 = .ok (.aload_n 2, 1) := by decide +kernel
theorem dL_law_235 : decode cL_law 235 = .ok (.aload_n 0, 1) := by decide +kernel
theorem dL_law_236 : decode cL_law 236 = .ok (.iload_n 3, 1) := by decide +kernel
theorem dL_law_237 : decode cL_law 237 = .ok (.iconst 1, 1) := by decide +kernel
theorem dL_law_238 : decode cL_law 238 = .ok (.iadd, 1) := by decide +kernel
theorem dL_law_239 : decode cL_law 239 = .ok (.iaload, 1) := by decide +kernel
theorem dL_law_240 : decode cL_law 240 = .ok (.invokevirtual 24, 3) := by decide +kernel
theorem dL_law_243 : decode cL_law 243 = .ok (.if_icmp .eq 874, 3) := by decide +kernel
theorem dL_law_248 : decode cL_law 248 = .ok (.aload_n 1, 1) := by decide +kernel
theorem dL_law_249 : decode cL_law 249 = .ok (.invokevirtual 25, 3) := by decide +kernel
theorem dL_law_252 : decode cL_law 252 = .ok (.aload_n 2, 1) := by decide +kernel
theorem dL_law_253 : decode cL_law 253 = .ok (.invokevirtual 29, 3) := by decide +kernel
theorem dL_law_256 : decode cL_law 256 = .ok (.if_icmp .eq 861, 3) := by decide +kernel
theorem dL_law_261 : decode cL_law 261 = .ok (.aload_n 1, 1) := by decide +kernel
theorem dL_law_262 : decode cL_law 262 = .ok (.invokevirtual 30, 3) := by decide +kernel
theorem dL_law_265 : decode cL_law 265 = .ok (.aload_n 2, 1) := by decide +kernel
theorem dL_law_266 : decode cL_law 266 = .ok (.invokevirtual 33, 3) := by decide +kernel
theorem dL_law_269 : decode cL_law 269 = .ok (.if_icmp .eq 848, 3) := by decide +kernel
theorem dL_law_274 : decode cL_law 274 = .ok (.aload_n 1, 1) := by decide +kernel
theorem dL_law_275 : decode cL_law 275 = .ok (.aload_n 0, 1) := by decide +kernel
theorem dL_law_276 : decode cL_law 276 = .ok (.iload_n 3, 1) := by decide +kernel
theorem dL_law_277 : decode cL_law 277 = .ok (.iconst 1, 1) := by decide +kernel
theorem dL_law_278 : decode cL_law 278 = .ok (.iadd, 1) := by decide +kernel
theorem dL_law_279 : decode cL_law 279 = .ok (.iaload, 1) := by decide +kernel
theorem dL_law_280 : decode cL_law 280 = .ok (.aload_n 0, 1) := by decide +kernel
theorem dL_law_281 : decode cL_law 281 = .ok (.iload_n 3, 1) := by decide +kernel
theorem dL_law_282 : decode cL_law 282 = .ok (.iconst 2, 1) := by decide +kernel
theorem dL_law_283 : decode cL_law 283 = .ok (.iadd, 1) := by decide +kernel
theorem dL_law_284 : decode cL_law 284 = .ok (.iaload, 1) := by decide +kernel
theorem dL_law_285 : decode cL_law 285 = .ok (.invokevirtual 34, 3) := by decide +kernel
theorem dL_law_288 : decode cL_law 288 = .ok (.aload_n 2, 1) := by decide +kernel
theorem dL_law_289 : decode cL_law 289 = .ok (.aload_n 0, 1) := by decide +kernel
theorem dL_law_290 : decode cL_law 290 = .ok (.iload_n 3, 1) := by decide +kernel
theorem dL_law_291 : decode cL_law 291 = .ok (.iconst 1, 1) := by decide +kernel
theorem dL_law_292 : decode cL_law 292 = .ok (.iadd, 1) := by decide +kernel
theorem dL_law_293 : decode cL_law 293 = .ok (.iaload, 1) := by decide +kernel
theorem dL_law_294 : decode cL_law 294 = .ok (.aload_n 0, 1) := by decide +kernel
theorem dL_law_295 : decode cL_law 295 = .ok (.iload_n 3, 1) := by decide +kernel
theorem dL_law_296 : decode cL_law 296 = .ok (.iconst 2, 1) := by decide +kernel
theorem dL_law_297 : decode cL_law 297 = .ok (.iadd, 1) := by decide +kernel
theorem dL_law_298 : decode cL_law 298 = .ok (.iaload, 1) := by decide +kernel
theorem dL_law_299 : decode cL_law 299 = .ok (.invokevirtual 38, 3) := by decide +kernel
theorem dL_law_302 : decode cL_law 302 = .ok (.if_icmp .eq 815, 3) := by decide +kernel
theorem dL_law_307 : decode cL_law 307 = .ok (.aload_n 1, 1) := by decide +kernel
theorem dL_law_308 : decode cL_law 308 = .ok (.aload_n 0, 1) := by decide +kernel
theorem dL_law_309 : decode cL_law 309 = .ok (.iload_n 3, 1) := by decide +kernel
theorem dL_law_310 : decode cL_law 310 = .ok (.iconst 1, 1) := by decide +kernel
theorem dL_law_311 : decode cL_law 311 = .ok (.iadd, 1) := by decide +kernel
theorem dL_law_312 : decode cL_law 312 = .ok (.iaload, 1) := by decide +kernel
theorem dL_law_313 : decode cL_law 313 = .ok (.invokevirtual 39, 3) := by decide +kernel
theorem dL_law_316 : decode cL_law 316 = .ok (.aload_n 2, 1) := by decide +kernel
theorem dL_law_317 : decode cL_law 317 = .ok (.aload_n 0, 1) := by decide +kernel
theorem dL_law_318 : decode cL_law 318 = .ok (.iload_n 3, 1) := by decide +kernel
theorem dL_law_319 : decode cL_law 319 = .ok (.iconst 1, 1) := by decide +kernel
theorem dL_law_320 : decode cL_law 320 = .ok (.iadd, 1) := by decide +kernel
theorem dL_law_321 : decode cL_law 321 = .ok (.iaload, 1) := by decide +kernel
theorem dL_law_322 : decode cL_law 322 = .ok (.invokevirtual 42, 3) := by decide +kernel
theorem dL_law_325 : decode cL_law 325 = .ok (.if_icmp .eq 792, 3) := by decide +kernel
theorem dL_law_330 : decode cL_law 330 = .ok (.aload_n 1, 1) := by decide +kernel
theorem dL_law_331 : decode cL_law 331 = .ok (.aload_n 0, 1) := by decide +kernel
theorem dL_law_332 : decode cL_law 332 = .ok (.iload_n 3, 1) := by decide +kernel
theorem dL_law_333 : decode cL_law 333 = .ok (.iconst 1, 1) := by decide +kernel
theorem dL_law_334 : decode cL_law 334 = .ok (.iadd, 1) := by decide +kernel
theorem dL_law_335 : decode cL_law 335 = .ok (.iaload, 1) := by decide +kernel
theorem dL_law_336 : decode cL_law 336 = .ok (.aload_n 0, 1) := by decide +kernel
theorem dL_law_337 : decode cL_law 337 = .ok (.iload_n 3, 1) := by decide +kernel
theorem dL_law_338 : decode cL_law 338 = .ok (.iconst 2, 1) := by decide +kernel
theorem dL_law_339 : decode cL_law 339 = .ok (.iadd, 1) := by decide +kernel
theorem dL_law_340 : decode cL_law 340 = .ok (.iaload, 1) := by decide +kernel
theorem dL_law_341 : decode cL_law 341 = .ok (.invokevirtual 43, 3) := by decide +kernel
theorem dL_law_344 : decode cL_law 344 = .ok (.aload_n 2, 1) := by decide +kernel
theorem dL_law_345 : decode cL_law 345 = .ok (.aload_n 0, 1) := by decide +kernel
theorem dL_law_346 : decode cL_law 346 = .ok (.iload_n 3, 1) := by decide +kernel
theorem dL_law_347 : decode cL_law 347 = .ok (.iconst 1, 1) := by decide +kernel
theorem dL_law_348 : decode cL_law 348 = .ok (.iadd, 1) := by decide +kernel
theorem dL_law_349 : decode cL_law 349 = .ok (.iaload, 1) := by decide +kernel
theorem dL_law_350 : decode cL_law 350 = .ok (.aload_n 0, 1) := by decide +kernel
theorem dL_law_351 : decode cL_law 351 = .ok (.iload_n 3, 1) := by decide +kernel
theorem dL_law_352 : decode cL_law 352 = .ok (.iconst 2, 1) := by decide +kernel
theorem dL_law_353 : decode cL_law 353 = .ok (.iadd, 1) := by decide +kernel
theorem dL_law_354 : decode cL_law 354 = .ok (.iaload, 1) := by decide +kernel
theorem dL_law_355 : decode cL_law 355 = .ok (.invokevirtual 46, 3) := by decide +kernel
theorem dL_law_358 : decode cL_law 358 = .ok (.if_icmp .eq 759, 3) := by decide +kernel
theorem dL_law_363 : decode cL_law 363 = .ok (.aload_n 1, 1) := by decide +kernel
theorem dL_law_364 : decode cL_law 364 = .ok (.aload_n 0, 1) := by decide +kernel
theorem dL_law_365 : decode cL_law 365 = .ok (.iload_n 3, 1) := by decide +kernel
theorem dL_law_366 : decode cL_law 366 = .ok (.iconst 1, 1) := by decide +kernel
theorem dL_law_367 : decode cL_law 367 = .ok (.iadd, 1) := by decide +kernel
theorem dL_law_368 : decode cL_law 368 = .ok (.iaload, 1) := by decide +kernel
theorem dL_law_369 : decode cL_law 369 = .ok (.aload_n 0, 1) := by decide +kernel
theorem dL_law_370 : decode cL_law 370 = .ok (.iload_n 3, 1) := by decide +kernel
theorem dL_law_371 : decode cL_law 371 = .ok (.iconst 2, 1) := by decide +kernel
theorem dL_law_372 : decode cL_law 372 = .ok (.iadd, 1) := by decide +kernel
theorem dL_law_373 : decode cL_law 373 = .ok (.iaload, 1) := by decide +kernel
theorem dL_law_374 : decode cL_law 374 = .ok (.invokevirtual 47, 3) := by decide +kernel
theorem dL_law_377 : decode cL_law 377 = .ok (.aload_n 2, 1) := by decide +kernel
theorem dL_law_378 : decode cL_law 378 = .ok (.aload_n 0, 1) := by decide +kernel
theorem dL_law_379 : decode cL_law 379 = .ok (.iload_n 3, 1) := by decide +kernel
theorem dL_law_380 : decode cL_law 380 = .ok (.iconst 1, 1) := by decide +kernel
theorem dL_law_381 : decode cL_law 381 = .ok (.iadd, 1) := by decide +kernel
theorem dL_law_382 : decode cL_law 382 = .ok (.iaload, 1) := by decide +kernel
theorem dL_law_383 : decode cL_law 383 = .ok (.aload_n 0, 1) := by decide +kernel
theorem dL_law_384 : decode cL_law 384 = .ok (.iload_n 3, 1) := by decide +kernel
theorem dL_law_385 : decode cL_law 385 = .ok (.iconst 2, 1) := by decide +kernel
theorem dL_law_386 : decode cL_law 386 = .ok (.iadd, 1) := by decide +kernel
theorem dL_law_387 : decode cL_law 387 = .ok (.iaload, 1) := by decide +kernel
theorem dL_law_388 : decode cL_law 388 = .ok (.invokevirtual 50, 3) := by decide +kernel
theorem dL_law_391 : decode cL_law 391 = .ok (.if_icmp .eq 726, 3) := by decide +kernel
theorem dL_law_396 : decode cL_law 396 = .ok (.aload_n 1, 1) := by decide +kernel
theorem dL_law_397 : decode cL_law 397 = .ok (.aload_n 0, 1) := by decide +kernel
theorem dL_law_398 : decode cL_law 398 = .ok (.iload_n 3, 1) := by decide +kernel
theorem dL_law_399 : decode cL_law 399 = .ok (.iconst 1, 1) := by decide +kernel
theorem dL_law_400 : decode cL_law 400 = .ok (.iadd, 1) := by decide +kernel
theorem dL_law_401 : decode cL_law 401 = .ok (.iaload, 1) := by decide +kernel
theorem dL_law_402 : decode cL_law 402 = .ok (.ifCond .eq 7, 3) := by decide +kernel
theorem dL_law_405 : decode cL_law 405 = .ok (.iconst 1, 1) := by decide +kernel
theorem dL_law_406 : decode cL_law 406 = .ok (.goto 4, 3) := by decide +kernel
theorem dL_law_409 : decode cL_law 409 = .ok (.iconst 0, 1) := by decide +kernel
theorem dL_law_410 : decode cL_law 410 = .ok (.invokevirtual 51, 3) := by decide +kernel
theorem dL_law_413 : decode cL_law 413 = .ok (.aload_n 2, 1) := by decide +kernel
theorem dL_law_414 : decode cL_law 414 = .ok (.aload_n 0, 1) := by decide +kernel
theorem dL_law_415 : decode cL_law 415 = .ok (.iload_n 3, 1) := by decide +kernel
theorem dL_law_416 : decode cL_law 416 = .ok (.iconst 1, 1) := by decide +kernel
theorem dL_law_417 : decode cL_law 417 = .ok (.iadd, 1) := by decide +kernel
theorem dL_law_418 : decode cL_law 418 = .ok (.iaload, 1) := by decide +kernel
theorem dL_law_419 : decode cL_law 419 = .ok (.ifCond .eq 7, 3) := by decide +kernel
theorem dL_law_422 : decode cL_law 422 = .ok (.iconst 1, 1) := by decide +kernel
theorem dL_law_423 : decode cL_law 423 = .ok (.goto 4, 3) := by decide +kernel
theorem dL_law_426 : decode cL_law 426 = .ok (.iconst 0, 1) := by decide +kernel
theorem dL_law_427 : decode cL_law 427 = .ok (.invokevirtual 55, 3) := by decide +kernel
theorem dL_law_430 : decode cL_law 430 = .ok (.if_icmp .eq 687, 3) := by decide +kernel
theorem dL_law_435 : decode cL_law 435 = .ok (.aload_n 1, 1) := by decide +kernel
theorem dL_law_436 : decode cL_law 436 = .ok (.aload_n 0, 1) := by decide +kernel
theorem dL_law_437 : decode cL_law 437 = .ok (.iload_n 3, 1) := by decide +kernel
theorem dL_law_438 : decode cL_law 438 = .ok (.iconst 1, 1) := by decide +kernel
theorem dL_law_439 : decode cL_law 439 = .ok (.iadd, 1) := by decide +kernel
theorem dL_law_440 : decode cL_law 440 = .ok (.iaload, 1) := by decide +kernel
theorem dL_law_441 : decode cL_law 441 = .ok (.aload_n 0, 1) := by decide +kernel
theorem dL_law_442 : decode cL_law 442 = .ok (.iload_n 3, 1) := by decide +kernel
theorem dL_law_443 : decode cL_law 443 = .ok (.iconst 2, 1) := by decide +kernel
theorem dL_law_444 : decode cL_law 444 = .ok (.iadd, 1) := by decide +kernel
theorem dL_law_445 : decode cL_law 445 = .ok (.iaload, 1) := by decide +kernel
theorem dL_law_446 : decode cL_law 446 = .ok (.ifCond .eq 7, 3) := by decide +kernel
theorem dL_law_449 : decode cL_law 449 = .ok (.iconst 1, 1) := by decide +kernel
theorem dL_law_450 : decode cL_law 450 = .ok (.goto 4, 3) := by decide +kernel
theorem dL_law_453 : decode cL_law 453 = .ok (.iconst 0, 1) := by decide +kernel
theorem dL_law_454 : decode cL_law 454 = .ok (.invokevirtual 56, 3) := by decide +kernel
theorem dL_law_457 : decode cL_law 457 = .ok (.aload_n 2, 1) := by decide +kernel
theorem dL_law_458 : decode cL_law 458 = .ok (.aload_n 0, 1) := by decide +kernel
theorem dL_law_459 : decode cL_law 459 = .ok (.iload_n 3, 1) := by decide +kernel
theorem dL_law_460 : decode cL_law 460 = .ok (.iconst 1, 1) := by decide +kernel
theorem dL_law_461 : decode cL_law 461 = .ok (.iadd, 1) := by decide +kernel
theorem dL_law_462 : decode cL_law 462 = .ok (.iaload, 1) := by decide +kernel
theorem dL_law_463 : decode cL_law 463 = .ok (.aload_n 0, 1) := by decide +kernel
theorem dL_law_464 : decode cL_law 464 = .ok (.iload_n 3, 1) := by decide +kernel
theorem dL_law_465 : decode cL_law 465 = .ok (.iconst 2, 1) := by decide +kernel
theorem dL_law_466 : decode cL_law 466 = .ok (.iadd, 1) := by decide +kernel
theorem dL_law_467 : decode cL_law 467 = .ok (.iaload, 1) := by decide +kernel
theorem dL_law_468 : decode cL_law 468 = .ok (.ifCond .eq 7, 3) := by decide +kernel
theorem dL_law_471 : decode cL_law 471 = .ok (.iconst 1, 1) := by decide +kernel
theorem dL_law_472 : decode cL_law 472 = .ok (.goto 4, 3) := by decide +kernel
theorem dL_law_475 : decode cL_law 475 = .ok (.iconst 0, 1) := by decide +kernel
theorem dL_law_476 : decode cL_law 476 = .ok (.invokevirtual 60, 3) := by decide +kernel
theorem dL_law_479 : decode cL_law 479 = .ok (.if_icmp .eq 638, 3) := by decide +kernel
theorem dL_law_484 : decode cL_law 484 = .ok (.aload_n 1, 1) := by decide +kernel
theorem dL_law_485 : decode cL_law 485 = .ok (.aload_n 0, 1) := by decide +kernel
theorem dL_law_486 : decode cL_law 486 = .ok (.iload_n 3, 1) := by decide +kernel
theorem dL_law_487 : decode cL_law 487 = .ok (.iconst 1, 1) := by decide +kernel
theorem dL_law_488 : decode cL_law 488 = .ok (.iadd, 1) := by decide +kernel
theorem dL_law_489 : decode cL_law 489 = .ok (.iaload, 1) := by decide +kernel
theorem dL_law_490 : decode cL_law 490 = .ok (.aload_n 0, 1) := by decide +kernel
theorem dL_law_491 : decode cL_law 491 = .ok (.iload_n 3, 1) := by decide +kernel
theorem dL_law_492 : decode cL_law 492 = .ok (.iconst 2, 1) := by decide +kernel
theorem dL_law_493 : decode cL_law 493 = .ok (.iadd, 1) := by decide +kernel
theorem dL_law_494 : decode cL_law 494 = .ok (.iaload, 1) := by decide +kernel
theorem dL_law_495 : decode cL_law 495 = .ok (.invokevirtual 61, 3) := by decide +kernel
theorem dL_law_498 : decode cL_law 498 = .ok (.aload_n 2, 1) := by decide +kernel
theorem dL_law_499 : decode cL_law 499 = .ok (.aload_n 0, 1) := by decide +kernel
theorem dL_law_500 : decode cL_law 500 = .ok (.iload_n 3, 1) := by decide +kernel
theorem dL_law_501 : decode cL_law 501 = .ok (.iconst 1, 1) := by decide +kernel
theorem dL_law_502 : decode cL_law 502 = .ok (.iadd, 1) := by decide +kernel
theorem dL_law_503 : decode cL_law 503 = .ok (.iaload, 1) := by decide +kernel
theorem dL_law_504 : decode cL_law 504 = .ok (.aload_n 0, 1) := by decide +kernel
theorem dL_law_505 : decode cL_law 505 = .ok (.iload_n 3, 1) := by decide +kernel
theorem dL_law_506 : decode cL_law 506 = .ok (.iconst 2, 1) := by decide +kernel
theorem dL_law_507 : decode cL_law 507 = .ok (.iadd, 1) := by decide +kernel
theorem dL_law_508 : decode cL_law 508 = .ok (.iaload, 1) := by decide +kernel
theorem dL_law_509 : decode cL_law 509 = .ok (.invokevirtual 64, 3) := by decide +kernel
theorem dL_law_512 : decode cL_law 512 = .ok (.if_icmp .eq 605, 3) := by decide +kernel
theorem dL_law_517 : decode cL_law 517 = .ok (.aload_n 1, 1) := by decide +kernel
theorem dL_law_518 : decode cL_law 518 = .ok (.aload_n 0, 1) := by decide +kernel
theorem dL_law_519 : decode cL_law 519 = .ok (.iload_n 3, 1) := by decide +kernel
theorem dL_law_520 : decode cL_law 520 = .ok (.iconst 1, 1) := by decide +kernel
theorem dL_law_521 : decode cL_law 521 = .ok (.iadd, 1) := by decide +kernel
theorem dL_law_522 : decode cL_law 522 = .ok (.iaload, 1) := by decide +kernel
theorem dL_law_523 : decode cL_law 523 = .ok (.invokevirtual 65, 3) := by decide +kernel
theorem dL_law_526 : decode cL_law 526 = .ok (.aload_n 2, 1) := by decide +kernel
theorem dL_law_527 : decode cL_law 527 = .ok (.aload_n 0, 1) := by decide +kernel
theorem dL_law_528 : decode cL_law 528 = .ok (.iload_n 3, 1) := by decide +kernel
theorem dL_law_529 : decode cL_law 529 = .ok (.iconst 1, 1) := by decide +kernel
theorem dL_law_530 : decode cL_law 530 = .ok (.iadd, 1) := by decide +kernel
theorem dL_law_531 : decode cL_law 531 = .ok (.iaload, 1) := by decide +kernel
theorem dL_law_532 : decode cL_law 532 = .ok (.invokevirtual 68, 3) := by decide +kernel
theorem dL_law_535 : decode cL_law 535 = .ok (.if_icmp .eq 582, 3) := by decide +kernel
theorem dL_law_540 : decode cL_law 540 = .ok (.aload_n 1, 1) := by decide +kernel
theorem dL_law_541 : decode cL_law 541 = .ok (.aload_n 0, 1) := by decide +kernel
theorem dL_law_542 : decode cL_law 542 = .ok (.iload_n 3, 1) := by decide +kernel
theorem dL_law_543 : decode cL_law 543 = .ok (.iconst 1, 1) := by decide +kernel
theorem dL_law_544 : decode cL_law 544 = .ok (.iadd, 1) := by decide +kernel
theorem dL_law_545 : decode cL_law 545 = .ok (.iaload, 1) := by decide +kernel
theorem dL_law_546 : decode cL_law 546 = .ok (.invokevirtual 69, 3) := by decide +kernel
theorem dL_law_549 : decode cL_law 549 = .ok (.aload_n 2, 1) := by decide +kernel
theorem dL_law_550 : decode cL_law 550 = .ok (.aload_n 0, 1) := by decide +kernel
theorem dL_law_551 : decode cL_law 551 = .ok (.iload_n 3, 1) := by decide +kernel
theorem dL_law_552 : decode cL_law 552 = .ok (.iconst 1, 1) := by decide +kernel
theorem dL_law_553 : decode cL_law 553 = .ok (.iadd, 1) := by decide +kernel
theorem dL_law_554 : decode cL_law 554 = .ok (.iaload, 1) := by decide +kernel
theorem dL_law_555 : decode cL_law 555 = .ok (.invokevirtual 72, 3) := by decide +kernel
theorem dL_law_558 : decode cL_law 558 = .ok (.if_icmp .eq 559, 3) := by decide +kernel
theorem dL_law_563 : decode cL_law 563 = .ok (.aload_n 1, 1) := by decide +kernel
theorem dL_law_564 : decode cL_law 564 = .ok (.aload_n 0, 1) := by decide +kernel
theorem dL_law_565 : decode cL_law 565 = .ok (.iload_n 3, 1) := by decide +kernel
theorem dL_law_566 : decode cL_law 566 = .ok (.iconst 1, 1) := by decide +kernel
theorem dL_law_567 : decode cL_law 567 = .ok (.iadd, 1) := by decide +kernel
theorem dL_law_568 : decode cL_law 568 = .ok (.iaload, 1) := by decide +kernel
theorem dL_law_569 : decode cL_law 569 = .ok (.aload_n 0, 1) := by decide +kernel
theorem dL_law_570 : decode cL_law 570 = .ok (.iload_n 3, 1) := by decide +kernel
theorem dL_law_571 : decode cL_law 571 = .ok (.iconst 2, 1) := by decide +kernel
theorem dL_law_572 : decode cL_law 572 = .ok (.iadd, 1) := by decide +kernel
theorem dL_law_573 : decode cL_law 573 = .ok (.iaload, 1) := by decide +kernel
theorem dL_law_574 : decode cL_law 574 = .ok (.invokevirtual 73, 3) := by decide +kernel
theorem dL_law_577 : decode cL_law 577 = .ok (.aload_n 2, 1) := by decide +kernel
theorem dL_law_578 : decode cL_law 578 = .ok (.aload_n 0, 1) := by decide +kernel
theorem dL_law_579 : decode cL_law 579 = .ok (.iload_n 3, 1) := by decide +kernel
theorem dL_law_580 : decode cL_law 580 = .ok (.iconst 1, 1) := by decide +kernel
theorem dL_law_581 : decode cL_law 581 = .ok (.iadd, 1) := by decide +kernel
theorem dL_law_582 : decode cL_law 582 = .ok (.iaload, 1) := by decide +kernel
theorem dL_law_583 : decode cL_law 583 = .ok (.aload_n 0, 1) := by decide +kernel
theorem dL_law_584 : decode cL_law 584 = .ok (.iload_n 3, 1) := by decide +kernel
theorem dL_law_585 : decode cL_law 585 = .ok (.iconst 2, 1) := by decide +kernel
theorem dL_law_586 : decode cL_law 586 = .ok (.iadd, 1) := by decide +kernel
theorem dL_law_587 : decode cL_law 587 = .ok (.iaload, 1) := by decide +kernel
theorem dL_law_588 : decode cL_law 588 = .ok (.invokevirtual 76, 3) := by decide +kernel
theorem dL_law_591 : decode cL_law 591 = .ok (.if_icmp .eq 526, 3) := by decide +kernel
theorem dL_law_596 : decode cL_law 596 = .ok (.aload_n 1, 1) := by decide +kernel
theorem dL_law_597 : decode cL_law 597 = .ok (.aload_n 0, 1) := by decide +kernel
theorem dL_law_598 : decode cL_law 598 = .ok (.iload_n 3, 1) := by decide +kernel
theorem dL_law_599 : decode cL_law 599 = .ok (.iconst 1, 1) := by decide +kernel
theorem dL_law_600 : decode cL_law 600 = .ok (.iadd, 1) := by decide +kernel
theorem dL_law_601 : decode cL_law 601 = .ok (.iaload, 1) := by decide +kernel
theorem dL_law_602 : decode cL_law 602 = .ok (.aload_n 0, 1) := by decide +kernel
theorem dL_law_603 : decode cL_law 603 = .ok (.iload_n 3, 1) := by decide +kernel
theorem dL_law_604 : decode cL_law 604 = .ok (.iconst 2, 1) := by decide +kernel
theorem dL_law_605 : decode cL_law 605 = .ok (.iadd, 1) := by decide +kernel
theorem dL_law_606 : decode cL_law 606 = .ok (.iaload, 1) := by decide +kernel
theorem dL_law_607 : decode cL_law 607 = .ok (.invokevirtual 77, 3) := by decide +kernel
theorem dL_law_610 : decode cL_law 610 = .ok (.aload_n 2, 1) := by decide +kernel
theorem dL_law_611 : decode cL_law 611 = .ok (.aload_n 0, 1) := by decide +kernel
theorem dL_law_612 : decode cL_law 612 = .ok (.iload_n 3, 1) := by decide +kernel
theorem dL_law_613 : decode cL_law 613 = .ok (.iconst 1, 1) := by decide +kernel
theorem dL_law_614 : decode cL_law 614 = .ok (.iadd, 1) := by decide +kernel
theorem dL_law_615 : decode cL_law 615 = .ok (.iaload, 1) := by decide +kernel
theorem dL_law_616 : decode cL_law 616 = .ok (.aload_n 0, 1) := by decide +kernel
theorem dL_law_617 : decode cL_law 617 = .ok (.iload_n 3, 1) := by decide +kernel
theorem dL_law_618 : decode cL_law 618 = .ok (.iconst 2, 1) := by decide +kernel
theorem dL_law_619 : decode cL_law 619 = .ok (.iadd, 1) := by decide +kernel
theorem dL_law_620 : decode cL_law 620 = .ok (.iaload, 1) := by decide +kernel
theorem dL_law_621 : decode cL_law 621 = .ok (.invokevirtual 80, 3) := by decide +kernel
theorem dL_law_624 : decode cL_law 624 = .ok (.if_icmp .eq 493, 3) := by decide +kernel
theorem dL_law_629 : decode cL_law 629 = .ok (.aload_n 1, 1) := by decide +kernel
theorem dL_law_630 : decode cL_law 630 = .ok (.aload_n 0, 1) := by decide +kernel
theorem dL_law_631 : decode cL_law 631 = .ok (.iload_n 3, 1) := by decide +kernel
theorem dL_law_632 : decode cL_law 632 = .ok (.iconst 1, 1) := by decide +kernel
theorem dL_law_633 : decode cL_law 633 = .ok (.iadd, 1) := by decide +kernel
theorem dL_law_634 : decode cL_law 634 = .ok (.iaload, 1) := by decide +kernel
theorem dL_law_635 : decode cL_law 635 = .ok (.invokevirtual 81, 3) := by decide +kernel
theorem dL_law_638 : decode cL_law 638 = .ok (.aload_n 2, 1) := by decide +kernel
theorem dL_law_639 : decode cL_law 639 = .ok (.aload_n 0, 1) := by decide +kernel
theorem dL_law_640 : decode cL_law 640 = .ok (.iload_n 3, 1) := by decide +kernel
theorem dL_law_641 : decode cL_law 641 = .ok (.iconst 1, 1) := by decide +kernel
theorem dL_law_642 : decode cL_law 642 = .ok (.iadd, 1) := by decide +kernel
theorem dL_law_643 : decode cL_law 643 = .ok (.iaload, 1) := by decide +kernel
theorem dL_law_644 : decode cL_law 644 = .ok (.invokevirtual 84, 3) := by decide +kernel
theorem dL_law_647 : decode cL_law 647 = .ok (.if_icmp .eq 470, 3) := by decide +kernel
theorem dL_law_652 : decode cL_law 652 = .ok (.aload_n 1, 1) := by decide +kernel
theorem dL_law_653 : decode cL_law 653 = .ok (.aload_n 0, 1) := by decide +kernel
theorem dL_law_654 : decode cL_law 654 = .ok (.iload_n 3, 1) := by decide +kernel
theorem dL_law_655 : decode cL_law 655 = .ok (.iconst 1, 1) := by decide +kernel
theorem dL_law_656 : decode cL_law 656 = .ok (.iadd, 1) := by decide +kernel
theorem dL_law_657 : decode cL_law 657 = .ok (.iaload, 1) := by decide +kernel
theorem dL_law_658 : decode cL_law 658 = .ok (.aload_n 0, 1) := by decide +kernel
theorem dL_law_659 : decode cL_law 659 = .ok (.iload_n 3, 1) := by decide +kernel
theorem dL_law_660 : decode cL_law 660 = .ok (.iconst 2, 1) := by decide +kernel
theorem dL_law_661 : decode cL_law 661 = .ok (.iadd, 1) := by decide +kernel
theorem dL_law_662 : decode cL_law 662 = .ok (.iaload, 1) := by decide +kernel
theorem dL_law_663 : decode cL_law 663 = .ok (.invokevirtual 85, 3) := by decide +kernel
theorem dL_law_666 : decode cL_law 666 = .ok (.aload_n 2, 1) := by decide +kernel
theorem dL_law_667 : decode cL_law 667 = .ok (.aload_n 0, 1) := by decide +kernel
theorem dL_law_668 : decode cL_law 668 = .ok (.iload_n 3, 1) := by decide +kernel
theorem dL_law_669 : decode cL_law 669 = .ok (.iconst 1, 1) := by decide +kernel
theorem dL_law_670 : decode cL_law 670 = .ok (.iadd, 1) := by decide +kernel
theorem dL_law_671 : decode cL_law 671 = .ok (.iaload, 1) := by decide +kernel
theorem dL_law_672 : decode cL_law 672 = .ok (.aload_n 0, 1) := by decide +kernel
theorem dL_law_673 : decode cL_law 673 = .ok (.iload_n 3, 1) := by decide +kernel
theorem dL_law_674 : decode cL_law 674 = .ok (.iconst 2, 1) := by decide +kernel
theorem dL_law_675 : decode cL_law 675 = .ok (.iadd, 1) := by decide +kernel
theorem dL_law_676 : decode cL_law 676 = .ok (.iaload, 1) := by decide +kernel
theorem dL_law_677 : decode cL_law 677 = .ok (.invokevirtual 88, 3) := by decide +kernel
theorem dL_law_680 : decode cL_law 680 = .ok (.if_icmp .eq 437, 3) := by decide +kernel
theorem dL_law_685 : decode cL_law 685 = .ok (.aload_n 1, 1) := by decide +kernel
theorem dL_law_686 : decode cL_law 686 = .ok (.aload_n 0, 1) := by decide +kernel
theorem dL_law_687 : decode cL_law 687 = .ok (.iload_n 3, 1) := by decide +kernel
theorem dL_law_688 : decode cL_law 688 = .ok (.iconst 1, 1) := by decide +kernel
theorem dL_law_689 : decode cL_law 689 = .ok (.iadd, 1) := by decide +kernel
theorem dL_law_690 : decode cL_law 690 = .ok (.iaload, 1) := by decide +kernel
theorem dL_law_691 : decode cL_law 691 = .ok (.aload_n 0, 1) := by decide +kernel
theorem dL_law_692 : decode cL_law 692 = .ok (.iload_n 3, 1) := by decide +kernel
theorem dL_law_693 : decode cL_law 693 = .ok (.iconst 2, 1) := by decide +kernel
theorem dL_law_694 : decode cL_law 694 = .ok (.iadd, 1) := by decide +kernel
theorem dL_law_695 : decode cL_law 695 = .ok (.iaload, 1) := by decide +kernel
theorem dL_law_696 : decode cL_law 696 = .ok (.aload_n 0, 1) := by decide +kernel
theorem dL_law_697 : decode cL_law 697 = .ok (.iload_n 3, 1) := by decide +kernel
theorem dL_law_698 : decode cL_law 698 = .ok (.iconst 3, 1) := by decide +kernel
theorem dL_law_699 : decode cL_law 699 = .ok (.iadd, 1) := by decide +kernel
theorem dL_law_700 : decode cL_law 700 = .ok (.iaload, 1) := by decide +kernel
theorem dL_law_701 : decode cL_law 701 = .ok (.invokevirtual 89, 3) := by decide +kernel
theorem dL_law_704 : decode cL_law 704 = .ok (.aload_n 2, 1) := by decide +kernel
theorem dL_law_705 : decode cL_law 705 = .ok (.aload_n 0, 1) := by decide +kernel
theorem dL_law_706 : decode cL_law 706 = .ok (.iload_n 3, 1) := by decide +kernel
theorem dL_law_707 : decode cL_law 707 = .ok (.iconst 1, 1) := by decide +kernel
theorem dL_law_708 : decode cL_law 708 = .ok (.iadd, 1) := by decide +kernel
theorem dL_law_709 : decode cL_law 709 = .ok (.iaload, 1) := by decide +kernel
theorem dL_law_710 : decode cL_law 710 = .ok (.aload_n 0, 1) := by decide +kernel
theorem dL_law_711 : decode cL_law 711 = .ok (.iload_n 3, 1) := by decide +kernel
theorem dL_law_712 : decode cL_law 712 = .ok (.iconst 2, 1) := by decide +kernel
theorem dL_law_713 : decode cL_law 713 = .ok (.iadd, 1) := by decide +kernel
theorem dL_law_714 : decode cL_law 714 = .ok (.iaload, 1) := by decide +kernel
theorem dL_law_715 : decode cL_law 715 = .ok (.aload_n 0, 1) := by decide +kernel
theorem dL_law_716 : decode cL_law 716 = .ok (.iload_n 3, 1) := by decide +kernel
theorem dL_law_717 : decode cL_law 717 = .ok (.iconst 3, 1) := by decide +kernel
theorem dL_law_718 : decode cL_law 718 = .ok (.iadd, 1) := by decide +kernel
theorem dL_law_719 : decode cL_law 719 = .ok (.iaload, 1) := by decide +kernel
theorem dL_law_720 : decode cL_law 720 = .ok (.invokevirtual 93, 3) := by decide +kernel
theorem dL_law_723 : decode cL_law 723 = .ok (.if_icmp .eq 394, 3) := by decide +kernel
theorem dL_law_728 : decode cL_law 728 = .ok (.aload_n 1, 1) := by decide +kernel
theorem dL_law_729 : decode cL_law 729 = .ok (.aload_n 0, 1) := by decide +kernel
theorem dL_law_730 : decode cL_law 730 = .ok (.iload_n 3, 1) := by decide +kernel
theorem dL_law_731 : decode cL_law 731 = .ok (.iconst 1, 1) := by decide +kernel
theorem dL_law_732 : decode cL_law 732 = .ok (.iadd, 1) := by decide +kernel
theorem dL_law_733 : decode cL_law 733 = .ok (.iaload, 1) := by decide +kernel
theorem dL_law_734 : decode cL_law 734 = .ok (.invokevirtual 94, 3) := by decide +kernel
theorem dL_law_737 : decode cL_law 737 = .ok (.aload_n 2, 1) := by decide +kernel
theorem dL_law_738 : decode cL_law 738 = .ok (.aload_n 0, 1) := by decide +kernel
theorem dL_law_739 : decode cL_law 739 = .ok (.iload_n 3, 1) := by decide +kernel
theorem dL_law_740 : decode cL_law 740 = .ok (.iconst 1, 1) := by decide +kernel
theorem dL_law_741 : decode cL_law 741 = .ok (.iadd, 1) := by decide +kernel
theorem dL_law_742 : decode cL_law 742 = .ok (.iaload, 1) := by decide +kernel
theorem dL_law_743 : decode cL_law 743 = .ok (.invokevirtual 97, 3) := by decide +kernel
theorem dL_law_746 : decode cL_law 746 = .ok (.if_icmp .eq 371, 3) := by decide +kernel
theorem dL_law_751 : decode cL_law 751 = .ok (.aload_n 1, 1) := by decide +kernel
theorem dL_law_752 : decode cL_law 752 = .ok (.aload_n 0, 1) := by decide +kernel
theorem dL_law_753 : decode cL_law 753 = .ok (.iload_n 3, 1) := by decide +kernel
theorem dL_law_754 : decode cL_law 754 = .ok (.iconst 1, 1) := by decide +kernel
theorem dL_law_755 : decode cL_law 755 = .ok (.iadd, 1) := by decide +kernel
theorem dL_law_756 : decode cL_law 756 = .ok (.iaload, 1) := by decide +kernel
theorem dL_law_757 : decode cL_law 757 = .ok (.invokevirtual 98, 3) := by decide +kernel
theorem dL_law_760 : decode cL_law 760 = .ok (.aload_n 2, 1) := by decide +kernel
theorem dL_law_761 : decode cL_law 761 = .ok (.aload_n 0, 1) := by decide +kernel
theorem dL_law_762 : decode cL_law 762 = .ok (.iload_n 3, 1) := by decide +kernel
theorem dL_law_763 : decode cL_law 763 = .ok (.iconst 1, 1) := by decide +kernel
theorem dL_law_764 : decode cL_law 764 = .ok (.iadd, 1) := by decide +kernel
theorem dL_law_765 : decode cL_law 765 = .ok (.iaload, 1) := by decide +kernel
theorem dL_law_766 : decode cL_law 766 = .ok (.invokevirtual 101, 3) := by decide +kernel
theorem dL_law_769 : decode cL_law 769 = .ok (.if_icmp .eq 348, 3) := by decide +kernel
theorem dL_law_774 : decode cL_law 774 = .ok (.aload_n 1, 1) := by decide +kernel
theorem dL_law_775 : decode cL_law 775 = .ok (.aload_n 0, 1) := by decide +kernel
theorem dL_law_776 : decode cL_law 776 = .ok (.iload_n 3, 1) := by decide +kernel
theorem dL_law_777 : decode cL_law 777 = .ok (.iconst 1, 1) := by decide +kernel
theorem dL_law_778 : decode cL_law 778 = .ok (.iadd, 1) := by decide +kernel
theorem dL_law_779 : decode cL_law 779 = .ok (.iaload, 1) := by decide +kernel
theorem dL_law_780 : decode cL_law 780 = .ok (.invokevirtual 102, 3) := by decide +kernel
theorem dL_law_783 : decode cL_law 783 = .ok (.aload_n 2, 1) := by decide +kernel
theorem dL_law_784 : decode cL_law 784 = .ok (.aload_n 0, 1) := by decide +kernel
theorem dL_law_785 : decode cL_law 785 = .ok (.iload_n 3, 1) := by decide +kernel
theorem dL_law_786 : decode cL_law 786 = .ok (.iconst 1, 1) := by decide +kernel
theorem dL_law_787 : decode cL_law 787 = .ok (.iadd, 1) := by decide +kernel
theorem dL_law_788 : decode cL_law 788 = .ok (.iaload, 1) := by decide +kernel
theorem dL_law_789 : decode cL_law 789 = .ok (.invokevirtual 105, 3) := by decide +kernel
theorem dL_law_792 : decode cL_law 792 = .ok (.if_icmp .eq 325, 3) := by decide +kernel
theorem dL_law_797 : decode cL_law 797 = .ok (.aload_n 1, 1) := by decide +kernel
theorem dL_law_798 : decode cL_law 798 = .ok (.invokevirtual 106, 3) := by decide +kernel
theorem dL_law_801 : decode cL_law 801 = .ok (.aload_n 2, 1) := by decide +kernel
theorem dL_law_802 : decode cL_law 802 = .ok (.invokevirtual 109, 3) := by decide +kernel
theorem dL_law_805 : decode cL_law 805 = .ok (.if_icmp .eq 312, 3) := by decide +kernel
theorem dL_law_810 : decode cL_law 810 = .ok (.aload_n 1, 1) := by decide +kernel
theorem dL_law_811 : decode cL_law 811 = .ok (.aload_n 0, 1) := by decide +kernel
theorem dL_law_812 : decode cL_law 812 = .ok (.iload_n 3, 1) := by decide +kernel
theorem dL_law_813 : decode cL_law 813 = .ok (.iconst 1, 1) := by decide +kernel
theorem dL_law_814 : decode cL_law 814 = .ok (.iadd, 1) := by decide +kernel
theorem dL_law_815 : decode cL_law 815 = .ok (.iaload, 1) := by decide +kernel
theorem dL_law_816 : decode cL_law 816 = .ok (.invokevirtual 110, 3) := by decide +kernel
theorem dL_law_819 : decode cL_law 819 = .ok (.aload_n 2, 1) := by decide +kernel
theorem dL_law_820 : decode cL_law 820 = .ok (.aload_n 0, 1) := by decide +kernel
theorem dL_law_821 : decode cL_law 821 = .ok (.iload_n 3, 1) := by decide +kernel
theorem dL_law_822 : decode cL_law 822 = .ok (.iconst 1, 1) := by decide +kernel
theorem dL_law_823 : decode cL_law 823 = .ok (.iadd, 1) := by decide +kernel
theorem dL_law_824 : decode cL_law 824 = .ok (.iaload, 1) := by decide +kernel
theorem dL_law_825 : decode cL_law 825 = .ok (.invokevirtual 113, 3) := by decide +kernel
theorem dL_law_828 : decode cL_law 828 = .ok (.if_icmp .eq 289, 3) := by decide +kernel
theorem dL_law_833 : decode cL_law 833 = .ok (.aload_n 1, 1) := by decide +kernel
theorem dL_law_834 : decode cL_law 834 = .ok (.aload_n 0, 1) := by decide +kernel
theorem dL_law_835 : decode cL_law 835 = .ok (.iload_n 3, 1) := by decide +kernel
theorem dL_law_836 : decode cL_law 836 = .ok (.iconst 1, 1) := by decide +kernel
theorem dL_law_837 : decode cL_law 837 = .ok (.iadd, 1) := by decide +kernel
theorem dL_law_838 : decode cL_law 838 = .ok (.iaload, 1) := by decide +kernel
theorem dL_law_839 : decode cL_law 839 = .ok (.aload_n 0, 1) := by decide +kernel
theorem dL_law_840 : decode cL_law 840 = .ok (.iload_n 3, 1) := by decide +kernel
theorem dL_law_841 : decode cL_law 841 = .ok (.iconst 2, 1) := by decide +kernel
theorem dL_law_842 : decode cL_law 842 = .ok (.iadd, 1) := by decide +kernel
theorem dL_law_843 : decode cL_law 843 = .ok (.iaload, 1) := by decide +kernel
theorem dL_law_844 : decode cL_law 844 = .ok (.invokevirtual 114, 3) := by decide +kernel
theorem dL_law_847 : decode cL_law 847 = .ok (.aload_n 2, 1) := by decide +kernel
theorem dL_law_848 : decode cL_law 848 = .ok (.aload_n 0, 1) := by decide +kernel
theorem dL_law_849 : decode cL_law 849 = .ok (.iload_n 3, 1) := by decide +kernel
theorem dL_law_850 : decode cL_law 850 = .ok (.iconst 1, 1) := by decide +kernel
theorem dL_law_851 : decode cL_law 851 = .ok (.iadd, 1) := by decide +kernel
theorem dL_law_852 : decode cL_law 852 = .ok (.iaload, 1) := by decide +kernel
theorem dL_law_853 : decode cL_law 853 = .ok (.aload_n 0, 1) := by decide +kernel
theorem dL_law_854 : decode cL_law 854 = .ok (.iload_n 3, 1) := by decide +kernel
theorem dL_law_855 : decode cL_law 855 = .ok (.iconst 2, 1) := by decide +kernel
theorem dL_law_856 : decode cL_law 856 = .ok (.iadd, 1) := by decide +kernel
theorem dL_law_857 : decode cL_law 857 = .ok (.iaload, 1) := by decide +kernel
theorem dL_law_858 : decode cL_law 858 = .ok (.invokevirtual 117, 3) := by decide +kernel
theorem dL_law_861 : decode cL_law 861 = .ok (.if_icmp .eq 256, 3) := by decide +kernel
theorem dL_law_866 : decode cL_law 866 = .ok (.aload_n 1, 1) := by decide +kernel
theorem dL_law_867 : decode cL_law 867 = .ok (.aload_n 0, 1) := by decide +kernel
theorem dL_law_868 : decode cL_law 868 = .ok (.iload_n 3, 1) := by decide +kernel
theorem dL_law_869 : decode cL_law 869 = .ok (.iconst 1, 1) := by decide +kernel
theorem dL_law_870 : decode cL_law 870 = .ok (.iadd, 1) := by decide +kernel
theorem dL_law_871 : decode cL_law 871 = .ok (.iaload, 1) := by decide +kernel
theorem dL_law_872 : decode cL_law 872 = .ok (.aload_n 0, 1) := by decide +kernel
theorem dL_law_873 : decode cL_law 873 = .ok (.iload_n 3, 1) := by decide +kernel
theorem dL_law_874 : decode cL_law 874 = .ok (.iconst 2, 1) := by decide +kernel
theorem dL_law_875 : decode cL_law 875 = .ok (.iadd, 1) := by decide +kernel
theorem dL_law_876 : decode cL_law 876 = .ok (.iaload, 1) := by decide +kernel
theorem dL_law_877 : decode cL_law 877 = .ok (.invokevirtual 118, 3) := by decide +kernel
theorem dL_law_880 : decode cL_law 880 = .ok (.aload_n 2, 1) := by decide +kernel
theorem dL_law_881 : decode cL_law 881 = .ok (.aload_n 0, 1) := by decide +kernel
theorem dL_law_882 : decode cL_law 882 = .ok (.iload_n 3, 1) := by decide +kernel
theorem dL_law_883 : decode cL_law 883 = .ok (.iconst 1, 1) := by decide +kernel
theorem dL_law_884 : decode cL_law 884 = .ok (.iadd, 1) := by decide +kernel
theorem dL_law_885 : decode cL_law 885 = .ok (.iaload, 1) := by decide +kernel
theorem dL_law_886 : decode cL_law 886 = .ok (.aload_n 0, 1) := by decide +kernel
theorem dL_law_887 : decode cL_law 887 = .ok (.iload_n 3, 1) := by decide +kernel
theorem dL_law_888 : decode cL_law 888 = .ok (.iconst 2, 1) := by decide +kernel
theorem dL_law_889 : decode cL_law 889 = .ok (.iadd, 1) := by decide +kernel
theorem dL_law_890 : decode cL_law 890 = .ok (.iaload, 1) := by decide +kernel
theorem dL_law_891 : decode cL_law 891 = .ok (.invokevirtual 121, 3) := by decide +kernel
theorem dL_law_894 : decode cL_law 894 = .ok (.if_icmp .eq 223, 3) := by decide +kernel
theorem dL_law_899 : decode cL_law 899 = .ok (.aload_n 1, 1) := by decide +kernel
theorem dL_law_900 : decode cL_law 900 = .ok (.aload_n 0, 1) := by decide +kernel
theorem dL_law_901 : decode cL_law 901 = .ok (.iload_n 3, 1) := by decide +kernel
theorem dL_law_902 : decode cL_law 902 = .ok (.iconst 1, 1) := by decide +kernel
theorem dL_law_903 : decode cL_law 903 = .ok (.iadd, 1) := by decide +kernel
theorem dL_law_904 : decode cL_law 904 = .ok (.iaload, 1) := by decide +kernel
theorem dL_law_905 : decode cL_law 905 = .ok (.invokevirtual 122, 3) := by decide +kernel
theorem dL_law_908 : decode cL_law 908 = .ok (.aload_n 2, 1) := by decide +kernel
theorem dL_law_909 : decode cL_law 909 = .ok (.aload_n 0, 1) := by decide +kernel
theorem dL_law_910 : decode cL_law 910 = .ok (.iload_n 3, 1) := by decide +kernel
theorem dL_law_911 : decode cL_law 911 = .ok (.iconst 1, 1) := by decide +kernel
theorem dL_law_912 : decode cL_law 912 = .ok (.iadd, 1) := by decide +kernel
theorem dL_law_913 : decode cL_law 913 = .ok (.iaload, 1) := by decide +kernel
theorem dL_law_914 : decode cL_law 914 = .ok (.invokevirtual 125, 3) := by decide +kernel
theorem dL_law_917 : decode cL_law 917 = .ok (.if_icmp .eq 200, 3) := by decide +kernel
theorem dL_law_922 : decode cL_law 922 = .ok (.aload_n 1, 1) := by decide +kernel
theorem dL_law_923 : decode cL_law 923 = .ok (.aload_n 0, 1) := by decide +kernel
theorem dL_law_924 : decode cL_law 924 = .ok (.iload_n 3, 1) := by decide +kernel
theorem dL_law_925 : decode cL_law 925 = .ok (.iconst 1, 1) := by decide +kernel
theorem dL_law_926 : decode cL_law 926 = .ok (.iadd, 1) := by decide +kernel
theorem dL_law_927 : decode cL_law 927 = .ok (.iaload, 1) := by decide +kernel
theorem dL_law_928 : decode cL_law 928 = .ok (.invokevirtual 126, 3) := by decide +kernel
theorem dL_law_931 : decode cL_law 931 = .ok (.aload_n 2, 1) := by decide +kernel
theorem dL_law_932 : decode cL_law 932 = .ok (.aload_n 0, 1) := by decide +kernel
theorem dL_law_933 : decode cL_law 933 = .ok (.iload_n 3, 1) := by decide +kernel
theorem dL_law_934 : decode cL_law 934 = .ok (.iconst 1, 1) := by decide +kernel
theorem dL_law_935 : decode cL_law 935 = .ok (.iadd, 1) := by decide +kernel
theorem dL_law_936 : decode cL_law 936 = .ok (.iaload, 1) := by decide +kernel
theorem dL_law_937 : decode cL_law 937 = .ok (.invokevirtual 129, 3) := by decide +kernel
theorem dL_law_940 : decode cL_law 940 = .ok (.if_icmp .eq 177, 3) := by decide +kernel
theorem dL_law_945 : decode cL_law 945 = .ok (.aload_n 1, 1) := by decide +kernel
theorem dL_law_946 : decode cL_law 946 = .ok (.aload_n 0, 1) := by decide +kernel
theorem dL_law_947 : decode cL_law 947 = .ok (.iload_n 3, 1) := by decide +kernel
theorem dL_law_948 : decode cL_law 948 = .ok (.iconst 1, 1) := by decide +kernel
theorem dL_law_949 : decode cL_law 949 = .ok (.iadd, 1) := by decide +kernel
theorem dL_law_950 : decode cL_law 950 = .ok (.iaload, 1) := by decide +kernel
theorem dL_law_951 : decode cL_law 951 = .ok (.aload_n 0, 1) := by decide +kernel
theorem dL_law_952 : decode cL_law 952 = .ok (.iload_n 3, 1) := by decide +kernel
theorem dL_law_953 : decode cL_law 953 = .ok (.iconst 2, 1) := by decide +kernel
theorem dL_law_954 : decode cL_law 954 = .ok (.iadd, 1) := by decide +kernel
theorem dL_law_955 : decode cL_law 955 = .ok (.iaload, 1) := by decide +kernel
theorem dL_law_956 : decode cL_law 956 = .ok (.aload_n 0, 1) := by decide +kernel
theorem dL_law_957 : decode cL_law 957 = .ok (.iload_n 3, 1) := by decide +kernel
theorem dL_law_958 : decode cL_law 958 = .ok (.iconst 3, 1) := by decide +kernel
theorem dL_law_959 : decode cL_law 959 = .ok (.iadd, 1) := by decide +kernel
theorem dL_law_960 : decode cL_law 960 = .ok (.iaload, 1) := by decide +kernel
theorem dL_law_961 : decode cL_law 961 = .ok (.invokevirtual 130, 3) := by decide +kernel
theorem dL_law_964 : decode cL_law 964 = .ok (.aload_n 2, 1) := by decide +kernel
theorem dL_law_965 : decode cL_law 965 = .ok (.aload_n 0, 1) := by decide +kernel
theorem dL_law_966 : decode cL_law 966 = .ok (.iload_n 3, 1) := by decide +kernel
theorem dL_law_967 : decode cL_law 967 = .ok (.iconst 1, 1) := by decide +kernel
theorem dL_law_968 : decode cL_law 968 = .ok (.iadd, 1) := by decide +kernel
theorem dL_law_969 : decode cL_law 969 = .ok (.iaload, 1) := by decide +kernel
theorem dL_law_970 : decode cL_law 970 = .ok (.aload_n 0, 1) := by decide +kernel
theorem dL_law_971 : decode cL_law 971 = .ok (.iload_n 3, 1) := by decide +kernel
theorem dL_law_972 : decode cL_law 972 = .ok (.iconst 2, 1) := by decide +kernel
theorem dL_law_973 : decode cL_law 973 = .ok (.iadd, 1) := by decide +kernel
theorem dL_law_974 : decode cL_law 974 = .ok (.iaload, 1) := by decide +kernel
theorem dL_law_975 : decode cL_law 975 = .ok (.aload_n 0, 1) := by decide +kernel
theorem dL_law_976 : decode cL_law 976 = .ok (.iload_n 3, 1) := by decide +kernel
theorem dL_law_977 : decode cL_law 977 = .ok (.iconst 3, 1) := by decide +kernel
theorem dL_law_978 : decode cL_law 978 = .ok (.iadd, 1) := by decide +kernel
theorem dL_law_979 : decode cL_law 979 = .ok (.iaload, 1) := by decide +kernel
theorem dL_law_980 : decode cL_law 980 = .ok (.invokevirtual 133, 3) := by decide +kernel
theorem dL_law_983 : decode cL_law 983 = .ok (.if_icmp .eq 134, 3) := by decide +kernel
theorem dL_law_988 : decode cL_law 988 = .ok (.aload_n 1, 1) := by decide +kernel
theorem dL_law_989 : decode cL_law 989 = .ok (.aload_n 0, 1) := by decide +kernel
theorem dL_law_990 : decode cL_law 990 = .ok (.iload_n 3, 1) := by decide +kernel
theorem dL_law_991 : decode cL_law 991 = .ok (.iconst 1, 1) := by decide +kernel
theorem dL_law_992 : decode cL_law 992 = .ok (.iadd, 1) := by decide +kernel
theorem dL_law_993 : decode cL_law 993 = .ok (.iaload, 1) := by decide +kernel
theorem dL_law_994 : decode cL_law 994 = .ok (.aload_n 0, 1) := by decide +kernel
theorem dL_law_995 : decode cL_law 995 = .ok (.iload_n 3, 1) := by decide +kernel
theorem dL_law_996 : decode cL_law 996 = .ok (.iconst 2, 1) := by decide +kernel
theorem dL_law_997 : decode cL_law 997 = .ok (.iadd, 1) := by decide +kernel
theorem dL_law_998 : decode cL_law 998 = .ok (.iaload, 1) := by decide +kernel
theorem dL_law_999 : decode cL_law 999 = .ok (.aload_n 0, 1) := by decide +kernel
theorem dL_law_1000 : decode cL_law 1000 = .ok (.iload_n 3, 1) := by decide +kernel
theorem dL_law_1001 : decode cL_law 1001 = .ok (.iconst 3, 1) := by decide +kernel
theorem dL_law_1002 : decode cL_law 1002 = .ok (.iadd, 1) := by decide +kernel
theorem dL_law_1003 : decode cL_law 1003 = .ok (.iaload, 1) := by decide +kernel
theorem dL_law_1004 : decode cL_law 1004 = .ok (.invokevirtual 134, 3) := by decide +kernel
theorem dL_law_1007 : decode cL_law 1007 = .ok (.aload_n 2, 1) := by decide +kernel
theorem dL_law_1008 : decode cL_law 1008 = .ok (.aload_n 0, 1) := by decide +kernel
theorem dL_law_1009 : decode cL_law 1009 = .ok (.iload_n 3, 1) := by decide +kernel
theorem dL_law_1010 : decode cL_law 1010 = .ok (.iconst 1, 1) := by decide +kernel
theorem dL_law_1011 : decode cL_law 1011 = .ok (.iadd, 1) := by decide +kernel
theorem dL_law_1012 : decode cL_law 1012 = .ok (.iaload, 1) := by decide +kernel
theorem dL_law_1013 : decode cL_law 1013 = .ok (.aload_n 0, 1) := by decide +kernel
theorem dL_law_1014 : decode cL_law 1014 = .ok (.iload_n 3, 1) := by decide +kernel
theorem dL_law_1015 : decode cL_law 1015 = .ok (.iconst 2, 1) := by decide +kernel
theorem dL_law_1016 : decode cL_law 1016 = .ok (.iadd, 1) := by decide +kernel
theorem dL_law_1017 : decode cL_law 1017 = .ok (.iaload, 1) := by decide +kernel
theorem dL_law_1018 : decode cL_law 1018 = .ok (.aload_n 0, 1) := by decide +kernel
theorem dL_law_1019 : decode cL_law 1019 = .ok (.iload_n 3, 1) := by decide +kernel
theorem dL_law_1020 : decode cL_law 1020 = .ok (.iconst 3, 1) := by decide +kernel
theorem dL_law_1021 : decode cL_law 1021 = .ok (.iadd, 1) := by decide +kernel
theorem dL_law_1022 : decode cL_law 1022 = .ok (.iaload, 1) := by decide +kernel
theorem dL_law_1023 : decode cL_law 1023 = .ok (.invokevirtual 137, 3) := by decide +kernel
theorem dL_law_1026 : decode cL_law 1026 = .ok (.if_icmp .eq 91, 3) := by decide +kernel
theorem dL_law_1031 : decode cL_law 1031 = .ok (.aload_n 1, 1) := by decide +kernel
theorem dL_law_1032 : decode cL_law 1032 = .ok (.aload_n 0, 1) := by decide +kernel
theorem dL_law_1033 : decode cL_law 1033 = .ok (.iload_n 3, 1) := by decide +kernel
theorem dL_law_1034 : decode cL_law 1034 = .ok (.iconst 1, 1) := by decide +kernel
theorem dL_law_1035 : decode cL_law 1035 = .ok (.iadd, 1) := by decide +kernel
theorem dL_law_1036 : decode cL_law 1036 = .ok (.iaload, 1) := by decide +kernel
theorem dL_law_1037 : decode cL_law 1037 = .ok (.aload_n 0, 1) := by decide +kernel
theorem dL_law_1038 : decode cL_law 1038 = .ok (.iload_n 3, 1) := by decide +kernel
theorem dL_law_1039 : decode cL_law 1039 = .ok (.iconst 2, 1) := by decide +kernel
theorem dL_law_1040 : decode cL_law 1040 = .ok (.iadd, 1) := by decide +kernel
theorem dL_law_1041 : decode cL_law 1041 = .ok (.iaload, 1) := by decide +kernel
theorem dL_law_1042 : decode cL_law 1042 = .ok (.aload_n 0, 1) := by decide +kernel
theorem dL_law_1043 : decode cL_law 1043 = .ok (.iload_n 3, 1) := by decide +kernel
theorem dL_law_1044 : decode cL_law 1044 = .ok (.iconst 3, 1) := by decide +kernel
theorem dL_law_1045 : decode cL_law 1045 = .ok (.iadd, 1) := by decide +kernel
theorem dL_law_1046 : decode cL_law 1046 = .ok (.iaload, 1) := by decide +kernel
theorem dL_law_1047 : decode cL_law 1047 = .ok (.aload_n 0, 1) := by decide +kernel
theorem dL_law_1048 : decode cL_law 1048 = .ok (.iload_n 3, 1) := by decide +kernel
theorem dL_law_1049 : decode cL_law 1049 = .ok (.iconst 4, 1) := by decide +kernel
theorem dL_law_1050 : decode cL_law 1050 = .ok (.iadd, 1) := by decide +kernel
theorem dL_law_1051 : decode cL_law 1051 = .ok (.iaload, 1) := by decide +kernel
theorem dL_law_1052 : decode cL_law 1052 = .ok (.aload_n 0, 1) := by decide +kernel
theorem dL_law_1053 : decode cL_law 1053 = .ok (.iload_n 3, 1) := by decide +kernel
theorem dL_law_1054 : decode cL_law 1054 = .ok (.iconst 5, 1) := by decide +kernel
theorem dL_law_1055 : decode cL_law 1055 = .ok (.iadd, 1) := by decide +kernel
theorem dL_law_1056 : decode cL_law 1056 = .ok (.iaload, 1) := by decide +kernel
theorem dL_law_1057 : decode cL_law 1057 = .ok (.invokevirtual 138, 3) := by decide +kernel
theorem dL_law_1060 : decode cL_law 1060 = .ok (.aload_n 2, 1) := by decide +kernel
theorem dL_law_1061 : decode cL_law 1061 = .ok (.aload_n 0, 1) := by decide +kernel
theorem dL_law_1062 : decode cL_law 1062 = .ok (.iload_n 3, 1) := by decide +kernel
theorem dL_law_1063 : decode cL_law 1063 = .ok (.iconst 1, 1) := by decide +kernel
theorem dL_law_1064 : decode cL_law 1064 = .ok (.iadd, 1) := by decide +kernel
theorem dL_law_1065 : decode cL_law 1065 = .ok (.iaload, 1) := by decide +kernel
theorem dL_law_1066 : decode cL_law 1066 = .ok (.aload_n 0, 1) := by decide +kernel
theorem dL_law_1067 : decode cL_law 1067 = .ok (.iload_n 3, 1) := by decide +kernel
theorem dL_law_1068 : decode cL_law 1068 = .ok (.iconst 2, 1) := by decide +kernel
theorem dL_law_1069 : decode cL_law 1069 = .ok (.iadd, 1) := by decide +kernel
theorem dL_law_1070 : decode cL_law 1070 = .ok (.iaload, 1) := by decide +kernel
theorem dL_law_1071 : decode cL_law 1071 = .ok (.aload_n 0, 1) := by decide +kernel
theorem dL_law_1072 : decode cL_law 1072 = .ok (.iload_n 3, 1) := by decide +kernel
theorem dL_law_1073 : decode cL_law 1073 = .ok (.iconst 3, 1) := by decide +kernel
theorem dL_law_1074 : decode cL_law 1074 = .ok (.iadd, 1) := by decide +kernel
theorem dL_law_1075 : decode cL_law 1075 = .ok (.iaload, 1) := by decide +kernel
theorem dL_law_1076 : decode cL_law 1076 = .ok (.aload_n 0, 1) := by decide +kernel
theorem dL_law_1077 : decode cL_law 1077 = .ok (.iload_n 3, 1) := by decide +kernel
theorem dL_law_1078 : decode cL_law 1078 = .ok (.iconst 4, 1) := by decide +kernel
theorem dL_law_1079 : decode cL_law 1079 = .ok (.iadd, 1) := by decide +kernel
theorem dL_law_1080 : decode cL_law 1080 = .ok (.iaload, 1) := by decide +kernel
theorem dL_law_1081 : decode cL_law 1081 = .ok (.aload_n 0, 1) := by decide +kernel
theorem dL_law_1082 : decode cL_law 1082 = .ok (.iload_n 3, 1) := by decide +kernel
theorem dL_law_1083 : decode cL_law 1083 = .ok (.iconst 5, 1) := by decide +kernel
theorem dL_law_1084 : decode cL_law 1084 = .ok (.iadd, 1) := by decide +kernel
theorem dL_law_1085 : decode cL_law 1085 = .ok (.iaload, 1) := by decide +kernel
theorem dL_law_1086 : decode cL_law 1086 = .ok (.invokevirtual 142, 3) := by decide +kernel
theorem dL_law_1089 : decode cL_law 1089 = .ok (.if_icmp .eq 28, 3) := by decide +kernel
theorem dL_law_1094 : decode cL_law 1094 = .ok (.aload_n 1, 1) := by decide +kernel
theorem dL_law_1095 : decode cL_law 1095 = .ok (.aload_n 0, 1) := by decide +kernel
theorem dL_law_1096 : decode cL_law 1096 = .ok (.iload_n 3, 1) := by decide +kernel
theorem dL_law_1097 : decode cL_law 1097 = .ok (.iconst 1, 1) := by decide +kernel
theorem dL_law_1098 : decode cL_law 1098 = .ok (.iadd, 1) := by decide +kernel
theorem dL_law_1099 : decode cL_law 1099 = .ok (.iaload, 1) := by decide +kernel
theorem dL_law_1100 : decode cL_law 1100 = .ok (.invokevirtual 143, 3) := by decide +kernel
theorem dL_law_1103 : decode cL_law 1103 = .ok (.aload_n 2, 1) := by decide +kernel
theorem dL_law_1104 : decode cL_law 1104 = .ok (.aload_n 0, 1) := by decide +kernel
theorem dL_law_1105 : decode cL_law 1105 = .ok (.iload_n 3, 1) := by decide +kernel
theorem dL_law_1106 : decode cL_law 1106 = .ok (.iconst 1, 1) := by decide +kernel
theorem dL_law_1107 : decode cL_law 1107 = .ok (.iadd, 1) := by decide +kernel
theorem dL_law_1108 : decode cL_law 1108 = .ok (.iaload, 1) := by decide +kernel
theorem dL_law_1109 : decode cL_law 1109 = .ok (.invokevirtual 146, 3) := by decide +kernel
theorem dL_law_1112 : decode cL_law 1112 = .ok (.if_icmp .eq 5, 3) := by decide +kernel
theorem dL_law_1117 : decode cL_law 1117 = .ok (.iinc 3 6, 3) := by decide +kernel
theorem dL_law_1120 : decode cL_law 1120 = .ok (.goto (-1102), 3) := by decide +kernel
theorem dL_law_1123 : decode cL_law 1123 = .ok (.iconst 1, 1) := by decide +kernel
theorem dL_law_1124 : decode cL_law 1124 = .ok (.ireturn, 1) := by decide +kernel
end
section
set_option maxRecDepth 20000 in
theorem ggX0_follow_X0_begin : GoodIn wsX0_follow wsX0_begin := goodIn_r _ [8, 9, 1, 10, 2, 11, 3, 12, 13, 14, 15, 16, 17, 18, 36, 37, 38, 39, 40, 41, 27, 28, 29, 30, 31, 32, 33, 34, 35] (by decide +kernel) (by decide +kernel)
set_option maxRecDepth 20000 in
theorem gX0_follow_X0_begin : GoodIn wsX0_follow (wsV RX0 49 RX0 yX0_begin wsX0_begin) := goodIn_app (goodIn_of _ (by decide +kernel)) ggX0_follow_X0_begin
set_option maxRecDepth 20000 in
theorem ggX1_thatExplain_X3_allRails : GoodIn wsX1_thatExplain wsX3_allRails := goodIn_r _ [6, 7, 17, 18, 19, 20, 21, 22] (by decide +kernel) (by decide +kernel)
set_option maxRecDepth 20000 in
theorem gX1_thatExplain_X3_allRails : GoodIn wsX1_thatExplain (wsV RX1 15 RX3 yX3_allRails wsX3_allRails) := goodIn_app (goodIn_of _ (by decide +kernel)) ggX1_thatExplain_X3_allRails
set_option maxRecDepth 20000 in
theorem ggX1_thatExplain_X3_upAmong : GoodIn wsX1_thatExplain wsX3_upAmong := goodIn_r _ [11, 7, 12, 13, 14, 5, 15, 16, 17, 18, 19, 20, 21, 22] (by decide +kernel) (by decide +kernel)
set_option maxRecDepth 20000 in
theorem gX1_thatExplain_X3_upAmong : GoodIn wsX1_thatExplain (wsV RX1 9 RX3 yX3_upAmong wsX3_upAmong) := goodIn_app (goodIn_of _ (by decide +kernel)) ggX1_thatExplain_X3_upAmong
set_option maxRecDepth 20000 in
theorem ggX4_readText_X3_reset : GoodIn wsX4_readText wsX3_reset := goodIn_r _ [12, 13, 14, 15, 16, 214, 215, 216, 217, 218, 219] (by decide +kernel) (by decide +kernel)
set_option maxRecDepth 20000 in
theorem gX4_readText_X3_reset : GoodIn wsX4_readText (wsV RX4 33 RX3 yX3_reset wsX3_reset) := goodIn_app (goodIn_of _ (by decide +kernel)) ggX4_readText_X3_reset
set_option maxRecDepth 20000 in
theorem ggX4_readText_J7_fill_53178 : GoodIn wsX4_readText wsJ7_fill_53178 := goodIn_r _ [20] (by decide +kernel) (by decide +kernel)
set_option maxRecDepth 20000 in
theorem gX4_readText_J7_fill_53178 : GoodIn wsX4_readText (va_wsS RX4 49 yJ7_fill_53178 wsJ7_fill_53178) := goodIn_app (goodIn_of _ (by decide +kernel)) ggX4_readText_J7_fill_53178
set_option maxRecDepth 20000 in
theorem ggX4_readText_X4_step : GoodIn wsX4_readText wsX4_step := goodIn_r _ [25, 2, 26, 27, 28, 29, 30, 7, 31, 32, 33, 24, 34, 35, 36, 37, 38, 39, 40, 41, 42, 4, 5, 201, 202, 203, 204, 205, 206, 207, 208, 209, 210, 211, 212, 213, 220, 221] (by decide +kernel) (by decide +kernel)
set_option maxRecDepth 20000 in
theorem gX4_readText_X4_step : GoodIn wsX4_readText (wsV RX4 55 RX4 yX4_step wsX4_step) := goodIn_app (goodIn_of _ (by decide +kernel)) ggX4_readText_X4_step
set_option maxRecDepth 20000 in
theorem ggX4_readText_X4_findNotTold : GoodIn wsX4_readText wsX4_findNotTold := goodIn_r _ [196, 1, 100, 6, 197, 198, 199, 200, 39, 40, 41, 24, 42, 4, 5, 201, 202, 203, 204, 205, 206, 207, 208, 209, 210, 211, 212, 213, 214, 215, 216, 217, 218, 219] (by decide +kernel) (by decide +kernel)
set_option maxRecDepth 20000 in
theorem gX4_readText_X4_findNotTold : GoodIn wsX4_readText (wsV RX4 79 RX4 yX4_findNotTold wsX4_findNotTold) := goodIn_app (goodIn_of _ (by decide +kernel)) ggX4_readText_X4_findNotTold
set_option maxRecDepth 20000 in
theorem ggX5_init_X2_init : GoodIn wsX5_init wsX2_init := goodIn_r _ [18, 19, 2, 3, 8, 20, 21, 22, 23, 24, 25, 26, 27] (by decide +kernel) (by decide +kernel)
set_option maxRecDepth 20000 in
theorem gX5_init_X2_init : GoodIn wsX5_init (wsX2_init) := ggX5_init_X2_init
set_option maxRecDepth 20000 in
theorem ggX5_reset_X3_number : GoodIn wsX5_reset wsX3_number := goodIn_r _ [21, 22, 41, 42, 43, 44, 45, 46] (by decide +kernel) (by decide +kernel)
set_option maxRecDepth 20000 in
theorem gX5_reset_X3_number : GoodIn wsX5_reset (wsV RX5 47 RX3 yX3_number wsX3_number) := goodIn_app (goodIn_of _ (by decide +kernel)) ggX5_reset_X3_number
set_option maxRecDepth 20000 in
theorem ggX5_passTick_X5_settle : GoodIn wsX5_passTick wsX5_settle := goodIn_r _ [11, 12, 13, 14, 10, 15, 16, 17, 18, 19, 20, 21, 22, 23, 24, 25, 26, 27, 28, 29, 30, 31, 32, 33, 34, 35, 36, 37, 38, 39, 40, 41, 42, 43, 44, 45, 46, 47, 48, 49, 50, 51, 52, 53, 54, 55, 56, 57, 58, 59, 60, 61, 62, 83, 84, 85, 86, 87, 88, 89, 90, 91, 92, 93, 94, 95, 96, 97, 98, 99, 100, 101, 102, 103, 104, 105, 106] (by decide +kernel) (by decide +kernel)
set_option maxRecDepth 20000 in
theorem gX5_passTick_X5_settle : GoodIn wsX5_passTick (wsV RX5 72 RX5 yX5_settle wsX5_settle) := goodIn_app (goodIn_of _ (by decide +kernel)) ggX5_passTick_X5_settle
set_option maxRecDepth 20000 in
theorem ggX5_passTick_X5_sumDraw : GoodIn wsX5_passTick wsX5_sumDraw := goodIn_r _ [66, 18, 23, 41, 42, 43, 27, 44, 45, 97, 98, 99, 100, 101, 102, 83, 84, 85, 86, 87, 88, 89, 90, 91, 92, 93, 94, 95, 96] (by decide +kernel) (by decide +kernel)
set_option maxRecDepth 20000 in
theorem gX5_passTick_X5_sumDraw : GoodIn wsX5_passTick (wsV RX5 76 RX5 yX5_sumDraw wsX5_sumDraw) := goodIn_app (goodIn_of _ (by decide +kernel)) ggX5_passTick_X5_sumDraw
set_option maxRecDepth 20000 in
theorem ggX5_passTick_X5_whyTrip : GoodIn wsX5_passTick wsX5_whyTrip := goodIn_r _ [70, 1, 71, 18, 23, 50, 41, 42, 43, 27, 44, 45, 83, 84, 85, 86, 87, 88, 89, 90, 91, 92, 93, 94, 95, 96, 97, 98, 99, 100, 101, 102] (by decide +kernel) (by decide +kernel)
set_option maxRecDepth 20000 in
theorem gX5_passTick_X5_whyTrip : GoodIn wsX5_passTick (wsV RX5 85 RX5 yX5_whyTrip wsX5_whyTrip) := goodIn_app (goodIn_of _ (by decide +kernel)) ggX5_passTick_X5_whyTrip
set_option maxRecDepth 20000 in
theorem ggX5_passTick_X5_growOlder : GoodIn wsX5_passTick wsX5_growOlder := goodIn_r _ [82, 18, 39, 50, 53, 16, 97, 98, 99, 100, 101, 102, 83, 84, 85, 86, 87, 88, 89, 90, 91, 92, 93, 94, 95, 96] (by decide +kernel) (by decide +kernel)
set_option maxRecDepth 20000 in
theorem gX5_passTick_X5_growOlder : GoodIn wsX5_passTick (wsV RX5 92 RX5 yX5_growOlder wsX5_growOlder) := goodIn_app (goodIn_of _ (by decide +kernel)) ggX5_passTick_X5_growOlder
set_option maxRecDepth 20000 in
theorem ggX5_settle_X5_railsThatMay : GoodIn wsX5_settle wsX5_railsThatMay := goodIn_r _ [5, 6, 7, 8, 9, 10, 11, 4, 12, 13, 14, 15, 16, 17, 18, 19, 53, 54, 55, 56, 57, 58, 59, 60, 61, 62, 63, 64, 65, 66, 67, 68, 69, 70, 71, 72] (by decide +kernel) (by decide +kernel)
set_option maxRecDepth 20000 in
theorem gX5_settle_X5_railsThatMay : GoodIn wsX5_settle (wsV RX5 95 RX5 yX5_railsThatMay wsX5_railsThatMay) := goodIn_app (goodIn_of _ (by decide +kernel)) ggX5_settle_X5_railsThatMay
set_option maxRecDepth 20000 in
theorem ggX5_settle_X5_changeRails : GoodIn wsX5_settle wsX5_changeRails := goodIn_r _ [23, 8, 13, 24, 25, 26, 4, 27, 28, 29, 30, 31, 32, 33, 17, 34, 35, 36, 37, 38, 39, 40, 41, 42, 43, 44, 45, 46, 47, 48, 49, 50, 51, 52, 67, 68, 69, 70, 71, 72, 53, 54, 55, 56, 57, 58, 59, 60, 61, 62, 63, 64, 65, 66, 73, 74, 75, 76] (by decide +kernel) (by decide +kernel)
set_option maxRecDepth 20000 in
theorem gX5_settle_X5_changeRails : GoodIn wsX5_settle (wsV RX5 98 RX5 yX5_changeRails wsX5_changeRails) := goodIn_app (goodIn_of _ (by decide +kernel)) ggX5_settle_X5_changeRails
set_option maxRecDepth 20000 in
theorem ggX5_railsThatMay_X5_railsThatAre : GoodIn wsX5_railsThatMay wsX5_railsThatAre := goodIn_r _ [8, 9, 16, 17, 18, 19, 20, 21, 22, 23, 24, 25, 26, 27, 28, 29] (by decide +kernel) (by decide +kernel)
set_option maxRecDepth 20000 in
theorem gX5_railsThatMay_X5_railsThatAre : GoodIn wsX5_railsThatMay (wsV RX5 102 RX5 yX5_railsThatAre wsX5_railsThatAre) := goodIn_app (goodIn_of _ (by decide +kernel)) ggX5_railsThatMay_X5_railsThatAre
set_option maxRecDepth 20000 in
theorem ggX6_init_J7_fill_53178 : GoodIn wsX6_init wsJ7_fill_53178 := goodIn_r _ [12] (by decide +kernel) (by decide +kernel)
set_option maxRecDepth 20000 in
theorem gX6_init_J7_fill_53178 : GoodIn wsX6_init (va_wsS RX6 23 yJ7_fill_53178 wsJ7_fill_53178) := goodIn_app (goodIn_of _ (by decide +kernel)) ggX6_init_J7_fill_53178
set_option maxRecDepth 20000 in
theorem ggX6_renew_J7_fill_53178 : GoodIn wsX6_renew wsJ7_fill_53178 := goodIn_r _ [7] (by decide +kernel) (by decide +kernel)
set_option maxRecDepth 20000 in
theorem gX6_renew_J7_fill_53178 : GoodIn wsX6_renew (va_wsS RX6 23 yJ7_fill_53178 wsJ7_fill_53178) := goodIn_app (goodIn_of _ (by decide +kernel)) ggX6_renew_J7_fill_53178
set_option maxRecDepth 20000 in
theorem ggX7_findRow_J7_fill_53178 : GoodIn wsX7_findRow wsJ7_fill_53178 := goodIn_r _ [11] (by decide +kernel) (by decide +kernel)
set_option maxRecDepth 20000 in
theorem gX7_findRow_J7_fill_53178 : GoodIn wsX7_findRow (va_wsS RX7 27 yJ7_fill_53178 wsJ7_fill_53178) := goodIn_app (goodIn_of _ (by decide +kernel)) ggX7_findRow_J7_fill_53178
set_option maxRecDepth 20000 in
theorem ggX7_findRow_X0_copyTakes : GoodIn wsX7_findRow wsX0_copyTakes := goodIn_r _ [16, 17, 18, 19, 20, 21, 82, 83, 84, 85, 86, 87, 88, 89, 90] (by decide +kernel) (by decide +kernel)
set_option maxRecDepth 20000 in
theorem gX7_findRow_X0_copyTakes : GoodIn wsX7_findRow (wsV RX7 38 RX0 yX0_copyTakes wsX0_copyTakes) := goodIn_app (goodIn_of _ (by decide +kernel)) ggX7_findRow_X0_copyTakes
set_option maxRecDepth 20000 in
theorem ggX7_findRow_X0_follow : GoodIn wsX7_findRow wsX0_follow := goodIn_r _ [25, 26, 27, 28, 29, 30, 31, 15, 32, 33, 34, 35, 17, 36, 37, 38, 39, 40, 41, 42, 43, 44, 45, 46, 47, 48, 49, 82, 83, 84, 85, 86, 87, 88, 89, 90, 91, 92, 93, 94, 95, 96] (by decide +kernel) (by decide +kernel)
set_option maxRecDepth 20000 in
theorem gX7_findRow_X0_follow : GoodIn wsX7_findRow (wsV RX7 42 RX0 yX0_follow wsX0_follow) := goodIn_app (goodIn_of _ (by decide +kernel)) ggX7_findRow_X0_follow
set_option maxRecDepth 20000 in
theorem ggX10_init_X8_init : GoodIn wsX10_init wsX8_init := goodIn_r _ [40, 41, 2, 3, 42, 43, 44, 127, 128] (by decide +kernel) (by decide +kernel)
set_option maxRecDepth 20000 in
theorem gX10_init_X8_init : GoodIn wsX10_init (wsX8_init) := ggX10_init_X8_init
set_option maxRecDepth 20000 in
theorem ggX10_init_X5_init : GoodIn wsX10_init wsX5_init := goodIn_r _ [47, 48, 2, 3, 49, 50, 51, 52, 42, 53, 54, 55, 56, 57, 58, 59, 60, 61, 62, 63, 64, 65, 66, 67, 194, 195, 196, 197, 139, 140, 141, 142, 143, 144, 145, 146, 147, 148, 149, 150, 151, 152] (by decide +kernel) (by decide +kernel)
set_option maxRecDepth 20000 in
theorem gX10_init_X5_init : GoodIn wsX10_init (wsX5_init) := ggX10_init_X5_init
set_option maxRecDepth 20000 in
theorem ggX10_init_X0_init : GoodIn wsX10_init wsX0_init := goodIn_r _ [70, 71, 2, 3, 42, 72, 73, 74, 75, 76, 153, 154, 155, 156, 157, 158, 159, 160, 161] (by decide +kernel) (by decide +kernel)
set_option maxRecDepth 20000 in
theorem gX10_init_X0_init : GoodIn wsX10_init (wsX0_init) := ggX10_init_X0_init
set_option maxRecDepth 20000 in
theorem ggX10_init_X9_init : GoodIn wsX10_init wsX9_init := goodIn_r _ [79, 80, 2, 3, 81, 42, 82, 83, 84, 85, 162, 163, 164, 165, 166, 167] (by decide +kernel) (by decide +kernel)
set_option maxRecDepth 20000 in
theorem gX10_init_X9_init : GoodIn wsX10_init (wsX9_init) := ggX10_init_X9_init
set_option maxRecDepth 20000 in
theorem ggX10_init_X7_init : GoodIn wsX10_init wsX7_init := goodIn_r _ [88, 89, 2, 3, 90, 42, 91, 92, 93, 168, 169, 170, 171] (by decide +kernel) (by decide +kernel)
set_option maxRecDepth 20000 in
theorem gX10_init_X7_init : GoodIn wsX10_init (wsX7_init) := ggX10_init_X7_init
set_option maxRecDepth 20000 in
theorem ggX10_init_X6_init : GoodIn wsX10_init wsX6_init := goodIn_r _ [96, 97, 2, 3, 98, 42, 99, 100, 101, 102, 103, 104, 105, 172, 173, 174] (by decide +kernel) (by decide +kernel)
set_option maxRecDepth 20000 in
theorem gX10_init_X6_init : GoodIn wsX10_init (wsX6_init) := ggX10_init_X6_init
set_option maxRecDepth 20000 in
theorem ggX10_init_X3_init : GoodIn wsX10_init wsX3_init := goodIn_r _ [108, 109, 2, 3, 42, 110, 111, 112, 113, 114, 115, 116, 175, 176, 177, 178, 179, 180] (by decide +kernel) (by decide +kernel)
set_option maxRecDepth 20000 in
theorem gX10_init_X3_init : GoodIn wsX10_init (wsX3_init) := ggX10_init_X3_init
set_option maxRecDepth 20000 in
theorem ggX10_init_X4_init : GoodIn wsX10_init wsX4_init := goodIn_r _ [119, 120, 2, 3, 121, 122, 42, 123, 124, 111, 125, 126, 181, 182, 183, 184, 185, 186, 187, 188, 189, 190, 191, 192, 193] (by decide +kernel) (by decide +kernel)
set_option maxRecDepth 20000 in
theorem gX10_init_X4_init : GoodIn wsX10_init (wsX4_init) := ggX10_init_X4_init
set_option maxRecDepth 20000 in
theorem ggX10_feed_X8_push : GoodIn wsX10_feed wsX8_push := goodIn_r _ [7, 8, 9, 20, 21] (by decide +kernel) (by decide +kernel)
set_option maxRecDepth 20000 in
theorem gX10_feed_X8_push : GoodIn wsX10_feed (wsV RX10 76 RX8 yX8_push wsX8_push) := goodIn_app (goodIn_of _ (by decide +kernel)) ggX10_feed_X8_push
set_option maxRecDepth 20000 in
theorem ggX10_text_X4_readText : GoodIn wsX10_text wsX4_readText := goodIn_r _ [14, 15, 16, 17, 18, 19, 20, 21, 22, 23, 24, 25, 26, 27, 28, 29, 30, 31, 32, 33, 34, 35, 36, 37, 13, 38, 39, 40, 41, 42, 43, 44, 45, 46, 47, 48, 49, 50, 51, 52, 53, 54, 55, 56, 57, 58, 59, 60, 61, 62, 63, 64, 65, 66, 67, 68, 69, 70, 71, 72, 73, 74, 75, 76, 77, 78, 79, 80, 81, 82, 83, 84, 85, 86, 87, 88, 89, 90, 91, 92, 93, 94, 95, 96, 97, 98, 99, 100, 101, 102, 103, 104, 105, 106, 107, 108, 109, 110, 111, 112, 113, 114, 115, 116, 117, 118, 119, 120, 121, 122, 123, 124, 125, 126, 127, 128, 129, 130, 131, 132, 133, 134, 135, 136, 137, 138, 139, 140, 141, 142, 143, 144, 145, 146, 147, 148, 149, 150, 151, 152, 153, 154, 155, 156, 157, 158, 159, 160, 161, 162, 163, 164, 165, 166, 167, 168, 169, 170, 171, 172, 173, 174, 175, 176, 177, 178, 179, 180, 181, 182, 183, 184, 185, 186, 187, 188, 189, 190, 191, 192, 193, 194, 195, 196, 197, 198, 199, 200, 201, 202, 203, 204, 205, 206, 207, 208, 209, 210, 211, 212, 213, 263, 264, 265, 266, 267, 268, 269, 270, 271, 272, 273, 274, 275, 276, 277, 278, 279, 280, 281, 261, 262] (by decide +kernel) (by decide +kernel)
set_option maxRecDepth 20000 in
theorem gX10_text_X4_readText : GoodIn wsX10_text (wsV RX10 83 RX4 yX4_readText wsX4_readText) := goodIn_app (goodIn_of _ (by decide +kernel)) ggX10_text_X4_readText
set_option maxRecDepth 20000 in
theorem ggX10_text_X5_reset : GoodIn wsX10_text wsX5_reset := goodIn_r _ [218, 219, 220, 221, 222, 223, 224, 225, 226, 227, 228, 229, 230, 231, 232, 233, 234, 235, 180, 181, 25, 182, 124, 282, 283, 284, 285, 286, 287, 288, 289, 290, 291, 292, 293, 294, 295, 296, 297, 298, 299, 276, 277, 278, 279, 280, 281] (by decide +kernel) (by decide +kernel)
set_option maxRecDepth 20000 in
theorem gX10_text_X5_reset : GoodIn wsX10_text (wsV RX10 93 RX5 yX5_reset wsX5_reset) := goodIn_app (goodIn_of _ (by decide +kernel)) ggX10_text_X5_reset
set_option maxRecDepth 20000 in
theorem ggX10_text_X10_forgetReckoned : GoodIn wsX10_text wsX10_forgetReckoned := goodIn_r _ [240, 241, 242, 243, 244, 245, 246, 247, 248, 249, 250, 251, 252, 253, 254, 255, 256, 257, 258, 259, 260, 300, 301, 302, 303, 304, 305, 306, 307, 308, 309] (by decide +kernel) (by decide +kernel)
set_option maxRecDepth 20000 in
theorem gX10_text_X10_forgetReckoned : GoodIn wsX10_text (wsV RX10 97 RX10 yX10_forgetReckoned wsX10_forgetReckoned) := goodIn_app (goodIn_of _ (by decide +kernel)) ggX10_text_X10_forgetReckoned
set_option maxRecDepth 20000 in
theorem ggX10_rail_X3_hasRail : GoodIn wsX10_rail wsX3_hasRail := goodIn_r _ [6, 7, 23, 24, 25, 26, 27, 28] (by decide +kernel) (by decide +kernel)
set_option maxRecDepth 20000 in
theorem gX10_rail_X3_hasRail : GoodIn wsX10_rail (wsV RX10 100 RX3 yX3_hasRail wsX3_hasRail) := goodIn_app (goodIn_of _ (by decide +kernel)) ggX10_rail_X3_hasRail
set_option maxRecDepth 20000 in
theorem ggX10_holds_X3_hasRail : GoodIn wsX10_holds wsX3_hasRail := goodIn_r _ [6, 7, 31, 32, 33, 34, 35, 36] (by decide +kernel) (by decide +kernel)
set_option maxRecDepth 20000 in
theorem gX10_holds_X3_hasRail : GoodIn wsX10_holds (wsV RX10 100 RX3 yX3_hasRail wsX3_hasRail) := goodIn_app (goodIn_of _ (by decide +kernel)) ggX10_holds_X3_hasRail
set_option maxRecDepth 20000 in
theorem ggX10_words_X3_hasRail : GoodIn wsX10_words wsX3_hasRail := goodIn_r _ [6, 7, 35, 36, 37, 38, 39, 40] (by decide +kernel) (by decide +kernel)
set_option maxRecDepth 20000 in
theorem gX10_words_X3_hasRail : GoodIn wsX10_words (wsV RX10 100 RX3 yX3_hasRail wsX3_hasRail) := goodIn_app (goodIn_of _ (by decide +kernel)) ggX10_words_X3_hasRail
set_option maxRecDepth 20000 in
theorem ggX10_key_X10_asNumber : GoodIn wsX10_key wsX10_asNumber := goodIn_r _ [7] (by decide +kernel) (by decide +kernel)
set_option maxRecDepth 20000 in
theorem gX10_key_X10_asNumber : GoodIn wsX10_key (va_wsS RX10 128 yX10_asNumber wsX10_asNumber) := goodIn_app (goodIn_of _ (by decide +kernel)) ggX10_key_X10_asNumber
set_option maxRecDepth 20000 in
theorem ggX10_key_X5_turnKey : GoodIn wsX10_key wsX5_turnKey := goodIn_r _ [12, 13, 14, 15, 16, 27, 28, 29, 30, 31, 32, 33, 34, 35, 36, 37, 38, 39, 40, 41, 42, 43, 44, 45, 46] (by decide +kernel) (by decide +kernel)
set_option maxRecDepth 20000 in
theorem gX10_key_X5_turnKey : GoodIn wsX10_key (wsV RX10 143 RX5 yX5_turnKey wsX5_turnKey) := goodIn_app (goodIn_of _ (by decide +kernel)) ggX10_key_X5_turnKey
set_option maxRecDepth 20000 in
theorem ggX10_dead_X3_hasRail : GoodIn wsX10_dead wsX3_hasRail := goodIn_r _ [8, 9, 52, 53, 54, 55, 56, 57] (by decide +kernel) (by decide +kernel)
set_option maxRecDepth 20000 in
theorem gX10_dead_X3_hasRail : GoodIn wsX10_dead (wsV RX10 100 RX3 yX3_hasRail wsX3_hasRail) := goodIn_app (goodIn_of _ (by decide +kernel)) ggX10_dead_X3_hasRail
set_option maxRecDepth 20000 in
theorem ggX10_time_X3_hasRail : GoodIn wsX10_time wsX3_hasRail := goodIn_r _ [8, 9, 54, 55, 56, 57, 58, 59] (by decide +kernel) (by decide +kernel)
set_option maxRecDepth 20000 in
theorem gX10_time_X3_hasRail : GoodIn wsX10_time (wsV RX10 100 RX3 yX3_hasRail wsX3_hasRail) := goodIn_app (goodIn_of _ (by decide +kernel)) ggX10_time_X3_hasRail
set_option maxRecDepth 20000 in
theorem ggX10_go_X5_passTick : GoodIn wsX10_go wsX5_passTick := goodIn_r _ [8, 9, 10, 11, 12, 13, 14, 15, 16, 17, 7, 18, 19, 20, 21, 22, 23, 24, 25, 26, 27, 28, 29, 30, 31, 32, 33, 34, 35, 36, 37, 38, 39, 40, 41, 42, 43, 44, 45, 46, 47, 48, 49, 50, 51, 52, 53, 54, 55, 56, 57, 58, 59, 60, 61, 62, 63, 64, 65, 66, 67, 68, 69, 70, 71, 72, 73, 74, 75, 76, 77, 78, 79, 80, 81, 82, 83, 84, 85, 86, 87, 88, 89, 100, 101, 102, 103, 104, 105, 106, 107, 108, 109, 110, 111, 112, 113, 114, 115, 116, 117, 118, 119, 120, 121, 122, 123] (by decide +kernel) (by decide +kernel)
set_option maxRecDepth 20000 in
theorem gX10_go_X5_passTick : GoodIn wsX10_go (wsV RX10 157 RX5 yX5_passTick wsX5_passTick) := goodIn_app (goodIn_of _ (by decide +kernel)) ggX10_go_X5_passTick
set_option maxRecDepth 20000 in
theorem ggX10_now_X5_railsThatAre : GoodIn wsX10_now wsX5_railsThatAre := goodIn_r _ [13, 14, 29, 30, 31, 32, 33, 34, 35, 36, 37, 38, 39, 40, 41, 42] (by decide +kernel) (by decide +kernel)
set_option maxRecDepth 20000 in
theorem gX10_now_X5_railsThatAre : GoodIn wsX10_now (wsV RX10 163 RX5 yX5_railsThatAre wsX5_railsThatAre) := goodIn_app (goodIn_of _ (by decide +kernel)) ggX10_now_X5_railsThatAre
set_option maxRecDepth 20000 in
theorem ggX10_now_X10_asNumber : GoodIn wsX10_now wsX10_asNumber := goodIn_r _ [18] (by decide +kernel) (by decide +kernel)
set_option maxRecDepth 20000 in
theorem gX10_now_X10_asNumber : GoodIn wsX10_now (va_wsS RX10 128 yX10_asNumber wsX10_asNumber) := goodIn_app (goodIn_of _ (by decide +kernel)) ggX10_now_X10_asNumber
set_option maxRecDepth 20000 in
theorem ggX10_is_X3_hasRail : GoodIn wsX10_is wsX3_hasRail := goodIn_r _ [12, 13, 38, 39, 40, 41, 42, 43] (by decide +kernel) (by decide +kernel)
set_option maxRecDepth 20000 in
theorem gX10_is_X3_hasRail : GoodIn wsX10_is (wsV RX10 100 RX3 yX3_hasRail wsX3_hasRail) := goodIn_app (goodIn_of _ (by decide +kernel)) ggX10_is_X3_hasRail
set_option maxRecDepth 20000 in
theorem ggX10_up_X3_allRails : GoodIn wsX10_up wsX3_allRails := goodIn_r _ [8, 9, 43, 44, 45, 46, 47, 48] (by decide +kernel) (by decide +kernel)
set_option maxRecDepth 20000 in
theorem gX10_up_X3_allRails : GoodIn wsX10_up (wsV RX10 120 RX3 yX3_allRails wsX3_allRails) := goodIn_app (goodIn_of _ (by decide +kernel)) ggX10_up_X3_allRails
set_option maxRecDepth 20000 in
theorem ggX10_up_X3_upAmong : GoodIn wsX10_up wsX3_upAmong := goodIn_r _ [13, 9, 14, 15, 16, 7, 17, 18, 43, 44, 45, 46, 47, 48] (by decide +kernel) (by decide +kernel)
set_option maxRecDepth 20000 in
theorem gX10_up_X3_upAmong : GoodIn wsX10_up (wsV RX10 205 RX3 yX3_upAmong wsX3_upAmong) := goodIn_app (goodIn_of _ (by decide +kernel)) ggX10_up_X3_upAmong
set_option maxRecDepth 20000 in
theorem ggX10_when_X3_hasRail : GoodIn wsX10_when wsX3_hasRail := goodIn_r _ [8, 9, 99, 100, 101, 102, 103, 104] (by decide +kernel) (by decide +kernel)
set_option maxRecDepth 20000 in
theorem gX10_when_X3_hasRail : GoodIn wsX10_when (wsV RX10 100 RX3 yX3_hasRail wsX3_hasRail) := goodIn_app (goodIn_of _ (by decide +kernel)) ggX10_when_X3_hasRail
set_option maxRecDepth 20000 in
theorem ggX10_ahead_X3_hasRail : GoodIn wsX10_ahead wsX3_hasRail := goodIn_r _ [7, 8, 111, 112, 113, 114, 115, 116] (by decide +kernel) (by decide +kernel)
set_option maxRecDepth 20000 in
theorem gX10_ahead_X3_hasRail : GoodIn wsX10_ahead (wsV RX10 100 RX3 yX3_hasRail wsX3_hasRail) := goodIn_app (goodIn_of _ (by decide +kernel)) ggX10_ahead_X3_hasRail
set_option maxRecDepth 20000 in
theorem ggX10_drawn_X10_followTimes : GoodIn wsX10_drawn wsX10_followTimes := goodIn_r _ [7, 1, 2, 8, 9, 10, 11, 12, 13, 14, 15, 16, 17, 18, 19, 20, 21, 22, 23, 24, 25, 26, 27, 28, 29, 30, 31, 32, 33, 34, 6, 35, 36, 37, 38, 39, 40, 41, 42, 43, 44, 45, 46, 47, 48, 49, 50, 51, 52, 53, 54, 55, 56, 57, 58, 59, 60, 61, 62, 63, 64, 65, 66, 75, 76, 77, 78, 79, 80, 81, 82, 83, 84, 85, 86, 87, 88, 89, 90, 91, 92, 93, 94, 95, 96, 97, 98, 99, 100, 101, 102, 103, 104, 105, 106, 107, 108, 109, 110, 111, 112, 113] (by decide +kernel) (by decide +kernel)
set_option maxRecDepth 20000 in
theorem gX10_drawn_X10_followTimes : GoodIn wsX10_drawn (wsV RX10 208 RX10 yX10_followTimes wsX10_followTimes) := goodIn_app (goodIn_of _ (by decide +kernel)) ggX10_drawn_X10_followTimes
set_option maxRecDepth 20000 in
theorem ggX10_drawn_X0_drawnAt : GoodIn wsX10_drawn wsX0_drawnAt := goodIn_r _ [70, 15, 48, 53, 71, 72, 73, 13, 74, 46, 17, 18, 19, 20, 21, 22, 99, 100, 101, 102, 103, 104, 105, 106, 107, 108, 109, 110, 111, 112, 113] (by decide +kernel) (by decide +kernel)
set_option maxRecDepth 20000 in
theorem gX10_drawn_X0_drawnAt : GoodIn wsX10_drawn (wsV RX10 237 RX0 yX0_drawnAt wsX0_drawnAt) := goodIn_app (goodIn_of _ (by decide +kernel)) ggX10_drawn_X0_drawnAt
set_option maxRecDepth 20000 in
theorem ggX10_peak_X3_countWays : GoodIn wsX10_peak wsX3_countWays := goodIn_r _ [12, 13, 14, 15, 16, 11, 17, 18, 151, 152, 153, 154, 155, 156] (by decide +kernel) (by decide +kernel)
set_option maxRecDepth 20000 in
theorem gX10_peak_X3_countWays : GoodIn wsX10_peak (wsV RX10 230 RX3 yX3_countWays wsX3_countWays) := goodIn_app (goodIn_of _ (by decide +kernel)) ggX10_peak_X3_countWays
set_option maxRecDepth 20000 in
theorem ggX10_peak_X10_alive : GoodIn wsX10_peak wsX10_alive := goodIn_r _ [23, 1, 24, 25, 26, 27, 28, 11, 29, 13, 126, 127, 128, 129, 130, 131, 132, 133, 134, 135, 157, 158, 159, 160, 161, 162, 163, 164, 165, 166, 167, 168, 169, 170, 151, 152, 153, 154, 155, 156] (by decide +kernel) (by decide +kernel)
set_option maxRecDepth 20000 in
theorem gX10_peak_X10_alive : GoodIn wsX10_peak (wsV RX10 218 RX10 yX10_alive wsX10_alive) := goodIn_app (goodIn_of _ (by decide +kernel)) ggX10_peak_X10_alive
set_option maxRecDepth 20000 in
theorem ggX10_peak_X3_upAmong : GoodIn wsX10_peak wsX3_upAmong := goodIn_r _ [33, 13, 34, 35, 36, 11, 37, 38, 151, 152, 153, 154, 155, 156] (by decide +kernel) (by decide +kernel)
set_option maxRecDepth 20000 in
theorem gX10_peak_X3_upAmong : GoodIn wsX10_peak (wsV RX10 205 RX3 yX3_upAmong wsX3_upAmong) := goodIn_app (goodIn_of _ (by decide +kernel)) ggX10_peak_X3_upAmong
set_option maxRecDepth 20000 in
theorem ggX10_stagger_X10_alive : GoodIn wsX10_stagger wsX10_alive := goodIn_r _ [12, 1, 4, 13, 14, 15, 16, 17, 18, 19, 100, 101, 102, 103, 104, 105, 106, 107, 108, 109, 116, 117, 118, 119, 120, 121, 122, 123, 124, 125, 126, 127, 128, 129, 110, 111, 112, 113, 114, 115] (by decide +kernel) (by decide +kernel)
set_option maxRecDepth 20000 in
theorem gX10_stagger_X10_alive : GoodIn wsX10_stagger (wsV RX10 218 RX10 yX10_alive wsX10_alive) := goodIn_app (goodIn_of _ (by decide +kernel)) ggX10_stagger_X10_alive
set_option maxRecDepth 20000 in
theorem ggX10_stagger_X7_findRow : GoodIn wsX10_stagger wsX7_findRow := goodIn_r _ [24, 25, 26, 27, 28, 29, 30, 31, 32, 33, 34, 35, 36, 37, 38, 39, 40, 41, 42, 43, 44, 45, 46, 47, 48, 49, 50, 51, 52, 53, 54, 55, 56, 57, 58, 59, 60, 61, 62, 17, 63, 64, 65, 66, 67, 68, 69, 70, 71, 72, 73, 74, 75, 23, 76, 77, 78, 79, 80, 81, 82, 83, 84, 85, 86, 87, 88, 89, 90, 91, 92, 93, 94, 95, 96, 97, 98, 99, 130, 131, 132, 133, 134, 135, 136, 137, 138, 139, 140, 141, 142, 110, 111, 112, 113, 114, 115] (by decide +kernel) (by decide +kernel)
set_option maxRecDepth 20000 in
theorem gX10_stagger_X7_findRow : GoodIn wsX10_stagger (wsV RX10 259 RX7 yX7_findRow wsX7_findRow) := goodIn_app (goodIn_of _ (by decide +kernel)) ggX10_stagger_X7_findRow
set_option maxRecDepth 20000 in
theorem ggX10_adopt_X10_alive : GoodIn wsX10_adopt wsX10_alive := goodIn_r _ [12, 1, 4, 13, 14, 15, 16, 17, 18, 19, 121, 122, 123, 124, 125, 126, 127, 128, 129, 130, 137, 138, 139, 140, 141, 142, 143, 144, 145, 146, 147, 148, 149, 150, 131, 132, 133, 134, 135, 136] (by decide +kernel) (by decide +kernel)
set_option maxRecDepth 20000 in
theorem gX10_adopt_X10_alive : GoodIn wsX10_adopt (wsV RX10 218 RX10 yX10_alive wsX10_alive) := goodIn_app (goodIn_of _ (by decide +kernel)) ggX10_adopt_X10_alive
set_option maxRecDepth 20000 in
theorem ggX10_adopt_X7_findRow : GoodIn wsX10_adopt wsX7_findRow := goodIn_r _ [24, 25, 26, 27, 28, 29, 30, 31, 32, 33, 34, 35, 36, 37, 38, 39, 40, 41, 42, 43, 44, 45, 46, 47, 48, 49, 50, 51, 52, 53, 54, 55, 56, 57, 58, 59, 60, 61, 62, 17, 63, 64, 65, 66, 67, 68, 69, 70, 71, 72, 73, 74, 75, 23, 76, 77, 78, 79, 80, 81, 82, 83, 84, 85, 86, 87, 88, 89, 90, 91, 92, 93, 94, 95, 96, 97, 98, 99, 151, 152, 153, 154, 155, 156, 157, 158, 159, 160, 161, 162, 163, 131, 132, 133, 134, 135, 136] (by decide +kernel) (by decide +kernel)
set_option maxRecDepth 20000 in
theorem gX10_adopt_X7_findRow : GoodIn wsX10_adopt (wsV RX10 259 RX7 yX7_findRow wsX7_findRow) := goodIn_app (goodIn_of _ (by decide +kernel)) ggX10_adopt_X7_findRow
set_option maxRecDepth 20000 in
theorem ggX10_down_X3_allRails : GoodIn wsX10_down wsX3_allRails := goodIn_r _ [6, 7, 34, 35, 36, 37, 38, 39] (by decide +kernel) (by decide +kernel)
set_option maxRecDepth 20000 in
theorem gX10_down_X3_allRails : GoodIn wsX10_down (wsV RX10 120 RX3 yX3_allRails wsX3_allRails) := goodIn_app (goodIn_of _ (by decide +kernel)) ggX10_down_X3_allRails
set_option maxRecDepth 20000 in
theorem ggX10_down_X10_alive : GoodIn wsX10_down wsX10_alive := goodIn_r _ [12, 1, 13, 14, 2, 3, 4, 5, 6, 7, 24, 25, 26, 27, 28, 29, 30, 31, 32, 33, 40, 41, 42, 43, 44, 45, 46, 47, 48, 49, 50, 51, 52, 53, 34, 35, 36, 37, 38, 39] (by decide +kernel) (by decide +kernel)
set_option maxRecDepth 20000 in
theorem gX10_down_X10_alive : GoodIn wsX10_down (wsV RX10 218 RX10 yX10_alive wsX10_alive) := goodIn_app (goodIn_of _ (by decide +kernel)) ggX10_down_X10_alive
set_option maxRecDepth 20000 in
theorem ggX10_down_X3_upAmong : GoodIn wsX10_down wsX3_upAmong := goodIn_r _ [18, 7, 19, 20, 21, 5, 22, 23, 34, 35, 36, 37, 38, 39] (by decide +kernel) (by decide +kernel)
set_option maxRecDepth 20000 in
theorem gX10_down_X3_upAmong : GoodIn wsX10_down (wsV RX10 205 RX3 yX3_upAmong wsX3_upAmong) := goodIn_app (goodIn_of _ (by decide +kernel)) ggX10_down_X3_upAmong
set_option maxRecDepth 20000 in
theorem ggX10_cut_X3_hasRail : GoodIn wsX10_cut wsX3_hasRail := goodIn_r _ [6, 7, 59, 60, 61, 62, 63, 64] (by decide +kernel) (by decide +kernel)
set_option maxRecDepth 20000 in
theorem gX10_cut_X3_hasRail : GoodIn wsX10_cut (wsV RX10 100 RX3 yX3_hasRail wsX3_hasRail) := goodIn_app (goodIn_of _ (by decide +kernel)) ggX10_cut_X3_hasRail
set_option maxRecDepth 20000 in
theorem ggX10_need_X3_hasRail : GoodIn wsX10_need wsX3_hasRail := goodIn_r _ [6, 7, 59, 60, 61, 62, 63, 64] (by decide +kernel) (by decide +kernel)
set_option maxRecDepth 20000 in
theorem gX10_need_X3_hasRail : GoodIn wsX10_need (wsV RX10 100 RX3 yX3_hasRail wsX3_hasRail) := goodIn_app (goodIn_of _ (by decide +kernel)) ggX10_need_X3_hasRail
set_option maxRecDepth 20000 in
theorem ggX10_must_X3_hasRail : GoodIn wsX10_must wsX3_hasRail := goodIn_r _ [6, 7, 51, 52, 53, 54, 55, 56] (by decide +kernel) (by decide +kernel)
set_option maxRecDepth 20000 in
theorem gX10_must_X3_hasRail : GoodIn wsX10_must (wsV RX10 100 RX3 yX3_hasRail wsX3_hasRail) := goodIn_app (goodIn_of _ (by decide +kernel)) ggX10_must_X3_hasRail
set_option maxRecDepth 20000 in
theorem ggX10_seen_X3_allRails : GoodIn wsX10_seen wsX3_allRails := goodIn_r _ [6, 7, 33, 34, 35, 36, 37, 38] (by decide +kernel) (by decide +kernel)
set_option maxRecDepth 20000 in
theorem gX10_seen_X3_allRails : GoodIn wsX10_seen (wsV RX10 120 RX3 yX3_allRails wsX3_allRails) := goodIn_app (goodIn_of _ (by decide +kernel)) ggX10_seen_X3_allRails
set_option maxRecDepth 20000 in
theorem ggX10_seen_X1_thatExplain : GoodIn wsX10_seen wsX1_thatExplain := goodIn_r _ [11, 12, 13, 3, 4, 5, 6, 7, 14, 15, 16, 17, 18, 19, 20, 21, 22, 33, 34, 35, 36, 37, 38] (by decide +kernel) (by decide +kernel)
set_option maxRecDepth 20000 in
theorem gX10_seen_X1_thatExplain : GoodIn wsX10_seen (va_wsS RX10 292 yX1_thatExplain wsX1_thatExplain) := goodIn_app (goodIn_of _ (by decide +kernel)) ggX10_seen_X1_thatExplain
set_option maxRecDepth 20000 in
theorem ggX10_sheet_X6_hasPlace : GoodIn wsX10_sheet wsX6_hasPlace := goodIn_r _ [5] (by decide +kernel) (by decide +kernel)
set_option maxRecDepth 20000 in
theorem gX10_sheet_X6_hasPlace : GoodIn wsX10_sheet (va_wsS RX10 295 yX6_hasPlace wsX6_hasPlace) := goodIn_app (goodIn_of _ (by decide +kernel)) ggX10_sheet_X6_hasPlace
set_option maxRecDepth 20000 in
theorem ggX10_sheet_X6_isLane : GoodIn wsX10_sheet wsX6_isLane := goodIn_r _ [8] (by decide +kernel) (by decide +kernel)
set_option maxRecDepth 20000 in
theorem gX10_sheet_X6_isLane : GoodIn wsX10_sheet (va_wsS RX10 298 yX6_isLane wsX6_isLane) := goodIn_app (goodIn_of _ (by decide +kernel)) ggX10_sheet_X6_isLane
set_option maxRecDepth 20000 in
theorem ggX10_sheet_X6_renew : GoodIn wsX10_sheet wsX6_renew := goodIn_r _ [12, 13, 14, 15, 16, 17, 18, 19, 30, 31, 32] (by decide +kernel) (by decide +kernel)
set_option maxRecDepth 20000 in
theorem gX10_sheet_X6_renew : GoodIn wsX10_sheet (wsV RX10 301 RX6 yX6_renew wsX6_renew) := goodIn_app (goodIn_of _ (by decide +kernel)) ggX10_sheet_X6_renew
set_option maxRecDepth 20000 in
theorem ggX10_lay_X6_hasPlace : GoodIn wsX10_lay wsX6_hasPlace := goodIn_r _ [6] (by decide +kernel) (by decide +kernel)
set_option maxRecDepth 20000 in
theorem gX10_lay_X6_hasPlace : GoodIn wsX10_lay (va_wsS RX10 295 yX6_hasPlace wsX6_hasPlace) := goodIn_app (goodIn_of _ (by decide +kernel)) ggX10_lay_X6_hasPlace
set_option maxRecDepth 20000 in
theorem ggX10_measured_X6_hasPlace : GoodIn wsX10_measured wsX6_hasPlace := goodIn_r _ [7] (by decide +kernel) (by decide +kernel)
set_option maxRecDepth 20000 in
theorem gX10_measured_X6_hasPlace : GoodIn wsX10_measured (va_wsS RX10 295 yX6_hasPlace wsX6_hasPlace) := goodIn_app (goodIn_of _ (by decide +kernel)) ggX10_measured_X6_hasPlace
set_option maxRecDepth 20000 in
theorem ggX10_measured_X6_isLane : GoodIn wsX10_measured wsX6_isLane := goodIn_r _ [10] (by decide +kernel) (by decide +kernel)
end
section
set_option maxRecDepth 20000 in
theorem gX10_measured_X6_isLane : GoodIn wsX10_measured (va_wsS RX10 298 yX6_isLane wsX6_isLane) := goodIn_app (goodIn_of _ (by decide +kernel)) ggX10_measured_X6_isLane
set_option maxRecDepth 20000 in
theorem ggX10_count_J6_bitCount_0f7a4 : GoodIn wsX10_count wsJ6_bitCount_0f7a4 := goodIn_r _ [14, 15, 16, 17] (by decide +kernel) (by decide +kernel)
set_option maxRecDepth 20000 in
theorem gX10_count_J6_bitCount_0f7a4 : GoodIn wsX10_count (va_wsS RX10 281 yJ6_bitCount_0f7a4 wsJ6_bitCount_0f7a4) := goodIn_app (goodIn_of _ (by decide +kernel)) ggX10_count_J6_bitCount_0f7a4
set_option maxRecDepth 20000 in
theorem ggX10_count_X3_countWays : GoodIn wsX10_count wsX3_countWays := goodIn_r _ [22, 23, 24, 25, 26, 21, 27, 28, 39, 40, 41, 42, 43, 44] (by decide +kernel) (by decide +kernel)
set_option maxRecDepth 20000 in
theorem gX10_count_X3_countWays : GoodIn wsX10_count (wsV RX10 230 RX3 yX3_countWays wsX3_countWays) := goodIn_app (goodIn_of _ (by decide +kernel)) ggX10_count_X3_countWays
set_option maxRecDepth 20000 in
theorem ggX10_alive_X3_allRails : GoodIn wsX10_alive wsX3_allRails := goodIn_r _ [8, 9, 34, 35, 36, 37, 38, 39] (by decide +kernel) (by decide +kernel)
set_option maxRecDepth 20000 in
theorem gX10_alive_X3_allRails : GoodIn wsX10_alive (wsV RX10 120 RX3 yX3_allRails wsX3_allRails) := goodIn_app (goodIn_of _ (by decide +kernel)) ggX10_alive_X3_allRails
set_option maxRecDepth 20000 in
theorem ggX10_followTimes_X0_setWaits : GoodIn wsX10_followTimes wsX0_setWaits := goodIn_r _ [9, 10, 11, 12, 13, 14, 15, 16, 17, 87, 88, 89, 90, 91, 92, 93, 94, 95, 96, 97, 98, 99, 100, 101] (by decide +kernel) (by decide +kernel)
set_option maxRecDepth 20000 in
theorem gX10_followTimes_X0_setWaits : GoodIn wsX10_followTimes (wsV RX10 211 RX0 yX0_setWaits wsX0_setWaits) := goodIn_app (goodIn_of _ (by decide +kernel)) ggX10_followTimes_X0_setWaits
set_option maxRecDepth 20000 in
theorem ggX10_followTimes_X0_copyTakes : GoodIn wsX10_followTimes wsX0_copyTakes := goodIn_r _ [21, 22, 23, 24, 25, 26, 93, 94, 95, 96, 97, 98, 99, 100, 101] (by decide +kernel) (by decide +kernel)
set_option maxRecDepth 20000 in
theorem gX10_followTimes_X0_copyTakes : GoodIn wsX10_followTimes (wsV RX10 318 RX0 yX0_copyTakes wsX0_copyTakes) := goodIn_app (goodIn_of _ (by decide +kernel)) ggX10_followTimes_X0_copyTakes
set_option maxRecDepth 20000 in
theorem ggX10_followTimes_X10_alive : GoodIn wsX10_followTimes wsX10_alive := goodIn_r _ [31, 2, 3, 32, 33, 34, 35, 15, 36, 37, 63, 64, 65, 66, 67, 68, 69, 70, 71, 72, 73, 74, 75, 76, 77, 78, 79, 80, 81, 82, 83, 84, 85, 86, 87, 88, 89, 90, 91, 92] (by decide +kernel) (by decide +kernel)
set_option maxRecDepth 20000 in
theorem gX10_followTimes_X10_alive : GoodIn wsX10_followTimes (wsV RX10 218 RX10 yX10_alive wsX10_alive) := goodIn_app (goodIn_of _ (by decide +kernel)) ggX10_followTimes_X10_alive
set_option maxRecDepth 20000 in
theorem ggX10_followTimes_X0_follow : GoodIn wsX10_followTimes wsX0_follow := goodIn_r _ [41, 42, 43, 44, 45, 46, 47, 8, 48, 10, 49, 11, 22, 50, 51, 52, 15, 53, 54, 55, 56, 57, 58, 59, 60, 61, 62, 93, 94, 95, 96, 97, 98, 99, 100, 101, 87, 88, 89, 90, 91, 92] (by decide +kernel) (by decide +kernel)
set_option maxRecDepth 20000 in
theorem gX10_followTimes_X0_follow : GoodIn wsX10_followTimes (wsV RX10 221 RX0 yX0_follow wsX0_follow) := goodIn_app (goodIn_of _ (by decide +kernel)) ggX10_followTimes_X0_follow
set_option maxRecDepth 20000 in
theorem ggX10_forgetReckoned_X9_forget : GoodIn wsX10_forgetReckoned wsX9_forget := goodIn_r _ [8, 9, 10, 25, 26, 27, 28, 29, 30] (by decide +kernel) (by decide +kernel)
set_option maxRecDepth 20000 in
theorem gX10_forgetReckoned_X9_forget : GoodIn wsX10_forgetReckoned (wsV RX10 321 RX9 yX9_forget wsX9_forget) := goodIn_app (goodIn_of _ (by decide +kernel)) ggX10_forgetReckoned_X9_forget
set_option maxRecDepth 20000 in
theorem ggX11_init_X11_firstDraft : GoodIn wsX11_init wsX11_firstDraft := goodIn_r _ [37, 38, 39, 40, 41, 42, 43, 44, 69, 70, 71, 72, 73, 74, 75, 76, 77, 78, 79, 80, 81, 82, 83, 84, 85, 86, 87, 88, 89, 90, 91, 92, 93, 94, 95, 96, 97, 98, 99, 100, 101, 102, 103, 104, 105, 106, 107, 108, 109, 110, 111, 112, 113, 114, 115, 116, 117, 118, 119, 120, 121, 122, 123, 124, 125, 126, 127] (by decide +kernel) (by decide +kernel)
set_option maxRecDepth 20000 in
theorem gX11_init_X11_firstDraft : GoodIn wsX11_init (wsV RX11 92 RX11 yX11_firstDraft wsX11_firstDraft) := goodIn_app (goodIn_of _ (by decide +kernel)) ggX11_init_X11_firstDraft
set_option maxRecDepth 20000 in
theorem ggX11_init_X11_keepDraft : GoodIn wsX11_init wsX11_keepDraft := goodIn_r _ [48, 38, 49, 39, 50, 40, 51, 41, 52, 5, 9, 6, 10, 8, 11, 53, 54, 55, 36, 56, 57, 58, 59, 60, 61, 62, 63, 64, 18, 19, 20, 21, 22, 23, 65, 66, 67, 68, 69, 70, 71, 72, 73, 74, 75, 76, 77, 78, 79, 80, 81, 82, 83, 84, 85, 86, 87, 88, 89, 90, 91, 92, 93, 94, 95, 96, 97, 98, 99, 100, 101, 102, 103, 104, 105, 106, 107, 108, 109, 110, 111, 112, 113, 114, 115, 116, 117, 118, 119, 120, 121, 122, 123, 124, 125, 126, 127] (by decide +kernel) (by decide +kernel)
set_option maxRecDepth 20000 in
theorem gX11_init_X11_keepDraft : GoodIn wsX11_init (wsV RX11 95 RX11 yX11_keepDraft wsX11_keepDraft) := goodIn_app (goodIn_of _ (by decide +kernel)) ggX11_init_X11_keepDraft
set_option maxRecDepth 20000 in
theorem ggX11_keepDraft_X11_begins : GoodIn wsX11_keepDraft wsX11_begins := goodIn_r _ [19, 20, 21, 22, 6, 23, 24, 25, 26, 27, 28, 29, 30, 31, 32, 2, 33, 34, 35, 36, 18, 37, 9, 38, 39, 40, 41, 42, 43, 44, 45, 46, 47, 48, 49, 50, 51, 52, 53, 54, 55, 56, 57, 58, 59, 60, 61, 62, 63, 64, 65, 66, 67, 68, 69, 70, 71, 72, 73, 74, 75, 76, 77, 78, 79, 80, 81, 82, 83, 84, 85, 86, 87, 88, 89, 90, 91, 92, 93, 94, 95, 96] (by decide +kernel) (by decide +kernel)
set_option maxRecDepth 20000 in
theorem gX11_keepDraft_X11_begins : GoodIn wsX11_keepDraft (wsV RX11 133 RX11 yX11_begins wsX11_begins) := goodIn_app (goodIn_of _ (by decide +kernel)) ggX11_keepDraft_X11_begins
set_option maxRecDepth 20000 in
theorem ggX11_end_X11_in : GoodIn wsX11_end wsX11_in := goodIn_r _ [5] (by decide +kernel) (by decide +kernel)
set_option maxRecDepth 20000 in
theorem gX11_end_X11_in : GoodIn wsX11_end (va_wsS RX11 141 yX11_in wsX11_in) := goodIn_app (goodIn_of _ (by decide +kernel)) ggX11_end_X11_in
set_option maxRecDepth 20000 in
theorem ggX11_next_X11_look : GoodIn wsX11_next wsX11_look := goodIn_r _ [14, 15, 16, 25, 26, 27, 28, 29, 30, 31, 32, 33, 34, 35, 36, 37, 38, 39, 40, 41, 42, 43, 44, 45, 46, 47, 48, 49, 50, 51, 52, 53, 54, 55, 56, 57, 58, 59, 60, 61, 62, 63, 64, 65, 66, 67, 68, 69, 70, 71, 72, 73, 74, 75, 76, 77, 78, 79, 80, 81, 82, 83] (by decide +kernel) (by decide +kernel)
set_option maxRecDepth 20000 in
theorem gX11_next_X11_look : GoodIn wsX11_next (wsV RX11 157 RX11 yX11_look wsX11_look) := goodIn_app (goodIn_of _ (by decide +kernel)) ggX11_next_X11_look
set_option maxRecDepth 20000 in
theorem ggX11_text_X11_firstDraft : GoodIn wsX11_text wsX11_firstDraft := goodIn_r _ [14, 6, 15, 16, 17, 18, 19, 4, 145, 146, 147, 148, 149, 150, 151, 152, 153, 154, 155, 156, 157, 158, 159, 160, 161, 162, 163, 164, 165, 166, 167, 168, 169, 170, 171, 172, 173, 174, 175, 176, 177, 178, 179, 180, 181, 182, 183, 184, 185, 186, 187, 188, 189, 190, 191, 192, 193, 194, 195, 196, 197, 198, 199, 200, 201, 202, 203] (by decide +kernel) (by decide +kernel)
set_option maxRecDepth 20000 in
theorem gX11_text_X11_firstDraft : GoodIn wsX11_text (wsV RX11 92 RX11 yX11_firstDraft wsX11_firstDraft) := goodIn_app (goodIn_of _ (by decide +kernel)) ggX11_text_X11_firstDraft
set_option maxRecDepth 20000 in
theorem ggX11_text_X11_next : GoodIn wsX11_text wsX11_next := goodIn_r _ [23, 1, 2, 24, 3, 25, 26, 27, 28, 29, 30, 31, 32, 13, 33, 9, 34, 35, 36, 37, 38, 39, 40, 41, 8, 145, 146, 147, 148, 149, 150, 151, 152, 153, 154, 155, 156, 157, 158, 159, 160, 161, 162, 163, 164, 165, 166, 167, 168, 169, 170, 171, 172, 173, 174, 175, 176, 177, 178, 179, 180, 181, 182, 183, 184, 185, 186, 187, 188, 189, 190, 191, 192, 193, 194, 195, 196, 197, 198, 199, 200, 201, 202, 203] (by decide +kernel) (by decide +kernel)
set_option maxRecDepth 20000 in
theorem gX11_text_X11_next : GoodIn wsX11_text (wsV RX11 185 RX11 yX11_next wsX11_next) := goodIn_app (goodIn_of _ (by decide +kernel)) ggX11_text_X11_next
set_option maxRecDepth 20000 in
theorem ggX11_text_X11_keepDraft : GoodIn wsX11_text wsX11_keepDraft := goodIn_r _ [115, 6, 116, 15, 117, 16, 118, 17, 119, 120, 61, 121, 105, 122, 106, 123, 124, 125, 13, 126, 127, 128, 129, 130, 131, 132, 133, 134, 135, 136, 137, 138, 139, 140, 141, 142, 143, 144, 145, 146, 147, 148, 149, 150, 151, 152, 153, 154, 155, 156, 157, 158, 159, 160, 161, 162, 163, 164, 165, 166, 167, 168, 169, 170, 171, 172, 173, 174, 175, 176, 177, 178, 179, 180, 181, 182, 183, 184, 185, 186, 187, 188, 189, 190, 191, 192, 193, 194, 195, 196, 197, 198, 199, 200, 201, 202, 203] (by decide +kernel) (by decide +kernel)
set_option maxRecDepth 20000 in
theorem gX11_text_X11_keepDraft : GoodIn wsX11_text (wsV RX11 95 RX11 yX11_keepDraft wsX11_keepDraft) := goodIn_app (goodIn_of _ (by decide +kernel)) ggX11_text_X11_keepDraft
set_option maxRecDepth 20000 in
theorem ggX11_isRail_X11_in : GoodIn wsX11_isRail wsX11_in := goodIn_r _ [5] (by decide +kernel) (by decide +kernel)
set_option maxRecDepth 20000 in
theorem gX11_isRail_X11_in : GoodIn wsX11_isRail (va_wsS RX11 141 yX11_in wsX11_in) := goodIn_app (goodIn_of _ (by decide +kernel)) ggX11_isRail_X11_in
set_option maxRecDepth 20000 in
theorem ggX11_areRails_X11_in : GoodIn wsX11_areRails wsX11_in := goodIn_r _ [5] (by decide +kernel) (by decide +kernel)
set_option maxRecDepth 20000 in
theorem gX11_areRails_X11_in : GoodIn wsX11_areRails (va_wsS RX11 141 yX11_in wsX11_in) := goodIn_app (goodIn_of _ (by decide +kernel)) ggX11_areRails_X11_in
set_option maxRecDepth 20000 in
theorem ggX11_rail_X11_isRail : GoodIn wsX11_rail wsX11_isRail := goodIn_r _ [7, 8, 9, 10, 6, 11, 17, 18, 19, 20, 21, 22, 23, 24, 25, 26, 27, 28, 29, 30, 31, 32, 33, 34, 35, 36, 37, 38, 39, 40, 41, 42, 43, 44, 45, 46, 47, 48, 49, 50, 51, 52, 53, 54, 55, 56, 57, 58, 59, 60, 61, 62, 63, 64, 65, 66, 67, 68, 69, 70, 71, 72, 73, 74, 75] (by decide +kernel) (by decide +kernel)
set_option maxRecDepth 20000 in
theorem gX11_rail_X11_isRail : GoodIn wsX11_rail (wsV RX11 248 RX11 yX11_isRail wsX11_isRail) := goodIn_app (goodIn_of _ (by decide +kernel)) ggX11_rail_X11_isRail
set_option maxRecDepth 20000 in
theorem ggX11_holds_X11_isRail : GoodIn wsX11_holds wsX11_isRail := goodIn_r _ [6, 7, 8, 9, 5, 10, 19, 20, 21, 22, 23, 24, 25, 26, 27, 28, 29, 30, 31, 32, 33, 34, 35, 36, 37, 38, 39, 40, 41, 42, 43, 44, 45, 46, 47, 48, 49, 50, 51, 52, 53, 54, 55, 56, 57, 58, 59, 60, 61, 62, 63, 64, 65, 66, 67, 68, 69, 70, 71, 72, 73, 74, 75, 76, 77] (by decide +kernel) (by decide +kernel)
set_option maxRecDepth 20000 in
theorem gX11_holds_X11_isRail : GoodIn wsX11_holds (wsV RX11 248 RX11 yX11_isRail wsX11_isRail) := goodIn_app (goodIn_of _ (by decide +kernel)) ggX11_holds_X11_isRail
set_option maxRecDepth 20000 in
theorem ggX11_words_X11_isRail : GoodIn wsX11_words wsX11_isRail := goodIn_r _ [5, 6, 7, 8, 4, 9, 19, 20, 21, 22, 23, 24, 25, 26, 27, 28, 29, 30, 31, 32, 33, 34, 35, 36, 37, 38, 39, 40, 41, 42, 43, 44, 45, 46, 47, 48, 49, 50, 51, 52, 53, 54, 55, 56, 57, 58, 59, 60, 61, 62, 63, 64, 65, 66, 67, 68, 69, 70, 71, 72, 73, 74, 75, 76, 77] (by decide +kernel) (by decide +kernel)
set_option maxRecDepth 20000 in
theorem gX11_words_X11_isRail : GoodIn wsX11_words (wsV RX11 248 RX11 yX11_isRail wsX11_isRail) := goodIn_app (goodIn_of _ (by decide +kernel)) ggX11_words_X11_isRail
set_option maxRecDepth 20000 in
theorem ggX11_key_X11_flag : GoodIn wsX11_key wsX11_flag := goodIn_r _ [8] (by decide +kernel) (by decide +kernel)
set_option maxRecDepth 20000 in
theorem gX11_key_X11_flag : GoodIn wsX11_key (va_wsS RX11 260 yX11_flag wsX11_flag) := goodIn_app (goodIn_of _ (by decide +kernel)) ggX11_key_X11_flag
set_option maxRecDepth 20000 in
theorem ggX11_dead_X11_isRail : GoodIn wsX11_dead wsX11_isRail := goodIn_r _ [6, 7, 8, 9, 5, 10, 14, 15, 16, 17, 18, 19, 20, 21, 22, 23, 24, 25, 26, 27, 28, 29, 30, 31, 32, 33, 34, 35, 36, 37, 38, 39, 40, 41, 42, 43, 44, 45, 46, 47, 48, 49, 50, 51, 52, 53, 54, 55, 56, 57, 58, 59, 60, 61, 62, 63, 64, 65, 66, 67, 68, 69, 70, 71, 72] (by decide +kernel) (by decide +kernel)
set_option maxRecDepth 20000 in
theorem gX11_dead_X11_isRail : GoodIn wsX11_dead (wsV RX11 248 RX11 yX11_isRail wsX11_isRail) := goodIn_app (goodIn_of _ (by decide +kernel)) ggX11_dead_X11_isRail
set_option maxRecDepth 20000 in
theorem ggX11_time_X11_isRail : GoodIn wsX11_time wsX11_isRail := goodIn_r _ [6, 7, 8, 9, 5, 10, 16, 17, 18, 19, 20, 21, 22, 23, 24, 25, 26, 27, 28, 29, 30, 31, 32, 33, 34, 35, 36, 37, 38, 39, 40, 41, 42, 43, 44, 45, 46, 47, 48, 49, 50, 51, 52, 53, 54, 55, 56, 57, 58, 59, 60, 61, 62, 63, 64, 65, 66, 67, 68, 69, 70, 71, 72, 73, 74] (by decide +kernel) (by decide +kernel)
set_option maxRecDepth 20000 in
theorem gX11_time_X11_isRail : GoodIn wsX11_time (wsV RX11 248 RX11 yX11_isRail wsX11_isRail) := goodIn_app (goodIn_of _ (by decide +kernel)) ggX11_time_X11_isRail
set_option maxRecDepth 20000 in
theorem ggX11_round_X11_allIn : GoodIn wsX11_round wsX11_allIn := goodIn_r _ [12, 2, 4, 36, 37, 38, 39, 40, 41, 42, 43, 44, 45, 46, 47, 48, 49, 50, 51, 52, 53, 54, 55, 56, 57, 58, 59, 60, 61, 62, 63, 64, 65, 66, 67, 68, 69, 70, 71, 72, 73, 74, 75, 76, 77, 78, 79, 80, 81, 82, 83, 84, 85, 86, 87, 88, 89, 90, 91, 92, 93, 94] (by decide +kernel) (by decide +kernel)
set_option maxRecDepth 20000 in
theorem gX11_round_X11_allIn : GoodIn wsX11_round (wsV RX11 291 RX11 yX11_allIn wsX11_allIn) := goodIn_app (goodIn_of _ (by decide +kernel)) ggX11_round_X11_allIn
set_option maxRecDepth 20000 in
theorem ggX11_settles_X11_round : GoodIn wsX11_settles wsX11_round := goodIn_r _ [5, 6, 7, 8, 9, 10, 11, 12, 13, 14, 15, 4, 16, 17, 18, 19, 20, 21, 22, 23, 24, 25, 26, 27, 28, 29, 30, 31, 32, 33, 34, 35, 36, 37, 38, 39, 40, 41, 42, 43, 44, 45, 46, 47, 48, 49, 50, 51, 52, 53, 54, 55, 56, 57, 58, 59, 60, 61, 62, 63, 64, 65, 66, 67, 68, 69, 70, 71, 72, 73, 74, 75, 76, 77, 78, 79, 80, 81, 82, 83, 84, 85, 86, 87, 88, 89, 90, 91, 92, 93, 94, 95, 96, 97, 98] (by decide +kernel) (by decide +kernel)
set_option maxRecDepth 20000 in
theorem gX11_settles_X11_round : GoodIn wsX11_settles (wsV RX11 302 RX11 yX11_round wsX11_round) := goodIn_app (goodIn_of _ (by decide +kernel)) ggX11_settles_X11_round
set_option maxRecDepth 20000 in
theorem ggX11_aTick_X11_settles : GoodIn wsX11_aTick wsX11_settles := goodIn_r _ [15, 16, 17, 18, 14, 19, 20, 7, 6, 21, 8, 9, 22, 23, 24, 25, 26, 27, 28, 29, 30, 31, 32, 33, 34, 35, 36, 37, 38, 39, 40, 41, 42, 43, 44, 45, 46, 47, 48, 10, 58, 59, 60, 61, 62, 63, 64, 65, 66, 67, 68, 69, 70, 71, 72, 73, 74, 75, 76, 77, 78, 79, 80, 81, 82, 83, 84, 85, 86, 87, 88, 89, 90, 91, 92, 93, 94, 95, 96, 97, 98, 99, 100, 101, 102, 103, 104, 105, 106, 107, 108, 109, 110, 111, 112, 113, 114, 115, 116] (by decide +kernel) (by decide +kernel)
set_option maxRecDepth 20000 in
theorem gX11_aTick_X11_settles : GoodIn wsX11_aTick (wsV RX11 306 RX11 yX11_settles wsX11_settles) := goodIn_app (goodIn_of _ (by decide +kernel)) ggX11_aTick_X11_settles
set_option maxRecDepth 20000 in
theorem ggX11_aTick_X11_allIn : GoodIn wsX11_aTick wsX11_allIn := goodIn_r _ [26, 7, 21, 58, 59, 60, 61, 62, 63, 64, 65, 66, 67, 68, 69, 70, 71, 72, 73, 74, 75, 76, 77, 78, 79, 80, 81, 82, 83, 84, 85, 86, 87, 88, 89, 90, 91, 92, 93, 94, 95, 96, 97, 98, 99, 100, 101, 102, 103, 104, 105, 106, 107, 108, 109, 110, 111, 112, 113, 114, 115, 116] (by decide +kernel) (by decide +kernel)
set_option maxRecDepth 20000 in
theorem gX11_aTick_X11_allIn : GoodIn wsX11_aTick (wsV RX11 291 RX11 yX11_allIn wsX11_allIn) := goodIn_app (goodIn_of _ (by decide +kernel)) ggX11_aTick_X11_allIn
set_option maxRecDepth 20000 in
theorem ggX11_aTick_X11_drawnOf : GoodIn wsX11_aTick wsX11_drawnOf := goodIn_r _ [52, 7, 38, 39, 40, 14, 41, 42, 58, 59, 60, 61, 62, 63, 64, 65, 66, 67, 68, 69, 70, 71, 72, 73, 74, 75, 76, 77, 78, 79, 80, 81, 82, 83, 84, 85, 86, 87, 88, 89, 90, 91, 92, 93, 94, 95, 96, 97, 98, 99, 100, 101, 102, 103, 104, 105, 106, 107, 108, 109, 110, 111, 112, 113, 114, 115, 116] (by decide +kernel) (by decide +kernel)
set_option maxRecDepth 20000 in
theorem gX11_aTick_X11_drawnOf : GoodIn wsX11_aTick (wsV RX11 309 RX11 yX11_drawnOf wsX11_drawnOf) := goodIn_app (goodIn_of _ (by decide +kernel)) ggX11_aTick_X11_drawnOf
set_option maxRecDepth 20000 in
theorem ggX11_aTick_X11_tripNow : GoodIn wsX11_aTick wsX11_tripNow := goodIn_r _ [56, 7, 21, 9, 1, 57, 38, 39, 40, 14, 41, 42, 58, 59, 60, 61, 62, 63, 64, 65, 66, 67, 68, 69, 70, 71, 72, 73, 74, 75, 76, 77, 78, 79, 80, 81, 82, 83, 84, 85, 86, 87, 88, 89, 90, 91, 92, 93, 94, 95, 96, 97, 98, 99, 100, 101, 102, 103, 104, 105, 106, 107, 108, 109, 110, 111, 112, 113, 114, 115, 116] (by decide +kernel) (by decide +kernel)
set_option maxRecDepth 20000 in
theorem gX11_aTick_X11_tripNow : GoodIn wsX11_aTick (wsV RX11 312 RX11 yX11_tripNow wsX11_tripNow) := goodIn_app (goodIn_of _ (by decide +kernel)) ggX11_aTick_X11_tripNow
set_option maxRecDepth 20000 in
theorem ggX11_go_X11_in : GoodIn wsX11_go wsX11_in := goodIn_r _ [6] (by decide +kernel) (by decide +kernel)
set_option maxRecDepth 20000 in
theorem gX11_go_X11_in : GoodIn wsX11_go (va_wsS RX11 141 yX11_in wsX11_in) := goodIn_app (goodIn_of _ (by decide +kernel)) ggX11_go_X11_in
set_option maxRecDepth 20000 in
theorem ggX11_go_X11_aTick : GoodIn wsX11_go wsX11_aTick := goodIn_r _ [10, 11, 12, 2, 13, 14, 15, 16, 17, 18, 19, 20, 21, 22, 5, 23, 24, 25, 26, 27, 28, 29, 30, 31, 32, 33, 34, 35, 36, 37, 38, 39, 40, 41, 42, 43, 44, 45, 46, 47, 48, 49, 50, 51, 52, 53, 54, 55, 56, 57, 58, 59, 60, 61, 62, 63, 64, 65, 66, 67, 68, 69, 70, 71, 72, 73, 74, 75, 76, 77, 78, 79, 80, 81, 82, 83, 84, 85, 86, 87, 88, 89, 90, 91, 92, 93, 94, 95, 96, 97, 98, 99, 100, 101, 102, 103, 104, 105, 106, 107, 108, 109, 110, 111, 112, 113, 114, 115, 116, 117, 118, 119, 120, 121, 122, 123, 124] (by decide +kernel) (by decide +kernel)
set_option maxRecDepth 20000 in
theorem gX11_go_X11_aTick : GoodIn wsX11_go (wsV RX11 317 RX11 yX11_aTick wsX11_aTick) := goodIn_app (goodIn_of _ (by decide +kernel)) ggX11_go_X11_aTick
set_option maxRecDepth 20000 in
theorem ggX11_now_X11_allIn : GoodIn wsX11_now wsX11_allIn := goodIn_r _ [12, 13, 14, 18, 19, 20, 21, 22, 23, 24, 25, 26, 27, 28, 29, 30, 31, 32, 33, 34, 35, 36, 37, 38, 39, 40, 41, 42, 43, 44, 45, 46, 47, 48, 49, 50, 51, 52, 53, 54, 55, 56, 57, 58, 59, 60, 61, 62, 63, 64, 65, 66, 67, 68, 69, 70, 71, 72, 73, 74, 75, 76] (by decide +kernel) (by decide +kernel)
set_option maxRecDepth 20000 in
theorem gX11_now_X11_allIn : GoodIn wsX11_now (wsV RX11 291 RX11 yX11_allIn wsX11_allIn) := goodIn_app (goodIn_of _ (by decide +kernel)) ggX11_now_X11_allIn
set_option maxRecDepth 20000 in
theorem ggX11_now_X11_flag : GoodIn wsX11_now wsX11_flag := goodIn_r _ [17] (by decide +kernel) (by decide +kernel)
set_option maxRecDepth 20000 in
theorem gX11_now_X11_flag : GoodIn wsX11_now (va_wsS RX11 260 yX11_flag wsX11_flag) := goodIn_app (goodIn_of _ (by decide +kernel)) ggX11_now_X11_flag
set_option maxRecDepth 20000 in
theorem ggX11_is__X11_isRail : GoodIn wsX11_is_ wsX11_isRail := goodIn_r _ [11, 12, 13, 14, 10, 15, 19, 20, 21, 22, 23, 24, 25, 26, 27, 28, 29, 30, 31, 32, 33, 34, 35, 36, 37, 38, 39, 40, 41, 42, 43, 44, 45, 46, 47, 48, 49, 50, 51, 52, 53, 54, 55, 56, 57, 58, 59, 60, 61, 62, 63, 64, 65, 66, 67, 68, 69, 70, 71, 72, 73, 74, 75, 76, 77] (by decide +kernel) (by decide +kernel)
set_option maxRecDepth 20000 in
theorem gX11_is__X11_isRail : GoodIn wsX11_is_ (wsV RX11 248 RX11 yX11_isRail wsX11_isRail) := goodIn_app (goodIn_of _ (by decide +kernel)) ggX11_is__X11_isRail
set_option maxRecDepth 20000 in
theorem ggX11_happened_X11_in : GoodIn wsX11_happened wsX11_in := goodIn_r _ [7] (by decide +kernel) (by decide +kernel)
set_option maxRecDepth 20000 in
theorem gX11_happened_X11_in : GoodIn wsX11_happened (va_wsS RX11 141 yX11_in wsX11_in) := goodIn_app (goodIn_of _ (by decide +kernel)) ggX11_happened_X11_in
set_option maxRecDepth 20000 in
theorem ggX11_up_X11_in : GoodIn wsX11_up wsX11_in := goodIn_r _ [6] (by decide +kernel) (by decide +kernel)
set_option maxRecDepth 20000 in
theorem gX11_up_X11_in : GoodIn wsX11_up (va_wsS RX11 141 yX11_in wsX11_in) := goodIn_app (goodIn_of _ (by decide +kernel)) ggX11_up_X11_in
set_option maxRecDepth 20000 in
theorem ggX11_up_X11_deadOnes : GoodIn wsX11_up wsX11_deadOnes := goodIn_r _ [10, 2, 11, 21, 22, 23, 24, 25, 26, 27, 28, 29, 30, 31, 32, 33, 34, 35, 36, 37, 38, 39, 40, 41, 42, 43, 44, 45, 46, 47, 48, 49, 50, 51, 52, 53, 54, 55, 56, 57, 58, 59, 60, 61, 62, 63, 64, 65, 66, 67, 68, 69, 70, 71, 72, 73, 74, 75, 76, 77, 78, 79] (by decide +kernel) (by decide +kernel)
set_option maxRecDepth 20000 in
theorem gX11_up_X11_deadOnes : GoodIn wsX11_up (wsV RX11 324 RX11 yX11_deadOnes wsX11_deadOnes) := goodIn_app (goodIn_of _ (by decide +kernel)) ggX11_up_X11_deadOnes
set_option maxRecDepth 20000 in
theorem ggX11_up_X11_upBut : GoodIn wsX11_up wsX11_upBut := goodIn_r _ [15, 2, 16, 17, 18, 5, 19, 20, 21, 22, 23, 24, 25, 26, 27, 28, 29, 30, 31, 32, 33, 34, 35, 36, 37, 38, 39, 40, 41, 42, 43, 44, 45, 46, 47, 48, 49, 50, 51, 52, 53, 54, 55, 56, 57, 58, 59, 60, 61, 62, 63, 64, 65, 66, 67, 68, 69, 70, 71, 72, 73, 74, 75, 76, 77, 78, 79] (by decide +kernel) (by decide +kernel)
set_option maxRecDepth 20000 in
theorem gX11_up_X11_upBut : GoodIn wsX11_up (wsV RX11 327 RX11 yX11_upBut wsX11_upBut) := goodIn_app (goodIn_of _ (by decide +kernel)) ggX11_up_X11_upBut
set_option maxRecDepth 20000 in
theorem ggX11_findTimes_X11_deadOnes : GoodIn wsX11_findTimes wsX11_deadOnes := goodIn_r _ [12, 5, 13, 23, 24, 25, 26, 27, 28, 29, 30, 31, 32, 33, 34, 35, 36, 37, 38, 39, 40, 41, 42, 43, 44, 45, 46, 47, 48, 49, 50, 51, 52, 53, 54, 55, 56, 57, 58, 59, 60, 61, 62, 63, 64, 65, 66, 67, 68, 69, 70, 71, 72, 73, 74, 75, 76, 77, 78, 79, 80, 81] (by decide +kernel) (by decide +kernel)
set_option maxRecDepth 20000 in
theorem gX11_findTimes_X11_deadOnes : GoodIn wsX11_findTimes (wsV RX11 324 RX11 yX11_deadOnes wsX11_deadOnes) := goodIn_app (goodIn_of _ (by decide +kernel)) ggX11_findTimes_X11_deadOnes
set_option maxRecDepth 20000 in
theorem ggX11_findTimes_X11_upBut : GoodIn wsX11_findTimes wsX11_upBut := goodIn_r _ [17, 5, 18, 19, 20, 11, 21, 22, 23, 24, 25, 26, 27, 28, 29, 30, 31, 32, 33, 34, 35, 36, 37, 38, 39, 40, 41, 42, 43, 44, 45, 46, 47, 48, 49, 50, 51, 52, 53, 54, 55, 56, 57, 58, 59, 60, 61, 62, 63, 64, 65, 66, 67, 68, 69, 70, 71, 72, 73, 74, 75, 76, 77, 78, 79, 80, 81] (by decide +kernel) (by decide +kernel)
set_option maxRecDepth 20000 in
theorem gX11_findTimes_X11_upBut : GoodIn wsX11_findTimes (wsV RX11 327 RX11 yX11_upBut wsX11_upBut) := goodIn_app (goodIn_of _ (by decide +kernel)) ggX11_findTimes_X11_upBut
set_option maxRecDepth 20000 in
theorem ggX11_when_X11_isRail : GoodIn wsX11_when wsX11_isRail := goodIn_r _ [8, 9, 10, 11, 7, 12, 49, 50, 51, 52, 53, 54, 55, 56, 57, 58, 59, 60, 61, 62, 63, 64, 65, 66, 67, 68, 69, 70, 71, 72, 73, 74, 75, 76, 77, 78, 79, 80, 81, 82, 83, 84, 85, 86, 87, 88, 89, 90, 91, 92, 93, 94, 95, 96, 97, 98, 99, 100, 101, 102, 103, 104, 105, 106, 107] (by decide +kernel) (by decide +kernel)
set_option maxRecDepth 20000 in
theorem gX11_when_X11_isRail : GoodIn wsX11_when (wsV RX11 248 RX11 yX11_isRail wsX11_isRail) := goodIn_app (goodIn_of _ (by decide +kernel)) ggX11_when_X11_isRail
set_option maxRecDepth 20000 in
theorem ggX11_ahead_X11_isRail : GoodIn wsX11_ahead wsX11_isRail := goodIn_r _ [7, 8, 9, 10, 6, 11, 57, 58, 59, 60, 61, 62, 63, 64, 65, 66, 67, 68, 69, 70, 71, 72, 73, 74, 75, 76, 77, 78, 79, 80, 81, 82, 83, 84, 85, 86, 87, 88, 89, 90, 91, 92, 93, 94, 95, 96, 97, 98, 99, 100, 101, 102, 103, 104, 105, 106, 107, 108, 109, 110, 111, 112, 113, 114, 115] (by decide +kernel) (by decide +kernel)
set_option maxRecDepth 20000 in
theorem gX11_ahead_X11_isRail : GoodIn wsX11_ahead (wsV RX11 248 RX11 yX11_isRail wsX11_isRail) := goodIn_app (goodIn_of _ (by decide +kernel)) ggX11_ahead_X11_isRail
set_option maxRecDepth 20000 in
theorem ggX11_drawnAt_X11_drawnOf : GoodIn wsX11_drawnAt wsX11_drawnOf := goodIn_r _ [10, 1, 11, 12, 13, 9, 14, 15, 16, 17, 18, 19, 20, 21, 22, 23, 24, 25, 26, 27, 28, 29, 30, 31, 32, 33, 34, 35, 36, 37, 38, 39, 40, 41, 42, 43, 44, 45, 46, 47, 48, 49, 50, 51, 52, 53, 54, 55, 56, 57, 58, 59, 60, 61, 62, 63, 64, 65, 66, 67, 68, 69, 70, 71, 72, 73, 74] (by decide +kernel) (by decide +kernel)
set_option maxRecDepth 20000 in
theorem gX11_drawnAt_X11_drawnOf : GoodIn wsX11_drawnAt (wsV RX11 309 RX11 yX11_drawnOf wsX11_drawnOf) := goodIn_app (goodIn_of _ (by decide +kernel)) ggX11_drawnAt_X11_drawnOf
set_option maxRecDepth 20000 in
theorem ggX11_drawn_X11_in : GoodIn wsX11_drawn wsX11_in := goodIn_r _ [5] (by decide +kernel) (by decide +kernel)
set_option maxRecDepth 20000 in
theorem gX11_drawn_X11_in : GoodIn wsX11_drawn (va_wsS RX11 141 yX11_in wsX11_in) := goodIn_app (goodIn_of _ (by decide +kernel)) ggX11_drawn_X11_in
set_option maxRecDepth 20000 in
theorem ggX11_drawn_X11_setWaits : GoodIn wsX11_drawn wsX11_setWaits := goodIn_r _ [9, 10, 11, 12, 13, 14, 4, 15, 16, 53, 54, 55, 56, 57, 58, 59, 60, 61, 62, 63, 64, 65, 66, 67, 68, 69, 70, 71, 72, 73, 74, 75, 76, 77, 78, 79, 80, 81, 82, 83, 84, 85, 86, 87, 88, 89, 90, 91, 92, 93, 94, 95, 96, 97, 98, 99, 100, 101, 102, 103, 104, 105, 106, 107, 108, 109, 110, 111] (by decide +kernel) (by decide +kernel)
set_option maxRecDepth 20000 in
theorem gX11_drawn_X11_setWaits : GoodIn wsX11_drawn (wsV RX11 334 RX11 yX11_setWaits wsX11_setWaits) := goodIn_app (goodIn_of _ (by decide +kernel)) ggX11_drawn_X11_setWaits
set_option maxRecDepth 20000 in
theorem ggX11_drawn_X11_setTimes : GoodIn wsX11_drawn wsX11_setTimes := goodIn_r _ [20, 10, 21, 22, 12, 13, 14, 4, 15, 16, 53, 54, 55, 56, 57, 58, 59, 60, 61, 62, 63, 64, 65, 66, 67, 68, 69, 70, 71, 72, 73, 74, 75, 76, 77, 78, 79, 80, 81, 82, 83, 84, 85, 86, 87, 88, 89, 90, 91, 92, 93, 94, 95, 96, 97, 98, 99, 100, 101, 102, 103, 104, 105, 106, 107, 108, 109, 110, 111] (by decide +kernel) (by decide +kernel)
set_option maxRecDepth 20000 in
theorem gX11_drawn_X11_setTimes : GoodIn wsX11_drawn (wsV RX11 337 RX11 yX11_setTimes wsX11_setTimes) := goodIn_app (goodIn_of _ (by decide +kernel)) ggX11_drawn_X11_setTimes
set_option maxRecDepth 20000 in
theorem ggX11_drawn_X11_findTimes : GoodIn wsX11_drawn wsX11_findTimes := goodIn_r _ [26, 27, 28, 29, 30, 10, 11, 21, 31, 32, 33, 4, 34, 35, 36, 37, 38, 39, 40, 41, 42, 43, 44, 53, 54, 55, 56, 57, 58, 59, 60, 61, 62, 63, 64, 65, 66, 67, 68, 69, 70, 71, 72, 73, 74, 75, 76, 77, 78, 79, 80, 81, 82, 83, 84, 85, 86, 87, 88, 89, 90, 91, 92, 93, 94, 95, 96, 97, 98, 99, 100, 101, 102, 103, 104, 105, 106, 107, 108, 109, 110, 111] (by decide +kernel) (by decide +kernel)
set_option maxRecDepth 20000 in
theorem gX11_drawn_X11_findTimes : GoodIn wsX11_drawn (wsV RX11 340 RX11 yX11_findTimes wsX11_findTimes) := goodIn_app (goodIn_of _ (by decide +kernel)) ggX11_drawn_X11_findTimes
set_option maxRecDepth 20000 in
theorem ggX11_drawn_X11_drawnAt : GoodIn wsX11_drawn wsX11_drawnAt := goodIn_r _ [48, 10, 30, 28, 29, 11, 49, 50, 51, 4, 52, 12, 13, 14, 15, 16, 53, 54, 55, 56, 57, 58, 59, 60, 61, 62, 63, 64, 65, 66, 67, 68, 69, 70, 71, 72, 73, 74, 75, 76, 77, 78, 79, 80, 81, 82, 83, 84, 85, 86, 87, 88, 89, 90, 91, 92, 93, 94, 95, 96, 97, 98, 99, 100, 101, 102, 103, 104, 105, 106, 107, 108, 109, 110, 111] (by decide +kernel) (by decide +kernel)
set_option maxRecDepth 20000 in
theorem gX11_drawn_X11_drawnAt : GoodIn wsX11_drawn (wsV RX11 350 RX11 yX11_drawnAt wsX11_drawnAt) := goodIn_app (goodIn_of _ (by decide +kernel)) ggX11_drawn_X11_drawnAt
set_option maxRecDepth 20000 in
theorem ggX11_peak_X11_in : GoodIn wsX11_peak wsX11_in := goodIn_r _ [6] (by decide +kernel) (by decide +kernel)
set_option maxRecDepth 20000 in
theorem gX11_peak_X11_in : GoodIn wsX11_peak (va_wsS RX11 141 yX11_in wsX11_in) := goodIn_app (goodIn_of _ (by decide +kernel)) ggX11_peak_X11_in
set_option maxRecDepth 20000 in
theorem ggX11_peak_X11_ways : GoodIn wsX11_peak wsX11_ways := goodIn_r _ [10, 11, 12, 13, 14, 5, 15, 16, 66, 67, 68, 69, 70, 71, 72, 73, 74, 75, 76, 77, 78, 79, 80, 81, 82, 83, 84, 85, 86, 87, 88, 89, 90, 91, 92, 93, 94, 95, 96, 97, 98, 99, 100, 101, 102, 103, 104, 105, 106, 107, 108, 109, 110, 111, 112, 113, 114, 115, 116, 117, 118, 119, 120, 121, 122, 123, 124] (by decide +kernel) (by decide +kernel)
set_option maxRecDepth 20000 in
theorem gX11_peak_X11_ways : GoodIn wsX11_peak (wsV RX11 343 RX11 yX11_ways wsX11_ways) := goodIn_app (goodIn_of _ (by decide +kernel)) ggX11_peak_X11_ways
set_option maxRecDepth 20000 in
theorem ggX11_peak_X11_deadOnes : GoodIn wsX11_peak wsX11_deadOnes := goodIn_r _ [20, 11, 21, 66, 67, 68, 69, 70, 71, 72, 73, 74, 75, 76, 77, 78, 79, 80, 81, 82, 83, 84, 85, 86, 87, 88, 89, 90, 91, 92, 93, 94, 95, 96, 97, 98, 99, 100, 101, 102, 103, 104, 105, 106, 107, 108, 109, 110, 111, 112, 113, 114, 115, 116, 117, 118, 119, 120, 121, 122, 123, 124] (by decide +kernel) (by decide +kernel)
set_option maxRecDepth 20000 in
theorem gX11_peak_X11_deadOnes : GoodIn wsX11_peak (wsV RX11 324 RX11 yX11_deadOnes wsX11_deadOnes) := goodIn_app (goodIn_of _ (by decide +kernel)) ggX11_peak_X11_deadOnes
set_option maxRecDepth 20000 in
theorem ggX11_peak_X11_upBut : GoodIn wsX11_peak wsX11_upBut := goodIn_r _ [25, 11, 26, 27, 28, 5, 29, 30, 66, 67, 68, 69, 70, 71, 72, 73, 74, 75, 76, 77, 78, 79, 80, 81, 82, 83, 84, 85, 86, 87, 88, 89, 90, 91, 92, 93, 94, 95, 96, 97, 98, 99, 100, 101, 102, 103, 104, 105, 106, 107, 108, 109, 110, 111, 112, 113, 114, 115, 116, 117, 118, 119, 120, 121, 122, 123, 124] (by decide +kernel) (by decide +kernel)
set_option maxRecDepth 20000 in
theorem gX11_peak_X11_upBut : GoodIn wsX11_peak (wsV RX11 327 RX11 yX11_upBut wsX11_upBut) := goodIn_app (goodIn_of _ (by decide +kernel)) ggX11_peak_X11_upBut
set_option maxRecDepth 20000 in
theorem ggX11_findStagger_X11_setTimes : GoodIn wsX11_findStagger wsX11_setTimes := goodIn_r _ [10, 2, 11, 12, 13, 14, 15, 9, 16, 17, 57, 58, 59, 60, 61, 62, 63, 64, 65, 66, 67, 68, 69, 70, 71, 72, 73, 74, 75, 76, 77, 78, 79, 80, 81, 82, 83, 84, 85, 86, 87, 88, 89, 90, 91, 92, 93, 94, 95, 96, 97, 98, 99, 100, 101, 102, 103, 104, 105, 106, 107, 108, 109, 110, 111, 112, 113, 114, 115] (by decide +kernel) (by decide +kernel)
set_option maxRecDepth 20000 in
theorem gX11_findStagger_X11_setTimes : GoodIn wsX11_findStagger (wsV RX11 337 RX11 yX11_setTimes wsX11_setTimes) := goodIn_app (goodIn_of _ (by decide +kernel)) ggX11_findStagger_X11_setTimes
set_option maxRecDepth 20000 in
theorem ggX11_findStagger_X11_findTimes : GoodIn wsX11_findStagger wsX11_findTimes := goodIn_r _ [21, 22, 23, 24, 25, 2, 3, 11, 26, 27, 28, 9, 29, 30, 31, 32, 33, 34, 35, 36, 37, 38, 39, 57, 58, 59, 60, 61, 62, 63, 64, 65, 66, 67, 68, 69, 70, 71, 72, 73, 74, 75, 76, 77, 78, 79, 80, 81, 82, 83, 84, 85, 86, 87, 88, 89, 90, 91, 92, 93, 94, 95, 96, 97, 98, 99, 100, 101, 102, 103, 104, 105, 106, 107, 108, 109, 110, 111, 112, 113, 114, 115] (by decide +kernel) (by decide +kernel)
set_option maxRecDepth 20000 in
theorem gX11_findStagger_X11_findTimes : GoodIn wsX11_findStagger (wsV RX11 340 RX11 yX11_findTimes wsX11_findTimes) := goodIn_app (goodIn_of _ (by decide +kernel)) ggX11_findStagger_X11_findTimes
set_option maxRecDepth 20000 in
theorem ggX11_findStagger_X11_lastGood : GoodIn wsX11_findStagger wsX11_lastGood := goodIn_r _ [43, 2, 25, 24, 57, 58, 59, 60, 61, 62, 63, 64, 65, 66, 67, 68, 69, 70, 71, 72, 73, 74, 75, 76, 77, 78, 79, 80, 81, 82, 83, 84, 85, 86, 87, 88, 89, 90, 91, 92, 93, 94, 95, 96, 97, 98, 99, 100, 101, 102, 103, 104, 105, 106, 107, 108, 109, 110, 111, 112, 113, 114, 115] (by decide +kernel) (by decide +kernel)
set_option maxRecDepth 20000 in
theorem gX11_findStagger_X11_lastGood : GoodIn wsX11_findStagger (wsV RX11 364 RX11 yX11_lastGood wsX11_lastGood) := goodIn_app (goodIn_of _ (by decide +kernel)) ggX11_findStagger_X11_lastGood
set_option maxRecDepth 20000 in
theorem ggX11_stagger_X11_in : GoodIn wsX11_stagger wsX11_in := goodIn_r _ [8] (by decide +kernel) (by decide +kernel)
set_option maxRecDepth 20000 in
theorem gX11_stagger_X11_in : GoodIn wsX11_stagger (va_wsS RX11 141 yX11_in wsX11_in) := goodIn_app (goodIn_of _ (by decide +kernel)) ggX11_stagger_X11_in
set_option maxRecDepth 20000 in
theorem ggX11_stagger_X11_findStagger : GoodIn wsX11_stagger wsX11_findStagger := goodIn_r _ [12, 3, 2, 13, 14, 4, 15, 16, 17, 7, 18, 19, 20, 21, 22, 23, 24, 25, 26, 27, 28, 29, 30, 31, 32, 33, 34, 35, 36, 37, 38, 39, 40, 41, 42, 43, 44, 45, 46, 47, 48, 49, 50, 51, 52, 53, 54, 55, 56, 57, 58, 59, 60, 61, 62, 63, 64, 65, 66, 67, 68, 69, 70, 71, 72, 73, 74, 75, 76, 77, 78, 79, 80, 81, 82, 83, 84, 85, 86, 87, 88, 89, 90, 91, 92, 93, 94, 95, 96, 97, 98, 99, 100, 101, 102, 103, 104, 105, 106, 107, 108, 109, 110, 111, 112, 113, 114, 115, 116, 117, 118, 119, 120, 121, 122, 123] (by decide +kernel) (by decide +kernel)
set_option maxRecDepth 20000 in
theorem gX11_stagger_X11_findStagger : GoodIn wsX11_stagger (wsV RX11 369 RX11 yX11_findStagger wsX11_findStagger) := goodIn_app (goodIn_of _ (by decide +kernel)) ggX11_stagger_X11_findStagger
set_option maxRecDepth 20000 in
theorem ggX11_adopt_X11_findStagger : GoodIn wsX11_adopt wsX11_findStagger := goodIn_r _ [9, 2, 1, 10, 11, 4, 12, 13, 14, 8, 15, 16, 17, 18, 19, 20, 21, 3, 22, 23, 24, 25, 26, 27, 28, 29, 30, 31, 32, 33, 34, 35, 36, 37, 38, 39, 40, 41, 42, 43, 44, 45, 46, 47, 48, 49, 50, 51, 52, 53, 54, 55, 56, 57, 58, 59, 60, 61, 62, 63, 64, 65, 66, 67, 68, 69, 70, 71, 72, 73, 74, 75, 76, 77, 78, 79, 80, 81, 82, 83, 84, 85, 86, 87, 88, 89, 90, 91, 92, 93, 94, 95, 96, 97, 98, 99, 100, 101, 102, 103, 104, 105, 106, 107, 108, 109, 110, 111, 112, 113, 114, 115, 116, 117, 118, 119] (by decide +kernel) (by decide +kernel)
set_option maxRecDepth 20000 in
theorem gX11_adopt_X11_findStagger : GoodIn wsX11_adopt (wsV RX11 369 RX11 yX11_findStagger wsX11_findStagger) := goodIn_app (goodIn_of _ (by decide +kernel)) ggX11_adopt_X11_findStagger
set_option maxRecDepth 20000 in
theorem ggX11_down_X11_areRails : GoodIn wsX11_down wsX11_areRails := goodIn_r _ [5, 6, 7, 8, 4, 9, 24, 25, 26, 27, 28, 29, 30, 31, 32, 33, 34, 35, 36, 37, 38, 39, 40, 41, 42, 43, 44, 45, 46, 47, 48, 49, 50, 51, 52, 53, 54, 55, 56, 57, 58, 59, 60, 61, 62, 63, 64, 65, 66, 67, 68, 69, 70, 71, 72, 73, 74, 75, 76, 77, 78, 79, 80, 81, 82] (by decide +kernel) (by decide +kernel)
set_option maxRecDepth 20000 in
theorem gX11_down_X11_areRails : GoodIn wsX11_down (wsV RX11 372 RX11 yX11_areRails wsX11_areRails) := goodIn_app (goodIn_of _ (by decide +kernel)) ggX11_down_X11_areRails
set_option maxRecDepth 20000 in
theorem ggX11_down_X11_deadOnes : GoodIn wsX11_down wsX11_deadOnes := goodIn_r _ [13, 6, 14, 24, 25, 26, 27, 28, 29, 30, 31, 32, 33, 34, 35, 36, 37, 38, 39, 40, 41, 42, 43, 44, 45, 46, 47, 48, 49, 50, 51, 52, 53, 54, 55, 56, 57, 58, 59, 60, 61, 62, 63, 64, 65, 66, 67, 68, 69, 70, 71, 72, 73, 74, 75, 76, 77, 78, 79, 80, 81, 82] (by decide +kernel) (by decide +kernel)
set_option maxRecDepth 20000 in
theorem gX11_down_X11_deadOnes : GoodIn wsX11_down (wsV RX11 324 RX11 yX11_deadOnes wsX11_deadOnes) := goodIn_app (goodIn_of _ (by decide +kernel)) ggX11_down_X11_deadOnes
set_option maxRecDepth 20000 in
theorem ggX11_down_X11_upBut : GoodIn wsX11_down wsX11_upBut := goodIn_r _ [18, 6, 19, 20, 21, 4, 22, 23, 24, 25, 26, 27, 28, 29, 30, 31, 32, 33, 34, 35, 36, 37, 38, 39, 40, 41, 42, 43, 44, 45, 46, 47, 48, 49, 50, 51, 52, 53, 54, 55, 56, 57, 58, 59, 60, 61, 62, 63, 64, 65, 66, 67, 68, 69, 70, 71, 72, 73, 74, 75, 76, 77, 78, 79, 80, 81, 82] (by decide +kernel) (by decide +kernel)
set_option maxRecDepth 20000 in
theorem gX11_down_X11_upBut : GoodIn wsX11_down (wsV RX11 327 RX11 yX11_upBut wsX11_upBut) := goodIn_app (goodIn_of _ (by decide +kernel)) ggX11_down_X11_upBut
set_option maxRecDepth 20000 in
theorem ggX11_cut_X11_isRail : GoodIn wsX11_cut wsX11_isRail := goodIn_r _ [6, 1, 7, 8, 5, 9, 31, 32, 33, 34, 35, 36, 37, 38, 39, 40, 41, 42, 43, 44, 45, 46, 47, 48, 49, 50, 51, 52, 53, 54, 55, 56, 57, 58, 59, 60, 61, 62, 63, 64, 65, 66, 67, 68, 69, 70, 71, 72, 73, 74, 75, 76, 77, 78, 79, 80, 81, 82, 83, 84, 85, 86, 87, 88, 89] (by decide +kernel) (by decide +kernel)
set_option maxRecDepth 20000 in
theorem gX11_cut_X11_isRail : GoodIn wsX11_cut (wsV RX11 248 RX11 yX11_isRail wsX11_isRail) := goodIn_app (goodIn_of _ (by decide +kernel)) ggX11_cut_X11_isRail
set_option maxRecDepth 20000 in
theorem ggX11_need_X11_isRail : GoodIn wsX11_need wsX11_isRail := goodIn_r _ [6, 1, 7, 8, 5, 9, 31, 32, 33, 34, 35, 36, 37, 38, 39, 40, 41, 42, 43, 44, 45, 46, 47, 48, 49, 50, 51, 52, 53, 54, 55, 56, 57, 58, 59, 60, 61, 62, 63, 64, 65, 66, 67, 68, 69, 70, 71, 72, 73, 74, 75, 76, 77, 78, 79, 80, 81, 82, 83, 84, 85, 86, 87, 88, 89] (by decide +kernel) (by decide +kernel)
set_option maxRecDepth 20000 in
theorem gX11_need_X11_isRail : GoodIn wsX11_need (wsV RX11 248 RX11 yX11_isRail wsX11_isRail) := goodIn_app (goodIn_of _ (by decide +kernel)) ggX11_need_X11_isRail
set_option maxRecDepth 20000 in
theorem ggX11_must_X11_isRail : GoodIn wsX11_must wsX11_isRail := goodIn_r _ [6, 1, 7, 8, 5, 9, 28, 29, 30, 31, 32, 33, 34, 35, 36, 37, 38, 39, 40, 41, 42, 43, 44, 45, 46, 47, 48, 49, 50, 51, 52, 53, 54, 55, 56, 57, 58, 59, 60, 61, 62, 63, 64, 65, 66, 67, 68, 69, 70, 71, 72, 73, 74, 75, 76, 77, 78, 79, 80, 81, 82, 83, 84, 85, 86] (by decide +kernel) (by decide +kernel)
set_option maxRecDepth 20000 in
theorem gX11_must_X11_isRail : GoodIn wsX11_must (wsV RX11 248 RX11 yX11_isRail wsX11_isRail) := goodIn_app (goodIn_of _ (by decide +kernel)) ggX11_must_X11_isRail
set_option maxRecDepth 20000 in
theorem ggX11_seen_X11_areRails : GoodIn wsX11_seen wsX11_areRails := goodIn_r _ [6, 1, 7, 8, 5, 9, 19, 20, 21, 22, 23, 24, 25, 26, 27, 28, 29, 30, 31, 32, 33, 34, 35, 36, 37, 38, 39, 40, 41, 42, 43, 44, 45, 46, 47, 48, 49, 50, 51, 52, 53, 54, 55, 56, 57, 58, 59, 60, 61, 62, 63, 64, 65, 66, 67, 68, 69, 70, 71, 72, 73, 74, 75, 76, 77] (by decide +kernel) (by decide +kernel)
set_option maxRecDepth 20000 in
theorem gX11_seen_X11_areRails : GoodIn wsX11_seen (wsV RX11 372 RX11 yX11_areRails wsX11_areRails) := goodIn_app (goodIn_of _ (by decide +kernel)) ggX11_seen_X11_areRails
set_option maxRecDepth 20000 in
theorem ggX11_seen_X11_upBut : GoodIn wsX11_seen wsX11_upBut := goodIn_r _ [13, 1, 14, 15, 16, 5, 17, 18, 19, 20, 21, 22, 23, 24, 25, 26, 27, 28, 29, 30, 31, 32, 33, 34, 35, 36, 37, 38, 39, 40, 41, 42, 43, 44, 45, 46, 47, 48, 49, 50, 51, 52, 53, 54, 55, 56, 57, 58, 59, 60, 61, 62, 63, 64, 65, 66, 67, 68, 69, 70, 71, 72, 73, 74, 75, 76, 77] (by decide +kernel) (by decide +kernel)
set_option maxRecDepth 20000 in
theorem gX11_seen_X11_upBut : GoodIn wsX11_seen (wsV RX11 327 RX11 yX11_upBut wsX11_upBut) := goodIn_app (goodIn_of _ (by decide +kernel)) ggX11_seen_X11_upBut
set_option maxRecDepth 20000 in
theorem ggX11_isSheet_X11_in : GoodIn wsX11_isSheet wsX11_in := goodIn_r _ [6] (by decide +kernel) (by decide +kernel)
set_option maxRecDepth 20000 in
theorem gX11_isSheet_X11_in : GoodIn wsX11_isSheet (va_wsS RX11 141 yX11_in wsX11_in) := goodIn_app (goodIn_of _ (by decide +kernel)) ggX11_isSheet_X11_in
set_option maxRecDepth 20000 in
theorem ggX11_sheet_X11_isSheet : GoodIn wsX11_sheet wsX11_isSheet := goodIn_r _ [7, 8, 9, 10, 11, 6, 12] (by decide +kernel) (by decide +kernel)
set_option maxRecDepth 20000 in
theorem gX11_sheet_X11_isSheet : GoodIn wsX11_sheet (va_wsS RX11 381 yX11_isSheet wsX11_isSheet) := goodIn_app (goodIn_of _ (by decide +kernel)) ggX11_sheet_X11_isSheet
set_option maxRecDepth 20000 in
theorem ggX11_lay_X11_isSheet : GoodIn wsX11_lay wsX11_isSheet := goodIn_r _ [7, 8, 9, 10, 11, 6, 12] (by decide +kernel) (by decide +kernel)
set_option maxRecDepth 20000 in
theorem gX11_lay_X11_isSheet : GoodIn wsX11_lay (va_wsS RX11 381 yX11_isSheet wsX11_isSheet) := goodIn_app (goodIn_of _ (by decide +kernel)) ggX11_lay_X11_isSheet
end
section
/-! the base of the rows: the classes of arrays, a contract's start and end over explicit cells, a method's entry -/
abbrev tyL (cI cJ cZ cG cH : ClassId) : List (ClassId × FieldType) := [(cI, .int), (cJ, .long), (cZ, .boolean), (cG, .array .int), (cH, .array .long)]
def xPc (av : List Value) (D : va_G) (tys : List (ClassId × FieldType)) (ws : va_W) (sz : Nat) : Array Value → State → Prop := va_Pc av (fun U => U.heap.size = sz ∧ va_P D vwCl ws U.heap ∧ va_K D vwCl tys U ∧ va_D (fun _ => True) ws)
theorem xPc_blind {av : List Value} {D : va_G} {tys : List (ClassId × FieldType)} {ws : va_W} {sz : Nat} : FrameBlind (xPc av D tys ws sz) := fun a U g mk q => by
  obtain ⟨q0, q1, qP, qK, qD⟩ := q
  exact ⟨q0, q1, qP, va_K.moved (u := U) (U := U.calling g mk a) (Vm.Alike.refl U.vm) qK, qD⟩
theorem xPc_pre {s : State} {H : Heap} {av : List Value} {D : va_G} {tys : List (ClassId × FieldType)} {ws : va_W} {A : Nat → Prop} (hP : va_P D vwCl ws H) (hK : va_K D vwCl tys s) (hD : va_D A ws) : ∀ U : State, U.heap = H → s.WarmedH U.vm → xPc av D tys ws H.size av.toArray U := fun U hU hW =>
  ⟨rfl, by rw [hU], by rw [hU]; exact hP, va_K.moved hW.alike hK, hD.weaken (fun _ _ _ _ => trivial)⟩
def xB (D : va_G) (tys : List (ClassId × FieldType)) (ws : va_W) (A : Nat → Prop) (t : State) : Prop := va_P D vwCl ws t.heap ∧ va_K D vwCl tys t ∧ va_D A ws
theorem xB_of {s t : State} {H : Heap} {D : va_G} {tys : List (ClassId × FieldType)} {ws : va_W} {A : Nat → Prop} (ht : t.heap = H) (hW : s.WarmedH t.vm) (hP : va_P D vwCl ws H) (hK : va_K D vwCl tys s) (hD : va_D A ws) : xB D tys ws A t := ⟨by rw [ht]; exact hP, va_K.moved hW.alike hK, hD⟩
/-- a contract out of the walk of its body -/
theorem xMet {l : Launch} {y : MethodName} {ws ws' : List Cond} {rm : Room} {av : List Value} {D : va_G} {tys : List (ClassId × FieldType)} {W0 : va_W} {sz : Nat} {Qf : (Nat → Prop) → Array Value → State → Outcome → State → Prop} {mc ms : Nat} {cc : ByteArray} {maxL : Nat} {ret : Option FieldType}
    (hy : plainName y.cls = true) (hw : ws = Cond.code y cc maxL ret :: ws') (hn : (lg_sl av).length ≤ maxL)
    (body : ∀ (p : Program) (e : Env) (s : State) (m : MethodId) (below : List Frame) (meth : Method) (c : Code) (ls : Array Slot) (A : Nat → Prop),
      p.tables.exec = Jvm.exec → c.code = cc → meth.sig.returnType = ret → c.maxLocals = maxL → (∀ w ∈ ws, w.before av.toArray s = true) → s.vm.findClass y.cls = some m.cls → meth.locks = false → meth.name = y.name →
      s.heap.size = sz → va_P D vwCl W0 s.heap → va_K D vwCl tys s → va_D A W0 → (∀ q : Nat, s.heap.size ≤ q → A q) → va_S A s.heap s.heap [] → lv_has ls maxL (lv_args 0 av) →
      W p l e rm s m av.toArray below meth c s.heap [] 0 0 (MQ below (Qf A) av.toArray s mc ms A) (F0 m 0 ls [])) :
    Met l y ws rm (xPc av D tys W0 sz) (Qf (va_A W0 sz)) mc ms (va_A W0 sz) := by
  refine Met.ofW (cc := cc) (maxL := maxL) (ret := ret) hy hw ?_
  intro p e s m args below meth c s₁ B hml hv
  obtain ⟨rfl, hsz, hP, hK, hD0⟩ := hv
  subst hsz
  have hl := lv_entry av (n := maxL) hn
  rw [lg_entry_eq]
  generalize (lg_sl av ++ List.replicate (maxL - (lg_sl av).length) Slot.unset).toArray = ls at hl ⊢
  exact body p e s m below meth c ls (va_A W0 s.heap.size) B.exec B.bytes B.returns hml (atoms_spec (ws := ws) B.pre) (findClass_of_methodNamed B.named) B.notSynchronized (name_of_methodNamed B.named B.method).1 rfl hP hK hD0.self (fun q h => Or.inr h) va_S.rf hl
/-- two array classes of one element type are one -/
theorem xcls {D : va_G} {tys : List (ClassId × FieldType)} {s : State} (h : va_K D vwCl tys s) {i j : Nat} {c0 c1 : ClassId} {ty : FieldType} (hi : tys[i]? = some (c0, ty)) (hj : tys[j]? = some (c1, ty)) (hr : refKind ty = false ∨ ∃ t, ty = .array t) : c0 = c1 := by
  have a := (h.2 i _ hi).2
  have b := (h.2 j _ hj).2
  cases ty with
  | object C =>
    rcases hr with hr | ⟨t, ht⟩
    · cases hr
    · cases ht
  | _ => exact Option.some.inj (a.symm.trans b)
theorem xin {i : Int32} {n : Nat} (h1 : ¬ i < 0) (h2 : i.toNatClampNeg < n) : vp_in i n := fun q => q.elim h1 (fun q => absurd h2 (Nat.not_lt.mpr q))
section XA
variable {p : Program} {l : Launch} {e : Env} {R : Room} {s : State} {m : MethodId} {args : Array Value} {below : List Frame} {meth : Method} {c : Code} {H : Heap} {locs : List Loc} {cells slots : Nat} {Q : State → Prop}
variable {cc : ByteArray} {pc : Nat} {ls : Array Slot} {rest : List Value} {D : va_G} {cl : List vw_C} {A : Nat → Prop} {a : Nat} {tys : List (ClassId × FieldType)} {ws : va_W} {H0 : Heap}
/-- an element of an array of arrays -/
theorem xaldA (hexec : p.tables.exec = Jvm.exec) (hb : c.code = cc) (hK : va_K D cl tys s) (hP : va_P D cl ws H) (q0 t0 : Nat) {cA : ClassId} {ty : FieldType} {n : Nat} {f : Nat → Option Nat} (ha : ws[q0]? = some (a, .inl (cA, n, .inr (.inr (.inr (.inr f)))))) (ht : tys[t0]? = some (cA, .array ty)) {i : Int32} (hin : vp_in i n) (hdg : decode cc pc = .ok (.aaload, 1)) {v : Value} (hv : va_rf (f i.toNatClampNeg) = v)
    (kk : W p l e R s m args below meth c H locs cells slots Q (F0 m (pc + 1) ls (v :: rest))) : W p l e R s m args below meth c H locs cells slots Q (F0 m pc ls (.int i :: .ref a :: rest)) := by
  subst hv
  have hlt : i.toNatClampNeg < n := Nat.not_le.mp fun q => hin (Or.inr q)
  exact W.aald (v := va_rf (f i.toNatClampNeg)) (ty := .array ty) hexec hb (hP q0 _ ha) ((hK.2 t0 _ ht).1 n (fun j => va_rf (f j))) rfl (fun q => by cases q) (by show ¬ (i < 0 ∨ (arrV _ _ _).slots.size ≤ _); rw [arrV_size]; exact hin) (by show (arrV _ _ _).slots[_]? = _; rw [arrV_read _ _ hlt]) rfl rfl hdg kk
end XA
end
section
/-! new T[n][m] of numbers: the machine's step, and the row over explicit cells -/
def xmIn (c : ClassId) (M : Nat) (v : Value) : Cell := arrV c M (fun _ => v)
def xmOut (c : ClassId) (N h i : Nat) : Cell := arrV c N (fun j => va_rf (if j < i then some (h + 1 + j) else none))
theorem xmOut_step (c : ClassId) (N h i : Nat) : (xmOut c N h i).setSlot i (.ref (h + 1 + i)) = xmOut c N h (i + 1) := by
  unfold xmOut
  rw [arrV_store]
  refine congrArg (arrV c N) (funext fun j => ?_)
  unfold updV
  by_cases e1 : j = i
  · subst e1
    simp [va_rf]
  · by_cases e2 : j < i
    · have e3 : j < i + 1 := by omega
      simp [e1, e2, e3]
    · have e3 : ¬ j < i + 1 := by omega
      simp [e1, e2, e3]
theorem xmOut_zero (c : ClassId) (N h : Nat) : ({ cls := c, slots := Array.replicate N .null, vm := .none } : Cell) = xmOut c N h 0 := by
  rw [arrV_new]
  refine congrArg (arrV c N) (funext fun j => ?_)
  simp [va_rf]
def xmSt (s : State) (c d : ClassId) (N M : Nat) (v : Value) : Nat → State
  | 0 => s.pushCell (xmOut c N s.heap.size 0)
  | i + 1 => ((xmSt s c d N M v i).pushCell (xmIn d M v)).setCell s.heap.size (xmOut c N s.heap.size (i + 1))
theorem xmSt_facts (s : State) (c d : ClassId) (N M : Nat) (v : Value) : ∀ i : Nat, (xmSt s c d N M v i).heap.size = s.heap.size + 1 + i ∧ (xmSt s c d N M v i).heap[s.heap.size]? = some (xmOut c N s.heap.size i) ∧ (xmSt s c d N M v i).vm = s.vm ∧ (xmSt s c d N M v i).slotsUsed = s.slotsUsed + N + i * M ∧
    (∀ a : Nat, a < s.heap.size → (xmSt s c d N M v i).heap[a]? = s.heap[a]?) ∧ ∀ j : Nat, j < i → (xmSt s c d N M v i).heap[s.heap.size + 1 + j]? = some (xmIn d M v) := by
  intro i
  induction i with
  | zero =>
    refine ⟨by simp [xmSt], by simp [xmSt], rfl, by simp [xmSt, xmOut, arrV_size], fun a ha => State.heap_pushCell_of_lt _ _ ha, fun j hj => absurd hj (Nat.not_lt_zero j)⟩
  | succ i ih =>
    obtain ⟨h1, h2, h3, h4, h5, h6⟩ := ih
    have hlt : s.heap.size < (xmSt s c d N M v i).heap.size := by omega
    have hc : ((xmSt s c d N M v i).pushCell (xmIn d M v)).heap[s.heap.size]? = some (xmOut c N s.heap.size i) := by
      rw [State.heap_pushCell_of_lt (h := hlt)]
      exact h2
    refine ⟨?_, State.heap_setCell_self hc, by simp [xmSt, h3], ?_, fun a ha => ?_, fun j hj => ?_⟩
    · simp [xmSt, State.setCell, h1]
      omega
    · simp [xmSt, h4, xmIn, arrV_size, Nat.succ_mul]
      omega
    · show (((xmSt s c d N M v i).pushCell (xmIn d M v)).setCell s.heap.size _).heap[a]? = _
      have hla : a < (xmSt s c d N M v i).heap.size := by omega
      rw [State.heap_setCell_other (Nat.ne_of_gt ha), State.heap_pushCell_of_lt (h := hla)]
      exact h5 a ha
    · show (((xmSt s c d N M v i).pushCell (xmIn d M v)).setCell s.heap.size _).heap[s.heap.size + 1 + j]? = _
      have hne : s.heap.size ≠ s.heap.size + 1 + j := by omega
      rw [State.heap_setCell_other hne]
      rcases Nat.lt_or_ge j i with q | q
      · have hlj : s.heap.size + 1 + j < (xmSt s c d N M v i).heap.size := by omega
        rw [State.heap_pushCell_of_lt (h := hlj)]
        exact h6 j q
      · rw [show s.heap.size + 1 + j = (xmSt s c d N M v i).heap.size by omega]
        exact State.heap_pushCell_size _ _
theorem xmSt_top (s : State) (f : JFrame) (c d : ClassId) (N M : Nat) (v : Value) : ∀ i : Nat, xmSt (s.setTop f) c d N M v i = (xmSt s c d N M v i).setTop f := by
  intro i
  induction i with
  | zero => rfl
  | succ i ih => simp only [xmSt, ih, State.heap_setTop, State.pushCell_setTop, State.setCell_setTop]
section XMW
variable {E : CtlPost} {e : Env} {d : Bool} {acts : List Action} {s : State}
theorem xm_new {c comp : ClassId} {k : Class} {type : FieldType} {len : Nat} {init : Value} (hk : s.vm.classes[c]? = some k) (hkind : k.kind = .array comp type)
    (h1 : ¬ len > e.platform.arrayLengthLimit) (h2 : ¬ len * componentBytes type > e.platform.maxHeapBytes) (hfit : fits type init = true) (hdef : init.isDefault = true) {Q : Addr → Pre}
    (h3 : s.heap.size < e.platform.maxCells) (h4 : s.slotsUsed + len ≤ e.platform.maxSlots)
    (hq : Q s.heap.size d acts (s.pushCell (arrV c len (fun _ => init)))) : wp (Jvm.newArray c len init) Q E e d acts s := by
  have ha : allocActs (Array.replicate len init) s.heap.size acts = acts := by
    have hall : ((Array.replicate len init).all (·.isDefault)) = true := by
      rw [Array.all_replicate]
      split <;> simp [hdef]
    unfold allocActs
    rw [if_pos hall]
  have hf : ∀ i v, (Array.replicate len init)[i]? = some v → s.fitsSlot c .none i v = true := by
    intro i v hv
    rw [Array.getElem?_replicate] at hv
    split at hv
    · cases hv
      simp [State.fitsSlot, State.slotType?, hk, hkind, hfit]
    · cases hv
  rw [← arrV_new] at hq
  simp only [Jvm.newArray, Jvm.arrayFits, wp_bind', W.ask, W.ite, h1, if_false, wp_pure', W.theClass, hk, hkind, h2, W.alloc, W.stop, Option.some.injEq, exists_eq_left', Array.size_replicate, ha]
  rw [if_neg (by omega)]
  exact ⟨h3, h4, hf, hq⟩
theorem xm_make {c comp ce : ClassId} {k kc : Class} {ty : FieldType} {n m : Int32} (hk : s.vm.classes[c]? = some k) (hkind : k.kind = .array comp (.array ty)) (hkc : s.vm.classes[comp]? = some kc) (hkindc : kc.kind = .array ce ty) (hn : ¬ n < 0) (hm : ¬ m < 0)
    (h1 : ¬ n.toNatClampNeg > e.platform.arrayLengthLimit) (h2 : ¬ n.toNatClampNeg * componentBytes (.array ty) > e.platform.maxHeapBytes) (h3 : ¬ m.toNatClampNeg > e.platform.arrayLengthLimit) (h4 : ¬ m.toNatClampNeg * componentBytes ty > e.platform.maxHeapBytes)
    (hdf : fits ty (defaultValue ty) = true) (hdd : (defaultValue ty).isDefault = true)
    (h5 : s.heap.size + 1 + n.toNatClampNeg ≤ e.platform.maxCells) (h6 : s.slotsUsed + n.toNatClampNeg + n.toNatClampNeg * m.toNatClampNeg ≤ e.platform.maxSlots) {Q : Addr → Pre}
    (hq : ∀ d' acts', Q s.heap.size d' acts' (xmSt s c comp n.toNatClampNeg m.toNatClampNeg (defaultValue ty) n.toNatClampNeg)) : wp (multianewarray.make c [n, m]) Q E e d acts s := by
  have hno : ([m].find? (· < 0)) = none := by simp [hm]
  rw [multianewarray.make]
  simp only [wp_bind', W.ite, hn, if_false, wp_pure', W.theClass, hk, hkind, Option.some.injEq, exists_eq_left']
  refine xm_new hk hkind h1 h2 rfl rfl (by omega) (by have := Nat.zero_le (n.toNatClampNeg * m.toNatClampNeg); omega) ?_
  have e0 : arrV c n.toNatClampNeg (fun _ => Value.null) = xmOut c n.toNatClampNeg s.heap.size 0 := by rw [← xmOut_zero, ← arrV_new]
  rw [e0]
  simp only [hno]
  rw [ite_self, wp_bind', Std.Legacy.Range.forIn_eq_forIn_range']
  rw [show ([:n.toNatClampNeg] : Std.Legacy.Range).size = n.toNatClampNeg by simp [Std.Legacy.Range.size]]
  show wp (forIn (List.range' 0 n.toNatClampNeg 1) PUnit.unit _) _ E e d acts _
  refine wp_forIn_inv (fun todo t => ∃ i : Nat, i ≤ n.toNatClampNeg ∧ todo = List.range' i (n.toNatClampNeg - i) ∧ t = xmSt s c comp n.toNatClampNeg m.toNatClampNeg (defaultValue ty) i) _ _ ⟨0, Nat.zero_le _, rfl, rfl⟩ ?_ ?_
  · intro x todo t d' acts' Q' hI hgo
    obtain ⟨i, hi, hl, rfl⟩ := hI
    have hlt : i < n.toNatClampNeg := by
      rcases Nat.lt_or_ge i n.toNatClampNeg with q | q
      · exact q
      · rw [show n.toNatClampNeg - i = 0 by omega] at hl
        simp at hl
    rw [show n.toNatClampNeg - i = (n.toNatClampNeg - (i + 1)) + 1 by omega, List.range'_succ] at hl
    obtain ⟨e1, e2⟩ := List.cons.inj hl
    subst e1
    obtain ⟨f1, f2, f3, f4, -, -⟩ := xmSt_facts s c comp n.toNatClampNeg m.toNatClampNeg (defaultValue ty) x
    have hmul : x * m.toNatClampNeg + m.toNatClampNeg ≤ n.toNatClampNeg * m.toNatClampNeg := by
      have q := Nat.mul_le_mul_right m.toNatClampNeg (show x + 1 ≤ n.toNatClampNeg from hlt)
      rwa [Nat.succ_mul] at q
    have hlt0 : s.heap.size < (xmSt s c comp n.toNatClampNeg m.toNatClampNeg (defaultValue ty) x).heap.size := by omega
    simp only [wp_bind']
    rw [multianewarray.make]
    simp only [wp_bind', W.ite, hm, if_false, wp_pure', W.theClass, f3, hkc, hkindc, Option.some.injEq, exists_eq_left']
    refine xm_new (by rw [f3]; exact hkc) hkindc h3 h4 hdf hdd (by omega) (by omega) ?_
    simp only [wp_bind', W.writeLoc, wp_pure']
    refine ⟨xmOut c n.toNatClampNeg s.heap.size x, by rw [State.heap_pushCell_of_lt (h := hlt0)]; exact f2, by simp [xmOut, arrV], by rw [xmOut, arrV_size]; exact hlt, ?_, hgo _ _ _ ⟨x + 1, hlt, e2, ?_⟩⟩
    · simp [State.fitsSlot, State.slotType?, xmOut, arrV, f3, hk, hkind, fits]
    · rw [f1, xmOut_step]
      rfl
  · intro t d' acts' hI
    obtain ⟨i, hi, hl, rfl⟩ := hI
    have e1 : i = n.toNatClampNeg := by
      rcases Nat.lt_or_ge i n.toNatClampNeg with q | q
      · rw [show n.toNatClampNeg - i = (n.toNatClampNeg - (i + 1)) + 1 by omega, List.range'_succ] at hl
        cases hl
      · omega
    subst e1
    simp only [wp_pure']
    exact hq _ _
end XMW
end
section
/-! rows of ours: new T[n][m] over explicit cells; numbers as Ints; contracts that make arrays of arrays -/
def xOver (ty : FieldType) (U : State) : Prop := ∃ (comp c : ClassId) (k : Class), U.vm.findClass (FieldType.array ty).toString = some comp ∧ U.vm.classes[c]? = some k ∧ k.kind = .array comp (.array ty) ∧ U.vm.findClass ("[" ++ (FieldType.array ty).toString) = some c
theorem xOver.moved {ty : FieldType} {u U : State} (hvm : u.vm.Alike U.vm) (h : xOver ty u) : xOver ty U := by
  obtain ⟨comp, c, k, h1, h2, h3, h4⟩ := h
  obtain ⟨k', hk', he⟩ := hvm.2.2 _ _ h2
  exact ⟨comp, c, k', by rw [hvm.findClass]; exact h1, hk', by rw [he]; exact h3, by rw [hvm.findClass]; exact h4⟩
theorem xOver.of {args : Array Value} {s : State} {ty : FieldType} (h : (Cond.arrayOver (.array ty)).before args s = true) : xOver ty s := by
  simp only [Cond.before, Cond.holds, Cond.value, beq_iff_eq] at h
  cases hc : s.vm.findClass (FieldType.array ty).toString with
  | none => simp [hc] at h
  | some comp =>
    simp only [hc, Option.bind_some, Option.bind_eq_some_iff, Option.map_eq_some_iff] at h
    obtain ⟨c, hi, k, hk, hb⟩ := h
    obtain ⟨hlt, hp, -⟩ := Array.findIdx?_eq_some_iff_getElem.mp hi
    have hkk : s.vm.classes[c] = k := (Array.getElem?_eq_some_iff.mp hk).2
    rw [hkk] at hp
    cases hkind : k.kind with
    | array component t0 =>
      rw [hkind] at hb hp
      simp at hb hp
      exact ⟨comp, c, k, hc, hk, by rw [hkind, hp, hb.1], hb.2⟩
    | _ => rw [hkind] at hb; simp at hb
def xPcA (av : List Value) (D : va_G) (tys : List (ClassId × FieldType)) (ws : va_W) (sz : Nat) : Array Value → State → Prop := va_Pc av (fun U => (U.heap.size = sz ∧ va_P D vwCl ws U.heap ∧ va_K D vwCl tys U ∧ va_D (fun _ => True) ws) ∧ xOver .int U ∧ xOver .long U)
theorem xPcA_blind {av : List Value} {D : va_G} {tys : List (ClassId × FieldType)} {ws : va_W} {sz : Nat} : FrameBlind (xPcA av D tys ws sz) := fun a U g mk q => by
  obtain ⟨q0, ⟨q1, qP, qK, qD⟩, o1, o2⟩ := q
  exact ⟨q0, ⟨q1, qP, va_K.moved (u := U) (U := U.calling g mk a) (Vm.Alike.refl U.vm) qK, qD⟩, o1.moved (u := U) (U := U.calling g mk a) (Vm.Alike.refl U.vm), o2.moved (u := U) (U := U.calling g mk a) (Vm.Alike.refl U.vm)⟩
theorem xPcA_pre {s : State} {H : Heap} {av : List Value} {D : va_G} {tys : List (ClassId × FieldType)} {ws : va_W} {A : Nat → Prop} (hP : va_P D vwCl ws H) (hK : va_K D vwCl tys s) (hD : va_D A ws) (o1 : xOver .int s) (o2 : xOver .long s) : ∀ U : State, U.heap = H → s.WarmedH U.vm → xPcA av D tys ws H.size av.toArray U := fun U hU hW =>
  ⟨rfl, ⟨by rw [hU], by rw [hU]; exact hP, va_K.moved hW.alike hK, hD.weaken (fun _ _ _ _ => trivial)⟩, o1.moved hW.alike, o2.moved hW.alike⟩
theorem xMetA {l : Launch} {y : MethodName} {ws ws' : List Cond} {rm : Room} {av : List Value} {D : va_G} {tys : List (ClassId × FieldType)} {W0 : va_W} {sz : Nat} {Qf : (Nat → Prop) → Array Value → State → Outcome → State → Prop} {mc ms : Nat} {cc : ByteArray} {maxL : Nat} {ret : Option FieldType}
    (hy : plainName y.cls = true) (hw : ws = Cond.code y cc maxL ret :: ws') (hn : (lg_sl av).length ≤ maxL)
    (body : ∀ (p : Program) (e : Env) (s : State) (m : MethodId) (below : List Frame) (meth : Method) (c : Code) (ls : Array Slot) (A : Nat → Prop),
      p.tables.exec = Jvm.exec → c.code = cc → meth.sig.returnType = ret → c.maxLocals = maxL → (∀ w ∈ ws, w.before av.toArray s = true) → s.vm.findClass y.cls = some m.cls → meth.locks = false → meth.name = y.name →
      s.heap.size = sz → va_P D vwCl W0 s.heap → va_K D vwCl tys s → va_D A W0 → (∀ q : Nat, s.heap.size ≤ q → A q) → va_S A s.heap s.heap [] → lv_has ls maxL (lv_args 0 av) → xOver .int s → xOver .long s →
      W p l e rm s m av.toArray below meth c s.heap [] 0 0 (MQ below (Qf A) av.toArray s mc ms A) (F0 m 0 ls [])) :
    Met l y ws rm (xPcA av D tys W0 sz) (Qf (va_A W0 sz)) mc ms (va_A W0 sz) := by
  refine Met.ofW (cc := cc) (maxL := maxL) (ret := ret) hy hw ?_
  intro p e s m args below meth c s₁ B hml hv
  obtain ⟨rfl, ⟨hsz, hP, hK, hD0⟩, o1, o2⟩ := hv
  subst hsz
  have hl := lv_entry av (n := maxL) hn
  rw [lg_entry_eq]
  generalize (lg_sl av ++ List.replicate (maxL - (lg_sl av).length) Slot.unset).toArray = ls at hl ⊢
  exact body p e s m below meth c ls (va_A W0 s.heap.size) B.exec B.bytes B.returns hml (atoms_spec (ws := ws) B.pre) (findClass_of_methodNamed B.named) B.notSynchronized (name_of_methodNamed B.named B.method).1 rfl hP hK hD0.self (fun q h => Or.inr h) va_S.rf hl o1 o2
def xmf (N : Nat) (r : Nat → Nat) : Nat → Option Nat := fun i => if i < N then some (r i) else none
section XMS
variable {p : Program} {l : Launch} {e : Env} {R : Room} {s : State} {m : MethodId} {args : Array Value} {below : List Frame} {meth : Method} {c : Code} {H : Heap} {locs : List Loc} {cells slots : Nat} {Q : State → Prop} {T : State}
theorem xm_stand (X : Stand p l e R s m args below meth c T locs cells slots) (cA d : ClassId) (N M : Nat) (v : Value) : ∀ i : Nat, Stand p l e R s m args below meth c (xmSt T cA d N M v i) (locs ++ (List.range i).map fun j => (⟨T.heap.size, j⟩ : Loc)) (cells + (1 + i)) (slots + (N + i * M)) := by
  intro i
  induction i with
  | zero =>
    have h := X.pushed (xmOut cA N T.heap.size 0)
    rw [show (xmOut cA N T.heap.size 0).slots.size = N from arrV_size _ _ _] at h
    simpa [xmSt] using h
  | succ i ih =>
    obtain ⟨f1, f2, -, -, -, -⟩ := xmSt_facts T cA d N M v i
    have hlt : T.heap.size < (xmSt T cA d N M v i).heap.size := by omega
    have hcell : ((xmSt T cA d N M v i).pushCell (xmIn d M v)).heap[T.heap.size]? = some (xmOut cA N T.heap.size i) := by
      rw [State.heap_pushCell_of_lt (h := hlt)]
      exact f2
    have h := (ih.pushed (xmIn d M v)).stored hcell i (.ref (T.heap.size + 1 + i))
    rw [xmOut_step, show (xmIn d M v).slots.size = M from arrV_size _ _ _] at h
    have e1 : (locs ++ (List.range (i + 1)).map fun j => (⟨T.heap.size, j⟩ : Loc)) = (locs ++ (List.range i).map fun j => (⟨T.heap.size, j⟩ : Loc)) ++ [⟨T.heap.size, i⟩] := by
      rw [List.range_succ, List.map_append, List.append_assoc]
      rfl
    have e2 : cells + (1 + (i + 1)) = cells + (1 + i) + 1 := by omega
    have e3 : slots + (N + (i + 1) * M) = slots + (N + i * M) + M := by rw [Nat.succ_mul]; omega
    rw [e1, e2, e3]
    exact h
variable {cc : ByteArray} {pc : Nat} {ls : Array Slot} {rest : List Value} {D : va_G} {A : Nat → Prop} {tys : List (ClassId × FieldType)} {X : va_W} {H0 : Heap}
theorem xmna (ty : FieldType) {z : vp_A} {N' K' : Nat} {tA tE : Nat} {cA cE : ClassId} (hexec : p.tables.exec = Jvm.exec) (hb : c.code = cc) {own : String} {index : Nat} (hown : s.vm.findClass own = some m.cls) (hclink : (Cond.classLink own index ("[" ++ (FieldType.array ty).toString)).before args s = true) (hover : xOver ty s) (harr : (Cond.arrayClass ty).before args s = true)
    (hK : va_K D vwCl tys s) (htA : tys[tA]? = some (cA, .array ty)) (htE : tys[tE]? = some (cE, ty)) (hP : va_P D vwCl X H) (hD : va_D A X) (hS : va_S A H0 H locs) (hA : ∀ q, H0.size ≤ q → A q) {n k : Int32} (hn : ¬ n < 0) (hk : ¬ k < 0) (hN : n.toNatClampNeg = N') (hM : k.toNatClampNeg = K')
    (hb1 : N' * 4 ≤ 536870912) (hb2 : K' * componentBytes ty ≤ 536870912) (hb3 : K' ≤ 536870912) (hdf : fits ty (defaultValue ty) = true) (hdd : (defaultValue ty).isDefault = true) (hprim : ∀ C : String, ty ≠ .object C) (hcells : cells + (1 + N') ≤ R.cells) (hslots : slots + (N' + N' * K') ≤ R.slots) (hz : ∀ c : ClassId, xmIn c K' (defaultValue ty) = vp_cell c z) (hdg : decode cc pc = .ok (.multianewarray index 2, 4))
    (kk : ∀ (q : Nat) (r : Nat → Nat) (H1 : Heap) (locs1 : List Loc), va_P D vwCl ((X ++ [(q, .inl (cA, N', .inr (.inr (.inr (.inr (xmf N' r))))))]) ++ (List.range N').map (fun j => (r j, .inl (cE, z)))) H1 → va_D A ((X ++ [(q, .inl (cA, N', .inr (.inr (.inr (.inr (xmf N' r))))))]) ++ (List.range N').map (fun j => (r j, .inl (cE, z)))) → va_S A H0 H1 locs1 →
      W p l e R s m args below meth c H1 locs1 (cells + (1 + N')) (slots + (N' + N' * K')) Q (F0 m (pc + 4) ls (.ref q :: rest))) : W p l e R s m args below meth c H locs cells slots Q (F0 m pc ls (.int k :: .int n :: rest)) := by
  subst hN
  subst hM
  intro T hT Xs
  have hpl : e.platform.magicAccessors = ({} : Platform).magicAccessors := by rw [Xs.admits.platform]
  obtain ⟨comp, c1, kA, hcomp, hkA, hkindA, hnameA⟩ := hover
  obtain ⟨comp', kC, ce, hcomp', hkC, hkindC⟩ := Cond.arrayClass_spec harr
  have ecomp : comp' = comp := Option.some.inj (hcomp'.symm.trans hcomp)
  subst ecomp
  have eA : c1 = cA := Option.some.inj (hnameA.symm.trans (hK.2 tA _ htA).2)
  subst eA
  have eE : comp' = cE := by
    have q := (hK.2 tE _ htE).2
    have q2 : s.vm.findClass ("[" ++ ty.toString) = some cE := by
      cases ty with
      | object C => exact absurd rfl (hprim C)
      | _ => exact q
    exact Option.some.inj (hcomp.symm.trans q2)
  subst eE
  obtain ⟨c0, hfc0, hcl⟩ := Cond.classLink_spec hown hclink e.platform hpl
  cases hnameA.symm.trans hfc0
  obtain ⟨hg₁, hwarm₁, hready₁⟩ := State.classEntry (e := e) Xs.warmed hcl
  generalize T.vm.noted m.cls index (.cls c1) = vm₁ at hg₁ hwarm₁ hready₁
  have hal : s.vm.Alike vm₁ := hwarm₁.alike
  obtain ⟨kA₁, hkA₁, heA⟩ := hal.2.2 _ _ hkA
  obtain ⟨kC₁, hkC₁, heC⟩ := hal.2.2 _ _ hkC
  have hkindA₁ : kA₁.kind = .array comp' (.array ty) := by rw [heA]; exact hkindA
  have hkindC₁ : kC₁.kind = .array ce ty := by rw [heC]; exact hkindC
  have X₁ := Xs.noted hwarm₁
  obtain ⟨hr1, hr2⟩ := Xs.roomAbove hcells hslots
  have XF := xm_stand X₁ c1 comp' n.toNatClampNeg k.toNatClampNeg (defaultValue ty) n.toNatClampNeg
  have hl1 : ¬ n.toNatClampNeg > e.platform.arrayLengthLimit := by rw [Launch.admits_arrayLengthLimit Xs.admits]; omega
  have hh1 : ¬ n.toNatClampNeg * componentBytes (.array ty) > e.platform.maxHeapBytes := by
    rw [Launch.admits_maxHeapBytes Xs.admits]
    show ¬ n.toNatClampNeg * 4 > 536870912
    omega
  have hl2 : ¬ k.toNatClampNeg > e.platform.arrayLengthLimit := by rw [Launch.admits_arrayLengthLimit Xs.admits]; omega
  have hh2 : ¬ k.toNatClampNeg * componentBytes ty > e.platform.maxHeapBytes := by rw [Launch.admits_maxHeapBytes Xs.admits]; omega
  obtain ⟨f1, f2, f3, f4, f5, f6⟩ := xmSt_facts (T.setVm vm₁) c1 comp' n.toNatClampNeg k.toNatClampNeg (defaultValue ty) n.toNatClampNeg
  have hTh : (T.setVm vm₁).heap = H := hT
  rw [hTh] at f1 f2 f5 f6
  have hTh2 : T.heap.size = H.size := by rw [hT]
  have step : ∀ target, Steps p.tables e below ((xmSt (T.setVm vm₁) c1 comp' n.toNatClampNeg k.toNatClampNeg (defaultValue ty) n.toNatClampNeg).setTop (F0 m (pc + 4) ls (.ref T.heap.size :: rest))) target → Steps p.tables e below (T.setTop (F0 m pc ls (.int k :: .int n :: rest))) target := by
    intro target hrest
    have hdg' : decode c.code pc = .ok (.multianewarray index 2, 4) := by rw [hb]; exact hdg
    jvm_step Xs.here [hexec, hdg']
    simp only [multianewarray.sem, wp_bind', W.resolveClassAt_links (State.method?_setTop (F0 m pc ls (.int k :: .int n :: rest)) Xs.here.top) hg₁]
    rw [W.popN, if_neg (by decide)]
    refine ⟨F0 m pc ls (.int k :: .int n :: rest), State.topJava?_setTop' (s := T.setVm vm₁) _ Xs.here.top, [.int n, .int k], rest, rfl, rfl, ?_⟩
    simp only [List.mapM_cons, List.mapM_nil, wp_bind', wp_pure']
    refine xm_make (k := kA₁) (kc := kC₁) hkA₁ hkindA₁ hkC₁ hkindC₁ hn hk hl1 hh1 hl2 hh2 hdf hdd (by show T.heap.size + 1 + _ ≤ _; omega) (by show T.slotsUsed + _ + _ ≤ _; omega) (fun d' acts' => ?_)
    have eS : ((T.setTop (F0 m pc ls (.int k :: .int n :: rest))).setVm vm₁).setTop { (F0 m pc ls (.int k :: .int n :: rest)) with stack := rest } = (T.setVm vm₁).setTop (F0 m pc ls rest) := by
      show ((T.setVm vm₁).setTop _).setTop _ = _
      rw [State.setTop_setTop]
    rw [eS, xmSt_top]
    simp only [wp_bind', W.mark, W.pushRef, State.topJava?_setTop' _ XF.here.top, Option.some.injEq, exists_eq_left', State.setTop_setTop, State.heap_setTop]
    intro acts
    simp [jvm, XF.here.top]
    exact hrest
  generalize hF : xmSt (T.setVm vm₁) c1 comp' n.toNatClampNeg k.toNatClampNeg (defaultValue ty) n.toNatClampNeg = F at XF step f1 f2 f3 f4 f5 f6
  have hout : xmOut c1 n.toNatClampNeg H.size n.toNatClampNeg = vp_cell c1 (n.toNatClampNeg, .inr (.inr (.inr (.inr (xmf n.toNatClampNeg (fun j => H.size + 1 + j)))))) := by
    rw [vp_cell_q]
    rfl
  rw [hout] at f2
  have hPF : va_P D vwCl X F.heap := hP.kept (fun k9 x hx => f5 x.1 ((hP k9 x hx).lt))
  have hP1 : va_P D vwCl (X ++ [(H.size, .inl (c1, n.toNatClampNeg, .inr (.inr (.inr (.inr (xmf n.toNatClampNeg (fun j => H.size + 1 + j)))))))]) F.heap := hPF.app (fun k9 x hx => by
    have h0 : k9 < 1 := (List.getElem?_eq_some_iff.mp hx).1
    rw [show k9 = 0 by omega] at hx
    cases hx
    exact f2)
  have hrow : ∀ (k9 : Nat) (x : Nat × va_E), ((List.range n.toNatClampNeg).map (fun j => ((H.size + 1 + j, .inl (comp', z)) : Nat × va_E)))[k9]? = some x → k9 < n.toNatClampNeg ∧ x = (H.size + 1 + k9, .inl (comp', z)) := fun k9 x hx => by
    rw [List.getElem?_map] at hx
    by_cases h9 : k9 < n.toNatClampNeg
    · rw [List.getElem?_range h9] at hx
      exact ⟨h9, (Option.some.inj hx).symm⟩
    · rw [List.getElem?_eq_none (by rw [List.length_range]; omega)] at hx
      cases hx
  have hP2 : va_P D vwCl ((X ++ [(H.size, .inl (c1, n.toNatClampNeg, .inr (.inr (.inr (.inr (xmf n.toNatClampNeg (fun j => H.size + 1 + j)))))))]) ++ (List.range n.toNatClampNeg).map (fun j => (H.size + 1 + j, .inl (comp', z)))) F.heap := hP1.app (fun k9 x hx => by
    obtain ⟨h9, rfl⟩ := hrow k9 x hx
    show F.heap[H.size + 1 + k9]? = some (vp_cell comp' z)
    rw [f6 k9 h9, hz])
  have hD1 := hD.push (e := .inl (c1, n.toNatClampNeg, .inr (.inr (.inr (.inr (xmf n.toNatClampNeg (fun j => H.size + 1 + j))))))) hP rfl (hA _ hS.1)
  have hD2 : va_D A ((X ++ [(H.size, .inl (c1, n.toNatClampNeg, .inr (.inr (.inr (.inr (xmf n.toNatClampNeg (fun j => H.size + 1 + j)))))))]) ++ (List.range n.toNatClampNeg).map (fun j => (H.size + 1 + j, .inl (comp', z)))) := by
    refine hD1.app ⟨fun i j x y hi hj hxy => ?_, fun k9 x hx => ?_⟩ (fun i j x y hi hj => ?_)
    · obtain ⟨-, rfl⟩ := hrow i x hi
      obtain ⟨-, rfl⟩ := hrow j y hj
      have hxy' : H.size + 1 + i = H.size + 1 + j := hxy
      omega
    · obtain ⟨-, rfl⟩ := hrow k9 x hx
      exact hA _ (show H0.size ≤ H.size + 1 + k9 by have := hS.1; omega)
    · obtain ⟨-, rfl⟩ := hrow j y hj
      have hle : x.1 ≤ H.size := by
        by_cases hl : i < X.length
        · rw [List.getElem?_append_left hl] at hi
          exact Nat.le_of_lt ((hP i x hi).lt)
        · rw [List.getElem?_append_right (by omega)] at hi
          have h0 : i - X.length < 1 := (List.getElem?_eq_some_iff.mp hi).1
          rw [show i - X.length = 0 by omega] at hi
          cases hi
          exact Nat.le_refl _
      show x.1 ≠ H.size + 1 + j
      omega
  have hS2 : va_S A H0 F.heap (locs ++ (List.range n.toNatClampNeg).map fun j => (⟨T.heap.size, j⟩ : Loc)) := by
    refine ⟨by rw [f1]; have := hS.1; omega, fun q h1 h2 => (f5 q (Nat.lt_of_lt_of_le h1 hS.1)).trans (hS.2.1 q h1 h2), fun q hq => ?_⟩
    rcases List.mem_append.mp hq with h | h
    · exact hS.2.2 q h
    · obtain ⟨j, -, rfl⟩ := List.mem_map.mp h
      exact hA _ (show H0.size ≤ T.heap.size by rw [hTh2]; exact hS.1)
  obtain ⟨t, a1, b1⟩ := kk H.size (fun j => H.size + 1 + j) F.heap _ hP2 hD2 hS2 F rfl XF
  refine ⟨t, step t ?_, b1⟩
  rw [hTh2]
  exact a1
end XMS
theorem xi2l (x : Int32) : x.toInt64.toInt = x.toInt := Int32.toInt_toInt64 x
theorem ilt {x y : Int32} {a b : Int} (ha : x.toInt = a) (hb : y.toInt = b) : x < y ↔ a < b := by rw [← ha, ← hb]; exact Int32.lt_iff_toInt_lt
theorem ile {x y : Int32} {a b : Int} (ha : x.toInt = a) (hb : y.toInt = b) : x ≤ y ↔ a ≤ b := by rw [← ha, ← hb]; exact Int32.le_iff_toInt_le
theorem ieq {x y : Int32} {a b : Int} (ha : x.toInt = a) (hb : y.toInt = b) : x = y ↔ a = b := by rw [← ha, ← hb]; exact Int32.toInt_inj.symm
theorem jlt {x y : Int64} {a b : Int} (ha : x.toInt = a) (hb : y.toInt = b) : x < y ↔ a < b := by rw [← ha, ← hb]; exact Int64.lt_iff_toInt_lt
theorem jle {x y : Int64} {a b : Int} (ha : x.toInt = a) (hb : y.toInt = b) : x ≤ y ↔ a ≤ b := by rw [← ha, ← hb]; exact Int64.le_iff_toInt_le
theorem jeq {x y : Int64} {a b : Int} (ha : x.toInt = a) (hb : y.toInt = b) : x = y ↔ a = b := by rw [← ha, ← hb]; exact Int64.toInt_inj.symm
theorem xbool {P : Prop} [Decidable P] {r : Int32} (h : r = if P then 1 else 0) : (r = 0 ↔ ¬ P) ∧ (¬ r = 0 ↔ P) := by
  by_cases hp : P
  · rw [if_pos hp] at h
    subst h
    exact ⟨⟨fun q => absurd q (by decide), fun q => absurd hp q⟩, ⟨fun _ => hp, fun _ => by decide⟩⟩
  · rw [if_neg hp] at h
    subst h
    exact ⟨⟨fun _ => hp, fun _ => rfl⟩, ⟨fun q => absurd rfl q, fun q => absurd q hp⟩⟩
theorem xP0 (D : va_G) (H : Heap) : va_P D vwCl [] H := fun k q h => by simp at h
theorem xD0 (A : Nat → Prop) : va_D A [] := ⟨fun i j p q h => by simp at h, fun k q h => by simp at h⟩
theorem xand1 (x : Int32) : x &&& (-1) = x := by
  apply Int32.toBitVec_inj.mp
  rw [Int32.toBitVec_and, show (-1 : Int32).toBitVec = BitVec.allOnes 32 from by decide]
  exact BitVec.and_allOnes
theorem xclamp {x : Int32} {j : Nat} (h : x.toInt = (j : Int)) : x.toNatClampNeg = j := by
  unfold Int32.toNatClampNeg
  rw [h]
  exact Int.toNat_natCast j
theorem xbm {z : Int} (h1 : -2147483648 ≤ z) (h2 : z < 2147483648) : z.bmod (2 ^ 32) = z := by
  apply Int.bmod_eq_of_le
  · exact h1
  · exact h2
theorem xadd {x y : Int32} {a b : Int} (ha : x.toInt = a) (hb : y.toInt = b) (h1 : -2147483648 ≤ a + b) (h2 : a + b < 2147483648) : (x + y).toInt = a + b := by
  rw [Int32.toInt_add, ha, hb]
  exact xbm h1 h2
theorem xsub {x y : Int32} {a b : Int} (ha : x.toInt = a) (hb : y.toInt = b) (h1 : -2147483648 ≤ a - b) (h2 : a - b < 2147483648) : (x - y).toInt = a - b := by
  rw [Int32.toInt_sub, ha, hb]
  exact xbm h1 h2
theorem xmul {x y : Int32} {a b : Int} (ha : x.toInt = a) (hb : y.toInt = b) (h1 : -2147483648 ≤ a * b) (h2 : a * b < 2147483648) : (x * y).toInt = a * b := by
  rw [Int32.toInt_mul, ha, hb]
  exact xbm h1 h2
theorem xnewI (n : Nat) (c : ClassId) : vp_cell c (n, .inl (fun _ => 0)) = arrV c n (fun _ => defaultValue .int) := rfl
theorem xnewZ (n : Nat) (c : ClassId) : vp_cell c (n, .inl (fun _ => 0)) = arrV c n (fun _ => defaultValue .boolean) := rfl
theorem xnewJ (n : Nat) (c : ClassId) : vp_cell c (n, .inr (.inl (fun _ => 0))) = arrV c n (fun _ => defaultValue .long) := rfl
theorem xinI (n : Nat) (c : ClassId) : xmIn c n (defaultValue .int) = vp_cell c (n, .inl (fun _ => 0)) := rfl
theorem xinJ (n : Nat) (c : ClassId) : xmIn c n (defaultValue .long) = vp_cell c (n, .inr (.inl (fun _ => 0))) := rfl
end
section
theorem xdef_X0 : ∀ j, j < 9 → defaultValue (tyX0 j) = vp_V [.null, .null, .null, .null, .null, .int 0, .int 0, .int 0, .int 0] j := by decide +kernel
theorem xdef_X2 : ∀ j, j < 4 → defaultValue (tyX2 j) = vp_V [.null, .null, .null, .int 0] j := by decide +kernel
theorem xdef_X3 : ∀ j, j < 6 → defaultValue (tyX3 j) = vp_V [.null, .null, .int 0, .int 0, .int 0, .int 0] j := by decide +kernel
theorem xdef_X4 : ∀ j, j < 13 → defaultValue (tyX4 j) = vp_V [.null, .null, .null, .null, .null, .int 0, .int 0, .int 0, .int 0, .int 0, .int 0, .int 0, .int 0] j := by decide +kernel
theorem xdef_X5 : ∀ j, j < 14 → defaultValue (tyX5 j) = vp_V [.null, .null, .null, .null, .null, .null, .int 0, .int 0, .int 0, .int 0, .int 0, .int 0, .int 0, .int 0] j := by decide +kernel
theorem xdef_X6 : ∀ j, j < 3 → defaultValue (tyX6 j) = vp_V [.null, .null, .null] j := by decide +kernel
theorem xdef_X7 : ∀ j, j < 4 → defaultValue (tyX7 j) = vp_V [.null, .null, .int 0, .int 0] j := by decide +kernel
theorem xdef_X8 : ∀ j, j < 2 → defaultValue (tyX8 j) = vp_V [.null, .int 0] j := by decide +kernel
theorem xdef_X9 : ∀ j, j < 6 → defaultValue (tyX9 j) = vp_V [.null, .null, .null, .int 0, .int 0, .int 0] j := by decide +kernel
theorem xdef_X10 : ∀ j, j < 10 → defaultValue (tyX10 j) = vp_V [.null, .null, .null, .null, .null, .null, .null, .null, .null, .int 0] j := by decide +kernel
theorem xdef_X11 : ∀ j, j < 59 → defaultValue (tyX11 j) = vp_V [.int 0, .null, .null, .null, .int 0, .int 0, .int 0, .int 0, .null, .null, .null, .int 0, .int 0, .int 0, .int 0, .int 0, .int 0, .null, .null, .int 0, .null, .int 0, .null, .int 0, .null, .null, .int 0, .int 0, .int 0, .int 0, .int 0, .int 0, .int 0, .int 0, .int 0, .null, .null, .null, .null, .null, .null, .int 0, .int 0, .int 0, .int 0, .int 0, .int 0, .null, .null, .null, .null, .null, .int 0, .int 0, .null, .int 0, .null, .null, .null] j := by decide +kernel
theorem xs_I : "[" ++ (FieldType.array .int).toString = "[[I" := by decide +kernel
theorem xs_J : "[" ++ (FieldType.array .long).toString = "[[J" := by decide +kernel
abbrev W_fillI (cI cJ cZ cG cH : ClassId) (a0 : Nat) (v : Int32) (N : Nat) (f : Nat → Int32) : va_W := [(a0, .inl (cI, N, .inl f))]
abbrev Q_fillI (D : va_G) (cI cJ cZ cG cH : ClassId) (a0 : Nat) (v : Int32) (N : Nat) (f : Nat → Int32) (A : Nat → Prop) : Array Value → State → Outcome → State → Prop := va_Qv (fun (_ : Unit) => True) (fun _ t => ∃ (g9 : Nat → Int32), (∀ j, j < N → g9 j = v) ∧ xB D (tyL cI cJ cZ cG cH) [(a0, .inl (cI, N, .inl g9))] A t) A
abbrev rm_fillI : Room := { frames := 0, cells := 0, slots := 0, locals := 0 }
set_option maxRecDepth 100000 in
set_option maxHeartbeats 4000000 in
/-- Arrays.fill: every place holds v -/
theorem c_fillI (l : Launch) (D : va_G) (cI cJ cZ cG cH : ClassId) (sz : Nat) (a0 : Nat) (v : Int32) (N : Nat) (f : Nat → Int32) (hN : N < 2 ^ 31) : Met l yJ7_fill_53178 wsJ7_fill_53178 rm_fillI (xPc [.ref a0, .int v] D (tyL cI cJ cZ cG cH) (W_fillI cI cJ cZ cG cH a0 v N f) sz) (Q_fillI D cI cJ cZ cG cH a0 v N f (va_A (W_fillI cI cJ cZ cG cH a0 v N f) sz)) 0 0 (va_A (W_fillI cI cJ cZ cG cH a0 v N f) sz) := by
  refine xMet (cc := cJ7_fill_53178) (maxL := 4) (ret := none) (Qf := Q_fillI D cI cJ cZ cG cH a0 v N f) (by decide) rfl (Nat.le_of_ble_eq_true rfl) ?_
  intro p e s m below meth c ls A hx hb hr hml hts hown hlocks hnm hsz hP hK hD hA hS hl
  have hown : s.vm.findClass RJ7 = some m.cls := hown
  have hP : va_P D vwCl [(a0, .inl (cI, N, .inl f))] s.heap := hP
  have hD : va_D A [(a0, .inl (cI, N, .inl f))] := hD
  have hl : lv_has ls 4 [(0, .ref a0), (1, .int v)] := hl
  refine lv_iconst (v := 0) hx hb dJ7_fill_53178_0 (by decide) ?_
  refine lv_istore_n (lv' := [(2, .int 0), (0, .ref a0), (1, .int v)]) hx hb dJ7_fill_53178_1 rfl hl (by decide) rfl (fun ls hl => ?_)
  refine lv_aload_n hx hb dJ7_fill_53178_2 rfl (lv_at hl 1 rfl) ?_
  refine va_alen (v := nI N) hx hb hK hP 0 0 rfl rfl rfl dJ7_fill_53178_3 ?_
  refine lv_istore_n (lv' := [(3, .int (nI N)), (2, .int 0), (0, .ref a0), (1, .int v)]) hx hb dJ7_fill_53178_4 rfl hl (by decide) rfl (fun ls hl => ?_)
  have hl5 : ∀ (n5 : Nat) (i : Nat) (g : Nat → Int32), (N - i < n5) → (hi : i ≤ N) → (hg : ∀ j, j < i → g j = v) → ∀ (H : Heap) (locs : List Loc), va_P D vwCl [(a0, .inl (cI, N, .inl g))] H → va_D A [(a0, .inl (cI, N, .inl g))] → va_S A s.heap H locs → ∀ (ls : Array Slot), lv_has ls 4 [(3, .int (nI N)), (2, .int (nI i)), (0, .ref a0), (1, .int v)] → W p l e rm_fillI s m [Value.ref a0, Value.int v].toArray below meth c H locs 0 0 (MQ below ((Q_fillI D cI cJ cZ cG cH a0 v N f) A) [Value.ref a0, Value.int v].toArray s 0 0 A) (F0 m 5 ls []) := by
    intro n5
    induction n5 with
    | zero =>
      intro i g hm5
      exact absurd hm5 (Nat.not_lt_zero _)
    | succ n5 ih5 =>
      intro i g hm5 hi hg H locs hP hD hS ls hl
      refine lv_iload_n hx hb dJ7_fill_53178_5 rfl (lv_at hl 1 rfl) ?_
      refine lv_iload_n hx hb dJ7_fill_53178_6 rfl (lv_at hl 0 rfl) ?_
      refine lv_icmp_ge (tgt := 20) hx hb dJ7_fill_53178_7 (by decide) (fun c_1 => ?_) (fun c_1 => ?_)
      · skip
        have i_1 : ((N : Nat) : Int) ≤ ((i : Nat) : Int) := (ile (nI_toInt (by omega)) (nI_toInt (by omega))).mp c_1
        refine W.widen (k := 0) (n := 0) (by decide) (by decide) ?_
        have hP9 := hP.sub (ws' := [(a0, .inl (cI, N, .inl g))]) [0] rfl
        have hD9 := hD.sub (ws' := [(a0, .inl (cI, N, .inl g))]) [0] (by decide) rfl
        exact W.vret hx hb hr (fun t ht hW => ⟨⟨(), rfl, trivial, ⟨g, (fun j hj => hg j (by omega)), xB_of ht hW hP9 hK hD9⟩⟩, hS.F ht⟩) hS.2.2 dJ7_fill_53178_20
      · skip
        have i_1 : ¬ (((N : Nat) : Int) ≤ ((i : Nat) : Int)) := fun h9 => c_1 ((ile (nI_toInt (by omega)) (nI_toInt (by omega))).mpr h9)
        refine lv_aload_n hx hb dJ7_fill_53178_10 rfl (lv_at hl 2 rfl) ?_
        refine lv_iload_n hx hb dJ7_fill_53178_11 rfl (lv_at hl 1 rfl) ?_
        refine lv_iload_n hx hb dJ7_fill_53178_12 rfl (lv_at hl 3 rfl) ?_
        refine va_iast hx hb hK hP hD hS 0 0 rfl rfl (vp_in_nI (by omega) (by omega)) dJ7_fill_53178_13 (fun H locs hP hD hS => ?_)
        obtain ⟨f2, ef2⟩ : ∃ fz9 : Nat → Int32, fz9 = upd g (nI i).toNatClampNeg v := ⟨_, rfl⟩
        have hP : va_P D vwCl [(a0, .inl (cI, N, .inl f2))] H := by rw [ef2]; exact hP
        have hD : va_D A [(a0, .inl (cI, N, .inl f2))] := by rw [ef2]; exact hD
        refine lv_iinc (v := (nI (i + 1))) (lv' := [(2, .int (nI (i + 1))), (3, .int (nI N)), (0, .ref a0), (1, .int v)]) hx hb dJ7_fill_53178_14 hl (k := 1) rfl ((show (nI i) + Int32.ofInt 1 = (nI i) + 1 from rfl).trans (nI_1 _)) (by decide) rfl (fun ls hl => ?_)
        refine lv_goto (tgt := 5) hx hb dJ7_fill_53178_17 (by decide) ?_
        exact ih5 (i + 1) f2 (by omega) (by omega) (fun j hj => by rw [ef2, nI_clamp (by omega)]; unfold upd; split; rfl; exact hg j (by omega)) _ _ hP hD hS ls (lv_sub hl [1, 0, 2, 3] rfl)
  exact hl5 _ 0 f (Nat.lt_succ_self _) (Nat.zero_le _) (fun j h => absurd h (Nat.not_lt_zero j)) _ _ hP hD hS ls (lv_sub hl [0, 1, 2, 3] rfl)
abbrev W_fillJ (cI cJ cZ cG cH : ClassId) (a0 : Nat) (v : Int64) (N : Nat) (f : Nat → Int64) : va_W := [(a0, .inl (cJ, N, .inr (.inl f)))]
abbrev Q_fillJ (D : va_G) (cI cJ cZ cG cH : ClassId) (a0 : Nat) (v : Int64) (N : Nat) (f : Nat → Int64) (A : Nat → Prop) : Array Value → State → Outcome → State → Prop := va_Qv (fun (_ : Unit) => True) (fun _ t => ∃ (g9 : Nat → Int64), (∀ j, j < N → g9 j = v) ∧ xB D (tyL cI cJ cZ cG cH) [(a0, .inl (cJ, N, .inr (.inl g9)))] A t) A
abbrev rm_fillJ : Room := { frames := 0, cells := 0, slots := 0, locals := 0 }
set_option maxRecDepth 100000 in
set_option maxHeartbeats 4000000 in
/-- Arrays.fill: every place holds v -/
theorem c_fillJ (l : Launch) (D : va_G) (cI cJ cZ cG cH : ClassId) (sz : Nat) (a0 : Nat) (v : Int64) (N : Nat) (f : Nat → Int64) (hN : N < 2 ^ 31) : Met l yJ7_fill_d0a16 wsJ7_fill_d0a16 rm_fillJ (xPc [.ref a0, .long v] D (tyL cI cJ cZ cG cH) (W_fillJ cI cJ cZ cG cH a0 v N f) sz) (Q_fillJ D cI cJ cZ cG cH a0 v N f (va_A (W_fillJ cI cJ cZ cG cH a0 v N f) sz)) 0 0 (va_A (W_fillJ cI cJ cZ cG cH a0 v N f) sz) := by
  refine xMet (cc := cJ7_fill_d0a16) (maxL := 5) (ret := none) (Qf := Q_fillJ D cI cJ cZ cG cH a0 v N f) (by decide) rfl (Nat.le_of_ble_eq_true rfl) ?_
  intro p e s m below meth c ls A hx hb hr hml hts hown hlocks hnm hsz hP hK hD hA hS hl
  have hown : s.vm.findClass RJ7 = some m.cls := hown
  have hP : va_P D vwCl [(a0, .inl (cJ, N, .inr (.inl f)))] s.heap := hP
  have hD : va_D A [(a0, .inl (cJ, N, .inr (.inl f)))] := hD
  have hl : lv_has ls 5 [(0, .ref a0), (1, .long v)] := hl
  refine lv_iconst (v := 0) hx hb dJ7_fill_d0a16_0 (by decide) ?_
  refine lv_istore_n (lv' := [(3, .int 0), (0, .ref a0), (1, .long v)]) hx hb dJ7_fill_d0a16_1 rfl hl (by decide) rfl (fun ls hl => ?_)
  refine lv_aload_n hx hb dJ7_fill_d0a16_2 rfl (lv_at hl 1 rfl) ?_
  refine va_alen (v := nI N) hx hb hK hP 0 1 rfl rfl rfl dJ7_fill_d0a16_3 ?_
  refine lv_istore (lv' := [(4, .int (nI N)), (3, .int 0), (0, .ref a0), (1, .long v)]) hx hb dJ7_fill_d0a16_4 hl (by decide) rfl (fun ls hl => ?_)
  have hl6 : ∀ (n6 : Nat) (i : Nat) (g : Nat → Int64), (N - i < n6) → (hi : i ≤ N) → (hg : ∀ j, j < i → g j = v) → ∀ (H : Heap) (locs : List Loc), va_P D vwCl [(a0, .inl (cJ, N, .inr (.inl g)))] H → va_D A [(a0, .inl (cJ, N, .inr (.inl g)))] → va_S A s.heap H locs → ∀ (ls : Array Slot), lv_has ls 5 [(4, .int (nI N)), (3, .int (nI i)), (0, .ref a0), (1, .long v)] → W p l e rm_fillJ s m [Value.ref a0, Value.long v].toArray below meth c H locs 0 0 (MQ below ((Q_fillJ D cI cJ cZ cG cH a0 v N f) A) [Value.ref a0, Value.long v].toArray s 0 0 A) (F0 m 6 ls []) := by
    intro n6
    induction n6 with
    | zero =>
      intro i g hm6
      exact absurd hm6 (Nat.not_lt_zero _)
    | succ n6 ih6 =>
      intro i g hm6 hi hg H locs hP hD hS ls hl
      refine lv_iload_n hx hb dJ7_fill_d0a16_6 rfl (lv_at hl 1 rfl) ?_
      refine lv_iload hx hb dJ7_fill_d0a16_7 (lv_at hl 0 rfl) ?_
      refine lv_icmp_ge (tgt := 22) hx hb dJ7_fill_d0a16_9 (by decide) (fun c_1 => ?_) (fun c_1 => ?_)
      · skip
        have i_1 : ((N : Nat) : Int) ≤ ((i : Nat) : Int) := (ile (nI_toInt (by omega)) (nI_toInt (by omega))).mp c_1
        refine W.widen (k := 0) (n := 0) (by decide) (by decide) ?_
        have hP9 := hP.sub (ws' := [(a0, .inl (cJ, N, .inr (.inl g)))]) [0] rfl
        have hD9 := hD.sub (ws' := [(a0, .inl (cJ, N, .inr (.inl g)))]) [0] (by decide) rfl
        exact W.vret hx hb hr (fun t ht hW => ⟨⟨(), rfl, trivial, ⟨g, (fun j hj => hg j (by omega)), xB_of ht hW hP9 hK hD9⟩⟩, hS.F ht⟩) hS.2.2 dJ7_fill_d0a16_22
      · skip
        have i_1 : ¬ (((N : Nat) : Int) ≤ ((i : Nat) : Int)) := fun h9 => c_1 ((ile (nI_toInt (by omega)) (nI_toInt (by omega))).mpr h9)
        refine lv_aload_n hx hb dJ7_fill_d0a16_12 rfl (lv_at hl 2 rfl) ?_
        refine lv_iload_n hx hb dJ7_fill_d0a16_13 rfl (lv_at hl 1 rfl) ?_
        refine lv_lload_n hx hb dJ7_fill_d0a16_14 rfl (lv_at hl 3 rfl) ?_
        refine va_last hx hb hK hP hD hS 0 1 rfl rfl (vp_in_nI (by omega) (by omega)) dJ7_fill_d0a16_15 (fun H locs hP hD hS => ?_)
        obtain ⟨f2, ef2⟩ : ∃ fz9 : Nat → Int64, fz9 = vp_updL g (nI i).toNatClampNeg v := ⟨_, rfl⟩
        have hP : va_P D vwCl [(a0, .inl (cJ, N, .inr (.inl f2)))] H := by rw [ef2]; exact hP
        have hD : va_D A [(a0, .inl (cJ, N, .inr (.inl f2)))] := by rw [ef2]; exact hD
        refine lv_iinc (v := (nI (i + 1))) (lv' := [(3, .int (nI (i + 1))), (4, .int (nI N)), (0, .ref a0), (1, .long v)]) hx hb dJ7_fill_d0a16_16 hl (k := 1) rfl ((show (nI i) + Int32.ofInt 1 = (nI i) + 1 from rfl).trans (nI_1 _)) (by decide) rfl (fun ls hl => ?_)
        refine lv_goto (tgt := 6) hx hb dJ7_fill_d0a16_19 (by decide) ?_
        exact ih6 (i + 1) f2 (by omega) (by omega) (fun j hj => by rw [ef2, nI_clamp (by omega)]; unfold vp_updL; split; rfl; exact hg j (by omega)) _ _ hP hD hS ls (lv_sub hl [1, 0, 2, 3] rfl)
  exact hl6 _ 0 f (Nat.lt_succ_self _) (Nat.zero_le _) (fun j h => absurd h (Nat.not_lt_zero j)) _ _ hP hD hS ls (lv_sub hl [0, 1, 2, 3] rfl)
end
section
theorem in_X8_init_X8 : ∀ w ∈ wsX80, w ∈ wsX8_init := by decide +kernel
abbrev W_Tape_init (cI cJ cZ cG cH : ClassId) (tp : Nat) : va_W := [(tp, .inr (7, [.null, .int 0]))]
abbrev Q_Tape_init (D : va_G) (cI cJ cZ cG cH : ClassId) (tp : Nat) (A : Nat → Prop) : Array Value → State → Outcome → State → Prop := va_Qv (fun (_ : Unit) => True) (fun _ t => ∃ (tb : Nat), xB D (tyL cI cJ cZ cG cH) [(tp, .inr (7, [.ref tb, .int 0])), (tb, .inl (cI, 400, .inl (fun _ => 0)))] A t) A
abbrev rm_Tape_init : Room := { frames := 1, cells := 1, slots := 400, locals := 12 }
set_option maxRecDepth 100000 in
set_option maxHeartbeats 60000 in
theorem v1 (l : Launch) (D : va_G) (cI cJ cZ cG cH : ClassId) (sz : Nat) (tp : Nat) : Met l yX8_init wsX8_init rm_Tape_init (xPc [.ref tp] D (tyL cI cJ cZ cG cH) (W_Tape_init cI cJ cZ cG cH tp) sz) (Q_Tape_init D cI cJ cZ cG cH tp (va_A (W_Tape_init cI cJ cZ cG cH tp) sz)) 1 400 (va_A (W_Tape_init cI cJ cZ cG cH tp) sz) := by
  refine xMet (cc := cX8_init) (maxL := 1) (ret := none) (Qf := Q_Tape_init D cI cJ cZ cG cH tp) (by decide) rfl (Nat.le_of_ble_eq_true rfl) ?_
  intro p e s m below meth c ls A hx hb hr hml hts hown hlocks hnm hsz hP hK hD hA hS hl
  have hown : s.vm.findClass RX8 = some m.cls := hown
  have hin : meth.name = "<init>" := hnm
  have hP : va_P D vwCl [(tp, .inr (7, [.null, .int 0]))] s.heap := hP
  have hD : va_D A [(tp, .inr (7, [.null, .int 0]))] := hD
  have hl : lv_has ls 1 [(0, .ref tp)] := hl
  refine lv_aload_n hx hb dX8_init_0 rfl (lv_at hl 0 rfl) ?_
  refine W.objInit hx hb hown (hts (.methodLink RX8 1 objectInit) (by decide +kernel)) (hts (.instanceMethod objectInit) (by decide +kernel)) (hts (.code objectInit ⟨#[0xb1]⟩ 1 none) (by decide +kernel)) rfl (by rw [hml]; exact hl.1) rfl dX8_init_1 (Nat.le_of_ble_eq_true rfl) (Nat.le_of_ble_eq_true rfl) ?_
  refine W.eq (g2 := F0 m 4 ls []) rfl ?_
  refine lv_aload_n hx hb dX8_init_4 rfl (lv_at hl 0 rfl) ?_
  refine lv_sipush (v := 400) hx hb dX8_init_5 (by decide) ?_
  refine va_newa (atype := .int) (ty := .int) (a0 := (400, .inl (fun _ => 0))) (N' := 400) hx hb (hts (.arrayClass .int) (by decide +kernel)) rfl hK hP hD hS hA (fun _ => rfl) (by decide) (by decide) (by decide) (Nat.le_of_ble_eq_true rfl) (Nat.le_of_ble_eq_true rfl) dX8_init_8 (fun q1 cA2 H hKn hP hD hS => ?_)
  sorry
set_option maxRecDepth 100000 in
set_option maxHeartbeats 60000 in
theorem v2 (l : Launch) (D : va_G) (cI cJ cZ cG cH : ClassId) (sz : Nat) (tp : Nat) : Met l yX8_init wsX8_init rm_Tape_init (xPc [.ref tp] D (tyL cI cJ cZ cG cH) (W_Tape_init cI cJ cZ cG cH tp) sz) (Q_Tape_init D cI cJ cZ cG cH tp (va_A (W_Tape_init cI cJ cZ cG cH tp) sz)) 1 400 (va_A (W_Tape_init cI cJ cZ cG cH tp) sz) := by
  refine xMet (cc := cX8_init) (maxL := 1) (ret := none) (Qf := Q_Tape_init D cI cJ cZ cG cH tp) (by decide) rfl (Nat.le_of_ble_eq_true rfl) ?_
  intro p e s m below meth c ls A hx hb hr hml hts hown hlocks hnm hsz hP hK hD hA hS hl
  have hown : s.vm.findClass RX8 = some m.cls := hown
  have hin : meth.name = "<init>" := hnm
  have hP : va_P D vwCl [(tp, .inr (7, [.null, .int 0]))] s.heap := hP
  have hD : va_D A [(tp, .inr (7, [.null, .int 0]))] := hD
  have hl : lv_has ls 1 [(0, .ref tp)] := hl
  refine lv_aload_n hx hb dX8_init_0 rfl (lv_at hl 0 rfl) ?_
  refine W.objInit hx hb hown (hts (.methodLink RX8 1 objectInit) (by decide +kernel)) (hts (.instanceMethod objectInit) (by decide +kernel)) (hts (.code objectInit ⟨#[0xb1]⟩ 1 none) (by decide +kernel)) rfl (by rw [hml]; exact hl.1) rfl dX8_init_1 (Nat.le_of_ble_eq_true rfl) (Nat.le_of_ble_eq_true rfl) ?_
  refine W.eq (g2 := F0 m 4 ls []) rfl ?_
  refine lv_aload_n hx hb dX8_init_4 rfl (lv_at hl 0 rfl) ?_
  refine lv_sipush (v := 400) hx hb dX8_init_5 (by decide) ?_
  refine va_newa (atype := .int) (ty := .int) (a0 := (400, .inl (fun _ => 0))) (N' := 400) hx hb (hts (.arrayClass .int) (by decide +kernel)) rfl hK hP hD hS hA (xnewI _) (by decide) (by decide) (by decide) (Nat.le_of_ble_eq_true rfl) (Nat.le_of_ble_eq_true rfl) dX8_init_8 (fun q1 cA2 H hKn hP hD hS => ?_)
  sorry
set_option maxRecDepth 100000 in
set_option maxHeartbeats 60000 in
theorem v3 (l : Launch) (D : va_G) (cI cJ cZ cG cH : ClassId) (sz : Nat) (tp : Nat) : Met l yX8_init wsX8_init rm_Tape_init (xPc [.ref tp] D (tyL cI cJ cZ cG cH) (W_Tape_init cI cJ cZ cG cH tp) sz) (Q_Tape_init D cI cJ cZ cG cH tp (va_A (W_Tape_init cI cJ cZ cG cH tp) sz)) 1 400 (va_A (W_Tape_init cI cJ cZ cG cH tp) sz) := by
  refine xMet (cc := cX8_init) (maxL := 1) (ret := none) (Qf := Q_Tape_init D cI cJ cZ cG cH tp) (by decide) rfl (Nat.le_of_ble_eq_true rfl) ?_
  intro p e s m below meth c ls A hx hb hr hml hts hown hlocks hnm hsz hP hK hD hA hS hl
  have hown : s.vm.findClass RX8 = some m.cls := hown
  have hin : meth.name = "<init>" := hnm
  have hP : va_P D vwCl [(tp, .inr (7, [.null, .int 0]))] s.heap := hP
  have hD : va_D A [(tp, .inr (7, [.null, .int 0]))] := hD
  have hl : lv_has ls 1 [(0, .ref tp)] := hl
  refine lv_aload_n hx hb dX8_init_0 rfl (lv_at hl 0 rfl) ?_
  refine W.objInit hx hb hown (hts (.methodLink RX8 1 objectInit) (by decide +kernel)) (hts (.instanceMethod objectInit) (by decide +kernel)) (hts (.code objectInit ⟨#[0xb1]⟩ 1 none) (by decide +kernel)) rfl (by rw [hml]; exact hl.1) rfl dX8_init_1 (Nat.le_of_ble_eq_true rfl) (Nat.le_of_ble_eq_true rfl) ?_
  refine W.eq (g2 := F0 m 4 ls []) rfl ?_
  refine lv_aload_n hx hb dX8_init_4 rfl (lv_at hl 0 rfl) ?_
  refine lv_sipush (v := 400) hx hb dX8_init_5 (by decide) ?_
  refine va_newa (atype := .int) (ty := .int) (a0 := (400, .inl (fun _ => 0))) (N' := 400) hx hb (hts (.arrayClass .int) (by decide +kernel)) rfl hK hP hD hS hA (xnewI _) sorry sorry sorry (Nat.le_of_ble_eq_true rfl) (Nat.le_of_ble_eq_true rfl) dX8_init_8 (fun q1 cA2 H hKn hP hD hS => ?_)
  sorry
set_option maxRecDepth 100000 in
set_option maxHeartbeats 60000 in
theorem v4 (l : Launch) (D : va_G) (cI cJ cZ cG cH : ClassId) (sz : Nat) (tp : Nat) : Met l yX8_init wsX8_init rm_Tape_init (xPc [.ref tp] D (tyL cI cJ cZ cG cH) (W_Tape_init cI cJ cZ cG cH tp) sz) (Q_Tape_init D cI cJ cZ cG cH tp (va_A (W_Tape_init cI cJ cZ cG cH tp) sz)) 1 400 (va_A (W_Tape_init cI cJ cZ cG cH tp) sz) := by
  refine xMet (cc := cX8_init) (maxL := 1) (ret := none) (Qf := Q_Tape_init D cI cJ cZ cG cH tp) (by decide) rfl (Nat.le_of_ble_eq_true rfl) ?_
  intro p e s m below meth c ls A hx hb hr hml hts hown hlocks hnm hsz hP hK hD hA hS hl
  have hown : s.vm.findClass RX8 = some m.cls := hown
  have hin : meth.name = "<init>" := hnm
  have hP : va_P D vwCl [(tp, .inr (7, [.null, .int 0]))] s.heap := hP
  have hD : va_D A [(tp, .inr (7, [.null, .int 0]))] := hD
  have hl : lv_has ls 1 [(0, .ref tp)] := hl
  refine lv_aload_n hx hb dX8_init_0 rfl (lv_at hl 0 rfl) ?_
  refine W.objInit hx hb hown (hts (.methodLink RX8 1 objectInit) (by decide +kernel)) (hts (.instanceMethod objectInit) (by decide +kernel)) (hts (.code objectInit ⟨#[0xb1]⟩ 1 none) (by decide +kernel)) rfl (by rw [hml]; exact hl.1) rfl dX8_init_1 (Nat.le_of_ble_eq_true rfl) (Nat.le_of_ble_eq_true rfl) ?_
  refine W.eq (g2 := F0 m 4 ls []) rfl ?_
  refine lv_aload_n hx hb dX8_init_4 rfl (lv_at hl 0 rfl) ?_
  refine lv_sipush (v := 400) hx hb dX8_init_5 (by decide) ?_
  refine va_newa (atype := .int) (ty := .int) (a0 := (400, .inl (fun _ => 0))) (N' := 400) hx hb (hts (.arrayClass .int) (by decide +kernel)) rfl hK hP hD hS hA (xnewI _) sorry sorry sorry sorry sorry dX8_init_8 (fun q1 cA2 H hKn hP hD hS => ?_)
  sorry
set_option maxRecDepth 100000 in
set_option maxHeartbeats 60000 in
theorem v5 (l : Launch) (D : va_G) (cI cJ cZ cG cH : ClassId) (sz : Nat) (tp : Nat) : Met l yX8_init wsX8_init rm_Tape_init (xPc [.ref tp] D (tyL cI cJ cZ cG cH) (W_Tape_init cI cJ cZ cG cH tp) sz) (Q_Tape_init D cI cJ cZ cG cH tp (va_A (W_Tape_init cI cJ cZ cG cH tp) sz)) 1 400 (va_A (W_Tape_init cI cJ cZ cG cH tp) sz) := by
  refine xMet (cc := cX8_init) (maxL := 1) (ret := none) (Qf := Q_Tape_init D cI cJ cZ cG cH tp) (by decide) rfl (Nat.le_of_ble_eq_true rfl) ?_
  intro p e s m below meth c ls A hx hb hr hml hts hown hlocks hnm hsz hP hK hD hA hS hl
  have hown : s.vm.findClass RX8 = some m.cls := hown
  have hin : meth.name = "<init>" := hnm
  have hP : va_P D vwCl [(tp, .inr (7, [.null, .int 0]))] s.heap := hP
  have hD : va_D A [(tp, .inr (7, [.null, .int 0]))] := hD
  have hl : lv_has ls 1 [(0, .ref tp)] := hl
  refine lv_aload_n hx hb dX8_init_0 rfl (lv_at hl 0 rfl) ?_
  refine W.objInit hx hb hown (hts (.methodLink RX8 1 objectInit) (by decide +kernel)) (hts (.instanceMethod objectInit) (by decide +kernel)) (hts (.code objectInit ⟨#[0xb1]⟩ 1 none) (by decide +kernel)) rfl (by rw [hml]; exact hl.1) rfl dX8_init_1 (Nat.le_of_ble_eq_true rfl) (Nat.le_of_ble_eq_true rfl) ?_
  refine W.eq (g2 := F0 m 4 ls []) rfl ?_
  refine lv_aload_n hx hb dX8_init_4 rfl (lv_at hl 0 rfl) ?_
  refine lv_sipush (v := 400) hx hb dX8_init_5 (by decide) ?_
  refine va_newa (atype := .int) (ty := .int) (a0 := (400, .inl (fun _ => 0))) (N' := 400) hx hb (hts (.arrayClass .int) (by decide +kernel)) rfl hK hP hD hS hA (xnewI _) sorry sorry sorry sorry sorry dX8_init_8 (fun q1 cA2 H hKn hP hD hS => ?_)
  obtain rfl : cI = cA2 := xcls hKn (i := 0) (j := 5) rfl rfl (Or.inl rfl)
  sorry
end
