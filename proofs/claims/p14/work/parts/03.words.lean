theorem goodIn_up {a big ws : List Cond} (h : ∀ w ∈ a, w ∈ big) (g : GoodIn a ws) : GoodIn big ws := fun w hw => ⟨h w (g w hw).1, (g w hw).2⟩
theorem goodIn_c {big ws : List Cond} {w : Cond} (h : w ∈ big) (g : goodWord w = true) (r : GoodIn big ws) : GoodIn big (w :: ws) := fun v hv => (List.mem_cons.mp hv).elim (fun e => e ▸ ⟨h, good_of_word g⟩) (r v)
theorem goodIn_nil {big : List Cond} : GoodIn big [] := fun _ h => absurd h List.not_mem_nil
theorem tbj0 : ∀ w ∈ k2_sels lw_privs, w ∈ lw_tbl := fun w h => (show w ∈ k2_sels lw_privs ++ (tables_1_1 ++ (tables_1_2 ++ (tables_1_3 ++ (tables_1_4 ++ (tables_1_5 ++ (tables_1_6 ++ (tables_1_7))))))) from (List.mem_append_left _ h))
theorem tbj1 : ∀ w ∈ tables_1_1, w ∈ lw_tbl := fun w h => (show w ∈ k2_sels lw_privs ++ (tables_1_1 ++ (tables_1_2 ++ (tables_1_3 ++ (tables_1_4 ++ (tables_1_5 ++ (tables_1_6 ++ (tables_1_7))))))) from (List.mem_append_right _ (List.mem_append_left _ h)))
theorem tbj2 : ∀ w ∈ tables_1_2, w ∈ lw_tbl := fun w h => (show w ∈ k2_sels lw_privs ++ (tables_1_1 ++ (tables_1_2 ++ (tables_1_3 ++ (tables_1_4 ++ (tables_1_5 ++ (tables_1_6 ++ (tables_1_7))))))) from (List.mem_append_right _ (List.mem_append_right _ (List.mem_append_left _ h))))
theorem tbj3 : ∀ w ∈ tables_1_3, w ∈ lw_tbl := fun w h => (show w ∈ k2_sels lw_privs ++ (tables_1_1 ++ (tables_1_2 ++ (tables_1_3 ++ (tables_1_4 ++ (tables_1_5 ++ (tables_1_6 ++ (tables_1_7))))))) from (List.mem_append_right _ (List.mem_append_right _ (List.mem_append_right _ (List.mem_append_left _ h)))))
theorem tbj4 : ∀ w ∈ tables_1_4, w ∈ lw_tbl := fun w h => (show w ∈ k2_sels lw_privs ++ (tables_1_1 ++ (tables_1_2 ++ (tables_1_3 ++ (tables_1_4 ++ (tables_1_5 ++ (tables_1_6 ++ (tables_1_7))))))) from (List.mem_append_right _ (List.mem_append_right _ (List.mem_append_right _ (List.mem_append_right _ (List.mem_append_left _ h))))))
theorem tbj5 : ∀ w ∈ tables_1_5, w ∈ lw_tbl := fun w h => (show w ∈ k2_sels lw_privs ++ (tables_1_1 ++ (tables_1_2 ++ (tables_1_3 ++ (tables_1_4 ++ (tables_1_5 ++ (tables_1_6 ++ (tables_1_7))))))) from (List.mem_append_right _ (List.mem_append_right _ (List.mem_append_right _ (List.mem_append_right _ (List.mem_append_right _ (List.mem_append_left _ h)))))))
theorem tbj6 : ∀ w ∈ tables_1_6, w ∈ lw_tbl := fun w h => (show w ∈ k2_sels lw_privs ++ (tables_1_1 ++ (tables_1_2 ++ (tables_1_3 ++ (tables_1_4 ++ (tables_1_5 ++ (tables_1_6 ++ (tables_1_7))))))) from (List.mem_append_right _ (List.mem_append_right _ (List.mem_append_right _ (List.mem_append_right _ (List.mem_append_right _ (List.mem_append_right _ (List.mem_append_left _ h))))))))
theorem tbj7 : ∀ w ∈ tables_1_7, w ∈ lw_tbl := fun w h => (show w ∈ k2_sels lw_privs ++ (tables_1_1 ++ (tables_1_2 ++ (tables_1_3 ++ (tables_1_4 ++ (tables_1_5 ++ (tables_1_6 ++ (tables_1_7))))))) from (List.mem_append_right _ (List.mem_append_right _ (List.mem_append_right _ (List.mem_append_right _ (List.mem_append_right _ (List.mem_append_right _ (List.mem_append_right _ h))))))))
def tbc0 : List Cond := [Cond.selects RX10 yX10_forgetReckoned yX10_forgetReckoned, Cond.selects RX10 yX10_followTimes yX10_followTimes, Cond.selects RX10 yX10_alive yX10_alive, Cond.selects RX10 yX10_canBeUp yX10_canBeUp, Cond.selects RX10 yX10_compareSheet yX10_compareSheet, Cond.selects RX11 yX11_firstDraft yX11_firstDraft, Cond.selects RX11 yX11_keepDraft yX11_keepDraft, Cond.selects RX11 yX11_begins yX11_begins, Cond.selects RX11 yX11_of yX11_of, Cond.selects RX11 yX11_next yX11_next, Cond.selects RX11 yX11_look yX11_look, Cond.selects RX11 yX11_wants yX11_wants, Cond.selects RX11 yX11_readLine yX11_readLine, Cond.selects RX11 yX11_nameNow yX11_nameNow, Cond.selects RX11 yX11_is yX11_is, Cond.selects RX11 yX11_readRail yX11_readRail, Cond.selects RX11 yX11_readNumber yX11_readNumber, Cond.selects RX11 yX11_readWith yX11_readWith, Cond.selects RX11 yX11_readWhen yX11_readWhen, Cond.selects RX11 yX11_readFormula yX11_readFormula, Cond.selects RX11 yX11_readUnit yX11_readUnit, Cond.selects RX11 yX11_holdsBack yX11_holdsBack, Cond.selects RX11 yX11_readLetter yX11_readLetter, Cond.selects RX11 yX11_done yX11_done, Cond.selects RX11 yX11_keepFormula yX11_keepFormula, Cond.selects RX11 yX11_worth yX11_worth, Cond.selects RX11 yX11_isRail yX11_isRail, Cond.selects RX11 yX11_isSo yX11_isSo, Cond.selects RX11 yX11_isLeast yX11_isLeast, Cond.selects RX11 yX11_aTick yX11_aTick]
def tbc1 : List Cond := [Cond.selects RX11 yX11_settles yX11_settles, Cond.selects RX11 yX11_round yX11_round, Cond.selects RX11 yX11_allIn yX11_allIn, Cond.selects RX11 yX11_becomes yX11_becomes, Cond.selects RX11 yX11_happens yX11_happens, Cond.selects RX11 yX11_drawnOf yX11_drawnOf, Cond.selects RX11 yX11_tripNow yX11_tripNow, Cond.selects RX11 yX11_deadOnes yX11_deadOnes, Cond.selects RX11 yX11_upBut yX11_upBut, Cond.selects RX11 yX11_setWaits yX11_setWaits, Cond.selects RX11 yX11_setTimes yX11_setTimes, Cond.selects RX11 yX11_findTimes yX11_findTimes, Cond.selects RX11 yX11_ways yX11_ways, Cond.selects RX11 yX11_goesOn yX11_goesOn, Cond.selects RX11 yX11_drawnAt yX11_drawnAt, Cond.selects RX11 yX11_peakNow yX11_peakNow, Cond.selects RX11 yX11_findStagger yX11_findStagger, Cond.selects RX11 yX11_lastGood yX11_lastGood, Cond.selects RX11 yX11_areRails yX11_areRails, Cond.selects RX11 yX11_isUp yX11_isUp]
def tbc2 : List Cond := [Cond.initialized RX10, Cond.initialized RX8, Cond.initialized RX5, Cond.initialized RX2, Cond.initialized RX0, Cond.initialized RX9, Cond.initialized RX7, Cond.initialized RX6, Cond.initialized RJ7, Cond.initialized RX3, Cond.initialized RX4, Cond.initialized RX11, Cond.initialized RJ0, Cond.initialized RJ1, Cond.initialized RJ3, Cond.initialized RJ2, Cond.initialized "java/lang/System", Cond.initialized "java/lang/Math", Cond.initialized RX1, Cond.initialized RJ6, Cond.classLink RL 7 RX10, Cond.instantiable RX10 10, Cond.methodLink RL 9 yX10_init, Cond.instanceMethod yX10_init, Cond.methodLink RX10 1 objectInit, Cond.instanceMethod objectInit, Cond.classLink RX10 7 RX8, Cond.instantiable RX8 2, Cond.methodLink RX10 9 yX8_init, Cond.instanceMethod yX8_init]
def tbc3 : List Cond := [Cond.methodLink RX8 1 objectInit, Cond.fieldLink RX8 9 "PowerRails$Tape" "bytes" "[I", Cond.fieldLink RX4 85 "PowerRails$Tape" "bytes" "[I", Cond.fieldLink RX8 13 "PowerRails$Tape" "length" "I", Cond.fieldLink RX10 80 "PowerRails$Tape" "length" "I", Cond.fieldLink RX4 82 "PowerRails$Tape" "length" "I", Cond.arrayClass .int, Cond.classLink RX10 16 RX5, Cond.instantiable RX5 14, Cond.methodLink RX10 18 yX5_init, Cond.instanceMethod yX5_init, Cond.methodLink RX5 3 objectInit, Cond.classLink RX5 9 RX2, Cond.instantiable RX2 4, Cond.methodLink RX5 11 yX2_init, Cond.instanceMethod yX2_init, Cond.methodLink RX2 1 objectInit, Cond.fieldLink RX2 9 "PowerRails$History" "ticks" "[I", Cond.fieldLink RX10 196 "PowerRails$History" "ticks" "[I", Cond.fieldLink RX2 13 "PowerRails$History" "who" "[I", Cond.fieldLink RX10 199 "PowerRails$History" "who" "[I", Cond.fieldLink RX2 16 "PowerRails$History" "became" "[I", Cond.fieldLink RX10 202 "PowerRails$History" "became" "[I", Cond.fieldLink RX2 19 "PowerRails$History" "size" "I", Cond.fieldLink RX5 42 "PowerRails$History" "size" "I", Cond.fieldLink RX10 191 "PowerRails$History" "size" "I", Cond.fieldLink RX5 12 "PowerRails$Run" "history" "LPowerRails$History;", Cond.fieldLink RX10 187 "PowerRails$Run" "history" "LPowerRails$History;", Cond.fieldLink RX5 18 "PowerRails$Run" "states" "[I", Cond.fieldLink RX10 178 "PowerRails$Run" "states" "[I"]
def tbc4 : List Cond := [Cond.fieldLink RX5 22 "PowerRails$Run" "since" "[I", Cond.fieldLink RX10 181 "PowerRails$Run" "since" "[I", Cond.fieldLink RX5 25 "PowerRails$Run" "asked" "[I", Cond.fieldLink RX5 28 "PowerRails$Run" "takes" "[I", Cond.fieldLink RX10 150 "PowerRails$Run" "takes" "[I", Cond.fieldLink RX5 31 "PowerRails$Run" "timesGood" "[I", Cond.fieldLink RX10 184 "PowerRails$Run" "timesGood" "[I", Cond.fieldLink RX5 34 "PowerRails$Run" "dead" "I", Cond.fieldLink RX10 147 "PowerRails$Run" "dead" "I", Cond.fieldLink RX5 38 "PowerRails$Run" "key" "Z", Cond.fieldLink RX10 139 "PowerRails$Run" "key" "Z", Cond.fieldLink RX5 51 "PowerRails$Run" "tick" "I", Cond.fieldLink RX10 160 "PowerRails$Run" "tick" "I", Cond.fieldLink RX5 54 "PowerRails$Run" "held" "I", Cond.fieldLink RX10 169 "PowerRails$Run" "held" "I", Cond.fieldLink RX5 60 "PowerRails$Run" "tries" "I", Cond.fieldLink RX10 172 "PowerRails$Run" "tries" "I", Cond.fieldLink RX5 63 "PowerRails$Run" "trips" "I", Cond.fieldLink RX10 154 "PowerRails$Run" "trips" "I", Cond.fieldLink RX5 66 "PowerRails$Run" "latestDraw" "I", Cond.fieldLink RX10 166 "PowerRails$Run" "latestDraw" "I", Cond.fieldLink RX5 69 "PowerRails$Run" "greatestDraw" "I", Cond.fieldLink RX10 175 "PowerRails$Run" "greatestDraw" "I", Cond.classLink RX10 23 RX0, Cond.instantiable RX0 9, Cond.methodLink RX10 25 yX0_init, Cond.instanceMethod yX0_init, Cond.methodLink RX0 3 objectInit, Cond.fieldLink RX0 9 "PowerRails$Course" "waits" "[I", Cond.fieldLink RX7 33 "PowerRails$Course" "waits" "[I"]
def tbc5 : List Cond := [Cond.fieldLink RX0 15 "PowerRails$Course" "takes" "[I", Cond.fieldLink RX9 84 "PowerRails$Course" "takes" "[I", Cond.fieldLink RX0 18 "PowerRails$Course" "risesAt" "[I", Cond.fieldLink RX0 21 "PowerRails$Course" "goodAt" "[I", Cond.fieldLink RX9 46 "PowerRails$Course" "goodAt" "[I", Cond.fieldLink RX10 227 "PowerRails$Course" "goodAt" "[I", Cond.fieldLink RX0 24 "PowerRails$Course" "changes" "[I", Cond.fieldLink RX7 46 "PowerRails$Course" "up" "I", Cond.fieldLink RX0 43 "PowerRails$Course" "up" "I", Cond.fieldLink RX7 49 "PowerRails$Course" "last" "I", Cond.fieldLink RX0 46 "PowerRails$Course" "last" "I", Cond.fieldLink RX7 61 "PowerRails$Course" "peak" "I", Cond.fieldLink RX9 62 "PowerRails$Course" "peak" "I", Cond.fieldLink RX0 70 "PowerRails$Course" "peak" "I", Cond.fieldLink RX10 253 "PowerRails$Course" "peak" "I", Cond.fieldLink RX0 73 "PowerRails$Course" "peakTick" "I", Cond.fieldLink RX10 256 "PowerRails$Course" "peakTick" "I", Cond.classLink RX10 30 RX9, Cond.instantiable RX9 6, Cond.methodLink RX10 32 yX9_init, Cond.instanceMethod yX9_init, Cond.methodLink RX9 3 objectInit, Cond.fieldLink RX9 9 "PowerRails$Ways" "course" "LPowerRails$Course;", Cond.fieldLink RX9 15 "PowerRails$Ways" "behind" "[I", Cond.fieldLink RX9 19 "PowerRails$Ways" "behindKnown" "[Z", Cond.fieldLink RX9 23 "PowerRails$Ways" "peaksKnown" "Z", Cond.fieldLink RX9 66 "PowerRails$Ways" "greatestPeak" "I", Cond.fieldLink RX10 244 "PowerRails$Ways" "greatestPeak" "I", Cond.fieldLink RX9 69 "PowerRails$Ways" "leastPeak" "I", Cond.fieldLink RX10 247 "PowerRails$Ways" "leastPeak" "I"]
def tbc6 : List Cond := [Cond.arrayClass .boolean, Cond.classLink RX10 39 RX7, Cond.instantiable RX7 4, Cond.methodLink RX10 41 yX7_init, Cond.instanceMethod yX7_init, Cond.methodLink RX7 3 objectInit, Cond.fieldLink RX7 9 "PowerRails$Stagger" "course" "LPowerRails$Course;", Cond.fieldLink RX7 15 "PowerRails$Stagger" "row" "[I", Cond.fieldLink RX10 266 "PowerRails$Stagger" "row" "[I", Cond.fieldLink RX7 19 "PowerRails$Stagger" "known" "Z", Cond.fieldLink RX10 324 "PowerRails$Stagger" "known" "Z", Cond.fieldLink RX7 23 "PowerRails$Stagger" "last" "I", Cond.fieldLink RX10 263 "PowerRails$Stagger" "last" "I", Cond.classLink RX10 46 RX6, Cond.instantiable RX6 3, Cond.methodLink RX10 48 yX6_init, Cond.instanceMethod yX6_init, Cond.methodLink RX6 3 objectInit, Cond.classLink RX6 11 "[[I", Cond.methodLink RX6 23 yJ7_fill_53178, Cond.static yJ7_fill_53178, Cond.fieldLink RX6 13 "PowerRails$Sheets" "cells" "[[I", Cond.fieldLink RX10 327 "PowerRails$Sheets" "cells" "[[I", Cond.fieldLink RX6 16 "PowerRails$Sheets" "lanes" "[I"]
def tbc7 : List Cond := [Cond.fieldLink RX10 311 "PowerRails$Sheets" "lanes" "[I", Cond.fieldLink RX6 20 "PowerRails$Sheets" "sizes" "[I", Cond.fieldLink RX10 305 "PowerRails$Sheets" "sizes" "[I", Cond.classLink RX10 53 RX3, Cond.instantiable RX3 6, Cond.methodLink RX10 55 yX3_init, Cond.instanceMethod yX3_init, Cond.methodLink RX3 3 objectInit, Cond.fieldLink RX3 11 "PowerRails$Plan" "numbers" "[I", Cond.fieldLink RX3 15 "PowerRails$Plan" "tables" "[J", Cond.fieldLink RX4 182 "PowerRails$Plan" "tables" "[J", Cond.fieldLink RX3 19 "PowerRails$Plan" "rails" "I", Cond.fieldLink RX0 27 "PowerRails$Plan" "rails" "I", Cond.fieldLink RX1 30 "PowerRails$Plan" "rails" "I", Cond.fieldLink RX9 81 "PowerRails$Plan" "rails" "I", Cond.fieldLink RX5 106 "PowerRails$Plan" "rails" "I", Cond.fieldLink RX10 117 "PowerRails$Plan" "rails" "I", Cond.fieldLink RX4 138 "PowerRails$Plan" "rails" "I", Cond.fieldLink RX3 23 "PowerRails$Plan" "limit" "I", Cond.fieldLink RX7 64 "PowerRails$Plan" "limit" "I", Cond.fieldLink RX10 108 "PowerRails$Plan" "limit" "I", Cond.fieldLink RX5 125 "PowerRails$Plan" "limit" "I", Cond.fieldLink RX4 129 "PowerRails$Plan" "limit" "I", Cond.fieldLink RX3 26 "PowerRails$Plan" "retry" "I", Cond.fieldLink RX5 57 "PowerRails$Plan" "retry" "I", Cond.fieldLink RX10 111 "PowerRails$Plan" "retry" "I", Cond.fieldLink RX4 133 "PowerRails$Plan" "retry" "I", Cond.fieldLink RX3 29 "PowerRails$Plan" "behind" "I", Cond.fieldLink RX10 114 "PowerRails$Plan" "behind" "I", Cond.fieldLink RX5 128 "PowerRails$Plan" "behind" "I"]
def tbc8 : List Cond := [Cond.fieldLink RX4 135 "PowerRails$Plan" "behind" "I", Cond.arrayClass .long, Cond.classLink RX10 63 RX4, Cond.instantiable RX4 13, Cond.methodLink RX10 65 yX4_init, Cond.instanceMethod yX4_init, Cond.methodLink RX4 3 objectInit, Cond.classLink RX4 25 "[[J", Cond.fieldLink RX4 9 "PowerRails$Reader" "tape" "LPowerRails$Tape;", Cond.fieldLink RX4 19 "PowerRails$Reader" "firstUse" "[I", Cond.fieldLink RX4 27 "PowerRails$Reader" "any" "[[J", Cond.fieldLink RX4 30 "PowerRails$Reader" "all" "[[J", Cond.fieldLink RX4 15 "PowerRails$Reader" "plan" "LPowerRails$Plan;", Cond.fieldLink RX4 36 "PowerRails$Reader" "place" "I", Cond.fieldLink RX4 60 "PowerRails$Reader" "kind" "I", Cond.fieldLink RX4 88 "PowerRails$Reader" "from" "I", Cond.fieldLink RX4 91 "PowerRails$Reader" "value" "I", Cond.fieldLink RX4 40 "PowerRails$Reader" "told" "I", Cond.fieldLink RX4 176 "PowerRails$Reader" "depth" "I", Cond.fieldLink RX4 43 "PowerRails$Reader" "fault" "I", Cond.fieldLink RX10 87 "PowerRails$Reader" "fault" "I", Cond.fieldLink RX4 46 "PowerRails$Reader" "faultPlace" "I", Cond.fieldLink RX10 90 "PowerRails$Reader" "faultPlace" "I", Cond.fieldLink RX10 10 "PowerRails" "tape" "LPowerRails$Tape;", Cond.fieldLink RX10 68 "PowerRails" "reader" "LPowerRails$Reader;", Cond.fieldLink RX10 19 "PowerRails" "run" "LPowerRails$Run;", Cond.fieldLink RX10 26 "PowerRails" "course" "LPowerRails$Course;", Cond.fieldLink RX10 35 "PowerRails" "ways" "LPowerRails$Ways;", Cond.fieldLink RX10 42 "PowerRails" "staggering" "LPowerRails$Stagger;", Cond.fieldLink RX10 49 "PowerRails" "sheets" "LPowerRails$Sheets;"]
def tbc9 : List Cond := [Cond.fieldLink RX10 56 "PowerRails" "plan" "LPowerRails$Plan;", Cond.fieldLink RX10 60 "PowerRails" "spare" "LPowerRails$Plan;", Cond.fieldLink RX10 72 "PowerRails" "latestFault" "I", Cond.methodLink RL 15 yX10_feed, Cond.instanceMethod yX10_feed, Cond.selects RX10 yX10_feed yX10_feed, Cond.methodLink RX10 76 yX8_push, Cond.instanceMethod yX8_push, Cond.selects RX8 yX8_push yX8_push, Cond.methodLink RL 20 yX10_end, Cond.instanceMethod yX10_end, Cond.selects RX10 yX10_end yX10_end, Cond.methodLink RL 25 yX10_text, Cond.instanceMethod yX10_text, Cond.selects RX10 yX10_text yX10_text, Cond.methodLink RX10 83 yX4_readText, Cond.instanceMethod yX4_readText, Cond.selects RX4 yX4_readText yX4_readText, Cond.methodLink RX4 33 yX3_reset, Cond.instanceMethod yX3_reset, Cond.selects RX3 yX3_reset yX3_reset, Cond.methodLink RX4 49 yJ7_fill_53178, Cond.methodLink RX4 55 yX4_step, Cond.instanceMethod yX4_step, Cond.selects RX4 yX4_step yX4_step, Cond.methodLink RX4 94 yX4_skipWithin, Cond.instanceMethod yX4_skipWithin, Cond.selects RX4 yX4_skipWithin yX4_skipWithin, Cond.methodLink RX4 98 yX4_valueNumber, Cond.instanceMethod yX4_valueNumber]
def tbc10 : List Cond := [Cond.selects RX4 yX4_valueNumber yX4_valueNumber, Cond.methodLink RX4 101 yX4_refuse, Cond.instanceMethod yX4_refuse, Cond.selects RX4 yX4_refuse yX4_refuse, Cond.methodLink RX4 65 yX4_isWord, Cond.instanceMethod yX4_isWord, Cond.selects RX4 yX4_isWord yX4_isWord, Cond.methodLink RX4 104 yJ0_length_8abf5, Cond.instanceMethod yJ0_length_8abf5, Cond.selects RJ0 yJ0_length_8abf5 yJ0_length_8abf5, Cond.methodLink RJ0 335 yJ0_coder_7d493, Cond.instanceMethod yJ0_coder_7d493, Cond.selects RJ0 yJ0_coder_7d493 yJ0_coder_7d493, Cond.fieldLink RJ0 38 "java/lang/String" "COMPACT_STRINGS" "Z", Cond.methodLink RX4 109 yJ0_charAt_5068e, Cond.instanceMethod yJ0_charAt_5068e, Cond.selects RJ0 yJ0_charAt_5068e yJ0_charAt_5068e, Cond.methodLink RJ0 492 yJ0_isLatin1_aae02, Cond.instanceMethod yJ0_isLatin1_aae02, Cond.selects RJ0 yJ0_isLatin1_aae02 yJ0_isLatin1_aae02, Cond.methodLink RJ0 495 yJ1_charAt_3b067, Cond.static yJ1_charAt_3b067, Cond.methodLink RJ1 9 yJ0_checkIndex_df160, Cond.static yJ0_checkIndex_df160, Cond.fieldLink RJ0 1053 "jdk/internal/util/Preconditions" "SIOOBE_FORMATTER" "Ljava/util/function/BiFunction;", Cond.methodLink RJ0 1059 yJ3_checkIndex_8e157, Cond.static yJ3_checkIndex_8e157, Cond.methodLink RJ0 498 yJ2_charAt_3b067, Cond.static yJ2_charAt_3b067, Cond.methodLink RJ2 67 yJ2_checkIndex_2214a]
def tbc11 : List Cond := [Cond.static yJ2_checkIndex_2214a, Cond.methodLink RJ2 48 yJ2_length_9d52b, Cond.static yJ2_length_9d52b, Cond.methodLink RJ2 414 yJ0_checkIndex_df160, Cond.methodLink RJ2 71 yJ2_getChar_3b067, Cond.static yJ2_getChar_3b067, Cond.fieldLink RJ2 44 "java/lang/StringUTF16" "$assertionsDisabled" "Z", Cond.fieldLink RJ2 59 "java/lang/StringUTF16" "HI_BYTE_SHIFT" "I", Cond.fieldLink RJ2 63 "java/lang/StringUTF16" "LO_BYTE_SHIFT" "I", Cond.methodLink RX4 69 yX4_readRail, Cond.instanceMethod yX4_readRail, Cond.selects RX4 yX4_readRail yX4_readRail, Cond.methodLink RX4 141 yX3_addRail, Cond.instanceMethod yX3_addRail, Cond.selects RX3 yX3_addRail yX3_addRail, Cond.methodLink RX3 32 yX3_setNumber, Cond.instanceMethod yX3_setNumber, Cond.selects RX3 yX3_setNumber yX3_setNumber]
def tbc12 : List Cond := [Cond.constantLong RX3 36 (-1), Cond.methodLink RX4 144 yX4_takeTurn, Cond.instanceMethod yX4_takeTurn, Cond.selects RX4 yX4_takeTurn yX4_takeTurn, Cond.methodLink RX4 117 yX4_railNamed, Cond.instanceMethod yX4_railNamed, Cond.selects RX4 yX4_railNamed yX4_railNamed, Cond.methodLink RX4 125 yX4_takeNumber, Cond.instanceMethod yX4_takeNumber, Cond.selects RX4 yX4_takeNumber yX4_takeNumber, Cond.methodLink RX4 147 yX3_setNumber, Cond.methodLink RX4 153 yX4_readWith, Cond.instanceMethod yX4_readWith, Cond.selects RX4 yX4_readWith yX4_readWith, Cond.methodLink RX4 122 yX4_takeOnce, Cond.instanceMethod yX4_takeOnce, Cond.selects RX4 yX4_takeOnce yX4_takeOnce, Cond.methodLink RX4 156 yX4_readFormula, Cond.instanceMethod yX4_readFormula, Cond.selects RX4 yX4_readFormula yX4_readFormula, Cond.methodLink RX4 167 yX4_openDepth, Cond.instanceMethod yX4_openDepth, Cond.selects RX4 yX4_openDepth yX4_openDepth, Cond.methodLink RX4 200 yJ7_fill_d0a16, Cond.static yJ7_fill_d0a16, Cond.constantLong RX4 203 (-1), Cond.methodLink RX4 170 yX4_takeUnit, Cond.instanceMethod yX4_takeUnit, Cond.selects RX4 yX4_takeUnit yX4_takeUnit, Cond.methodLink RX4 113 yX4_isSign]
def tbc13 : List Cond := [Cond.instanceMethod yX4_isSign, Cond.selects RX4 yX4_isSign yX4_isSign, Cond.methodLink RX4 194 yX4_joinPart, Cond.instanceMethod yX4_joinPart, Cond.selects RX4 yX4_joinPart yX4_joinPart, Cond.methodLink RX4 205 yX3_number, Cond.instanceMethod yX3_number, Cond.selects RX3 yX3_number yX3_number, Cond.fieldLink RX4 208 "PowerRails$Reader" "IN_WORD" "[J", Cond.methodLink RX4 197 yX4_noteUse, Cond.instanceMethod yX4_noteUse, Cond.selects RX4 yX4_noteUse yX4_noteUse, Cond.methodLink RX4 173 yX4_joinAny, Cond.instanceMethod yX4_joinAny, Cond.selects RX4 yX4_joinAny yX4_joinAny, Cond.methodLink RX4 179 yX4_closeDepth, Cond.instanceMethod yX4_closeDepth, Cond.selects RX4 yX4_closeDepth yX4_closeDepth, Cond.methodLink RX4 186 arraycopyName, Cond.static arraycopyName, Cond.native arraycopyName, Cond.methodLink RX4 72 yX4_readRule, Cond.instanceMethod yX4_readRule, Cond.selects RX4 yX4_readRule yX4_readRule, Cond.methodLink RX4 75 yX4_takeSign, Cond.instanceMethod yX4_takeSign, Cond.selects RX4 yX4_takeSign yX4_takeSign, Cond.methodLink RX4 79 yX4_findNotTold, Cond.instanceMethod yX4_findNotTold, Cond.selects RX4 yX4_findNotTold yX4_findNotTold]
def tbc14 : List Cond := [Cond.methodLink RX4 211 Lib.Math.min.name, Cond.static Lib.Math.min.name, Cond.methodLink RX10 93 yX5_reset, Cond.instanceMethod yX5_reset, Cond.selects RX5 yX5_reset yX5_reset, Cond.methodLink RX5 47 yX3_number, Cond.methodLink RX10 97 yX10_forgetReckoned, Cond.instanceMethod yX10_forgetReckoned, Cond.methodLink RX10 321 yX9_forget, Cond.instanceMethod yX9_forget, Cond.selects RX9 yX9_forget yX9_forget, Cond.methodLink RL 30 yX10_fault, Cond.instanceMethod yX10_fault, Cond.selects RX10 yX10_fault yX10_fault, Cond.methodLink RL 34 yX10_rail, Cond.instanceMethod yX10_rail, Cond.selects RX10 yX10_rail yX10_rail, Cond.methodLink RX10 100 yX3_hasRail, Cond.instanceMethod yX3_hasRail, Cond.selects RX3 yX3_hasRail yX3_hasRail, Cond.methodLink RX10 104 yX3_number, Cond.methodLink RL 39 yX10_rule, Cond.instanceMethod yX10_rule, Cond.selects RX10 yX10_rule yX10_rule, Cond.methodLink RL 43 yX10_holds, Cond.instanceMethod yX10_holds, Cond.selects RX10 yX10_holds yX10_holds, Cond.methodLink RX10 120 yX3_allRails, Cond.instanceMethod yX3_allRails, Cond.selects RX3 yX3_allRails yX3_allRails]
def tbc15 : List Cond := [Cond.methodLink RX10 124 yX3_holdsWith, Cond.instanceMethod yX3_holdsWith, Cond.selects RX3 yX3_holdsWith yX3_holdsWith, Cond.methodLink RX10 128 yX10_asNumber, Cond.static yX10_asNumber, Cond.methodLink RL 47 yX10_words, Cond.instanceMethod yX10_words, Cond.selects RX10 yX10_words yX10_words, Cond.methodLink RX10 132 yX3_countLeastSets, Cond.instanceMethod yX3_countLeastSets, Cond.selects RX3 yX3_countLeastSets yX3_countLeastSets, Cond.methodLink RX3 42 yX3_isLeastSet, Cond.instanceMethod yX3_isLeastSet, Cond.selects RX3 yX3_isLeastSet yX3_isLeastSet, Cond.methodLink RX3 38 yX3_holdsWith, Cond.methodLink RX10 136 yX3_leastSet, Cond.instanceMethod yX3_leastSet, Cond.selects RX3 yX3_leastSet yX3_leastSet, Cond.methodLink RL 51 yX10_key, Cond.instanceMethod yX10_key, Cond.selects RX10 yX10_key yX10_key, Cond.methodLink RX10 143 yX5_turnKey, Cond.instanceMethod yX5_turnKey, Cond.selects RX5 yX5_turnKey yX5_turnKey, Cond.methodLink RL 56 yX10_dead, Cond.instanceMethod yX10_dead, Cond.selects RX10 yX10_dead yX10_dead, Cond.methodLink RL 61 yX10_time, Cond.instanceMethod yX10_time, Cond.selects RX10 yX10_time yX10_time]
def tbc16 : List Cond := [Cond.methodLink RL 65 yX10_go, Cond.instanceMethod yX10_go, Cond.selects RX10 yX10_go yX10_go, Cond.methodLink RX10 157 yX5_passTick, Cond.instanceMethod yX5_passTick, Cond.selects RX5 yX5_passTick yX5_passTick, Cond.methodLink RX5 72 yX5_settle, Cond.instanceMethod yX5_settle, Cond.selects RX5 yX5_settle yX5_settle, Cond.methodLink RX5 95 yX5_railsThatMay, Cond.instanceMethod yX5_railsThatMay, Cond.selects RX5 yX5_railsThatMay yX5_railsThatMay, Cond.methodLink RX5 102 yX5_railsThatAre, Cond.instanceMethod yX5_railsThatAre, Cond.selects RX5 yX5_railsThatAre yX5_railsThatAre, Cond.methodLink RX5 109 yX3_holdsWith, Cond.methodLink RX5 98 yX5_changeRails, Cond.instanceMethod yX5_changeRails, Cond.selects RX5 yX5_changeRails yX5_changeRails, Cond.methodLink RX5 113 yX5_nextState, Cond.instanceMethod yX5_nextState, Cond.selects RX5 yX5_nextState yX5_nextState, Cond.methodLink RX5 117 yX5_become, Cond.instanceMethod yX5_become, Cond.selects RX5 yX5_become yX5_become, Cond.methodLink RX5 121 yX2_note, Cond.instanceMethod yX2_note, Cond.selects RX2 yX2_note yX2_note, Cond.methodLink RX5 76 yX5_sumDraw, Cond.instanceMethod yX5_sumDraw]
def tbc17 : List Cond := [Cond.selects RX5 yX5_sumDraw yX5_sumDraw, Cond.methodLink RX5 80 Lib.Math.max.name, Cond.static Lib.Math.max.name, Cond.methodLink RX5 85 yX5_whyTrip, Cond.instanceMethod yX5_whyTrip, Cond.selects RX5 yX5_whyTrip yX5_whyTrip, Cond.methodLink RX5 88 yX5_trip, Cond.instanceMethod yX5_trip, Cond.selects RX5 yX5_trip yX5_trip, Cond.methodLink RX5 92 yX5_growOlder, Cond.instanceMethod yX5_growOlder, Cond.selects RX5 yX5_growOlder yX5_growOlder, Cond.methodLink RL 69 yX10_now, Cond.instanceMethod yX10_now, Cond.selects RX10 yX10_now yX10_now, Cond.methodLink RX10 163 yX5_railsThatAre, Cond.methodLink RL 73 yX10_is, Cond.instanceMethod yX10_is, Cond.selects RX10 yX10_is yX10_is, Cond.methodLink RL 77 yX10_happened, Cond.instanceMethod yX10_happened, Cond.selects RX10 yX10_happened yX10_happened, Cond.methodLink RL 81 yX10_up, Cond.instanceMethod yX10_up]
def tbc18 : List Cond := [Cond.selects RX10 yX10_up yX10_up, Cond.methodLink RX10 205 yX3_upAmong, Cond.instanceMethod yX3_upAmong, Cond.selects RX3 yX3_upAmong yX3_upAmong, Cond.methodLink RL 85 yX10_when, Cond.instanceMethod yX10_when, Cond.selects RX10 yX10_when yX10_when, Cond.methodLink RX10 208 yX10_followTimes, Cond.instanceMethod yX10_followTimes, Cond.methodLink RX10 211 yX0_setWaits, Cond.instanceMethod yX0_setWaits, Cond.selects RX0 yX0_setWaits yX0_setWaits, Cond.methodLink RX0 33 yX3_number, Cond.methodLink RX10 318 yX0_copyTakes, Cond.instanceMethod yX0_copyTakes, Cond.selects RX0 yX0_copyTakes yX0_copyTakes, Cond.methodLink RX0 37 arraycopyName, Cond.methodLink RX10 218 yX10_alive, Cond.instanceMethod yX10_alive, Cond.methodLink RX10 221 yX0_follow, Cond.instanceMethod yX0_follow, Cond.selects RX0 yX0_follow yX0_follow, Cond.methodLink RX0 49 yX0_begin, Cond.instanceMethod yX0_begin, Cond.selects RX0 yX0_begin yX0_begin, Cond.methodLink RX0 57 yX3_holdsWith, Cond.methodLink RX0 53 yX0_soonest, Cond.instanceMethod yX0_soonest, Cond.selects RX0 yX0_soonest yX0_soonest, Cond.methodLink RX0 61 Lib.Math.min.name]
def tbc19 : List Cond := [Cond.methodLink RX10 214 yX0_setTakes, Cond.instanceMethod yX0_setTakes, Cond.selects RX0 yX0_setTakes yX0_setTakes, Cond.methodLink RX10 224 yX0_isUp, Cond.instanceMethod yX0_isUp, Cond.selects RX0 yX0_isUp yX0_isUp, Cond.methodLink RL 89 yX10_ahead, Cond.instanceMethod yX10_ahead, Cond.selects RX10 yX10_ahead yX10_ahead, Cond.methodLink RX10 230 yX3_countWays, Cond.instanceMethod yX3_countWays, Cond.selects RX3 yX3_countWays yX3_countWays, Cond.methodLink RX3 45 yX3_number, Cond.methodLink RX10 233 yX9_mostBehind, Cond.instanceMethod yX9_mostBehind, Cond.selects RX9 yX9_mostBehind yX9_mostBehind, Cond.methodLink RX9 27 yX3_sourcesOf, Cond.instanceMethod yX3_sourcesOf, Cond.selects RX3 yX3_sourcesOf yX3_sourcesOf, Cond.methodLink RX3 49 yX3_allRails, Cond.methodLink RX9 33 yX3_upAmong, Cond.methodLink RX9 36 yX9_start, Cond.instanceMethod yX9_start, Cond.selects RX9 yX9_start yX9_start, Cond.methodLink RX9 75 yX0_setWaits, Cond.methodLink RX9 78 yX0_setTakes, Cond.methodLink RX9 42 yX0_follow, Cond.methodLink RX9 49 Lib.Math.max.name, Cond.methodLink RX9 55 yX9_nextWay, Cond.instanceMethod yX9_nextWay]
def tbc20 : List Cond := [Cond.selects RX9 yX9_nextWay yX9_nextWay, Cond.methodLink RX9 87 yX3_number, Cond.methodLink RL 94 yX10_drawn, Cond.instanceMethod yX10_drawn, Cond.selects RX10 yX10_drawn yX10_drawn, Cond.methodLink RX10 237 yX0_drawnAt, Cond.instanceMethod yX0_drawnAt, Cond.selects RX0 yX0_drawnAt yX0_drawnAt, Cond.methodLink RX0 66 yX0_isUp, Cond.methodLink RL 98 yX10_peak, Cond.instanceMethod yX10_peak, Cond.selects RX10 yX10_peak yX10_peak, Cond.methodLink RX10 241 yX9_findPeaks, Cond.instanceMethod yX9_findPeaks, Cond.selects RX9 yX9_findPeaks yX9_findPeaks, Cond.methodLink RX9 59 yX0_findPeak, Cond.instanceMethod yX0_findPeak, Cond.selects RX0 yX0_findPeak yX0_findPeak, Cond.methodLink RX9 72 Lib.Math.min.name, Cond.methodLink RX10 250 yX0_findPeak, Cond.methodLink RL 102 yX10_stagger, Cond.instanceMethod yX10_stagger, Cond.selects RX10 yX10_stagger yX10_stagger, Cond.methodLink RX10 259 yX7_findRow, Cond.instanceMethod yX7_findRow, Cond.selects RX7 yX7_findRow yX7_findRow, Cond.methodLink RX7 27 yJ7_fill_53178, Cond.methodLink RX7 38 yX0_copyTakes, Cond.methodLink RX7 42 yX0_follow, Cond.methodLink RX7 50 yX7_keepIfBelowLimit]
def tbc21 : List Cond := [Cond.instanceMethod yX7_keepIfBelowLimit, Cond.selects RX7 yX7_keepIfBelowLimit yX7_keepIfBelowLimit, Cond.methodLink RX7 58 yX0_findPeak, Cond.methodLink RX7 69 arraycopyName, Cond.methodLink RX7 54 yX7_nextRow, Cond.instanceMethod yX7_nextRow, Cond.selects RX7 yX7_nextRow yX7_nextRow, Cond.methodLink RL 106 yX10_adopt, Cond.instanceMethod yX10_adopt, Cond.selects RX10 yX10_adopt yX10_adopt, Cond.methodLink RX10 269 yX3_setWaits, Cond.instanceMethod yX3_setWaits, Cond.selects RX3 yX3_setWaits yX3_setWaits, Cond.methodLink RL 110 yX10_down, Cond.instanceMethod yX10_down, Cond.selects RX10 yX10_down yX10_down, Cond.methodLink RL 114 yX10_cut, Cond.instanceMethod yX10_cut, Cond.selects RX10 yX10_cut yX10_cut, Cond.methodLink RX10 272 yX10_canBeUp, Cond.instanceMethod yX10_canBeUp, Cond.methodLink RX10 275 yX1_fewestThatCut, Cond.static yX1_fewestThatCut, Cond.methodLink RX1 15 yX3_allRails, Cond.methodLink RX1 19 yJ6_bitCount_0f7a4, Cond.static yJ6_bitCount_0f7a4, Cond.constant RJ6 265 (1431655765), Cond.constant RJ6 266 (858993459), Cond.constant RJ6 267 (252645135), Cond.methodLink RX1 24 yX1_isUpAmong]
def tbc22 : List Cond := [Cond.static yX1_isUpAmong, Cond.methodLink RX1 9 yX3_upAmong, Cond.methodLink RX10 281 yJ6_bitCount_0f7a4, Cond.methodLink RL 118 yX10_need, Cond.instanceMethod yX10_need, Cond.selects RX10 yX10_need yX10_need, Cond.methodLink RX10 286 yX1_fewestThatDo, Cond.static yX1_fewestThatDo, Cond.methodLink RL 122 yX10_must, Cond.instanceMethod yX10_must, Cond.selects RX10 yX10_must yX10_must, Cond.methodLink RX10 289 yX1_neverWithout, Cond.static yX1_neverWithout, Cond.methodLink RL 126 yX10_seen, Cond.instanceMethod yX10_seen, Cond.selects RX10 yX10_seen yX10_seen, Cond.methodLink RX10 292 yX1_thatExplain, Cond.static yX1_thatExplain, Cond.methodLink RL 130 yX10_sheet, Cond.instanceMethod yX10_sheet, Cond.selects RX10 yX10_sheet yX10_sheet, Cond.methodLink RX10 295 yX6_hasPlace, Cond.static yX6_hasPlace, Cond.methodLink RX10 298 yX6_isLane, Cond.static yX6_isLane, Cond.methodLink RX10 301 yX6_renew, Cond.instanceMethod yX6_renew, Cond.selects RX6 yX6_renew yX6_renew, Cond.methodLink RL 134 yX10_lay, Cond.instanceMethod yX10_lay]
def tbc23 : List Cond := [Cond.selects RX10 yX10_lay yX10_lay, Cond.methodLink RX10 308 yX6_put, Cond.instanceMethod yX6_put, Cond.selects RX6 yX6_put yX6_put, Cond.methodLink RL 138 yX10_measured, Cond.instanceMethod yX10_measured, Cond.selects RX10 yX10_measured yX10_measured, Cond.methodLink RX10 314 yX10_compareSheet, Cond.instanceMethod yX10_compareSheet, Cond.methodLink RX10 331 Lib.Math.abs.name, Cond.static Lib.Math.abs.name, Cond.methodLink RL 143 yX10_count, Cond.instanceMethod yX10_count, Cond.selects RX10 yX10_count yX10_count, Cond.classLink RL 10 RX11, Cond.instantiable RX11 59, Cond.methodLink RL 12 yX11_init, Cond.instanceMethod yX11_init, Cond.methodLink RX11 1 objectInit, Cond.methodLink RX11 92 yX11_firstDraft, Cond.instanceMethod yX11_firstDraft, Cond.methodLink RX11 95 yX11_keepDraft, Cond.instanceMethod yX11_keepDraft, Cond.methodLink RX11 133 yX11_begins, Cond.instanceMethod yX11_begins, Cond.methodLink RX11 251 yX11_of, Cond.instanceMethod yX11_of]
def tbc24 : List Cond := [Cond.fieldLink RX11 121 "PowerRailsModel" "rails" "I", Cond.fieldLink RX11 7 "PowerRailsModel" "told" "[I", Cond.fieldLink RX11 13 "PowerRailsModel" "names" "[I", Cond.fieldLink RX11 16 "PowerRailsModel" "table" "[Z", Cond.fieldLink RX11 124 "PowerRailsModel" "limit" "I", Cond.fieldLink RX11 127 "PowerRailsModel" "retry" "I", Cond.fieldLink RX11 130 "PowerRailsModel" "pause" "I", Cond.fieldLink RX11 98 "PowerRailsModel" "dRails" "I", Cond.fieldLink RX11 20 "PowerRailsModel" "dTold" "[I", Cond.fieldLink RX11 23 "PowerRailsModel" "dNames" "[I", Cond.fieldLink RX11 26 "PowerRailsModel" "dTable" "[Z", Cond.fieldLink RX11 102 "PowerRailsModel" "dLimit" "I", Cond.fieldLink RX11 105 "PowerRailsModel" "dRetry" "I", Cond.fieldLink RX11 108 "PowerRailsModel" "dPause" "I", Cond.fieldLink RX11 111 "PowerRailsModel" "hasLimit" "Z", Cond.fieldLink RX11 115 "PowerRailsModel" "hasRetry" "Z", Cond.fieldLink RX11 118 "PowerRailsModel" "used" "I", Cond.fieldLink RX11 29 "PowerRailsModel" "usedRail" "[I", Cond.fieldLink RX11 32 "PowerRailsModel" "usedAt" "[I", Cond.fieldLink RX11 192 "PowerRailsModel" "coded" "I", Cond.fieldLink RX11 35 "PowerRailsModel" "code" "[I", Cond.fieldLink RX11 195 "PowerRailsModel" "waiting" "I", Cond.fieldLink RX11 38 "PowerRailsModel" "wait" "[I", Cond.fieldLink RX11 198 "PowerRailsModel" "deep" "I", Cond.fieldLink RX11 41 "PowerRailsModel" "pile" "[Z", Cond.fieldLink RX11 44 "PowerRailsModel" "tape" "[I", Cond.fieldLink RX11 136 "PowerRailsModel" "taped" "I", Cond.fieldLink RX11 154 "PowerRailsModel" "pos" "I", Cond.fieldLink RX11 148 "PowerRailsModel" "from" "I", Cond.fieldLink RX11 167 "PowerRailsModel" "sort" "I"]
def tbc25 : List Cond := [Cond.fieldLink RX11 178 "PowerRailsModel" "value" "I", Cond.fieldLink RX11 145 "PowerRailsModel" "fault" "I", Cond.fieldLink RX11 151 "PowerRailsModel" "wrongAt" "I", Cond.fieldLink RX11 267 "PowerRailsModel" "tick" "I", Cond.fieldLink RX11 270 "PowerRailsModel" "isOn" "Z", Cond.fieldLink RX11 47 "PowerRailsModel" "state" "[I", Cond.fieldLink RX11 50 "PowerRailsModel" "since" "[I", Cond.fieldLink RX11 53 "PowerRailsModel" "upSince" "[I", Cond.fieldLink RX11 56 "PowerRailsModel" "isDead" "[Z", Cond.fieldLink RX11 59 "PowerRailsModel" "takes" "[I", Cond.fieldLink RX11 62 "PowerRailsModel" "wasGood" "[I", Cond.fieldLink RX11 273 "PowerRailsModel" "held" "I", Cond.fieldLink RX11 276 "PowerRailsModel" "tries" "I", Cond.fieldLink RX11 279 "PowerRailsModel" "drawnNow" "I", Cond.fieldLink RX11 282 "PowerRailsModel" "drawnMost" "I", Cond.fieldLink RX11 285 "PowerRailsModel" "trips" "I", Cond.fieldLink RX11 288 "PowerRailsModel" "happenings" "I", Cond.fieldLink RX11 65 "PowerRailsModel" "happening" "[I", Cond.fieldLink RX11 68 "PowerRailsModel" "mayAt" "[I", Cond.fieldLink RX11 71 "PowerRailsModel" "goodAt" "[I", Cond.fieldLink RX11 74 "PowerRailsModel" "by" "[I", Cond.fieldLink RX11 77 "PowerRailsModel" "waits" "[I", Cond.fieldLink RX11 330 "PowerRailsModel" "upNow" "I", Cond.fieldLink RX11 353 "PowerRailsModel" "peakAt" "I", Cond.fieldLink RX11 80 "PowerRailsModel" "bestWaits" "[I", Cond.fieldLink RX11 361 "PowerRailsModel" "soonest" "I", Cond.fieldLink RX11 83 "PowerRailsModel" "lanes" "[I", Cond.fieldLink RX11 86 "PowerRailsModel" "sizes" "[I", Cond.fieldLink RX11 89 "PowerRailsModel" "cells" "[I", Cond.methodLink RL 19 yX11_feed]
def tbc26 : List Cond := [Cond.instanceMethod yX11_feed, Cond.selects RX11 yX11_feed yX11_feed, Cond.constantLong RX11 139 (255), Cond.methodLink RL 24 yX11_end, Cond.instanceMethod yX11_end, Cond.selects RX11 yX11_end yX11_end, Cond.methodLink RX11 141 yX11_in, Cond.static yX11_in, Cond.methodLink RL 29 yX11_text, Cond.instanceMethod yX11_text, Cond.selects RX11 yX11_text yX11_text, Cond.methodLink RX11 185 yX11_next, Cond.instanceMethod yX11_next, Cond.methodLink RX11 157 yX11_look, Cond.instanceMethod yX11_look, Cond.constantLong RX11 170 (97), Cond.constantLong RX11 172 (122), Cond.constantLong RX11 174 (48), Cond.constantLong RX11 176 (57), Cond.methodLink RX11 181 yX11_wants, Cond.instanceMethod yX11_wants, Cond.methodLink RX11 245 yX11_readLine, Cond.instanceMethod yX11_readLine, Cond.methodLink RX11 188 yX11_nameNow, Cond.instanceMethod yX11_nameNow, Cond.constantLong RX11 161 (7), Cond.methodLink RX11 163 yX11_is, Cond.instanceMethod yX11_is, Cond.constantLong RX11 238 (20), Cond.constantLong RX11 240 (22)]
def tbc27 : List Cond := [Cond.methodLink RX11 242 yX11_readRail, Cond.instanceMethod yX11_readRail, Cond.methodLink RX11 218 yX11_readNumber, Cond.instanceMethod yX11_readNumber, Cond.constantLong RX11 222 (23), Cond.constantLong RX11 224 (26), Cond.methodLink RX11 226 yX11_readWith, Cond.instanceMethod yX11_readWith]
def tbc28 : List Cond := [Cond.methodLink RX11 229 yX11_readWhen, Cond.instanceMethod yX11_readWhen, Cond.methodLink RX11 232 yX11_readFormula, Cond.instanceMethod yX11_readFormula, Cond.methodLink RX11 211 yX11_readUnit, Cond.instanceMethod yX11_readUnit, Cond.methodLink RX11 201 yX11_holdsBack, Cond.instanceMethod yX11_holdsBack, Cond.methodLink RX11 205 yX11_readLetter, Cond.instanceMethod yX11_readLetter, Cond.methodLink RX11 208 yX11_done, Cond.instanceMethod yX11_done, Cond.methodLink RX11 235 yX11_keepFormula, Cond.instanceMethod yX11_keepFormula, Cond.methodLink RX11 214 yX11_worth, Cond.instanceMethod yX11_worth, Cond.methodLink RL 33 yX11_fault, Cond.instanceMethod yX11_fault, Cond.selects RX11 yX11_fault yX11_fault, Cond.methodLink RL 38 yX11_rail, Cond.instanceMethod yX11_rail, Cond.selects RX11 yX11_rail yX11_rail, Cond.methodLink RX11 248 yX11_isRail, Cond.instanceMethod yX11_isRail, Cond.methodLink RL 42 yX11_rule, Cond.instanceMethod yX11_rule, Cond.selects RX11 yX11_rule yX11_rule, Cond.methodLink RL 46 yX11_holds, Cond.instanceMethod yX11_holds, Cond.selects RX11 yX11_holds yX11_holds]
def tbc29 : List Cond := [Cond.constantLong RX11 254 (511), Cond.methodLink RX11 256 yX11_isSo, Cond.instanceMethod yX11_isSo, Cond.methodLink RX11 260 yX11_flag, Cond.static yX11_flag, Cond.methodLink RL 50 yX11_words, Cond.instanceMethod yX11_words, Cond.selects RX11 yX11_words yX11_words, Cond.methodLink RX11 264 yX11_isLeast, Cond.instanceMethod yX11_isLeast, Cond.methodLink RL 55 yX11_key, Cond.instanceMethod yX11_key, Cond.selects RX11 yX11_key yX11_key, Cond.methodLink RL 60 yX11_dead, Cond.instanceMethod yX11_dead, Cond.selects RX11 yX11_dead yX11_dead, Cond.methodLink RL 64 yX11_time, Cond.instanceMethod yX11_time, Cond.selects RX11 yX11_time yX11_time, Cond.methodLink RL 68 yX11_go, Cond.instanceMethod yX11_go, Cond.selects RX11 yX11_go yX11_go, Cond.constantLong RX11 315 (999), Cond.methodLink RX11 317 yX11_aTick, Cond.instanceMethod yX11_aTick, Cond.methodLink RX11 306 yX11_settles, Cond.instanceMethod yX11_settles, Cond.methodLink RX11 302 yX11_round, Cond.instanceMethod yX11_round, Cond.methodLink RX11 291 yX11_allIn]
def tbc30 : List Cond := [Cond.instanceMethod yX11_allIn, Cond.methodLink RX11 294 yX11_becomes, Cond.instanceMethod yX11_becomes, Cond.methodLink RX11 298 yX11_happens, Cond.instanceMethod yX11_happens, Cond.methodLink RX11 309 yX11_drawnOf, Cond.instanceMethod yX11_drawnOf, Cond.methodLink RX11 312 yX11_tripNow, Cond.instanceMethod yX11_tripNow, Cond.methodLink RL 72 yX11_now, Cond.instanceMethod yX11_now, Cond.selects RX11 yX11_now yX11_now, Cond.methodLink RL 76 yX11_is_, Cond.instanceMethod yX11_is_, Cond.selects RX11 yX11_is_ yX11_is_, Cond.constantLong RX11 320 (4), Cond.methodLink RL 80 yX11_happened, Cond.instanceMethod yX11_happened, Cond.selects RX11 yX11_happened yX11_happened, Cond.constantLong RX11 322 (2), Cond.methodLink RL 84 yX11_up, Cond.instanceMethod yX11_up, Cond.selects RX11 yX11_up yX11_up, Cond.methodLink RX11 324 yX11_deadOnes, Cond.instanceMethod yX11_deadOnes, Cond.methodLink RX11 327 yX11_upBut, Cond.instanceMethod yX11_upBut, Cond.methodLink RL 88 yX11_when, Cond.instanceMethod yX11_when, Cond.selects RX11 yX11_when yX11_when]
def tbc31 : List Cond := [Cond.methodLink RX11 334 yX11_setWaits, Cond.instanceMethod yX11_setWaits, Cond.methodLink RX11 337 yX11_setTimes, Cond.instanceMethod yX11_setTimes, Cond.methodLink RX11 340 yX11_findTimes, Cond.instanceMethod yX11_findTimes, Cond.constant RX11 333 (100000), Cond.methodLink RL 93 yX11_ahead, Cond.instanceMethod yX11_ahead, Cond.selects RX11 yX11_ahead yX11_ahead, Cond.methodLink RX11 343 yX11_ways, Cond.instanceMethod yX11_ways, Cond.constant RX11 346 (-100000), Cond.methodLink RX11 347 yX11_goesOn, Cond.instanceMethod yX11_goesOn, Cond.methodLink RL 97 yX11_drawn, Cond.instanceMethod yX11_drawn, Cond.selects RX11 yX11_drawn yX11_drawn, Cond.methodLink RX11 350 yX11_drawnAt, Cond.instanceMethod yX11_drawnAt, Cond.methodLink RL 101 yX11_peak, Cond.instanceMethod yX11_peak, Cond.selects RX11 yX11_peak yX11_peak, Cond.constantLong RX11 356 (3), Cond.methodLink RX11 358 yX11_peakNow, Cond.instanceMethod yX11_peakNow, Cond.methodLink RL 105 yX11_stagger, Cond.instanceMethod yX11_stagger, Cond.selects RX11 yX11_stagger yX11_stagger, Cond.constantLong RX11 367 (10)]
def tbc32 : List Cond := [Cond.methodLink RX11 369 yX11_findStagger, Cond.instanceMethod yX11_findStagger, Cond.methodLink RX11 364 yX11_lastGood, Cond.instanceMethod yX11_lastGood, Cond.methodLink RL 109 yX11_adopt, Cond.instanceMethod yX11_adopt, Cond.selects RX11 yX11_adopt yX11_adopt, Cond.methodLink RL 113 yX11_down, Cond.instanceMethod yX11_down, Cond.selects RX11 yX11_down yX11_down, Cond.methodLink RX11 372 yX11_areRails, Cond.instanceMethod yX11_areRails, Cond.methodLink RL 117 yX11_cut, Cond.instanceMethod yX11_cut, Cond.selects RX11 yX11_cut yX11_cut, Cond.methodLink RX11 375 yX11_isUp, Cond.instanceMethod yX11_isUp, Cond.methodLink RX11 378 yX11_countOf, Cond.static yX11_countOf, Cond.methodLink RL 121 yX11_need, Cond.instanceMethod yX11_need, Cond.selects RX11 yX11_need yX11_need, Cond.methodLink RL 125 yX11_must, Cond.instanceMethod yX11_must, Cond.selects RX11 yX11_must yX11_must, Cond.methodLink RL 129 yX11_seen, Cond.instanceMethod yX11_seen, Cond.selects RX11 yX11_seen yX11_seen, Cond.methodLink RL 133 yX11_sheet, Cond.instanceMethod yX11_sheet]
def tbc33 : List Cond := [Cond.selects RX11 yX11_sheet yX11_sheet, Cond.methodLink RX11 381 yX11_isSheet, Cond.static yX11_isSheet, Cond.methodLink RL 137 yX11_lay, Cond.instanceMethod yX11_lay, Cond.selects RX11 yX11_lay yX11_lay, Cond.methodLink RL 142 yX11_measured, Cond.instanceMethod yX11_measured, Cond.selects RX11 yX11_measured yX11_measured, Cond.constantLong RX11 384 (40), Cond.constantLong RX11 386 (9999), Cond.methodLink RL 146 yX11_count, Cond.instanceMethod yX11_count, Cond.selects RX11 yX11_count yX11_count, Cond.constantLong RL 13 (4294967295), Cond.fieldLink RJ0 9 "java/lang/String" "value" "[B", Cond.fieldLink RJ0 15 "java/lang/String" "coder" "B"]
def tbc34 : List Cond := [Cond.code yX10_init cX10_init 1 none, Cond.code objectInit ⟨#[0xb1]⟩ 1 none, Cond.code yX8_init cX8_init 1 none, Cond.code yX5_init cX5_init 1 none, Cond.code yX2_init cX2_init 1 none, Cond.code yX0_init cX0_init 1 none, Cond.code yX9_init cX9_init 2 none, Cond.code yX7_init cX7_init 2 none, Cond.code yX6_init cX6_init 1 none, Cond.code yJ7_fill_53178 cJ7_fill_53178 4 none]
def tbc35 : List Cond := [Cond.code yX3_init cX3_init 1 none, Cond.code yX4_init cX4_init 3 none, Cond.code yX10_feed cX10_feed 3 (some .int), Cond.code yX8_push cX8_push 4 (some .boolean), Cond.code yX10_end cX10_end 3 (some .int), Cond.code yX10_text cX10_text 3 (some .int), Cond.code yX4_readText cX4_readText 4 (some .int), Cond.code yX3_reset cX3_reset 1 none, Cond.code yX4_step cX4_step 2 none, Cond.code yX4_skipWithin cX4_skipWithin 3 none, Cond.code yX4_valueNumber cX4_valueNumber 2 none, Cond.code yX4_refuse cX4_refuse 3 none, Cond.code yX4_isWord cX4_isWord 3 (some .boolean), Cond.code yJ0_length_8abf5 cJ0_length_8abf5 1 (some .int), Cond.code yJ0_coder_7d493 cJ0_coder_7d493 1 (some .byte), Cond.code yJ0_charAt_5068e cJ0_charAt_5068e 2 (some .char), Cond.code yJ0_isLatin1_aae02 cJ0_isLatin1_aae02 1 (some .boolean), Cond.code yJ1_charAt_3b067 cJ1_charAt_3b067 2 (some .char), Cond.code yJ0_checkIndex_df160 cJ0_checkIndex_df160 2 none, Cond.code yJ3_checkIndex_8e157 cJ3_checkIndex_8e157 3 (some .int), Cond.code yJ2_charAt_3b067 cJ2_charAt_3b067 2 (some .char), Cond.code yJ2_checkIndex_2214a cJ2_checkIndex_2214a 2 none, Cond.code yJ2_length_9d52b cJ2_length_9d52b 1 (some .int), Cond.code yJ2_getChar_3b067 cJ2_getChar_3b067 2 (some .char), Cond.code yX4_readRail cX4_readRail 4 none, Cond.code yX3_addRail cX3_addRail 2 none, Cond.code yX3_setNumber cX3_setNumber 4 none]
def tbc36 : List Cond := [Cond.code yX4_takeTurn cX4_takeTurn 2 none, Cond.code yX4_railNamed cX4_railNamed 2 (some .int), Cond.code yX4_takeNumber cX4_takeNumber 4 (some .int), Cond.code yX4_readWith cX4_readWith 2 none, Cond.code yX4_takeOnce cX4_takeOnce 2 none, Cond.code yX4_readFormula cX4_readFormula 5 none, Cond.code yX4_openDepth cX4_openDepth 2 none, Cond.code yJ7_fill_d0a16 cJ7_fill_d0a16 5 none, Cond.code yX4_takeUnit cX4_takeUnit 2 (some .boolean), Cond.code yX4_isSign cX4_isSign 2 (some .boolean), Cond.code yX4_joinPart cX4_joinPart 4 none, Cond.code yX3_number cX3_number 3 (some .int), Cond.code yX4_noteUse cX4_noteUse 2 none, Cond.code yX4_joinAny cX4_joinAny 2 none, Cond.code yX4_closeDepth cX4_closeDepth 2 none, Cond.code yX4_readRule cX4_readRule 1 none, Cond.code yX4_takeSign cX4_takeSign 2 none, Cond.code yX4_findNotTold cX4_findNotTold 3 none, Cond.code Lib.Math.min.name Lib.Math.min.code 2 (some .int), Cond.code yX5_reset cX5_reset 3 none, Cond.code yX10_forgetReckoned cX10_forgetReckoned 1 none, Cond.code yX9_forget cX9_forget 2 none, Cond.code yX10_fault cX10_fault 1 (some .int), Cond.code yX10_rail cX10_rail 3 (some .int), Cond.code yX3_hasRail cX3_hasRail 2 (some .boolean), Cond.code yX10_rule cX10_rule 2 (some .int), Cond.code yX10_holds cX10_holds 3 (some .int), Cond.code yX3_allRails cX3_allRails 1 (some .int), Cond.code yX3_holdsWith cX3_holdsWith 3 (some .boolean), Cond.code yX10_asNumber cX10_asNumber 1 (some .int)]
def tbc37 : List Cond := [Cond.code yX10_words cX10_words 3 (some .int), Cond.code yX3_countLeastSets cX3_countLeastSets 4 (some .int), Cond.code yX3_isLeastSet cX3_isLeastSet 4 (some .boolean), Cond.code yX3_leastSet cX3_leastSet 5 (some .int), Cond.code yX10_key cX10_key 3 (some .int), Cond.code yX5_turnKey cX5_turnKey 3 none, Cond.code yX10_dead cX10_dead 5 (some .int), Cond.code yX10_time cX10_time 4 (some .int), Cond.code yX10_go cX10_go 4 (some .int), Cond.code yX5_passTick cX5_passTick 3 none, Cond.code yX5_settle cX5_settle 4 none, Cond.code yX5_railsThatMay cX5_railsThatMay 5 (some .int), Cond.code yX5_railsThatAre cX5_railsThatAre 4 (some .int), Cond.code yX5_changeRails cX5_changeRails 6 (some .boolean), Cond.code yX5_nextState cX5_nextState 5 (some .int), Cond.code yX5_become cX5_become 3 none, Cond.code yX2_note cX2_note 4 none, Cond.code yX5_sumDraw cX5_sumDraw 4 (some .int), Cond.code Lib.Math.max.name Lib.Math.max.code 2 (some .int), Cond.code yX5_whyTrip cX5_whyTrip 5 (some .int), Cond.code yX5_trip cX5_trip 3 none, Cond.code yX5_growOlder cX5_growOlder 3 none, Cond.code yX10_now cX10_now 2 (some .int), Cond.code yX10_is cX10_is 3 (some .int), Cond.code yX10_happened cX10_happened 3 (some .int)]
def tbc38 : List Cond := [Cond.code yX10_up cX10_up 4 (some .int), Cond.code yX3_upAmong cX3_upAmong 6 (some .int), Cond.code yX10_when cX10_when 3 (some .int), Cond.code yX10_followTimes cX10_followTimes 1 none, Cond.code yX0_setWaits cX0_setWaits 3 none, Cond.code yX0_copyTakes cX0_copyTakes 2 none, Cond.code yX10_alive cX10_alive 1 (some .int), Cond.code yX0_follow cX0_follow 7 none, Cond.code yX0_begin cX0_begin 5 (some .int), Cond.code yX0_soonest cX0_soonest 4 (some .int), Cond.code yX0_setTakes cX0_setTakes 4 none, Cond.code yX0_isUp cX0_isUp 2 (some .boolean), Cond.code yX10_ahead cX10_ahead 6 (some .int), Cond.code yX3_countWays cX3_countWays 3 (some .int), Cond.code yX9_mostBehind cX9_mostBehind 10 (some .int), Cond.code yX3_sourcesOf cX3_sourcesOf 5 (some .int), Cond.code yX9_start cX9_start 2 none, Cond.code yX9_nextWay cX9_nextWay 4 (some .boolean), Cond.code yX10_drawn cX10_drawn 2 (some .int), Cond.code yX0_drawnAt cX0_drawnAt 5 (some .int), Cond.code yX10_peak cX10_peak 2 (some .int), Cond.code yX9_findPeaks cX9_findPeaks 6 none, Cond.code yX0_findPeak cX0_findPeak 4 none, Cond.code yX10_stagger cX10_stagger 2 (some .int), Cond.code yX7_findRow cX7_findRow 8 none, Cond.code yX7_keepIfBelowLimit cX7_keepIfBelowLimit 2 none, Cond.code yX7_nextRow cX7_nextRow 3 (some .boolean), Cond.code yX10_adopt cX10_adopt 2 (some .int), Cond.code yX3_setWaits cX3_setWaits 3 none, Cond.code yX10_down cX10_down 2 (some .int)]
def tbc39 : List Cond := [Cond.code yX10_cut cX10_cut 4 (some .int), Cond.code yX10_canBeUp cX10_canBeUp 2 (some .boolean), Cond.code yX1_fewestThatCut cX1_fewestThatCut 7 (some .int), Cond.code yJ6_bitCount_0f7a4 cJ6_bitCount_0f7a4 1 (some .int), Cond.code yX1_isUpAmong cX1_isUpAmong 3 (some .boolean), Cond.code yX10_need cX10_need 4 (some .int), Cond.code yX1_fewestThatDo cX1_fewestThatDo 6 (some .int), Cond.code yX10_must cX10_must 2 (some .int), Cond.code yX1_neverWithout cX1_neverWithout 5 (some .int), Cond.code yX10_seen cX10_seen 2 (some .int), Cond.code yX1_thatExplain cX1_thatExplain 5 (some .int), Cond.code yX10_sheet cX10_sheet 4 (some .int), Cond.code yX6_hasPlace cX6_hasPlace 1 (some .boolean), Cond.code yX6_isLane cX6_isLane 1 (some .boolean), Cond.code yX6_renew cX6_renew 4 none, Cond.code yX10_lay cX10_lay 4 (some .int), Cond.code yX6_put cX6_put 4 none, Cond.code yX10_measured cX10_measured 6 (some .int), Cond.code yX10_compareSheet cX10_compareSheet 12 (some .int), Cond.code Lib.Math.abs.name Lib.Math.abs.code 1 (some .int), Cond.code yX10_count cX10_count 2 (some .int), Cond.code yX11_init cX11_init 2 none, Cond.code yX11_firstDraft cX11_firstDraft 1 none, Cond.code yX11_keepDraft cX11_keepDraft 2 none, Cond.code yX11_begins cX11_begins 2 none]
def tbc40 : List Cond := [Cond.code yX11_of cX11_of 3 (some .int), Cond.code yX11_feed cX11_feed 4 (some .int), Cond.code yX11_end cX11_end 3 (some .int), Cond.code yX11_in cX11_in 6 (some .boolean), Cond.code yX11_text cX11_text 3 (some .int), Cond.code yX11_next cX11_next 2 none, Cond.code yX11_look cX11_look 2 (some .int), Cond.code yX11_wants cX11_wants 3 none, Cond.code yX11_readLine cX11_readLine 2 none, Cond.code yX11_nameNow cX11_nameNow 2 (some .int), Cond.code yX11_is cX11_is 6 (some .boolean), Cond.code yX11_readRail cX11_readRail 5 none, Cond.code yX11_readNumber cX11_readNumber 4 (some .int), Cond.code yX11_readWith cX11_readWith 3 none]
def tbc41 : List Cond := [Cond.code yX11_readWhen cX11_readWhen 1 none, Cond.code yX11_readFormula cX11_readFormula 2 none, Cond.code yX11_readUnit cX11_readUnit 1 none, Cond.code yX11_holdsBack cX11_holdsBack 2 none, Cond.code yX11_readLetter cX11_readLetter 2 none, Cond.code yX11_done cX11_done 2 none, Cond.code yX11_keepFormula cX11_keepFormula 2 none, Cond.code yX11_worth cX11_worth 4 (some .boolean), Cond.code yX11_fault cX11_fault 1 (some .int), Cond.code yX11_rail cX11_rail 3 (some .int), Cond.code yX11_isRail cX11_isRail 2 (some .boolean), Cond.code yX11_rule cX11_rule 2 (some .int), Cond.code yX11_holds cX11_holds 3 (some .int), Cond.code yX11_isSo cX11_isSo 3 (some .boolean), Cond.code yX11_flag cX11_flag 1 (some .int), Cond.code yX11_words cX11_words 5 (some .int), Cond.code yX11_isLeast cX11_isLeast 5 (some .boolean), Cond.code yX11_key cX11_key 3 (some .int), Cond.code yX11_dead cX11_dead 4 (some .int), Cond.code yX11_time cX11_time 4 (some .int), Cond.code yX11_go cX11_go 4 (some .int), Cond.code yX11_aTick cX11_aTick 3 none, Cond.code yX11_settles cX11_settles 2 none, Cond.code yX11_round cX11_round 5 (some .boolean), Cond.code yX11_allIn cX11_allIn 4 (some .int), Cond.code yX11_becomes cX11_becomes 3 (some .int), Cond.code yX11_happens cX11_happens 3 none, Cond.code yX11_drawnOf cX11_drawnOf 5 (some .int), Cond.code yX11_tripNow cX11_tripNow 3 (some .int), Cond.code yX11_now cX11_now 2 (some .int)]
def tbc42 : List Cond := [Cond.code yX11_is_ cX11_is_ 3 (some .int), Cond.code yX11_happened cX11_happened 3 (some .int), Cond.code yX11_up cX11_up 4 (some .int), Cond.code yX11_deadOnes cX11_deadOnes 3 (some .int), Cond.code yX11_upBut cX11_upBut 6 (some .int), Cond.code yX11_when cX11_when 3 (some .int), Cond.code yX11_setWaits cX11_setWaits 2 none, Cond.code yX11_setTimes cX11_setTimes 3 none, Cond.code yX11_findTimes cX11_findTimes 4 none, Cond.code yX11_ahead cX11_ahead 7 (some .int), Cond.code yX11_ways cX11_ways 3 (some .int), Cond.code yX11_goesOn cX11_goesOn 2 (some .boolean), Cond.code yX11_drawn cX11_drawn 2 (some .int), Cond.code yX11_drawnAt cX11_drawnAt 5 (some .int), Cond.code yX11_peak cX11_peak 5 (some .int), Cond.code yX11_peakNow cX11_peakNow 4 (some .int), Cond.code yX11_stagger cX11_stagger 2 (some .int), Cond.code yX11_findStagger cX11_findStagger 4 none, Cond.code yX11_lastGood cX11_lastGood 3 (some .int), Cond.code yX11_adopt cX11_adopt 2 (some .int), Cond.code yX11_down cX11_down 2 (some .int), Cond.code yX11_areRails cX11_areRails 2 (some .boolean), Cond.code yX11_cut cX11_cut 6 (some .int), Cond.code yX11_isUp cX11_isUp 3 (some .boolean), Cond.code yX11_countOf cX11_countOf 3 (some .int), Cond.code yX11_need cX11_need 7 (some .int), Cond.code yX11_must cX11_must 4 (some .int), Cond.code yX11_seen cX11_seen 4 (some .int)]
def tbc43 : List Cond := [Cond.code yX11_sheet cX11_sheet 5 (some .int), Cond.code yX11_isSheet cX11_isSheet 2 (some .boolean), Cond.code yX11_lay cX11_lay 4 (some .int), Cond.code yX11_measured cX11_measured 14 (some .int), Cond.code yX11_count cX11_count 2 (some .int)]
def tbt44 : List Cond := wsX100 ++ wsX110 ++ wsX80 ++ wsX50 ++ wsX00 ++ wsX90 ++ wsX70 ++ wsX60 ++ wsX30 ++ wsX40 ++ wsX20
def tbt43 : List Cond := tbc43 ++ tbt44
def tbt42 : List Cond := tbc42 ++ tbt43
def tbt41 : List Cond := tbc41 ++ tbt42
def tbt40 : List Cond := tbc40 ++ tbt41
def tbt39 : List Cond := tbc39 ++ tbt40
def tbt38 : List Cond := tbc38 ++ tbt39
def tbt37 : List Cond := tbc37 ++ tbt38
def tbt36 : List Cond := tbc36 ++ tbt37
def tbt35 : List Cond := tbc35 ++ tbt36
def tbt34 : List Cond := tbc34 ++ tbt35
def tbt33 : List Cond := tbc33 ++ tbt34
def tbt32 : List Cond := tbc32 ++ tbt33
def tbt31 : List Cond := tbc31 ++ tbt32
def tbt30 : List Cond := tbc30 ++ tbt31
def tbt29 : List Cond := tbc29 ++ tbt30
def tbt28 : List Cond := tbc28 ++ tbt29
def tbt27 : List Cond := tbc27 ++ tbt28
def tbt26 : List Cond := tbc26 ++ tbt27
def tbt25 : List Cond := tbc25 ++ tbt26
def tbt24 : List Cond := tbc24 ++ tbt25
def tbt23 : List Cond := tbc23 ++ tbt24
def tbt22 : List Cond := tbc22 ++ tbt23
def tbt21 : List Cond := tbc21 ++ tbt22
def tbt20 : List Cond := tbc20 ++ tbt21
def tbt19 : List Cond := tbc19 ++ tbt20
def tbt18 : List Cond := tbc18 ++ tbt19
def tbt17 : List Cond := tbc17 ++ tbt18
def tbt16 : List Cond := tbc16 ++ tbt17
def tbt15 : List Cond := tbc15 ++ tbt16
def tbt14 : List Cond := tbc14 ++ tbt15
def tbt13 : List Cond := tbc13 ++ tbt14
def tbt12 : List Cond := tbc12 ++ tbt13
def tbt11 : List Cond := tbc11 ++ tbt12
def tbt10 : List Cond := tbc10 ++ tbt11
def tbt9 : List Cond := tbc9 ++ tbt10
def tbt8 : List Cond := tbc8 ++ tbt9
def tbt7 : List Cond := tbc7 ++ tbt8
def tbt6 : List Cond := tbc6 ++ tbt7
def tbt5 : List Cond := tbc5 ++ tbt6
def tbt4 : List Cond := tbc4 ++ tbt5
def tbt3 : List Cond := tbc3 ++ tbt4
def tbt2 : List Cond := tbc2 ++ tbt3
def tbt1 : List Cond := tbc1 ++ tbt2
def tbt0 : List Cond := tbc0 ++ tbt1
abbrev tbW : List Cond := tbt0
theorem tbs0 : ∀ w ∈ tbt0, w ∈ tbW := fun _ h => h
theorem tbs1 : ∀ w ∈ tbt1, w ∈ tbW := fun w h => tbs0 w (List.mem_append_right tbc0 h)
theorem tbs2 : ∀ w ∈ tbt2, w ∈ tbW := fun w h => tbs1 w (List.mem_append_right tbc1 h)
theorem tbs3 : ∀ w ∈ tbt3, w ∈ tbW := fun w h => tbs2 w (List.mem_append_right tbc2 h)
theorem tbs4 : ∀ w ∈ tbt4, w ∈ tbW := fun w h => tbs3 w (List.mem_append_right tbc3 h)
theorem tbs5 : ∀ w ∈ tbt5, w ∈ tbW := fun w h => tbs4 w (List.mem_append_right tbc4 h)
theorem tbs6 : ∀ w ∈ tbt6, w ∈ tbW := fun w h => tbs5 w (List.mem_append_right tbc5 h)
theorem tbs7 : ∀ w ∈ tbt7, w ∈ tbW := fun w h => tbs6 w (List.mem_append_right tbc6 h)
theorem tbs8 : ∀ w ∈ tbt8, w ∈ tbW := fun w h => tbs7 w (List.mem_append_right tbc7 h)
theorem tbs9 : ∀ w ∈ tbt9, w ∈ tbW := fun w h => tbs8 w (List.mem_append_right tbc8 h)
theorem tbs10 : ∀ w ∈ tbt10, w ∈ tbW := fun w h => tbs9 w (List.mem_append_right tbc9 h)
theorem tbs11 : ∀ w ∈ tbt11, w ∈ tbW := fun w h => tbs10 w (List.mem_append_right tbc10 h)
theorem tbs12 : ∀ w ∈ tbt12, w ∈ tbW := fun w h => tbs11 w (List.mem_append_right tbc11 h)
theorem tbs13 : ∀ w ∈ tbt13, w ∈ tbW := fun w h => tbs12 w (List.mem_append_right tbc12 h)
theorem tbs14 : ∀ w ∈ tbt14, w ∈ tbW := fun w h => tbs13 w (List.mem_append_right tbc13 h)
theorem tbs15 : ∀ w ∈ tbt15, w ∈ tbW := fun w h => tbs14 w (List.mem_append_right tbc14 h)
theorem tbs16 : ∀ w ∈ tbt16, w ∈ tbW := fun w h => tbs15 w (List.mem_append_right tbc15 h)
theorem tbs17 : ∀ w ∈ tbt17, w ∈ tbW := fun w h => tbs16 w (List.mem_append_right tbc16 h)
theorem tbs18 : ∀ w ∈ tbt18, w ∈ tbW := fun w h => tbs17 w (List.mem_append_right tbc17 h)
theorem tbs19 : ∀ w ∈ tbt19, w ∈ tbW := fun w h => tbs18 w (List.mem_append_right tbc18 h)
theorem tbs20 : ∀ w ∈ tbt20, w ∈ tbW := fun w h => tbs19 w (List.mem_append_right tbc19 h)
theorem tbs21 : ∀ w ∈ tbt21, w ∈ tbW := fun w h => tbs20 w (List.mem_append_right tbc20 h)
theorem tbs22 : ∀ w ∈ tbt22, w ∈ tbW := fun w h => tbs21 w (List.mem_append_right tbc21 h)
theorem tbs23 : ∀ w ∈ tbt23, w ∈ tbW := fun w h => tbs22 w (List.mem_append_right tbc22 h)
theorem tbs24 : ∀ w ∈ tbt24, w ∈ tbW := fun w h => tbs23 w (List.mem_append_right tbc23 h)
theorem tbs25 : ∀ w ∈ tbt25, w ∈ tbW := fun w h => tbs24 w (List.mem_append_right tbc24 h)
theorem tbs26 : ∀ w ∈ tbt26, w ∈ tbW := fun w h => tbs25 w (List.mem_append_right tbc25 h)
theorem tbs27 : ∀ w ∈ tbt27, w ∈ tbW := fun w h => tbs26 w (List.mem_append_right tbc26 h)
theorem tbs28 : ∀ w ∈ tbt28, w ∈ tbW := fun w h => tbs27 w (List.mem_append_right tbc27 h)
theorem tbs29 : ∀ w ∈ tbt29, w ∈ tbW := fun w h => tbs28 w (List.mem_append_right tbc28 h)
theorem tbs30 : ∀ w ∈ tbt30, w ∈ tbW := fun w h => tbs29 w (List.mem_append_right tbc29 h)
theorem tbs31 : ∀ w ∈ tbt31, w ∈ tbW := fun w h => tbs30 w (List.mem_append_right tbc30 h)
theorem tbs32 : ∀ w ∈ tbt32, w ∈ tbW := fun w h => tbs31 w (List.mem_append_right tbc31 h)
theorem tbs33 : ∀ w ∈ tbt33, w ∈ tbW := fun w h => tbs32 w (List.mem_append_right tbc32 h)
theorem tbs34 : ∀ w ∈ tbt34, w ∈ tbW := fun w h => tbs33 w (List.mem_append_right tbc33 h)
theorem tbs35 : ∀ w ∈ tbt35, w ∈ tbW := fun w h => tbs34 w (List.mem_append_right tbc34 h)
theorem tbs36 : ∀ w ∈ tbt36, w ∈ tbW := fun w h => tbs35 w (List.mem_append_right tbc35 h)
theorem tbs37 : ∀ w ∈ tbt37, w ∈ tbW := fun w h => tbs36 w (List.mem_append_right tbc36 h)
theorem tbs38 : ∀ w ∈ tbt38, w ∈ tbW := fun w h => tbs37 w (List.mem_append_right tbc37 h)
theorem tbs39 : ∀ w ∈ tbt39, w ∈ tbW := fun w h => tbs38 w (List.mem_append_right tbc38 h)
theorem tbs40 : ∀ w ∈ tbt40, w ∈ tbW := fun w h => tbs39 w (List.mem_append_right tbc39 h)
theorem tbs41 : ∀ w ∈ tbt41, w ∈ tbW := fun w h => tbs40 w (List.mem_append_right tbc40 h)
theorem tbs42 : ∀ w ∈ tbt42, w ∈ tbW := fun w h => tbs41 w (List.mem_append_right tbc41 h)
theorem tbs43 : ∀ w ∈ tbt43, w ∈ tbW := fun w h => tbs42 w (List.mem_append_right tbc42 h)
theorem tbs44 : ∀ w ∈ tbt44, w ∈ tbW := fun w h => tbs43 w (List.mem_append_right tbc43 h)
theorem tbm0 : ∀ w ∈ tbc0, w ∈ tbW := fun w h => tbs0 w (List.mem_append_left tbt1 h)
theorem tbm1 : ∀ w ∈ tbc1, w ∈ tbW := fun w h => tbs1 w (List.mem_append_left tbt2 h)
theorem tbm2 : ∀ w ∈ tbc2, w ∈ tbW := fun w h => tbs2 w (List.mem_append_left tbt3 h)
theorem tbm3 : ∀ w ∈ tbc3, w ∈ tbW := fun w h => tbs3 w (List.mem_append_left tbt4 h)
theorem tbm4 : ∀ w ∈ tbc4, w ∈ tbW := fun w h => tbs4 w (List.mem_append_left tbt5 h)
theorem tbm5 : ∀ w ∈ tbc5, w ∈ tbW := fun w h => tbs5 w (List.mem_append_left tbt6 h)
theorem tbm6 : ∀ w ∈ tbc6, w ∈ tbW := fun w h => tbs6 w (List.mem_append_left tbt7 h)
theorem tbm7 : ∀ w ∈ tbc7, w ∈ tbW := fun w h => tbs7 w (List.mem_append_left tbt8 h)
theorem tbm8 : ∀ w ∈ tbc8, w ∈ tbW := fun w h => tbs8 w (List.mem_append_left tbt9 h)
theorem tbm9 : ∀ w ∈ tbc9, w ∈ tbW := fun w h => tbs9 w (List.mem_append_left tbt10 h)
theorem tbm10 : ∀ w ∈ tbc10, w ∈ tbW := fun w h => tbs10 w (List.mem_append_left tbt11 h)
theorem tbm11 : ∀ w ∈ tbc11, w ∈ tbW := fun w h => tbs11 w (List.mem_append_left tbt12 h)
theorem tbm12 : ∀ w ∈ tbc12, w ∈ tbW := fun w h => tbs12 w (List.mem_append_left tbt13 h)
theorem tbm13 : ∀ w ∈ tbc13, w ∈ tbW := fun w h => tbs13 w (List.mem_append_left tbt14 h)
theorem tbm14 : ∀ w ∈ tbc14, w ∈ tbW := fun w h => tbs14 w (List.mem_append_left tbt15 h)
theorem tbm15 : ∀ w ∈ tbc15, w ∈ tbW := fun w h => tbs15 w (List.mem_append_left tbt16 h)
theorem tbm16 : ∀ w ∈ tbc16, w ∈ tbW := fun w h => tbs16 w (List.mem_append_left tbt17 h)
theorem tbm17 : ∀ w ∈ tbc17, w ∈ tbW := fun w h => tbs17 w (List.mem_append_left tbt18 h)
theorem tbm18 : ∀ w ∈ tbc18, w ∈ tbW := fun w h => tbs18 w (List.mem_append_left tbt19 h)
theorem tbm19 : ∀ w ∈ tbc19, w ∈ tbW := fun w h => tbs19 w (List.mem_append_left tbt20 h)
theorem tbm20 : ∀ w ∈ tbc20, w ∈ tbW := fun w h => tbs20 w (List.mem_append_left tbt21 h)
theorem tbm21 : ∀ w ∈ tbc21, w ∈ tbW := fun w h => tbs21 w (List.mem_append_left tbt22 h)
theorem tbm22 : ∀ w ∈ tbc22, w ∈ tbW := fun w h => tbs22 w (List.mem_append_left tbt23 h)
theorem tbm23 : ∀ w ∈ tbc23, w ∈ tbW := fun w h => tbs23 w (List.mem_append_left tbt24 h)
theorem tbm24 : ∀ w ∈ tbc24, w ∈ tbW := fun w h => tbs24 w (List.mem_append_left tbt25 h)
theorem tbm25 : ∀ w ∈ tbc25, w ∈ tbW := fun w h => tbs25 w (List.mem_append_left tbt26 h)
theorem tbm26 : ∀ w ∈ tbc26, w ∈ tbW := fun w h => tbs26 w (List.mem_append_left tbt27 h)
theorem tbm27 : ∀ w ∈ tbc27, w ∈ tbW := fun w h => tbs27 w (List.mem_append_left tbt28 h)
theorem tbm28 : ∀ w ∈ tbc28, w ∈ tbW := fun w h => tbs28 w (List.mem_append_left tbt29 h)
theorem tbm29 : ∀ w ∈ tbc29, w ∈ tbW := fun w h => tbs29 w (List.mem_append_left tbt30 h)
theorem tbm30 : ∀ w ∈ tbc30, w ∈ tbW := fun w h => tbs30 w (List.mem_append_left tbt31 h)
theorem tbm31 : ∀ w ∈ tbc31, w ∈ tbW := fun w h => tbs31 w (List.mem_append_left tbt32 h)
theorem tbm32 : ∀ w ∈ tbc32, w ∈ tbW := fun w h => tbs32 w (List.mem_append_left tbt33 h)
theorem tbm33 : ∀ w ∈ tbc33, w ∈ tbW := fun w h => tbs33 w (List.mem_append_left tbt34 h)
theorem tbm34 : ∀ w ∈ tbc34, w ∈ tbW := fun w h => tbs34 w (List.mem_append_left tbt35 h)
theorem tbm35 : ∀ w ∈ tbc35, w ∈ tbW := fun w h => tbs35 w (List.mem_append_left tbt36 h)
theorem tbm36 : ∀ w ∈ tbc36, w ∈ tbW := fun w h => tbs36 w (List.mem_append_left tbt37 h)
theorem tbm37 : ∀ w ∈ tbc37, w ∈ tbW := fun w h => tbs37 w (List.mem_append_left tbt38 h)
theorem tbm38 : ∀ w ∈ tbc38, w ∈ tbW := fun w h => tbs38 w (List.mem_append_left tbt39 h)
theorem tbm39 : ∀ w ∈ tbc39, w ∈ tbW := fun w h => tbs39 w (List.mem_append_left tbt40 h)
theorem tbm40 : ∀ w ∈ tbc40, w ∈ tbW := fun w h => tbs40 w (List.mem_append_left tbt41 h)
theorem tbm41 : ∀ w ∈ tbc41, w ∈ tbW := fun w h => tbs41 w (List.mem_append_left tbt42 h)
theorem tbm42 : ∀ w ∈ tbc42, w ∈ tbW := fun w h => tbs42 w (List.mem_append_left tbt43 h)
theorem tbm43 : ∀ w ∈ tbc43, w ∈ tbW := fun w h => tbs43 w (List.mem_append_left tbt44 h)
theorem wd0 : Cond.selects RX10 yX10_forgetReckoned yX10_forgetReckoned ∈ tbW := tbm0 _ (List.mem_of_getElem? (i := 0) rfl)
theorem wd1 : Cond.selects RX10 yX10_followTimes yX10_followTimes ∈ tbW := tbm0 _ (List.mem_of_getElem? (i := 1) rfl)
theorem wd2 : Cond.selects RX10 yX10_alive yX10_alive ∈ tbW := tbm0 _ (List.mem_of_getElem? (i := 2) rfl)
theorem wd3 : Cond.selects RX10 yX10_canBeUp yX10_canBeUp ∈ tbW := tbm0 _ (List.mem_of_getElem? (i := 3) rfl)
theorem wd4 : Cond.selects RX10 yX10_compareSheet yX10_compareSheet ∈ tbW := tbm0 _ (List.mem_of_getElem? (i := 4) rfl)
theorem wd5 : Cond.selects RX11 yX11_firstDraft yX11_firstDraft ∈ tbW := tbm0 _ (List.mem_of_getElem? (i := 5) rfl)
theorem wd6 : Cond.selects RX11 yX11_keepDraft yX11_keepDraft ∈ tbW := tbm0 _ (List.mem_of_getElem? (i := 6) rfl)
theorem wd7 : Cond.selects RX11 yX11_begins yX11_begins ∈ tbW := tbm0 _ (List.mem_of_getElem? (i := 7) rfl)
theorem wd8 : Cond.selects RX11 yX11_of yX11_of ∈ tbW := tbm0 _ (List.mem_of_getElem? (i := 8) rfl)
theorem wd9 : Cond.selects RX11 yX11_next yX11_next ∈ tbW := tbm0 _ (List.mem_of_getElem? (i := 9) rfl)
theorem wd10 : Cond.selects RX11 yX11_look yX11_look ∈ tbW := tbm0 _ (List.mem_of_getElem? (i := 10) rfl)
theorem wd11 : Cond.selects RX11 yX11_wants yX11_wants ∈ tbW := tbm0 _ (List.mem_of_getElem? (i := 11) rfl)
theorem wd12 : Cond.selects RX11 yX11_readLine yX11_readLine ∈ tbW := tbm0 _ (List.mem_of_getElem? (i := 12) rfl)
theorem wd13 : Cond.selects RX11 yX11_nameNow yX11_nameNow ∈ tbW := tbm0 _ (List.mem_of_getElem? (i := 13) rfl)
theorem wd14 : Cond.selects RX11 yX11_is yX11_is ∈ tbW := tbm0 _ (List.mem_of_getElem? (i := 14) rfl)
theorem wd15 : Cond.selects RX11 yX11_readRail yX11_readRail ∈ tbW := tbm0 _ (List.mem_of_getElem? (i := 15) rfl)
theorem wd16 : Cond.selects RX11 yX11_readNumber yX11_readNumber ∈ tbW := tbm0 _ (List.mem_of_getElem? (i := 16) rfl)
theorem wd17 : Cond.selects RX11 yX11_readWith yX11_readWith ∈ tbW := tbm0 _ (List.mem_of_getElem? (i := 17) rfl)
theorem wd18 : Cond.selects RX11 yX11_readWhen yX11_readWhen ∈ tbW := tbm0 _ (List.mem_of_getElem? (i := 18) rfl)
theorem wd19 : Cond.selects RX11 yX11_readFormula yX11_readFormula ∈ tbW := tbm0 _ (List.mem_of_getElem? (i := 19) rfl)
theorem wd20 : Cond.selects RX11 yX11_readUnit yX11_readUnit ∈ tbW := tbm0 _ (List.mem_of_getElem? (i := 20) rfl)
theorem wd21 : Cond.selects RX11 yX11_holdsBack yX11_holdsBack ∈ tbW := tbm0 _ (List.mem_of_getElem? (i := 21) rfl)
theorem wd22 : Cond.selects RX11 yX11_readLetter yX11_readLetter ∈ tbW := tbm0 _ (List.mem_of_getElem? (i := 22) rfl)
theorem wd23 : Cond.selects RX11 yX11_done yX11_done ∈ tbW := tbm0 _ (List.mem_of_getElem? (i := 23) rfl)
theorem wd24 : Cond.selects RX11 yX11_keepFormula yX11_keepFormula ∈ tbW := tbm0 _ (List.mem_of_getElem? (i := 24) rfl)
theorem wd25 : Cond.selects RX11 yX11_worth yX11_worth ∈ tbW := tbm0 _ (List.mem_of_getElem? (i := 25) rfl)
theorem wd26 : Cond.selects RX11 yX11_isRail yX11_isRail ∈ tbW := tbm0 _ (List.mem_of_getElem? (i := 26) rfl)
theorem wd27 : Cond.selects RX11 yX11_isSo yX11_isSo ∈ tbW := tbm0 _ (List.mem_of_getElem? (i := 27) rfl)
theorem wd28 : Cond.selects RX11 yX11_isLeast yX11_isLeast ∈ tbW := tbm0 _ (List.mem_of_getElem? (i := 28) rfl)
theorem wd29 : Cond.selects RX11 yX11_aTick yX11_aTick ∈ tbW := tbm0 _ (List.mem_of_getElem? (i := 29) rfl)
theorem wd30 : Cond.selects RX11 yX11_settles yX11_settles ∈ tbW := tbm1 _ (List.mem_of_getElem? (i := 0) rfl)
theorem wd31 : Cond.selects RX11 yX11_round yX11_round ∈ tbW := tbm1 _ (List.mem_of_getElem? (i := 1) rfl)
theorem wd32 : Cond.selects RX11 yX11_allIn yX11_allIn ∈ tbW := tbm1 _ (List.mem_of_getElem? (i := 2) rfl)
theorem wd33 : Cond.selects RX11 yX11_becomes yX11_becomes ∈ tbW := tbm1 _ (List.mem_of_getElem? (i := 3) rfl)
theorem wd34 : Cond.selects RX11 yX11_happens yX11_happens ∈ tbW := tbm1 _ (List.mem_of_getElem? (i := 4) rfl)
theorem wd35 : Cond.selects RX11 yX11_drawnOf yX11_drawnOf ∈ tbW := tbm1 _ (List.mem_of_getElem? (i := 5) rfl)
theorem wd36 : Cond.selects RX11 yX11_tripNow yX11_tripNow ∈ tbW := tbm1 _ (List.mem_of_getElem? (i := 6) rfl)
theorem wd37 : Cond.selects RX11 yX11_deadOnes yX11_deadOnes ∈ tbW := tbm1 _ (List.mem_of_getElem? (i := 7) rfl)
theorem wd38 : Cond.selects RX11 yX11_upBut yX11_upBut ∈ tbW := tbm1 _ (List.mem_of_getElem? (i := 8) rfl)
theorem wd39 : Cond.selects RX11 yX11_setWaits yX11_setWaits ∈ tbW := tbm1 _ (List.mem_of_getElem? (i := 9) rfl)
theorem wd40 : Cond.selects RX11 yX11_setTimes yX11_setTimes ∈ tbW := tbm1 _ (List.mem_of_getElem? (i := 10) rfl)
theorem wd41 : Cond.selects RX11 yX11_findTimes yX11_findTimes ∈ tbW := tbm1 _ (List.mem_of_getElem? (i := 11) rfl)
theorem wd42 : Cond.selects RX11 yX11_ways yX11_ways ∈ tbW := tbm1 _ (List.mem_of_getElem? (i := 12) rfl)
theorem wd43 : Cond.selects RX11 yX11_goesOn yX11_goesOn ∈ tbW := tbm1 _ (List.mem_of_getElem? (i := 13) rfl)
theorem wd44 : Cond.selects RX11 yX11_drawnAt yX11_drawnAt ∈ tbW := tbm1 _ (List.mem_of_getElem? (i := 14) rfl)
theorem wd45 : Cond.selects RX11 yX11_peakNow yX11_peakNow ∈ tbW := tbm1 _ (List.mem_of_getElem? (i := 15) rfl)
theorem wd46 : Cond.selects RX11 yX11_findStagger yX11_findStagger ∈ tbW := tbm1 _ (List.mem_of_getElem? (i := 16) rfl)
theorem wd47 : Cond.selects RX11 yX11_lastGood yX11_lastGood ∈ tbW := tbm1 _ (List.mem_of_getElem? (i := 17) rfl)
theorem wd48 : Cond.selects RX11 yX11_areRails yX11_areRails ∈ tbW := tbm1 _ (List.mem_of_getElem? (i := 18) rfl)
theorem wd49 : Cond.selects RX11 yX11_isUp yX11_isUp ∈ tbW := tbm1 _ (List.mem_of_getElem? (i := 19) rfl)
theorem wd50 : Cond.initialized RX10 ∈ tbW := tbm2 _ (List.mem_of_getElem? (i := 0) rfl)
theorem wd51 : Cond.initialized RX8 ∈ tbW := tbm2 _ (List.mem_of_getElem? (i := 1) rfl)
theorem wd52 : Cond.initialized RX5 ∈ tbW := tbm2 _ (List.mem_of_getElem? (i := 2) rfl)
theorem wd53 : Cond.initialized RX2 ∈ tbW := tbm2 _ (List.mem_of_getElem? (i := 3) rfl)
theorem wd54 : Cond.initialized RX0 ∈ tbW := tbm2 _ (List.mem_of_getElem? (i := 4) rfl)
theorem wd55 : Cond.initialized RX9 ∈ tbW := tbm2 _ (List.mem_of_getElem? (i := 5) rfl)
theorem wd56 : Cond.initialized RX7 ∈ tbW := tbm2 _ (List.mem_of_getElem? (i := 6) rfl)
theorem wd57 : Cond.initialized RX6 ∈ tbW := tbm2 _ (List.mem_of_getElem? (i := 7) rfl)
theorem wd58 : Cond.initialized RJ7 ∈ tbW := tbm2 _ (List.mem_of_getElem? (i := 8) rfl)
theorem wd59 : Cond.initialized RX3 ∈ tbW := tbm2 _ (List.mem_of_getElem? (i := 9) rfl)
theorem wd60 : Cond.initialized RX4 ∈ tbW := tbm2 _ (List.mem_of_getElem? (i := 10) rfl)
theorem wd61 : Cond.initialized RX11 ∈ tbW := tbm2 _ (List.mem_of_getElem? (i := 11) rfl)
theorem wd62 : Cond.initialized RJ0 ∈ tbW := tbm2 _ (List.mem_of_getElem? (i := 12) rfl)
theorem wd63 : Cond.initialized RJ1 ∈ tbW := tbm2 _ (List.mem_of_getElem? (i := 13) rfl)
theorem wd64 : Cond.initialized RJ3 ∈ tbW := tbm2 _ (List.mem_of_getElem? (i := 14) rfl)
theorem wd65 : Cond.initialized RJ2 ∈ tbW := tbm2 _ (List.mem_of_getElem? (i := 15) rfl)
theorem wd66 : Cond.initialized "java/lang/System" ∈ tbW := tbm2 _ (List.mem_of_getElem? (i := 16) rfl)
theorem wd67 : Cond.initialized "java/lang/Math" ∈ tbW := tbm2 _ (List.mem_of_getElem? (i := 17) rfl)
theorem wd68 : Cond.initialized RX1 ∈ tbW := tbm2 _ (List.mem_of_getElem? (i := 18) rfl)
theorem wd69 : Cond.initialized RJ6 ∈ tbW := tbm2 _ (List.mem_of_getElem? (i := 19) rfl)
theorem wd70 : Cond.classLink RL 7 RX10 ∈ tbW := tbm2 _ (List.mem_of_getElem? (i := 20) rfl)
theorem wd71 : Cond.instantiable RX10 10 ∈ tbW := tbm2 _ (List.mem_of_getElem? (i := 21) rfl)
theorem wd72 : Cond.methodLink RL 9 yX10_init ∈ tbW := tbm2 _ (List.mem_of_getElem? (i := 22) rfl)
theorem wd73 : Cond.instanceMethod yX10_init ∈ tbW := tbm2 _ (List.mem_of_getElem? (i := 23) rfl)
theorem wd74 : Cond.methodLink RX10 1 objectInit ∈ tbW := tbm2 _ (List.mem_of_getElem? (i := 24) rfl)
theorem wd75 : Cond.instanceMethod objectInit ∈ tbW := tbm2 _ (List.mem_of_getElem? (i := 25) rfl)
theorem wd76 : Cond.classLink RX10 7 RX8 ∈ tbW := tbm2 _ (List.mem_of_getElem? (i := 26) rfl)
theorem wd77 : Cond.instantiable RX8 2 ∈ tbW := tbm2 _ (List.mem_of_getElem? (i := 27) rfl)
theorem wd78 : Cond.methodLink RX10 9 yX8_init ∈ tbW := tbm2 _ (List.mem_of_getElem? (i := 28) rfl)
theorem wd79 : Cond.instanceMethod yX8_init ∈ tbW := tbm2 _ (List.mem_of_getElem? (i := 29) rfl)
theorem wd80 : Cond.methodLink RX8 1 objectInit ∈ tbW := tbm3 _ (List.mem_of_getElem? (i := 0) rfl)
theorem wd81 : Cond.fieldLink RX8 9 "PowerRails$Tape" "bytes" "[I" ∈ tbW := tbm3 _ (List.mem_of_getElem? (i := 1) rfl)
theorem wd82 : Cond.fieldLink RX4 85 "PowerRails$Tape" "bytes" "[I" ∈ tbW := tbm3 _ (List.mem_of_getElem? (i := 2) rfl)
theorem wd83 : Cond.fieldLink RX8 13 "PowerRails$Tape" "length" "I" ∈ tbW := tbm3 _ (List.mem_of_getElem? (i := 3) rfl)
theorem wd84 : Cond.fieldLink RX10 80 "PowerRails$Tape" "length" "I" ∈ tbW := tbm3 _ (List.mem_of_getElem? (i := 4) rfl)
theorem wd85 : Cond.fieldLink RX4 82 "PowerRails$Tape" "length" "I" ∈ tbW := tbm3 _ (List.mem_of_getElem? (i := 5) rfl)
theorem wd86 : Cond.arrayClass .int ∈ tbW := tbm3 _ (List.mem_of_getElem? (i := 6) rfl)
theorem wd87 : Cond.classLink RX10 16 RX5 ∈ tbW := tbm3 _ (List.mem_of_getElem? (i := 7) rfl)
theorem wd88 : Cond.instantiable RX5 14 ∈ tbW := tbm3 _ (List.mem_of_getElem? (i := 8) rfl)
theorem wd89 : Cond.methodLink RX10 18 yX5_init ∈ tbW := tbm3 _ (List.mem_of_getElem? (i := 9) rfl)
theorem wd90 : Cond.instanceMethod yX5_init ∈ tbW := tbm3 _ (List.mem_of_getElem? (i := 10) rfl)
theorem wd91 : Cond.methodLink RX5 3 objectInit ∈ tbW := tbm3 _ (List.mem_of_getElem? (i := 11) rfl)
theorem wd92 : Cond.classLink RX5 9 RX2 ∈ tbW := tbm3 _ (List.mem_of_getElem? (i := 12) rfl)
theorem wd93 : Cond.instantiable RX2 4 ∈ tbW := tbm3 _ (List.mem_of_getElem? (i := 13) rfl)
theorem wd94 : Cond.methodLink RX5 11 yX2_init ∈ tbW := tbm3 _ (List.mem_of_getElem? (i := 14) rfl)
theorem wd95 : Cond.instanceMethod yX2_init ∈ tbW := tbm3 _ (List.mem_of_getElem? (i := 15) rfl)
theorem wd96 : Cond.methodLink RX2 1 objectInit ∈ tbW := tbm3 _ (List.mem_of_getElem? (i := 16) rfl)
theorem wd97 : Cond.fieldLink RX2 9 "PowerRails$History" "ticks" "[I" ∈ tbW := tbm3 _ (List.mem_of_getElem? (i := 17) rfl)
theorem wd98 : Cond.fieldLink RX10 196 "PowerRails$History" "ticks" "[I" ∈ tbW := tbm3 _ (List.mem_of_getElem? (i := 18) rfl)
theorem wd99 : Cond.fieldLink RX2 13 "PowerRails$History" "who" "[I" ∈ tbW := tbm3 _ (List.mem_of_getElem? (i := 19) rfl)
theorem wd100 : Cond.fieldLink RX10 199 "PowerRails$History" "who" "[I" ∈ tbW := tbm3 _ (List.mem_of_getElem? (i := 20) rfl)
theorem wd101 : Cond.fieldLink RX2 16 "PowerRails$History" "became" "[I" ∈ tbW := tbm3 _ (List.mem_of_getElem? (i := 21) rfl)
theorem wd102 : Cond.fieldLink RX10 202 "PowerRails$History" "became" "[I" ∈ tbW := tbm3 _ (List.mem_of_getElem? (i := 22) rfl)
theorem wd103 : Cond.fieldLink RX2 19 "PowerRails$History" "size" "I" ∈ tbW := tbm3 _ (List.mem_of_getElem? (i := 23) rfl)
theorem wd104 : Cond.fieldLink RX5 42 "PowerRails$History" "size" "I" ∈ tbW := tbm3 _ (List.mem_of_getElem? (i := 24) rfl)
theorem wd105 : Cond.fieldLink RX10 191 "PowerRails$History" "size" "I" ∈ tbW := tbm3 _ (List.mem_of_getElem? (i := 25) rfl)
theorem wd106 : Cond.fieldLink RX5 12 "PowerRails$Run" "history" "LPowerRails$History;" ∈ tbW := tbm3 _ (List.mem_of_getElem? (i := 26) rfl)
theorem wd107 : Cond.fieldLink RX10 187 "PowerRails$Run" "history" "LPowerRails$History;" ∈ tbW := tbm3 _ (List.mem_of_getElem? (i := 27) rfl)
theorem wd108 : Cond.fieldLink RX5 18 "PowerRails$Run" "states" "[I" ∈ tbW := tbm3 _ (List.mem_of_getElem? (i := 28) rfl)
theorem wd109 : Cond.fieldLink RX10 178 "PowerRails$Run" "states" "[I" ∈ tbW := tbm3 _ (List.mem_of_getElem? (i := 29) rfl)
theorem wd110 : Cond.fieldLink RX5 22 "PowerRails$Run" "since" "[I" ∈ tbW := tbm4 _ (List.mem_of_getElem? (i := 0) rfl)
theorem wd111 : Cond.fieldLink RX10 181 "PowerRails$Run" "since" "[I" ∈ tbW := tbm4 _ (List.mem_of_getElem? (i := 1) rfl)
theorem wd112 : Cond.fieldLink RX5 25 "PowerRails$Run" "asked" "[I" ∈ tbW := tbm4 _ (List.mem_of_getElem? (i := 2) rfl)
theorem wd113 : Cond.fieldLink RX5 28 "PowerRails$Run" "takes" "[I" ∈ tbW := tbm4 _ (List.mem_of_getElem? (i := 3) rfl)
theorem wd114 : Cond.fieldLink RX10 150 "PowerRails$Run" "takes" "[I" ∈ tbW := tbm4 _ (List.mem_of_getElem? (i := 4) rfl)
theorem wd115 : Cond.fieldLink RX5 31 "PowerRails$Run" "timesGood" "[I" ∈ tbW := tbm4 _ (List.mem_of_getElem? (i := 5) rfl)
theorem wd116 : Cond.fieldLink RX10 184 "PowerRails$Run" "timesGood" "[I" ∈ tbW := tbm4 _ (List.mem_of_getElem? (i := 6) rfl)
theorem wd117 : Cond.fieldLink RX5 34 "PowerRails$Run" "dead" "I" ∈ tbW := tbm4 _ (List.mem_of_getElem? (i := 7) rfl)
theorem wd118 : Cond.fieldLink RX10 147 "PowerRails$Run" "dead" "I" ∈ tbW := tbm4 _ (List.mem_of_getElem? (i := 8) rfl)
theorem wd119 : Cond.fieldLink RX5 38 "PowerRails$Run" "key" "Z" ∈ tbW := tbm4 _ (List.mem_of_getElem? (i := 9) rfl)
theorem wd120 : Cond.fieldLink RX10 139 "PowerRails$Run" "key" "Z" ∈ tbW := tbm4 _ (List.mem_of_getElem? (i := 10) rfl)
theorem wd121 : Cond.fieldLink RX5 51 "PowerRails$Run" "tick" "I" ∈ tbW := tbm4 _ (List.mem_of_getElem? (i := 11) rfl)
theorem wd122 : Cond.fieldLink RX10 160 "PowerRails$Run" "tick" "I" ∈ tbW := tbm4 _ (List.mem_of_getElem? (i := 12) rfl)
theorem wd123 : Cond.fieldLink RX5 54 "PowerRails$Run" "held" "I" ∈ tbW := tbm4 _ (List.mem_of_getElem? (i := 13) rfl)
theorem wd124 : Cond.fieldLink RX10 169 "PowerRails$Run" "held" "I" ∈ tbW := tbm4 _ (List.mem_of_getElem? (i := 14) rfl)
theorem wd125 : Cond.fieldLink RX5 60 "PowerRails$Run" "tries" "I" ∈ tbW := tbm4 _ (List.mem_of_getElem? (i := 15) rfl)
theorem wd126 : Cond.fieldLink RX10 172 "PowerRails$Run" "tries" "I" ∈ tbW := tbm4 _ (List.mem_of_getElem? (i := 16) rfl)
theorem wd127 : Cond.fieldLink RX5 63 "PowerRails$Run" "trips" "I" ∈ tbW := tbm4 _ (List.mem_of_getElem? (i := 17) rfl)
theorem wd128 : Cond.fieldLink RX10 154 "PowerRails$Run" "trips" "I" ∈ tbW := tbm4 _ (List.mem_of_getElem? (i := 18) rfl)
theorem wd129 : Cond.fieldLink RX5 66 "PowerRails$Run" "latestDraw" "I" ∈ tbW := tbm4 _ (List.mem_of_getElem? (i := 19) rfl)
theorem wd130 : Cond.fieldLink RX10 166 "PowerRails$Run" "latestDraw" "I" ∈ tbW := tbm4 _ (List.mem_of_getElem? (i := 20) rfl)
theorem wd131 : Cond.fieldLink RX5 69 "PowerRails$Run" "greatestDraw" "I" ∈ tbW := tbm4 _ (List.mem_of_getElem? (i := 21) rfl)
theorem wd132 : Cond.fieldLink RX10 175 "PowerRails$Run" "greatestDraw" "I" ∈ tbW := tbm4 _ (List.mem_of_getElem? (i := 22) rfl)
theorem wd133 : Cond.classLink RX10 23 RX0 ∈ tbW := tbm4 _ (List.mem_of_getElem? (i := 23) rfl)
theorem wd134 : Cond.instantiable RX0 9 ∈ tbW := tbm4 _ (List.mem_of_getElem? (i := 24) rfl)
theorem wd135 : Cond.methodLink RX10 25 yX0_init ∈ tbW := tbm4 _ (List.mem_of_getElem? (i := 25) rfl)
theorem wd136 : Cond.instanceMethod yX0_init ∈ tbW := tbm4 _ (List.mem_of_getElem? (i := 26) rfl)
theorem wd137 : Cond.methodLink RX0 3 objectInit ∈ tbW := tbm4 _ (List.mem_of_getElem? (i := 27) rfl)
theorem wd138 : Cond.fieldLink RX0 9 "PowerRails$Course" "waits" "[I" ∈ tbW := tbm4 _ (List.mem_of_getElem? (i := 28) rfl)
theorem wd139 : Cond.fieldLink RX7 33 "PowerRails$Course" "waits" "[I" ∈ tbW := tbm4 _ (List.mem_of_getElem? (i := 29) rfl)
theorem wd140 : Cond.fieldLink RX0 15 "PowerRails$Course" "takes" "[I" ∈ tbW := tbm5 _ (List.mem_of_getElem? (i := 0) rfl)
theorem wd141 : Cond.fieldLink RX9 84 "PowerRails$Course" "takes" "[I" ∈ tbW := tbm5 _ (List.mem_of_getElem? (i := 1) rfl)
theorem wd142 : Cond.fieldLink RX0 18 "PowerRails$Course" "risesAt" "[I" ∈ tbW := tbm5 _ (List.mem_of_getElem? (i := 2) rfl)
theorem wd143 : Cond.fieldLink RX0 21 "PowerRails$Course" "goodAt" "[I" ∈ tbW := tbm5 _ (List.mem_of_getElem? (i := 3) rfl)
theorem wd144 : Cond.fieldLink RX9 46 "PowerRails$Course" "goodAt" "[I" ∈ tbW := tbm5 _ (List.mem_of_getElem? (i := 4) rfl)
theorem wd145 : Cond.fieldLink RX10 227 "PowerRails$Course" "goodAt" "[I" ∈ tbW := tbm5 _ (List.mem_of_getElem? (i := 5) rfl)
theorem wd146 : Cond.fieldLink RX0 24 "PowerRails$Course" "changes" "[I" ∈ tbW := tbm5 _ (List.mem_of_getElem? (i := 6) rfl)
theorem wd147 : Cond.fieldLink RX7 46 "PowerRails$Course" "up" "I" ∈ tbW := tbm5 _ (List.mem_of_getElem? (i := 7) rfl)
theorem wd148 : Cond.fieldLink RX0 43 "PowerRails$Course" "up" "I" ∈ tbW := tbm5 _ (List.mem_of_getElem? (i := 8) rfl)
theorem wd149 : Cond.fieldLink RX7 49 "PowerRails$Course" "last" "I" ∈ tbW := tbm5 _ (List.mem_of_getElem? (i := 9) rfl)
theorem wd150 : Cond.fieldLink RX0 46 "PowerRails$Course" "last" "I" ∈ tbW := tbm5 _ (List.mem_of_getElem? (i := 10) rfl)
theorem wd151 : Cond.fieldLink RX7 61 "PowerRails$Course" "peak" "I" ∈ tbW := tbm5 _ (List.mem_of_getElem? (i := 11) rfl)
theorem wd152 : Cond.fieldLink RX9 62 "PowerRails$Course" "peak" "I" ∈ tbW := tbm5 _ (List.mem_of_getElem? (i := 12) rfl)
theorem wd153 : Cond.fieldLink RX0 70 "PowerRails$Course" "peak" "I" ∈ tbW := tbm5 _ (List.mem_of_getElem? (i := 13) rfl)
theorem wd154 : Cond.fieldLink RX10 253 "PowerRails$Course" "peak" "I" ∈ tbW := tbm5 _ (List.mem_of_getElem? (i := 14) rfl)
theorem wd155 : Cond.fieldLink RX0 73 "PowerRails$Course" "peakTick" "I" ∈ tbW := tbm5 _ (List.mem_of_getElem? (i := 15) rfl)
theorem wd156 : Cond.fieldLink RX10 256 "PowerRails$Course" "peakTick" "I" ∈ tbW := tbm5 _ (List.mem_of_getElem? (i := 16) rfl)
theorem wd157 : Cond.classLink RX10 30 RX9 ∈ tbW := tbm5 _ (List.mem_of_getElem? (i := 17) rfl)
theorem wd158 : Cond.instantiable RX9 6 ∈ tbW := tbm5 _ (List.mem_of_getElem? (i := 18) rfl)
theorem wd159 : Cond.methodLink RX10 32 yX9_init ∈ tbW := tbm5 _ (List.mem_of_getElem? (i := 19) rfl)
theorem wd160 : Cond.instanceMethod yX9_init ∈ tbW := tbm5 _ (List.mem_of_getElem? (i := 20) rfl)
theorem wd161 : Cond.methodLink RX9 3 objectInit ∈ tbW := tbm5 _ (List.mem_of_getElem? (i := 21) rfl)
theorem wd162 : Cond.fieldLink RX9 9 "PowerRails$Ways" "course" "LPowerRails$Course;" ∈ tbW := tbm5 _ (List.mem_of_getElem? (i := 22) rfl)
theorem wd163 : Cond.fieldLink RX9 15 "PowerRails$Ways" "behind" "[I" ∈ tbW := tbm5 _ (List.mem_of_getElem? (i := 23) rfl)
theorem wd164 : Cond.fieldLink RX9 19 "PowerRails$Ways" "behindKnown" "[Z" ∈ tbW := tbm5 _ (List.mem_of_getElem? (i := 24) rfl)
theorem wd165 : Cond.fieldLink RX9 23 "PowerRails$Ways" "peaksKnown" "Z" ∈ tbW := tbm5 _ (List.mem_of_getElem? (i := 25) rfl)
theorem wd166 : Cond.fieldLink RX9 66 "PowerRails$Ways" "greatestPeak" "I" ∈ tbW := tbm5 _ (List.mem_of_getElem? (i := 26) rfl)
theorem wd167 : Cond.fieldLink RX10 244 "PowerRails$Ways" "greatestPeak" "I" ∈ tbW := tbm5 _ (List.mem_of_getElem? (i := 27) rfl)
theorem wd168 : Cond.fieldLink RX9 69 "PowerRails$Ways" "leastPeak" "I" ∈ tbW := tbm5 _ (List.mem_of_getElem? (i := 28) rfl)
theorem wd169 : Cond.fieldLink RX10 247 "PowerRails$Ways" "leastPeak" "I" ∈ tbW := tbm5 _ (List.mem_of_getElem? (i := 29) rfl)
theorem wd170 : Cond.arrayClass .boolean ∈ tbW := tbm6 _ (List.mem_of_getElem? (i := 0) rfl)
theorem wd171 : Cond.classLink RX10 39 RX7 ∈ tbW := tbm6 _ (List.mem_of_getElem? (i := 1) rfl)
theorem wd172 : Cond.instantiable RX7 4 ∈ tbW := tbm6 _ (List.mem_of_getElem? (i := 2) rfl)
theorem wd173 : Cond.methodLink RX10 41 yX7_init ∈ tbW := tbm6 _ (List.mem_of_getElem? (i := 3) rfl)
theorem wd174 : Cond.instanceMethod yX7_init ∈ tbW := tbm6 _ (List.mem_of_getElem? (i := 4) rfl)
theorem wd175 : Cond.methodLink RX7 3 objectInit ∈ tbW := tbm6 _ (List.mem_of_getElem? (i := 5) rfl)
theorem wd176 : Cond.fieldLink RX7 9 "PowerRails$Stagger" "course" "LPowerRails$Course;" ∈ tbW := tbm6 _ (List.mem_of_getElem? (i := 6) rfl)
theorem wd177 : Cond.fieldLink RX7 15 "PowerRails$Stagger" "row" "[I" ∈ tbW := tbm6 _ (List.mem_of_getElem? (i := 7) rfl)
theorem wd178 : Cond.fieldLink RX10 266 "PowerRails$Stagger" "row" "[I" ∈ tbW := tbm6 _ (List.mem_of_getElem? (i := 8) rfl)
theorem wd179 : Cond.fieldLink RX7 19 "PowerRails$Stagger" "known" "Z" ∈ tbW := tbm6 _ (List.mem_of_getElem? (i := 9) rfl)
theorem wd180 : Cond.fieldLink RX10 324 "PowerRails$Stagger" "known" "Z" ∈ tbW := tbm6 _ (List.mem_of_getElem? (i := 10) rfl)
theorem wd181 : Cond.fieldLink RX7 23 "PowerRails$Stagger" "last" "I" ∈ tbW := tbm6 _ (List.mem_of_getElem? (i := 11) rfl)
theorem wd182 : Cond.fieldLink RX10 263 "PowerRails$Stagger" "last" "I" ∈ tbW := tbm6 _ (List.mem_of_getElem? (i := 12) rfl)
theorem wd183 : Cond.classLink RX10 46 RX6 ∈ tbW := tbm6 _ (List.mem_of_getElem? (i := 13) rfl)
theorem wd184 : Cond.instantiable RX6 3 ∈ tbW := tbm6 _ (List.mem_of_getElem? (i := 14) rfl)
theorem wd185 : Cond.methodLink RX10 48 yX6_init ∈ tbW := tbm6 _ (List.mem_of_getElem? (i := 15) rfl)
theorem wd186 : Cond.instanceMethod yX6_init ∈ tbW := tbm6 _ (List.mem_of_getElem? (i := 16) rfl)
theorem wd187 : Cond.methodLink RX6 3 objectInit ∈ tbW := tbm6 _ (List.mem_of_getElem? (i := 17) rfl)
theorem wd188 : Cond.classLink RX6 11 "[[I" ∈ tbW := tbm6 _ (List.mem_of_getElem? (i := 18) rfl)
theorem wd189 : Cond.methodLink RX6 23 yJ7_fill_53178 ∈ tbW := tbm6 _ (List.mem_of_getElem? (i := 19) rfl)
theorem wd190 : Cond.static yJ7_fill_53178 ∈ tbW := tbm6 _ (List.mem_of_getElem? (i := 20) rfl)
theorem wd191 : Cond.fieldLink RX6 13 "PowerRails$Sheets" "cells" "[[I" ∈ tbW := tbm6 _ (List.mem_of_getElem? (i := 21) rfl)
theorem wd192 : Cond.fieldLink RX10 327 "PowerRails$Sheets" "cells" "[[I" ∈ tbW := tbm6 _ (List.mem_of_getElem? (i := 22) rfl)
theorem wd193 : Cond.fieldLink RX6 16 "PowerRails$Sheets" "lanes" "[I" ∈ tbW := tbm6 _ (List.mem_of_getElem? (i := 23) rfl)
theorem wd194 : Cond.fieldLink RX10 311 "PowerRails$Sheets" "lanes" "[I" ∈ tbW := tbm7 _ (List.mem_of_getElem? (i := 0) rfl)
theorem wd195 : Cond.fieldLink RX6 20 "PowerRails$Sheets" "sizes" "[I" ∈ tbW := tbm7 _ (List.mem_of_getElem? (i := 1) rfl)
theorem wd196 : Cond.fieldLink RX10 305 "PowerRails$Sheets" "sizes" "[I" ∈ tbW := tbm7 _ (List.mem_of_getElem? (i := 2) rfl)
theorem wd197 : Cond.classLink RX10 53 RX3 ∈ tbW := tbm7 _ (List.mem_of_getElem? (i := 3) rfl)
theorem wd198 : Cond.instantiable RX3 6 ∈ tbW := tbm7 _ (List.mem_of_getElem? (i := 4) rfl)
theorem wd199 : Cond.methodLink RX10 55 yX3_init ∈ tbW := tbm7 _ (List.mem_of_getElem? (i := 5) rfl)
theorem wd200 : Cond.instanceMethod yX3_init ∈ tbW := tbm7 _ (List.mem_of_getElem? (i := 6) rfl)
theorem wd201 : Cond.methodLink RX3 3 objectInit ∈ tbW := tbm7 _ (List.mem_of_getElem? (i := 7) rfl)
theorem wd202 : Cond.fieldLink RX3 11 "PowerRails$Plan" "numbers" "[I" ∈ tbW := tbm7 _ (List.mem_of_getElem? (i := 8) rfl)
theorem wd203 : Cond.fieldLink RX3 15 "PowerRails$Plan" "tables" "[J" ∈ tbW := tbm7 _ (List.mem_of_getElem? (i := 9) rfl)
theorem wd204 : Cond.fieldLink RX4 182 "PowerRails$Plan" "tables" "[J" ∈ tbW := tbm7 _ (List.mem_of_getElem? (i := 10) rfl)
theorem wd205 : Cond.fieldLink RX3 19 "PowerRails$Plan" "rails" "I" ∈ tbW := tbm7 _ (List.mem_of_getElem? (i := 11) rfl)
theorem wd206 : Cond.fieldLink RX0 27 "PowerRails$Plan" "rails" "I" ∈ tbW := tbm7 _ (List.mem_of_getElem? (i := 12) rfl)
theorem wd207 : Cond.fieldLink RX1 30 "PowerRails$Plan" "rails" "I" ∈ tbW := tbm7 _ (List.mem_of_getElem? (i := 13) rfl)
theorem wd208 : Cond.fieldLink RX9 81 "PowerRails$Plan" "rails" "I" ∈ tbW := tbm7 _ (List.mem_of_getElem? (i := 14) rfl)
theorem wd209 : Cond.fieldLink RX5 106 "PowerRails$Plan" "rails" "I" ∈ tbW := tbm7 _ (List.mem_of_getElem? (i := 15) rfl)
theorem wd210 : Cond.fieldLink RX10 117 "PowerRails$Plan" "rails" "I" ∈ tbW := tbm7 _ (List.mem_of_getElem? (i := 16) rfl)
theorem wd211 : Cond.fieldLink RX4 138 "PowerRails$Plan" "rails" "I" ∈ tbW := tbm7 _ (List.mem_of_getElem? (i := 17) rfl)
theorem wd212 : Cond.fieldLink RX3 23 "PowerRails$Plan" "limit" "I" ∈ tbW := tbm7 _ (List.mem_of_getElem? (i := 18) rfl)
theorem wd213 : Cond.fieldLink RX7 64 "PowerRails$Plan" "limit" "I" ∈ tbW := tbm7 _ (List.mem_of_getElem? (i := 19) rfl)
theorem wd214 : Cond.fieldLink RX10 108 "PowerRails$Plan" "limit" "I" ∈ tbW := tbm7 _ (List.mem_of_getElem? (i := 20) rfl)
theorem wd215 : Cond.fieldLink RX5 125 "PowerRails$Plan" "limit" "I" ∈ tbW := tbm7 _ (List.mem_of_getElem? (i := 21) rfl)
theorem wd216 : Cond.fieldLink RX4 129 "PowerRails$Plan" "limit" "I" ∈ tbW := tbm7 _ (List.mem_of_getElem? (i := 22) rfl)
theorem wd217 : Cond.fieldLink RX3 26 "PowerRails$Plan" "retry" "I" ∈ tbW := tbm7 _ (List.mem_of_getElem? (i := 23) rfl)
theorem wd218 : Cond.fieldLink RX5 57 "PowerRails$Plan" "retry" "I" ∈ tbW := tbm7 _ (List.mem_of_getElem? (i := 24) rfl)
theorem wd219 : Cond.fieldLink RX10 111 "PowerRails$Plan" "retry" "I" ∈ tbW := tbm7 _ (List.mem_of_getElem? (i := 25) rfl)
theorem wd220 : Cond.fieldLink RX4 133 "PowerRails$Plan" "retry" "I" ∈ tbW := tbm7 _ (List.mem_of_getElem? (i := 26) rfl)
theorem wd221 : Cond.fieldLink RX3 29 "PowerRails$Plan" "behind" "I" ∈ tbW := tbm7 _ (List.mem_of_getElem? (i := 27) rfl)
theorem wd222 : Cond.fieldLink RX10 114 "PowerRails$Plan" "behind" "I" ∈ tbW := tbm7 _ (List.mem_of_getElem? (i := 28) rfl)
theorem wd223 : Cond.fieldLink RX5 128 "PowerRails$Plan" "behind" "I" ∈ tbW := tbm7 _ (List.mem_of_getElem? (i := 29) rfl)
theorem wd224 : Cond.fieldLink RX4 135 "PowerRails$Plan" "behind" "I" ∈ tbW := tbm8 _ (List.mem_of_getElem? (i := 0) rfl)
theorem wd225 : Cond.arrayClass .long ∈ tbW := tbm8 _ (List.mem_of_getElem? (i := 1) rfl)
theorem wd226 : Cond.classLink RX10 63 RX4 ∈ tbW := tbm8 _ (List.mem_of_getElem? (i := 2) rfl)
theorem wd227 : Cond.instantiable RX4 13 ∈ tbW := tbm8 _ (List.mem_of_getElem? (i := 3) rfl)
theorem wd228 : Cond.methodLink RX10 65 yX4_init ∈ tbW := tbm8 _ (List.mem_of_getElem? (i := 4) rfl)
theorem wd229 : Cond.instanceMethod yX4_init ∈ tbW := tbm8 _ (List.mem_of_getElem? (i := 5) rfl)
theorem wd230 : Cond.methodLink RX4 3 objectInit ∈ tbW := tbm8 _ (List.mem_of_getElem? (i := 6) rfl)
theorem wd231 : Cond.classLink RX4 25 "[[J" ∈ tbW := tbm8 _ (List.mem_of_getElem? (i := 7) rfl)
theorem wd232 : Cond.fieldLink RX4 9 "PowerRails$Reader" "tape" "LPowerRails$Tape;" ∈ tbW := tbm8 _ (List.mem_of_getElem? (i := 8) rfl)
theorem wd233 : Cond.fieldLink RX4 19 "PowerRails$Reader" "firstUse" "[I" ∈ tbW := tbm8 _ (List.mem_of_getElem? (i := 9) rfl)
theorem wd234 : Cond.fieldLink RX4 27 "PowerRails$Reader" "any" "[[J" ∈ tbW := tbm8 _ (List.mem_of_getElem? (i := 10) rfl)
theorem wd235 : Cond.fieldLink RX4 30 "PowerRails$Reader" "all" "[[J" ∈ tbW := tbm8 _ (List.mem_of_getElem? (i := 11) rfl)
theorem wd236 : Cond.fieldLink RX4 15 "PowerRails$Reader" "plan" "LPowerRails$Plan;" ∈ tbW := tbm8 _ (List.mem_of_getElem? (i := 12) rfl)
theorem wd237 : Cond.fieldLink RX4 36 "PowerRails$Reader" "place" "I" ∈ tbW := tbm8 _ (List.mem_of_getElem? (i := 13) rfl)
theorem wd238 : Cond.fieldLink RX4 60 "PowerRails$Reader" "kind" "I" ∈ tbW := tbm8 _ (List.mem_of_getElem? (i := 14) rfl)
theorem wd239 : Cond.fieldLink RX4 88 "PowerRails$Reader" "from" "I" ∈ tbW := tbm8 _ (List.mem_of_getElem? (i := 15) rfl)
theorem wd240 : Cond.fieldLink RX4 91 "PowerRails$Reader" "value" "I" ∈ tbW := tbm8 _ (List.mem_of_getElem? (i := 16) rfl)
theorem wd241 : Cond.fieldLink RX4 40 "PowerRails$Reader" "told" "I" ∈ tbW := tbm8 _ (List.mem_of_getElem? (i := 17) rfl)
theorem wd242 : Cond.fieldLink RX4 176 "PowerRails$Reader" "depth" "I" ∈ tbW := tbm8 _ (List.mem_of_getElem? (i := 18) rfl)
theorem wd243 : Cond.fieldLink RX4 43 "PowerRails$Reader" "fault" "I" ∈ tbW := tbm8 _ (List.mem_of_getElem? (i := 19) rfl)
theorem wd244 : Cond.fieldLink RX10 87 "PowerRails$Reader" "fault" "I" ∈ tbW := tbm8 _ (List.mem_of_getElem? (i := 20) rfl)
theorem wd245 : Cond.fieldLink RX4 46 "PowerRails$Reader" "faultPlace" "I" ∈ tbW := tbm8 _ (List.mem_of_getElem? (i := 21) rfl)
theorem wd246 : Cond.fieldLink RX10 90 "PowerRails$Reader" "faultPlace" "I" ∈ tbW := tbm8 _ (List.mem_of_getElem? (i := 22) rfl)
theorem wd247 : Cond.fieldLink RX10 10 "PowerRails" "tape" "LPowerRails$Tape;" ∈ tbW := tbm8 _ (List.mem_of_getElem? (i := 23) rfl)
theorem wd248 : Cond.fieldLink RX10 68 "PowerRails" "reader" "LPowerRails$Reader;" ∈ tbW := tbm8 _ (List.mem_of_getElem? (i := 24) rfl)
theorem wd249 : Cond.fieldLink RX10 19 "PowerRails" "run" "LPowerRails$Run;" ∈ tbW := tbm8 _ (List.mem_of_getElem? (i := 25) rfl)
theorem wd250 : Cond.fieldLink RX10 26 "PowerRails" "course" "LPowerRails$Course;" ∈ tbW := tbm8 _ (List.mem_of_getElem? (i := 26) rfl)
theorem wd251 : Cond.fieldLink RX10 35 "PowerRails" "ways" "LPowerRails$Ways;" ∈ tbW := tbm8 _ (List.mem_of_getElem? (i := 27) rfl)
theorem wd252 : Cond.fieldLink RX10 42 "PowerRails" "staggering" "LPowerRails$Stagger;" ∈ tbW := tbm8 _ (List.mem_of_getElem? (i := 28) rfl)
theorem wd253 : Cond.fieldLink RX10 49 "PowerRails" "sheets" "LPowerRails$Sheets;" ∈ tbW := tbm8 _ (List.mem_of_getElem? (i := 29) rfl)
theorem wd254 : Cond.fieldLink RX10 56 "PowerRails" "plan" "LPowerRails$Plan;" ∈ tbW := tbm9 _ (List.mem_of_getElem? (i := 0) rfl)
theorem wd255 : Cond.fieldLink RX10 60 "PowerRails" "spare" "LPowerRails$Plan;" ∈ tbW := tbm9 _ (List.mem_of_getElem? (i := 1) rfl)
theorem wd256 : Cond.fieldLink RX10 72 "PowerRails" "latestFault" "I" ∈ tbW := tbm9 _ (List.mem_of_getElem? (i := 2) rfl)
theorem wd257 : Cond.methodLink RL 15 yX10_feed ∈ tbW := tbm9 _ (List.mem_of_getElem? (i := 3) rfl)
theorem wd258 : Cond.instanceMethod yX10_feed ∈ tbW := tbm9 _ (List.mem_of_getElem? (i := 4) rfl)
theorem wd259 : Cond.selects RX10 yX10_feed yX10_feed ∈ tbW := tbm9 _ (List.mem_of_getElem? (i := 5) rfl)
theorem wd260 : Cond.methodLink RX10 76 yX8_push ∈ tbW := tbm9 _ (List.mem_of_getElem? (i := 6) rfl)
theorem wd261 : Cond.instanceMethod yX8_push ∈ tbW := tbm9 _ (List.mem_of_getElem? (i := 7) rfl)
theorem wd262 : Cond.selects RX8 yX8_push yX8_push ∈ tbW := tbm9 _ (List.mem_of_getElem? (i := 8) rfl)
theorem wd263 : Cond.methodLink RL 20 yX10_end ∈ tbW := tbm9 _ (List.mem_of_getElem? (i := 9) rfl)
theorem wd264 : Cond.instanceMethod yX10_end ∈ tbW := tbm9 _ (List.mem_of_getElem? (i := 10) rfl)
theorem wd265 : Cond.selects RX10 yX10_end yX10_end ∈ tbW := tbm9 _ (List.mem_of_getElem? (i := 11) rfl)
theorem wd266 : Cond.methodLink RL 25 yX10_text ∈ tbW := tbm9 _ (List.mem_of_getElem? (i := 12) rfl)
theorem wd267 : Cond.instanceMethod yX10_text ∈ tbW := tbm9 _ (List.mem_of_getElem? (i := 13) rfl)
theorem wd268 : Cond.selects RX10 yX10_text yX10_text ∈ tbW := tbm9 _ (List.mem_of_getElem? (i := 14) rfl)
theorem wd269 : Cond.methodLink RX10 83 yX4_readText ∈ tbW := tbm9 _ (List.mem_of_getElem? (i := 15) rfl)
theorem wd270 : Cond.instanceMethod yX4_readText ∈ tbW := tbm9 _ (List.mem_of_getElem? (i := 16) rfl)
theorem wd271 : Cond.selects RX4 yX4_readText yX4_readText ∈ tbW := tbm9 _ (List.mem_of_getElem? (i := 17) rfl)
theorem wd272 : Cond.methodLink RX4 33 yX3_reset ∈ tbW := tbm9 _ (List.mem_of_getElem? (i := 18) rfl)
theorem wd273 : Cond.instanceMethod yX3_reset ∈ tbW := tbm9 _ (List.mem_of_getElem? (i := 19) rfl)
theorem wd274 : Cond.selects RX3 yX3_reset yX3_reset ∈ tbW := tbm9 _ (List.mem_of_getElem? (i := 20) rfl)
theorem wd275 : Cond.methodLink RX4 49 yJ7_fill_53178 ∈ tbW := tbm9 _ (List.mem_of_getElem? (i := 21) rfl)
theorem wd276 : Cond.methodLink RX4 55 yX4_step ∈ tbW := tbm9 _ (List.mem_of_getElem? (i := 22) rfl)
theorem wd277 : Cond.instanceMethod yX4_step ∈ tbW := tbm9 _ (List.mem_of_getElem? (i := 23) rfl)
theorem wd278 : Cond.selects RX4 yX4_step yX4_step ∈ tbW := tbm9 _ (List.mem_of_getElem? (i := 24) rfl)
theorem wd279 : Cond.methodLink RX4 94 yX4_skipWithin ∈ tbW := tbm9 _ (List.mem_of_getElem? (i := 25) rfl)
theorem wd280 : Cond.instanceMethod yX4_skipWithin ∈ tbW := tbm9 _ (List.mem_of_getElem? (i := 26) rfl)
theorem wd281 : Cond.selects RX4 yX4_skipWithin yX4_skipWithin ∈ tbW := tbm9 _ (List.mem_of_getElem? (i := 27) rfl)
theorem wd282 : Cond.methodLink RX4 98 yX4_valueNumber ∈ tbW := tbm9 _ (List.mem_of_getElem? (i := 28) rfl)
theorem wd283 : Cond.instanceMethod yX4_valueNumber ∈ tbW := tbm9 _ (List.mem_of_getElem? (i := 29) rfl)
theorem wd284 : Cond.selects RX4 yX4_valueNumber yX4_valueNumber ∈ tbW := tbm10 _ (List.mem_of_getElem? (i := 0) rfl)
theorem wd285 : Cond.methodLink RX4 101 yX4_refuse ∈ tbW := tbm10 _ (List.mem_of_getElem? (i := 1) rfl)
theorem wd286 : Cond.instanceMethod yX4_refuse ∈ tbW := tbm10 _ (List.mem_of_getElem? (i := 2) rfl)
theorem wd287 : Cond.selects RX4 yX4_refuse yX4_refuse ∈ tbW := tbm10 _ (List.mem_of_getElem? (i := 3) rfl)
theorem wd288 : Cond.methodLink RX4 65 yX4_isWord ∈ tbW := tbm10 _ (List.mem_of_getElem? (i := 4) rfl)
theorem wd289 : Cond.instanceMethod yX4_isWord ∈ tbW := tbm10 _ (List.mem_of_getElem? (i := 5) rfl)
theorem wd290 : Cond.selects RX4 yX4_isWord yX4_isWord ∈ tbW := tbm10 _ (List.mem_of_getElem? (i := 6) rfl)
theorem wd291 : Cond.methodLink RX4 104 yJ0_length_8abf5 ∈ tbW := tbm10 _ (List.mem_of_getElem? (i := 7) rfl)
theorem wd292 : Cond.instanceMethod yJ0_length_8abf5 ∈ tbW := tbm10 _ (List.mem_of_getElem? (i := 8) rfl)
theorem wd293 : Cond.selects RJ0 yJ0_length_8abf5 yJ0_length_8abf5 ∈ tbW := tbm10 _ (List.mem_of_getElem? (i := 9) rfl)
theorem wd294 : Cond.methodLink RJ0 335 yJ0_coder_7d493 ∈ tbW := tbm10 _ (List.mem_of_getElem? (i := 10) rfl)
theorem wd295 : Cond.instanceMethod yJ0_coder_7d493 ∈ tbW := tbm10 _ (List.mem_of_getElem? (i := 11) rfl)
theorem wd296 : Cond.selects RJ0 yJ0_coder_7d493 yJ0_coder_7d493 ∈ tbW := tbm10 _ (List.mem_of_getElem? (i := 12) rfl)
theorem wd297 : Cond.fieldLink RJ0 38 "java/lang/String" "COMPACT_STRINGS" "Z" ∈ tbW := tbm10 _ (List.mem_of_getElem? (i := 13) rfl)
theorem wd298 : Cond.methodLink RX4 109 yJ0_charAt_5068e ∈ tbW := tbm10 _ (List.mem_of_getElem? (i := 14) rfl)
theorem wd299 : Cond.instanceMethod yJ0_charAt_5068e ∈ tbW := tbm10 _ (List.mem_of_getElem? (i := 15) rfl)
theorem wd300 : Cond.selects RJ0 yJ0_charAt_5068e yJ0_charAt_5068e ∈ tbW := tbm10 _ (List.mem_of_getElem? (i := 16) rfl)
theorem wd301 : Cond.methodLink RJ0 492 yJ0_isLatin1_aae02 ∈ tbW := tbm10 _ (List.mem_of_getElem? (i := 17) rfl)
theorem wd302 : Cond.instanceMethod yJ0_isLatin1_aae02 ∈ tbW := tbm10 _ (List.mem_of_getElem? (i := 18) rfl)
theorem wd303 : Cond.selects RJ0 yJ0_isLatin1_aae02 yJ0_isLatin1_aae02 ∈ tbW := tbm10 _ (List.mem_of_getElem? (i := 19) rfl)
theorem wd304 : Cond.methodLink RJ0 495 yJ1_charAt_3b067 ∈ tbW := tbm10 _ (List.mem_of_getElem? (i := 20) rfl)
theorem wd305 : Cond.static yJ1_charAt_3b067 ∈ tbW := tbm10 _ (List.mem_of_getElem? (i := 21) rfl)
theorem wd306 : Cond.methodLink RJ1 9 yJ0_checkIndex_df160 ∈ tbW := tbm10 _ (List.mem_of_getElem? (i := 22) rfl)
theorem wd307 : Cond.static yJ0_checkIndex_df160 ∈ tbW := tbm10 _ (List.mem_of_getElem? (i := 23) rfl)
theorem wd308 : Cond.fieldLink RJ0 1053 "jdk/internal/util/Preconditions" "SIOOBE_FORMATTER" "Ljava/util/function/BiFunction;" ∈ tbW := tbm10 _ (List.mem_of_getElem? (i := 24) rfl)
theorem wd309 : Cond.methodLink RJ0 1059 yJ3_checkIndex_8e157 ∈ tbW := tbm10 _ (List.mem_of_getElem? (i := 25) rfl)
theorem wd310 : Cond.static yJ3_checkIndex_8e157 ∈ tbW := tbm10 _ (List.mem_of_getElem? (i := 26) rfl)
theorem wd311 : Cond.methodLink RJ0 498 yJ2_charAt_3b067 ∈ tbW := tbm10 _ (List.mem_of_getElem? (i := 27) rfl)
theorem wd312 : Cond.static yJ2_charAt_3b067 ∈ tbW := tbm10 _ (List.mem_of_getElem? (i := 28) rfl)
theorem wd313 : Cond.methodLink RJ2 67 yJ2_checkIndex_2214a ∈ tbW := tbm10 _ (List.mem_of_getElem? (i := 29) rfl)
theorem wd314 : Cond.static yJ2_checkIndex_2214a ∈ tbW := tbm11 _ (List.mem_of_getElem? (i := 0) rfl)
theorem wd315 : Cond.methodLink RJ2 48 yJ2_length_9d52b ∈ tbW := tbm11 _ (List.mem_of_getElem? (i := 1) rfl)
theorem wd316 : Cond.static yJ2_length_9d52b ∈ tbW := tbm11 _ (List.mem_of_getElem? (i := 2) rfl)
theorem wd317 : Cond.methodLink RJ2 414 yJ0_checkIndex_df160 ∈ tbW := tbm11 _ (List.mem_of_getElem? (i := 3) rfl)
theorem wd318 : Cond.methodLink RJ2 71 yJ2_getChar_3b067 ∈ tbW := tbm11 _ (List.mem_of_getElem? (i := 4) rfl)
theorem wd319 : Cond.static yJ2_getChar_3b067 ∈ tbW := tbm11 _ (List.mem_of_getElem? (i := 5) rfl)
theorem wd320 : Cond.fieldLink RJ2 44 "java/lang/StringUTF16" "$assertionsDisabled" "Z" ∈ tbW := tbm11 _ (List.mem_of_getElem? (i := 6) rfl)
theorem wd321 : Cond.fieldLink RJ2 59 "java/lang/StringUTF16" "HI_BYTE_SHIFT" "I" ∈ tbW := tbm11 _ (List.mem_of_getElem? (i := 7) rfl)
theorem wd322 : Cond.fieldLink RJ2 63 "java/lang/StringUTF16" "LO_BYTE_SHIFT" "I" ∈ tbW := tbm11 _ (List.mem_of_getElem? (i := 8) rfl)
theorem wd323 : Cond.methodLink RX4 69 yX4_readRail ∈ tbW := tbm11 _ (List.mem_of_getElem? (i := 9) rfl)
theorem wd324 : Cond.instanceMethod yX4_readRail ∈ tbW := tbm11 _ (List.mem_of_getElem? (i := 10) rfl)
theorem wd325 : Cond.selects RX4 yX4_readRail yX4_readRail ∈ tbW := tbm11 _ (List.mem_of_getElem? (i := 11) rfl)
theorem wd326 : Cond.methodLink RX4 141 yX3_addRail ∈ tbW := tbm11 _ (List.mem_of_getElem? (i := 12) rfl)
theorem wd327 : Cond.instanceMethod yX3_addRail ∈ tbW := tbm11 _ (List.mem_of_getElem? (i := 13) rfl)
theorem wd328 : Cond.selects RX3 yX3_addRail yX3_addRail ∈ tbW := tbm11 _ (List.mem_of_getElem? (i := 14) rfl)
theorem wd329 : Cond.methodLink RX3 32 yX3_setNumber ∈ tbW := tbm11 _ (List.mem_of_getElem? (i := 15) rfl)
theorem wd330 : Cond.instanceMethod yX3_setNumber ∈ tbW := tbm11 _ (List.mem_of_getElem? (i := 16) rfl)
theorem wd331 : Cond.selects RX3 yX3_setNumber yX3_setNumber ∈ tbW := tbm11 _ (List.mem_of_getElem? (i := 17) rfl)
theorem wd332 : Cond.constantLong RX3 36 (-1) ∈ tbW := tbm12 _ (List.mem_of_getElem? (i := 0) rfl)
theorem wd333 : Cond.methodLink RX4 144 yX4_takeTurn ∈ tbW := tbm12 _ (List.mem_of_getElem? (i := 1) rfl)
theorem wd334 : Cond.instanceMethod yX4_takeTurn ∈ tbW := tbm12 _ (List.mem_of_getElem? (i := 2) rfl)
theorem wd335 : Cond.selects RX4 yX4_takeTurn yX4_takeTurn ∈ tbW := tbm12 _ (List.mem_of_getElem? (i := 3) rfl)
theorem wd336 : Cond.methodLink RX4 117 yX4_railNamed ∈ tbW := tbm12 _ (List.mem_of_getElem? (i := 4) rfl)
theorem wd337 : Cond.instanceMethod yX4_railNamed ∈ tbW := tbm12 _ (List.mem_of_getElem? (i := 5) rfl)
theorem wd338 : Cond.selects RX4 yX4_railNamed yX4_railNamed ∈ tbW := tbm12 _ (List.mem_of_getElem? (i := 6) rfl)
theorem wd339 : Cond.methodLink RX4 125 yX4_takeNumber ∈ tbW := tbm12 _ (List.mem_of_getElem? (i := 7) rfl)
theorem wd340 : Cond.instanceMethod yX4_takeNumber ∈ tbW := tbm12 _ (List.mem_of_getElem? (i := 8) rfl)
theorem wd341 : Cond.selects RX4 yX4_takeNumber yX4_takeNumber ∈ tbW := tbm12 _ (List.mem_of_getElem? (i := 9) rfl)
theorem wd342 : Cond.methodLink RX4 147 yX3_setNumber ∈ tbW := tbm12 _ (List.mem_of_getElem? (i := 10) rfl)
theorem wd343 : Cond.methodLink RX4 153 yX4_readWith ∈ tbW := tbm12 _ (List.mem_of_getElem? (i := 11) rfl)
theorem wd344 : Cond.instanceMethod yX4_readWith ∈ tbW := tbm12 _ (List.mem_of_getElem? (i := 12) rfl)
theorem wd345 : Cond.selects RX4 yX4_readWith yX4_readWith ∈ tbW := tbm12 _ (List.mem_of_getElem? (i := 13) rfl)
theorem wd346 : Cond.methodLink RX4 122 yX4_takeOnce ∈ tbW := tbm12 _ (List.mem_of_getElem? (i := 14) rfl)
theorem wd347 : Cond.instanceMethod yX4_takeOnce ∈ tbW := tbm12 _ (List.mem_of_getElem? (i := 15) rfl)
theorem wd348 : Cond.selects RX4 yX4_takeOnce yX4_takeOnce ∈ tbW := tbm12 _ (List.mem_of_getElem? (i := 16) rfl)
theorem wd349 : Cond.methodLink RX4 156 yX4_readFormula ∈ tbW := tbm12 _ (List.mem_of_getElem? (i := 17) rfl)
theorem wd350 : Cond.instanceMethod yX4_readFormula ∈ tbW := tbm12 _ (List.mem_of_getElem? (i := 18) rfl)
theorem wd351 : Cond.selects RX4 yX4_readFormula yX4_readFormula ∈ tbW := tbm12 _ (List.mem_of_getElem? (i := 19) rfl)
theorem wd352 : Cond.methodLink RX4 167 yX4_openDepth ∈ tbW := tbm12 _ (List.mem_of_getElem? (i := 20) rfl)
theorem wd353 : Cond.instanceMethod yX4_openDepth ∈ tbW := tbm12 _ (List.mem_of_getElem? (i := 21) rfl)
theorem wd354 : Cond.selects RX4 yX4_openDepth yX4_openDepth ∈ tbW := tbm12 _ (List.mem_of_getElem? (i := 22) rfl)
theorem wd355 : Cond.methodLink RX4 200 yJ7_fill_d0a16 ∈ tbW := tbm12 _ (List.mem_of_getElem? (i := 23) rfl)
theorem wd356 : Cond.static yJ7_fill_d0a16 ∈ tbW := tbm12 _ (List.mem_of_getElem? (i := 24) rfl)
theorem wd357 : Cond.constantLong RX4 203 (-1) ∈ tbW := tbm12 _ (List.mem_of_getElem? (i := 25) rfl)
theorem wd358 : Cond.methodLink RX4 170 yX4_takeUnit ∈ tbW := tbm12 _ (List.mem_of_getElem? (i := 26) rfl)
theorem wd359 : Cond.instanceMethod yX4_takeUnit ∈ tbW := tbm12 _ (List.mem_of_getElem? (i := 27) rfl)
theorem wd360 : Cond.selects RX4 yX4_takeUnit yX4_takeUnit ∈ tbW := tbm12 _ (List.mem_of_getElem? (i := 28) rfl)
theorem wd361 : Cond.methodLink RX4 113 yX4_isSign ∈ tbW := tbm12 _ (List.mem_of_getElem? (i := 29) rfl)
theorem wd362 : Cond.instanceMethod yX4_isSign ∈ tbW := tbm13 _ (List.mem_of_getElem? (i := 0) rfl)
theorem wd363 : Cond.selects RX4 yX4_isSign yX4_isSign ∈ tbW := tbm13 _ (List.mem_of_getElem? (i := 1) rfl)
theorem wd364 : Cond.methodLink RX4 194 yX4_joinPart ∈ tbW := tbm13 _ (List.mem_of_getElem? (i := 2) rfl)
theorem wd365 : Cond.instanceMethod yX4_joinPart ∈ tbW := tbm13 _ (List.mem_of_getElem? (i := 3) rfl)
theorem wd366 : Cond.selects RX4 yX4_joinPart yX4_joinPart ∈ tbW := tbm13 _ (List.mem_of_getElem? (i := 4) rfl)
theorem wd367 : Cond.methodLink RX4 205 yX3_number ∈ tbW := tbm13 _ (List.mem_of_getElem? (i := 5) rfl)
theorem wd368 : Cond.instanceMethod yX3_number ∈ tbW := tbm13 _ (List.mem_of_getElem? (i := 6) rfl)
theorem wd369 : Cond.selects RX3 yX3_number yX3_number ∈ tbW := tbm13 _ (List.mem_of_getElem? (i := 7) rfl)
theorem wd370 : Cond.fieldLink RX4 208 "PowerRails$Reader" "IN_WORD" "[J" ∈ tbW := tbm13 _ (List.mem_of_getElem? (i := 8) rfl)
theorem wd371 : Cond.methodLink RX4 197 yX4_noteUse ∈ tbW := tbm13 _ (List.mem_of_getElem? (i := 9) rfl)
theorem wd372 : Cond.instanceMethod yX4_noteUse ∈ tbW := tbm13 _ (List.mem_of_getElem? (i := 10) rfl)
theorem wd373 : Cond.selects RX4 yX4_noteUse yX4_noteUse ∈ tbW := tbm13 _ (List.mem_of_getElem? (i := 11) rfl)
theorem wd374 : Cond.methodLink RX4 173 yX4_joinAny ∈ tbW := tbm13 _ (List.mem_of_getElem? (i := 12) rfl)
theorem wd375 : Cond.instanceMethod yX4_joinAny ∈ tbW := tbm13 _ (List.mem_of_getElem? (i := 13) rfl)
theorem wd376 : Cond.selects RX4 yX4_joinAny yX4_joinAny ∈ tbW := tbm13 _ (List.mem_of_getElem? (i := 14) rfl)
theorem wd377 : Cond.methodLink RX4 179 yX4_closeDepth ∈ tbW := tbm13 _ (List.mem_of_getElem? (i := 15) rfl)
theorem wd378 : Cond.instanceMethod yX4_closeDepth ∈ tbW := tbm13 _ (List.mem_of_getElem? (i := 16) rfl)
theorem wd379 : Cond.selects RX4 yX4_closeDepth yX4_closeDepth ∈ tbW := tbm13 _ (List.mem_of_getElem? (i := 17) rfl)
theorem wd380 : Cond.methodLink RX4 186 arraycopyName ∈ tbW := tbm13 _ (List.mem_of_getElem? (i := 18) rfl)
theorem wd381 : Cond.static arraycopyName ∈ tbW := tbm13 _ (List.mem_of_getElem? (i := 19) rfl)
theorem wd382 : Cond.native arraycopyName ∈ tbW := tbm13 _ (List.mem_of_getElem? (i := 20) rfl)
theorem wd383 : Cond.methodLink RX4 72 yX4_readRule ∈ tbW := tbm13 _ (List.mem_of_getElem? (i := 21) rfl)
theorem wd384 : Cond.instanceMethod yX4_readRule ∈ tbW := tbm13 _ (List.mem_of_getElem? (i := 22) rfl)
theorem wd385 : Cond.selects RX4 yX4_readRule yX4_readRule ∈ tbW := tbm13 _ (List.mem_of_getElem? (i := 23) rfl)
theorem wd386 : Cond.methodLink RX4 75 yX4_takeSign ∈ tbW := tbm13 _ (List.mem_of_getElem? (i := 24) rfl)
theorem wd387 : Cond.instanceMethod yX4_takeSign ∈ tbW := tbm13 _ (List.mem_of_getElem? (i := 25) rfl)
theorem wd388 : Cond.selects RX4 yX4_takeSign yX4_takeSign ∈ tbW := tbm13 _ (List.mem_of_getElem? (i := 26) rfl)
theorem wd389 : Cond.methodLink RX4 79 yX4_findNotTold ∈ tbW := tbm13 _ (List.mem_of_getElem? (i := 27) rfl)
theorem wd390 : Cond.instanceMethod yX4_findNotTold ∈ tbW := tbm13 _ (List.mem_of_getElem? (i := 28) rfl)
theorem wd391 : Cond.selects RX4 yX4_findNotTold yX4_findNotTold ∈ tbW := tbm13 _ (List.mem_of_getElem? (i := 29) rfl)
theorem wd392 : Cond.methodLink RX4 211 Lib.Math.min.name ∈ tbW := tbm14 _ (List.mem_of_getElem? (i := 0) rfl)
theorem wd393 : Cond.static Lib.Math.min.name ∈ tbW := tbm14 _ (List.mem_of_getElem? (i := 1) rfl)
theorem wd394 : Cond.methodLink RX10 93 yX5_reset ∈ tbW := tbm14 _ (List.mem_of_getElem? (i := 2) rfl)
theorem wd395 : Cond.instanceMethod yX5_reset ∈ tbW := tbm14 _ (List.mem_of_getElem? (i := 3) rfl)
theorem wd396 : Cond.selects RX5 yX5_reset yX5_reset ∈ tbW := tbm14 _ (List.mem_of_getElem? (i := 4) rfl)
theorem wd397 : Cond.methodLink RX5 47 yX3_number ∈ tbW := tbm14 _ (List.mem_of_getElem? (i := 5) rfl)
theorem wd398 : Cond.methodLink RX10 97 yX10_forgetReckoned ∈ tbW := tbm14 _ (List.mem_of_getElem? (i := 6) rfl)
theorem wd399 : Cond.instanceMethod yX10_forgetReckoned ∈ tbW := tbm14 _ (List.mem_of_getElem? (i := 7) rfl)
theorem wd400 : Cond.methodLink RX10 321 yX9_forget ∈ tbW := tbm14 _ (List.mem_of_getElem? (i := 8) rfl)
theorem wd401 : Cond.instanceMethod yX9_forget ∈ tbW := tbm14 _ (List.mem_of_getElem? (i := 9) rfl)
theorem wd402 : Cond.selects RX9 yX9_forget yX9_forget ∈ tbW := tbm14 _ (List.mem_of_getElem? (i := 10) rfl)
theorem wd403 : Cond.methodLink RL 30 yX10_fault ∈ tbW := tbm14 _ (List.mem_of_getElem? (i := 11) rfl)
theorem wd404 : Cond.instanceMethod yX10_fault ∈ tbW := tbm14 _ (List.mem_of_getElem? (i := 12) rfl)
theorem wd405 : Cond.selects RX10 yX10_fault yX10_fault ∈ tbW := tbm14 _ (List.mem_of_getElem? (i := 13) rfl)
theorem wd406 : Cond.methodLink RL 34 yX10_rail ∈ tbW := tbm14 _ (List.mem_of_getElem? (i := 14) rfl)
theorem wd407 : Cond.instanceMethod yX10_rail ∈ tbW := tbm14 _ (List.mem_of_getElem? (i := 15) rfl)
theorem wd408 : Cond.selects RX10 yX10_rail yX10_rail ∈ tbW := tbm14 _ (List.mem_of_getElem? (i := 16) rfl)
theorem wd409 : Cond.methodLink RX10 100 yX3_hasRail ∈ tbW := tbm14 _ (List.mem_of_getElem? (i := 17) rfl)
theorem wd410 : Cond.instanceMethod yX3_hasRail ∈ tbW := tbm14 _ (List.mem_of_getElem? (i := 18) rfl)
theorem wd411 : Cond.selects RX3 yX3_hasRail yX3_hasRail ∈ tbW := tbm14 _ (List.mem_of_getElem? (i := 19) rfl)
theorem wd412 : Cond.methodLink RX10 104 yX3_number ∈ tbW := tbm14 _ (List.mem_of_getElem? (i := 20) rfl)
theorem wd413 : Cond.methodLink RL 39 yX10_rule ∈ tbW := tbm14 _ (List.mem_of_getElem? (i := 21) rfl)
theorem wd414 : Cond.instanceMethod yX10_rule ∈ tbW := tbm14 _ (List.mem_of_getElem? (i := 22) rfl)
theorem wd415 : Cond.selects RX10 yX10_rule yX10_rule ∈ tbW := tbm14 _ (List.mem_of_getElem? (i := 23) rfl)
theorem wd416 : Cond.methodLink RL 43 yX10_holds ∈ tbW := tbm14 _ (List.mem_of_getElem? (i := 24) rfl)
theorem wd417 : Cond.instanceMethod yX10_holds ∈ tbW := tbm14 _ (List.mem_of_getElem? (i := 25) rfl)
theorem wd418 : Cond.selects RX10 yX10_holds yX10_holds ∈ tbW := tbm14 _ (List.mem_of_getElem? (i := 26) rfl)
theorem wd419 : Cond.methodLink RX10 120 yX3_allRails ∈ tbW := tbm14 _ (List.mem_of_getElem? (i := 27) rfl)
theorem wd420 : Cond.instanceMethod yX3_allRails ∈ tbW := tbm14 _ (List.mem_of_getElem? (i := 28) rfl)
theorem wd421 : Cond.selects RX3 yX3_allRails yX3_allRails ∈ tbW := tbm14 _ (List.mem_of_getElem? (i := 29) rfl)
theorem wd422 : Cond.methodLink RX10 124 yX3_holdsWith ∈ tbW := tbm15 _ (List.mem_of_getElem? (i := 0) rfl)
theorem wd423 : Cond.instanceMethod yX3_holdsWith ∈ tbW := tbm15 _ (List.mem_of_getElem? (i := 1) rfl)
theorem wd424 : Cond.selects RX3 yX3_holdsWith yX3_holdsWith ∈ tbW := tbm15 _ (List.mem_of_getElem? (i := 2) rfl)
theorem wd425 : Cond.methodLink RX10 128 yX10_asNumber ∈ tbW := tbm15 _ (List.mem_of_getElem? (i := 3) rfl)
theorem wd426 : Cond.static yX10_asNumber ∈ tbW := tbm15 _ (List.mem_of_getElem? (i := 4) rfl)
theorem wd427 : Cond.methodLink RL 47 yX10_words ∈ tbW := tbm15 _ (List.mem_of_getElem? (i := 5) rfl)
theorem wd428 : Cond.instanceMethod yX10_words ∈ tbW := tbm15 _ (List.mem_of_getElem? (i := 6) rfl)
theorem wd429 : Cond.selects RX10 yX10_words yX10_words ∈ tbW := tbm15 _ (List.mem_of_getElem? (i := 7) rfl)
theorem wd430 : Cond.methodLink RX10 132 yX3_countLeastSets ∈ tbW := tbm15 _ (List.mem_of_getElem? (i := 8) rfl)
theorem wd431 : Cond.instanceMethod yX3_countLeastSets ∈ tbW := tbm15 _ (List.mem_of_getElem? (i := 9) rfl)
theorem wd432 : Cond.selects RX3 yX3_countLeastSets yX3_countLeastSets ∈ tbW := tbm15 _ (List.mem_of_getElem? (i := 10) rfl)
theorem wd433 : Cond.methodLink RX3 42 yX3_isLeastSet ∈ tbW := tbm15 _ (List.mem_of_getElem? (i := 11) rfl)
theorem wd434 : Cond.instanceMethod yX3_isLeastSet ∈ tbW := tbm15 _ (List.mem_of_getElem? (i := 12) rfl)
theorem wd435 : Cond.selects RX3 yX3_isLeastSet yX3_isLeastSet ∈ tbW := tbm15 _ (List.mem_of_getElem? (i := 13) rfl)
theorem wd436 : Cond.methodLink RX3 38 yX3_holdsWith ∈ tbW := tbm15 _ (List.mem_of_getElem? (i := 14) rfl)
theorem wd437 : Cond.methodLink RX10 136 yX3_leastSet ∈ tbW := tbm15 _ (List.mem_of_getElem? (i := 15) rfl)
theorem wd438 : Cond.instanceMethod yX3_leastSet ∈ tbW := tbm15 _ (List.mem_of_getElem? (i := 16) rfl)
theorem wd439 : Cond.selects RX3 yX3_leastSet yX3_leastSet ∈ tbW := tbm15 _ (List.mem_of_getElem? (i := 17) rfl)
theorem wd440 : Cond.methodLink RL 51 yX10_key ∈ tbW := tbm15 _ (List.mem_of_getElem? (i := 18) rfl)
theorem wd441 : Cond.instanceMethod yX10_key ∈ tbW := tbm15 _ (List.mem_of_getElem? (i := 19) rfl)
theorem wd442 : Cond.selects RX10 yX10_key yX10_key ∈ tbW := tbm15 _ (List.mem_of_getElem? (i := 20) rfl)
theorem wd443 : Cond.methodLink RX10 143 yX5_turnKey ∈ tbW := tbm15 _ (List.mem_of_getElem? (i := 21) rfl)
theorem wd444 : Cond.instanceMethod yX5_turnKey ∈ tbW := tbm15 _ (List.mem_of_getElem? (i := 22) rfl)
theorem wd445 : Cond.selects RX5 yX5_turnKey yX5_turnKey ∈ tbW := tbm15 _ (List.mem_of_getElem? (i := 23) rfl)
theorem wd446 : Cond.methodLink RL 56 yX10_dead ∈ tbW := tbm15 _ (List.mem_of_getElem? (i := 24) rfl)
theorem wd447 : Cond.instanceMethod yX10_dead ∈ tbW := tbm15 _ (List.mem_of_getElem? (i := 25) rfl)
theorem wd448 : Cond.selects RX10 yX10_dead yX10_dead ∈ tbW := tbm15 _ (List.mem_of_getElem? (i := 26) rfl)
theorem wd449 : Cond.methodLink RL 61 yX10_time ∈ tbW := tbm15 _ (List.mem_of_getElem? (i := 27) rfl)
theorem wd450 : Cond.instanceMethod yX10_time ∈ tbW := tbm15 _ (List.mem_of_getElem? (i := 28) rfl)
theorem wd451 : Cond.selects RX10 yX10_time yX10_time ∈ tbW := tbm15 _ (List.mem_of_getElem? (i := 29) rfl)
theorem wd452 : Cond.methodLink RL 65 yX10_go ∈ tbW := tbm16 _ (List.mem_of_getElem? (i := 0) rfl)
theorem wd453 : Cond.instanceMethod yX10_go ∈ tbW := tbm16 _ (List.mem_of_getElem? (i := 1) rfl)
theorem wd454 : Cond.selects RX10 yX10_go yX10_go ∈ tbW := tbm16 _ (List.mem_of_getElem? (i := 2) rfl)
theorem wd455 : Cond.methodLink RX10 157 yX5_passTick ∈ tbW := tbm16 _ (List.mem_of_getElem? (i := 3) rfl)
theorem wd456 : Cond.instanceMethod yX5_passTick ∈ tbW := tbm16 _ (List.mem_of_getElem? (i := 4) rfl)
theorem wd457 : Cond.selects RX5 yX5_passTick yX5_passTick ∈ tbW := tbm16 _ (List.mem_of_getElem? (i := 5) rfl)
theorem wd458 : Cond.methodLink RX5 72 yX5_settle ∈ tbW := tbm16 _ (List.mem_of_getElem? (i := 6) rfl)
theorem wd459 : Cond.instanceMethod yX5_settle ∈ tbW := tbm16 _ (List.mem_of_getElem? (i := 7) rfl)
theorem wd460 : Cond.selects RX5 yX5_settle yX5_settle ∈ tbW := tbm16 _ (List.mem_of_getElem? (i := 8) rfl)
theorem wd461 : Cond.methodLink RX5 95 yX5_railsThatMay ∈ tbW := tbm16 _ (List.mem_of_getElem? (i := 9) rfl)
theorem wd462 : Cond.instanceMethod yX5_railsThatMay ∈ tbW := tbm16 _ (List.mem_of_getElem? (i := 10) rfl)
theorem wd463 : Cond.selects RX5 yX5_railsThatMay yX5_railsThatMay ∈ tbW := tbm16 _ (List.mem_of_getElem? (i := 11) rfl)
theorem wd464 : Cond.methodLink RX5 102 yX5_railsThatAre ∈ tbW := tbm16 _ (List.mem_of_getElem? (i := 12) rfl)
theorem wd465 : Cond.instanceMethod yX5_railsThatAre ∈ tbW := tbm16 _ (List.mem_of_getElem? (i := 13) rfl)
theorem wd466 : Cond.selects RX5 yX5_railsThatAre yX5_railsThatAre ∈ tbW := tbm16 _ (List.mem_of_getElem? (i := 14) rfl)
theorem wd467 : Cond.methodLink RX5 109 yX3_holdsWith ∈ tbW := tbm16 _ (List.mem_of_getElem? (i := 15) rfl)
theorem wd468 : Cond.methodLink RX5 98 yX5_changeRails ∈ tbW := tbm16 _ (List.mem_of_getElem? (i := 16) rfl)
theorem wd469 : Cond.instanceMethod yX5_changeRails ∈ tbW := tbm16 _ (List.mem_of_getElem? (i := 17) rfl)
theorem wd470 : Cond.selects RX5 yX5_changeRails yX5_changeRails ∈ tbW := tbm16 _ (List.mem_of_getElem? (i := 18) rfl)
theorem wd471 : Cond.methodLink RX5 113 yX5_nextState ∈ tbW := tbm16 _ (List.mem_of_getElem? (i := 19) rfl)
theorem wd472 : Cond.instanceMethod yX5_nextState ∈ tbW := tbm16 _ (List.mem_of_getElem? (i := 20) rfl)
theorem wd473 : Cond.selects RX5 yX5_nextState yX5_nextState ∈ tbW := tbm16 _ (List.mem_of_getElem? (i := 21) rfl)
theorem wd474 : Cond.methodLink RX5 117 yX5_become ∈ tbW := tbm16 _ (List.mem_of_getElem? (i := 22) rfl)
theorem wd475 : Cond.instanceMethod yX5_become ∈ tbW := tbm16 _ (List.mem_of_getElem? (i := 23) rfl)
theorem wd476 : Cond.selects RX5 yX5_become yX5_become ∈ tbW := tbm16 _ (List.mem_of_getElem? (i := 24) rfl)
theorem wd477 : Cond.methodLink RX5 121 yX2_note ∈ tbW := tbm16 _ (List.mem_of_getElem? (i := 25) rfl)
theorem wd478 : Cond.instanceMethod yX2_note ∈ tbW := tbm16 _ (List.mem_of_getElem? (i := 26) rfl)
theorem wd479 : Cond.selects RX2 yX2_note yX2_note ∈ tbW := tbm16 _ (List.mem_of_getElem? (i := 27) rfl)
theorem wd480 : Cond.methodLink RX5 76 yX5_sumDraw ∈ tbW := tbm16 _ (List.mem_of_getElem? (i := 28) rfl)
theorem wd481 : Cond.instanceMethod yX5_sumDraw ∈ tbW := tbm16 _ (List.mem_of_getElem? (i := 29) rfl)
theorem wd482 : Cond.selects RX5 yX5_sumDraw yX5_sumDraw ∈ tbW := tbm17 _ (List.mem_of_getElem? (i := 0) rfl)
theorem wd483 : Cond.methodLink RX5 80 Lib.Math.max.name ∈ tbW := tbm17 _ (List.mem_of_getElem? (i := 1) rfl)
theorem wd484 : Cond.static Lib.Math.max.name ∈ tbW := tbm17 _ (List.mem_of_getElem? (i := 2) rfl)
theorem wd485 : Cond.methodLink RX5 85 yX5_whyTrip ∈ tbW := tbm17 _ (List.mem_of_getElem? (i := 3) rfl)
theorem wd486 : Cond.instanceMethod yX5_whyTrip ∈ tbW := tbm17 _ (List.mem_of_getElem? (i := 4) rfl)
theorem wd487 : Cond.selects RX5 yX5_whyTrip yX5_whyTrip ∈ tbW := tbm17 _ (List.mem_of_getElem? (i := 5) rfl)
theorem wd488 : Cond.methodLink RX5 88 yX5_trip ∈ tbW := tbm17 _ (List.mem_of_getElem? (i := 6) rfl)
theorem wd489 : Cond.instanceMethod yX5_trip ∈ tbW := tbm17 _ (List.mem_of_getElem? (i := 7) rfl)
theorem wd490 : Cond.selects RX5 yX5_trip yX5_trip ∈ tbW := tbm17 _ (List.mem_of_getElem? (i := 8) rfl)
theorem wd491 : Cond.methodLink RX5 92 yX5_growOlder ∈ tbW := tbm17 _ (List.mem_of_getElem? (i := 9) rfl)
theorem wd492 : Cond.instanceMethod yX5_growOlder ∈ tbW := tbm17 _ (List.mem_of_getElem? (i := 10) rfl)
theorem wd493 : Cond.selects RX5 yX5_growOlder yX5_growOlder ∈ tbW := tbm17 _ (List.mem_of_getElem? (i := 11) rfl)
theorem wd494 : Cond.methodLink RL 69 yX10_now ∈ tbW := tbm17 _ (List.mem_of_getElem? (i := 12) rfl)
theorem wd495 : Cond.instanceMethod yX10_now ∈ tbW := tbm17 _ (List.mem_of_getElem? (i := 13) rfl)
theorem wd496 : Cond.selects RX10 yX10_now yX10_now ∈ tbW := tbm17 _ (List.mem_of_getElem? (i := 14) rfl)
theorem wd497 : Cond.methodLink RX10 163 yX5_railsThatAre ∈ tbW := tbm17 _ (List.mem_of_getElem? (i := 15) rfl)
theorem wd498 : Cond.methodLink RL 73 yX10_is ∈ tbW := tbm17 _ (List.mem_of_getElem? (i := 16) rfl)
theorem wd499 : Cond.instanceMethod yX10_is ∈ tbW := tbm17 _ (List.mem_of_getElem? (i := 17) rfl)
theorem wd500 : Cond.selects RX10 yX10_is yX10_is ∈ tbW := tbm17 _ (List.mem_of_getElem? (i := 18) rfl)
theorem wd501 : Cond.methodLink RL 77 yX10_happened ∈ tbW := tbm17 _ (List.mem_of_getElem? (i := 19) rfl)
theorem wd502 : Cond.instanceMethod yX10_happened ∈ tbW := tbm17 _ (List.mem_of_getElem? (i := 20) rfl)
theorem wd503 : Cond.selects RX10 yX10_happened yX10_happened ∈ tbW := tbm17 _ (List.mem_of_getElem? (i := 21) rfl)
theorem wd504 : Cond.methodLink RL 81 yX10_up ∈ tbW := tbm17 _ (List.mem_of_getElem? (i := 22) rfl)
theorem wd505 : Cond.instanceMethod yX10_up ∈ tbW := tbm17 _ (List.mem_of_getElem? (i := 23) rfl)
theorem wd506 : Cond.selects RX10 yX10_up yX10_up ∈ tbW := tbm18 _ (List.mem_of_getElem? (i := 0) rfl)
theorem wd507 : Cond.methodLink RX10 205 yX3_upAmong ∈ tbW := tbm18 _ (List.mem_of_getElem? (i := 1) rfl)
theorem wd508 : Cond.instanceMethod yX3_upAmong ∈ tbW := tbm18 _ (List.mem_of_getElem? (i := 2) rfl)
theorem wd509 : Cond.selects RX3 yX3_upAmong yX3_upAmong ∈ tbW := tbm18 _ (List.mem_of_getElem? (i := 3) rfl)
theorem wd510 : Cond.methodLink RL 85 yX10_when ∈ tbW := tbm18 _ (List.mem_of_getElem? (i := 4) rfl)
theorem wd511 : Cond.instanceMethod yX10_when ∈ tbW := tbm18 _ (List.mem_of_getElem? (i := 5) rfl)
theorem wd512 : Cond.selects RX10 yX10_when yX10_when ∈ tbW := tbm18 _ (List.mem_of_getElem? (i := 6) rfl)
theorem wd513 : Cond.methodLink RX10 208 yX10_followTimes ∈ tbW := tbm18 _ (List.mem_of_getElem? (i := 7) rfl)
theorem wd514 : Cond.instanceMethod yX10_followTimes ∈ tbW := tbm18 _ (List.mem_of_getElem? (i := 8) rfl)
theorem wd515 : Cond.methodLink RX10 211 yX0_setWaits ∈ tbW := tbm18 _ (List.mem_of_getElem? (i := 9) rfl)
theorem wd516 : Cond.instanceMethod yX0_setWaits ∈ tbW := tbm18 _ (List.mem_of_getElem? (i := 10) rfl)
theorem wd517 : Cond.selects RX0 yX0_setWaits yX0_setWaits ∈ tbW := tbm18 _ (List.mem_of_getElem? (i := 11) rfl)
theorem wd518 : Cond.methodLink RX0 33 yX3_number ∈ tbW := tbm18 _ (List.mem_of_getElem? (i := 12) rfl)
theorem wd519 : Cond.methodLink RX10 318 yX0_copyTakes ∈ tbW := tbm18 _ (List.mem_of_getElem? (i := 13) rfl)
theorem wd520 : Cond.instanceMethod yX0_copyTakes ∈ tbW := tbm18 _ (List.mem_of_getElem? (i := 14) rfl)
theorem wd521 : Cond.selects RX0 yX0_copyTakes yX0_copyTakes ∈ tbW := tbm18 _ (List.mem_of_getElem? (i := 15) rfl)
theorem wd522 : Cond.methodLink RX0 37 arraycopyName ∈ tbW := tbm18 _ (List.mem_of_getElem? (i := 16) rfl)
theorem wd523 : Cond.methodLink RX10 218 yX10_alive ∈ tbW := tbm18 _ (List.mem_of_getElem? (i := 17) rfl)
theorem wd524 : Cond.instanceMethod yX10_alive ∈ tbW := tbm18 _ (List.mem_of_getElem? (i := 18) rfl)
theorem wd525 : Cond.methodLink RX10 221 yX0_follow ∈ tbW := tbm18 _ (List.mem_of_getElem? (i := 19) rfl)
theorem wd526 : Cond.instanceMethod yX0_follow ∈ tbW := tbm18 _ (List.mem_of_getElem? (i := 20) rfl)
theorem wd527 : Cond.selects RX0 yX0_follow yX0_follow ∈ tbW := tbm18 _ (List.mem_of_getElem? (i := 21) rfl)
theorem wd528 : Cond.methodLink RX0 49 yX0_begin ∈ tbW := tbm18 _ (List.mem_of_getElem? (i := 22) rfl)
theorem wd529 : Cond.instanceMethod yX0_begin ∈ tbW := tbm18 _ (List.mem_of_getElem? (i := 23) rfl)
theorem wd530 : Cond.selects RX0 yX0_begin yX0_begin ∈ tbW := tbm18 _ (List.mem_of_getElem? (i := 24) rfl)
theorem wd531 : Cond.methodLink RX0 57 yX3_holdsWith ∈ tbW := tbm18 _ (List.mem_of_getElem? (i := 25) rfl)
theorem wd532 : Cond.methodLink RX0 53 yX0_soonest ∈ tbW := tbm18 _ (List.mem_of_getElem? (i := 26) rfl)
theorem wd533 : Cond.instanceMethod yX0_soonest ∈ tbW := tbm18 _ (List.mem_of_getElem? (i := 27) rfl)
theorem wd534 : Cond.selects RX0 yX0_soonest yX0_soonest ∈ tbW := tbm18 _ (List.mem_of_getElem? (i := 28) rfl)
theorem wd535 : Cond.methodLink RX0 61 Lib.Math.min.name ∈ tbW := tbm18 _ (List.mem_of_getElem? (i := 29) rfl)
theorem wd536 : Cond.methodLink RX10 214 yX0_setTakes ∈ tbW := tbm19 _ (List.mem_of_getElem? (i := 0) rfl)
theorem wd537 : Cond.instanceMethod yX0_setTakes ∈ tbW := tbm19 _ (List.mem_of_getElem? (i := 1) rfl)
theorem wd538 : Cond.selects RX0 yX0_setTakes yX0_setTakes ∈ tbW := tbm19 _ (List.mem_of_getElem? (i := 2) rfl)
theorem wd539 : Cond.methodLink RX10 224 yX0_isUp ∈ tbW := tbm19 _ (List.mem_of_getElem? (i := 3) rfl)
theorem wd540 : Cond.instanceMethod yX0_isUp ∈ tbW := tbm19 _ (List.mem_of_getElem? (i := 4) rfl)
theorem wd541 : Cond.selects RX0 yX0_isUp yX0_isUp ∈ tbW := tbm19 _ (List.mem_of_getElem? (i := 5) rfl)
theorem wd542 : Cond.methodLink RL 89 yX10_ahead ∈ tbW := tbm19 _ (List.mem_of_getElem? (i := 6) rfl)
theorem wd543 : Cond.instanceMethod yX10_ahead ∈ tbW := tbm19 _ (List.mem_of_getElem? (i := 7) rfl)
theorem wd544 : Cond.selects RX10 yX10_ahead yX10_ahead ∈ tbW := tbm19 _ (List.mem_of_getElem? (i := 8) rfl)
theorem wd545 : Cond.methodLink RX10 230 yX3_countWays ∈ tbW := tbm19 _ (List.mem_of_getElem? (i := 9) rfl)
theorem wd546 : Cond.instanceMethod yX3_countWays ∈ tbW := tbm19 _ (List.mem_of_getElem? (i := 10) rfl)
theorem wd547 : Cond.selects RX3 yX3_countWays yX3_countWays ∈ tbW := tbm19 _ (List.mem_of_getElem? (i := 11) rfl)
theorem wd548 : Cond.methodLink RX3 45 yX3_number ∈ tbW := tbm19 _ (List.mem_of_getElem? (i := 12) rfl)
theorem wd549 : Cond.methodLink RX10 233 yX9_mostBehind ∈ tbW := tbm19 _ (List.mem_of_getElem? (i := 13) rfl)
theorem wd550 : Cond.instanceMethod yX9_mostBehind ∈ tbW := tbm19 _ (List.mem_of_getElem? (i := 14) rfl)
theorem wd551 : Cond.selects RX9 yX9_mostBehind yX9_mostBehind ∈ tbW := tbm19 _ (List.mem_of_getElem? (i := 15) rfl)
theorem wd552 : Cond.methodLink RX9 27 yX3_sourcesOf ∈ tbW := tbm19 _ (List.mem_of_getElem? (i := 16) rfl)
theorem wd553 : Cond.instanceMethod yX3_sourcesOf ∈ tbW := tbm19 _ (List.mem_of_getElem? (i := 17) rfl)
theorem wd554 : Cond.selects RX3 yX3_sourcesOf yX3_sourcesOf ∈ tbW := tbm19 _ (List.mem_of_getElem? (i := 18) rfl)
theorem wd555 : Cond.methodLink RX3 49 yX3_allRails ∈ tbW := tbm19 _ (List.mem_of_getElem? (i := 19) rfl)
theorem wd556 : Cond.methodLink RX9 33 yX3_upAmong ∈ tbW := tbm19 _ (List.mem_of_getElem? (i := 20) rfl)
theorem wd557 : Cond.methodLink RX9 36 yX9_start ∈ tbW := tbm19 _ (List.mem_of_getElem? (i := 21) rfl)
theorem wd558 : Cond.instanceMethod yX9_start ∈ tbW := tbm19 _ (List.mem_of_getElem? (i := 22) rfl)
theorem wd559 : Cond.selects RX9 yX9_start yX9_start ∈ tbW := tbm19 _ (List.mem_of_getElem? (i := 23) rfl)
theorem wd560 : Cond.methodLink RX9 75 yX0_setWaits ∈ tbW := tbm19 _ (List.mem_of_getElem? (i := 24) rfl)
theorem wd561 : Cond.methodLink RX9 78 yX0_setTakes ∈ tbW := tbm19 _ (List.mem_of_getElem? (i := 25) rfl)
theorem wd562 : Cond.methodLink RX9 42 yX0_follow ∈ tbW := tbm19 _ (List.mem_of_getElem? (i := 26) rfl)
theorem wd563 : Cond.methodLink RX9 49 Lib.Math.max.name ∈ tbW := tbm19 _ (List.mem_of_getElem? (i := 27) rfl)
theorem wd564 : Cond.methodLink RX9 55 yX9_nextWay ∈ tbW := tbm19 _ (List.mem_of_getElem? (i := 28) rfl)
theorem wd565 : Cond.instanceMethod yX9_nextWay ∈ tbW := tbm19 _ (List.mem_of_getElem? (i := 29) rfl)
theorem wd566 : Cond.selects RX9 yX9_nextWay yX9_nextWay ∈ tbW := tbm20 _ (List.mem_of_getElem? (i := 0) rfl)
theorem wd567 : Cond.methodLink RX9 87 yX3_number ∈ tbW := tbm20 _ (List.mem_of_getElem? (i := 1) rfl)
theorem wd568 : Cond.methodLink RL 94 yX10_drawn ∈ tbW := tbm20 _ (List.mem_of_getElem? (i := 2) rfl)
theorem wd569 : Cond.instanceMethod yX10_drawn ∈ tbW := tbm20 _ (List.mem_of_getElem? (i := 3) rfl)
theorem wd570 : Cond.selects RX10 yX10_drawn yX10_drawn ∈ tbW := tbm20 _ (List.mem_of_getElem? (i := 4) rfl)
theorem wd571 : Cond.methodLink RX10 237 yX0_drawnAt ∈ tbW := tbm20 _ (List.mem_of_getElem? (i := 5) rfl)
theorem wd572 : Cond.instanceMethod yX0_drawnAt ∈ tbW := tbm20 _ (List.mem_of_getElem? (i := 6) rfl)
theorem wd573 : Cond.selects RX0 yX0_drawnAt yX0_drawnAt ∈ tbW := tbm20 _ (List.mem_of_getElem? (i := 7) rfl)
theorem wd574 : Cond.methodLink RX0 66 yX0_isUp ∈ tbW := tbm20 _ (List.mem_of_getElem? (i := 8) rfl)
theorem wd575 : Cond.methodLink RL 98 yX10_peak ∈ tbW := tbm20 _ (List.mem_of_getElem? (i := 9) rfl)
theorem wd576 : Cond.instanceMethod yX10_peak ∈ tbW := tbm20 _ (List.mem_of_getElem? (i := 10) rfl)
theorem wd577 : Cond.selects RX10 yX10_peak yX10_peak ∈ tbW := tbm20 _ (List.mem_of_getElem? (i := 11) rfl)
theorem wd578 : Cond.methodLink RX10 241 yX9_findPeaks ∈ tbW := tbm20 _ (List.mem_of_getElem? (i := 12) rfl)
theorem wd579 : Cond.instanceMethod yX9_findPeaks ∈ tbW := tbm20 _ (List.mem_of_getElem? (i := 13) rfl)
theorem wd580 : Cond.selects RX9 yX9_findPeaks yX9_findPeaks ∈ tbW := tbm20 _ (List.mem_of_getElem? (i := 14) rfl)
theorem wd581 : Cond.methodLink RX9 59 yX0_findPeak ∈ tbW := tbm20 _ (List.mem_of_getElem? (i := 15) rfl)
theorem wd582 : Cond.instanceMethod yX0_findPeak ∈ tbW := tbm20 _ (List.mem_of_getElem? (i := 16) rfl)
theorem wd583 : Cond.selects RX0 yX0_findPeak yX0_findPeak ∈ tbW := tbm20 _ (List.mem_of_getElem? (i := 17) rfl)
theorem wd584 : Cond.methodLink RX9 72 Lib.Math.min.name ∈ tbW := tbm20 _ (List.mem_of_getElem? (i := 18) rfl)
theorem wd585 : Cond.methodLink RX10 250 yX0_findPeak ∈ tbW := tbm20 _ (List.mem_of_getElem? (i := 19) rfl)
theorem wd586 : Cond.methodLink RL 102 yX10_stagger ∈ tbW := tbm20 _ (List.mem_of_getElem? (i := 20) rfl)
theorem wd587 : Cond.instanceMethod yX10_stagger ∈ tbW := tbm20 _ (List.mem_of_getElem? (i := 21) rfl)
theorem wd588 : Cond.selects RX10 yX10_stagger yX10_stagger ∈ tbW := tbm20 _ (List.mem_of_getElem? (i := 22) rfl)
theorem wd589 : Cond.methodLink RX10 259 yX7_findRow ∈ tbW := tbm20 _ (List.mem_of_getElem? (i := 23) rfl)
theorem wd590 : Cond.instanceMethod yX7_findRow ∈ tbW := tbm20 _ (List.mem_of_getElem? (i := 24) rfl)
theorem wd591 : Cond.selects RX7 yX7_findRow yX7_findRow ∈ tbW := tbm20 _ (List.mem_of_getElem? (i := 25) rfl)
theorem wd592 : Cond.methodLink RX7 27 yJ7_fill_53178 ∈ tbW := tbm20 _ (List.mem_of_getElem? (i := 26) rfl)
theorem wd593 : Cond.methodLink RX7 38 yX0_copyTakes ∈ tbW := tbm20 _ (List.mem_of_getElem? (i := 27) rfl)
theorem wd594 : Cond.methodLink RX7 42 yX0_follow ∈ tbW := tbm20 _ (List.mem_of_getElem? (i := 28) rfl)
theorem wd595 : Cond.methodLink RX7 50 yX7_keepIfBelowLimit ∈ tbW := tbm20 _ (List.mem_of_getElem? (i := 29) rfl)
theorem wd596 : Cond.instanceMethod yX7_keepIfBelowLimit ∈ tbW := tbm21 _ (List.mem_of_getElem? (i := 0) rfl)
theorem wd597 : Cond.selects RX7 yX7_keepIfBelowLimit yX7_keepIfBelowLimit ∈ tbW := tbm21 _ (List.mem_of_getElem? (i := 1) rfl)
theorem wd598 : Cond.methodLink RX7 58 yX0_findPeak ∈ tbW := tbm21 _ (List.mem_of_getElem? (i := 2) rfl)
theorem wd599 : Cond.methodLink RX7 69 arraycopyName ∈ tbW := tbm21 _ (List.mem_of_getElem? (i := 3) rfl)
theorem wd600 : Cond.methodLink RX7 54 yX7_nextRow ∈ tbW := tbm21 _ (List.mem_of_getElem? (i := 4) rfl)
theorem wd601 : Cond.instanceMethod yX7_nextRow ∈ tbW := tbm21 _ (List.mem_of_getElem? (i := 5) rfl)
theorem wd602 : Cond.selects RX7 yX7_nextRow yX7_nextRow ∈ tbW := tbm21 _ (List.mem_of_getElem? (i := 6) rfl)
theorem wd603 : Cond.methodLink RL 106 yX10_adopt ∈ tbW := tbm21 _ (List.mem_of_getElem? (i := 7) rfl)
theorem wd604 : Cond.instanceMethod yX10_adopt ∈ tbW := tbm21 _ (List.mem_of_getElem? (i := 8) rfl)
theorem wd605 : Cond.selects RX10 yX10_adopt yX10_adopt ∈ tbW := tbm21 _ (List.mem_of_getElem? (i := 9) rfl)
theorem wd606 : Cond.methodLink RX10 269 yX3_setWaits ∈ tbW := tbm21 _ (List.mem_of_getElem? (i := 10) rfl)
theorem wd607 : Cond.instanceMethod yX3_setWaits ∈ tbW := tbm21 _ (List.mem_of_getElem? (i := 11) rfl)
theorem wd608 : Cond.selects RX3 yX3_setWaits yX3_setWaits ∈ tbW := tbm21 _ (List.mem_of_getElem? (i := 12) rfl)
theorem wd609 : Cond.methodLink RL 110 yX10_down ∈ tbW := tbm21 _ (List.mem_of_getElem? (i := 13) rfl)
theorem wd610 : Cond.instanceMethod yX10_down ∈ tbW := tbm21 _ (List.mem_of_getElem? (i := 14) rfl)
theorem wd611 : Cond.selects RX10 yX10_down yX10_down ∈ tbW := tbm21 _ (List.mem_of_getElem? (i := 15) rfl)
theorem wd612 : Cond.methodLink RL 114 yX10_cut ∈ tbW := tbm21 _ (List.mem_of_getElem? (i := 16) rfl)
theorem wd613 : Cond.instanceMethod yX10_cut ∈ tbW := tbm21 _ (List.mem_of_getElem? (i := 17) rfl)
theorem wd614 : Cond.selects RX10 yX10_cut yX10_cut ∈ tbW := tbm21 _ (List.mem_of_getElem? (i := 18) rfl)
theorem wd615 : Cond.methodLink RX10 272 yX10_canBeUp ∈ tbW := tbm21 _ (List.mem_of_getElem? (i := 19) rfl)
theorem wd616 : Cond.instanceMethod yX10_canBeUp ∈ tbW := tbm21 _ (List.mem_of_getElem? (i := 20) rfl)
theorem wd617 : Cond.methodLink RX10 275 yX1_fewestThatCut ∈ tbW := tbm21 _ (List.mem_of_getElem? (i := 21) rfl)
theorem wd618 : Cond.static yX1_fewestThatCut ∈ tbW := tbm21 _ (List.mem_of_getElem? (i := 22) rfl)
theorem wd619 : Cond.methodLink RX1 15 yX3_allRails ∈ tbW := tbm21 _ (List.mem_of_getElem? (i := 23) rfl)
theorem wd620 : Cond.methodLink RX1 19 yJ6_bitCount_0f7a4 ∈ tbW := tbm21 _ (List.mem_of_getElem? (i := 24) rfl)
theorem wd621 : Cond.static yJ6_bitCount_0f7a4 ∈ tbW := tbm21 _ (List.mem_of_getElem? (i := 25) rfl)
theorem wd622 : Cond.constant RJ6 265 (1431655765) ∈ tbW := tbm21 _ (List.mem_of_getElem? (i := 26) rfl)
theorem wd623 : Cond.constant RJ6 266 (858993459) ∈ tbW := tbm21 _ (List.mem_of_getElem? (i := 27) rfl)
theorem wd624 : Cond.constant RJ6 267 (252645135) ∈ tbW := tbm21 _ (List.mem_of_getElem? (i := 28) rfl)
theorem wd625 : Cond.methodLink RX1 24 yX1_isUpAmong ∈ tbW := tbm21 _ (List.mem_of_getElem? (i := 29) rfl)
theorem wd626 : Cond.static yX1_isUpAmong ∈ tbW := tbm22 _ (List.mem_of_getElem? (i := 0) rfl)
theorem wd627 : Cond.methodLink RX1 9 yX3_upAmong ∈ tbW := tbm22 _ (List.mem_of_getElem? (i := 1) rfl)
theorem wd628 : Cond.methodLink RX10 281 yJ6_bitCount_0f7a4 ∈ tbW := tbm22 _ (List.mem_of_getElem? (i := 2) rfl)
theorem wd629 : Cond.methodLink RL 118 yX10_need ∈ tbW := tbm22 _ (List.mem_of_getElem? (i := 3) rfl)
theorem wd630 : Cond.instanceMethod yX10_need ∈ tbW := tbm22 _ (List.mem_of_getElem? (i := 4) rfl)
theorem wd631 : Cond.selects RX10 yX10_need yX10_need ∈ tbW := tbm22 _ (List.mem_of_getElem? (i := 5) rfl)
theorem wd632 : Cond.methodLink RX10 286 yX1_fewestThatDo ∈ tbW := tbm22 _ (List.mem_of_getElem? (i := 6) rfl)
theorem wd633 : Cond.static yX1_fewestThatDo ∈ tbW := tbm22 _ (List.mem_of_getElem? (i := 7) rfl)
theorem wd634 : Cond.methodLink RL 122 yX10_must ∈ tbW := tbm22 _ (List.mem_of_getElem? (i := 8) rfl)
theorem wd635 : Cond.instanceMethod yX10_must ∈ tbW := tbm22 _ (List.mem_of_getElem? (i := 9) rfl)
theorem wd636 : Cond.selects RX10 yX10_must yX10_must ∈ tbW := tbm22 _ (List.mem_of_getElem? (i := 10) rfl)
theorem wd637 : Cond.methodLink RX10 289 yX1_neverWithout ∈ tbW := tbm22 _ (List.mem_of_getElem? (i := 11) rfl)
theorem wd638 : Cond.static yX1_neverWithout ∈ tbW := tbm22 _ (List.mem_of_getElem? (i := 12) rfl)
theorem wd639 : Cond.methodLink RL 126 yX10_seen ∈ tbW := tbm22 _ (List.mem_of_getElem? (i := 13) rfl)
theorem wd640 : Cond.instanceMethod yX10_seen ∈ tbW := tbm22 _ (List.mem_of_getElem? (i := 14) rfl)
theorem wd641 : Cond.selects RX10 yX10_seen yX10_seen ∈ tbW := tbm22 _ (List.mem_of_getElem? (i := 15) rfl)
theorem wd642 : Cond.methodLink RX10 292 yX1_thatExplain ∈ tbW := tbm22 _ (List.mem_of_getElem? (i := 16) rfl)
theorem wd643 : Cond.static yX1_thatExplain ∈ tbW := tbm22 _ (List.mem_of_getElem? (i := 17) rfl)
theorem wd644 : Cond.methodLink RL 130 yX10_sheet ∈ tbW := tbm22 _ (List.mem_of_getElem? (i := 18) rfl)
theorem wd645 : Cond.instanceMethod yX10_sheet ∈ tbW := tbm22 _ (List.mem_of_getElem? (i := 19) rfl)
theorem wd646 : Cond.selects RX10 yX10_sheet yX10_sheet ∈ tbW := tbm22 _ (List.mem_of_getElem? (i := 20) rfl)
theorem wd647 : Cond.methodLink RX10 295 yX6_hasPlace ∈ tbW := tbm22 _ (List.mem_of_getElem? (i := 21) rfl)
theorem wd648 : Cond.static yX6_hasPlace ∈ tbW := tbm22 _ (List.mem_of_getElem? (i := 22) rfl)
theorem wd649 : Cond.methodLink RX10 298 yX6_isLane ∈ tbW := tbm22 _ (List.mem_of_getElem? (i := 23) rfl)
theorem wd650 : Cond.static yX6_isLane ∈ tbW := tbm22 _ (List.mem_of_getElem? (i := 24) rfl)
theorem wd651 : Cond.methodLink RX10 301 yX6_renew ∈ tbW := tbm22 _ (List.mem_of_getElem? (i := 25) rfl)
theorem wd652 : Cond.instanceMethod yX6_renew ∈ tbW := tbm22 _ (List.mem_of_getElem? (i := 26) rfl)
theorem wd653 : Cond.selects RX6 yX6_renew yX6_renew ∈ tbW := tbm22 _ (List.mem_of_getElem? (i := 27) rfl)
theorem wd654 : Cond.methodLink RL 134 yX10_lay ∈ tbW := tbm22 _ (List.mem_of_getElem? (i := 28) rfl)
theorem wd655 : Cond.instanceMethod yX10_lay ∈ tbW := tbm22 _ (List.mem_of_getElem? (i := 29) rfl)
theorem wd656 : Cond.selects RX10 yX10_lay yX10_lay ∈ tbW := tbm23 _ (List.mem_of_getElem? (i := 0) rfl)
theorem wd657 : Cond.methodLink RX10 308 yX6_put ∈ tbW := tbm23 _ (List.mem_of_getElem? (i := 1) rfl)
theorem wd658 : Cond.instanceMethod yX6_put ∈ tbW := tbm23 _ (List.mem_of_getElem? (i := 2) rfl)
theorem wd659 : Cond.selects RX6 yX6_put yX6_put ∈ tbW := tbm23 _ (List.mem_of_getElem? (i := 3) rfl)
theorem wd660 : Cond.methodLink RL 138 yX10_measured ∈ tbW := tbm23 _ (List.mem_of_getElem? (i := 4) rfl)
theorem wd661 : Cond.instanceMethod yX10_measured ∈ tbW := tbm23 _ (List.mem_of_getElem? (i := 5) rfl)
theorem wd662 : Cond.selects RX10 yX10_measured yX10_measured ∈ tbW := tbm23 _ (List.mem_of_getElem? (i := 6) rfl)
theorem wd663 : Cond.methodLink RX10 314 yX10_compareSheet ∈ tbW := tbm23 _ (List.mem_of_getElem? (i := 7) rfl)
theorem wd664 : Cond.instanceMethod yX10_compareSheet ∈ tbW := tbm23 _ (List.mem_of_getElem? (i := 8) rfl)
theorem wd665 : Cond.methodLink RX10 331 Lib.Math.abs.name ∈ tbW := tbm23 _ (List.mem_of_getElem? (i := 9) rfl)
theorem wd666 : Cond.static Lib.Math.abs.name ∈ tbW := tbm23 _ (List.mem_of_getElem? (i := 10) rfl)
theorem wd667 : Cond.methodLink RL 143 yX10_count ∈ tbW := tbm23 _ (List.mem_of_getElem? (i := 11) rfl)
theorem wd668 : Cond.instanceMethod yX10_count ∈ tbW := tbm23 _ (List.mem_of_getElem? (i := 12) rfl)
theorem wd669 : Cond.selects RX10 yX10_count yX10_count ∈ tbW := tbm23 _ (List.mem_of_getElem? (i := 13) rfl)
theorem wd670 : Cond.classLink RL 10 RX11 ∈ tbW := tbm23 _ (List.mem_of_getElem? (i := 14) rfl)
theorem wd671 : Cond.instantiable RX11 59 ∈ tbW := tbm23 _ (List.mem_of_getElem? (i := 15) rfl)
theorem wd672 : Cond.methodLink RL 12 yX11_init ∈ tbW := tbm23 _ (List.mem_of_getElem? (i := 16) rfl)
theorem wd673 : Cond.instanceMethod yX11_init ∈ tbW := tbm23 _ (List.mem_of_getElem? (i := 17) rfl)
theorem wd674 : Cond.methodLink RX11 1 objectInit ∈ tbW := tbm23 _ (List.mem_of_getElem? (i := 18) rfl)
theorem wd675 : Cond.methodLink RX11 92 yX11_firstDraft ∈ tbW := tbm23 _ (List.mem_of_getElem? (i := 19) rfl)
theorem wd676 : Cond.instanceMethod yX11_firstDraft ∈ tbW := tbm23 _ (List.mem_of_getElem? (i := 20) rfl)
theorem wd677 : Cond.methodLink RX11 95 yX11_keepDraft ∈ tbW := tbm23 _ (List.mem_of_getElem? (i := 21) rfl)
theorem wd678 : Cond.instanceMethod yX11_keepDraft ∈ tbW := tbm23 _ (List.mem_of_getElem? (i := 22) rfl)
theorem wd679 : Cond.methodLink RX11 133 yX11_begins ∈ tbW := tbm23 _ (List.mem_of_getElem? (i := 23) rfl)
theorem wd680 : Cond.instanceMethod yX11_begins ∈ tbW := tbm23 _ (List.mem_of_getElem? (i := 24) rfl)
theorem wd681 : Cond.methodLink RX11 251 yX11_of ∈ tbW := tbm23 _ (List.mem_of_getElem? (i := 25) rfl)
theorem wd682 : Cond.instanceMethod yX11_of ∈ tbW := tbm23 _ (List.mem_of_getElem? (i := 26) rfl)
theorem wd683 : Cond.fieldLink RX11 121 "PowerRailsModel" "rails" "I" ∈ tbW := tbm24 _ (List.mem_of_getElem? (i := 0) rfl)
theorem wd684 : Cond.fieldLink RX11 7 "PowerRailsModel" "told" "[I" ∈ tbW := tbm24 _ (List.mem_of_getElem? (i := 1) rfl)
theorem wd685 : Cond.fieldLink RX11 13 "PowerRailsModel" "names" "[I" ∈ tbW := tbm24 _ (List.mem_of_getElem? (i := 2) rfl)
theorem wd686 : Cond.fieldLink RX11 16 "PowerRailsModel" "table" "[Z" ∈ tbW := tbm24 _ (List.mem_of_getElem? (i := 3) rfl)
theorem wd687 : Cond.fieldLink RX11 124 "PowerRailsModel" "limit" "I" ∈ tbW := tbm24 _ (List.mem_of_getElem? (i := 4) rfl)
theorem wd688 : Cond.fieldLink RX11 127 "PowerRailsModel" "retry" "I" ∈ tbW := tbm24 _ (List.mem_of_getElem? (i := 5) rfl)
theorem wd689 : Cond.fieldLink RX11 130 "PowerRailsModel" "pause" "I" ∈ tbW := tbm24 _ (List.mem_of_getElem? (i := 6) rfl)
theorem wd690 : Cond.fieldLink RX11 98 "PowerRailsModel" "dRails" "I" ∈ tbW := tbm24 _ (List.mem_of_getElem? (i := 7) rfl)
theorem wd691 : Cond.fieldLink RX11 20 "PowerRailsModel" "dTold" "[I" ∈ tbW := tbm24 _ (List.mem_of_getElem? (i := 8) rfl)
theorem wd692 : Cond.fieldLink RX11 23 "PowerRailsModel" "dNames" "[I" ∈ tbW := tbm24 _ (List.mem_of_getElem? (i := 9) rfl)
theorem wd693 : Cond.fieldLink RX11 26 "PowerRailsModel" "dTable" "[Z" ∈ tbW := tbm24 _ (List.mem_of_getElem? (i := 10) rfl)
theorem wd694 : Cond.fieldLink RX11 102 "PowerRailsModel" "dLimit" "I" ∈ tbW := tbm24 _ (List.mem_of_getElem? (i := 11) rfl)
theorem wd695 : Cond.fieldLink RX11 105 "PowerRailsModel" "dRetry" "I" ∈ tbW := tbm24 _ (List.mem_of_getElem? (i := 12) rfl)
theorem wd696 : Cond.fieldLink RX11 108 "PowerRailsModel" "dPause" "I" ∈ tbW := tbm24 _ (List.mem_of_getElem? (i := 13) rfl)
theorem wd697 : Cond.fieldLink RX11 111 "PowerRailsModel" "hasLimit" "Z" ∈ tbW := tbm24 _ (List.mem_of_getElem? (i := 14) rfl)
theorem wd698 : Cond.fieldLink RX11 115 "PowerRailsModel" "hasRetry" "Z" ∈ tbW := tbm24 _ (List.mem_of_getElem? (i := 15) rfl)
theorem wd699 : Cond.fieldLink RX11 118 "PowerRailsModel" "used" "I" ∈ tbW := tbm24 _ (List.mem_of_getElem? (i := 16) rfl)
theorem wd700 : Cond.fieldLink RX11 29 "PowerRailsModel" "usedRail" "[I" ∈ tbW := tbm24 _ (List.mem_of_getElem? (i := 17) rfl)
theorem wd701 : Cond.fieldLink RX11 32 "PowerRailsModel" "usedAt" "[I" ∈ tbW := tbm24 _ (List.mem_of_getElem? (i := 18) rfl)
theorem wd702 : Cond.fieldLink RX11 192 "PowerRailsModel" "coded" "I" ∈ tbW := tbm24 _ (List.mem_of_getElem? (i := 19) rfl)
theorem wd703 : Cond.fieldLink RX11 35 "PowerRailsModel" "code" "[I" ∈ tbW := tbm24 _ (List.mem_of_getElem? (i := 20) rfl)
theorem wd704 : Cond.fieldLink RX11 195 "PowerRailsModel" "waiting" "I" ∈ tbW := tbm24 _ (List.mem_of_getElem? (i := 21) rfl)
theorem wd705 : Cond.fieldLink RX11 38 "PowerRailsModel" "wait" "[I" ∈ tbW := tbm24 _ (List.mem_of_getElem? (i := 22) rfl)
theorem wd706 : Cond.fieldLink RX11 198 "PowerRailsModel" "deep" "I" ∈ tbW := tbm24 _ (List.mem_of_getElem? (i := 23) rfl)
theorem wd707 : Cond.fieldLink RX11 41 "PowerRailsModel" "pile" "[Z" ∈ tbW := tbm24 _ (List.mem_of_getElem? (i := 24) rfl)
theorem wd708 : Cond.fieldLink RX11 44 "PowerRailsModel" "tape" "[I" ∈ tbW := tbm24 _ (List.mem_of_getElem? (i := 25) rfl)
theorem wd709 : Cond.fieldLink RX11 136 "PowerRailsModel" "taped" "I" ∈ tbW := tbm24 _ (List.mem_of_getElem? (i := 26) rfl)
theorem wd710 : Cond.fieldLink RX11 154 "PowerRailsModel" "pos" "I" ∈ tbW := tbm24 _ (List.mem_of_getElem? (i := 27) rfl)
theorem wd711 : Cond.fieldLink RX11 148 "PowerRailsModel" "from" "I" ∈ tbW := tbm24 _ (List.mem_of_getElem? (i := 28) rfl)
theorem wd712 : Cond.fieldLink RX11 167 "PowerRailsModel" "sort" "I" ∈ tbW := tbm24 _ (List.mem_of_getElem? (i := 29) rfl)
theorem wd713 : Cond.fieldLink RX11 178 "PowerRailsModel" "value" "I" ∈ tbW := tbm25 _ (List.mem_of_getElem? (i := 0) rfl)
theorem wd714 : Cond.fieldLink RX11 145 "PowerRailsModel" "fault" "I" ∈ tbW := tbm25 _ (List.mem_of_getElem? (i := 1) rfl)
theorem wd715 : Cond.fieldLink RX11 151 "PowerRailsModel" "wrongAt" "I" ∈ tbW := tbm25 _ (List.mem_of_getElem? (i := 2) rfl)
theorem wd716 : Cond.fieldLink RX11 267 "PowerRailsModel" "tick" "I" ∈ tbW := tbm25 _ (List.mem_of_getElem? (i := 3) rfl)
theorem wd717 : Cond.fieldLink RX11 270 "PowerRailsModel" "isOn" "Z" ∈ tbW := tbm25 _ (List.mem_of_getElem? (i := 4) rfl)
theorem wd718 : Cond.fieldLink RX11 47 "PowerRailsModel" "state" "[I" ∈ tbW := tbm25 _ (List.mem_of_getElem? (i := 5) rfl)
theorem wd719 : Cond.fieldLink RX11 50 "PowerRailsModel" "since" "[I" ∈ tbW := tbm25 _ (List.mem_of_getElem? (i := 6) rfl)
theorem wd720 : Cond.fieldLink RX11 53 "PowerRailsModel" "upSince" "[I" ∈ tbW := tbm25 _ (List.mem_of_getElem? (i := 7) rfl)
theorem wd721 : Cond.fieldLink RX11 56 "PowerRailsModel" "isDead" "[Z" ∈ tbW := tbm25 _ (List.mem_of_getElem? (i := 8) rfl)
theorem wd722 : Cond.fieldLink RX11 59 "PowerRailsModel" "takes" "[I" ∈ tbW := tbm25 _ (List.mem_of_getElem? (i := 9) rfl)
theorem wd723 : Cond.fieldLink RX11 62 "PowerRailsModel" "wasGood" "[I" ∈ tbW := tbm25 _ (List.mem_of_getElem? (i := 10) rfl)
theorem wd724 : Cond.fieldLink RX11 273 "PowerRailsModel" "held" "I" ∈ tbW := tbm25 _ (List.mem_of_getElem? (i := 11) rfl)
theorem wd725 : Cond.fieldLink RX11 276 "PowerRailsModel" "tries" "I" ∈ tbW := tbm25 _ (List.mem_of_getElem? (i := 12) rfl)
theorem wd726 : Cond.fieldLink RX11 279 "PowerRailsModel" "drawnNow" "I" ∈ tbW := tbm25 _ (List.mem_of_getElem? (i := 13) rfl)
theorem wd727 : Cond.fieldLink RX11 282 "PowerRailsModel" "drawnMost" "I" ∈ tbW := tbm25 _ (List.mem_of_getElem? (i := 14) rfl)
theorem wd728 : Cond.fieldLink RX11 285 "PowerRailsModel" "trips" "I" ∈ tbW := tbm25 _ (List.mem_of_getElem? (i := 15) rfl)
theorem wd729 : Cond.fieldLink RX11 288 "PowerRailsModel" "happenings" "I" ∈ tbW := tbm25 _ (List.mem_of_getElem? (i := 16) rfl)
theorem wd730 : Cond.fieldLink RX11 65 "PowerRailsModel" "happening" "[I" ∈ tbW := tbm25 _ (List.mem_of_getElem? (i := 17) rfl)
theorem wd731 : Cond.fieldLink RX11 68 "PowerRailsModel" "mayAt" "[I" ∈ tbW := tbm25 _ (List.mem_of_getElem? (i := 18) rfl)
theorem wd732 : Cond.fieldLink RX11 71 "PowerRailsModel" "goodAt" "[I" ∈ tbW := tbm25 _ (List.mem_of_getElem? (i := 19) rfl)
theorem wd733 : Cond.fieldLink RX11 74 "PowerRailsModel" "by" "[I" ∈ tbW := tbm25 _ (List.mem_of_getElem? (i := 20) rfl)
theorem wd734 : Cond.fieldLink RX11 77 "PowerRailsModel" "waits" "[I" ∈ tbW := tbm25 _ (List.mem_of_getElem? (i := 21) rfl)
theorem wd735 : Cond.fieldLink RX11 330 "PowerRailsModel" "upNow" "I" ∈ tbW := tbm25 _ (List.mem_of_getElem? (i := 22) rfl)
theorem wd736 : Cond.fieldLink RX11 353 "PowerRailsModel" "peakAt" "I" ∈ tbW := tbm25 _ (List.mem_of_getElem? (i := 23) rfl)
theorem wd737 : Cond.fieldLink RX11 80 "PowerRailsModel" "bestWaits" "[I" ∈ tbW := tbm25 _ (List.mem_of_getElem? (i := 24) rfl)
theorem wd738 : Cond.fieldLink RX11 361 "PowerRailsModel" "soonest" "I" ∈ tbW := tbm25 _ (List.mem_of_getElem? (i := 25) rfl)
theorem wd739 : Cond.fieldLink RX11 83 "PowerRailsModel" "lanes" "[I" ∈ tbW := tbm25 _ (List.mem_of_getElem? (i := 26) rfl)
theorem wd740 : Cond.fieldLink RX11 86 "PowerRailsModel" "sizes" "[I" ∈ tbW := tbm25 _ (List.mem_of_getElem? (i := 27) rfl)
theorem wd741 : Cond.fieldLink RX11 89 "PowerRailsModel" "cells" "[I" ∈ tbW := tbm25 _ (List.mem_of_getElem? (i := 28) rfl)
theorem wd742 : Cond.methodLink RL 19 yX11_feed ∈ tbW := tbm25 _ (List.mem_of_getElem? (i := 29) rfl)
theorem wd743 : Cond.instanceMethod yX11_feed ∈ tbW := tbm26 _ (List.mem_of_getElem? (i := 0) rfl)
theorem wd744 : Cond.selects RX11 yX11_feed yX11_feed ∈ tbW := tbm26 _ (List.mem_of_getElem? (i := 1) rfl)
theorem wd745 : Cond.constantLong RX11 139 (255) ∈ tbW := tbm26 _ (List.mem_of_getElem? (i := 2) rfl)
theorem wd746 : Cond.methodLink RL 24 yX11_end ∈ tbW := tbm26 _ (List.mem_of_getElem? (i := 3) rfl)
theorem wd747 : Cond.instanceMethod yX11_end ∈ tbW := tbm26 _ (List.mem_of_getElem? (i := 4) rfl)
theorem wd748 : Cond.selects RX11 yX11_end yX11_end ∈ tbW := tbm26 _ (List.mem_of_getElem? (i := 5) rfl)
theorem wd749 : Cond.methodLink RX11 141 yX11_in ∈ tbW := tbm26 _ (List.mem_of_getElem? (i := 6) rfl)
theorem wd750 : Cond.static yX11_in ∈ tbW := tbm26 _ (List.mem_of_getElem? (i := 7) rfl)
theorem wd751 : Cond.methodLink RL 29 yX11_text ∈ tbW := tbm26 _ (List.mem_of_getElem? (i := 8) rfl)
theorem wd752 : Cond.instanceMethod yX11_text ∈ tbW := tbm26 _ (List.mem_of_getElem? (i := 9) rfl)
theorem wd753 : Cond.selects RX11 yX11_text yX11_text ∈ tbW := tbm26 _ (List.mem_of_getElem? (i := 10) rfl)
theorem wd754 : Cond.methodLink RX11 185 yX11_next ∈ tbW := tbm26 _ (List.mem_of_getElem? (i := 11) rfl)
theorem wd755 : Cond.instanceMethod yX11_next ∈ tbW := tbm26 _ (List.mem_of_getElem? (i := 12) rfl)
theorem wd756 : Cond.methodLink RX11 157 yX11_look ∈ tbW := tbm26 _ (List.mem_of_getElem? (i := 13) rfl)
theorem wd757 : Cond.instanceMethod yX11_look ∈ tbW := tbm26 _ (List.mem_of_getElem? (i := 14) rfl)
theorem wd758 : Cond.constantLong RX11 170 (97) ∈ tbW := tbm26 _ (List.mem_of_getElem? (i := 15) rfl)
theorem wd759 : Cond.constantLong RX11 172 (122) ∈ tbW := tbm26 _ (List.mem_of_getElem? (i := 16) rfl)
theorem wd760 : Cond.constantLong RX11 174 (48) ∈ tbW := tbm26 _ (List.mem_of_getElem? (i := 17) rfl)
theorem wd761 : Cond.constantLong RX11 176 (57) ∈ tbW := tbm26 _ (List.mem_of_getElem? (i := 18) rfl)
theorem wd762 : Cond.methodLink RX11 181 yX11_wants ∈ tbW := tbm26 _ (List.mem_of_getElem? (i := 19) rfl)
theorem wd763 : Cond.instanceMethod yX11_wants ∈ tbW := tbm26 _ (List.mem_of_getElem? (i := 20) rfl)
theorem wd764 : Cond.methodLink RX11 245 yX11_readLine ∈ tbW := tbm26 _ (List.mem_of_getElem? (i := 21) rfl)
theorem wd765 : Cond.instanceMethod yX11_readLine ∈ tbW := tbm26 _ (List.mem_of_getElem? (i := 22) rfl)
theorem wd766 : Cond.methodLink RX11 188 yX11_nameNow ∈ tbW := tbm26 _ (List.mem_of_getElem? (i := 23) rfl)
theorem wd767 : Cond.instanceMethod yX11_nameNow ∈ tbW := tbm26 _ (List.mem_of_getElem? (i := 24) rfl)
theorem wd768 : Cond.constantLong RX11 161 (7) ∈ tbW := tbm26 _ (List.mem_of_getElem? (i := 25) rfl)
theorem wd769 : Cond.methodLink RX11 163 yX11_is ∈ tbW := tbm26 _ (List.mem_of_getElem? (i := 26) rfl)
theorem wd770 : Cond.instanceMethod yX11_is ∈ tbW := tbm26 _ (List.mem_of_getElem? (i := 27) rfl)
theorem wd771 : Cond.constantLong RX11 238 (20) ∈ tbW := tbm26 _ (List.mem_of_getElem? (i := 28) rfl)
theorem wd772 : Cond.constantLong RX11 240 (22) ∈ tbW := tbm26 _ (List.mem_of_getElem? (i := 29) rfl)
theorem wd773 : Cond.methodLink RX11 242 yX11_readRail ∈ tbW := tbm27 _ (List.mem_of_getElem? (i := 0) rfl)
theorem wd774 : Cond.instanceMethod yX11_readRail ∈ tbW := tbm27 _ (List.mem_of_getElem? (i := 1) rfl)
theorem wd775 : Cond.methodLink RX11 218 yX11_readNumber ∈ tbW := tbm27 _ (List.mem_of_getElem? (i := 2) rfl)
theorem wd776 : Cond.instanceMethod yX11_readNumber ∈ tbW := tbm27 _ (List.mem_of_getElem? (i := 3) rfl)
theorem wd777 : Cond.constantLong RX11 222 (23) ∈ tbW := tbm27 _ (List.mem_of_getElem? (i := 4) rfl)
theorem wd778 : Cond.constantLong RX11 224 (26) ∈ tbW := tbm27 _ (List.mem_of_getElem? (i := 5) rfl)
theorem wd779 : Cond.methodLink RX11 226 yX11_readWith ∈ tbW := tbm27 _ (List.mem_of_getElem? (i := 6) rfl)
theorem wd780 : Cond.instanceMethod yX11_readWith ∈ tbW := tbm27 _ (List.mem_of_getElem? (i := 7) rfl)
theorem wd781 : Cond.methodLink RX11 229 yX11_readWhen ∈ tbW := tbm28 _ (List.mem_of_getElem? (i := 0) rfl)
theorem wd782 : Cond.instanceMethod yX11_readWhen ∈ tbW := tbm28 _ (List.mem_of_getElem? (i := 1) rfl)
theorem wd783 : Cond.methodLink RX11 232 yX11_readFormula ∈ tbW := tbm28 _ (List.mem_of_getElem? (i := 2) rfl)
theorem wd784 : Cond.instanceMethod yX11_readFormula ∈ tbW := tbm28 _ (List.mem_of_getElem? (i := 3) rfl)
theorem wd785 : Cond.methodLink RX11 211 yX11_readUnit ∈ tbW := tbm28 _ (List.mem_of_getElem? (i := 4) rfl)
theorem wd786 : Cond.instanceMethod yX11_readUnit ∈ tbW := tbm28 _ (List.mem_of_getElem? (i := 5) rfl)
theorem wd787 : Cond.methodLink RX11 201 yX11_holdsBack ∈ tbW := tbm28 _ (List.mem_of_getElem? (i := 6) rfl)
theorem wd788 : Cond.instanceMethod yX11_holdsBack ∈ tbW := tbm28 _ (List.mem_of_getElem? (i := 7) rfl)
theorem wd789 : Cond.methodLink RX11 205 yX11_readLetter ∈ tbW := tbm28 _ (List.mem_of_getElem? (i := 8) rfl)
theorem wd790 : Cond.instanceMethod yX11_readLetter ∈ tbW := tbm28 _ (List.mem_of_getElem? (i := 9) rfl)
theorem wd791 : Cond.methodLink RX11 208 yX11_done ∈ tbW := tbm28 _ (List.mem_of_getElem? (i := 10) rfl)
theorem wd792 : Cond.instanceMethod yX11_done ∈ tbW := tbm28 _ (List.mem_of_getElem? (i := 11) rfl)
theorem wd793 : Cond.methodLink RX11 235 yX11_keepFormula ∈ tbW := tbm28 _ (List.mem_of_getElem? (i := 12) rfl)
theorem wd794 : Cond.instanceMethod yX11_keepFormula ∈ tbW := tbm28 _ (List.mem_of_getElem? (i := 13) rfl)
theorem wd795 : Cond.methodLink RX11 214 yX11_worth ∈ tbW := tbm28 _ (List.mem_of_getElem? (i := 14) rfl)
theorem wd796 : Cond.instanceMethod yX11_worth ∈ tbW := tbm28 _ (List.mem_of_getElem? (i := 15) rfl)
theorem wd797 : Cond.methodLink RL 33 yX11_fault ∈ tbW := tbm28 _ (List.mem_of_getElem? (i := 16) rfl)
theorem wd798 : Cond.instanceMethod yX11_fault ∈ tbW := tbm28 _ (List.mem_of_getElem? (i := 17) rfl)
theorem wd799 : Cond.selects RX11 yX11_fault yX11_fault ∈ tbW := tbm28 _ (List.mem_of_getElem? (i := 18) rfl)
theorem wd800 : Cond.methodLink RL 38 yX11_rail ∈ tbW := tbm28 _ (List.mem_of_getElem? (i := 19) rfl)
theorem wd801 : Cond.instanceMethod yX11_rail ∈ tbW := tbm28 _ (List.mem_of_getElem? (i := 20) rfl)
theorem wd802 : Cond.selects RX11 yX11_rail yX11_rail ∈ tbW := tbm28 _ (List.mem_of_getElem? (i := 21) rfl)
theorem wd803 : Cond.methodLink RX11 248 yX11_isRail ∈ tbW := tbm28 _ (List.mem_of_getElem? (i := 22) rfl)
theorem wd804 : Cond.instanceMethod yX11_isRail ∈ tbW := tbm28 _ (List.mem_of_getElem? (i := 23) rfl)
theorem wd805 : Cond.methodLink RL 42 yX11_rule ∈ tbW := tbm28 _ (List.mem_of_getElem? (i := 24) rfl)
theorem wd806 : Cond.instanceMethod yX11_rule ∈ tbW := tbm28 _ (List.mem_of_getElem? (i := 25) rfl)
theorem wd807 : Cond.selects RX11 yX11_rule yX11_rule ∈ tbW := tbm28 _ (List.mem_of_getElem? (i := 26) rfl)
theorem wd808 : Cond.methodLink RL 46 yX11_holds ∈ tbW := tbm28 _ (List.mem_of_getElem? (i := 27) rfl)
theorem wd809 : Cond.instanceMethod yX11_holds ∈ tbW := tbm28 _ (List.mem_of_getElem? (i := 28) rfl)
theorem wd810 : Cond.selects RX11 yX11_holds yX11_holds ∈ tbW := tbm28 _ (List.mem_of_getElem? (i := 29) rfl)
theorem wd811 : Cond.constantLong RX11 254 (511) ∈ tbW := tbm29 _ (List.mem_of_getElem? (i := 0) rfl)
theorem wd812 : Cond.methodLink RX11 256 yX11_isSo ∈ tbW := tbm29 _ (List.mem_of_getElem? (i := 1) rfl)
theorem wd813 : Cond.instanceMethod yX11_isSo ∈ tbW := tbm29 _ (List.mem_of_getElem? (i := 2) rfl)
theorem wd814 : Cond.methodLink RX11 260 yX11_flag ∈ tbW := tbm29 _ (List.mem_of_getElem? (i := 3) rfl)
theorem wd815 : Cond.static yX11_flag ∈ tbW := tbm29 _ (List.mem_of_getElem? (i := 4) rfl)
theorem wd816 : Cond.methodLink RL 50 yX11_words ∈ tbW := tbm29 _ (List.mem_of_getElem? (i := 5) rfl)
theorem wd817 : Cond.instanceMethod yX11_words ∈ tbW := tbm29 _ (List.mem_of_getElem? (i := 6) rfl)
theorem wd818 : Cond.selects RX11 yX11_words yX11_words ∈ tbW := tbm29 _ (List.mem_of_getElem? (i := 7) rfl)
theorem wd819 : Cond.methodLink RX11 264 yX11_isLeast ∈ tbW := tbm29 _ (List.mem_of_getElem? (i := 8) rfl)
theorem wd820 : Cond.instanceMethod yX11_isLeast ∈ tbW := tbm29 _ (List.mem_of_getElem? (i := 9) rfl)
theorem wd821 : Cond.methodLink RL 55 yX11_key ∈ tbW := tbm29 _ (List.mem_of_getElem? (i := 10) rfl)
theorem wd822 : Cond.instanceMethod yX11_key ∈ tbW := tbm29 _ (List.mem_of_getElem? (i := 11) rfl)
theorem wd823 : Cond.selects RX11 yX11_key yX11_key ∈ tbW := tbm29 _ (List.mem_of_getElem? (i := 12) rfl)
theorem wd824 : Cond.methodLink RL 60 yX11_dead ∈ tbW := tbm29 _ (List.mem_of_getElem? (i := 13) rfl)
theorem wd825 : Cond.instanceMethod yX11_dead ∈ tbW := tbm29 _ (List.mem_of_getElem? (i := 14) rfl)
theorem wd826 : Cond.selects RX11 yX11_dead yX11_dead ∈ tbW := tbm29 _ (List.mem_of_getElem? (i := 15) rfl)
theorem wd827 : Cond.methodLink RL 64 yX11_time ∈ tbW := tbm29 _ (List.mem_of_getElem? (i := 16) rfl)
theorem wd828 : Cond.instanceMethod yX11_time ∈ tbW := tbm29 _ (List.mem_of_getElem? (i := 17) rfl)
theorem wd829 : Cond.selects RX11 yX11_time yX11_time ∈ tbW := tbm29 _ (List.mem_of_getElem? (i := 18) rfl)
theorem wd830 : Cond.methodLink RL 68 yX11_go ∈ tbW := tbm29 _ (List.mem_of_getElem? (i := 19) rfl)
theorem wd831 : Cond.instanceMethod yX11_go ∈ tbW := tbm29 _ (List.mem_of_getElem? (i := 20) rfl)
theorem wd832 : Cond.selects RX11 yX11_go yX11_go ∈ tbW := tbm29 _ (List.mem_of_getElem? (i := 21) rfl)
theorem wd833 : Cond.constantLong RX11 315 (999) ∈ tbW := tbm29 _ (List.mem_of_getElem? (i := 22) rfl)
theorem wd834 : Cond.methodLink RX11 317 yX11_aTick ∈ tbW := tbm29 _ (List.mem_of_getElem? (i := 23) rfl)
theorem wd835 : Cond.instanceMethod yX11_aTick ∈ tbW := tbm29 _ (List.mem_of_getElem? (i := 24) rfl)
theorem wd836 : Cond.methodLink RX11 306 yX11_settles ∈ tbW := tbm29 _ (List.mem_of_getElem? (i := 25) rfl)
theorem wd837 : Cond.instanceMethod yX11_settles ∈ tbW := tbm29 _ (List.mem_of_getElem? (i := 26) rfl)
theorem wd838 : Cond.methodLink RX11 302 yX11_round ∈ tbW := tbm29 _ (List.mem_of_getElem? (i := 27) rfl)
theorem wd839 : Cond.instanceMethod yX11_round ∈ tbW := tbm29 _ (List.mem_of_getElem? (i := 28) rfl)
theorem wd840 : Cond.methodLink RX11 291 yX11_allIn ∈ tbW := tbm29 _ (List.mem_of_getElem? (i := 29) rfl)
theorem wd841 : Cond.instanceMethod yX11_allIn ∈ tbW := tbm30 _ (List.mem_of_getElem? (i := 0) rfl)
theorem wd842 : Cond.methodLink RX11 294 yX11_becomes ∈ tbW := tbm30 _ (List.mem_of_getElem? (i := 1) rfl)
theorem wd843 : Cond.instanceMethod yX11_becomes ∈ tbW := tbm30 _ (List.mem_of_getElem? (i := 2) rfl)
theorem wd844 : Cond.methodLink RX11 298 yX11_happens ∈ tbW := tbm30 _ (List.mem_of_getElem? (i := 3) rfl)
theorem wd845 : Cond.instanceMethod yX11_happens ∈ tbW := tbm30 _ (List.mem_of_getElem? (i := 4) rfl)
theorem wd846 : Cond.methodLink RX11 309 yX11_drawnOf ∈ tbW := tbm30 _ (List.mem_of_getElem? (i := 5) rfl)
theorem wd847 : Cond.instanceMethod yX11_drawnOf ∈ tbW := tbm30 _ (List.mem_of_getElem? (i := 6) rfl)
theorem wd848 : Cond.methodLink RX11 312 yX11_tripNow ∈ tbW := tbm30 _ (List.mem_of_getElem? (i := 7) rfl)
theorem wd849 : Cond.instanceMethod yX11_tripNow ∈ tbW := tbm30 _ (List.mem_of_getElem? (i := 8) rfl)
theorem wd850 : Cond.methodLink RL 72 yX11_now ∈ tbW := tbm30 _ (List.mem_of_getElem? (i := 9) rfl)
theorem wd851 : Cond.instanceMethod yX11_now ∈ tbW := tbm30 _ (List.mem_of_getElem? (i := 10) rfl)
theorem wd852 : Cond.selects RX11 yX11_now yX11_now ∈ tbW := tbm30 _ (List.mem_of_getElem? (i := 11) rfl)
theorem wd853 : Cond.methodLink RL 76 yX11_is_ ∈ tbW := tbm30 _ (List.mem_of_getElem? (i := 12) rfl)
theorem wd854 : Cond.instanceMethod yX11_is_ ∈ tbW := tbm30 _ (List.mem_of_getElem? (i := 13) rfl)
theorem wd855 : Cond.selects RX11 yX11_is_ yX11_is_ ∈ tbW := tbm30 _ (List.mem_of_getElem? (i := 14) rfl)
theorem wd856 : Cond.constantLong RX11 320 (4) ∈ tbW := tbm30 _ (List.mem_of_getElem? (i := 15) rfl)
theorem wd857 : Cond.methodLink RL 80 yX11_happened ∈ tbW := tbm30 _ (List.mem_of_getElem? (i := 16) rfl)
theorem wd858 : Cond.instanceMethod yX11_happened ∈ tbW := tbm30 _ (List.mem_of_getElem? (i := 17) rfl)
theorem wd859 : Cond.selects RX11 yX11_happened yX11_happened ∈ tbW := tbm30 _ (List.mem_of_getElem? (i := 18) rfl)
theorem wd860 : Cond.constantLong RX11 322 (2) ∈ tbW := tbm30 _ (List.mem_of_getElem? (i := 19) rfl)
theorem wd861 : Cond.methodLink RL 84 yX11_up ∈ tbW := tbm30 _ (List.mem_of_getElem? (i := 20) rfl)
theorem wd862 : Cond.instanceMethod yX11_up ∈ tbW := tbm30 _ (List.mem_of_getElem? (i := 21) rfl)
theorem wd863 : Cond.selects RX11 yX11_up yX11_up ∈ tbW := tbm30 _ (List.mem_of_getElem? (i := 22) rfl)
theorem wd864 : Cond.methodLink RX11 324 yX11_deadOnes ∈ tbW := tbm30 _ (List.mem_of_getElem? (i := 23) rfl)
theorem wd865 : Cond.instanceMethod yX11_deadOnes ∈ tbW := tbm30 _ (List.mem_of_getElem? (i := 24) rfl)
theorem wd866 : Cond.methodLink RX11 327 yX11_upBut ∈ tbW := tbm30 _ (List.mem_of_getElem? (i := 25) rfl)
theorem wd867 : Cond.instanceMethod yX11_upBut ∈ tbW := tbm30 _ (List.mem_of_getElem? (i := 26) rfl)
theorem wd868 : Cond.methodLink RL 88 yX11_when ∈ tbW := tbm30 _ (List.mem_of_getElem? (i := 27) rfl)
theorem wd869 : Cond.instanceMethod yX11_when ∈ tbW := tbm30 _ (List.mem_of_getElem? (i := 28) rfl)
theorem wd870 : Cond.selects RX11 yX11_when yX11_when ∈ tbW := tbm30 _ (List.mem_of_getElem? (i := 29) rfl)
theorem wd871 : Cond.methodLink RX11 334 yX11_setWaits ∈ tbW := tbm31 _ (List.mem_of_getElem? (i := 0) rfl)
theorem wd872 : Cond.instanceMethod yX11_setWaits ∈ tbW := tbm31 _ (List.mem_of_getElem? (i := 1) rfl)
theorem wd873 : Cond.methodLink RX11 337 yX11_setTimes ∈ tbW := tbm31 _ (List.mem_of_getElem? (i := 2) rfl)
theorem wd874 : Cond.instanceMethod yX11_setTimes ∈ tbW := tbm31 _ (List.mem_of_getElem? (i := 3) rfl)
theorem wd875 : Cond.methodLink RX11 340 yX11_findTimes ∈ tbW := tbm31 _ (List.mem_of_getElem? (i := 4) rfl)
theorem wd876 : Cond.instanceMethod yX11_findTimes ∈ tbW := tbm31 _ (List.mem_of_getElem? (i := 5) rfl)
theorem wd877 : Cond.constant RX11 333 (100000) ∈ tbW := tbm31 _ (List.mem_of_getElem? (i := 6) rfl)
theorem wd878 : Cond.methodLink RL 93 yX11_ahead ∈ tbW := tbm31 _ (List.mem_of_getElem? (i := 7) rfl)
theorem wd879 : Cond.instanceMethod yX11_ahead ∈ tbW := tbm31 _ (List.mem_of_getElem? (i := 8) rfl)
theorem wd880 : Cond.selects RX11 yX11_ahead yX11_ahead ∈ tbW := tbm31 _ (List.mem_of_getElem? (i := 9) rfl)
theorem wd881 : Cond.methodLink RX11 343 yX11_ways ∈ tbW := tbm31 _ (List.mem_of_getElem? (i := 10) rfl)
theorem wd882 : Cond.instanceMethod yX11_ways ∈ tbW := tbm31 _ (List.mem_of_getElem? (i := 11) rfl)
theorem wd883 : Cond.constant RX11 346 (-100000) ∈ tbW := tbm31 _ (List.mem_of_getElem? (i := 12) rfl)
theorem wd884 : Cond.methodLink RX11 347 yX11_goesOn ∈ tbW := tbm31 _ (List.mem_of_getElem? (i := 13) rfl)
theorem wd885 : Cond.instanceMethod yX11_goesOn ∈ tbW := tbm31 _ (List.mem_of_getElem? (i := 14) rfl)
theorem wd886 : Cond.methodLink RL 97 yX11_drawn ∈ tbW := tbm31 _ (List.mem_of_getElem? (i := 15) rfl)
theorem wd887 : Cond.instanceMethod yX11_drawn ∈ tbW := tbm31 _ (List.mem_of_getElem? (i := 16) rfl)
theorem wd888 : Cond.selects RX11 yX11_drawn yX11_drawn ∈ tbW := tbm31 _ (List.mem_of_getElem? (i := 17) rfl)
theorem wd889 : Cond.methodLink RX11 350 yX11_drawnAt ∈ tbW := tbm31 _ (List.mem_of_getElem? (i := 18) rfl)
theorem wd890 : Cond.instanceMethod yX11_drawnAt ∈ tbW := tbm31 _ (List.mem_of_getElem? (i := 19) rfl)
theorem wd891 : Cond.methodLink RL 101 yX11_peak ∈ tbW := tbm31 _ (List.mem_of_getElem? (i := 20) rfl)
theorem wd892 : Cond.instanceMethod yX11_peak ∈ tbW := tbm31 _ (List.mem_of_getElem? (i := 21) rfl)
theorem wd893 : Cond.selects RX11 yX11_peak yX11_peak ∈ tbW := tbm31 _ (List.mem_of_getElem? (i := 22) rfl)
theorem wd894 : Cond.constantLong RX11 356 (3) ∈ tbW := tbm31 _ (List.mem_of_getElem? (i := 23) rfl)
theorem wd895 : Cond.methodLink RX11 358 yX11_peakNow ∈ tbW := tbm31 _ (List.mem_of_getElem? (i := 24) rfl)
theorem wd896 : Cond.instanceMethod yX11_peakNow ∈ tbW := tbm31 _ (List.mem_of_getElem? (i := 25) rfl)
theorem wd897 : Cond.methodLink RL 105 yX11_stagger ∈ tbW := tbm31 _ (List.mem_of_getElem? (i := 26) rfl)
theorem wd898 : Cond.instanceMethod yX11_stagger ∈ tbW := tbm31 _ (List.mem_of_getElem? (i := 27) rfl)
theorem wd899 : Cond.selects RX11 yX11_stagger yX11_stagger ∈ tbW := tbm31 _ (List.mem_of_getElem? (i := 28) rfl)
theorem wd900 : Cond.constantLong RX11 367 (10) ∈ tbW := tbm31 _ (List.mem_of_getElem? (i := 29) rfl)
theorem wd901 : Cond.methodLink RX11 369 yX11_findStagger ∈ tbW := tbm32 _ (List.mem_of_getElem? (i := 0) rfl)
theorem wd902 : Cond.instanceMethod yX11_findStagger ∈ tbW := tbm32 _ (List.mem_of_getElem? (i := 1) rfl)
theorem wd903 : Cond.methodLink RX11 364 yX11_lastGood ∈ tbW := tbm32 _ (List.mem_of_getElem? (i := 2) rfl)
theorem wd904 : Cond.instanceMethod yX11_lastGood ∈ tbW := tbm32 _ (List.mem_of_getElem? (i := 3) rfl)
theorem wd905 : Cond.methodLink RL 109 yX11_adopt ∈ tbW := tbm32 _ (List.mem_of_getElem? (i := 4) rfl)
theorem wd906 : Cond.instanceMethod yX11_adopt ∈ tbW := tbm32 _ (List.mem_of_getElem? (i := 5) rfl)
theorem wd907 : Cond.selects RX11 yX11_adopt yX11_adopt ∈ tbW := tbm32 _ (List.mem_of_getElem? (i := 6) rfl)
theorem wd908 : Cond.methodLink RL 113 yX11_down ∈ tbW := tbm32 _ (List.mem_of_getElem? (i := 7) rfl)
theorem wd909 : Cond.instanceMethod yX11_down ∈ tbW := tbm32 _ (List.mem_of_getElem? (i := 8) rfl)
theorem wd910 : Cond.selects RX11 yX11_down yX11_down ∈ tbW := tbm32 _ (List.mem_of_getElem? (i := 9) rfl)
theorem wd911 : Cond.methodLink RX11 372 yX11_areRails ∈ tbW := tbm32 _ (List.mem_of_getElem? (i := 10) rfl)
theorem wd912 : Cond.instanceMethod yX11_areRails ∈ tbW := tbm32 _ (List.mem_of_getElem? (i := 11) rfl)
theorem wd913 : Cond.methodLink RL 117 yX11_cut ∈ tbW := tbm32 _ (List.mem_of_getElem? (i := 12) rfl)
theorem wd914 : Cond.instanceMethod yX11_cut ∈ tbW := tbm32 _ (List.mem_of_getElem? (i := 13) rfl)
theorem wd915 : Cond.selects RX11 yX11_cut yX11_cut ∈ tbW := tbm32 _ (List.mem_of_getElem? (i := 14) rfl)
theorem wd916 : Cond.methodLink RX11 375 yX11_isUp ∈ tbW := tbm32 _ (List.mem_of_getElem? (i := 15) rfl)
theorem wd917 : Cond.instanceMethod yX11_isUp ∈ tbW := tbm32 _ (List.mem_of_getElem? (i := 16) rfl)
theorem wd918 : Cond.methodLink RX11 378 yX11_countOf ∈ tbW := tbm32 _ (List.mem_of_getElem? (i := 17) rfl)
theorem wd919 : Cond.static yX11_countOf ∈ tbW := tbm32 _ (List.mem_of_getElem? (i := 18) rfl)
theorem wd920 : Cond.methodLink RL 121 yX11_need ∈ tbW := tbm32 _ (List.mem_of_getElem? (i := 19) rfl)
theorem wd921 : Cond.instanceMethod yX11_need ∈ tbW := tbm32 _ (List.mem_of_getElem? (i := 20) rfl)
theorem wd922 : Cond.selects RX11 yX11_need yX11_need ∈ tbW := tbm32 _ (List.mem_of_getElem? (i := 21) rfl)
theorem wd923 : Cond.methodLink RL 125 yX11_must ∈ tbW := tbm32 _ (List.mem_of_getElem? (i := 22) rfl)
theorem wd924 : Cond.instanceMethod yX11_must ∈ tbW := tbm32 _ (List.mem_of_getElem? (i := 23) rfl)
theorem wd925 : Cond.selects RX11 yX11_must yX11_must ∈ tbW := tbm32 _ (List.mem_of_getElem? (i := 24) rfl)
theorem wd926 : Cond.methodLink RL 129 yX11_seen ∈ tbW := tbm32 _ (List.mem_of_getElem? (i := 25) rfl)
theorem wd927 : Cond.instanceMethod yX11_seen ∈ tbW := tbm32 _ (List.mem_of_getElem? (i := 26) rfl)
theorem wd928 : Cond.selects RX11 yX11_seen yX11_seen ∈ tbW := tbm32 _ (List.mem_of_getElem? (i := 27) rfl)
theorem wd929 : Cond.methodLink RL 133 yX11_sheet ∈ tbW := tbm32 _ (List.mem_of_getElem? (i := 28) rfl)
theorem wd930 : Cond.instanceMethod yX11_sheet ∈ tbW := tbm32 _ (List.mem_of_getElem? (i := 29) rfl)
theorem wd931 : Cond.selects RX11 yX11_sheet yX11_sheet ∈ tbW := tbm33 _ (List.mem_of_getElem? (i := 0) rfl)
theorem wd932 : Cond.methodLink RX11 381 yX11_isSheet ∈ tbW := tbm33 _ (List.mem_of_getElem? (i := 1) rfl)
theorem wd933 : Cond.static yX11_isSheet ∈ tbW := tbm33 _ (List.mem_of_getElem? (i := 2) rfl)
theorem wd934 : Cond.methodLink RL 137 yX11_lay ∈ tbW := tbm33 _ (List.mem_of_getElem? (i := 3) rfl)
theorem wd935 : Cond.instanceMethod yX11_lay ∈ tbW := tbm33 _ (List.mem_of_getElem? (i := 4) rfl)
theorem wd936 : Cond.selects RX11 yX11_lay yX11_lay ∈ tbW := tbm33 _ (List.mem_of_getElem? (i := 5) rfl)
theorem wd937 : Cond.methodLink RL 142 yX11_measured ∈ tbW := tbm33 _ (List.mem_of_getElem? (i := 6) rfl)
theorem wd938 : Cond.instanceMethod yX11_measured ∈ tbW := tbm33 _ (List.mem_of_getElem? (i := 7) rfl)
theorem wd939 : Cond.selects RX11 yX11_measured yX11_measured ∈ tbW := tbm33 _ (List.mem_of_getElem? (i := 8) rfl)
theorem wd940 : Cond.constantLong RX11 384 (40) ∈ tbW := tbm33 _ (List.mem_of_getElem? (i := 9) rfl)
theorem wd941 : Cond.constantLong RX11 386 (9999) ∈ tbW := tbm33 _ (List.mem_of_getElem? (i := 10) rfl)
theorem wd942 : Cond.methodLink RL 146 yX11_count ∈ tbW := tbm33 _ (List.mem_of_getElem? (i := 11) rfl)
theorem wd943 : Cond.instanceMethod yX11_count ∈ tbW := tbm33 _ (List.mem_of_getElem? (i := 12) rfl)
theorem wd944 : Cond.selects RX11 yX11_count yX11_count ∈ tbW := tbm33 _ (List.mem_of_getElem? (i := 13) rfl)
theorem wd945 : Cond.constantLong RL 13 (4294967295) ∈ tbW := tbm33 _ (List.mem_of_getElem? (i := 14) rfl)
theorem wd946 : Cond.fieldLink RJ0 9 "java/lang/String" "value" "[B" ∈ tbW := tbm33 _ (List.mem_of_getElem? (i := 15) rfl)
theorem wd947 : Cond.fieldLink RJ0 15 "java/lang/String" "coder" "B" ∈ tbW := tbm33 _ (List.mem_of_getElem? (i := 16) rfl)
theorem wd948 : Cond.code yX10_init cX10_init 1 none ∈ tbW := tbm34 _ (List.mem_of_getElem? (i := 0) rfl)
theorem wd949 : Cond.code objectInit ⟨#[0xb1]⟩ 1 none ∈ tbW := tbm34 _ (List.mem_of_getElem? (i := 1) rfl)
theorem wd950 : Cond.code yX8_init cX8_init 1 none ∈ tbW := tbm34 _ (List.mem_of_getElem? (i := 2) rfl)
theorem wd951 : Cond.code yX5_init cX5_init 1 none ∈ tbW := tbm34 _ (List.mem_of_getElem? (i := 3) rfl)
theorem wd952 : Cond.code yX2_init cX2_init 1 none ∈ tbW := tbm34 _ (List.mem_of_getElem? (i := 4) rfl)
theorem wd953 : Cond.code yX0_init cX0_init 1 none ∈ tbW := tbm34 _ (List.mem_of_getElem? (i := 5) rfl)
theorem wd954 : Cond.code yX9_init cX9_init 2 none ∈ tbW := tbm34 _ (List.mem_of_getElem? (i := 6) rfl)
theorem wd955 : Cond.code yX7_init cX7_init 2 none ∈ tbW := tbm34 _ (List.mem_of_getElem? (i := 7) rfl)
theorem wd956 : Cond.code yX6_init cX6_init 1 none ∈ tbW := tbm34 _ (List.mem_of_getElem? (i := 8) rfl)
theorem wd957 : Cond.code yJ7_fill_53178 cJ7_fill_53178 4 none ∈ tbW := tbm34 _ (List.mem_of_getElem? (i := 9) rfl)
theorem wd958 : Cond.code yX3_init cX3_init 1 none ∈ tbW := tbm35 _ (List.mem_of_getElem? (i := 0) rfl)
theorem wd959 : Cond.code yX4_init cX4_init 3 none ∈ tbW := tbm35 _ (List.mem_of_getElem? (i := 1) rfl)
theorem wd960 : Cond.code yX10_feed cX10_feed 3 (some .int) ∈ tbW := tbm35 _ (List.mem_of_getElem? (i := 2) rfl)
theorem wd961 : Cond.code yX8_push cX8_push 4 (some .boolean) ∈ tbW := tbm35 _ (List.mem_of_getElem? (i := 3) rfl)
theorem wd962 : Cond.code yX10_end cX10_end 3 (some .int) ∈ tbW := tbm35 _ (List.mem_of_getElem? (i := 4) rfl)
theorem wd963 : Cond.code yX10_text cX10_text 3 (some .int) ∈ tbW := tbm35 _ (List.mem_of_getElem? (i := 5) rfl)
theorem wd964 : Cond.code yX4_readText cX4_readText 4 (some .int) ∈ tbW := tbm35 _ (List.mem_of_getElem? (i := 6) rfl)
theorem wd965 : Cond.code yX3_reset cX3_reset 1 none ∈ tbW := tbm35 _ (List.mem_of_getElem? (i := 7) rfl)
theorem wd966 : Cond.code yX4_step cX4_step 2 none ∈ tbW := tbm35 _ (List.mem_of_getElem? (i := 8) rfl)
theorem wd967 : Cond.code yX4_skipWithin cX4_skipWithin 3 none ∈ tbW := tbm35 _ (List.mem_of_getElem? (i := 9) rfl)
theorem wd968 : Cond.code yX4_valueNumber cX4_valueNumber 2 none ∈ tbW := tbm35 _ (List.mem_of_getElem? (i := 10) rfl)
theorem wd969 : Cond.code yX4_refuse cX4_refuse 3 none ∈ tbW := tbm35 _ (List.mem_of_getElem? (i := 11) rfl)
theorem wd970 : Cond.code yX4_isWord cX4_isWord 3 (some .boolean) ∈ tbW := tbm35 _ (List.mem_of_getElem? (i := 12) rfl)
theorem wd971 : Cond.code yJ0_length_8abf5 cJ0_length_8abf5 1 (some .int) ∈ tbW := tbm35 _ (List.mem_of_getElem? (i := 13) rfl)
theorem wd972 : Cond.code yJ0_coder_7d493 cJ0_coder_7d493 1 (some .byte) ∈ tbW := tbm35 _ (List.mem_of_getElem? (i := 14) rfl)
theorem wd973 : Cond.code yJ0_charAt_5068e cJ0_charAt_5068e 2 (some .char) ∈ tbW := tbm35 _ (List.mem_of_getElem? (i := 15) rfl)
theorem wd974 : Cond.code yJ0_isLatin1_aae02 cJ0_isLatin1_aae02 1 (some .boolean) ∈ tbW := tbm35 _ (List.mem_of_getElem? (i := 16) rfl)
theorem wd975 : Cond.code yJ1_charAt_3b067 cJ1_charAt_3b067 2 (some .char) ∈ tbW := tbm35 _ (List.mem_of_getElem? (i := 17) rfl)
theorem wd976 : Cond.code yJ0_checkIndex_df160 cJ0_checkIndex_df160 2 none ∈ tbW := tbm35 _ (List.mem_of_getElem? (i := 18) rfl)
theorem wd977 : Cond.code yJ3_checkIndex_8e157 cJ3_checkIndex_8e157 3 (some .int) ∈ tbW := tbm35 _ (List.mem_of_getElem? (i := 19) rfl)
theorem wd978 : Cond.code yJ2_charAt_3b067 cJ2_charAt_3b067 2 (some .char) ∈ tbW := tbm35 _ (List.mem_of_getElem? (i := 20) rfl)
theorem wd979 : Cond.code yJ2_checkIndex_2214a cJ2_checkIndex_2214a 2 none ∈ tbW := tbm35 _ (List.mem_of_getElem? (i := 21) rfl)
theorem wd980 : Cond.code yJ2_length_9d52b cJ2_length_9d52b 1 (some .int) ∈ tbW := tbm35 _ (List.mem_of_getElem? (i := 22) rfl)
theorem wd981 : Cond.code yJ2_getChar_3b067 cJ2_getChar_3b067 2 (some .char) ∈ tbW := tbm35 _ (List.mem_of_getElem? (i := 23) rfl)
theorem wd982 : Cond.code yX4_readRail cX4_readRail 4 none ∈ tbW := tbm35 _ (List.mem_of_getElem? (i := 24) rfl)
theorem wd983 : Cond.code yX3_addRail cX3_addRail 2 none ∈ tbW := tbm35 _ (List.mem_of_getElem? (i := 25) rfl)
theorem wd984 : Cond.code yX3_setNumber cX3_setNumber 4 none ∈ tbW := tbm35 _ (List.mem_of_getElem? (i := 26) rfl)
theorem wd985 : Cond.code yX4_takeTurn cX4_takeTurn 2 none ∈ tbW := tbm36 _ (List.mem_of_getElem? (i := 0) rfl)
theorem wd986 : Cond.code yX4_railNamed cX4_railNamed 2 (some .int) ∈ tbW := tbm36 _ (List.mem_of_getElem? (i := 1) rfl)
theorem wd987 : Cond.code yX4_takeNumber cX4_takeNumber 4 (some .int) ∈ tbW := tbm36 _ (List.mem_of_getElem? (i := 2) rfl)
theorem wd988 : Cond.code yX4_readWith cX4_readWith 2 none ∈ tbW := tbm36 _ (List.mem_of_getElem? (i := 3) rfl)
theorem wd989 : Cond.code yX4_takeOnce cX4_takeOnce 2 none ∈ tbW := tbm36 _ (List.mem_of_getElem? (i := 4) rfl)
theorem wd990 : Cond.code yX4_readFormula cX4_readFormula 5 none ∈ tbW := tbm36 _ (List.mem_of_getElem? (i := 5) rfl)
theorem wd991 : Cond.code yX4_openDepth cX4_openDepth 2 none ∈ tbW := tbm36 _ (List.mem_of_getElem? (i := 6) rfl)
theorem wd992 : Cond.code yJ7_fill_d0a16 cJ7_fill_d0a16 5 none ∈ tbW := tbm36 _ (List.mem_of_getElem? (i := 7) rfl)
theorem wd993 : Cond.code yX4_takeUnit cX4_takeUnit 2 (some .boolean) ∈ tbW := tbm36 _ (List.mem_of_getElem? (i := 8) rfl)
theorem wd994 : Cond.code yX4_isSign cX4_isSign 2 (some .boolean) ∈ tbW := tbm36 _ (List.mem_of_getElem? (i := 9) rfl)
theorem wd995 : Cond.code yX4_joinPart cX4_joinPart 4 none ∈ tbW := tbm36 _ (List.mem_of_getElem? (i := 10) rfl)
theorem wd996 : Cond.code yX3_number cX3_number 3 (some .int) ∈ tbW := tbm36 _ (List.mem_of_getElem? (i := 11) rfl)
theorem wd997 : Cond.code yX4_noteUse cX4_noteUse 2 none ∈ tbW := tbm36 _ (List.mem_of_getElem? (i := 12) rfl)
theorem wd998 : Cond.code yX4_joinAny cX4_joinAny 2 none ∈ tbW := tbm36 _ (List.mem_of_getElem? (i := 13) rfl)
theorem wd999 : Cond.code yX4_closeDepth cX4_closeDepth 2 none ∈ tbW := tbm36 _ (List.mem_of_getElem? (i := 14) rfl)
theorem wd1000 : Cond.code yX4_readRule cX4_readRule 1 none ∈ tbW := tbm36 _ (List.mem_of_getElem? (i := 15) rfl)
theorem wd1001 : Cond.code yX4_takeSign cX4_takeSign 2 none ∈ tbW := tbm36 _ (List.mem_of_getElem? (i := 16) rfl)
theorem wd1002 : Cond.code yX4_findNotTold cX4_findNotTold 3 none ∈ tbW := tbm36 _ (List.mem_of_getElem? (i := 17) rfl)
theorem wd1003 : Cond.code Lib.Math.min.name Lib.Math.min.code 2 (some .int) ∈ tbW := tbm36 _ (List.mem_of_getElem? (i := 18) rfl)
theorem wd1004 : Cond.code yX5_reset cX5_reset 3 none ∈ tbW := tbm36 _ (List.mem_of_getElem? (i := 19) rfl)
theorem wd1005 : Cond.code yX10_forgetReckoned cX10_forgetReckoned 1 none ∈ tbW := tbm36 _ (List.mem_of_getElem? (i := 20) rfl)
theorem wd1006 : Cond.code yX9_forget cX9_forget 2 none ∈ tbW := tbm36 _ (List.mem_of_getElem? (i := 21) rfl)
theorem wd1007 : Cond.code yX10_fault cX10_fault 1 (some .int) ∈ tbW := tbm36 _ (List.mem_of_getElem? (i := 22) rfl)
theorem wd1008 : Cond.code yX10_rail cX10_rail 3 (some .int) ∈ tbW := tbm36 _ (List.mem_of_getElem? (i := 23) rfl)
theorem wd1009 : Cond.code yX3_hasRail cX3_hasRail 2 (some .boolean) ∈ tbW := tbm36 _ (List.mem_of_getElem? (i := 24) rfl)
theorem wd1010 : Cond.code yX10_rule cX10_rule 2 (some .int) ∈ tbW := tbm36 _ (List.mem_of_getElem? (i := 25) rfl)
theorem wd1011 : Cond.code yX10_holds cX10_holds 3 (some .int) ∈ tbW := tbm36 _ (List.mem_of_getElem? (i := 26) rfl)
theorem wd1012 : Cond.code yX3_allRails cX3_allRails 1 (some .int) ∈ tbW := tbm36 _ (List.mem_of_getElem? (i := 27) rfl)
theorem wd1013 : Cond.code yX3_holdsWith cX3_holdsWith 3 (some .boolean) ∈ tbW := tbm36 _ (List.mem_of_getElem? (i := 28) rfl)
theorem wd1014 : Cond.code yX10_asNumber cX10_asNumber 1 (some .int) ∈ tbW := tbm36 _ (List.mem_of_getElem? (i := 29) rfl)
theorem wd1015 : Cond.code yX10_words cX10_words 3 (some .int) ∈ tbW := tbm37 _ (List.mem_of_getElem? (i := 0) rfl)
theorem wd1016 : Cond.code yX3_countLeastSets cX3_countLeastSets 4 (some .int) ∈ tbW := tbm37 _ (List.mem_of_getElem? (i := 1) rfl)
theorem wd1017 : Cond.code yX3_isLeastSet cX3_isLeastSet 4 (some .boolean) ∈ tbW := tbm37 _ (List.mem_of_getElem? (i := 2) rfl)
theorem wd1018 : Cond.code yX3_leastSet cX3_leastSet 5 (some .int) ∈ tbW := tbm37 _ (List.mem_of_getElem? (i := 3) rfl)
theorem wd1019 : Cond.code yX10_key cX10_key 3 (some .int) ∈ tbW := tbm37 _ (List.mem_of_getElem? (i := 4) rfl)
theorem wd1020 : Cond.code yX5_turnKey cX5_turnKey 3 none ∈ tbW := tbm37 _ (List.mem_of_getElem? (i := 5) rfl)
theorem wd1021 : Cond.code yX10_dead cX10_dead 5 (some .int) ∈ tbW := tbm37 _ (List.mem_of_getElem? (i := 6) rfl)
theorem wd1022 : Cond.code yX10_time cX10_time 4 (some .int) ∈ tbW := tbm37 _ (List.mem_of_getElem? (i := 7) rfl)
theorem wd1023 : Cond.code yX10_go cX10_go 4 (some .int) ∈ tbW := tbm37 _ (List.mem_of_getElem? (i := 8) rfl)
theorem wd1024 : Cond.code yX5_passTick cX5_passTick 3 none ∈ tbW := tbm37 _ (List.mem_of_getElem? (i := 9) rfl)
theorem wd1025 : Cond.code yX5_settle cX5_settle 4 none ∈ tbW := tbm37 _ (List.mem_of_getElem? (i := 10) rfl)
theorem wd1026 : Cond.code yX5_railsThatMay cX5_railsThatMay 5 (some .int) ∈ tbW := tbm37 _ (List.mem_of_getElem? (i := 11) rfl)
theorem wd1027 : Cond.code yX5_railsThatAre cX5_railsThatAre 4 (some .int) ∈ tbW := tbm37 _ (List.mem_of_getElem? (i := 12) rfl)
theorem wd1028 : Cond.code yX5_changeRails cX5_changeRails 6 (some .boolean) ∈ tbW := tbm37 _ (List.mem_of_getElem? (i := 13) rfl)
theorem wd1029 : Cond.code yX5_nextState cX5_nextState 5 (some .int) ∈ tbW := tbm37 _ (List.mem_of_getElem? (i := 14) rfl)
theorem wd1030 : Cond.code yX5_become cX5_become 3 none ∈ tbW := tbm37 _ (List.mem_of_getElem? (i := 15) rfl)
theorem wd1031 : Cond.code yX2_note cX2_note 4 none ∈ tbW := tbm37 _ (List.mem_of_getElem? (i := 16) rfl)
theorem wd1032 : Cond.code yX5_sumDraw cX5_sumDraw 4 (some .int) ∈ tbW := tbm37 _ (List.mem_of_getElem? (i := 17) rfl)
theorem wd1033 : Cond.code Lib.Math.max.name Lib.Math.max.code 2 (some .int) ∈ tbW := tbm37 _ (List.mem_of_getElem? (i := 18) rfl)
theorem wd1034 : Cond.code yX5_whyTrip cX5_whyTrip 5 (some .int) ∈ tbW := tbm37 _ (List.mem_of_getElem? (i := 19) rfl)
theorem wd1035 : Cond.code yX5_trip cX5_trip 3 none ∈ tbW := tbm37 _ (List.mem_of_getElem? (i := 20) rfl)
theorem wd1036 : Cond.code yX5_growOlder cX5_growOlder 3 none ∈ tbW := tbm37 _ (List.mem_of_getElem? (i := 21) rfl)
theorem wd1037 : Cond.code yX10_now cX10_now 2 (some .int) ∈ tbW := tbm37 _ (List.mem_of_getElem? (i := 22) rfl)
theorem wd1038 : Cond.code yX10_is cX10_is 3 (some .int) ∈ tbW := tbm37 _ (List.mem_of_getElem? (i := 23) rfl)
theorem wd1039 : Cond.code yX10_happened cX10_happened 3 (some .int) ∈ tbW := tbm37 _ (List.mem_of_getElem? (i := 24) rfl)
theorem wd1040 : Cond.code yX10_up cX10_up 4 (some .int) ∈ tbW := tbm38 _ (List.mem_of_getElem? (i := 0) rfl)
theorem wd1041 : Cond.code yX3_upAmong cX3_upAmong 6 (some .int) ∈ tbW := tbm38 _ (List.mem_of_getElem? (i := 1) rfl)
theorem wd1042 : Cond.code yX10_when cX10_when 3 (some .int) ∈ tbW := tbm38 _ (List.mem_of_getElem? (i := 2) rfl)
theorem wd1043 : Cond.code yX10_followTimes cX10_followTimes 1 none ∈ tbW := tbm38 _ (List.mem_of_getElem? (i := 3) rfl)
theorem wd1044 : Cond.code yX0_setWaits cX0_setWaits 3 none ∈ tbW := tbm38 _ (List.mem_of_getElem? (i := 4) rfl)
theorem wd1045 : Cond.code yX0_copyTakes cX0_copyTakes 2 none ∈ tbW := tbm38 _ (List.mem_of_getElem? (i := 5) rfl)
theorem wd1046 : Cond.code yX10_alive cX10_alive 1 (some .int) ∈ tbW := tbm38 _ (List.mem_of_getElem? (i := 6) rfl)
theorem wd1047 : Cond.code yX0_follow cX0_follow 7 none ∈ tbW := tbm38 _ (List.mem_of_getElem? (i := 7) rfl)
theorem wd1048 : Cond.code yX0_begin cX0_begin 5 (some .int) ∈ tbW := tbm38 _ (List.mem_of_getElem? (i := 8) rfl)
theorem wd1049 : Cond.code yX0_soonest cX0_soonest 4 (some .int) ∈ tbW := tbm38 _ (List.mem_of_getElem? (i := 9) rfl)
theorem wd1050 : Cond.code yX0_setTakes cX0_setTakes 4 none ∈ tbW := tbm38 _ (List.mem_of_getElem? (i := 10) rfl)
theorem wd1051 : Cond.code yX0_isUp cX0_isUp 2 (some .boolean) ∈ tbW := tbm38 _ (List.mem_of_getElem? (i := 11) rfl)
theorem wd1052 : Cond.code yX10_ahead cX10_ahead 6 (some .int) ∈ tbW := tbm38 _ (List.mem_of_getElem? (i := 12) rfl)
theorem wd1053 : Cond.code yX3_countWays cX3_countWays 3 (some .int) ∈ tbW := tbm38 _ (List.mem_of_getElem? (i := 13) rfl)
theorem wd1054 : Cond.code yX9_mostBehind cX9_mostBehind 10 (some .int) ∈ tbW := tbm38 _ (List.mem_of_getElem? (i := 14) rfl)
theorem wd1055 : Cond.code yX3_sourcesOf cX3_sourcesOf 5 (some .int) ∈ tbW := tbm38 _ (List.mem_of_getElem? (i := 15) rfl)
theorem wd1056 : Cond.code yX9_start cX9_start 2 none ∈ tbW := tbm38 _ (List.mem_of_getElem? (i := 16) rfl)
theorem wd1057 : Cond.code yX9_nextWay cX9_nextWay 4 (some .boolean) ∈ tbW := tbm38 _ (List.mem_of_getElem? (i := 17) rfl)
theorem wd1058 : Cond.code yX10_drawn cX10_drawn 2 (some .int) ∈ tbW := tbm38 _ (List.mem_of_getElem? (i := 18) rfl)
theorem wd1059 : Cond.code yX0_drawnAt cX0_drawnAt 5 (some .int) ∈ tbW := tbm38 _ (List.mem_of_getElem? (i := 19) rfl)
theorem wd1060 : Cond.code yX10_peak cX10_peak 2 (some .int) ∈ tbW := tbm38 _ (List.mem_of_getElem? (i := 20) rfl)
theorem wd1061 : Cond.code yX9_findPeaks cX9_findPeaks 6 none ∈ tbW := tbm38 _ (List.mem_of_getElem? (i := 21) rfl)
theorem wd1062 : Cond.code yX0_findPeak cX0_findPeak 4 none ∈ tbW := tbm38 _ (List.mem_of_getElem? (i := 22) rfl)
theorem wd1063 : Cond.code yX10_stagger cX10_stagger 2 (some .int) ∈ tbW := tbm38 _ (List.mem_of_getElem? (i := 23) rfl)
theorem wd1064 : Cond.code yX7_findRow cX7_findRow 8 none ∈ tbW := tbm38 _ (List.mem_of_getElem? (i := 24) rfl)
theorem wd1065 : Cond.code yX7_keepIfBelowLimit cX7_keepIfBelowLimit 2 none ∈ tbW := tbm38 _ (List.mem_of_getElem? (i := 25) rfl)
theorem wd1066 : Cond.code yX7_nextRow cX7_nextRow 3 (some .boolean) ∈ tbW := tbm38 _ (List.mem_of_getElem? (i := 26) rfl)
theorem wd1067 : Cond.code yX10_adopt cX10_adopt 2 (some .int) ∈ tbW := tbm38 _ (List.mem_of_getElem? (i := 27) rfl)
theorem wd1068 : Cond.code yX3_setWaits cX3_setWaits 3 none ∈ tbW := tbm38 _ (List.mem_of_getElem? (i := 28) rfl)
theorem wd1069 : Cond.code yX10_down cX10_down 2 (some .int) ∈ tbW := tbm38 _ (List.mem_of_getElem? (i := 29) rfl)
theorem wd1070 : Cond.code yX10_cut cX10_cut 4 (some .int) ∈ tbW := tbm39 _ (List.mem_of_getElem? (i := 0) rfl)
theorem wd1071 : Cond.code yX10_canBeUp cX10_canBeUp 2 (some .boolean) ∈ tbW := tbm39 _ (List.mem_of_getElem? (i := 1) rfl)
theorem wd1072 : Cond.code yX1_fewestThatCut cX1_fewestThatCut 7 (some .int) ∈ tbW := tbm39 _ (List.mem_of_getElem? (i := 2) rfl)
theorem wd1073 : Cond.code yJ6_bitCount_0f7a4 cJ6_bitCount_0f7a4 1 (some .int) ∈ tbW := tbm39 _ (List.mem_of_getElem? (i := 3) rfl)
theorem wd1074 : Cond.code yX1_isUpAmong cX1_isUpAmong 3 (some .boolean) ∈ tbW := tbm39 _ (List.mem_of_getElem? (i := 4) rfl)
theorem wd1075 : Cond.code yX10_need cX10_need 4 (some .int) ∈ tbW := tbm39 _ (List.mem_of_getElem? (i := 5) rfl)
theorem wd1076 : Cond.code yX1_fewestThatDo cX1_fewestThatDo 6 (some .int) ∈ tbW := tbm39 _ (List.mem_of_getElem? (i := 6) rfl)
theorem wd1077 : Cond.code yX10_must cX10_must 2 (some .int) ∈ tbW := tbm39 _ (List.mem_of_getElem? (i := 7) rfl)
theorem wd1078 : Cond.code yX1_neverWithout cX1_neverWithout 5 (some .int) ∈ tbW := tbm39 _ (List.mem_of_getElem? (i := 8) rfl)
theorem wd1079 : Cond.code yX10_seen cX10_seen 2 (some .int) ∈ tbW := tbm39 _ (List.mem_of_getElem? (i := 9) rfl)
theorem wd1080 : Cond.code yX1_thatExplain cX1_thatExplain 5 (some .int) ∈ tbW := tbm39 _ (List.mem_of_getElem? (i := 10) rfl)
theorem wd1081 : Cond.code yX10_sheet cX10_sheet 4 (some .int) ∈ tbW := tbm39 _ (List.mem_of_getElem? (i := 11) rfl)
theorem wd1082 : Cond.code yX6_hasPlace cX6_hasPlace 1 (some .boolean) ∈ tbW := tbm39 _ (List.mem_of_getElem? (i := 12) rfl)
theorem wd1083 : Cond.code yX6_isLane cX6_isLane 1 (some .boolean) ∈ tbW := tbm39 _ (List.mem_of_getElem? (i := 13) rfl)
theorem wd1084 : Cond.code yX6_renew cX6_renew 4 none ∈ tbW := tbm39 _ (List.mem_of_getElem? (i := 14) rfl)
theorem wd1085 : Cond.code yX10_lay cX10_lay 4 (some .int) ∈ tbW := tbm39 _ (List.mem_of_getElem? (i := 15) rfl)
theorem wd1086 : Cond.code yX6_put cX6_put 4 none ∈ tbW := tbm39 _ (List.mem_of_getElem? (i := 16) rfl)
theorem wd1087 : Cond.code yX10_measured cX10_measured 6 (some .int) ∈ tbW := tbm39 _ (List.mem_of_getElem? (i := 17) rfl)
theorem wd1088 : Cond.code yX10_compareSheet cX10_compareSheet 12 (some .int) ∈ tbW := tbm39 _ (List.mem_of_getElem? (i := 18) rfl)
theorem wd1089 : Cond.code Lib.Math.abs.name Lib.Math.abs.code 1 (some .int) ∈ tbW := tbm39 _ (List.mem_of_getElem? (i := 19) rfl)
theorem wd1090 : Cond.code yX10_count cX10_count 2 (some .int) ∈ tbW := tbm39 _ (List.mem_of_getElem? (i := 20) rfl)
theorem wd1091 : Cond.code yX11_init cX11_init 2 none ∈ tbW := tbm39 _ (List.mem_of_getElem? (i := 21) rfl)
theorem wd1092 : Cond.code yX11_firstDraft cX11_firstDraft 1 none ∈ tbW := tbm39 _ (List.mem_of_getElem? (i := 22) rfl)
theorem wd1093 : Cond.code yX11_keepDraft cX11_keepDraft 2 none ∈ tbW := tbm39 _ (List.mem_of_getElem? (i := 23) rfl)
theorem wd1094 : Cond.code yX11_begins cX11_begins 2 none ∈ tbW := tbm39 _ (List.mem_of_getElem? (i := 24) rfl)
theorem wd1095 : Cond.code yX11_of cX11_of 3 (some .int) ∈ tbW := tbm40 _ (List.mem_of_getElem? (i := 0) rfl)
theorem wd1096 : Cond.code yX11_feed cX11_feed 4 (some .int) ∈ tbW := tbm40 _ (List.mem_of_getElem? (i := 1) rfl)
theorem wd1097 : Cond.code yX11_end cX11_end 3 (some .int) ∈ tbW := tbm40 _ (List.mem_of_getElem? (i := 2) rfl)
theorem wd1098 : Cond.code yX11_in cX11_in 6 (some .boolean) ∈ tbW := tbm40 _ (List.mem_of_getElem? (i := 3) rfl)
theorem wd1099 : Cond.code yX11_text cX11_text 3 (some .int) ∈ tbW := tbm40 _ (List.mem_of_getElem? (i := 4) rfl)
theorem wd1100 : Cond.code yX11_next cX11_next 2 none ∈ tbW := tbm40 _ (List.mem_of_getElem? (i := 5) rfl)
theorem wd1101 : Cond.code yX11_look cX11_look 2 (some .int) ∈ tbW := tbm40 _ (List.mem_of_getElem? (i := 6) rfl)
theorem wd1102 : Cond.code yX11_wants cX11_wants 3 none ∈ tbW := tbm40 _ (List.mem_of_getElem? (i := 7) rfl)
theorem wd1103 : Cond.code yX11_readLine cX11_readLine 2 none ∈ tbW := tbm40 _ (List.mem_of_getElem? (i := 8) rfl)
theorem wd1104 : Cond.code yX11_nameNow cX11_nameNow 2 (some .int) ∈ tbW := tbm40 _ (List.mem_of_getElem? (i := 9) rfl)
theorem wd1105 : Cond.code yX11_is cX11_is 6 (some .boolean) ∈ tbW := tbm40 _ (List.mem_of_getElem? (i := 10) rfl)
theorem wd1106 : Cond.code yX11_readRail cX11_readRail 5 none ∈ tbW := tbm40 _ (List.mem_of_getElem? (i := 11) rfl)
theorem wd1107 : Cond.code yX11_readNumber cX11_readNumber 4 (some .int) ∈ tbW := tbm40 _ (List.mem_of_getElem? (i := 12) rfl)
theorem wd1108 : Cond.code yX11_readWith cX11_readWith 3 none ∈ tbW := tbm40 _ (List.mem_of_getElem? (i := 13) rfl)
theorem wd1109 : Cond.code yX11_readWhen cX11_readWhen 1 none ∈ tbW := tbm41 _ (List.mem_of_getElem? (i := 0) rfl)
theorem wd1110 : Cond.code yX11_readFormula cX11_readFormula 2 none ∈ tbW := tbm41 _ (List.mem_of_getElem? (i := 1) rfl)
theorem wd1111 : Cond.code yX11_readUnit cX11_readUnit 1 none ∈ tbW := tbm41 _ (List.mem_of_getElem? (i := 2) rfl)
theorem wd1112 : Cond.code yX11_holdsBack cX11_holdsBack 2 none ∈ tbW := tbm41 _ (List.mem_of_getElem? (i := 3) rfl)
theorem wd1113 : Cond.code yX11_readLetter cX11_readLetter 2 none ∈ tbW := tbm41 _ (List.mem_of_getElem? (i := 4) rfl)
theorem wd1114 : Cond.code yX11_done cX11_done 2 none ∈ tbW := tbm41 _ (List.mem_of_getElem? (i := 5) rfl)
theorem wd1115 : Cond.code yX11_keepFormula cX11_keepFormula 2 none ∈ tbW := tbm41 _ (List.mem_of_getElem? (i := 6) rfl)
theorem wd1116 : Cond.code yX11_worth cX11_worth 4 (some .boolean) ∈ tbW := tbm41 _ (List.mem_of_getElem? (i := 7) rfl)
theorem wd1117 : Cond.code yX11_fault cX11_fault 1 (some .int) ∈ tbW := tbm41 _ (List.mem_of_getElem? (i := 8) rfl)
theorem wd1118 : Cond.code yX11_rail cX11_rail 3 (some .int) ∈ tbW := tbm41 _ (List.mem_of_getElem? (i := 9) rfl)
theorem wd1119 : Cond.code yX11_isRail cX11_isRail 2 (some .boolean) ∈ tbW := tbm41 _ (List.mem_of_getElem? (i := 10) rfl)
theorem wd1120 : Cond.code yX11_rule cX11_rule 2 (some .int) ∈ tbW := tbm41 _ (List.mem_of_getElem? (i := 11) rfl)
theorem wd1121 : Cond.code yX11_holds cX11_holds 3 (some .int) ∈ tbW := tbm41 _ (List.mem_of_getElem? (i := 12) rfl)
theorem wd1122 : Cond.code yX11_isSo cX11_isSo 3 (some .boolean) ∈ tbW := tbm41 _ (List.mem_of_getElem? (i := 13) rfl)
theorem wd1123 : Cond.code yX11_flag cX11_flag 1 (some .int) ∈ tbW := tbm41 _ (List.mem_of_getElem? (i := 14) rfl)
theorem wd1124 : Cond.code yX11_words cX11_words 5 (some .int) ∈ tbW := tbm41 _ (List.mem_of_getElem? (i := 15) rfl)
theorem wd1125 : Cond.code yX11_isLeast cX11_isLeast 5 (some .boolean) ∈ tbW := tbm41 _ (List.mem_of_getElem? (i := 16) rfl)
theorem wd1126 : Cond.code yX11_key cX11_key 3 (some .int) ∈ tbW := tbm41 _ (List.mem_of_getElem? (i := 17) rfl)
theorem wd1127 : Cond.code yX11_dead cX11_dead 4 (some .int) ∈ tbW := tbm41 _ (List.mem_of_getElem? (i := 18) rfl)
theorem wd1128 : Cond.code yX11_time cX11_time 4 (some .int) ∈ tbW := tbm41 _ (List.mem_of_getElem? (i := 19) rfl)
theorem wd1129 : Cond.code yX11_go cX11_go 4 (some .int) ∈ tbW := tbm41 _ (List.mem_of_getElem? (i := 20) rfl)
theorem wd1130 : Cond.code yX11_aTick cX11_aTick 3 none ∈ tbW := tbm41 _ (List.mem_of_getElem? (i := 21) rfl)
theorem wd1131 : Cond.code yX11_settles cX11_settles 2 none ∈ tbW := tbm41 _ (List.mem_of_getElem? (i := 22) rfl)
theorem wd1132 : Cond.code yX11_round cX11_round 5 (some .boolean) ∈ tbW := tbm41 _ (List.mem_of_getElem? (i := 23) rfl)
theorem wd1133 : Cond.code yX11_allIn cX11_allIn 4 (some .int) ∈ tbW := tbm41 _ (List.mem_of_getElem? (i := 24) rfl)
theorem wd1134 : Cond.code yX11_becomes cX11_becomes 3 (some .int) ∈ tbW := tbm41 _ (List.mem_of_getElem? (i := 25) rfl)
theorem wd1135 : Cond.code yX11_happens cX11_happens 3 none ∈ tbW := tbm41 _ (List.mem_of_getElem? (i := 26) rfl)
theorem wd1136 : Cond.code yX11_drawnOf cX11_drawnOf 5 (some .int) ∈ tbW := tbm41 _ (List.mem_of_getElem? (i := 27) rfl)
theorem wd1137 : Cond.code yX11_tripNow cX11_tripNow 3 (some .int) ∈ tbW := tbm41 _ (List.mem_of_getElem? (i := 28) rfl)
theorem wd1138 : Cond.code yX11_now cX11_now 2 (some .int) ∈ tbW := tbm41 _ (List.mem_of_getElem? (i := 29) rfl)
theorem wd1139 : Cond.code yX11_is_ cX11_is_ 3 (some .int) ∈ tbW := tbm42 _ (List.mem_of_getElem? (i := 0) rfl)
theorem wd1140 : Cond.code yX11_happened cX11_happened 3 (some .int) ∈ tbW := tbm42 _ (List.mem_of_getElem? (i := 1) rfl)
theorem wd1141 : Cond.code yX11_up cX11_up 4 (some .int) ∈ tbW := tbm42 _ (List.mem_of_getElem? (i := 2) rfl)
theorem wd1142 : Cond.code yX11_deadOnes cX11_deadOnes 3 (some .int) ∈ tbW := tbm42 _ (List.mem_of_getElem? (i := 3) rfl)
theorem wd1143 : Cond.code yX11_upBut cX11_upBut 6 (some .int) ∈ tbW := tbm42 _ (List.mem_of_getElem? (i := 4) rfl)
theorem wd1144 : Cond.code yX11_when cX11_when 3 (some .int) ∈ tbW := tbm42 _ (List.mem_of_getElem? (i := 5) rfl)
theorem wd1145 : Cond.code yX11_setWaits cX11_setWaits 2 none ∈ tbW := tbm42 _ (List.mem_of_getElem? (i := 6) rfl)
theorem wd1146 : Cond.code yX11_setTimes cX11_setTimes 3 none ∈ tbW := tbm42 _ (List.mem_of_getElem? (i := 7) rfl)
theorem wd1147 : Cond.code yX11_findTimes cX11_findTimes 4 none ∈ tbW := tbm42 _ (List.mem_of_getElem? (i := 8) rfl)
theorem wd1148 : Cond.code yX11_ahead cX11_ahead 7 (some .int) ∈ tbW := tbm42 _ (List.mem_of_getElem? (i := 9) rfl)
theorem wd1149 : Cond.code yX11_ways cX11_ways 3 (some .int) ∈ tbW := tbm42 _ (List.mem_of_getElem? (i := 10) rfl)
theorem wd1150 : Cond.code yX11_goesOn cX11_goesOn 2 (some .boolean) ∈ tbW := tbm42 _ (List.mem_of_getElem? (i := 11) rfl)
theorem wd1151 : Cond.code yX11_drawn cX11_drawn 2 (some .int) ∈ tbW := tbm42 _ (List.mem_of_getElem? (i := 12) rfl)
theorem wd1152 : Cond.code yX11_drawnAt cX11_drawnAt 5 (some .int) ∈ tbW := tbm42 _ (List.mem_of_getElem? (i := 13) rfl)
theorem wd1153 : Cond.code yX11_peak cX11_peak 5 (some .int) ∈ tbW := tbm42 _ (List.mem_of_getElem? (i := 14) rfl)
theorem wd1154 : Cond.code yX11_peakNow cX11_peakNow 4 (some .int) ∈ tbW := tbm42 _ (List.mem_of_getElem? (i := 15) rfl)
theorem wd1155 : Cond.code yX11_stagger cX11_stagger 2 (some .int) ∈ tbW := tbm42 _ (List.mem_of_getElem? (i := 16) rfl)
theorem wd1156 : Cond.code yX11_findStagger cX11_findStagger 4 none ∈ tbW := tbm42 _ (List.mem_of_getElem? (i := 17) rfl)
theorem wd1157 : Cond.code yX11_lastGood cX11_lastGood 3 (some .int) ∈ tbW := tbm42 _ (List.mem_of_getElem? (i := 18) rfl)
theorem wd1158 : Cond.code yX11_adopt cX11_adopt 2 (some .int) ∈ tbW := tbm42 _ (List.mem_of_getElem? (i := 19) rfl)
theorem wd1159 : Cond.code yX11_down cX11_down 2 (some .int) ∈ tbW := tbm42 _ (List.mem_of_getElem? (i := 20) rfl)
theorem wd1160 : Cond.code yX11_areRails cX11_areRails 2 (some .boolean) ∈ tbW := tbm42 _ (List.mem_of_getElem? (i := 21) rfl)
theorem wd1161 : Cond.code yX11_cut cX11_cut 6 (some .int) ∈ tbW := tbm42 _ (List.mem_of_getElem? (i := 22) rfl)
theorem wd1162 : Cond.code yX11_isUp cX11_isUp 3 (some .boolean) ∈ tbW := tbm42 _ (List.mem_of_getElem? (i := 23) rfl)
theorem wd1163 : Cond.code yX11_countOf cX11_countOf 3 (some .int) ∈ tbW := tbm42 _ (List.mem_of_getElem? (i := 24) rfl)
theorem wd1164 : Cond.code yX11_need cX11_need 7 (some .int) ∈ tbW := tbm42 _ (List.mem_of_getElem? (i := 25) rfl)
theorem wd1165 : Cond.code yX11_must cX11_must 4 (some .int) ∈ tbW := tbm42 _ (List.mem_of_getElem? (i := 26) rfl)
theorem wd1166 : Cond.code yX11_seen cX11_seen 4 (some .int) ∈ tbW := tbm42 _ (List.mem_of_getElem? (i := 27) rfl)
theorem wd1167 : Cond.code yX11_sheet cX11_sheet 5 (some .int) ∈ tbW := tbm43 _ (List.mem_of_getElem? (i := 0) rfl)
theorem wd1168 : Cond.code yX11_isSheet cX11_isSheet 2 (some .boolean) ∈ tbW := tbm43 _ (List.mem_of_getElem? (i := 1) rfl)
theorem wd1169 : Cond.code yX11_lay cX11_lay 4 (some .int) ∈ tbW := tbm43 _ (List.mem_of_getElem? (i := 2) rfl)
theorem wd1170 : Cond.code yX11_measured cX11_measured 14 (some .int) ∈ tbW := tbm43 _ (List.mem_of_getElem? (i := 3) rfl)
theorem wd1171 : Cond.code yX11_count cX11_count 2 (some .int) ∈ tbW := tbm43 _ (List.mem_of_getElem? (i := 4) rfl)
theorem tbfX10 : ∀ w ∈ wsX100, w ∈ tbW := fun w h => tbs44 w (List.mem_append_left _ (List.mem_append_left _ (List.mem_append_left _ (List.mem_append_left _ (List.mem_append_left _ (List.mem_append_left _ (List.mem_append_left _ (List.mem_append_left _ (List.mem_append_left _ (List.mem_append_left _ h))))))))))
theorem tbfX11 : ∀ w ∈ wsX110, w ∈ tbW := fun w h => tbs44 w (List.mem_append_left _ (List.mem_append_left _ (List.mem_append_left _ (List.mem_append_left _ (List.mem_append_left _ (List.mem_append_left _ (List.mem_append_left _ (List.mem_append_left _ (List.mem_append_left _ (List.mem_append_right _ h))))))))))
theorem tbfX8 : ∀ w ∈ wsX80, w ∈ tbW := fun w h => tbs44 w (List.mem_append_left _ (List.mem_append_left _ (List.mem_append_left _ (List.mem_append_left _ (List.mem_append_left _ (List.mem_append_left _ (List.mem_append_left _ (List.mem_append_left _ (List.mem_append_right _ h)))))))))
theorem tbfX5 : ∀ w ∈ wsX50, w ∈ tbW := fun w h => tbs44 w (List.mem_append_left _ (List.mem_append_left _ (List.mem_append_left _ (List.mem_append_left _ (List.mem_append_left _ (List.mem_append_left _ (List.mem_append_left _ (List.mem_append_right _ h))))))))
theorem tbfX0 : ∀ w ∈ wsX00, w ∈ tbW := fun w h => tbs44 w (List.mem_append_left _ (List.mem_append_left _ (List.mem_append_left _ (List.mem_append_left _ (List.mem_append_left _ (List.mem_append_left _ (List.mem_append_right _ h)))))))
theorem tbfX9 : ∀ w ∈ wsX90, w ∈ tbW := fun w h => tbs44 w (List.mem_append_left _ (List.mem_append_left _ (List.mem_append_left _ (List.mem_append_left _ (List.mem_append_left _ (List.mem_append_right _ h))))))
theorem tbfX7 : ∀ w ∈ wsX70, w ∈ tbW := fun w h => tbs44 w (List.mem_append_left _ (List.mem_append_left _ (List.mem_append_left _ (List.mem_append_left _ (List.mem_append_right _ h)))))
theorem tbfX6 : ∀ w ∈ wsX60, w ∈ tbW := fun w h => tbs44 w (List.mem_append_left _ (List.mem_append_left _ (List.mem_append_left _ (List.mem_append_right _ h))))
theorem tbfX3 : ∀ w ∈ wsX30, w ∈ tbW := fun w h => tbs44 w (List.mem_append_left _ (List.mem_append_left _ (List.mem_append_right _ h)))
theorem tbfX4 : ∀ w ∈ wsX40, w ∈ tbW := fun w h => tbs44 w (List.mem_append_left _ (List.mem_append_right _ h))
theorem tbfX2 : ∀ w ∈ wsX20, w ∈ tbW := fun w h => tbs44 w (List.mem_append_right _ h)
set_option maxRecDepth 20000 in
theorem tbg0 : GoodIn lw_tbl tbc0 := goodIn_up tbj0 (goodIn_r (big := (k2_sels lw_privs)) _ [0, 1, 2, 3, 4, 5, 6, 7, 8, 9, 10, 11, 12, 13, 14, 15, 16, 17, 18, 19, 20, 21, 22, 23, 24, 25, 26, 27, 28, 29] (by decide +kernel) (by decide +kernel))
set_option maxRecDepth 20000 in
theorem tbg1 : GoodIn lw_tbl tbc1 := goodIn_up tbj0 (goodIn_r (big := (k2_sels lw_privs)) _ [30, 31, 32, 33, 34, 35, 36, 37, 38, 39, 40, 41, 42, 43, 44, 45, 46, 47, 48, 49] (by decide +kernel) (by decide +kernel))
set_option maxRecDepth 20000 in
theorem tbg2 : GoodIn lw_tbl tbc2 := goodIn_up tbj1 (goodIn_r (big := tables_1_1) _ [1, 2, 3, 4, 5, 6, 7, 8, 9, 10, 11, 12, 13, 14, 15, 16, 17, 18, 19, 20, 21, 22, 23, 24, 26, 27, 29, 30, 31, 32] (by decide +kernel) (by decide +kernel))
set_option maxRecDepth 20000 in
theorem tbg3 : GoodIn lw_tbl tbc3 := goodIn_up tbj1 (goodIn_r (big := tables_1_1) _ [34, 35, 36, 37, 38, 39, 45, 46, 47, 48, 49, 51, 52, 53, 54, 55, 57, 58, 59, 60, 61, 62, 63, 64, 65, 66, 76, 77, 78, 79] (by decide +kernel) (by decide +kernel))
set_option maxRecDepth 20000 in
theorem tbg4 : GoodIn lw_tbl tbc4 := goodIn_up tbj1 (goodIn_r (big := tables_1_1) _ [80, 81, 82, 83, 84, 85, 86, 87, 88, 89, 90, 91, 92, 93, 94, 95, 96, 97, 98, 99, 100, 101, 102, 132, 133, 134, 135, 137, 138, 139] (by decide +kernel) (by decide +kernel))
set_option maxRecDepth 20000 in
theorem tbg5 : GoodIn lw_tbl tbc5 := goodIn_up tbj1 (goodIn_r (big := tables_1_1) _ [140, 141, 142, 143, 144, 145, 146, 147, 148, 149, 150, 151, 152, 153, 154, 155, 156, 176, 177, 178, 179, 181, 182, 183, 184, 185, 186, 187, 188, 189] (by decide +kernel) (by decide +kernel))
set_option maxRecDepth 20000 in
theorem tbg6 : GoodIn lw_tbl tbc6 := goodIn_up tbj1 (goodIn_r (big := tables_1_1) _ [203, 204, 205, 206, 207, 209, 210, 211, 212, 213, 214, 215, 216, 226, 227, 228, 229, 231, 232, 234, 235, 237, 238, 239] (by decide +kernel) (by decide +kernel))
set_option maxRecDepth 20000 in
theorem tbg7 : GoodIn lw_tbl tbc7 := goodIn_up tbj2 (goodIn_r (big := tables_1_2) _ [0, 1, 2, 10, 11, 12, 13, 15, 16, 17, 18, 19, 20, 21, 22, 23, 24, 25, 26, 27, 28, 29, 30, 31, 32, 33, 34, 35, 36, 37] (by decide +kernel) (by decide +kernel))
set_option maxRecDepth 20000 in
theorem tbg8 : GoodIn lw_tbl tbc8 := goodIn_up tbj2 (goodIn_r (big := tables_1_2) _ [38, 52, 53, 54, 55, 56, 58, 59, 61, 62, 63, 64, 65, 66, 67, 68, 69, 70, 71, 72, 73, 74, 75, 103, 104, 105, 106, 107, 108, 109] (by decide +kernel) (by decide +kernel))
set_option maxRecDepth 20000 in
theorem tbg9 : GoodIn lw_tbl tbc9 := goodIn_up tbj2 (goodIn_r (big := tables_1_2) _ [110, 111, 112, 134, 135, 136, 138, 139, 140, 142, 143, 144, 146, 147, 148, 150, 151, 152, 154, 155, 156, 158, 159, 160, 161, 163, 164, 165, 167, 168] (by decide +kernel) (by decide +kernel))
set_option maxRecDepth 20000 in
theorem tbg10 : GoodIn lw_tbl tbc10 := goodIn_up tbj2 (goodIn_r (big := tables_1_2) _ [169, 171, 172, 173, 176, 177, 178, 180, 181, 182, 184, 185, 186, 188, 190, 191, 192, 194, 195, 196, 198, 199, 201, 202, 204, 206, 207, 209, 210, 212] (by decide +kernel) (by decide +kernel))
set_option maxRecDepth 20000 in
theorem tbg11 : GoodIn lw_tbl tbc11 := goodIn_up tbj2 (goodIn_r (big := tables_1_2) _ [213, 215, 216, 218, 219, 220, 222, 224, 226, 228, 229, 230, 232, 233, 234, 236, 237, 238] (by decide +kernel) (by decide +kernel))
set_option maxRecDepth 20000 in
theorem tbg12 : GoodIn lw_tbl tbc12 := goodIn_up tbj3 (goodIn_r (big := tables_1_3) _ [0, 1, 2, 3, 5, 6, 7, 9, 10, 11, 13, 15, 16, 17, 20, 21, 22, 27, 28, 29, 31, 32, 33, 35, 36, 38, 39, 40, 41, 43] (by decide +kernel) (by decide +kernel))
set_option maxRecDepth 20000 in
theorem tbg13 : GoodIn lw_tbl tbc13 := goodIn_up tbj3 (goodIn_r (big := tables_1_3) _ [44, 45, 48, 49, 50, 52, 53, 54, 56, 58, 59, 60, 62, 63, 64, 66, 67, 68, 70, 71, 72, 73, 74, 75, 79, 80, 81, 83, 84, 85] (by decide +kernel) (by decide +kernel))
set_option maxRecDepth 20000 in
theorem tbg14 : GoodIn lw_tbl tbc14 := goodIn_up tbj3 (goodIn_r (big := tables_1_3) _ [87, 88, 90, 91, 92, 94, 95, 97, 99, 100, 101, 104, 105, 106, 108, 109, 110, 112, 113, 114, 116, 117, 118, 119, 121, 122, 123, 125, 126, 127] (by decide +kernel) (by decide +kernel))
set_option maxRecDepth 20000 in
theorem tbg15 : GoodIn lw_tbl tbc15 := goodIn_up tbj3 (goodIn_r (big := tables_1_3) _ [129, 130, 131, 133, 134, 136, 137, 138, 140, 141, 142, 144, 145, 146, 148, 149, 150, 151, 153, 154, 155, 157, 158, 159, 161, 162, 163, 165, 166, 167] (by decide +kernel) (by decide +kernel))
set_option maxRecDepth 20000 in
theorem tbg16 : GoodIn lw_tbl tbc16 := goodIn_up tbj3 (goodIn_r (big := tables_1_3) _ [169, 170, 171, 173, 174, 175, 177, 178, 179, 181, 182, 183, 185, 186, 187, 189, 190, 191, 192, 194, 195, 196, 198, 199, 200, 202, 203, 204, 206, 207] (by decide +kernel) (by decide +kernel))
set_option maxRecDepth 20000 in
theorem tbg17 : GoodIn lw_tbl tbc17 := goodIn_up tbj3 (goodIn_r (big := tables_1_3) _ [208, 210, 211, 213, 214, 215, 217, 218, 219, 221, 222, 223, 225, 226, 227, 229, 230, 231, 232, 234, 235, 236, 238, 239] (by decide +kernel) (by decide +kernel))
set_option maxRecDepth 20000 in
theorem tbg18 : GoodIn lw_tbl tbc18 := goodIn_up tbj4 (goodIn_r (big := tables_1_4) _ [0, 2, 3, 4, 6, 7, 8, 10, 12, 14, 15, 16, 18, 19, 20, 21, 23, 24, 26, 28, 29, 30, 32, 33, 34, 36, 37, 38, 39, 41] (by decide +kernel) (by decide +kernel))
set_option maxRecDepth 20000 in
theorem tbg19 : GoodIn lw_tbl tbc19 := goodIn_up tbj4 (goodIn_r (big := tables_1_4) _ [42, 43, 44, 46, 47, 48, 50, 51, 52, 54, 55, 56, 58, 59, 60, 61, 63, 64, 65, 67, 68, 69, 70, 71, 73, 74, 75, 76, 77, 78] (by decide +kernel) (by decide +kernel))
set_option maxRecDepth 20000 in
theorem tbg20 : GoodIn lw_tbl tbc20 := goodIn_up tbj4 (goodIn_r (big := tables_1_4) _ [79, 81, 82, 83, 84, 86, 87, 88, 90, 91, 92, 93, 95, 96, 97, 99, 100, 101, 103, 104, 105, 106, 107, 109, 110, 111, 113, 114, 115, 116] (by decide +kernel) (by decide +kernel))
set_option maxRecDepth 20000 in
theorem tbg21 : GoodIn lw_tbl tbc21 := goodIn_up tbj4 (goodIn_r (big := tables_1_4) _ [117, 118, 120, 121, 122, 123, 124, 126, 127, 128, 130, 131, 132, 134, 135, 136, 138, 139, 140, 142, 144, 146, 147, 149, 150, 151, 153, 154, 155, 156] (by decide +kernel) (by decide +kernel))
set_option maxRecDepth 20000 in
theorem tbg22 : GoodIn lw_tbl tbc22 := goodIn_up tbj4 (goodIn_r (big := tables_1_4) _ [157, 159, 160, 161, 162, 163, 165, 166, 168, 169, 170, 172, 173, 175, 176, 177, 179, 180, 182, 183, 184, 186, 187, 189, 190, 192, 193, 194, 196, 197] (by decide +kernel) (by decide +kernel))
set_option maxRecDepth 20000 in
theorem tbg23 : GoodIn lw_tbl tbc23 := goodIn_up tbj4 (goodIn_r (big := tables_1_4) _ [198, 200, 201, 202, 204, 205, 206, 208, 210, 212, 213, 215, 216, 217, 219, 220, 221, 222, 224, 225, 227, 229, 231, 233, 235, 237, 239] (by decide +kernel) (by decide +kernel))
set_option maxRecDepth 20000 in
theorem tbg24 : GoodIn lw_tbl tbc24 := goodIn_up tbj5 (goodIn_r (big := tables_1_5) _ [1, 2, 3, 4, 5, 6, 7, 8, 9, 10, 11, 12, 13, 14, 15, 16, 17, 18, 19, 20, 21, 22, 23, 24, 25, 26, 27, 28, 29, 30] (by decide +kernel) (by decide +kernel))
set_option maxRecDepth 20000 in
theorem tbg25 : GoodIn lw_tbl tbc25 := goodIn_up tbj5 (goodIn_r (big := tables_1_5) _ [31, 32, 33, 34, 35, 36, 37, 38, 39, 40, 41, 42, 43, 44, 45, 46, 47, 48, 49, 50, 51, 52, 53, 54, 55, 56, 57, 58, 59, 179] (by decide +kernel) (by decide +kernel))
set_option maxRecDepth 20000 in
theorem tbg26 : GoodIn lw_tbl tbc26 := goodIn_up tbj5 (goodIn_r (big := tables_1_5) _ [180, 181, 183, 184, 185, 186, 188, 189, 191, 192, 193, 195, 197, 199, 201, 203, 204, 205, 206, 207, 209, 211, 213, 215, 217, 219, 220, 222, 224, 225] (by decide +kernel) (by decide +kernel))
set_option maxRecDepth 20000 in
theorem tbg27 : GoodIn lw_tbl tbc27 := goodIn_up tbj5 (goodIn_r (big := tables_1_5) _ [226, 228, 230, 232, 234, 235, 236, 238] (by decide +kernel) (by decide +kernel))
set_option maxRecDepth 20000 in
theorem tbg28 : GoodIn lw_tbl tbc28 := goodIn_up tbj6 (goodIn_r (big := tables_1_6) _ [0, 2, 4, 6, 8, 10, 12, 14, 16, 18, 20, 22, 24, 26, 28, 30, 32, 33, 34, 36, 37, 38, 40, 42, 44, 45, 46, 48, 49, 50] (by decide +kernel) (by decide +kernel))
set_option maxRecDepth 20000 in
theorem tbg29 : GoodIn lw_tbl tbc29 := goodIn_up tbj6 (goodIn_r (big := tables_1_6) _ [52, 53, 55, 57, 58, 60, 61, 62, 64, 66, 68, 69, 70, 72, 73, 74, 76, 77, 78, 80, 81, 82, 84, 85, 87, 89, 91, 93, 95, 97] (by decide +kernel) (by decide +kernel))
set_option maxRecDepth 20000 in
theorem tbg30 : GoodIn lw_tbl tbc30 := goodIn_up tbj6 (goodIn_r (big := tables_1_6) _ [99, 101, 103, 105, 107, 109, 111, 113, 115, 117, 118, 119, 121, 122, 123, 125, 126, 127, 128, 130, 131, 132, 133, 135, 137, 139, 141, 143, 144, 145] (by decide +kernel) (by decide +kernel))
set_option maxRecDepth 20000 in
theorem tbg31 : GoodIn lw_tbl tbc31 := goodIn_up tbj6 (goodIn_r (big := tables_1_6) _ [147, 149, 151, 153, 155, 157, 159, 160, 161, 162, 164, 166, 168, 169, 171, 173, 174, 175, 177, 179, 181, 182, 183, 185, 186, 188, 190, 191, 192, 194] (by decide +kernel) (by decide +kernel))
set_option maxRecDepth 20000 in
theorem tbg32 : GoodIn lw_tbl tbc32 := goodIn_up tbj6 (goodIn_r (big := tables_1_6) _ [195, 197, 199, 201, 203, 204, 205, 207, 208, 209, 211, 213, 215, 216, 217, 219, 221, 223, 224, 226, 227, 228, 230, 231, 232, 234, 235, 236, 238, 239] (by decide +kernel) (by decide +kernel))
set_option maxRecDepth 20000 in
theorem tbg33 : GoodIn lw_tbl tbc33 := goodIn_up tbj7 (goodIn_r (big := tables_1_7) _ [0, 2, 3, 5, 6, 7, 9, 10, 11, 13, 14, 15, 16, 17, 19, 20, 21] (by decide +kernel) (by decide +kernel))
set_option maxRecDepth 20000 in
theorem tbk34_0 : Cond.code yX10_init cX10_init 1 none ∈ tables_1_1 := List.mem_of_getElem? (i := 25) rfl
set_option maxRecDepth 20000 in
theorem tbk34_1 : Cond.code objectInit ⟨#[0xb1]⟩ 1 none ∈ tables_1_1 := List.mem_of_getElem? (i := 28) rfl
set_option maxRecDepth 20000 in
theorem tbk34_2 : Cond.code yX8_init cX8_init 1 none ∈ tables_1_1 := List.mem_of_getElem? (i := 33) rfl
set_option maxRecDepth 20000 in
theorem tbk34_3 : Cond.code yX5_init cX5_init 1 none ∈ tables_1_1 := List.mem_of_getElem? (i := 50) rfl
set_option maxRecDepth 20000 in
theorem tbk34_4 : Cond.code yX2_init cX2_init 1 none ∈ tables_1_1 := List.mem_of_getElem? (i := 56) rfl
set_option maxRecDepth 20000 in
theorem tbk34_5 : Cond.code yX0_init cX0_init 1 none ∈ tables_1_1 := List.mem_of_getElem? (i := 136) rfl
set_option maxRecDepth 20000 in
theorem tbk34_6 : Cond.code yX9_init cX9_init 2 none ∈ tables_1_1 := List.mem_of_getElem? (i := 180) rfl
set_option maxRecDepth 20000 in
theorem tbk34_7 : Cond.code yX7_init cX7_init 2 none ∈ tables_1_1 := List.mem_of_getElem? (i := 208) rfl
set_option maxRecDepth 20000 in
theorem tbk34_8 : Cond.code yX6_init cX6_init 1 none ∈ tables_1_1 := List.mem_of_getElem? (i := 230) rfl
set_option maxRecDepth 20000 in
theorem tbk34_9 : Cond.code yJ7_fill_53178 cJ7_fill_53178 4 none ∈ tables_1_1 := List.mem_of_getElem? (i := 236) rfl
theorem tbg34 : GoodIn lw_tbl tbc34 := goodIn_up tbj1 (goodIn_c tbk34_0 rfl (goodIn_c tbk34_1 rfl (goodIn_c tbk34_2 rfl (goodIn_c tbk34_3 rfl (goodIn_c tbk34_4 rfl (goodIn_c tbk34_5 rfl (goodIn_c tbk34_6 rfl (goodIn_c tbk34_7 rfl (goodIn_c tbk34_8 rfl (goodIn_c tbk34_9 rfl goodIn_nil))))))))))
set_option maxRecDepth 20000 in
theorem tbk35_0 : Cond.code yX3_init cX3_init 1 none ∈ tables_1_2 := List.mem_of_getElem? (i := 14) rfl
set_option maxRecDepth 20000 in
theorem tbk35_1 : Cond.code yX4_init cX4_init 3 none ∈ tables_1_2 := List.mem_of_getElem? (i := 57) rfl
set_option maxRecDepth 20000 in
theorem tbk35_2 : Cond.code yX10_feed cX10_feed 3 (some .int) ∈ tables_1_2 := List.mem_of_getElem? (i := 137) rfl
set_option maxRecDepth 20000 in
theorem tbk35_3 : Cond.code yX8_push cX8_push 4 (some .boolean) ∈ tables_1_2 := List.mem_of_getElem? (i := 141) rfl
set_option maxRecDepth 20000 in
theorem tbk35_4 : Cond.code yX10_end cX10_end 3 (some .int) ∈ tables_1_2 := List.mem_of_getElem? (i := 145) rfl
set_option maxRecDepth 20000 in
theorem tbk35_5 : Cond.code yX10_text cX10_text 3 (some .int) ∈ tables_1_2 := List.mem_of_getElem? (i := 149) rfl
set_option maxRecDepth 20000 in
theorem tbk35_6 : Cond.code yX4_readText cX4_readText 4 (some .int) ∈ tables_1_2 := List.mem_of_getElem? (i := 153) rfl
set_option maxRecDepth 20000 in
theorem tbk35_7 : Cond.code yX3_reset cX3_reset 1 none ∈ tables_1_2 := List.mem_of_getElem? (i := 157) rfl
set_option maxRecDepth 20000 in
theorem tbk35_8 : Cond.code yX4_step cX4_step 2 none ∈ tables_1_2 := List.mem_of_getElem? (i := 162) rfl
set_option maxRecDepth 20000 in
theorem tbk35_9 : Cond.code yX4_skipWithin cX4_skipWithin 3 none ∈ tables_1_2 := List.mem_of_getElem? (i := 166) rfl
set_option maxRecDepth 20000 in
theorem tbk35_10 : Cond.code yX4_valueNumber cX4_valueNumber 2 none ∈ tables_1_2 := List.mem_of_getElem? (i := 170) rfl
set_option maxRecDepth 20000 in
theorem tbk35_11 : Cond.code yX4_refuse cX4_refuse 3 none ∈ tables_1_2 := List.mem_of_getElem? (i := 174) rfl
set_option maxRecDepth 20000 in
theorem tbk35_12 : Cond.code yX4_isWord cX4_isWord 3 (some .boolean) ∈ tables_1_2 := List.mem_of_getElem? (i := 179) rfl
set_option maxRecDepth 20000 in
theorem tbk35_13 : Cond.code yJ0_length_8abf5 cJ0_length_8abf5 1 (some .int) ∈ tables_1_2 := List.mem_of_getElem? (i := 183) rfl
set_option maxRecDepth 20000 in
theorem tbk35_14 : Cond.code yJ0_coder_7d493 cJ0_coder_7d493 1 (some .byte) ∈ tables_1_2 := List.mem_of_getElem? (i := 187) rfl
set_option maxRecDepth 20000 in
theorem tbk35_15 : Cond.code yJ0_charAt_5068e cJ0_charAt_5068e 2 (some .char) ∈ tables_1_2 := List.mem_of_getElem? (i := 193) rfl
set_option maxRecDepth 20000 in
theorem tbk35_16 : Cond.code yJ0_isLatin1_aae02 cJ0_isLatin1_aae02 1 (some .boolean) ∈ tables_1_2 := List.mem_of_getElem? (i := 197) rfl
set_option maxRecDepth 20000 in
theorem tbk35_17 : Cond.code yJ1_charAt_3b067 cJ1_charAt_3b067 2 (some .char) ∈ tables_1_2 := List.mem_of_getElem? (i := 200) rfl
set_option maxRecDepth 20000 in
theorem tbk35_18 : Cond.code yJ0_checkIndex_df160 cJ0_checkIndex_df160 2 none ∈ tables_1_2 := List.mem_of_getElem? (i := 203) rfl
set_option maxRecDepth 20000 in
theorem tbk35_19 : Cond.code yJ3_checkIndex_8e157 cJ3_checkIndex_8e157 3 (some .int) ∈ tables_1_2 := List.mem_of_getElem? (i := 208) rfl
set_option maxRecDepth 20000 in
theorem tbk35_20 : Cond.code yJ2_charAt_3b067 cJ2_charAt_3b067 2 (some .char) ∈ tables_1_2 := List.mem_of_getElem? (i := 211) rfl
set_option maxRecDepth 20000 in
theorem tbk35_21 : Cond.code yJ2_checkIndex_2214a cJ2_checkIndex_2214a 2 none ∈ tables_1_2 := List.mem_of_getElem? (i := 214) rfl
set_option maxRecDepth 20000 in
theorem tbk35_22 : Cond.code yJ2_length_9d52b cJ2_length_9d52b 1 (some .int) ∈ tables_1_2 := List.mem_of_getElem? (i := 217) rfl
set_option maxRecDepth 20000 in
theorem tbk35_23 : Cond.code yJ2_getChar_3b067 cJ2_getChar_3b067 2 (some .char) ∈ tables_1_2 := List.mem_of_getElem? (i := 221) rfl
set_option maxRecDepth 20000 in
theorem tbk35_24 : Cond.code yX4_readRail cX4_readRail 4 none ∈ tables_1_2 := List.mem_of_getElem? (i := 231) rfl
set_option maxRecDepth 20000 in
theorem tbk35_25 : Cond.code yX3_addRail cX3_addRail 2 none ∈ tables_1_2 := List.mem_of_getElem? (i := 235) rfl
set_option maxRecDepth 20000 in
theorem tbk35_26 : Cond.code yX3_setNumber cX3_setNumber 4 none ∈ tables_1_2 := List.mem_of_getElem? (i := 239) rfl
theorem tbg35 : GoodIn lw_tbl tbc35 := goodIn_up tbj2 (goodIn_c tbk35_0 rfl (goodIn_c tbk35_1 rfl (goodIn_c tbk35_2 rfl (goodIn_c tbk35_3 rfl (goodIn_c tbk35_4 rfl (goodIn_c tbk35_5 rfl (goodIn_c tbk35_6 rfl (goodIn_c tbk35_7 rfl (goodIn_c tbk35_8 rfl (goodIn_c tbk35_9 rfl (goodIn_c tbk35_10 rfl (goodIn_c tbk35_11 rfl (goodIn_c tbk35_12 rfl (goodIn_c tbk35_13 rfl (goodIn_c tbk35_14 rfl (goodIn_c tbk35_15 rfl (goodIn_c tbk35_16 rfl (goodIn_c tbk35_17 rfl (goodIn_c tbk35_18 rfl (goodIn_c tbk35_19 rfl (goodIn_c tbk35_20 rfl (goodIn_c tbk35_21 rfl (goodIn_c tbk35_22 rfl (goodIn_c tbk35_23 rfl (goodIn_c tbk35_24 rfl (goodIn_c tbk35_25 rfl (goodIn_c tbk35_26 rfl goodIn_nil)))))))))))))))))))))))))))
set_option maxRecDepth 20000 in
theorem tbk36_0 : Cond.code yX4_takeTurn cX4_takeTurn 2 none ∈ tables_1_3 := List.mem_of_getElem? (i := 4) rfl
set_option maxRecDepth 20000 in
theorem tbk36_1 : Cond.code yX4_railNamed cX4_railNamed 2 (some .int) ∈ tables_1_3 := List.mem_of_getElem? (i := 8) rfl
set_option maxRecDepth 20000 in
theorem tbk36_2 : Cond.code yX4_takeNumber cX4_takeNumber 4 (some .int) ∈ tables_1_3 := List.mem_of_getElem? (i := 12) rfl
set_option maxRecDepth 20000 in
theorem tbk36_3 : Cond.code yX4_readWith cX4_readWith 2 none ∈ tables_1_3 := List.mem_of_getElem? (i := 18) rfl
set_option maxRecDepth 20000 in
theorem tbk36_4 : Cond.code yX4_takeOnce cX4_takeOnce 2 none ∈ tables_1_3 := List.mem_of_getElem? (i := 23) rfl
set_option maxRecDepth 20000 in
theorem tbk36_5 : Cond.code yX4_readFormula cX4_readFormula 5 none ∈ tables_1_3 := List.mem_of_getElem? (i := 30) rfl
set_option maxRecDepth 20000 in
theorem tbk36_6 : Cond.code yX4_openDepth cX4_openDepth 2 none ∈ tables_1_3 := List.mem_of_getElem? (i := 34) rfl
set_option maxRecDepth 20000 in
theorem tbk36_7 : Cond.code yJ7_fill_d0a16 cJ7_fill_d0a16 5 none ∈ tables_1_3 := List.mem_of_getElem? (i := 37) rfl
set_option maxRecDepth 20000 in
theorem tbk36_8 : Cond.code yX4_takeUnit cX4_takeUnit 2 (some .boolean) ∈ tables_1_3 := List.mem_of_getElem? (i := 42) rfl
set_option maxRecDepth 20000 in
theorem tbk36_9 : Cond.code yX4_isSign cX4_isSign 2 (some .boolean) ∈ tables_1_3 := List.mem_of_getElem? (i := 46) rfl
set_option maxRecDepth 20000 in
theorem tbk36_10 : Cond.code yX4_joinPart cX4_joinPart 4 none ∈ tables_1_3 := List.mem_of_getElem? (i := 51) rfl
set_option maxRecDepth 20000 in
theorem tbk36_11 : Cond.code yX3_number cX3_number 3 (some .int) ∈ tables_1_3 := List.mem_of_getElem? (i := 55) rfl
set_option maxRecDepth 20000 in
theorem tbk36_12 : Cond.code yX4_noteUse cX4_noteUse 2 none ∈ tables_1_3 := List.mem_of_getElem? (i := 61) rfl
set_option maxRecDepth 20000 in
theorem tbk36_13 : Cond.code yX4_joinAny cX4_joinAny 2 none ∈ tables_1_3 := List.mem_of_getElem? (i := 65) rfl
set_option maxRecDepth 20000 in
theorem tbk36_14 : Cond.code yX4_closeDepth cX4_closeDepth 2 none ∈ tables_1_3 := List.mem_of_getElem? (i := 69) rfl
set_option maxRecDepth 20000 in
theorem tbk36_15 : Cond.code yX4_readRule cX4_readRule 1 none ∈ tables_1_3 := List.mem_of_getElem? (i := 76) rfl
set_option maxRecDepth 20000 in
theorem tbk36_16 : Cond.code yX4_takeSign cX4_takeSign 2 none ∈ tables_1_3 := List.mem_of_getElem? (i := 82) rfl
set_option maxRecDepth 20000 in
theorem tbk36_17 : Cond.code yX4_findNotTold cX4_findNotTold 3 none ∈ tables_1_3 := List.mem_of_getElem? (i := 86) rfl
set_option maxRecDepth 20000 in
theorem tbk36_18 : Cond.code Lib.Math.min.name Lib.Math.min.code 2 (some .int) ∈ tables_1_3 := List.mem_of_getElem? (i := 89) rfl
set_option maxRecDepth 20000 in
theorem tbk36_19 : Cond.code yX5_reset cX5_reset 3 none ∈ tables_1_3 := List.mem_of_getElem? (i := 93) rfl
set_option maxRecDepth 20000 in
theorem tbk36_20 : Cond.code yX10_forgetReckoned cX10_forgetReckoned 1 none ∈ tables_1_3 := List.mem_of_getElem? (i := 98) rfl
set_option maxRecDepth 20000 in
theorem tbk36_21 : Cond.code yX9_forget cX9_forget 2 none ∈ tables_1_3 := List.mem_of_getElem? (i := 102) rfl
set_option maxRecDepth 20000 in
theorem tbk36_22 : Cond.code yX10_fault cX10_fault 1 (some .int) ∈ tables_1_3 := List.mem_of_getElem? (i := 107) rfl
set_option maxRecDepth 20000 in
theorem tbk36_23 : Cond.code yX10_rail cX10_rail 3 (some .int) ∈ tables_1_3 := List.mem_of_getElem? (i := 111) rfl
set_option maxRecDepth 20000 in
theorem tbk36_24 : Cond.code yX3_hasRail cX3_hasRail 2 (some .boolean) ∈ tables_1_3 := List.mem_of_getElem? (i := 115) rfl
set_option maxRecDepth 20000 in
theorem tbk36_25 : Cond.code yX10_rule cX10_rule 2 (some .int) ∈ tables_1_3 := List.mem_of_getElem? (i := 120) rfl
set_option maxRecDepth 20000 in
theorem tbk36_26 : Cond.code yX10_holds cX10_holds 3 (some .int) ∈ tables_1_3 := List.mem_of_getElem? (i := 124) rfl
set_option maxRecDepth 20000 in
theorem tbk36_27 : Cond.code yX3_allRails cX3_allRails 1 (some .int) ∈ tables_1_3 := List.mem_of_getElem? (i := 128) rfl
set_option maxRecDepth 20000 in
theorem tbk36_28 : Cond.code yX3_holdsWith cX3_holdsWith 3 (some .boolean) ∈ tables_1_3 := List.mem_of_getElem? (i := 132) rfl
set_option maxRecDepth 20000 in
theorem tbk36_29 : Cond.code yX10_asNumber cX10_asNumber 1 (some .int) ∈ tables_1_3 := List.mem_of_getElem? (i := 135) rfl
theorem tbg36 : GoodIn lw_tbl tbc36 := goodIn_up tbj3 (goodIn_c tbk36_0 rfl (goodIn_c tbk36_1 rfl (goodIn_c tbk36_2 rfl (goodIn_c tbk36_3 rfl (goodIn_c tbk36_4 rfl (goodIn_c tbk36_5 rfl (goodIn_c tbk36_6 rfl (goodIn_c tbk36_7 rfl (goodIn_c tbk36_8 rfl (goodIn_c tbk36_9 rfl (goodIn_c tbk36_10 rfl (goodIn_c tbk36_11 rfl (goodIn_c tbk36_12 rfl (goodIn_c tbk36_13 rfl (goodIn_c tbk36_14 rfl (goodIn_c tbk36_15 rfl (goodIn_c tbk36_16 rfl (goodIn_c tbk36_17 rfl (goodIn_c tbk36_18 rfl (goodIn_c tbk36_19 rfl (goodIn_c tbk36_20 rfl (goodIn_c tbk36_21 rfl (goodIn_c tbk36_22 rfl (goodIn_c tbk36_23 rfl (goodIn_c tbk36_24 rfl (goodIn_c tbk36_25 rfl (goodIn_c tbk36_26 rfl (goodIn_c tbk36_27 rfl (goodIn_c tbk36_28 rfl (goodIn_c tbk36_29 rfl goodIn_nil))))))))))))))))))))))))))))))
set_option maxRecDepth 20000 in
theorem tbk37_0 : Cond.code yX10_words cX10_words 3 (some .int) ∈ tables_1_3 := List.mem_of_getElem? (i := 139) rfl
set_option maxRecDepth 20000 in
theorem tbk37_1 : Cond.code yX3_countLeastSets cX3_countLeastSets 4 (some .int) ∈ tables_1_3 := List.mem_of_getElem? (i := 143) rfl
set_option maxRecDepth 20000 in
theorem tbk37_2 : Cond.code yX3_isLeastSet cX3_isLeastSet 4 (some .boolean) ∈ tables_1_3 := List.mem_of_getElem? (i := 147) rfl
set_option maxRecDepth 20000 in
theorem tbk37_3 : Cond.code yX3_leastSet cX3_leastSet 5 (some .int) ∈ tables_1_3 := List.mem_of_getElem? (i := 152) rfl
set_option maxRecDepth 20000 in
theorem tbk37_4 : Cond.code yX10_key cX10_key 3 (some .int) ∈ tables_1_3 := List.mem_of_getElem? (i := 156) rfl
set_option maxRecDepth 20000 in
theorem tbk37_5 : Cond.code yX5_turnKey cX5_turnKey 3 none ∈ tables_1_3 := List.mem_of_getElem? (i := 160) rfl
set_option maxRecDepth 20000 in
theorem tbk37_6 : Cond.code yX10_dead cX10_dead 5 (some .int) ∈ tables_1_3 := List.mem_of_getElem? (i := 164) rfl
set_option maxRecDepth 20000 in
theorem tbk37_7 : Cond.code yX10_time cX10_time 4 (some .int) ∈ tables_1_3 := List.mem_of_getElem? (i := 168) rfl
set_option maxRecDepth 20000 in
theorem tbk37_8 : Cond.code yX10_go cX10_go 4 (some .int) ∈ tables_1_3 := List.mem_of_getElem? (i := 172) rfl
set_option maxRecDepth 20000 in
theorem tbk37_9 : Cond.code yX5_passTick cX5_passTick 3 none ∈ tables_1_3 := List.mem_of_getElem? (i := 176) rfl
set_option maxRecDepth 20000 in
theorem tbk37_10 : Cond.code yX5_settle cX5_settle 4 none ∈ tables_1_3 := List.mem_of_getElem? (i := 180) rfl
set_option maxRecDepth 20000 in
theorem tbk37_11 : Cond.code yX5_railsThatMay cX5_railsThatMay 5 (some .int) ∈ tables_1_3 := List.mem_of_getElem? (i := 184) rfl
set_option maxRecDepth 20000 in
theorem tbk37_12 : Cond.code yX5_railsThatAre cX5_railsThatAre 4 (some .int) ∈ tables_1_3 := List.mem_of_getElem? (i := 188) rfl
set_option maxRecDepth 20000 in
theorem tbk37_13 : Cond.code yX5_changeRails cX5_changeRails 6 (some .boolean) ∈ tables_1_3 := List.mem_of_getElem? (i := 193) rfl
set_option maxRecDepth 20000 in
theorem tbk37_14 : Cond.code yX5_nextState cX5_nextState 5 (some .int) ∈ tables_1_3 := List.mem_of_getElem? (i := 197) rfl
set_option maxRecDepth 20000 in
theorem tbk37_15 : Cond.code yX5_become cX5_become 3 none ∈ tables_1_3 := List.mem_of_getElem? (i := 201) rfl
set_option maxRecDepth 20000 in
theorem tbk37_16 : Cond.code yX2_note cX2_note 4 none ∈ tables_1_3 := List.mem_of_getElem? (i := 205) rfl
set_option maxRecDepth 20000 in
theorem tbk37_17 : Cond.code yX5_sumDraw cX5_sumDraw 4 (some .int) ∈ tables_1_3 := List.mem_of_getElem? (i := 209) rfl
set_option maxRecDepth 20000 in
theorem tbk37_18 : Cond.code Lib.Math.max.name Lib.Math.max.code 2 (some .int) ∈ tables_1_3 := List.mem_of_getElem? (i := 212) rfl
set_option maxRecDepth 20000 in
theorem tbk37_19 : Cond.code yX5_whyTrip cX5_whyTrip 5 (some .int) ∈ tables_1_3 := List.mem_of_getElem? (i := 216) rfl
set_option maxRecDepth 20000 in
theorem tbk37_20 : Cond.code yX5_trip cX5_trip 3 none ∈ tables_1_3 := List.mem_of_getElem? (i := 220) rfl
set_option maxRecDepth 20000 in
theorem tbk37_21 : Cond.code yX5_growOlder cX5_growOlder 3 none ∈ tables_1_3 := List.mem_of_getElem? (i := 224) rfl
set_option maxRecDepth 20000 in
theorem tbk37_22 : Cond.code yX10_now cX10_now 2 (some .int) ∈ tables_1_3 := List.mem_of_getElem? (i := 228) rfl
set_option maxRecDepth 20000 in
theorem tbk37_23 : Cond.code yX10_is cX10_is 3 (some .int) ∈ tables_1_3 := List.mem_of_getElem? (i := 233) rfl
set_option maxRecDepth 20000 in
theorem tbk37_24 : Cond.code yX10_happened cX10_happened 3 (some .int) ∈ tables_1_3 := List.mem_of_getElem? (i := 237) rfl
theorem tbg37 : GoodIn lw_tbl tbc37 := goodIn_up tbj3 (goodIn_c tbk37_0 rfl (goodIn_c tbk37_1 rfl (goodIn_c tbk37_2 rfl (goodIn_c tbk37_3 rfl (goodIn_c tbk37_4 rfl (goodIn_c tbk37_5 rfl (goodIn_c tbk37_6 rfl (goodIn_c tbk37_7 rfl (goodIn_c tbk37_8 rfl (goodIn_c tbk37_9 rfl (goodIn_c tbk37_10 rfl (goodIn_c tbk37_11 rfl (goodIn_c tbk37_12 rfl (goodIn_c tbk37_13 rfl (goodIn_c tbk37_14 rfl (goodIn_c tbk37_15 rfl (goodIn_c tbk37_16 rfl (goodIn_c tbk37_17 rfl (goodIn_c tbk37_18 rfl (goodIn_c tbk37_19 rfl (goodIn_c tbk37_20 rfl (goodIn_c tbk37_21 rfl (goodIn_c tbk37_22 rfl (goodIn_c tbk37_23 rfl (goodIn_c tbk37_24 rfl goodIn_nil)))))))))))))))))))))))))
set_option maxRecDepth 20000 in
theorem tbk38_0 : Cond.code yX10_up cX10_up 4 (some .int) ∈ tables_1_4 := List.mem_of_getElem? (i := 1) rfl
set_option maxRecDepth 20000 in
theorem tbk38_1 : Cond.code yX3_upAmong cX3_upAmong 6 (some .int) ∈ tables_1_4 := List.mem_of_getElem? (i := 5) rfl
set_option maxRecDepth 20000 in
theorem tbk38_2 : Cond.code yX10_when cX10_when 3 (some .int) ∈ tables_1_4 := List.mem_of_getElem? (i := 9) rfl
set_option maxRecDepth 20000 in
theorem tbk38_3 : Cond.code yX10_followTimes cX10_followTimes 1 none ∈ tables_1_4 := List.mem_of_getElem? (i := 13) rfl
set_option maxRecDepth 20000 in
theorem tbk38_4 : Cond.code yX0_setWaits cX0_setWaits 3 none ∈ tables_1_4 := List.mem_of_getElem? (i := 17) rfl
set_option maxRecDepth 20000 in
theorem tbk38_5 : Cond.code yX0_copyTakes cX0_copyTakes 2 none ∈ tables_1_4 := List.mem_of_getElem? (i := 22) rfl
set_option maxRecDepth 20000 in
theorem tbk38_6 : Cond.code yX10_alive cX10_alive 1 (some .int) ∈ tables_1_4 := List.mem_of_getElem? (i := 27) rfl
set_option maxRecDepth 20000 in
theorem tbk38_7 : Cond.code yX0_follow cX0_follow 7 none ∈ tables_1_4 := List.mem_of_getElem? (i := 31) rfl
set_option maxRecDepth 20000 in
theorem tbk38_8 : Cond.code yX0_begin cX0_begin 5 (some .int) ∈ tables_1_4 := List.mem_of_getElem? (i := 35) rfl
set_option maxRecDepth 20000 in
theorem tbk38_9 : Cond.code yX0_soonest cX0_soonest 4 (some .int) ∈ tables_1_4 := List.mem_of_getElem? (i := 40) rfl
set_option maxRecDepth 20000 in
theorem tbk38_10 : Cond.code yX0_setTakes cX0_setTakes 4 none ∈ tables_1_4 := List.mem_of_getElem? (i := 45) rfl
set_option maxRecDepth 20000 in
theorem tbk38_11 : Cond.code yX0_isUp cX0_isUp 2 (some .boolean) ∈ tables_1_4 := List.mem_of_getElem? (i := 49) rfl
set_option maxRecDepth 20000 in
theorem tbk38_12 : Cond.code yX10_ahead cX10_ahead 6 (some .int) ∈ tables_1_4 := List.mem_of_getElem? (i := 53) rfl
set_option maxRecDepth 20000 in
theorem tbk38_13 : Cond.code yX3_countWays cX3_countWays 3 (some .int) ∈ tables_1_4 := List.mem_of_getElem? (i := 57) rfl
set_option maxRecDepth 20000 in
theorem tbk38_14 : Cond.code yX9_mostBehind cX9_mostBehind 10 (some .int) ∈ tables_1_4 := List.mem_of_getElem? (i := 62) rfl
set_option maxRecDepth 20000 in
theorem tbk38_15 : Cond.code yX3_sourcesOf cX3_sourcesOf 5 (some .int) ∈ tables_1_4 := List.mem_of_getElem? (i := 66) rfl
set_option maxRecDepth 20000 in
theorem tbk38_16 : Cond.code yX9_start cX9_start 2 none ∈ tables_1_4 := List.mem_of_getElem? (i := 72) rfl
set_option maxRecDepth 20000 in
theorem tbk38_17 : Cond.code yX9_nextWay cX9_nextWay 4 (some .boolean) ∈ tables_1_4 := List.mem_of_getElem? (i := 80) rfl
set_option maxRecDepth 20000 in
theorem tbk38_18 : Cond.code yX10_drawn cX10_drawn 2 (some .int) ∈ tables_1_4 := List.mem_of_getElem? (i := 85) rfl
set_option maxRecDepth 20000 in
theorem tbk38_19 : Cond.code yX0_drawnAt cX0_drawnAt 5 (some .int) ∈ tables_1_4 := List.mem_of_getElem? (i := 89) rfl
set_option maxRecDepth 20000 in
theorem tbk38_20 : Cond.code yX10_peak cX10_peak 2 (some .int) ∈ tables_1_4 := List.mem_of_getElem? (i := 94) rfl
set_option maxRecDepth 20000 in
theorem tbk38_21 : Cond.code yX9_findPeaks cX9_findPeaks 6 none ∈ tables_1_4 := List.mem_of_getElem? (i := 98) rfl
set_option maxRecDepth 20000 in
theorem tbk38_22 : Cond.code yX0_findPeak cX0_findPeak 4 none ∈ tables_1_4 := List.mem_of_getElem? (i := 102) rfl
set_option maxRecDepth 20000 in
theorem tbk38_23 : Cond.code yX10_stagger cX10_stagger 2 (some .int) ∈ tables_1_4 := List.mem_of_getElem? (i := 108) rfl
set_option maxRecDepth 20000 in
theorem tbk38_24 : Cond.code yX7_findRow cX7_findRow 8 none ∈ tables_1_4 := List.mem_of_getElem? (i := 112) rfl
set_option maxRecDepth 20000 in
theorem tbk38_25 : Cond.code yX7_keepIfBelowLimit cX7_keepIfBelowLimit 2 none ∈ tables_1_4 := List.mem_of_getElem? (i := 119) rfl
set_option maxRecDepth 20000 in
theorem tbk38_26 : Cond.code yX7_nextRow cX7_nextRow 3 (some .boolean) ∈ tables_1_4 := List.mem_of_getElem? (i := 125) rfl
set_option maxRecDepth 20000 in
theorem tbk38_27 : Cond.code yX10_adopt cX10_adopt 2 (some .int) ∈ tables_1_4 := List.mem_of_getElem? (i := 129) rfl
set_option maxRecDepth 20000 in
theorem tbk38_28 : Cond.code yX3_setWaits cX3_setWaits 3 none ∈ tables_1_4 := List.mem_of_getElem? (i := 133) rfl
set_option maxRecDepth 20000 in
theorem tbk38_29 : Cond.code yX10_down cX10_down 2 (some .int) ∈ tables_1_4 := List.mem_of_getElem? (i := 137) rfl
theorem tbg38 : GoodIn lw_tbl tbc38 := goodIn_up tbj4 (goodIn_c tbk38_0 rfl (goodIn_c tbk38_1 rfl (goodIn_c tbk38_2 rfl (goodIn_c tbk38_3 rfl (goodIn_c tbk38_4 rfl (goodIn_c tbk38_5 rfl (goodIn_c tbk38_6 rfl (goodIn_c tbk38_7 rfl (goodIn_c tbk38_8 rfl (goodIn_c tbk38_9 rfl (goodIn_c tbk38_10 rfl (goodIn_c tbk38_11 rfl (goodIn_c tbk38_12 rfl (goodIn_c tbk38_13 rfl (goodIn_c tbk38_14 rfl (goodIn_c tbk38_15 rfl (goodIn_c tbk38_16 rfl (goodIn_c tbk38_17 rfl (goodIn_c tbk38_18 rfl (goodIn_c tbk38_19 rfl (goodIn_c tbk38_20 rfl (goodIn_c tbk38_21 rfl (goodIn_c tbk38_22 rfl (goodIn_c tbk38_23 rfl (goodIn_c tbk38_24 rfl (goodIn_c tbk38_25 rfl (goodIn_c tbk38_26 rfl (goodIn_c tbk38_27 rfl (goodIn_c tbk38_28 rfl (goodIn_c tbk38_29 rfl goodIn_nil))))))))))))))))))))))))))))))
set_option maxRecDepth 20000 in
theorem tbk39_0 : Cond.code yX10_cut cX10_cut 4 (some .int) ∈ tables_1_4 := List.mem_of_getElem? (i := 141) rfl
set_option maxRecDepth 20000 in
theorem tbk39_1 : Cond.code yX10_canBeUp cX10_canBeUp 2 (some .boolean) ∈ tables_1_4 := List.mem_of_getElem? (i := 145) rfl
set_option maxRecDepth 20000 in
theorem tbk39_2 : Cond.code yX1_fewestThatCut cX1_fewestThatCut 7 (some .int) ∈ tables_1_4 := List.mem_of_getElem? (i := 148) rfl
set_option maxRecDepth 20000 in
theorem tbk39_3 : Cond.code yJ6_bitCount_0f7a4 cJ6_bitCount_0f7a4 1 (some .int) ∈ tables_1_4 := List.mem_of_getElem? (i := 152) rfl
set_option maxRecDepth 20000 in
theorem tbk39_4 : Cond.code yX1_isUpAmong cX1_isUpAmong 3 (some .boolean) ∈ tables_1_4 := List.mem_of_getElem? (i := 158) rfl
set_option maxRecDepth 20000 in
theorem tbk39_5 : Cond.code yX10_need cX10_need 4 (some .int) ∈ tables_1_4 := List.mem_of_getElem? (i := 164) rfl
set_option maxRecDepth 20000 in
theorem tbk39_6 : Cond.code yX1_fewestThatDo cX1_fewestThatDo 6 (some .int) ∈ tables_1_4 := List.mem_of_getElem? (i := 167) rfl
set_option maxRecDepth 20000 in
theorem tbk39_7 : Cond.code yX10_must cX10_must 2 (some .int) ∈ tables_1_4 := List.mem_of_getElem? (i := 171) rfl
set_option maxRecDepth 20000 in
theorem tbk39_8 : Cond.code yX1_neverWithout cX1_neverWithout 5 (some .int) ∈ tables_1_4 := List.mem_of_getElem? (i := 174) rfl
set_option maxRecDepth 20000 in
theorem tbk39_9 : Cond.code yX10_seen cX10_seen 2 (some .int) ∈ tables_1_4 := List.mem_of_getElem? (i := 178) rfl
set_option maxRecDepth 20000 in
theorem tbk39_10 : Cond.code yX1_thatExplain cX1_thatExplain 5 (some .int) ∈ tables_1_4 := List.mem_of_getElem? (i := 181) rfl
set_option maxRecDepth 20000 in
theorem tbk39_11 : Cond.code yX10_sheet cX10_sheet 4 (some .int) ∈ tables_1_4 := List.mem_of_getElem? (i := 185) rfl
set_option maxRecDepth 20000 in
theorem tbk39_12 : Cond.code yX6_hasPlace cX6_hasPlace 1 (some .boolean) ∈ tables_1_4 := List.mem_of_getElem? (i := 188) rfl
set_option maxRecDepth 20000 in
theorem tbk39_13 : Cond.code yX6_isLane cX6_isLane 1 (some .boolean) ∈ tables_1_4 := List.mem_of_getElem? (i := 191) rfl
set_option maxRecDepth 20000 in
theorem tbk39_14 : Cond.code yX6_renew cX6_renew 4 none ∈ tables_1_4 := List.mem_of_getElem? (i := 195) rfl
set_option maxRecDepth 20000 in
theorem tbk39_15 : Cond.code yX10_lay cX10_lay 4 (some .int) ∈ tables_1_4 := List.mem_of_getElem? (i := 199) rfl
set_option maxRecDepth 20000 in
theorem tbk39_16 : Cond.code yX6_put cX6_put 4 none ∈ tables_1_4 := List.mem_of_getElem? (i := 203) rfl
set_option maxRecDepth 20000 in
theorem tbk39_17 : Cond.code yX10_measured cX10_measured 6 (some .int) ∈ tables_1_4 := List.mem_of_getElem? (i := 207) rfl
set_option maxRecDepth 20000 in
theorem tbk39_18 : Cond.code yX10_compareSheet cX10_compareSheet 12 (some .int) ∈ tables_1_4 := List.mem_of_getElem? (i := 211) rfl
set_option maxRecDepth 20000 in
theorem tbk39_19 : Cond.code Lib.Math.abs.name Lib.Math.abs.code 1 (some .int) ∈ tables_1_4 := List.mem_of_getElem? (i := 214) rfl
set_option maxRecDepth 20000 in
theorem tbk39_20 : Cond.code yX10_count cX10_count 2 (some .int) ∈ tables_1_4 := List.mem_of_getElem? (i := 218) rfl
set_option maxRecDepth 20000 in
theorem tbk39_21 : Cond.code yX11_init cX11_init 2 none ∈ tables_1_4 := List.mem_of_getElem? (i := 223) rfl
set_option maxRecDepth 20000 in
theorem tbk39_22 : Cond.code yX11_firstDraft cX11_firstDraft 1 none ∈ tables_1_4 := List.mem_of_getElem? (i := 228) rfl
set_option maxRecDepth 20000 in
theorem tbk39_23 : Cond.code yX11_keepDraft cX11_keepDraft 2 none ∈ tables_1_4 := List.mem_of_getElem? (i := 232) rfl
set_option maxRecDepth 20000 in
theorem tbk39_24 : Cond.code yX11_begins cX11_begins 2 none ∈ tables_1_4 := List.mem_of_getElem? (i := 236) rfl
theorem tbg39 : GoodIn lw_tbl tbc39 := goodIn_up tbj4 (goodIn_c tbk39_0 rfl (goodIn_c tbk39_1 rfl (goodIn_c tbk39_2 rfl (goodIn_c tbk39_3 rfl (goodIn_c tbk39_4 rfl (goodIn_c tbk39_5 rfl (goodIn_c tbk39_6 rfl (goodIn_c tbk39_7 rfl (goodIn_c tbk39_8 rfl (goodIn_c tbk39_9 rfl (goodIn_c tbk39_10 rfl (goodIn_c tbk39_11 rfl (goodIn_c tbk39_12 rfl (goodIn_c tbk39_13 rfl (goodIn_c tbk39_14 rfl (goodIn_c tbk39_15 rfl (goodIn_c tbk39_16 rfl (goodIn_c tbk39_17 rfl (goodIn_c tbk39_18 rfl (goodIn_c tbk39_19 rfl (goodIn_c tbk39_20 rfl (goodIn_c tbk39_21 rfl (goodIn_c tbk39_22 rfl (goodIn_c tbk39_23 rfl (goodIn_c tbk39_24 rfl goodIn_nil)))))))))))))))))))))))))
set_option maxRecDepth 20000 in
theorem tbk40_0 : Cond.code yX11_of cX11_of 3 (some .int) ∈ tables_1_5 := List.mem_of_getElem? (i := 0) rfl
set_option maxRecDepth 20000 in
theorem tbk40_1 : Cond.code yX11_feed cX11_feed 4 (some .int) ∈ tables_1_5 := List.mem_of_getElem? (i := 182) rfl
set_option maxRecDepth 20000 in
theorem tbk40_2 : Cond.code yX11_end cX11_end 3 (some .int) ∈ tables_1_5 := List.mem_of_getElem? (i := 187) rfl
set_option maxRecDepth 20000 in
theorem tbk40_3 : Cond.code yX11_in cX11_in 6 (some .boolean) ∈ tables_1_5 := List.mem_of_getElem? (i := 190) rfl
set_option maxRecDepth 20000 in
theorem tbk40_4 : Cond.code yX11_text cX11_text 3 (some .int) ∈ tables_1_5 := List.mem_of_getElem? (i := 194) rfl
set_option maxRecDepth 20000 in
theorem tbk40_5 : Cond.code yX11_next cX11_next 2 none ∈ tables_1_5 := List.mem_of_getElem? (i := 198) rfl
set_option maxRecDepth 20000 in
theorem tbk40_6 : Cond.code yX11_look cX11_look 2 (some .int) ∈ tables_1_5 := List.mem_of_getElem? (i := 202) rfl
set_option maxRecDepth 20000 in
theorem tbk40_7 : Cond.code yX11_wants cX11_wants 3 none ∈ tables_1_5 := List.mem_of_getElem? (i := 210) rfl
set_option maxRecDepth 20000 in
theorem tbk40_8 : Cond.code yX11_readLine cX11_readLine 2 none ∈ tables_1_5 := List.mem_of_getElem? (i := 214) rfl
set_option maxRecDepth 20000 in
theorem tbk40_9 : Cond.code yX11_nameNow cX11_nameNow 2 (some .int) ∈ tables_1_5 := List.mem_of_getElem? (i := 218) rfl
set_option maxRecDepth 20000 in
theorem tbk40_10 : Cond.code yX11_is cX11_is 6 (some .boolean) ∈ tables_1_5 := List.mem_of_getElem? (i := 223) rfl
set_option maxRecDepth 20000 in
theorem tbk40_11 : Cond.code yX11_readRail cX11_readRail 5 none ∈ tables_1_5 := List.mem_of_getElem? (i := 229) rfl
set_option maxRecDepth 20000 in
theorem tbk40_12 : Cond.code yX11_readNumber cX11_readNumber 4 (some .int) ∈ tables_1_5 := List.mem_of_getElem? (i := 233) rfl
set_option maxRecDepth 20000 in
theorem tbk40_13 : Cond.code yX11_readWith cX11_readWith 3 none ∈ tables_1_5 := List.mem_of_getElem? (i := 239) rfl
theorem tbg40 : GoodIn lw_tbl tbc40 := goodIn_up tbj5 (goodIn_c tbk40_0 rfl (goodIn_c tbk40_1 rfl (goodIn_c tbk40_2 rfl (goodIn_c tbk40_3 rfl (goodIn_c tbk40_4 rfl (goodIn_c tbk40_5 rfl (goodIn_c tbk40_6 rfl (goodIn_c tbk40_7 rfl (goodIn_c tbk40_8 rfl (goodIn_c tbk40_9 rfl (goodIn_c tbk40_10 rfl (goodIn_c tbk40_11 rfl (goodIn_c tbk40_12 rfl (goodIn_c tbk40_13 rfl goodIn_nil))))))))))))))
set_option maxRecDepth 20000 in
theorem tbk41_0 : Cond.code yX11_readWhen cX11_readWhen 1 none ∈ tables_1_6 := List.mem_of_getElem? (i := 3) rfl
set_option maxRecDepth 20000 in
theorem tbk41_1 : Cond.code yX11_readFormula cX11_readFormula 2 none ∈ tables_1_6 := List.mem_of_getElem? (i := 7) rfl
set_option maxRecDepth 20000 in
theorem tbk41_2 : Cond.code yX11_readUnit cX11_readUnit 1 none ∈ tables_1_6 := List.mem_of_getElem? (i := 11) rfl
set_option maxRecDepth 20000 in
theorem tbk41_3 : Cond.code yX11_holdsBack cX11_holdsBack 2 none ∈ tables_1_6 := List.mem_of_getElem? (i := 15) rfl
set_option maxRecDepth 20000 in
theorem tbk41_4 : Cond.code yX11_readLetter cX11_readLetter 2 none ∈ tables_1_6 := List.mem_of_getElem? (i := 19) rfl
set_option maxRecDepth 20000 in
theorem tbk41_5 : Cond.code yX11_done cX11_done 2 none ∈ tables_1_6 := List.mem_of_getElem? (i := 23) rfl
set_option maxRecDepth 20000 in
theorem tbk41_6 : Cond.code yX11_keepFormula cX11_keepFormula 2 none ∈ tables_1_6 := List.mem_of_getElem? (i := 27) rfl
set_option maxRecDepth 20000 in
theorem tbk41_7 : Cond.code yX11_worth cX11_worth 4 (some .boolean) ∈ tables_1_6 := List.mem_of_getElem? (i := 31) rfl
set_option maxRecDepth 20000 in
theorem tbk41_8 : Cond.code yX11_fault cX11_fault 1 (some .int) ∈ tables_1_6 := List.mem_of_getElem? (i := 35) rfl
set_option maxRecDepth 20000 in
theorem tbk41_9 : Cond.code yX11_rail cX11_rail 3 (some .int) ∈ tables_1_6 := List.mem_of_getElem? (i := 39) rfl
set_option maxRecDepth 20000 in
theorem tbk41_10 : Cond.code yX11_isRail cX11_isRail 2 (some .boolean) ∈ tables_1_6 := List.mem_of_getElem? (i := 43) rfl
set_option maxRecDepth 20000 in
theorem tbk41_11 : Cond.code yX11_rule cX11_rule 2 (some .int) ∈ tables_1_6 := List.mem_of_getElem? (i := 47) rfl
set_option maxRecDepth 20000 in
theorem tbk41_12 : Cond.code yX11_holds cX11_holds 3 (some .int) ∈ tables_1_6 := List.mem_of_getElem? (i := 51) rfl
set_option maxRecDepth 20000 in
theorem tbk41_13 : Cond.code yX11_isSo cX11_isSo 3 (some .boolean) ∈ tables_1_6 := List.mem_of_getElem? (i := 56) rfl
set_option maxRecDepth 20000 in
theorem tbk41_14 : Cond.code yX11_flag cX11_flag 1 (some .int) ∈ tables_1_6 := List.mem_of_getElem? (i := 59) rfl
set_option maxRecDepth 20000 in
theorem tbk41_15 : Cond.code yX11_words cX11_words 5 (some .int) ∈ tables_1_6 := List.mem_of_getElem? (i := 63) rfl
set_option maxRecDepth 20000 in
theorem tbk41_16 : Cond.code yX11_isLeast cX11_isLeast 5 (some .boolean) ∈ tables_1_6 := List.mem_of_getElem? (i := 67) rfl
set_option maxRecDepth 20000 in
theorem tbk41_17 : Cond.code yX11_key cX11_key 3 (some .int) ∈ tables_1_6 := List.mem_of_getElem? (i := 71) rfl
set_option maxRecDepth 20000 in
theorem tbk41_18 : Cond.code yX11_dead cX11_dead 4 (some .int) ∈ tables_1_6 := List.mem_of_getElem? (i := 75) rfl
set_option maxRecDepth 20000 in
theorem tbk41_19 : Cond.code yX11_time cX11_time 4 (some .int) ∈ tables_1_6 := List.mem_of_getElem? (i := 79) rfl
set_option maxRecDepth 20000 in
theorem tbk41_20 : Cond.code yX11_go cX11_go 4 (some .int) ∈ tables_1_6 := List.mem_of_getElem? (i := 83) rfl
set_option maxRecDepth 20000 in
theorem tbk41_21 : Cond.code yX11_aTick cX11_aTick 3 none ∈ tables_1_6 := List.mem_of_getElem? (i := 88) rfl
set_option maxRecDepth 20000 in
theorem tbk41_22 : Cond.code yX11_settles cX11_settles 2 none ∈ tables_1_6 := List.mem_of_getElem? (i := 92) rfl
set_option maxRecDepth 20000 in
theorem tbk41_23 : Cond.code yX11_round cX11_round 5 (some .boolean) ∈ tables_1_6 := List.mem_of_getElem? (i := 96) rfl
set_option maxRecDepth 20000 in
theorem tbk41_24 : Cond.code yX11_allIn cX11_allIn 4 (some .int) ∈ tables_1_6 := List.mem_of_getElem? (i := 100) rfl
set_option maxRecDepth 20000 in
theorem tbk41_25 : Cond.code yX11_becomes cX11_becomes 3 (some .int) ∈ tables_1_6 := List.mem_of_getElem? (i := 104) rfl
set_option maxRecDepth 20000 in
theorem tbk41_26 : Cond.code yX11_happens cX11_happens 3 none ∈ tables_1_6 := List.mem_of_getElem? (i := 108) rfl
set_option maxRecDepth 20000 in
theorem tbk41_27 : Cond.code yX11_drawnOf cX11_drawnOf 5 (some .int) ∈ tables_1_6 := List.mem_of_getElem? (i := 112) rfl
set_option maxRecDepth 20000 in
theorem tbk41_28 : Cond.code yX11_tripNow cX11_tripNow 3 (some .int) ∈ tables_1_6 := List.mem_of_getElem? (i := 116) rfl
set_option maxRecDepth 20000 in
theorem tbk41_29 : Cond.code yX11_now cX11_now 2 (some .int) ∈ tables_1_6 := List.mem_of_getElem? (i := 120) rfl
theorem tbg41 : GoodIn lw_tbl tbc41 := goodIn_up tbj6 (goodIn_c tbk41_0 rfl (goodIn_c tbk41_1 rfl (goodIn_c tbk41_2 rfl (goodIn_c tbk41_3 rfl (goodIn_c tbk41_4 rfl (goodIn_c tbk41_5 rfl (goodIn_c tbk41_6 rfl (goodIn_c tbk41_7 rfl (goodIn_c tbk41_8 rfl (goodIn_c tbk41_9 rfl (goodIn_c tbk41_10 rfl (goodIn_c tbk41_11 rfl (goodIn_c tbk41_12 rfl (goodIn_c tbk41_13 rfl (goodIn_c tbk41_14 rfl (goodIn_c tbk41_15 rfl (goodIn_c tbk41_16 rfl (goodIn_c tbk41_17 rfl (goodIn_c tbk41_18 rfl (goodIn_c tbk41_19 rfl (goodIn_c tbk41_20 rfl (goodIn_c tbk41_21 rfl (goodIn_c tbk41_22 rfl (goodIn_c tbk41_23 rfl (goodIn_c tbk41_24 rfl (goodIn_c tbk41_25 rfl (goodIn_c tbk41_26 rfl (goodIn_c tbk41_27 rfl (goodIn_c tbk41_28 rfl (goodIn_c tbk41_29 rfl goodIn_nil))))))))))))))))))))))))))))))
set_option maxRecDepth 20000 in
theorem tbk42_0 : Cond.code yX11_is_ cX11_is_ 3 (some .int) ∈ tables_1_6 := List.mem_of_getElem? (i := 124) rfl
set_option maxRecDepth 20000 in
theorem tbk42_1 : Cond.code yX11_happened cX11_happened 3 (some .int) ∈ tables_1_6 := List.mem_of_getElem? (i := 129) rfl
set_option maxRecDepth 20000 in
theorem tbk42_2 : Cond.code yX11_up cX11_up 4 (some .int) ∈ tables_1_6 := List.mem_of_getElem? (i := 134) rfl
set_option maxRecDepth 20000 in
theorem tbk42_3 : Cond.code yX11_deadOnes cX11_deadOnes 3 (some .int) ∈ tables_1_6 := List.mem_of_getElem? (i := 138) rfl
set_option maxRecDepth 20000 in
theorem tbk42_4 : Cond.code yX11_upBut cX11_upBut 6 (some .int) ∈ tables_1_6 := List.mem_of_getElem? (i := 142) rfl
set_option maxRecDepth 20000 in
theorem tbk42_5 : Cond.code yX11_when cX11_when 3 (some .int) ∈ tables_1_6 := List.mem_of_getElem? (i := 146) rfl
set_option maxRecDepth 20000 in
theorem tbk42_6 : Cond.code yX11_setWaits cX11_setWaits 2 none ∈ tables_1_6 := List.mem_of_getElem? (i := 150) rfl
set_option maxRecDepth 20000 in
theorem tbk42_7 : Cond.code yX11_setTimes cX11_setTimes 3 none ∈ tables_1_6 := List.mem_of_getElem? (i := 154) rfl
set_option maxRecDepth 20000 in
theorem tbk42_8 : Cond.code yX11_findTimes cX11_findTimes 4 none ∈ tables_1_6 := List.mem_of_getElem? (i := 158) rfl
set_option maxRecDepth 20000 in
theorem tbk42_9 : Cond.code yX11_ahead cX11_ahead 7 (some .int) ∈ tables_1_6 := List.mem_of_getElem? (i := 163) rfl
set_option maxRecDepth 20000 in
theorem tbk42_10 : Cond.code yX11_ways cX11_ways 3 (some .int) ∈ tables_1_6 := List.mem_of_getElem? (i := 167) rfl
set_option maxRecDepth 20000 in
theorem tbk42_11 : Cond.code yX11_goesOn cX11_goesOn 2 (some .boolean) ∈ tables_1_6 := List.mem_of_getElem? (i := 172) rfl
set_option maxRecDepth 20000 in
theorem tbk42_12 : Cond.code yX11_drawn cX11_drawn 2 (some .int) ∈ tables_1_6 := List.mem_of_getElem? (i := 176) rfl
set_option maxRecDepth 20000 in
theorem tbk42_13 : Cond.code yX11_drawnAt cX11_drawnAt 5 (some .int) ∈ tables_1_6 := List.mem_of_getElem? (i := 180) rfl
set_option maxRecDepth 20000 in
theorem tbk42_14 : Cond.code yX11_peak cX11_peak 5 (some .int) ∈ tables_1_6 := List.mem_of_getElem? (i := 184) rfl
set_option maxRecDepth 20000 in
theorem tbk42_15 : Cond.code yX11_peakNow cX11_peakNow 4 (some .int) ∈ tables_1_6 := List.mem_of_getElem? (i := 189) rfl
set_option maxRecDepth 20000 in
theorem tbk42_16 : Cond.code yX11_stagger cX11_stagger 2 (some .int) ∈ tables_1_6 := List.mem_of_getElem? (i := 193) rfl
set_option maxRecDepth 20000 in
theorem tbk42_17 : Cond.code yX11_findStagger cX11_findStagger 4 none ∈ tables_1_6 := List.mem_of_getElem? (i := 198) rfl
set_option maxRecDepth 20000 in
theorem tbk42_18 : Cond.code yX11_lastGood cX11_lastGood 3 (some .int) ∈ tables_1_6 := List.mem_of_getElem? (i := 202) rfl
set_option maxRecDepth 20000 in
theorem tbk42_19 : Cond.code yX11_adopt cX11_adopt 2 (some .int) ∈ tables_1_6 := List.mem_of_getElem? (i := 206) rfl
set_option maxRecDepth 20000 in
theorem tbk42_20 : Cond.code yX11_down cX11_down 2 (some .int) ∈ tables_1_6 := List.mem_of_getElem? (i := 210) rfl
set_option maxRecDepth 20000 in
theorem tbk42_21 : Cond.code yX11_areRails cX11_areRails 2 (some .boolean) ∈ tables_1_6 := List.mem_of_getElem? (i := 214) rfl
set_option maxRecDepth 20000 in
theorem tbk42_22 : Cond.code yX11_cut cX11_cut 6 (some .int) ∈ tables_1_6 := List.mem_of_getElem? (i := 218) rfl
set_option maxRecDepth 20000 in
theorem tbk42_23 : Cond.code yX11_isUp cX11_isUp 3 (some .boolean) ∈ tables_1_6 := List.mem_of_getElem? (i := 222) rfl
set_option maxRecDepth 20000 in
theorem tbk42_24 : Cond.code yX11_countOf cX11_countOf 3 (some .int) ∈ tables_1_6 := List.mem_of_getElem? (i := 225) rfl
set_option maxRecDepth 20000 in
theorem tbk42_25 : Cond.code yX11_need cX11_need 7 (some .int) ∈ tables_1_6 := List.mem_of_getElem? (i := 229) rfl
set_option maxRecDepth 20000 in
theorem tbk42_26 : Cond.code yX11_must cX11_must 4 (some .int) ∈ tables_1_6 := List.mem_of_getElem? (i := 233) rfl
set_option maxRecDepth 20000 in
theorem tbk42_27 : Cond.code yX11_seen cX11_seen 4 (some .int) ∈ tables_1_6 := List.mem_of_getElem? (i := 237) rfl
theorem tbg42 : GoodIn lw_tbl tbc42 := goodIn_up tbj6 (goodIn_c tbk42_0 rfl (goodIn_c tbk42_1 rfl (goodIn_c tbk42_2 rfl (goodIn_c tbk42_3 rfl (goodIn_c tbk42_4 rfl (goodIn_c tbk42_5 rfl (goodIn_c tbk42_6 rfl (goodIn_c tbk42_7 rfl (goodIn_c tbk42_8 rfl (goodIn_c tbk42_9 rfl (goodIn_c tbk42_10 rfl (goodIn_c tbk42_11 rfl (goodIn_c tbk42_12 rfl (goodIn_c tbk42_13 rfl (goodIn_c tbk42_14 rfl (goodIn_c tbk42_15 rfl (goodIn_c tbk42_16 rfl (goodIn_c tbk42_17 rfl (goodIn_c tbk42_18 rfl (goodIn_c tbk42_19 rfl (goodIn_c tbk42_20 rfl (goodIn_c tbk42_21 rfl (goodIn_c tbk42_22 rfl (goodIn_c tbk42_23 rfl (goodIn_c tbk42_24 rfl (goodIn_c tbk42_25 rfl (goodIn_c tbk42_26 rfl (goodIn_c tbk42_27 rfl goodIn_nil))))))))))))))))))))))))))))
set_option maxRecDepth 20000 in
theorem tbk43_0 : Cond.code yX11_sheet cX11_sheet 5 (some .int) ∈ tables_1_7 := List.mem_of_getElem? (i := 1) rfl
set_option maxRecDepth 20000 in
theorem tbk43_1 : Cond.code yX11_isSheet cX11_isSheet 2 (some .boolean) ∈ tables_1_7 := List.mem_of_getElem? (i := 4) rfl
set_option maxRecDepth 20000 in
theorem tbk43_2 : Cond.code yX11_lay cX11_lay 4 (some .int) ∈ tables_1_7 := List.mem_of_getElem? (i := 8) rfl
set_option maxRecDepth 20000 in
theorem tbk43_3 : Cond.code yX11_measured cX11_measured 14 (some .int) ∈ tables_1_7 := List.mem_of_getElem? (i := 12) rfl
set_option maxRecDepth 20000 in
theorem tbk43_4 : Cond.code yX11_count cX11_count 2 (some .int) ∈ tables_1_7 := List.mem_of_getElem? (i := 18) rfl
theorem tbg43 : GoodIn lw_tbl tbc43 := goodIn_up tbj7 (goodIn_c tbk43_0 rfl (goodIn_c tbk43_1 rfl (goodIn_c tbk43_2 rfl (goodIn_c tbk43_3 rfl (goodIn_c tbk43_4 rfl goodIn_nil)))))
set_option maxRecDepth 20000 in
theorem tbxX10 : GoodIn lw_tbl wsX100 := goodIn_r _ [403, 405, 407, 409, 411, 413, 415, 417, 419, 421] (by decide +kernel) (by decide +kernel)
set_option maxRecDepth 20000 in
theorem tbxX11 : GoodIn lw_tbl wsX110 := goodIn_r _ [1070, 1072, 1074, 1076, 1078, 1080, 1082, 1084, 1086, 1088, 1090, 1092, 1094, 1096, 1098, 1100, 1102, 1104, 1106, 1108, 1110, 1112, 1114, 1116, 1118, 1120, 1122, 1124, 1126, 1128, 1130, 1132, 1134, 1136, 1138, 1140, 1142, 1144, 1146, 1148, 1150, 1152, 1154, 1156, 1158, 1160, 1162, 1164, 1166, 1168, 1170, 1172, 1174, 1176, 1178, 1180, 1182, 1184, 1186] (by decide +kernel) (by decide +kernel)
set_option maxRecDepth 20000 in
theorem tbxX8 : GoodIn lw_tbl wsX80 := goodIn_r _ [90, 92] (by decide +kernel) (by decide +kernel)
set_option maxRecDepth 20000 in
theorem tbxX5 : GoodIn lw_tbl wsX50 := goodIn_r _ [153, 155, 157, 159, 161, 163, 165, 167, 169, 171, 173, 175, 177, 179] (by decide +kernel) (by decide +kernel)
set_option maxRecDepth 20000 in
theorem tbxX0 : GoodIn lw_tbl wsX00 := goodIn_r _ [207, 209, 211, 213, 215, 217, 219, 221, 223] (by decide +kernel) (by decide +kernel)
set_option maxRecDepth 20000 in
theorem tbxX9 : GoodIn lw_tbl wsX90 := goodIn_r _ [240, 242, 244, 246, 248, 250] (by decide +kernel) (by decide +kernel)
set_option maxRecDepth 20000 in
theorem tbxX7 : GoodIn lw_tbl wsX70 := goodIn_r _ [267, 269, 271, 273] (by decide +kernel) (by decide +kernel)
set_option maxRecDepth 20000 in
theorem tbxX6 : GoodIn lw_tbl wsX60 := goodIn_r _ [293, 295, 297] (by decide +kernel) (by decide +kernel)
set_option maxRecDepth 20000 in
theorem tbxX3 : GoodIn lw_tbl wsX30 := goodIn_r _ [329, 331, 333, 335, 337, 339] (by decide +kernel) (by decide +kernel)
set_option maxRecDepth 20000 in
theorem tbxX4 : GoodIn lw_tbl wsX40 := goodIn_r _ [366, 368, 370, 372, 374, 376, 378, 380, 382, 384, 386, 388, 390] (by decide +kernel) (by decide +kernel)
set_option maxRecDepth 20000 in
theorem tbxX2 : GoodIn lw_tbl wsX20 := goodIn_r _ [117, 119, 121, 123] (by decide +kernel) (by decide +kernel)
theorem tbq44 : GoodIn lw_tbl tbt44 := (goodIn_app (goodIn_app (goodIn_app (goodIn_app (goodIn_app (goodIn_app (goodIn_app (goodIn_app (goodIn_app (goodIn_app tbxX10 tbxX11) tbxX8) tbxX5) tbxX0) tbxX9) tbxX7) tbxX6) tbxX3) tbxX4) tbxX2)
theorem tbq43 : GoodIn lw_tbl tbt43 := goodIn_app tbg43 tbq44
theorem tbq42 : GoodIn lw_tbl tbt42 := goodIn_app tbg42 tbq43
theorem tbq41 : GoodIn lw_tbl tbt41 := goodIn_app tbg41 tbq42
theorem tbq40 : GoodIn lw_tbl tbt40 := goodIn_app tbg40 tbq41
theorem tbq39 : GoodIn lw_tbl tbt39 := goodIn_app tbg39 tbq40
theorem tbq38 : GoodIn lw_tbl tbt38 := goodIn_app tbg38 tbq39
theorem tbq37 : GoodIn lw_tbl tbt37 := goodIn_app tbg37 tbq38
theorem tbq36 : GoodIn lw_tbl tbt36 := goodIn_app tbg36 tbq37
theorem tbq35 : GoodIn lw_tbl tbt35 := goodIn_app tbg35 tbq36
theorem tbq34 : GoodIn lw_tbl tbt34 := goodIn_app tbg34 tbq35
theorem tbq33 : GoodIn lw_tbl tbt33 := goodIn_app tbg33 tbq34
theorem tbq32 : GoodIn lw_tbl tbt32 := goodIn_app tbg32 tbq33
theorem tbq31 : GoodIn lw_tbl tbt31 := goodIn_app tbg31 tbq32
theorem tbq30 : GoodIn lw_tbl tbt30 := goodIn_app tbg30 tbq31
theorem tbq29 : GoodIn lw_tbl tbt29 := goodIn_app tbg29 tbq30
theorem tbq28 : GoodIn lw_tbl tbt28 := goodIn_app tbg28 tbq29
theorem tbq27 : GoodIn lw_tbl tbt27 := goodIn_app tbg27 tbq28
theorem tbq26 : GoodIn lw_tbl tbt26 := goodIn_app tbg26 tbq27
theorem tbq25 : GoodIn lw_tbl tbt25 := goodIn_app tbg25 tbq26
theorem tbq24 : GoodIn lw_tbl tbt24 := goodIn_app tbg24 tbq25
theorem tbq23 : GoodIn lw_tbl tbt23 := goodIn_app tbg23 tbq24
theorem tbq22 : GoodIn lw_tbl tbt22 := goodIn_app tbg22 tbq23
theorem tbq21 : GoodIn lw_tbl tbt21 := goodIn_app tbg21 tbq22
theorem tbq20 : GoodIn lw_tbl tbt20 := goodIn_app tbg20 tbq21
theorem tbq19 : GoodIn lw_tbl tbt19 := goodIn_app tbg19 tbq20
theorem tbq18 : GoodIn lw_tbl tbt18 := goodIn_app tbg18 tbq19
theorem tbq17 : GoodIn lw_tbl tbt17 := goodIn_app tbg17 tbq18
theorem tbq16 : GoodIn lw_tbl tbt16 := goodIn_app tbg16 tbq17
theorem tbq15 : GoodIn lw_tbl tbt15 := goodIn_app tbg15 tbq16
theorem tbq14 : GoodIn lw_tbl tbt14 := goodIn_app tbg14 tbq15
theorem tbq13 : GoodIn lw_tbl tbt13 := goodIn_app tbg13 tbq14
theorem tbq12 : GoodIn lw_tbl tbt12 := goodIn_app tbg12 tbq13
theorem tbq11 : GoodIn lw_tbl tbt11 := goodIn_app tbg11 tbq12
theorem tbq10 : GoodIn lw_tbl tbt10 := goodIn_app tbg10 tbq11
theorem tbq9 : GoodIn lw_tbl tbt9 := goodIn_app tbg9 tbq10
theorem tbq8 : GoodIn lw_tbl tbt8 := goodIn_app tbg8 tbq9
theorem tbq7 : GoodIn lw_tbl tbt7 := goodIn_app tbg7 tbq8
theorem tbq6 : GoodIn lw_tbl tbt6 := goodIn_app tbg6 tbq7
theorem tbq5 : GoodIn lw_tbl tbt5 := goodIn_app tbg5 tbq6
theorem tbq4 : GoodIn lw_tbl tbt4 := goodIn_app tbg4 tbq5
theorem tbq3 : GoodIn lw_tbl tbt3 := goodIn_app tbg3 tbq4
theorem tbq2 : GoodIn lw_tbl tbt2 := goodIn_app tbg2 tbq3
theorem tbq1 : GoodIn lw_tbl tbt1 := goodIn_app tbg1 tbq2
theorem tbq0 : GoodIn lw_tbl tbt0 := goodIn_app tbg0 tbq1
theorem tb_in : ∀ w ∈ tbW, w ∈ lw_tbl := fun w h => (tbq0 w h).1
theorem tb_ok : GoodIn tbW tbW := fun w h => ⟨h, (tbq0 w h).2⟩
