/-- the words that all methods here stand on: the tables' own, but those that speak of the heap -/
def AW : List Cond := lw_tbl.filter goodWord
theorem AW_tbl : ∀ w ∈ AW, w ∈ lw_tbl := fun _ h => (List.mem_filter.mp h).1
theorem AW_good : ∀ w ∈ AW, goodWord w = true := fun _ h => (List.mem_filter.mp h).2
theorem aw_of {w : Cond} (h : w ∈ lw_tbl) (g : goodWord w = true) : w ∈ AW := List.mem_filter.mpr ⟨h, g⟩
theorem aw_ok {w : Cond} (h : w ∈ AW) : (w.onTables && w.keeps) = true ∨ ∃ ty, w = .arrayClass ty := good_of_word (AW_good w h)
theorem aw_0 : ∀ w ∈ k2_sels lw_privs, w ∈ lw_tbl := fun _ h => List.mem_append_left _ h
theorem aw_1 : ∀ w ∈ tables_1_1, w ∈ lw_tbl := fun _ h => List.mem_append_right _ (List.mem_append_left _ h)
theorem aw_2 : ∀ w ∈ tables_1_2, w ∈ lw_tbl := fun _ h => List.mem_append_right _ (List.mem_append_right _ (List.mem_append_left _ h))
theorem aw_3 : ∀ w ∈ tables_1_3, w ∈ lw_tbl := fun _ h => List.mem_append_right _ (List.mem_append_right _ (List.mem_append_right _ (List.mem_append_left _ h)))
theorem aw_4 : ∀ w ∈ tables_1_4, w ∈ lw_tbl := fun _ h => List.mem_append_right _ (List.mem_append_right _ (List.mem_append_right _ (List.mem_append_right _ (List.mem_append_left _ h))))
theorem aw_5 : ∀ w ∈ tables_1_5, w ∈ lw_tbl := fun _ h => List.mem_append_right _ (List.mem_append_right _ (List.mem_append_right _ (List.mem_append_right _ (List.mem_append_right _ (h)))))
theorem qw_0_0 : Cond.selects RX3 yX3_isPlayed yX3_isPlayed ∈ AW := aw_of (aw_0 _ (List.mem_of_getElem? (i := 0) rfl)) rfl
theorem qw_0_1 : Cond.selects RX3 yX3_tryMove yX3_tryMove ∈ AW := aw_of (aw_0 _ (List.mem_of_getElem? (i := 1) rfl)) rfl
theorem qw_0_2 : Cond.selects RX3 yX3_timesOccurred yX3_timesOccurred ∈ AW := aw_of (aw_0 _ (List.mem_of_getElem? (i := 2) rfl)) rfl
theorem qw_0_3 : Cond.selects "java/lang/Throwable" ⟨"java/lang/Throwable", "fillInStackTrace", "(I)Ljava/lang/Throwable;"⟩ ⟨"java/lang/Throwable", "fillInStackTrace", "(I)Ljava/lang/Throwable;"⟩ ∈ AW := aw_of (aw_0 _ (List.mem_of_getElem? (i := 3) rfl)) rfl
theorem qw_0_4 : Cond.selects RX3 yX3_verdictNow yX3_verdictNow ∈ AW := aw_of (aw_0 _ (List.mem_of_getElem? (i := 4) rfl)) rfl
theorem qw_0_5 : Cond.selects RX3 yX3_countPairsOfMoves yX3_countPairsOfMoves ∈ AW := aw_of (aw_0 _ (List.mem_of_getElem? (i := 5) rfl)) rfl
theorem qw_0_6 : Cond.selects RX3 yX3_isFull yX3_isFull ∈ AW := aw_of (aw_0 _ (List.mem_of_getElem? (i := 6) rfl)) rfl
theorem qw_0_7 : Cond.selects RX3 yX3_turnPage yX3_turnPage ∈ AW := aw_of (aw_0 _ (List.mem_of_getElem? (i := 7) rfl)) rfl
theorem qw_0_8 : Cond.selects RX4 yX4_findLeaps yX4_findLeaps ∈ AW := aw_of (aw_0 _ (List.mem_of_getElem? (i := 8) rfl)) rfl
theorem qw_0_9 : Cond.selects RX4 yX4_clear yX4_clear ∈ AW := aw_of (aw_0 _ (List.mem_of_getElem? (i := 9) rfl)) rfl
theorem qw_0_10 : Cond.selects RX4 yX4_begin yX4_begin ∈ AW := aw_of (aw_0 _ (List.mem_of_getElem? (i := 10) rfl)) rfl
theorem qw_0_11 : Cond.selects RX4 yX4_keep yX4_keep ∈ AW := aw_of (aw_0 _ (List.mem_of_getElem? (i := 11) rfl)) rfl
theorem qw_0_12 : Cond.selects RX4 yX4_findOutcome yX4_findOutcome ∈ AW := aw_of (aw_0 _ (List.mem_of_getElem? (i := 12) rfl)) rfl
theorem qw_0_13 : Cond.selects RX4 yX4_hasMove yX4_hasMove ∈ AW := aw_of (aw_0 _ (List.mem_of_getElem? (i := 13) rfl)) rfl
theorem qw_0_14 : Cond.selects RX4 yX4_reason yX4_reason ∈ AW := aw_of (aw_0 _ (List.mem_of_getElem? (i := 14) rfl)) rfl
theorem qw_0_15 : Cond.selects RX4 yX4_isFar yX4_isFar ∈ AW := aw_of (aw_0 _ (List.mem_of_getElem? (i := 15) rfl)) rfl
theorem qw_0_16 : Cond.selects RX4 yX4_leapsOf yX4_leapsOf ∈ AW := aw_of (aw_0 _ (List.mem_of_getElem? (i := 16) rfl)) rfl
theorem qw_0_17 : Cond.selects RX4 yX4_hasBondAction yX4_hasBondAction ∈ AW := aw_of (aw_0 _ (List.mem_of_getElem? (i := 17) rfl)) rfl
theorem qw_0_18 : Cond.selects RX4 yX4_dissolveReason yX4_dissolveReason ∈ AW := aw_of (aw_0 _ (List.mem_of_getElem? (i := 18) rfl)) rfl
theorem qw_0_19 : Cond.selects RX4 yX4_bondReason yX4_bondReason ∈ AW := aw_of (aw_0 _ (List.mem_of_getElem? (i := 19) rfl)) rfl
theorem qw_0_20 : Cond.selects RX4 yX4_occurred yX4_occurred ∈ AW := aw_of (aw_0 _ (List.mem_of_getElem? (i := 20) rfl)) rfl
theorem qw_0_21 : Cond.selects RX4 yX4_isSame yX4_isSame ∈ AW := aw_of (aw_0 _ (List.mem_of_getElem? (i := 21) rfl)) rfl
theorem qw_0_22 : Cond.selects RX4 yX4_isGood yX4_isGood ∈ AW := aw_of (aw_0 _ (List.mem_of_getElem? (i := 22) rfl)) rfl
theorem qw_0_23 : Cond.selects RX4 yX4_fail yX4_fail ∈ AW := aw_of (aw_0 _ (List.mem_of_getElem? (i := 23) rfl)) rfl
theorem qw_0_24 : Cond.selects RX4 yX4_attacked yX4_attacked ∈ AW := aw_of (aw_0 _ (List.mem_of_getElem? (i := 24) rfl)) rfl
theorem qw_0_25 : Cond.selects RX4 yX4_isPlayed yX4_isPlayed ∈ AW := aw_of (aw_0 _ (List.mem_of_getElem? (i := 25) rfl)) rfl
theorem qw_0_26 : Cond.selects RX4 yX4_countMoves yX4_countMoves ∈ AW := aw_of (aw_0 _ (List.mem_of_getElem? (i := 26) rfl)) rfl
theorem qw_0_27 : Cond.selects RX4 yX4_areSquares yX4_areSquares ∈ AW := aw_of (aw_0 _ (List.mem_of_getElem? (i := 27) rfl)) rfl
theorem qw_0_28 : Cond.selects RX4 yX4_endCalmly yX4_endCalmly ∈ AW := aw_of (aw_0 _ (List.mem_of_getElem? (i := 28) rfl)) rfl
theorem qw_0_29 : Cond.selects RX4 yX4_strength yX4_strength ∈ AW := aw_of (aw_0 _ (List.mem_of_getElem? (i := 29) rfl)) rfl
theorem qw_0_30 : Cond.selects RX4 yX4_weight yX4_weight ∈ AW := aw_of (aw_0 _ (List.mem_of_getElem? (i := 30) rfl)) rfl
theorem qw_1_0 : Cond.initialized RL ∈ AW := aw_of (aw_1 _ (List.mem_of_getElem? (i := 0) rfl)) rfl
theorem qw_1_1 : Cond.initialized RX3 ∈ AW := aw_of (aw_1 _ (List.mem_of_getElem? (i := 1) rfl)) rfl
theorem qw_1_2 : Cond.initialized RX0 ∈ AW := aw_of (aw_1 _ (List.mem_of_getElem? (i := 2) rfl)) rfl
theorem qw_1_3 : Cond.initialized RX1 ∈ AW := aw_of (aw_1 _ (List.mem_of_getElem? (i := 3) rfl)) rfl
theorem qw_1_4 : Cond.initialized RJ7 ∈ AW := aw_of (aw_1 _ (List.mem_of_getElem? (i := 4) rfl)) rfl
theorem qw_1_5 : Cond.initialized RX4 ∈ AW := aw_of (aw_1 _ (List.mem_of_getElem? (i := 5) rfl)) rfl
theorem qw_1_6 : Cond.initialized RJxd2413 ∈ AW := aw_of (aw_1 _ (List.mem_of_getElem? (i := 6) rfl)) rfl
theorem qw_1_7 : Cond.initialized RJ6 ∈ AW := aw_of (aw_1 _ (List.mem_of_getElem? (i := 7) rfl)) rfl
theorem qw_1_8 : Cond.initialized "java/lang/Throwable" ∈ AW := aw_of (aw_1 _ (List.mem_of_getElem? (i := 8) rfl)) rfl
theorem qw_1_9 : Cond.initialized "java/lang/Exception" ∈ AW := aw_of (aw_1 _ (List.mem_of_getElem? (i := 9) rfl)) rfl
theorem qw_1_10 : Cond.initialized "java/lang/RuntimeException" ∈ AW := aw_of (aw_1 _ (List.mem_of_getElem? (i := 10) rfl)) rfl
theorem qw_1_11 : Cond.initialized "java/lang/IndexOutOfBoundsException" ∈ AW := aw_of (aw_1 _ (List.mem_of_getElem? (i := 11) rfl)) rfl
theorem qw_1_12 : Cond.initialized "java/lang/IllegalArgumentException" ∈ AW := aw_of (aw_1 _ (List.mem_of_getElem? (i := 12) rfl)) rfl
theorem qw_1_13 : Cond.initialized "java/lang/IllegalStateException" ∈ AW := aw_of (aw_1 _ (List.mem_of_getElem? (i := 13) rfl)) rfl
theorem qw_1_14 : Cond.initialized RJ13 ∈ AW := aw_of (aw_1 _ (List.mem_of_getElem? (i := 14) rfl)) rfl
theorem qw_1_15 : Cond.initialized RX2 ∈ AW := aw_of (aw_1 _ (List.mem_of_getElem? (i := 15) rfl)) rfl
theorem qw_1_16 : Cond.initialized "java/util/NoSuchElementException" ∈ AW := aw_of (aw_1 _ (List.mem_of_getElem? (i := 16) rfl)) rfl
theorem qw_1_17 : Cond.initialized RJ9 ∈ AW := aw_of (aw_1 _ (List.mem_of_getElem? (i := 17) rfl)) rfl
theorem qw_1_18 : Cond.initialized RJ10 ∈ AW := aw_of (aw_1 _ (List.mem_of_getElem? (i := 18) rfl)) rfl
theorem qw_1_19 : Cond.initialized RJxf58ca ∈ AW := aw_of (aw_1 _ (List.mem_of_getElem? (i := 19) rfl)) rfl
theorem qw_1_20 : Cond.classLink RL 8 RX3 ∈ AW := aw_of (aw_1 _ (List.mem_of_getElem? (i := 20) rfl)) rfl
theorem qw_1_21 : Cond.instantiable RX3 4 ∈ AW := aw_of (aw_1 _ (List.mem_of_getElem? (i := 21) rfl)) rfl
theorem qw_1_22 : Cond.methodLink RL 80 yX3_init ∈ AW := aw_of (aw_1 _ (List.mem_of_getElem? (i := 22) rfl)) rfl
theorem qw_1_23 : Cond.instanceMethod yX3_init ∈ AW := aw_of (aw_1 _ (List.mem_of_getElem? (i := 23) rfl)) rfl
theorem qw_1_24 : Cond.code yX3_init cX3_init 3 none ∈ AW := aw_of (aw_1 _ (List.mem_of_getElem? (i := 24) rfl)) rfl
theorem qw_1_25 : Cond.methodLink RX3 1 objectInit ∈ AW := aw_of (aw_1 _ (List.mem_of_getElem? (i := 25) rfl)) rfl
theorem qw_1_26 : Cond.instanceMethod objectInit ∈ AW := aw_of (aw_1 _ (List.mem_of_getElem? (i := 26) rfl)) rfl
theorem qw_1_27 : Cond.code objectInit object_method_1_code 1 none ∈ AW := aw_of (aw_1 _ (List.mem_of_getElem? (i := 27) rfl)) rfl
theorem qw_1_28 : Cond.classLink RX3 7 RX0 ∈ AW := aw_of (aw_1 _ (List.mem_of_getElem? (i := 28) rfl)) rfl
theorem qw_1_29 : Cond.instantiable RX0 7 ∈ AW := aw_of (aw_1 _ (List.mem_of_getElem? (i := 29) rfl)) rfl
theorem qw_1_30 : Cond.methodLink RX3 9 yX0_init ∈ AW := aw_of (aw_1 _ (List.mem_of_getElem? (i := 30) rfl)) rfl
theorem qw_1_31 : Cond.instanceMethod yX0_init ∈ AW := aw_of (aw_1 _ (List.mem_of_getElem? (i := 31) rfl)) rfl
theorem qw_1_32 : Cond.code yX0_init cX0_init 2 none ∈ AW := aw_of (aw_1 _ (List.mem_of_getElem? (i := 32) rfl)) rfl
theorem qw_1_33 : Cond.methodLink RX0 1 objectInit ∈ AW := aw_of (aw_1 _ (List.mem_of_getElem? (i := 33) rfl)) rfl
theorem qw_1_34 : Cond.classLink RX0 17 RX1 ∈ AW := aw_of (aw_1 _ (List.mem_of_getElem? (i := 34) rfl)) rfl
theorem qw_1_35 : Cond.instantiable RX1 5 ∈ AW := aw_of (aw_1 _ (List.mem_of_getElem? (i := 35) rfl)) rfl
theorem qw_1_36 : Cond.methodLink RX0 19 yX1_init ∈ AW := aw_of (aw_1 _ (List.mem_of_getElem? (i := 36) rfl)) rfl
theorem qw_1_37 : Cond.instanceMethod yX1_init ∈ AW := aw_of (aw_1 _ (List.mem_of_getElem? (i := 37) rfl)) rfl
theorem qw_1_38 : Cond.code yX1_init cX1_init 1 none ∈ AW := aw_of (aw_1 _ (List.mem_of_getElem? (i := 38) rfl)) rfl
theorem qw_1_39 : Cond.methodLink RX1 3 objectInit ∈ AW := aw_of (aw_1 _ (List.mem_of_getElem? (i := 39) rfl)) rfl
theorem qw_1_40 : Cond.methodLink RX1 19 yJ7_fill_53178 ∈ AW := aw_of (aw_1 _ (List.mem_of_getElem? (i := 40) rfl)) rfl
theorem qw_1_41 : Cond.static yJ7_fill_53178 ∈ AW := aw_of (aw_1 _ (List.mem_of_getElem? (i := 41) rfl)) rfl
theorem qw_1_42 : Cond.code yJ7_fill_53178 cJ7_fill_53178 4 none ∈ AW := aw_of (aw_1 _ (List.mem_of_getElem? (i := 42) rfl)) rfl
theorem qw_1_43 : Cond.fieldLink RX1 9 RX1 "ofKind" "[J" ∈ AW := aw_of (aw_1 _ (List.mem_of_getElem? (i := 43) rfl)) rfl
theorem qw_1_44 : Cond.fieldLink RX1 15 RX1 "partner" "[I" ∈ AW := aw_of (aw_1 _ (List.mem_of_getElem? (i := 44) rfl)) rfl
theorem qw_1_45 : Cond.fieldLink RX1 32 RX1 "ofWhite" "J" ∈ AW := aw_of (aw_1 _ (List.mem_of_getElem? (i := 45) rfl)) rfl
theorem qw_1_46 : Cond.fieldLink RX1 36 RX1 "ofBlack" "J" ∈ AW := aw_of (aw_1 _ (List.mem_of_getElem? (i := 46) rfl)) rfl
theorem qw_1_47 : Cond.fieldLink RX1 25 RX1 "whiteActs" "Z" ∈ AW := aw_of (aw_1 _ (List.mem_of_getElem? (i := 47) rfl)) rfl
theorem qw_1_48 : Cond.fieldLink RX3 97 RX1 "whiteActs" "Z" ∈ AW := aw_of (aw_1 _ (List.mem_of_getElem? (i := 48) rfl)) rfl
theorem qw_1_49 : Cond.laysFinal RX1 RX1 "ofKind" "[J" ∈ AW := aw_of (aw_1 _ (List.mem_of_getElem? (i := 49) rfl)) rfl
theorem qw_1_50 : Cond.soleField RX1 "ofKind" ∈ AW := aw_of (aw_1 _ (List.mem_of_getElem? (i := 50) rfl)) rfl
theorem qw_1_51 : Cond.laysFinal RX1 RX1 "partner" "[I" ∈ AW := aw_of (aw_1 _ (List.mem_of_getElem? (i := 51) rfl)) rfl
theorem qw_1_52 : Cond.soleField RX1 "partner" ∈ AW := aw_of (aw_1 _ (List.mem_of_getElem? (i := 52) rfl)) rfl
theorem qw_1_53 : Cond.lays RX1 RX1 "ofWhite" "J" ∈ AW := aw_of (aw_1 _ (List.mem_of_getElem? (i := 53) rfl)) rfl
theorem qw_1_54 : Cond.soleField RX1 "ofWhite" ∈ AW := aw_of (aw_1 _ (List.mem_of_getElem? (i := 54) rfl)) rfl
theorem qw_1_55 : Cond.lays RX1 RX1 "ofBlack" "J" ∈ AW := aw_of (aw_1 _ (List.mem_of_getElem? (i := 55) rfl)) rfl
theorem qw_1_56 : Cond.soleField RX1 "ofBlack" ∈ AW := aw_of (aw_1 _ (List.mem_of_getElem? (i := 56) rfl)) rfl
theorem qw_1_57 : Cond.lays RX1 RX1 "whiteActs" "Z" ∈ AW := aw_of (aw_1 _ (List.mem_of_getElem? (i := 57) rfl)) rfl
theorem qw_1_58 : Cond.soleField RX1 "whiteActs" ∈ AW := aw_of (aw_1 _ (List.mem_of_getElem? (i := 58) rfl)) rfl
theorem qw_1_59 : Cond.superclass RX1 "java/lang/Object" ∈ AW := aw_of (aw_1 _ (List.mem_of_getElem? (i := 59) rfl)) rfl
theorem qw_1_60 : Cond.arrayClass .long ∈ AW := aw_of (aw_1 _ (List.mem_of_getElem? (i := 60) rfl)) rfl
theorem qw_1_61 : Cond.arrayClass .int ∈ AW := aw_of (aw_1 _ (List.mem_of_getElem? (i := 61) rfl)) rfl
theorem qw_1_62 : Cond.fieldLink RX0 20 RX0 "position" "LKnightPairChess$Position;" ∈ AW := aw_of (aw_1 _ (List.mem_of_getElem? (i := 62) rfl)) rfl
theorem qw_1_63 : Cond.fieldLink RX3 28 RX0 "position" "LKnightPairChess$Position;" ∈ AW := aw_of (aw_1 _ (List.mem_of_getElem? (i := 63) rfl)) rfl
theorem qw_1_64 : Cond.fieldLink RX0 7 RX0 "before" "LKnightPairChess$Page;" ∈ AW := aw_of (aw_1 _ (List.mem_of_getElem? (i := 64) rfl)) rfl
theorem qw_1_65 : Cond.fieldLink RX3 232 RX0 "before" "LKnightPairChess$Page;" ∈ AW := aw_of (aw_1 _ (List.mem_of_getElem? (i := 65) rfl)) rfl
theorem qw_1_66 : Cond.fieldLink RX0 13 RX0 "number" "I" ∈ AW := aw_of (aw_1 _ (List.mem_of_getElem? (i := 66) rfl)) rfl
theorem qw_1_67 : Cond.fieldLink RX3 237 RX0 "number" "I" ∈ AW := aw_of (aw_1 _ (List.mem_of_getElem? (i := 67) rfl)) rfl
theorem qw_1_68 : Cond.fieldLink RX3 256 RX0 "after" "LKnightPairChess$Page;" ∈ AW := aw_of (aw_1 _ (List.mem_of_getElem? (i := 68) rfl)) rfl
theorem qw_1_69 : Cond.fieldLink RX3 210 RX0 "captured" "I" ∈ AW := aw_of (aw_1 _ (List.mem_of_getElem? (i := 69) rfl)) rfl
theorem qw_1_70 : Cond.fieldLink RX3 213 RX0 "quiet" "I" ∈ AW := aw_of (aw_1 _ (List.mem_of_getElem? (i := 70) rfl)) rfl
theorem qw_1_71 : Cond.fieldLink RX3 47 RX0 "verdict" "I" ∈ AW := aw_of (aw_1 _ (List.mem_of_getElem? (i := 71) rfl)) rfl
theorem qw_1_72 : Cond.laysFinal RX0 RX0 "position" "LKnightPairChess$Position;" ∈ AW := aw_of (aw_1 _ (List.mem_of_getElem? (i := 72) rfl)) rfl
theorem qw_1_73 : Cond.soleField RX0 "position" ∈ AW := aw_of (aw_1 _ (List.mem_of_getElem? (i := 73) rfl)) rfl
theorem qw_1_74 : Cond.laysFinal RX0 RX0 "before" "LKnightPairChess$Page;" ∈ AW := aw_of (aw_1 _ (List.mem_of_getElem? (i := 74) rfl)) rfl
theorem qw_1_75 : Cond.soleField RX0 "before" ∈ AW := aw_of (aw_1 _ (List.mem_of_getElem? (i := 75) rfl)) rfl
theorem qw_1_76 : Cond.laysFinal RX0 RX0 "number" "I" ∈ AW := aw_of (aw_1 _ (List.mem_of_getElem? (i := 76) rfl)) rfl
theorem qw_1_77 : Cond.soleField RX0 "number" ∈ AW := aw_of (aw_1 _ (List.mem_of_getElem? (i := 77) rfl)) rfl
theorem qw_1_78 : Cond.lays RX0 RX0 "after" "LKnightPairChess$Page;" ∈ AW := aw_of (aw_1 _ (List.mem_of_getElem? (i := 78) rfl)) rfl
theorem qw_1_79 : Cond.soleField RX0 "after" ∈ AW := aw_of (aw_1 _ (List.mem_of_getElem? (i := 79) rfl)) rfl
theorem qw_1_80 : Cond.lays RX0 RX0 "captured" "I" ∈ AW := aw_of (aw_1 _ (List.mem_of_getElem? (i := 80) rfl)) rfl
theorem qw_1_81 : Cond.soleField RX0 "captured" ∈ AW := aw_of (aw_1 _ (List.mem_of_getElem? (i := 81) rfl)) rfl
theorem qw_1_82 : Cond.lays RX0 RX0 "quiet" "I" ∈ AW := aw_of (aw_1 _ (List.mem_of_getElem? (i := 82) rfl)) rfl
theorem qw_1_83 : Cond.soleField RX0 "quiet" ∈ AW := aw_of (aw_1 _ (List.mem_of_getElem? (i := 83) rfl)) rfl
theorem qw_1_84 : Cond.lays RX0 RX0 "verdict" "I" ∈ AW := aw_of (aw_1 _ (List.mem_of_getElem? (i := 84) rfl)) rfl
theorem qw_1_85 : Cond.soleField RX0 "verdict" ∈ AW := aw_of (aw_1 _ (List.mem_of_getElem? (i := 85) rfl)) rfl
theorem qw_1_86 : Cond.superclass RX0 "java/lang/Object" ∈ AW := aw_of (aw_1 _ (List.mem_of_getElem? (i := 86) rfl)) rfl
theorem qw_1_87 : Cond.classLink RX3 18 RX1 ∈ AW := aw_of (aw_1 _ (List.mem_of_getElem? (i := 87) rfl)) rfl
theorem qw_1_88 : Cond.methodLink RX3 20 yX1_init ∈ AW := aw_of (aw_1 _ (List.mem_of_getElem? (i := 88) rfl)) rfl
theorem qw_1_89 : Cond.fieldLink RX3 31 RX3 "FIRST_RANK" "[I" ∈ AW := aw_of (aw_1 _ (List.mem_of_getElem? (i := 89) rfl)) rfl
theorem qw_1_91 : Cond.methodLink RX3 35 yX1_put ∈ AW := aw_of (aw_1 _ (List.mem_of_getElem? (i := 91) rfl)) rfl
theorem qw_1_92 : Cond.instanceMethod yX1_put ∈ AW := aw_of (aw_1 _ (List.mem_of_getElem? (i := 92) rfl)) rfl
theorem qw_1_93 : Cond.selects RX1 yX1_put yX1_put ∈ AW := aw_of (aw_1 _ (List.mem_of_getElem? (i := 93) rfl)) rfl
theorem qw_1_94 : Cond.code yX1_put cX1_put 4 none ∈ AW := aw_of (aw_1 _ (List.mem_of_getElem? (i := 94) rfl)) rfl
theorem qw_1_96 : Cond.static yX3_bit ∈ AW := aw_of (aw_1 _ (List.mem_of_getElem? (i := 96) rfl)) rfl
theorem qw_1_97 : Cond.code yX3_bit cX3_bit 1 (some .long) ∈ AW := aw_of (aw_1 _ (List.mem_of_getElem? (i := 97) rfl)) rfl
theorem qw_1_98 : Cond.methodLink RX3 39 yX1_join ∈ AW := aw_of (aw_1 _ (List.mem_of_getElem? (i := 98) rfl)) rfl
theorem qw_1_99 : Cond.instanceMethod yX1_join ∈ AW := aw_of (aw_1 _ (List.mem_of_getElem? (i := 99) rfl)) rfl
theorem qw_1_100 : Cond.selects RX1 yX1_join yX1_join ∈ AW := aw_of (aw_1 _ (List.mem_of_getElem? (i := 100) rfl)) rfl
theorem qw_1_101 : Cond.code yX1_join cX1_join 3 none ∈ AW := aw_of (aw_1 _ (List.mem_of_getElem? (i := 101) rfl)) rfl
theorem qw_1_102 : Cond.fieldLink RX3 12 RX3 "first" "LKnightPairChess$Page;" ∈ AW := aw_of (aw_1 _ (List.mem_of_getElem? (i := 102) rfl)) rfl
theorem qw_1_103 : Cond.fieldLink RX3 21 RX3 "trial" "LKnightPairChess$Position;" ∈ AW := aw_of (aw_1 _ (List.mem_of_getElem? (i := 103) rfl)) rfl
theorem qw_1_104 : Cond.fieldLink RX3 25 RX3 "present" "LKnightPairChess$Page;" ∈ AW := aw_of (aw_1 _ (List.mem_of_getElem? (i := 104) rfl)) rfl
theorem qw_1_105 : Cond.fieldLink RX3 43 RX3 "settingUp" "Z" ∈ AW := aw_of (aw_1 _ (List.mem_of_getElem? (i := 105) rfl)) rfl
theorem qw_1_106 : Cond.laysFinal RX3 RX3 "first" "LKnightPairChess$Page;" ∈ AW := aw_of (aw_1 _ (List.mem_of_getElem? (i := 106) rfl)) rfl
theorem qw_1_107 : Cond.soleField RX3 "first" ∈ AW := aw_of (aw_1 _ (List.mem_of_getElem? (i := 107) rfl)) rfl
theorem qw_1_108 : Cond.laysFinal RX3 RX3 "trial" "LKnightPairChess$Position;" ∈ AW := aw_of (aw_1 _ (List.mem_of_getElem? (i := 108) rfl)) rfl
theorem qw_1_109 : Cond.soleField RX3 "trial" ∈ AW := aw_of (aw_1 _ (List.mem_of_getElem? (i := 109) rfl)) rfl
theorem qw_1_110 : Cond.lays RX3 RX3 "present" "LKnightPairChess$Page;" ∈ AW := aw_of (aw_1 _ (List.mem_of_getElem? (i := 110) rfl)) rfl
theorem qw_1_111 : Cond.soleField RX3 "present" ∈ AW := aw_of (aw_1 _ (List.mem_of_getElem? (i := 111) rfl)) rfl
theorem qw_1_112 : Cond.lays RX3 RX3 "settingUp" "Z" ∈ AW := aw_of (aw_1 _ (List.mem_of_getElem? (i := 112) rfl)) rfl
theorem qw_1_113 : Cond.soleField RX3 "settingUp" ∈ AW := aw_of (aw_1 _ (List.mem_of_getElem? (i := 113) rfl)) rfl
theorem qw_1_114 : Cond.superclass RX3 "java/lang/Object" ∈ AW := aw_of (aw_1 _ (List.mem_of_getElem? (i := 114) rfl)) rfl
theorem qw_1_115 : Cond.methodLink RL 84 yX3_beginSetup ∈ AW := aw_of (aw_1 _ (List.mem_of_getElem? (i := 115) rfl)) rfl
theorem qw_1_116 : Cond.instanceMethod yX3_beginSetup ∈ AW := aw_of (aw_1 _ (List.mem_of_getElem? (i := 116) rfl)) rfl
theorem qw_1_117 : Cond.selects RX3 yX3_beginSetup yX3_beginSetup ∈ AW := aw_of (aw_1 _ (List.mem_of_getElem? (i := 117) rfl)) rfl
theorem qw_1_118 : Cond.code yX3_beginSetup cX3_beginSetup 1 none ∈ AW := aw_of (aw_1 _ (List.mem_of_getElem? (i := 118) rfl)) rfl
theorem qw_1_119 : Cond.methodLink RX3 51 yX1_empty ∈ AW := aw_of (aw_1 _ (List.mem_of_getElem? (i := 119) rfl)) rfl
theorem qw_1_120 : Cond.instanceMethod yX1_empty ∈ AW := aw_of (aw_1 _ (List.mem_of_getElem? (i := 120) rfl)) rfl
theorem qw_1_121 : Cond.selects RX1 yX1_empty yX1_empty ∈ AW := aw_of (aw_1 _ (List.mem_of_getElem? (i := 121) rfl)) rfl
theorem qw_1_122 : Cond.code yX1_empty cX1_empty 1 none ∈ AW := aw_of (aw_1 _ (List.mem_of_getElem? (i := 122) rfl)) rfl
theorem qw_1_123 : Cond.methodLink RX1 29 yJ7_fill_d0a16 ∈ AW := aw_of (aw_1 _ (List.mem_of_getElem? (i := 123) rfl)) rfl
theorem qw_1_124 : Cond.static yJ7_fill_d0a16 ∈ AW := aw_of (aw_1 _ (List.mem_of_getElem? (i := 124) rfl)) rfl
theorem qw_1_125 : Cond.code yJ7_fill_d0a16 cJ7_fill_d0a16 5 none ∈ AW := aw_of (aw_1 _ (List.mem_of_getElem? (i := 125) rfl)) rfl
theorem qw_1_126 : Cond.methodLink RL 105 yX3_isSetup ∈ AW := aw_of (aw_1 _ (List.mem_of_getElem? (i := 126) rfl)) rfl
theorem qw_1_127 : Cond.instanceMethod yX3_isSetup ∈ AW := aw_of (aw_1 _ (List.mem_of_getElem? (i := 127) rfl)) rfl
theorem qw_1_128 : Cond.selects RX3 yX3_isSetup yX3_isSetup ∈ AW := aw_of (aw_1 _ (List.mem_of_getElem? (i := 128) rfl)) rfl
theorem qw_1_129 : Cond.code yX3_isSetup cX3_isSetup 1 (some .boolean) ∈ AW := aw_of (aw_1 _ (List.mem_of_getElem? (i := 129) rfl)) rfl
theorem qw_1_130 : Cond.methodLink RL 110 yX3_whiteToAct ∈ AW := aw_of (aw_1 _ (List.mem_of_getElem? (i := 130) rfl)) rfl
theorem qw_1_131 : Cond.instanceMethod yX3_whiteToAct ∈ AW := aw_of (aw_1 _ (List.mem_of_getElem? (i := 131) rfl)) rfl
theorem qw_1_132 : Cond.selects RX3 yX3_whiteToAct yX3_whiteToAct ∈ AW := aw_of (aw_1 _ (List.mem_of_getElem? (i := 132) rfl)) rfl
theorem qw_1_133 : Cond.code yX3_whiteToAct cX3_whiteToAct 1 (some .boolean) ∈ AW := aw_of (aw_1 _ (List.mem_of_getElem? (i := 133) rfl)) rfl
theorem qw_1_134 : Cond.methodLink RL 120 yX3_piecesOf ∈ AW := aw_of (aw_1 _ (List.mem_of_getElem? (i := 134) rfl)) rfl
theorem qw_1_135 : Cond.instanceMethod yX3_piecesOf ∈ AW := aw_of (aw_1 _ (List.mem_of_getElem? (i := 135) rfl)) rfl
theorem qw_1_136 : Cond.selects RX3 yX3_piecesOf yX3_piecesOf ∈ AW := aw_of (aw_1 _ (List.mem_of_getElem? (i := 136) rfl)) rfl
theorem qw_1_137 : Cond.code yX3_piecesOf cX3_piecesOf 2 (some .long) ∈ AW := aw_of (aw_1 _ (List.mem_of_getElem? (i := 137) rfl)) rfl
theorem qw_1_138 : Cond.methodLink RX3 113 yX1_side ∈ AW := aw_of (aw_1 _ (List.mem_of_getElem? (i := 138) rfl)) rfl
theorem qw_1_139 : Cond.instanceMethod yX1_side ∈ AW := aw_of (aw_1 _ (List.mem_of_getElem? (i := 139) rfl)) rfl
theorem qw_1_140 : Cond.selects RX1 yX1_side yX1_side ∈ AW := aw_of (aw_1 _ (List.mem_of_getElem? (i := 140) rfl)) rfl
theorem qw_1_141 : Cond.code yX1_side cX1_side 2 (some .long) ∈ AW := aw_of (aw_1 _ (List.mem_of_getElem? (i := 141) rfl)) rfl
theorem qw_1_142 : Cond.methodLink RL 125 yX3_kingSquare ∈ AW := aw_of (aw_1 _ (List.mem_of_getElem? (i := 142) rfl)) rfl
theorem qw_1_143 : Cond.instanceMethod yX3_kingSquare ∈ AW := aw_of (aw_1 _ (List.mem_of_getElem? (i := 143) rfl)) rfl
theorem qw_1_144 : Cond.selects RX3 yX3_kingSquare yX3_kingSquare ∈ AW := aw_of (aw_1 _ (List.mem_of_getElem? (i := 144) rfl)) rfl
theorem qw_1_145 : Cond.code yX3_kingSquare cX3_kingSquare 2 (some .int) ∈ AW := aw_of (aw_1 _ (List.mem_of_getElem? (i := 145) rfl)) rfl
theorem qw_1_146 : Cond.methodLink RX3 117 yX1_piecesOfKind ∈ AW := aw_of (aw_1 _ (List.mem_of_getElem? (i := 146) rfl)) rfl
theorem qw_1_147 : Cond.instanceMethod yX1_piecesOfKind ∈ AW := aw_of (aw_1 _ (List.mem_of_getElem? (i := 147) rfl)) rfl
theorem qw_1_148 : Cond.selects RX1 yX1_piecesOfKind yX1_piecesOfKind ∈ AW := aw_of (aw_1 _ (List.mem_of_getElem? (i := 148) rfl)) rfl
theorem qw_1_149 : Cond.code yX1_piecesOfKind cX1_piecesOfKind 3 (some .long) ∈ AW := aw_of (aw_1 _ (List.mem_of_getElem? (i := 149) rfl)) rfl
theorem qw_1_150 : Cond.methodLink RX1 45 yX1_side ∈ AW := aw_of (aw_1 _ (List.mem_of_getElem? (i := 150) rfl)) rfl
theorem qw_1_151 : Cond.methodLink RX3 121 yX3_lowestOf ∈ AW := aw_of (aw_1 _ (List.mem_of_getElem? (i := 151) rfl)) rfl
theorem qw_1_152 : Cond.static yX3_lowestOf ∈ AW := aw_of (aw_1 _ (List.mem_of_getElem? (i := 152) rfl)) rfl
theorem qw_1_153 : Cond.code yX3_lowestOf cX3_lowestOf 2 (some .int) ∈ AW := aw_of (aw_1 _ (List.mem_of_getElem? (i := 153) rfl)) rfl
theorem qw_1_154 : Cond.methodLink RX3 76 yJ13_bitCount_95d88 ∈ AW := aw_of (aw_1 _ (List.mem_of_getElem? (i := 154) rfl)) rfl
theorem qw_1_155 : Cond.static yJ13_bitCount_95d88 ∈ AW := aw_of (aw_1 _ (List.mem_of_getElem? (i := 155) rfl)) rfl
theorem qw_1_156 : Cond.code yJ13_bitCount_95d88 cJ13_bitCount_95d88 2 (some .int) ∈ AW := aw_of (aw_1 _ (List.mem_of_getElem? (i := 156) rfl)) rfl
theorem qw_1_157 : Cond.constantLong RJ13 314 6148914691236517205 ∈ AW := aw_of (aw_1 _ (List.mem_of_getElem? (i := 157) rfl)) rfl
theorem qw_1_158 : Cond.constantLong RJ13 316 3689348814741910323 ∈ AW := aw_of (aw_1 _ (List.mem_of_getElem? (i := 158) rfl)) rfl
theorem qw_1_159 : Cond.constantLong RJ13 318 1085102592571150095 ∈ AW := aw_of (aw_1 _ (List.mem_of_getElem? (i := 159) rfl)) rfl
theorem qw_1_160 : Cond.methodLink RL 132 yX3_bondCount ∈ AW := aw_of (aw_1 _ (List.mem_of_getElem? (i := 160) rfl)) rfl
theorem qw_1_161 : Cond.instanceMethod yX3_bondCount ∈ AW := aw_of (aw_1 _ (List.mem_of_getElem? (i := 161) rfl)) rfl
theorem qw_1_162 : Cond.selects RX3 yX3_bondCount yX3_bondCount ∈ AW := aw_of (aw_1 _ (List.mem_of_getElem? (i := 162) rfl)) rfl
theorem qw_1_163 : Cond.code yX3_bondCount cX3_bondCount 2 (some .int) ∈ AW := aw_of (aw_1 _ (List.mem_of_getElem? (i := 163) rfl)) rfl
theorem qw_1_164 : Cond.methodLink RX3 127 yX1_bondedKnights ∈ AW := aw_of (aw_1 _ (List.mem_of_getElem? (i := 164) rfl)) rfl
theorem qw_1_165 : Cond.instanceMethod yX1_bondedKnights ∈ AW := aw_of (aw_1 _ (List.mem_of_getElem? (i := 165) rfl)) rfl
theorem qw_1_166 : Cond.selects RX1 yX1_bondedKnights yX1_bondedKnights ∈ AW := aw_of (aw_1 _ (List.mem_of_getElem? (i := 166) rfl)) rfl
theorem qw_1_167 : Cond.code yX1_bondedKnights cX1_bondedKnights 5 (some .long) ∈ AW := aw_of (aw_1 _ (List.mem_of_getElem? (i := 167) rfl)) rfl
theorem qw_1_168 : Cond.methodLink RL 136 yX3_longestBond ∈ AW := aw_of (aw_1 _ (List.mem_of_getElem? (i := 168) rfl)) rfl
theorem qw_1_169 : Cond.instanceMethod yX3_longestBond ∈ AW := aw_of (aw_1 _ (List.mem_of_getElem? (i := 169) rfl)) rfl
theorem qw_1_170 : Cond.selects RX3 yX3_longestBond yX3_longestBond ∈ AW := aw_of (aw_1 _ (List.mem_of_getElem? (i := 170) rfl)) rfl
theorem qw_1_171 : Cond.code yX3_longestBond cX3_longestBond 7 (some .int) ∈ AW := aw_of (aw_1 _ (List.mem_of_getElem? (i := 171) rfl)) rfl
theorem qw_1_172 : Cond.methodLink RX3 104 yX3_has ∈ AW := aw_of (aw_1 _ (List.mem_of_getElem? (i := 172) rfl)) rfl
theorem qw_1_173 : Cond.static yX3_has ∈ AW := aw_of (aw_1 _ (List.mem_of_getElem? (i := 173) rfl)) rfl
theorem qw_1_174 : Cond.code yX3_has cX3_has 3 (some .boolean) ∈ AW := aw_of (aw_1 _ (List.mem_of_getElem? (i := 174) rfl)) rfl
theorem qw_1_175 : Cond.methodLink RX3 124 yX1_partnerOf ∈ AW := aw_of (aw_1 _ (List.mem_of_getElem? (i := 175) rfl)) rfl
theorem qw_1_176 : Cond.instanceMethod yX1_partnerOf ∈ AW := aw_of (aw_1 _ (List.mem_of_getElem? (i := 176) rfl)) rfl
theorem qw_1_177 : Cond.selects RX1 yX1_partnerOf yX1_partnerOf ∈ AW := aw_of (aw_1 _ (List.mem_of_getElem? (i := 177) rfl)) rfl
theorem qw_1_178 : Cond.code yX1_partnerOf cX1_partnerOf 2 (some .int) ∈ AW := aw_of (aw_1 _ (List.mem_of_getElem? (i := 178) rfl)) rfl
theorem qw_1_179 : Cond.methodLink RX3 130 yX2_hops ∈ AW := aw_of (aw_1 _ (List.mem_of_getElem? (i := 179) rfl)) rfl
theorem qw_1_180 : Cond.static yX2_hops ∈ AW := aw_of (aw_1 _ (List.mem_of_getElem? (i := 180) rfl)) rfl
theorem qw_1_181 : Cond.code yX2_hops cX2_hops 5 (some .int) ∈ AW := aw_of (aw_1 _ (List.mem_of_getElem? (i := 181) rfl)) rfl
theorem qw_1_184 : Cond.methodLink RX2 22 yX2_ofKnight ∈ AW := aw_of (aw_1 _ (List.mem_of_getElem? (i := 184) rfl)) rfl
theorem qw_1_185 : Cond.static yX2_ofKnight ∈ AW := aw_of (aw_1 _ (List.mem_of_getElem? (i := 185) rfl)) rfl
theorem qw_1_186 : Cond.code yX2_ofKnight cX2_ofKnight 6 (some .long) ∈ AW := aw_of (aw_1 _ (List.mem_of_getElem? (i := 186) rfl)) rfl
theorem qw_1_187 : Cond.constantLong RX2 29 (-72340172838076674) ∈ AW := aw_of (aw_1 _ (List.mem_of_getElem? (i := 187) rfl)) rfl
theorem qw_1_188 : Cond.constantLong RX2 31 9187201950435737471 ∈ AW := aw_of (aw_1 _ (List.mem_of_getElem? (i := 188) rfl)) rfl
theorem qw_1_189 : Cond.constantLong RX2 33 (-217020518514230020) ∈ AW := aw_of (aw_1 _ (List.mem_of_getElem? (i := 189) rfl)) rfl
theorem qw_1_190 : Cond.constantLong RX2 35 4557430888798830399 ∈ AW := aw_of (aw_1 _ (List.mem_of_getElem? (i := 190) rfl)) rfl
theorem qw_1_191 : Cond.methodLink RX3 136 yJ9_max_7cf53 ∈ AW := aw_of (aw_1 _ (List.mem_of_getElem? (i := 191) rfl)) rfl
theorem qw_1_192 : Cond.static yJ9_max_7cf53 ∈ AW := aw_of (aw_1 _ (List.mem_of_getElem? (i := 192) rfl)) rfl
theorem qw_1_193 : Cond.code yJ9_max_7cf53 cJ9_max_7cf53 2 (some .int) ∈ AW := aw_of (aw_1 _ (List.mem_of_getElem? (i := 193) rfl)) rfl
theorem qw_1_194 : Cond.methodLink RL 148 yX3_attackedSquares ∈ AW := aw_of (aw_1 _ (List.mem_of_getElem? (i := 194) rfl)) rfl
theorem qw_1_195 : Cond.instanceMethod yX3_attackedSquares ∈ AW := aw_of (aw_1 _ (List.mem_of_getElem? (i := 195) rfl)) rfl
theorem qw_1_196 : Cond.selects RX3 yX3_attackedSquares yX3_attackedSquares ∈ AW := aw_of (aw_1 _ (List.mem_of_getElem? (i := 196) rfl)) rfl
theorem qw_1_197 : Cond.code yX3_attackedSquares cX3_attackedSquares 2 (some .long) ∈ AW := aw_of (aw_1 _ (List.mem_of_getElem? (i := 197) rfl)) rfl
theorem qw_1_198 : Cond.methodLink RX3 149 yX1_attackedBy ∈ AW := aw_of (aw_1 _ (List.mem_of_getElem? (i := 198) rfl)) rfl
theorem qw_1_199 : Cond.instanceMethod yX1_attackedBy ∈ AW := aw_of (aw_1 _ (List.mem_of_getElem? (i := 199) rfl)) rfl
theorem qw_1_200 : Cond.selects RX1 yX1_attackedBy yX1_attackedBy ∈ AW := aw_of (aw_1 _ (List.mem_of_getElem? (i := 200) rfl)) rfl
theorem qw_1_201 : Cond.code yX1_attackedBy cX1_attackedBy 5 (some .long) ∈ AW := aw_of (aw_1 _ (List.mem_of_getElem? (i := 201) rfl)) rfl
theorem qw_1_202 : Cond.methodLink RX1 57 yX1_occupied ∈ AW := aw_of (aw_1 _ (List.mem_of_getElem? (i := 202) rfl)) rfl
theorem qw_1_203 : Cond.instanceMethod yX1_occupied ∈ AW := aw_of (aw_1 _ (List.mem_of_getElem? (i := 203) rfl)) rfl
theorem qw_1_204 : Cond.selects RX1 yX1_occupied yX1_occupied ∈ AW := aw_of (aw_1 _ (List.mem_of_getElem? (i := 204) rfl)) rfl
theorem qw_1_205 : Cond.code yX1_occupied cX1_occupied 1 (some .long) ∈ AW := aw_of (aw_1 _ (List.mem_of_getElem? (i := 205) rfl)) rfl
theorem qw_1_206 : Cond.methodLink RX1 113 yX2_of ∈ AW := aw_of (aw_1 _ (List.mem_of_getElem? (i := 206) rfl)) rfl
theorem qw_1_207 : Cond.static yX2_of ∈ AW := aw_of (aw_1 _ (List.mem_of_getElem? (i := 207) rfl)) rfl
theorem qw_1_208 : Cond.code yX2_of cX2_of 6 (some .long) ∈ AW := aw_of (aw_1 _ (List.mem_of_getElem? (i := 208) rfl)) rfl
theorem qw_1_209 : Cond.methodLink RX2 9 yX2_ofKing ∈ AW := aw_of (aw_1 _ (List.mem_of_getElem? (i := 209) rfl)) rfl
theorem qw_1_210 : Cond.static yX2_ofKing ∈ AW := aw_of (aw_1 _ (List.mem_of_getElem? (i := 210) rfl)) rfl
theorem qw_1_211 : Cond.code yX2_ofKing cX2_ofKing 6 (some .long) ∈ AW := aw_of (aw_1 _ (List.mem_of_getElem? (i := 211) rfl)) rfl
theorem qw_1_212 : Cond.methodLink RX2 15 yX2_ofRook ∈ AW := aw_of (aw_1 _ (List.mem_of_getElem? (i := 212) rfl)) rfl
theorem qw_1_213 : Cond.static yX2_ofRook ∈ AW := aw_of (aw_1 _ (List.mem_of_getElem? (i := 213) rfl)) rfl
theorem qw_1_214 : Cond.code yX2_ofRook cX2_ofRook 17 (some .long) ∈ AW := aw_of (aw_1 _ (List.mem_of_getElem? (i := 214) rfl)) rfl
theorem qw_1_215 : Cond.constantLong RX2 37 (-1) ∈ AW := aw_of (aw_1 _ (List.mem_of_getElem? (i := 215) rfl)) rfl
theorem qw_1_216 : Cond.methodLink RX2 19 yX2_ofBishop ∈ AW := aw_of (aw_1 _ (List.mem_of_getElem? (i := 216) rfl)) rfl
theorem qw_1_217 : Cond.static yX2_ofBishop ∈ AW := aw_of (aw_1 _ (List.mem_of_getElem? (i := 217) rfl)) rfl
theorem qw_1_218 : Cond.code yX2_ofBishop cX2_ofBishop 17 (some .long) ∈ AW := aw_of (aw_1 _ (List.mem_of_getElem? (i := 218) rfl)) rfl
theorem qw_1_219 : Cond.methodLink RX2 25 yX2_ofPawn ∈ AW := aw_of (aw_1 _ (List.mem_of_getElem? (i := 219) rfl)) rfl
theorem qw_1_220 : Cond.static yX2_ofPawn ∈ AW := aw_of (aw_1 _ (List.mem_of_getElem? (i := 220) rfl)) rfl
theorem qw_1_221 : Cond.code yX2_ofPawn cX2_ofPawn 5 (some .long) ∈ AW := aw_of (aw_1 _ (List.mem_of_getElem? (i := 221) rfl)) rfl
theorem qw_1_222 : Cond.methodLink RL 152 yX3_isInCheck ∈ AW := aw_of (aw_1 _ (List.mem_of_getElem? (i := 222) rfl)) rfl
theorem qw_1_223 : Cond.instanceMethod yX3_isInCheck ∈ AW := aw_of (aw_1 _ (List.mem_of_getElem? (i := 223) rfl)) rfl
theorem qw_1_224 : Cond.selects RX3 yX3_isInCheck yX3_isInCheck ∈ AW := aw_of (aw_1 _ (List.mem_of_getElem? (i := 224) rfl)) rfl
theorem qw_1_225 : Cond.code yX3_isInCheck cX3_isInCheck 2 (some .boolean) ∈ AW := aw_of (aw_1 _ (List.mem_of_getElem? (i := 225) rfl)) rfl
theorem qw_1_226 : Cond.methodLink RX3 152 yX1_isChecked ∈ AW := aw_of (aw_1 _ (List.mem_of_getElem? (i := 226) rfl)) rfl
theorem qw_1_227 : Cond.instanceMethod yX1_isChecked ∈ AW := aw_of (aw_1 _ (List.mem_of_getElem? (i := 227) rfl)) rfl
theorem qw_1_228 : Cond.selects RX1 yX1_isChecked yX1_isChecked ∈ AW := aw_of (aw_1 _ (List.mem_of_getElem? (i := 228) rfl)) rfl
theorem qw_1_229 : Cond.code yX1_isChecked cX1_isChecked 2 (some .boolean) ∈ AW := aw_of (aw_1 _ (List.mem_of_getElem? (i := 229) rfl)) rfl
theorem qw_1_230 : Cond.methodLink RX1 61 yX1_piecesOfKind ∈ AW := aw_of (aw_1 _ (List.mem_of_getElem? (i := 230) rfl)) rfl
theorem qw_1_231 : Cond.methodLink RX1 117 yX1_attackersOn ∈ AW := aw_of (aw_1 _ (List.mem_of_getElem? (i := 231) rfl)) rfl
theorem qw_1_232 : Cond.instanceMethod yX1_attackersOn ∈ AW := aw_of (aw_1 _ (List.mem_of_getElem? (i := 232) rfl)) rfl
theorem qw_1_233 : Cond.selects RX1 yX1_attackersOn yX1_attackersOn ∈ AW := aw_of (aw_1 _ (List.mem_of_getElem? (i := 233) rfl)) rfl
theorem qw_1_234 : Cond.code yX1_attackersOn cX1_attackersOn 12 (some .long) ∈ AW := aw_of (aw_1 _ (List.mem_of_getElem? (i := 234) rfl)) rfl
theorem qw_1_235 : Cond.methodLink RX1 93 yX2_ofKing ∈ AW := aw_of (aw_1 _ (List.mem_of_getElem? (i := 235) rfl)) rfl
theorem qw_1_236 : Cond.methodLink RX1 99 yX2_ofKnight ∈ AW := aw_of (aw_1 _ (List.mem_of_getElem? (i := 236) rfl)) rfl
theorem qw_1_237 : Cond.methodLink RX1 102 yX2_ofPawn ∈ AW := aw_of (aw_1 _ (List.mem_of_getElem? (i := 237) rfl)) rfl
theorem qw_1_238 : Cond.methodLink RX1 106 yX2_ofRook ∈ AW := aw_of (aw_1 _ (List.mem_of_getElem? (i := 238) rfl)) rfl
theorem qw_1_239 : Cond.methodLink RX1 110 yX2_ofBishop ∈ AW := aw_of (aw_1 _ (List.mem_of_getElem? (i := 239) rfl)) rfl
theorem qw_2_0 : Cond.methodLink RL 160 yX3_legalMoveCount ∈ AW := aw_of (aw_2 _ (List.mem_of_getElem? (i := 0) rfl)) rfl
theorem qw_2_1 : Cond.instanceMethod yX3_legalMoveCount ∈ AW := aw_of (aw_2 _ (List.mem_of_getElem? (i := 1) rfl)) rfl
theorem qw_2_2 : Cond.selects RX3 yX3_legalMoveCount yX3_legalMoveCount ∈ AW := aw_of (aw_2 _ (List.mem_of_getElem? (i := 2) rfl)) rfl
theorem qw_2_3 : Cond.code yX3_legalMoveCount cX3_legalMoveCount 1 (some .int) ∈ AW := aw_of (aw_2 _ (List.mem_of_getElem? (i := 3) rfl)) rfl
theorem qw_2_4 : Cond.methodLink RX3 155 yX3_isPlayed ∈ AW := aw_of (aw_2 _ (List.mem_of_getElem? (i := 4) rfl)) rfl
theorem qw_2_6 : Cond.instanceMethod yX3_isPlayed ∈ AW := aw_of (aw_2 _ (List.mem_of_getElem? (i := 6) rfl)) rfl
theorem qw_2_7 : Cond.code yX3_isPlayed cX3_isPlayed 1 (some .boolean) ∈ AW := aw_of (aw_2 _ (List.mem_of_getElem? (i := 7) rfl)) rfl
theorem qw_2_8 : Cond.methodLink RX3 169 yX1_lawfulMoveCount ∈ AW := aw_of (aw_2 _ (List.mem_of_getElem? (i := 8) rfl)) rfl
theorem qw_2_9 : Cond.instanceMethod yX1_lawfulMoveCount ∈ AW := aw_of (aw_2 _ (List.mem_of_getElem? (i := 9) rfl)) rfl
theorem qw_2_10 : Cond.selects RX1 yX1_lawfulMoveCount yX1_lawfulMoveCount ∈ AW := aw_of (aw_2 _ (List.mem_of_getElem? (i := 10) rfl)) rfl
theorem qw_2_11 : Cond.code yX1_lawfulMoveCount cX1_lawfulMoveCount 5 (some .int) ∈ AW := aw_of (aw_2 _ (List.mem_of_getElem? (i := 11) rfl)) rfl
theorem qw_2_12 : Cond.methodLink RX1 138 yX1_delicateSquares ∈ AW := aw_of (aw_2 _ (List.mem_of_getElem? (i := 12) rfl)) rfl
theorem qw_2_13 : Cond.instanceMethod yX1_delicateSquares ∈ AW := aw_of (aw_2 _ (List.mem_of_getElem? (i := 13) rfl)) rfl
theorem qw_2_14 : Cond.selects RX1 yX1_delicateSquares yX1_delicateSquares ∈ AW := aw_of (aw_2 _ (List.mem_of_getElem? (i := 14) rfl)) rfl
theorem qw_2_15 : Cond.code yX1_delicateSquares cX1_delicateSquares 5 (some .long) ∈ AW := aw_of (aw_2 _ (List.mem_of_getElem? (i := 15) rfl)) rfl
theorem qw_2_16 : Cond.methodLink RX1 65 yX1_isChecked ∈ AW := aw_of (aw_2 _ (List.mem_of_getElem? (i := 16) rfl)) rfl
theorem qw_2_17 : Cond.methodLink RX1 121 yX1_acting ∈ AW := aw_of (aw_2 _ (List.mem_of_getElem? (i := 17) rfl)) rfl
theorem qw_2_18 : Cond.instanceMethod yX1_acting ∈ AW := aw_of (aw_2 _ (List.mem_of_getElem? (i := 18) rfl)) rfl
theorem qw_2_19 : Cond.selects RX1 yX1_acting yX1_acting ∈ AW := aw_of (aw_2 _ (List.mem_of_getElem? (i := 19) rfl)) rfl
theorem qw_2_20 : Cond.code yX1_acting cX1_acting 1 (some .long) ∈ AW := aw_of (aw_2 _ (List.mem_of_getElem? (i := 20) rfl)) rfl
theorem qw_2_22 : Cond.methodLink RX1 141 yX1_lawfulTargets ∈ AW := aw_of (aw_2 _ (List.mem_of_getElem? (i := 22) rfl)) rfl
theorem qw_2_23 : Cond.instanceMethod yX1_lawfulTargets ∈ AW := aw_of (aw_2 _ (List.mem_of_getElem? (i := 23) rfl)) rfl
theorem qw_2_24 : Cond.selects RX1 yX1_lawfulTargets yX1_lawfulTargets ∈ AW := aw_of (aw_2 _ (List.mem_of_getElem? (i := 24) rfl)) rfl
theorem qw_2_25 : Cond.code yX1_lawfulTargets cX1_lawfulTargets 9 (some .long) ∈ AW := aw_of (aw_2 _ (List.mem_of_getElem? (i := 25) rfl)) rfl
theorem qw_2_26 : Cond.methodLink RX1 128 yX1_targetsFrom ∈ AW := aw_of (aw_2 _ (List.mem_of_getElem? (i := 26) rfl)) rfl
theorem qw_2_27 : Cond.instanceMethod yX1_targetsFrom ∈ AW := aw_of (aw_2 _ (List.mem_of_getElem? (i := 27) rfl)) rfl
theorem qw_2_28 : Cond.selects RX1 yX1_targetsFrom yX1_targetsFrom ∈ AW := aw_of (aw_2 _ (List.mem_of_getElem? (i := 28) rfl)) rfl
theorem qw_2_29 : Cond.code yX1_targetsFrom cX1_targetsFrom 7 (some .long) ∈ AW := aw_of (aw_2 _ (List.mem_of_getElem? (i := 29) rfl)) rfl
theorem qw_2_30 : Cond.methodLink RX1 75 yX1_kindOn ∈ AW := aw_of (aw_2 _ (List.mem_of_getElem? (i := 30) rfl)) rfl
theorem qw_2_31 : Cond.instanceMethod yX1_kindOn ∈ AW := aw_of (aw_2 _ (List.mem_of_getElem? (i := 31) rfl)) rfl
theorem qw_2_32 : Cond.selects RX1 yX1_kindOn yX1_kindOn ∈ AW := aw_of (aw_2 _ (List.mem_of_getElem? (i := 32) rfl)) rfl
theorem qw_2_33 : Cond.code yX1_kindOn cX1_kindOn 3 (some .int) ∈ AW := aw_of (aw_2 _ (List.mem_of_getElem? (i := 33) rfl)) rfl
theorem qw_2_34 : Cond.constantLong RX1 69 (-1) ∈ AW := aw_of (aw_2 _ (List.mem_of_getElem? (i := 34) rfl)) rfl
theorem qw_2_35 : Cond.methodLink RX1 131 yX1_bondRange ∈ AW := aw_of (aw_2 _ (List.mem_of_getElem? (i := 35) rfl)) rfl
theorem qw_2_36 : Cond.instanceMethod yX1_bondRange ∈ AW := aw_of (aw_2 _ (List.mem_of_getElem? (i := 36) rfl)) rfl
theorem qw_2_37 : Cond.selects RX1 yX1_bondRange yX1_bondRange ∈ AW := aw_of (aw_2 _ (List.mem_of_getElem? (i := 37) rfl)) rfl
theorem qw_2_38 : Cond.code yX1_bondRange cX1_bondRange 3 (some .long) ∈ AW := aw_of (aw_2 _ (List.mem_of_getElem? (i := 38) rfl)) rfl
theorem qw_2_39 : Cond.methodLink RX1 71 yX1_partnerOf ∈ AW := aw_of (aw_2 _ (List.mem_of_getElem? (i := 39) rfl)) rfl
theorem qw_2_40 : Cond.methodLink RX1 124 yX2_withinHops ∈ AW := aw_of (aw_2 _ (List.mem_of_getElem? (i := 40) rfl)) rfl
theorem qw_2_41 : Cond.static yX2_withinHops ∈ AW := aw_of (aw_2 _ (List.mem_of_getElem? (i := 41) rfl)) rfl
theorem qw_2_42 : Cond.code yX2_withinHops cX2_withinHops 6 (some .long) ∈ AW := aw_of (aw_2 _ (List.mem_of_getElem? (i := 42) rfl)) rfl
theorem qw_2_43 : Cond.methodLink RX1 134 yX1_keepsKingSafe ∈ AW := aw_of (aw_2 _ (List.mem_of_getElem? (i := 43) rfl)) rfl
theorem qw_2_44 : Cond.instanceMethod yX1_keepsKingSafe ∈ AW := aw_of (aw_2 _ (List.mem_of_getElem? (i := 44) rfl)) rfl
theorem qw_2_45 : Cond.selects RX1 yX1_keepsKingSafe yX1_keepsKingSafe ∈ AW := aw_of (aw_2 _ (List.mem_of_getElem? (i := 45) rfl)) rfl
theorem qw_2_46 : Cond.code yX1_keepsKingSafe cX1_keepsKingSafe 7 (some .boolean) ∈ AW := aw_of (aw_2 _ (List.mem_of_getElem? (i := 46) rfl)) rfl
theorem qw_2_47 : Cond.methodLink RX1 145 yJ13_bitCount_95d88 ∈ AW := aw_of (aw_2 _ (List.mem_of_getElem? (i := 47) rfl)) rfl
theorem qw_2_48 : Cond.methodLink RL 173 yX3_matingMove ∈ AW := aw_of (aw_2 _ (List.mem_of_getElem? (i := 48) rfl)) rfl
theorem qw_2_49 : Cond.instanceMethod yX3_matingMove ∈ AW := aw_of (aw_2 _ (List.mem_of_getElem? (i := 49) rfl)) rfl
theorem qw_2_50 : Cond.selects RX3 yX3_matingMove yX3_matingMove ∈ AW := aw_of (aw_2 _ (List.mem_of_getElem? (i := 50) rfl)) rfl
theorem qw_2_51 : Cond.code yX3_matingMove cX3_matingMove 8 (some .int) ∈ AW := aw_of (aw_2 _ (List.mem_of_getElem? (i := 51) rfl)) rfl
theorem qw_2_52 : Cond.methodLink RX3 162 yX1_delicateSquares ∈ AW := aw_of (aw_2 _ (List.mem_of_getElem? (i := 52) rfl)) rfl
theorem qw_2_53 : Cond.methodLink RX3 159 yX1_acting ∈ AW := aw_of (aw_2 _ (List.mem_of_getElem? (i := 53) rfl)) rfl
theorem qw_2_54 : Cond.methodLink RX3 165 yX1_lawfulTargets ∈ AW := aw_of (aw_2 _ (List.mem_of_getElem? (i := 54) rfl)) rfl
theorem qw_2_55 : Cond.methodLink RX3 182 yX3_tryMove ∈ AW := aw_of (aw_2 _ (List.mem_of_getElem? (i := 55) rfl)) rfl
theorem qw_2_57 : Cond.instanceMethod yX3_tryMove ∈ AW := aw_of (aw_2 _ (List.mem_of_getElem? (i := 57) rfl)) rfl
theorem qw_2_58 : Cond.code yX3_tryMove cX3_tryMove 3 none ∈ AW := aw_of (aw_2 _ (List.mem_of_getElem? (i := 58) rfl)) rfl
theorem qw_2_59 : Cond.methodLink RX3 259 yX1_copyFrom ∈ AW := aw_of (aw_2 _ (List.mem_of_getElem? (i := 59) rfl)) rfl
theorem qw_2_60 : Cond.instanceMethod yX1_copyFrom ∈ AW := aw_of (aw_2 _ (List.mem_of_getElem? (i := 60) rfl)) rfl
theorem qw_2_61 : Cond.selects RX1 yX1_copyFrom yX1_copyFrom ∈ AW := aw_of (aw_2 _ (List.mem_of_getElem? (i := 61) rfl)) rfl
theorem qw_2_62 : Cond.code yX1_copyFrom cX1_copyFrom 2 none ∈ AW := aw_of (aw_2 _ (List.mem_of_getElem? (i := 62) rfl)) rfl
theorem qw_2_63 : Cond.methodLink RX1 39 ⟨RJ10, "arraycopy", "(Ljava/lang/Object;ILjava/lang/Object;II)V"⟩ ∈ AW := aw_of (aw_2 _ (List.mem_of_getElem? (i := 63) rfl)) rfl
theorem qw_2_64 : Cond.static ⟨RJ10, "arraycopy", "(Ljava/lang/Object;ILjava/lang/Object;II)V"⟩ ∈ AW := aw_of (aw_2 _ (List.mem_of_getElem? (i := 64) rfl)) rfl
theorem qw_2_65 : Cond.native ⟨RJ10, "arraycopy", "(Ljava/lang/Object;ILjava/lang/Object;II)V"⟩ ∈ AW := aw_of (aw_2 _ (List.mem_of_getElem? (i := 65) rfl)) rfl
theorem qw_2_66 : Cond.methodLink RX3 207 yX1_shift ∈ AW := aw_of (aw_2 _ (List.mem_of_getElem? (i := 66) rfl)) rfl
theorem qw_2_67 : Cond.instanceMethod yX1_shift ∈ AW := aw_of (aw_2 _ (List.mem_of_getElem? (i := 67) rfl)) rfl
theorem qw_2_68 : Cond.selects RX1 yX1_shift yX1_shift ∈ AW := aw_of (aw_2 _ (List.mem_of_getElem? (i := 68) rfl)) rfl
theorem qw_2_69 : Cond.code yX1_shift cX1_shift 9 (some .int) ∈ AW := aw_of (aw_2 _ (List.mem_of_getElem? (i := 69) rfl)) rfl
theorem qw_2_70 : Cond.methodLink RX1 78 yX1_part ∈ AW := aw_of (aw_2 _ (List.mem_of_getElem? (i := 70) rfl)) rfl
theorem qw_2_71 : Cond.instanceMethod yX1_part ∈ AW := aw_of (aw_2 _ (List.mem_of_getElem? (i := 71) rfl)) rfl
theorem qw_2_72 : Cond.selects RX1 yX1_part yX1_part ∈ AW := aw_of (aw_2 _ (List.mem_of_getElem? (i := 72) rfl)) rfl
theorem qw_2_73 : Cond.code yX1_part cX1_part 3 (some .int) ∈ AW := aw_of (aw_2 _ (List.mem_of_getElem? (i := 73) rfl)) rfl
theorem qw_2_74 : Cond.methodLink RX1 81 yX1_lift ∈ AW := aw_of (aw_2 _ (List.mem_of_getElem? (i := 74) rfl)) rfl
theorem qw_2_75 : Cond.instanceMethod yX1_lift ∈ AW := aw_of (aw_2 _ (List.mem_of_getElem? (i := 75) rfl)) rfl
theorem qw_2_76 : Cond.selects RX1 yX1_lift yX1_lift ∈ AW := aw_of (aw_2 _ (List.mem_of_getElem? (i := 76) rfl)) rfl
theorem qw_2_77 : Cond.code yX1_lift cX1_lift 5 none ∈ AW := aw_of (aw_2 _ (List.mem_of_getElem? (i := 77) rfl)) rfl
theorem qw_2_78 : Cond.methodLink RX1 85 yX1_put ∈ AW := aw_of (aw_2 _ (List.mem_of_getElem? (i := 78) rfl)) rfl
theorem qw_2_79 : Cond.methodLink RX1 89 yX1_join ∈ AW := aw_of (aw_2 _ (List.mem_of_getElem? (i := 79) rfl)) rfl
theorem qw_2_80 : Cond.methodLink RX3 216 yX1_passTurn ∈ AW := aw_of (aw_2 _ (List.mem_of_getElem? (i := 80) rfl)) rfl
theorem qw_2_81 : Cond.instanceMethod yX1_passTurn ∈ AW := aw_of (aw_2 _ (List.mem_of_getElem? (i := 81) rfl)) rfl
theorem qw_2_82 : Cond.selects RX1 yX1_passTurn yX1_passTurn ∈ AW := aw_of (aw_2 _ (List.mem_of_getElem? (i := 82) rfl)) rfl
theorem qw_2_83 : Cond.code yX1_passTurn cX1_passTurn 1 none ∈ AW := aw_of (aw_2 _ (List.mem_of_getElem? (i := 83) rfl)) rfl
theorem qw_2_84 : Cond.methodLink RX3 185 yX1_isMated ∈ AW := aw_of (aw_2 _ (List.mem_of_getElem? (i := 84) rfl)) rfl
theorem qw_2_85 : Cond.instanceMethod yX1_isMated ∈ AW := aw_of (aw_2 _ (List.mem_of_getElem? (i := 85) rfl)) rfl
theorem qw_2_86 : Cond.selects RX1 yX1_isMated yX1_isMated ∈ AW := aw_of (aw_2 _ (List.mem_of_getElem? (i := 86) rfl)) rfl
theorem qw_2_87 : Cond.code yX1_isMated cX1_isMated 1 (some .boolean) ∈ AW := aw_of (aw_2 _ (List.mem_of_getElem? (i := 87) rfl)) rfl
theorem qw_2_88 : Cond.methodLink RX1 154 yX1_hasLawfulMove ∈ AW := aw_of (aw_2 _ (List.mem_of_getElem? (i := 88) rfl)) rfl
theorem qw_2_89 : Cond.instanceMethod yX1_hasLawfulMove ∈ AW := aw_of (aw_2 _ (List.mem_of_getElem? (i := 89) rfl)) rfl
theorem qw_2_90 : Cond.selects RX1 yX1_hasLawfulMove yX1_hasLawfulMove ∈ AW := aw_of (aw_2 _ (List.mem_of_getElem? (i := 90) rfl)) rfl
theorem qw_2_91 : Cond.code yX1_hasLawfulMove cX1_hasLawfulMove 4 (some .boolean) ∈ AW := aw_of (aw_2 _ (List.mem_of_getElem? (i := 91) rfl)) rfl
theorem qw_2_92 : Cond.methodLink RL 193 yX3_actionCount ∈ AW := aw_of (aw_2 _ (List.mem_of_getElem? (i := 92) rfl)) rfl
theorem qw_2_93 : Cond.instanceMethod yX3_actionCount ∈ AW := aw_of (aw_2 _ (List.mem_of_getElem? (i := 93) rfl)) rfl
theorem qw_2_94 : Cond.selects RX3 yX3_actionCount yX3_actionCount ∈ AW := aw_of (aw_2 _ (List.mem_of_getElem? (i := 94) rfl)) rfl
theorem qw_2_95 : Cond.code yX3_actionCount cX3_actionCount 1 (some .int) ∈ AW := aw_of (aw_2 _ (List.mem_of_getElem? (i := 95) rfl)) rfl
theorem qw_2_96 : Cond.methodLink RL 197 yX3_outcome ∈ AW := aw_of (aw_2 _ (List.mem_of_getElem? (i := 96) rfl)) rfl
theorem qw_2_97 : Cond.instanceMethod yX3_outcome ∈ AW := aw_of (aw_2 _ (List.mem_of_getElem? (i := 97) rfl)) rfl
theorem qw_2_98 : Cond.selects RX3 yX3_outcome yX3_outcome ∈ AW := aw_of (aw_2 _ (List.mem_of_getElem? (i := 98) rfl)) rfl
theorem qw_2_99 : Cond.code yX3_outcome cX3_outcome 1 (some .int) ∈ AW := aw_of (aw_2 _ (List.mem_of_getElem? (i := 99) rfl)) rfl
theorem qw_2_100 : Cond.methodLink RL 201 yX3_occurrences ∈ AW := aw_of (aw_2 _ (List.mem_of_getElem? (i := 100) rfl)) rfl
theorem qw_2_101 : Cond.instanceMethod yX3_occurrences ∈ AW := aw_of (aw_2 _ (List.mem_of_getElem? (i := 101) rfl)) rfl
theorem qw_2_102 : Cond.selects RX3 yX3_occurrences yX3_occurrences ∈ AW := aw_of (aw_2 _ (List.mem_of_getElem? (i := 102) rfl)) rfl
theorem qw_2_103 : Cond.code yX3_occurrences cX3_occurrences 1 (some .int) ∈ AW := aw_of (aw_2 _ (List.mem_of_getElem? (i := 103) rfl)) rfl
theorem qw_2_104 : Cond.methodLink RX3 240 yX3_timesOccurred ∈ AW := aw_of (aw_2 _ (List.mem_of_getElem? (i := 104) rfl)) rfl
theorem qw_2_106 : Cond.instanceMethod yX3_timesOccurred ∈ AW := aw_of (aw_2 _ (List.mem_of_getElem? (i := 106) rfl)) rfl
theorem qw_2_107 : Cond.code yX3_timesOccurred cX3_timesOccurred 3 (some .int) ∈ AW := aw_of (aw_2 _ (List.mem_of_getElem? (i := 107) rfl)) rfl
theorem qw_2_108 : Cond.methodLink RX3 272 yX1_matches ∈ AW := aw_of (aw_2 _ (List.mem_of_getElem? (i := 108) rfl)) rfl
theorem qw_2_109 : Cond.instanceMethod yX1_matches ∈ AW := aw_of (aw_2 _ (List.mem_of_getElem? (i := 109) rfl)) rfl
theorem qw_2_110 : Cond.selects RX1 yX1_matches yX1_matches ∈ AW := aw_of (aw_2 _ (List.mem_of_getElem? (i := 110) rfl)) rfl
theorem qw_2_111 : Cond.code yX1_matches cX1_matches 3 (some .boolean) ∈ AW := aw_of (aw_2 _ (List.mem_of_getElem? (i := 111) rfl)) rfl
theorem qw_2_112 : Cond.methodLink RL 205 yX3_quietActions ∈ AW := aw_of (aw_2 _ (List.mem_of_getElem? (i := 112) rfl)) rfl
theorem qw_2_113 : Cond.instanceMethod yX3_quietActions ∈ AW := aw_of (aw_2 _ (List.mem_of_getElem? (i := 113) rfl)) rfl
theorem qw_2_114 : Cond.selects RX3 yX3_quietActions yX3_quietActions ∈ AW := aw_of (aw_2 _ (List.mem_of_getElem? (i := 114) rfl)) rfl
theorem qw_2_115 : Cond.code yX3_quietActions cX3_quietActions 1 (some .int) ∈ AW := aw_of (aw_2 _ (List.mem_of_getElem? (i := 115) rfl)) rfl
theorem qw_2_116 : Cond.methodLink RL 212 yX3_strengthOf ∈ AW := aw_of (aw_2 _ (List.mem_of_getElem? (i := 116) rfl)) rfl
theorem qw_2_117 : Cond.instanceMethod yX3_strengthOf ∈ AW := aw_of (aw_2 _ (List.mem_of_getElem? (i := 117) rfl)) rfl
theorem qw_2_118 : Cond.selects RX3 yX3_strengthOf yX3_strengthOf ∈ AW := aw_of (aw_2 _ (List.mem_of_getElem? (i := 118) rfl)) rfl
theorem qw_2_119 : Cond.code yX3_strengthOf cX3_strengthOf 7 (some .float) ∈ AW := aw_of (aw_2 _ (List.mem_of_getElem? (i := 119) rfl)) rfl
theorem qw_2_120 : Cond.methodLink RX3 82 yX1_kindOn ∈ AW := aw_of (aw_2 _ (List.mem_of_getElem? (i := 120) rfl)) rfl
theorem qw_2_121 : Cond.methodLink RX3 243 yX3_weightOf ∈ AW := aw_of (aw_2 _ (List.mem_of_getElem? (i := 121) rfl)) rfl
theorem qw_2_122 : Cond.static yX3_weightOf ∈ AW := aw_of (aw_2 _ (List.mem_of_getElem? (i := 122) rfl)) rfl
theorem qw_2_123 : Cond.code yX3_weightOf cX3_weightOf 2 (some .float) ∈ AW := aw_of (aw_2 _ (List.mem_of_getElem? (i := 123) rfl)) rfl
theorem qw_2_124 : Cond.constantFloat RX3 283 1092091904 ∈ AW := aw_of (aw_2 _ (List.mem_of_getElem? (i := 124) rfl)) rfl
theorem qw_2_125 : Cond.constantFloat RX3 284 1084227584 ∈ AW := aw_of (aw_2 _ (List.mem_of_getElem? (i := 125) rfl)) rfl
theorem qw_2_126 : Cond.constantFloat RX3 285 1079194419 ∈ AW := aw_of (aw_2 _ (List.mem_of_getElem? (i := 126) rfl)) rfl
theorem qw_2_127 : Cond.constantFloat RX3 286 1080872141 ∈ AW := aw_of (aw_2 _ (List.mem_of_getElem? (i := 127) rfl)) rfl
theorem qw_2_128 : Cond.constantFloat RX3 287 1078774989 ∈ AW := aw_of (aw_2 _ (List.mem_of_getElem? (i := 128) rfl)) rfl
theorem qw_2_129 : Cond.constantFloat RX3 247 1036831949 ∈ AW := aw_of (aw_2 _ (List.mem_of_getElem? (i := 129) rfl)) rfl
theorem qw_2_130 : Cond.methodLink RL 217 yX3_strengthBits ∈ AW := aw_of (aw_2 _ (List.mem_of_getElem? (i := 130) rfl)) rfl
theorem qw_2_131 : Cond.instanceMethod yX3_strengthBits ∈ AW := aw_of (aw_2 _ (List.mem_of_getElem? (i := 131) rfl)) rfl
theorem qw_2_132 : Cond.selects RX3 yX3_strengthBits yX3_strengthBits ∈ AW := aw_of (aw_2 _ (List.mem_of_getElem? (i := 132) rfl)) rfl
theorem qw_2_133 : Cond.code yX3_strengthBits cX3_strengthBits 2 (some .int) ∈ AW := aw_of (aw_2 _ (List.mem_of_getElem? (i := 133) rfl)) rfl
theorem qw_2_134 : Cond.methodLink RX3 248 yX3_strengthOf ∈ AW := aw_of (aw_2 _ (List.mem_of_getElem? (i := 134) rfl)) rfl
theorem qw_2_135 : Cond.methodLink RX3 252 yX3_bitsOf ∈ AW := aw_of (aw_2 _ (List.mem_of_getElem? (i := 135) rfl)) rfl
theorem qw_2_136 : Cond.static yX3_bitsOf ∈ AW := aw_of (aw_2 _ (List.mem_of_getElem? (i := 136) rfl)) rfl
theorem qw_2_137 : Cond.code yX3_bitsOf cX3_bitsOf 3 (some .int) ∈ AW := aw_of (aw_2 _ (List.mem_of_getElem? (i := 137) rfl)) rfl
theorem qw_2_138 : Cond.constantFloat RX3 288 1258291200 ∈ AW := aw_of (aw_2 _ (List.mem_of_getElem? (i := 138) rfl)) rfl
theorem qw_2_139 : Cond.methodLink RL 221 yX3_balance ∈ AW := aw_of (aw_2 _ (List.mem_of_getElem? (i := 139) rfl)) rfl
theorem qw_2_140 : Cond.instanceMethod yX3_balance ∈ AW := aw_of (aw_2 _ (List.mem_of_getElem? (i := 140) rfl)) rfl
theorem qw_2_141 : Cond.selects RX3 yX3_balance yX3_balance ∈ AW := aw_of (aw_2 _ (List.mem_of_getElem? (i := 141) rfl)) rfl
theorem qw_2_142 : Cond.code yX3_balance cX3_balance 1 (some .double) ∈ AW := aw_of (aw_2 _ (List.mem_of_getElem? (i := 142) rfl)) rfl
theorem qw_2_143 : Cond.methodLink RL 88 yL_place ∈ AW := aw_of (aw_2 _ (List.mem_of_getElem? (i := 143) rfl)) rfl
theorem qw_2_144 : Cond.static yL_place ∈ AW := aw_of (aw_2 _ (List.mem_of_getElem? (i := 144) rfl)) rfl
theorem qw_2_145 : Cond.codeWith yL_place cL_place 6 (some .int) [(0, 12, 15, 13), (0, 12, 19, 15), (0, 12, 23, 17)] ∈ AW := aw_of (aw_2 _ (List.mem_of_getElem? (i := 145) rfl)) rfl
theorem qw_2_146 : Cond.classLink RL 13 "java/lang/IndexOutOfBoundsException" ∈ AW := aw_of (aw_2 _ (List.mem_of_getElem? (i := 146) rfl)) rfl
theorem qw_2_147 : Cond.classLink RL 15 "java/lang/IllegalArgumentException" ∈ AW := aw_of (aw_2 _ (List.mem_of_getElem? (i := 147) rfl)) rfl
theorem qw_2_148 : Cond.classLink RL 17 "java/lang/IllegalStateException" ∈ AW := aw_of (aw_2 _ (List.mem_of_getElem? (i := 148) rfl)) rfl
theorem qw_2_149 : Cond.methodLink RL 7 yX3_place ∈ AW := aw_of (aw_2 _ (List.mem_of_getElem? (i := 149) rfl)) rfl
theorem qw_2_150 : Cond.instanceMethod yX3_place ∈ AW := aw_of (aw_2 _ (List.mem_of_getElem? (i := 150) rfl)) rfl
theorem qw_2_151 : Cond.selects RX3 yX3_place yX3_place ∈ AW := aw_of (aw_2 _ (List.mem_of_getElem? (i := 151) rfl)) rfl
theorem qw_2_152 : Cond.code yX3_place cX3_place 5 (some .int) ∈ AW := aw_of (aw_2 _ (List.mem_of_getElem? (i := 152) rfl)) rfl
theorem qw_2_153 : Cond.methodLink RX3 54 yX3_requireSquare ∈ AW := aw_of (aw_2 _ (List.mem_of_getElem? (i := 153) rfl)) rfl
theorem qw_2_154 : Cond.static yX3_requireSquare ∈ AW := aw_of (aw_2 _ (List.mem_of_getElem? (i := 154) rfl)) rfl
theorem qw_2_155 : Cond.code yX3_requireSquare cX3_requireSquare 1 none ∈ AW := aw_of (aw_2 _ (List.mem_of_getElem? (i := 155) rfl)) rfl
theorem qw_2_156 : Cond.classLink RX3 276 "java/lang/IndexOutOfBoundsException" ∈ AW := aw_of (aw_2 _ (List.mem_of_getElem? (i := 156) rfl)) rfl
theorem qw_2_157 : Cond.instantiable "java/lang/IndexOutOfBoundsException" 6 ∈ AW := aw_of (aw_2 _ (List.mem_of_getElem? (i := 157) rfl)) rfl
theorem qw_2_165 : Cond.selects "java/lang/IndexOutOfBoundsException" ⟨"java/lang/Throwable", "fillInStackTrace", "(I)Ljava/lang/Throwable;"⟩ ⟨"java/lang/Throwable", "fillInStackTrace", "(I)Ljava/lang/Throwable;"⟩ ∈ AW := aw_of (aw_2 _ (List.mem_of_getElem? (i := 165) rfl)) rfl
theorem qw_2_166 : Cond.selects "java/lang/IndexOutOfBoundsException" ⟨"java/lang/Throwable", "fillInStackTrace", "()Ljava/lang/Throwable;"⟩ ⟨"java/lang/Throwable", "fillInStackTrace", "()Ljava/lang/Throwable;"⟩ ∈ AW := aw_of (aw_2 _ (List.mem_of_getElem? (i := 166) rfl)) rfl
theorem qw_2_167 : Cond.lays "java/lang/IndexOutOfBoundsException" "java/lang/Throwable" "cause" "Ljava/lang/Throwable;" ∈ AW := aw_of (aw_2 _ (List.mem_of_getElem? (i := 167) rfl)) rfl
theorem qw_2_168 : Cond.lays "java/lang/Throwable" "java/lang/Throwable" "cause" "Ljava/lang/Throwable;" ∈ AW := aw_of (aw_2 _ (List.mem_of_getElem? (i := 168) rfl)) rfl
theorem qw_2_169 : Cond.lays "java/lang/IndexOutOfBoundsException" "java/lang/Throwable" "stackTrace" "[Ljava/lang/StackTraceElement;" ∈ AW := aw_of (aw_2 _ (List.mem_of_getElem? (i := 169) rfl)) rfl
theorem qw_2_170 : Cond.lays "java/lang/Throwable" "java/lang/Throwable" "stackTrace" "[Ljava/lang/StackTraceElement;" ∈ AW := aw_of (aw_2 _ (List.mem_of_getElem? (i := 170) rfl)) rfl
theorem qw_2_171 : Cond.lays "java/lang/IndexOutOfBoundsException" "java/lang/Throwable" "suppressedExceptions" "Ljava/util/List;" ∈ AW := aw_of (aw_2 _ (List.mem_of_getElem? (i := 171) rfl)) rfl
theorem qw_2_172 : Cond.lays "java/lang/Throwable" "java/lang/Throwable" "suppressedExceptions" "Ljava/util/List;" ∈ AW := aw_of (aw_2 _ (List.mem_of_getElem? (i := 172) rfl)) rfl
theorem qw_2_173 : Cond.lays "java/lang/IndexOutOfBoundsException" "java/lang/Throwable" "detailMessage" "Ljava/lang/String;" ∈ AW := aw_of (aw_2 _ (List.mem_of_getElem? (i := 173) rfl)) rfl
theorem qw_2_174 : Cond.lays "java/lang/Throwable" "java/lang/Throwable" "detailMessage" "Ljava/lang/String;" ∈ AW := aw_of (aw_2 _ (List.mem_of_getElem? (i := 174) rfl)) rfl
theorem qw_2_175 : Cond.lays "java/lang/IndexOutOfBoundsException" "java/lang/Throwable" "backtrace" "Ljava/lang/Object;" ∈ AW := aw_of (aw_2 _ (List.mem_of_getElem? (i := 175) rfl)) rfl
theorem qw_2_176 : Cond.lays "java/lang/Throwable" "java/lang/Throwable" "backtrace" "Ljava/lang/Object;" ∈ AW := aw_of (aw_2 _ (List.mem_of_getElem? (i := 176) rfl)) rfl
theorem qw_2_177 : Cond.fieldLink "java/lang/Throwable" 198 "java/lang/Throwable" "backtrace" "Ljava/lang/Object;" ∈ AW := aw_of (aw_2 _ (List.mem_of_getElem? (i := 177) rfl)) rfl
theorem qw_2_178 : Cond.superclass "java/lang/Throwable" "java/lang/Object" ∈ AW := aw_of (aw_2 _ (List.mem_of_getElem? (i := 178) rfl)) rfl
theorem qw_2_179 : Cond.instanceMethod ⟨"java/lang/Throwable", "<init>", "()V"⟩ ∈ AW := aw_of (aw_2 _ (List.mem_of_getElem? (i := 179) rfl)) rfl
theorem qw_2_180 : Cond.code ⟨"java/lang/Throwable", "<init>", "()V"⟩ prog_21_method_1_code 1 none ∈ AW := aw_of (aw_2 _ (List.mem_of_getElem? (i := 180) rfl)) rfl
theorem qw_2_181 : Cond.methodLink "java/lang/Throwable" 1 objectInit ∈ AW := aw_of (aw_2 _ (List.mem_of_getElem? (i := 181) rfl)) rfl
theorem qw_2_182 : Cond.fieldLink "java/lang/Throwable" 13 "java/lang/Throwable" "UNASSIGNED_STACK" "[Ljava/lang/StackTraceElement;" ∈ AW := aw_of (aw_2 _ (List.mem_of_getElem? (i := 182) rfl)) rfl
theorem qw_2_184 : Cond.fieldLink "java/lang/Throwable" 20 "java/lang/Throwable" "SUPPRESSED_SENTINEL" "Ljava/util/List;" ∈ AW := aw_of (aw_2 _ (List.mem_of_getElem? (i := 184) rfl)) rfl
theorem qw_2_186 : Cond.methodLink "java/lang/Throwable" 27 ⟨"java/lang/Throwable", "fillInStackTrace", "()Ljava/lang/Throwable;"⟩ ∈ AW := aw_of (aw_2 _ (List.mem_of_getElem? (i := 186) rfl)) rfl
theorem qw_2_187 : Cond.instanceMethod ⟨"java/lang/Throwable", "fillInStackTrace", "()Ljava/lang/Throwable;"⟩ ∈ AW := aw_of (aw_2 _ (List.mem_of_getElem? (i := 187) rfl)) rfl
theorem qw_2_188 : Cond.sameMethod "java/lang/Throwable" "java/lang/Throwable" "fillInStackTrace" "()Ljava/lang/Throwable;" ∈ AW := aw_of (aw_2 _ (List.mem_of_getElem? (i := 188) rfl)) rfl
theorem qw_2_189 : Cond.selects "java/lang/IllegalArgumentException" ⟨"java/lang/Throwable", "fillInStackTrace", "()Ljava/lang/Throwable;"⟩ ⟨"java/lang/Throwable", "fillInStackTrace", "()Ljava/lang/Throwable;"⟩ ∈ AW := aw_of (aw_2 _ (List.mem_of_getElem? (i := 189) rfl)) rfl
theorem qw_2_190 : Cond.selects "java/lang/IllegalStateException" ⟨"java/lang/Throwable", "fillInStackTrace", "()Ljava/lang/Throwable;"⟩ ⟨"java/lang/Throwable", "fillInStackTrace", "()Ljava/lang/Throwable;"⟩ ∈ AW := aw_of (aw_2 _ (List.mem_of_getElem? (i := 190) rfl)) rfl
theorem qw_2_191 : Cond.selects "java/util/NoSuchElementException" ⟨"java/lang/Throwable", "fillInStackTrace", "()Ljava/lang/Throwable;"⟩ ⟨"java/lang/Throwable", "fillInStackTrace", "()Ljava/lang/Throwable;"⟩ ∈ AW := aw_of (aw_2 _ (List.mem_of_getElem? (i := 191) rfl)) rfl
theorem qw_2_192 : Cond.codeSync ⟨"java/lang/Throwable", "fillInStackTrace", "()Ljava/lang/Throwable;"⟩ prog_21_method_18_code 1 (some (.object "java/lang/Throwable")) ∈ AW := aw_of (aw_2 _ (List.mem_of_getElem? (i := 192) rfl)) rfl
theorem qw_2_193 : Cond.methodLink "java/lang/Throwable" 202 ⟨"java/lang/Throwable", "fillInStackTrace", "(I)Ljava/lang/Throwable;"⟩ ∈ AW := aw_of (aw_2 _ (List.mem_of_getElem? (i := 193) rfl)) rfl
theorem qw_2_195 : Cond.instanceMethod ⟨"java/lang/Throwable", "fillInStackTrace", "(I)Ljava/lang/Throwable;"⟩ ∈ AW := aw_of (aw_2 _ (List.mem_of_getElem? (i := 195) rfl)) rfl
theorem qw_2_196 : Cond.instantiable "java/lang/Throwable" 6 ∈ AW := aw_of (aw_2 _ (List.mem_of_getElem? (i := 196) rfl)) rfl
theorem qw_2_197 : Cond.native ⟨"java/lang/Throwable", "fillInStackTrace", "(I)Ljava/lang/Throwable;"⟩ ∈ AW := aw_of (aw_2 _ (List.mem_of_getElem? (i := 197) rfl)) rfl
theorem qw_2_199 : Cond.methodLink RX3 280 ⟨"java/lang/IndexOutOfBoundsException", "<init>", "(Ljava/lang/String;)V"⟩ ∈ AW := aw_of (aw_2 _ (List.mem_of_getElem? (i := 199) rfl)) rfl
theorem qw_2_200 : Cond.instanceMethod ⟨"java/lang/IndexOutOfBoundsException", "<init>", "(Ljava/lang/String;)V"⟩ ∈ AW := aw_of (aw_2 _ (List.mem_of_getElem? (i := 200) rfl)) rfl
theorem qw_2_201 : Cond.code ⟨"java/lang/IndexOutOfBoundsException", "<init>", "(Ljava/lang/String;)V"⟩ prog_13_method_2_code 2 none ∈ AW := aw_of (aw_2 _ (List.mem_of_getElem? (i := 201) rfl)) rfl
theorem qw_2_202 : Cond.methodLink "java/lang/IndexOutOfBoundsException" 7 ⟨"java/lang/RuntimeException", "<init>", "(Ljava/lang/String;)V"⟩ ∈ AW := aw_of (aw_2 _ (List.mem_of_getElem? (i := 202) rfl)) rfl
theorem qw_2_203 : Cond.instanceMethod ⟨"java/lang/RuntimeException", "<init>", "(Ljava/lang/String;)V"⟩ ∈ AW := aw_of (aw_2 _ (List.mem_of_getElem? (i := 203) rfl)) rfl
theorem qw_2_204 : Cond.code ⟨"java/lang/RuntimeException", "<init>", "(Ljava/lang/String;)V"⟩ prog_18_method_2_code 2 none ∈ AW := aw_of (aw_2 _ (List.mem_of_getElem? (i := 204) rfl)) rfl
theorem qw_2_205 : Cond.methodLink "java/lang/RuntimeException" 7 ⟨"java/lang/Exception", "<init>", "(Ljava/lang/String;)V"⟩ ∈ AW := aw_of (aw_2 _ (List.mem_of_getElem? (i := 205) rfl)) rfl
theorem qw_2_206 : Cond.instanceMethod ⟨"java/lang/Exception", "<init>", "(Ljava/lang/String;)V"⟩ ∈ AW := aw_of (aw_2 _ (List.mem_of_getElem? (i := 206) rfl)) rfl
theorem qw_2_207 : Cond.code ⟨"java/lang/Exception", "<init>", "(Ljava/lang/String;)V"⟩ prog_9_method_2_code 2 none ∈ AW := aw_of (aw_2 _ (List.mem_of_getElem? (i := 207) rfl)) rfl
theorem qw_2_208 : Cond.methodLink "java/lang/Exception" 7 ⟨"java/lang/Throwable", "<init>", "(Ljava/lang/String;)V"⟩ ∈ AW := aw_of (aw_2 _ (List.mem_of_getElem? (i := 208) rfl)) rfl
theorem qw_2_209 : Cond.instanceMethod ⟨"java/lang/Throwable", "<init>", "(Ljava/lang/String;)V"⟩ ∈ AW := aw_of (aw_2 _ (List.mem_of_getElem? (i := 209) rfl)) rfl
theorem qw_2_210 : Cond.code ⟨"java/lang/Throwable", "<init>", "(Ljava/lang/String;)V"⟩ prog_21_method_2_code 2 none ∈ AW := aw_of (aw_2 _ (List.mem_of_getElem? (i := 210) rfl)) rfl
theorem qw_2_212 : Cond.fieldLink "java/lang/Throwable" 31 "java/lang/Throwable" "detailMessage" "Ljava/lang/String;" ∈ AW := aw_of (aw_2 _ (List.mem_of_getElem? (i := 212) rfl)) rfl
theorem qw_2_213 : Cond.fieldLink "java/lang/Throwable" 7 "java/lang/Throwable" "cause" "Ljava/lang/Throwable;" ∈ AW := aw_of (aw_2 _ (List.mem_of_getElem? (i := 213) rfl)) rfl
theorem qw_2_214 : Cond.fieldLink "java/lang/Throwable" 17 "java/lang/Throwable" "stackTrace" "[Ljava/lang/StackTraceElement;" ∈ AW := aw_of (aw_2 _ (List.mem_of_getElem? (i := 214) rfl)) rfl
theorem qw_2_215 : Cond.fieldLink "java/lang/Throwable" 24 "java/lang/Throwable" "suppressedExceptions" "Ljava/util/List;" ∈ AW := aw_of (aw_2 _ (List.mem_of_getElem? (i := 215) rfl)) rfl
theorem qw_2_216 : Cond.soleField "java/lang/Throwable" "backtrace" ∈ AW := aw_of (aw_2 _ (List.mem_of_getElem? (i := 216) rfl)) rfl
theorem qw_2_217 : Cond.soleField "java/lang/Throwable" "detailMessage" ∈ AW := aw_of (aw_2 _ (List.mem_of_getElem? (i := 217) rfl)) rfl
theorem qw_2_218 : Cond.soleField "java/lang/Throwable" "cause" ∈ AW := aw_of (aw_2 _ (List.mem_of_getElem? (i := 218) rfl)) rfl
theorem qw_2_219 : Cond.soleField "java/lang/Throwable" "stackTrace" ∈ AW := aw_of (aw_2 _ (List.mem_of_getElem? (i := 219) rfl)) rfl
theorem qw_2_220 : Cond.lays "java/lang/IndexOutOfBoundsException" "java/lang/Throwable" "depth" "I" ∈ AW := aw_of (aw_2 _ (List.mem_of_getElem? (i := 220) rfl)) rfl
theorem qw_2_221 : Cond.soleField "java/lang/Throwable" "depth" ∈ AW := aw_of (aw_2 _ (List.mem_of_getElem? (i := 221) rfl)) rfl
theorem qw_2_222 : Cond.soleField "java/lang/Throwable" "suppressedExceptions" ∈ AW := aw_of (aw_2 _ (List.mem_of_getElem? (i := 222) rfl)) rfl
theorem qw_2_223 : Cond.superclass "java/lang/IndexOutOfBoundsException" "java/lang/RuntimeException" ∈ AW := aw_of (aw_2 _ (List.mem_of_getElem? (i := 223) rfl)) rfl
theorem qw_2_224 : Cond.arrayClass .byte ∈ AW := aw_of (aw_2 _ (List.mem_of_getElem? (i := 224) rfl)) rfl
theorem qw_2_225 : Cond.methodLink RX3 58 yX3_requireKind ∈ AW := aw_of (aw_2 _ (List.mem_of_getElem? (i := 225) rfl)) rfl
theorem qw_2_226 : Cond.static yX3_requireKind ∈ AW := aw_of (aw_2 _ (List.mem_of_getElem? (i := 226) rfl)) rfl
theorem qw_2_227 : Cond.code yX3_requireKind cX3_requireKind 1 none ∈ AW := aw_of (aw_2 _ (List.mem_of_getElem? (i := 227) rfl)) rfl
theorem qw_2_228 : Cond.classLink RX3 188 "java/lang/IllegalArgumentException" ∈ AW := aw_of (aw_2 _ (List.mem_of_getElem? (i := 228) rfl)) rfl
theorem qw_2_229 : Cond.instantiable "java/lang/IllegalArgumentException" 6 ∈ AW := aw_of (aw_2 _ (List.mem_of_getElem? (i := 229) rfl)) rfl
theorem qw_2_231 : Cond.selects "java/lang/IllegalArgumentException" ⟨"java/lang/Throwable", "fillInStackTrace", "(I)Ljava/lang/Throwable;"⟩ ⟨"java/lang/Throwable", "fillInStackTrace", "(I)Ljava/lang/Throwable;"⟩ ∈ AW := aw_of (aw_2 _ (List.mem_of_getElem? (i := 231) rfl)) rfl
theorem qw_2_232 : Cond.lays "java/lang/IllegalArgumentException" "java/lang/Throwable" "cause" "Ljava/lang/Throwable;" ∈ AW := aw_of (aw_2 _ (List.mem_of_getElem? (i := 232) rfl)) rfl
theorem qw_2_233 : Cond.lays "java/lang/IllegalArgumentException" "java/lang/Throwable" "stackTrace" "[Ljava/lang/StackTraceElement;" ∈ AW := aw_of (aw_2 _ (List.mem_of_getElem? (i := 233) rfl)) rfl
theorem qw_2_234 : Cond.lays "java/lang/IllegalArgumentException" "java/lang/Throwable" "suppressedExceptions" "Ljava/util/List;" ∈ AW := aw_of (aw_2 _ (List.mem_of_getElem? (i := 234) rfl)) rfl
theorem qw_2_235 : Cond.lays "java/lang/IllegalArgumentException" "java/lang/Throwable" "detailMessage" "Ljava/lang/String;" ∈ AW := aw_of (aw_2 _ (List.mem_of_getElem? (i := 235) rfl)) rfl
theorem qw_2_236 : Cond.lays "java/lang/IllegalArgumentException" "java/lang/Throwable" "backtrace" "Ljava/lang/Object;" ∈ AW := aw_of (aw_2 _ (List.mem_of_getElem? (i := 236) rfl)) rfl
theorem qw_2_238 : Cond.methodLink RX3 192 ⟨"java/lang/IllegalArgumentException", "<init>", "(Ljava/lang/String;)V"⟩ ∈ AW := aw_of (aw_2 _ (List.mem_of_getElem? (i := 238) rfl)) rfl
theorem qw_2_239 : Cond.instanceMethod ⟨"java/lang/IllegalArgumentException", "<init>", "(Ljava/lang/String;)V"⟩ ∈ AW := aw_of (aw_2 _ (List.mem_of_getElem? (i := 239) rfl)) rfl
theorem qw_3_0 : Cond.code ⟨"java/lang/IllegalArgumentException", "<init>", "(Ljava/lang/String;)V"⟩ prog_11_method_2_code 2 none ∈ AW := aw_of (aw_3 _ (List.mem_of_getElem? (i := 0) rfl)) rfl
theorem qw_3_1 : Cond.methodLink "java/lang/IllegalArgumentException" 7 ⟨"java/lang/RuntimeException", "<init>", "(Ljava/lang/String;)V"⟩ ∈ AW := aw_of (aw_3 _ (List.mem_of_getElem? (i := 1) rfl)) rfl
theorem qw_3_2 : Cond.lays "java/lang/IllegalArgumentException" "java/lang/Throwable" "depth" "I" ∈ AW := aw_of (aw_3 _ (List.mem_of_getElem? (i := 2) rfl)) rfl
theorem qw_3_3 : Cond.superclass "java/lang/IllegalArgumentException" "java/lang/RuntimeException" ∈ AW := aw_of (aw_3 _ (List.mem_of_getElem? (i := 3) rfl)) rfl
theorem qw_3_4 : Cond.methodLink RX3 61 yX1_hasRoomFor ∈ AW := aw_of (aw_3 _ (List.mem_of_getElem? (i := 4) rfl)) rfl
theorem qw_3_5 : Cond.instanceMethod yX1_hasRoomFor ∈ AW := aw_of (aw_3 _ (List.mem_of_getElem? (i := 5) rfl)) rfl
theorem qw_3_6 : Cond.selects RX1 yX1_hasRoomFor yX1_hasRoomFor ∈ AW := aw_of (aw_3 _ (List.mem_of_getElem? (i := 6) rfl)) rfl
theorem qw_3_7 : Cond.code yX1_hasRoomFor cX1_hasRoomFor 5 (some .boolean) ∈ AW := aw_of (aw_3 _ (List.mem_of_getElem? (i := 7) rfl)) rfl
theorem qw_3_8 : Cond.classLink RX3 65 "java/lang/IllegalStateException" ∈ AW := aw_of (aw_3 _ (List.mem_of_getElem? (i := 8) rfl)) rfl
theorem qw_3_9 : Cond.instantiable "java/lang/IllegalStateException" 6 ∈ AW := aw_of (aw_3 _ (List.mem_of_getElem? (i := 9) rfl)) rfl
theorem qw_3_11 : Cond.selects "java/lang/IllegalStateException" ⟨"java/lang/Throwable", "fillInStackTrace", "(I)Ljava/lang/Throwable;"⟩ ⟨"java/lang/Throwable", "fillInStackTrace", "(I)Ljava/lang/Throwable;"⟩ ∈ AW := aw_of (aw_3 _ (List.mem_of_getElem? (i := 11) rfl)) rfl
theorem qw_3_12 : Cond.lays "java/lang/IllegalStateException" "java/lang/Throwable" "cause" "Ljava/lang/Throwable;" ∈ AW := aw_of (aw_3 _ (List.mem_of_getElem? (i := 12) rfl)) rfl
theorem qw_3_13 : Cond.lays "java/lang/IllegalStateException" "java/lang/Throwable" "stackTrace" "[Ljava/lang/StackTraceElement;" ∈ AW := aw_of (aw_3 _ (List.mem_of_getElem? (i := 13) rfl)) rfl
theorem qw_3_14 : Cond.lays "java/lang/IllegalStateException" "java/lang/Throwable" "suppressedExceptions" "Ljava/util/List;" ∈ AW := aw_of (aw_3 _ (List.mem_of_getElem? (i := 14) rfl)) rfl
theorem qw_3_15 : Cond.lays "java/lang/IllegalStateException" "java/lang/Throwable" "detailMessage" "Ljava/lang/String;" ∈ AW := aw_of (aw_3 _ (List.mem_of_getElem? (i := 15) rfl)) rfl
theorem qw_3_16 : Cond.lays "java/lang/IllegalStateException" "java/lang/Throwable" "backtrace" "Ljava/lang/Object;" ∈ AW := aw_of (aw_3 _ (List.mem_of_getElem? (i := 16) rfl)) rfl
theorem qw_3_18 : Cond.methodLink RX3 69 ⟨"java/lang/IllegalStateException", "<init>", "(Ljava/lang/String;)V"⟩ ∈ AW := aw_of (aw_3 _ (List.mem_of_getElem? (i := 18) rfl)) rfl
theorem qw_3_19 : Cond.instanceMethod ⟨"java/lang/IllegalStateException", "<init>", "(Ljava/lang/String;)V"⟩ ∈ AW := aw_of (aw_3 _ (List.mem_of_getElem? (i := 19) rfl)) rfl
theorem qw_3_20 : Cond.code ⟨"java/lang/IllegalStateException", "<init>", "(Ljava/lang/String;)V"⟩ prog_12_method_2_code 2 none ∈ AW := aw_of (aw_3 _ (List.mem_of_getElem? (i := 20) rfl)) rfl
theorem qw_3_21 : Cond.methodLink "java/lang/IllegalStateException" 7 ⟨"java/lang/RuntimeException", "<init>", "(Ljava/lang/String;)V"⟩ ∈ AW := aw_of (aw_3 _ (List.mem_of_getElem? (i := 21) rfl)) rfl
theorem qw_3_22 : Cond.lays "java/lang/IllegalStateException" "java/lang/Throwable" "depth" "I" ∈ AW := aw_of (aw_3 _ (List.mem_of_getElem? (i := 22) rfl)) rfl
theorem qw_3_23 : Cond.superclass "java/lang/IllegalStateException" "java/lang/RuntimeException" ∈ AW := aw_of (aw_3 _ (List.mem_of_getElem? (i := 23) rfl)) rfl
theorem qw_3_24 : Cond.methodLink RX3 72 yX1_occupied ∈ AW := aw_of (aw_3 _ (List.mem_of_getElem? (i := 24) rfl)) rfl
theorem qw_3_25 : Cond.methodLink RL 97 yL_remove ∈ AW := aw_of (aw_3 _ (List.mem_of_getElem? (i := 25) rfl)) rfl
theorem qw_3_26 : Cond.static yL_remove ∈ AW := aw_of (aw_3 _ (List.mem_of_getElem? (i := 26) rfl)) rfl
theorem qw_3_27 : Cond.codeWith yL_remove cL_remove 4 (some .int) [(0, 9, 12, 13), (0, 9, 15, 17)] ∈ AW := aw_of (aw_3 _ (List.mem_of_getElem? (i := 27) rfl)) rfl
theorem qw_3_28 : Cond.methodLink RL 19 yX3_remove ∈ AW := aw_of (aw_3 _ (List.mem_of_getElem? (i := 28) rfl)) rfl
theorem qw_3_29 : Cond.instanceMethod yX3_remove ∈ AW := aw_of (aw_3 _ (List.mem_of_getElem? (i := 29) rfl)) rfl
theorem qw_3_30 : Cond.selects RX3 yX3_remove yX3_remove ∈ AW := aw_of (aw_3 _ (List.mem_of_getElem? (i := 30) rfl)) rfl
theorem qw_3_31 : Cond.code yX3_remove cX3_remove 4 (some .int) ∈ AW := aw_of (aw_3 _ (List.mem_of_getElem? (i := 31) rfl)) rfl
theorem qw_3_33 : Cond.methodLink RX3 88 yX1_lift ∈ AW := aw_of (aw_3 _ (List.mem_of_getElem? (i := 33) rfl)) rfl
theorem qw_3_34 : Cond.methodLink RL 101 yL_endSetup ∈ AW := aw_of (aw_3 _ (List.mem_of_getElem? (i := 34) rfl)) rfl
theorem qw_3_35 : Cond.static yL_endSetup ∈ AW := aw_of (aw_3 _ (List.mem_of_getElem? (i := 35) rfl)) rfl
theorem qw_3_36 : Cond.codeWith yL_endSetup cL_endSetup 4 (some .int) [(0, 9, 12, 17)] ∈ AW := aw_of (aw_3 _ (List.mem_of_getElem? (i := 36) rfl)) rfl
theorem qw_3_37 : Cond.methodLink RL 23 yX3_endSetup ∈ AW := aw_of (aw_3 _ (List.mem_of_getElem? (i := 37) rfl)) rfl
theorem qw_3_38 : Cond.instanceMethod yX3_endSetup ∈ AW := aw_of (aw_3 _ (List.mem_of_getElem? (i := 38) rfl)) rfl
theorem qw_3_39 : Cond.selects RX3 yX3_endSetup yX3_endSetup ∈ AW := aw_of (aw_3 _ (List.mem_of_getElem? (i := 39) rfl)) rfl
theorem qw_3_40 : Cond.code yX3_endSetup cX3_endSetup 3 (some .int) ∈ AW := aw_of (aw_3 _ (List.mem_of_getElem? (i := 40) rfl)) rfl
theorem qw_3_41 : Cond.methodLink RX3 91 yX1_canBegin ∈ AW := aw_of (aw_3 _ (List.mem_of_getElem? (i := 41) rfl)) rfl
theorem qw_3_42 : Cond.instanceMethod yX1_canBegin ∈ AW := aw_of (aw_3 _ (List.mem_of_getElem? (i := 42) rfl)) rfl
theorem qw_3_43 : Cond.selects RX1 yX1_canBegin yX1_canBegin ∈ AW := aw_of (aw_3 _ (List.mem_of_getElem? (i := 43) rfl)) rfl
theorem qw_3_44 : Cond.code yX1_canBegin cX1_canBegin 2 (some .boolean) ∈ AW := aw_of (aw_3 _ (List.mem_of_getElem? (i := 44) rfl)) rfl
theorem qw_3_46 : Cond.methodLink RX3 100 yX3_verdictNow ∈ AW := aw_of (aw_3 _ (List.mem_of_getElem? (i := 46) rfl)) rfl
theorem qw_3_48 : Cond.instanceMethod yX3_verdictNow ∈ AW := aw_of (aw_3 _ (List.mem_of_getElem? (i := 48) rfl)) rfl
theorem qw_3_49 : Cond.code yX3_verdictNow cX3_verdictNow 3 (some .int) ∈ AW := aw_of (aw_3 _ (List.mem_of_getElem? (i := 49) rfl)) rfl
theorem qw_3_50 : Cond.methodLink RX3 263 yX1_hasLawfulMove ∈ AW := aw_of (aw_3 _ (List.mem_of_getElem? (i := 50) rfl)) rfl
theorem qw_3_51 : Cond.methodLink RX3 266 yX1_hasBondAction ∈ AW := aw_of (aw_3 _ (List.mem_of_getElem? (i := 51) rfl)) rfl
theorem qw_3_52 : Cond.instanceMethod yX1_hasBondAction ∈ AW := aw_of (aw_3 _ (List.mem_of_getElem? (i := 52) rfl)) rfl
theorem qw_3_53 : Cond.selects RX1 yX1_hasBondAction yX1_hasBondAction ∈ AW := aw_of (aw_3 _ (List.mem_of_getElem? (i := 53) rfl)) rfl
theorem qw_3_54 : Cond.code yX1_hasBondAction cX1_hasBondAction 6 (some .boolean) ∈ AW := aw_of (aw_3 _ (List.mem_of_getElem? (i := 54) rfl)) rfl
theorem qw_3_55 : Cond.methodLink RX1 151 yX1_bondedKnights ∈ AW := aw_of (aw_3 _ (List.mem_of_getElem? (i := 55) rfl)) rfl
theorem qw_3_56 : Cond.methodLink RX3 269 yX1_kings ∈ AW := aw_of (aw_3 _ (List.mem_of_getElem? (i := 56) rfl)) rfl
theorem qw_3_57 : Cond.instanceMethod yX1_kings ∈ AW := aw_of (aw_3 _ (List.mem_of_getElem? (i := 57) rfl)) rfl
theorem qw_3_58 : Cond.selects RX1 yX1_kings yX1_kings ∈ AW := aw_of (aw_3 _ (List.mem_of_getElem? (i := 58) rfl)) rfl
theorem qw_3_59 : Cond.code yX1_kings cX1_kings 1 (some .long) ∈ AW := aw_of (aw_3 _ (List.mem_of_getElem? (i := 59) rfl)) rfl
theorem qw_3_60 : Cond.methodLink RL 114 yL_pieceAt ∈ AW := aw_of (aw_3 _ (List.mem_of_getElem? (i := 60) rfl)) rfl
theorem qw_3_61 : Cond.static yL_pieceAt ∈ AW := aw_of (aw_3 _ (List.mem_of_getElem? (i := 61) rfl)) rfl
theorem qw_3_62 : Cond.codeWith yL_pieceAt cL_pieceAt 4 (some .int) [(0, 9, 12, 13)] ∈ AW := aw_of (aw_3 _ (List.mem_of_getElem? (i := 62) rfl)) rfl
theorem qw_3_63 : Cond.methodLink RL 27 yX3_pieceAt ∈ AW := aw_of (aw_3 _ (List.mem_of_getElem? (i := 63) rfl)) rfl
theorem qw_3_64 : Cond.instanceMethod yX3_pieceAt ∈ AW := aw_of (aw_3 _ (List.mem_of_getElem? (i := 64) rfl)) rfl
theorem qw_3_65 : Cond.selects RX3 yX3_pieceAt yX3_pieceAt ∈ AW := aw_of (aw_3 _ (List.mem_of_getElem? (i := 65) rfl)) rfl
theorem qw_3_66 : Cond.code yX3_pieceAt cX3_pieceAt 2 (some .int) ∈ AW := aw_of (aw_3 _ (List.mem_of_getElem? (i := 66) rfl)) rfl
theorem qw_3_67 : Cond.methodLink RL 117 yL_isWhite ∈ AW := aw_of (aw_3 _ (List.mem_of_getElem? (i := 67) rfl)) rfl
theorem qw_3_68 : Cond.static yL_isWhite ∈ AW := aw_of (aw_3 _ (List.mem_of_getElem? (i := 68) rfl)) rfl
theorem qw_3_69 : Cond.codeWith yL_isWhite cL_isWhite 4 (some .int) [(0, 16, 19, 13), (0, 16, 22, 34)] ∈ AW := aw_of (aw_3 _ (List.mem_of_getElem? (i := 69) rfl)) rfl
theorem qw_3_70 : Cond.classLink RL 34 "java/util/NoSuchElementException" ∈ AW := aw_of (aw_3 _ (List.mem_of_getElem? (i := 70) rfl)) rfl
theorem qw_3_71 : Cond.methodLink RL 30 yX3_isWhite ∈ AW := aw_of (aw_3 _ (List.mem_of_getElem? (i := 71) rfl)) rfl
theorem qw_3_72 : Cond.instanceMethod yX3_isWhite ∈ AW := aw_of (aw_3 _ (List.mem_of_getElem? (i := 72) rfl)) rfl
theorem qw_3_73 : Cond.selects RX3 yX3_isWhite yX3_isWhite ∈ AW := aw_of (aw_3 _ (List.mem_of_getElem? (i := 73) rfl)) rfl
theorem qw_3_74 : Cond.code yX3_isWhite cX3_isWhite 3 (some .boolean) ∈ AW := aw_of (aw_3 _ (List.mem_of_getElem? (i := 74) rfl)) rfl
theorem qw_3_75 : Cond.classLink RX3 108 "java/util/NoSuchElementException" ∈ AW := aw_of (aw_3 _ (List.mem_of_getElem? (i := 75) rfl)) rfl
theorem qw_3_76 : Cond.instantiable "java/util/NoSuchElementException" 6 ∈ AW := aw_of (aw_3 _ (List.mem_of_getElem? (i := 76) rfl)) rfl
theorem qw_3_78 : Cond.selects "java/util/NoSuchElementException" ⟨"java/lang/Throwable", "fillInStackTrace", "(I)Ljava/lang/Throwable;"⟩ ⟨"java/lang/Throwable", "fillInStackTrace", "(I)Ljava/lang/Throwable;"⟩ ∈ AW := aw_of (aw_3 _ (List.mem_of_getElem? (i := 78) rfl)) rfl
theorem qw_3_79 : Cond.lays "java/util/NoSuchElementException" "java/lang/Throwable" "cause" "Ljava/lang/Throwable;" ∈ AW := aw_of (aw_3 _ (List.mem_of_getElem? (i := 79) rfl)) rfl
theorem qw_3_80 : Cond.lays "java/util/NoSuchElementException" "java/lang/Throwable" "stackTrace" "[Ljava/lang/StackTraceElement;" ∈ AW := aw_of (aw_3 _ (List.mem_of_getElem? (i := 80) rfl)) rfl
theorem qw_3_81 : Cond.lays "java/util/NoSuchElementException" "java/lang/Throwable" "suppressedExceptions" "Ljava/util/List;" ∈ AW := aw_of (aw_3 _ (List.mem_of_getElem? (i := 81) rfl)) rfl
theorem qw_3_82 : Cond.lays "java/util/NoSuchElementException" "java/lang/Throwable" "detailMessage" "Ljava/lang/String;" ∈ AW := aw_of (aw_3 _ (List.mem_of_getElem? (i := 82) rfl)) rfl
theorem qw_3_83 : Cond.lays "java/util/NoSuchElementException" "java/lang/Throwable" "backtrace" "Ljava/lang/Object;" ∈ AW := aw_of (aw_3 _ (List.mem_of_getElem? (i := 83) rfl)) rfl
theorem qw_3_85 : Cond.methodLink RX3 112 ⟨"java/util/NoSuchElementException", "<init>", "(Ljava/lang/String;)V"⟩ ∈ AW := aw_of (aw_3 _ (List.mem_of_getElem? (i := 85) rfl)) rfl
theorem qw_3_86 : Cond.instanceMethod ⟨"java/util/NoSuchElementException", "<init>", "(Ljava/lang/String;)V"⟩ ∈ AW := aw_of (aw_3 _ (List.mem_of_getElem? (i := 86) rfl)) rfl
theorem qw_3_87 : Cond.code ⟨"java/util/NoSuchElementException", "<init>", "(Ljava/lang/String;)V"⟩ prog_25_method_4_code 2 none ∈ AW := aw_of (aw_3 _ (List.mem_of_getElem? (i := 87) rfl)) rfl
theorem qw_3_88 : Cond.methodLink "java/util/NoSuchElementException" 13 ⟨"java/lang/RuntimeException", "<init>", "(Ljava/lang/String;)V"⟩ ∈ AW := aw_of (aw_3 _ (List.mem_of_getElem? (i := 88) rfl)) rfl
theorem qw_3_89 : Cond.lays "java/util/NoSuchElementException" "java/lang/Throwable" "depth" "I" ∈ AW := aw_of (aw_3 _ (List.mem_of_getElem? (i := 89) rfl)) rfl
theorem qw_3_90 : Cond.superclass "java/util/NoSuchElementException" "java/lang/RuntimeException" ∈ AW := aw_of (aw_3 _ (List.mem_of_getElem? (i := 90) rfl)) rfl
theorem qw_3_91 : Cond.methodLink RL 129 yL_bondOf ∈ AW := aw_of (aw_3 _ (List.mem_of_getElem? (i := 91) rfl)) rfl
theorem qw_3_92 : Cond.static yL_bondOf ∈ AW := aw_of (aw_3 _ (List.mem_of_getElem? (i := 92) rfl)) rfl
theorem qw_3_93 : Cond.codeWith yL_bondOf cL_bondOf 4 (some .int) [(0, 9, 12, 13)] ∈ AW := aw_of (aw_3 _ (List.mem_of_getElem? (i := 93) rfl)) rfl
theorem qw_3_94 : Cond.methodLink RL 36 yX3_bondOf ∈ AW := aw_of (aw_3 _ (List.mem_of_getElem? (i := 94) rfl)) rfl
theorem qw_3_95 : Cond.instanceMethod yX3_bondOf ∈ AW := aw_of (aw_3 _ (List.mem_of_getElem? (i := 95) rfl)) rfl
theorem qw_3_96 : Cond.selects RX3 yX3_bondOf yX3_bondOf ∈ AW := aw_of (aw_3 _ (List.mem_of_getElem? (i := 96) rfl)) rfl
theorem qw_3_97 : Cond.code yX3_bondOf cX3_bondOf 2 (some .int) ∈ AW := aw_of (aw_3 _ (List.mem_of_getElem? (i := 97) rfl)) rfl
theorem qw_3_98 : Cond.methodLink RL 140 yL_knightDistance ∈ AW := aw_of (aw_3 _ (List.mem_of_getElem? (i := 98) rfl)) rfl
theorem qw_3_99 : Cond.static yL_knightDistance ∈ AW := aw_of (aw_3 _ (List.mem_of_getElem? (i := 99) rfl)) rfl
theorem qw_3_100 : Cond.codeWith yL_knightDistance cL_knightDistance 5 (some .int) [(0, 10, 13, 13)] ∈ AW := aw_of (aw_3 _ (List.mem_of_getElem? (i := 100) rfl)) rfl
theorem qw_3_101 : Cond.methodLink RL 39 yX3_knightDistance ∈ AW := aw_of (aw_3 _ (List.mem_of_getElem? (i := 101) rfl)) rfl
theorem qw_3_102 : Cond.instanceMethod yX3_knightDistance ∈ AW := aw_of (aw_3 _ (List.mem_of_getElem? (i := 102) rfl)) rfl
theorem qw_3_103 : Cond.selects RX3 yX3_knightDistance yX3_knightDistance ∈ AW := aw_of (aw_3 _ (List.mem_of_getElem? (i := 103) rfl)) rfl
theorem qw_3_104 : Cond.code yX3_knightDistance cX3_knightDistance 3 (some .int) ∈ AW := aw_of (aw_3 _ (List.mem_of_getElem? (i := 104) rfl)) rfl
theorem qw_3_105 : Cond.methodLink RL 144 yL_attackers ∈ AW := aw_of (aw_3 _ (List.mem_of_getElem? (i := 105) rfl)) rfl
theorem qw_3_106 : Cond.static yL_attackers ∈ AW := aw_of (aw_3 _ (List.mem_of_getElem? (i := 106) rfl)) rfl
theorem qw_3_107 : Cond.codeWith yL_attackers cL_attackers 5 (some .int) [(0, 9, 12, 13)] ∈ AW := aw_of (aw_3 _ (List.mem_of_getElem? (i := 107) rfl)) rfl
theorem qw_3_108 : Cond.methodLink RL 43 yX3_attackers ∈ AW := aw_of (aw_3 _ (List.mem_of_getElem? (i := 108) rfl)) rfl
theorem qw_3_109 : Cond.instanceMethod yX3_attackers ∈ AW := aw_of (aw_3 _ (List.mem_of_getElem? (i := 109) rfl)) rfl
theorem qw_3_110 : Cond.selects RX3 yX3_attackers yX3_attackers ∈ AW := aw_of (aw_3 _ (List.mem_of_getElem? (i := 110) rfl)) rfl
theorem qw_3_111 : Cond.code yX3_attackers cX3_attackers 4 (some .long) ∈ AW := aw_of (aw_3 _ (List.mem_of_getElem? (i := 111) rfl)) rfl
theorem qw_3_112 : Cond.methodLink RX3 141 yX3_bit ∈ AW := aw_of (aw_3 _ (List.mem_of_getElem? (i := 112) rfl)) rfl
theorem qw_3_113 : Cond.methodLink RX3 145 yX1_attackersOn ∈ AW := aw_of (aw_3 _ (List.mem_of_getElem? (i := 113) rfl)) rfl
theorem qw_3_114 : Cond.methodLink RL 157 yL_legalMoves ∈ AW := aw_of (aw_3 _ (List.mem_of_getElem? (i := 114) rfl)) rfl
theorem qw_3_115 : Cond.static yL_legalMoves ∈ AW := aw_of (aw_3 _ (List.mem_of_getElem? (i := 115) rfl)) rfl
theorem qw_3_116 : Cond.codeWith yL_legalMoves cL_legalMoves 4 (some .int) [(0, 8, 11, 13)] ∈ AW := aw_of (aw_3 _ (List.mem_of_getElem? (i := 116) rfl)) rfl
theorem qw_3_117 : Cond.methodLink RL 47 yX3_legalMoves ∈ AW := aw_of (aw_3 _ (List.mem_of_getElem? (i := 117) rfl)) rfl
theorem qw_3_118 : Cond.instanceMethod yX3_legalMoves ∈ AW := aw_of (aw_3 _ (List.mem_of_getElem? (i := 118) rfl)) rfl
theorem qw_3_119 : Cond.selects RX3 yX3_legalMoves yX3_legalMoves ∈ AW := aw_of (aw_3 _ (List.mem_of_getElem? (i := 119) rfl)) rfl
theorem qw_3_120 : Cond.code yX3_legalMoves cX3_legalMoves 3 (some .long) ∈ AW := aw_of (aw_3 _ (List.mem_of_getElem? (i := 120) rfl)) rfl
theorem qw_3_121 : Cond.methodLink RL 164 yL_moveRefusal ∈ AW := aw_of (aw_3 _ (List.mem_of_getElem? (i := 121) rfl)) rfl
theorem qw_3_122 : Cond.static yL_moveRefusal ∈ AW := aw_of (aw_3 _ (List.mem_of_getElem? (i := 122) rfl)) rfl
theorem qw_3_123 : Cond.codeWith yL_moveRefusal cL_moveRefusal 5 (some .int) [(0, 10, 13, 13)] ∈ AW := aw_of (aw_3 _ (List.mem_of_getElem? (i := 123) rfl)) rfl
theorem qw_3_124 : Cond.methodLink RL 51 yX3_moveRefusal ∈ AW := aw_of (aw_3 _ (List.mem_of_getElem? (i := 124) rfl)) rfl
theorem qw_3_125 : Cond.instanceMethod yX3_moveRefusal ∈ AW := aw_of (aw_3 _ (List.mem_of_getElem? (i := 125) rfl)) rfl
theorem qw_3_126 : Cond.selects RX3 yX3_moveRefusal yX3_moveRefusal ∈ AW := aw_of (aw_3 _ (List.mem_of_getElem? (i := 126) rfl)) rfl
theorem qw_3_127 : Cond.code yX3_moveRefusal cX3_moveRefusal 4 (some .int) ∈ AW := aw_of (aw_3 _ (List.mem_of_getElem? (i := 127) rfl)) rfl
theorem qw_3_128 : Cond.methodLink RX3 172 yX1_targetsFrom ∈ AW := aw_of (aw_3 _ (List.mem_of_getElem? (i := 128) rfl)) rfl
theorem qw_3_129 : Cond.methodLink RX3 175 yX1_keepsKingSafe ∈ AW := aw_of (aw_3 _ (List.mem_of_getElem? (i := 129) rfl)) rfl
theorem qw_3_130 : Cond.methodLink RX3 179 yX1_bondRange ∈ AW := aw_of (aw_3 _ (List.mem_of_getElem? (i := 130) rfl)) rfl
theorem qw_3_131 : Cond.methodLink RL 167 yL_bondRefusal ∈ AW := aw_of (aw_3 _ (List.mem_of_getElem? (i := 131) rfl)) rfl
theorem qw_3_132 : Cond.static yL_bondRefusal ∈ AW := aw_of (aw_3 _ (List.mem_of_getElem? (i := 132) rfl)) rfl
theorem qw_3_133 : Cond.codeWith yL_bondRefusal cL_bondRefusal 5 (some .int) [(0, 10, 13, 13)] ∈ AW := aw_of (aw_3 _ (List.mem_of_getElem? (i := 133) rfl)) rfl
theorem qw_3_134 : Cond.methodLink RL 54 yX3_bondRefusal ∈ AW := aw_of (aw_3 _ (List.mem_of_getElem? (i := 134) rfl)) rfl
theorem qw_3_135 : Cond.instanceMethod yX3_bondRefusal ∈ AW := aw_of (aw_3 _ (List.mem_of_getElem? (i := 135) rfl)) rfl
theorem qw_3_136 : Cond.selects RX3 yX3_bondRefusal yX3_bondRefusal ∈ AW := aw_of (aw_3 _ (List.mem_of_getElem? (i := 136) rfl)) rfl
theorem qw_3_137 : Cond.code yX3_bondRefusal cX3_bondRefusal 6 (some .int) ∈ AW := aw_of (aw_3 _ (List.mem_of_getElem? (i := 137) rfl)) rfl
theorem qw_3_138 : Cond.methodLink RL 170 yL_dissolveRefusal ∈ AW := aw_of (aw_3 _ (List.mem_of_getElem? (i := 138) rfl)) rfl
theorem qw_3_139 : Cond.static yL_dissolveRefusal ∈ AW := aw_of (aw_3 _ (List.mem_of_getElem? (i := 139) rfl)) rfl
theorem qw_3_140 : Cond.codeWith yL_dissolveRefusal cL_dissolveRefusal 4 (some .int) [(0, 9, 12, 13)] ∈ AW := aw_of (aw_3 _ (List.mem_of_getElem? (i := 140) rfl)) rfl
theorem qw_3_141 : Cond.methodLink RL 57 yX3_dissolveRefusal ∈ AW := aw_of (aw_3 _ (List.mem_of_getElem? (i := 141) rfl)) rfl
theorem qw_3_142 : Cond.instanceMethod yX3_dissolveRefusal ∈ AW := aw_of (aw_3 _ (List.mem_of_getElem? (i := 142) rfl)) rfl
theorem qw_3_143 : Cond.selects RX3 yX3_dissolveRefusal yX3_dissolveRefusal ∈ AW := aw_of (aw_3 _ (List.mem_of_getElem? (i := 143) rfl)) rfl
theorem qw_3_144 : Cond.code yX3_dissolveRefusal cX3_dissolveRefusal 3 (some .int) ∈ AW := aw_of (aw_3 _ (List.mem_of_getElem? (i := 144) rfl)) rfl
theorem qw_3_145 : Cond.methodLink RL 177 yL_countSequences ∈ AW := aw_of (aw_3 _ (List.mem_of_getElem? (i := 145) rfl)) rfl
theorem qw_3_146 : Cond.static yL_countSequences ∈ AW := aw_of (aw_3 _ (List.mem_of_getElem? (i := 146) rfl)) rfl
theorem qw_3_147 : Cond.codeWith yL_countSequences cL_countSequences 4 (some .int) [(0, 9, 12, 15)] ∈ AW := aw_of (aw_3 _ (List.mem_of_getElem? (i := 147) rfl)) rfl
theorem qw_3_148 : Cond.methodLink RL 60 yX3_countSequences ∈ AW := aw_of (aw_3 _ (List.mem_of_getElem? (i := 148) rfl)) rfl
theorem qw_3_149 : Cond.instanceMethod yX3_countSequences ∈ AW := aw_of (aw_3 _ (List.mem_of_getElem? (i := 149) rfl)) rfl
theorem qw_3_150 : Cond.selects RX3 yX3_countSequences yX3_countSequences ∈ AW := aw_of (aw_3 _ (List.mem_of_getElem? (i := 150) rfl)) rfl
theorem qw_3_151 : Cond.code yX3_countSequences cX3_countSequences 2 (some .int) ∈ AW := aw_of (aw_3 _ (List.mem_of_getElem? (i := 151) rfl)) rfl
theorem qw_3_153 : Cond.methodLink RX3 193 yX3_countPairsOfMoves ∈ AW := aw_of (aw_3 _ (List.mem_of_getElem? (i := 153) rfl)) rfl
theorem qw_3_155 : Cond.instanceMethod yX3_countPairsOfMoves ∈ AW := aw_of (aw_3 _ (List.mem_of_getElem? (i := 155) rfl)) rfl
theorem qw_3_156 : Cond.code yX3_countPairsOfMoves cX3_countPairsOfMoves 9 (some .int) ∈ AW := aw_of (aw_3 _ (List.mem_of_getElem? (i := 156) rfl)) rfl
theorem qw_3_157 : Cond.methodLink RL 180 yL_move ∈ AW := aw_of (aw_3 _ (List.mem_of_getElem? (i := 157) rfl)) rfl
theorem qw_3_158 : Cond.static yL_move ∈ AW := aw_of (aw_3 _ (List.mem_of_getElem? (i := 158) rfl)) rfl
theorem qw_3_159 : Cond.codeWith yL_move cL_move 5 (some .int) [(0, 10, 13, 13), (0, 10, 17, 17)] ∈ AW := aw_of (aw_3 _ (List.mem_of_getElem? (i := 159) rfl)) rfl
theorem qw_3_160 : Cond.methodLink RL 63 yX3_move ∈ AW := aw_of (aw_3 _ (List.mem_of_getElem? (i := 160) rfl)) rfl
theorem qw_3_161 : Cond.instanceMethod yX3_move ∈ AW := aw_of (aw_3 _ (List.mem_of_getElem? (i := 161) rfl)) rfl
theorem qw_3_162 : Cond.selects RX3 yX3_move yX3_move ∈ AW := aw_of (aw_3 _ (List.mem_of_getElem? (i := 162) rfl)) rfl
theorem qw_3_163 : Cond.code yX3_move cX3_move 5 (some .int) ∈ AW := aw_of (aw_3 _ (List.mem_of_getElem? (i := 163) rfl)) rfl
theorem qw_3_164 : Cond.methodLink RX3 196 yX3_moveRefusal ∈ AW := aw_of (aw_3 _ (List.mem_of_getElem? (i := 164) rfl)) rfl
theorem qw_3_165 : Cond.methodLink RX3 199 yX3_isFull ∈ AW := aw_of (aw_3 _ (List.mem_of_getElem? (i := 165) rfl)) rfl
theorem qw_3_167 : Cond.instanceMethod yX3_isFull ∈ AW := aw_of (aw_3 _ (List.mem_of_getElem? (i := 167) rfl)) rfl
theorem qw_3_168 : Cond.code yX3_isFull cX3_isFull 1 (some .boolean) ∈ AW := aw_of (aw_3 _ (List.mem_of_getElem? (i := 168) rfl)) rfl
theorem qw_3_170 : Cond.methodLink RX3 204 yX3_turnPage ∈ AW := aw_of (aw_3 _ (List.mem_of_getElem? (i := 170) rfl)) rfl
theorem qw_3_172 : Cond.instanceMethod yX3_turnPage ∈ AW := aw_of (aw_3 _ (List.mem_of_getElem? (i := 172) rfl)) rfl
theorem qw_3_173 : Cond.code yX3_turnPage cX3_turnPage 3 none ∈ AW := aw_of (aw_3 _ (List.mem_of_getElem? (i := 173) rfl)) rfl
theorem qw_3_174 : Cond.methodLink RL 183 yL_bond ∈ AW := aw_of (aw_3 _ (List.mem_of_getElem? (i := 174) rfl)) rfl
theorem qw_3_175 : Cond.static yL_bond ∈ AW := aw_of (aw_3 _ (List.mem_of_getElem? (i := 175) rfl)) rfl
theorem qw_3_176 : Cond.codeWith yL_bond cL_bond 5 (some .int) [(0, 10, 13, 13), (0, 10, 17, 17)] ∈ AW := aw_of (aw_3 _ (List.mem_of_getElem? (i := 176) rfl)) rfl
theorem qw_3_177 : Cond.methodLink RL 66 yX3_bond ∈ AW := aw_of (aw_3 _ (List.mem_of_getElem? (i := 177) rfl)) rfl
theorem qw_3_178 : Cond.instanceMethod yX3_bond ∈ AW := aw_of (aw_3 _ (List.mem_of_getElem? (i := 178) rfl)) rfl
theorem qw_3_179 : Cond.selects RX3 yX3_bond yX3_bond ∈ AW := aw_of (aw_3 _ (List.mem_of_getElem? (i := 179) rfl)) rfl
theorem qw_3_180 : Cond.code yX3_bond cX3_bond 3 (some .int) ∈ AW := aw_of (aw_3 _ (List.mem_of_getElem? (i := 180) rfl)) rfl
theorem qw_3_181 : Cond.methodLink RX3 219 yX3_bondRefusal ∈ AW := aw_of (aw_3 _ (List.mem_of_getElem? (i := 181) rfl)) rfl
theorem qw_3_183 : Cond.methodLink RL 186 yL_dissolve ∈ AW := aw_of (aw_3 _ (List.mem_of_getElem? (i := 183) rfl)) rfl
theorem qw_3_184 : Cond.static yL_dissolve ∈ AW := aw_of (aw_3 _ (List.mem_of_getElem? (i := 184) rfl)) rfl
theorem qw_3_185 : Cond.codeWith yL_dissolve cL_dissolve 4 (some .int) [(0, 9, 12, 13), (0, 9, 15, 17)] ∈ AW := aw_of (aw_3 _ (List.mem_of_getElem? (i := 185) rfl)) rfl
theorem qw_3_186 : Cond.methodLink RL 69 yX3_dissolve ∈ AW := aw_of (aw_3 _ (List.mem_of_getElem? (i := 186) rfl)) rfl
theorem qw_3_187 : Cond.instanceMethod yX3_dissolve ∈ AW := aw_of (aw_3 _ (List.mem_of_getElem? (i := 187) rfl)) rfl
theorem qw_3_188 : Cond.selects RX3 yX3_dissolve yX3_dissolve ∈ AW := aw_of (aw_3 _ (List.mem_of_getElem? (i := 188) rfl)) rfl
theorem qw_3_189 : Cond.code yX3_dissolve cX3_dissolve 3 (some .int) ∈ AW := aw_of (aw_3 _ (List.mem_of_getElem? (i := 189) rfl)) rfl
theorem qw_3_190 : Cond.methodLink RX3 224 yX3_dissolveRefusal ∈ AW := aw_of (aw_3 _ (List.mem_of_getElem? (i := 190) rfl)) rfl
theorem qw_3_192 : Cond.methodLink RX3 229 yX1_part ∈ AW := aw_of (aw_3 _ (List.mem_of_getElem? (i := 192) rfl)) rfl
theorem qw_3_193 : Cond.methodLink RL 189 yL_takeBack ∈ AW := aw_of (aw_3 _ (List.mem_of_getElem? (i := 193) rfl)) rfl
theorem qw_3_194 : Cond.static yL_takeBack ∈ AW := aw_of (aw_3 _ (List.mem_of_getElem? (i := 194) rfl)) rfl
theorem qw_3_195 : Cond.codeWith yL_takeBack cL_takeBack 3 (some .int) [(0, 8, 11, 17)] ∈ AW := aw_of (aw_3 _ (List.mem_of_getElem? (i := 195) rfl)) rfl
theorem qw_3_196 : Cond.methodLink RL 72 yX3_takeBack ∈ AW := aw_of (aw_3 _ (List.mem_of_getElem? (i := 196) rfl)) rfl
theorem qw_3_197 : Cond.instanceMethod yX3_takeBack ∈ AW := aw_of (aw_3 _ (List.mem_of_getElem? (i := 197) rfl)) rfl
theorem qw_3_198 : Cond.selects RX3 yX3_takeBack yX3_takeBack ∈ AW := aw_of (aw_3 _ (List.mem_of_getElem? (i := 198) rfl)) rfl
theorem qw_3_199 : Cond.code yX3_takeBack cX3_takeBack 2 (some .int) ∈ AW := aw_of (aw_3 _ (List.mem_of_getElem? (i := 199) rfl)) rfl
theorem qw_3_201 : Cond.methodLink RL 209 yL_capturedCount ∈ AW := aw_of (aw_3 _ (List.mem_of_getElem? (i := 201) rfl)) rfl
theorem qw_3_202 : Cond.static yL_capturedCount ∈ AW := aw_of (aw_3 _ (List.mem_of_getElem? (i := 202) rfl)) rfl
theorem qw_3_203 : Cond.codeWith yL_capturedCount cL_capturedCount 5 (some .int) [(0, 10, 13, 15)] ∈ AW := aw_of (aw_3 _ (List.mem_of_getElem? (i := 203) rfl)) rfl
theorem qw_3_204 : Cond.methodLink RL 76 yX3_capturedCount ∈ AW := aw_of (aw_3 _ (List.mem_of_getElem? (i := 204) rfl)) rfl
theorem qw_3_205 : Cond.instanceMethod yX3_capturedCount ∈ AW := aw_of (aw_3 _ (List.mem_of_getElem? (i := 205) rfl)) rfl
theorem qw_3_206 : Cond.selects RX3 yX3_capturedCount yX3_capturedCount ∈ AW := aw_of (aw_3 _ (List.mem_of_getElem? (i := 206) rfl)) rfl
theorem qw_3_207 : Cond.code yX3_capturedCount cX3_capturedCount 5 (some .int) ∈ AW := aw_of (aw_3 _ (List.mem_of_getElem? (i := 207) rfl)) rfl
theorem qw_3_208 : Cond.classLink RL 81 RX4 ∈ AW := aw_of (aw_3 _ (List.mem_of_getElem? (i := 208) rfl)) rfl
theorem qw_3_209 : Cond.instantiable RX4 11 ∈ AW := aw_of (aw_3 _ (List.mem_of_getElem? (i := 209) rfl)) rfl
theorem qw_3_210 : Cond.methodLink RL 83 yX4_init ∈ AW := aw_of (aw_3 _ (List.mem_of_getElem? (i := 210) rfl)) rfl
theorem qw_3_211 : Cond.instanceMethod yX4_init ∈ AW := aw_of (aw_3 _ (List.mem_of_getElem? (i := 211) rfl)) rfl
theorem qw_3_212 : Cond.code yX4_init cX4_init 2 none ∈ AW := aw_of (aw_3 _ (List.mem_of_getElem? (i := 212) rfl)) rfl
theorem qw_3_213 : Cond.methodLink RX4 1 objectInit ∈ AW := aw_of (aw_3 _ (List.mem_of_getElem? (i := 213) rfl)) rfl
theorem qw_3_214 : Cond.methodLink RX4 31 yX4_findLeaps ∈ AW := aw_of (aw_3 _ (List.mem_of_getElem? (i := 214) rfl)) rfl
theorem qw_3_216 : Cond.instanceMethod yX4_findLeaps ∈ AW := aw_of (aw_3 _ (List.mem_of_getElem? (i := 216) rfl)) rfl
theorem qw_3_217 : Cond.code yX4_findLeaps cX4_findLeaps 4 none ∈ AW := aw_of (aw_3 _ (List.mem_of_getElem? (i := 217) rfl)) rfl
theorem qw_3_218 : Cond.methodLink RX4 52 yX4_isLeap ∈ AW := aw_of (aw_3 _ (List.mem_of_getElem? (i := 218) rfl)) rfl
theorem qw_3_219 : Cond.static yX4_isLeap ∈ AW := aw_of (aw_3 _ (List.mem_of_getElem? (i := 219) rfl)) rfl
theorem qw_3_220 : Cond.code yX4_isLeap cX4_isLeap 2 (some .boolean) ∈ AW := aw_of (aw_3 _ (List.mem_of_getElem? (i := 220) rfl)) rfl
theorem qw_3_221 : Cond.methodLink RX4 48 yX4_away ∈ AW := aw_of (aw_3 _ (List.mem_of_getElem? (i := 221) rfl)) rfl
theorem qw_3_222 : Cond.static yX4_away ∈ AW := aw_of (aw_3 _ (List.mem_of_getElem? (i := 222) rfl)) rfl
theorem qw_3_223 : Cond.code yX4_away cX4_away 2 (some .int) ∈ AW := aw_of (aw_3 _ (List.mem_of_getElem? (i := 223) rfl)) rfl
theorem qw_3_224 : Cond.methodLink RX4 34 yX4_clear ∈ AW := aw_of (aw_3 _ (List.mem_of_getElem? (i := 224) rfl)) rfl
theorem qw_3_226 : Cond.instanceMethod yX4_clear ∈ AW := aw_of (aw_3 _ (List.mem_of_getElem? (i := 226) rfl)) rfl
theorem qw_3_227 : Cond.code yX4_clear cX4_clear 2 none ∈ AW := aw_of (aw_3 _ (List.mem_of_getElem? (i := 227) rfl)) rfl
theorem qw_3_228 : Cond.methodLink RX4 37 yX4_tie ∈ AW := aw_of (aw_3 _ (List.mem_of_getElem? (i := 228) rfl)) rfl
theorem qw_3_229 : Cond.static yX4_tie ∈ AW := aw_of (aw_3 _ (List.mem_of_getElem? (i := 229) rfl)) rfl
theorem qw_3_230 : Cond.code yX4_tie cX4_tie 3 none ∈ AW := aw_of (aw_3 _ (List.mem_of_getElem? (i := 230) rfl)) rfl
theorem qw_3_231 : Cond.methodLink RX4 41 yX4_begin ∈ AW := aw_of (aw_3 _ (List.mem_of_getElem? (i := 231) rfl)) rfl
theorem qw_3_233 : Cond.instanceMethod yX4_begin ∈ AW := aw_of (aw_3 _ (List.mem_of_getElem? (i := 233) rfl)) rfl
theorem qw_3_234 : Cond.code yX4_begin cX4_begin 1 none ∈ AW := aw_of (aw_3 _ (List.mem_of_getElem? (i := 234) rfl)) rfl
theorem qw_3_235 : Cond.methodLink RX4 157 yX4_keep ∈ AW := aw_of (aw_3 _ (List.mem_of_getElem? (i := 235) rfl)) rfl
theorem qw_3_237 : Cond.instanceMethod yX4_keep ∈ AW := aw_of (aw_3 _ (List.mem_of_getElem? (i := 237) rfl)) rfl
theorem qw_3_238 : Cond.code yX4_keep cX4_keep 3 none ∈ AW := aw_of (aw_3 _ (List.mem_of_getElem? (i := 238) rfl)) rfl
theorem qw_3_239 : Cond.methodLink RX4 98 yX4_copyRow ∈ AW := aw_of (aw_3 _ (List.mem_of_getElem? (i := 239) rfl)) rfl
theorem qw_4_0 : Cond.static yX4_copyRow ∈ AW := aw_of (aw_4 _ (List.mem_of_getElem? (i := 0) rfl)) rfl
theorem qw_4_1 : Cond.code yX4_copyRow cX4_copyRow 5 none ∈ AW := aw_of (aw_4 _ (List.mem_of_getElem? (i := 1) rfl)) rfl
theorem qw_4_2 : Cond.methodLink RX4 150 yX4_findOutcome ∈ AW := aw_of (aw_4 _ (List.mem_of_getElem? (i := 2) rfl)) rfl
theorem qw_4_4 : Cond.instanceMethod yX4_findOutcome ∈ AW := aw_of (aw_4 _ (List.mem_of_getElem? (i := 4) rfl)) rfl
theorem qw_4_5 : Cond.code yX4_findOutcome cX4_findOutcome 3 none ∈ AW := aw_of (aw_4 _ (List.mem_of_getElem? (i := 5) rfl)) rfl
theorem qw_4_6 : Cond.methodLink RX4 106 yX4_inCheck ∈ AW := aw_of (aw_4 _ (List.mem_of_getElem? (i := 6) rfl)) rfl
theorem qw_4_7 : Cond.static yX4_inCheck ∈ AW := aw_of (aw_4 _ (List.mem_of_getElem? (i := 7) rfl)) rfl
theorem qw_4_8 : Cond.code yX4_inCheck cX4_inCheck 3 (some .boolean) ∈ AW := aw_of (aw_4 _ (List.mem_of_getElem? (i := 8) rfl)) rfl
theorem qw_4_9 : Cond.methodLink RX4 82 yX4_king ∈ AW := aw_of (aw_4 _ (List.mem_of_getElem? (i := 9) rfl)) rfl
theorem qw_4_10 : Cond.static yX4_king ∈ AW := aw_of (aw_4 _ (List.mem_of_getElem? (i := 10) rfl)) rfl
theorem qw_4_11 : Cond.code yX4_king cX4_king 3 (some .int) ∈ AW := aw_of (aw_4 _ (List.mem_of_getElem? (i := 11) rfl)) rfl
theorem qw_4_12 : Cond.methodLink RX4 56 yX4_isOwn ∈ AW := aw_of (aw_4 _ (List.mem_of_getElem? (i := 12) rfl)) rfl
theorem qw_4_13 : Cond.static yX4_isOwn ∈ AW := aw_of (aw_4 _ (List.mem_of_getElem? (i := 13) rfl)) rfl
theorem qw_4_14 : Cond.code yX4_isOwn cX4_isOwn 4 (some .boolean) ∈ AW := aw_of (aw_4 _ (List.mem_of_getElem? (i := 14) rfl)) rfl
theorem qw_4_15 : Cond.methodLink RX4 85 yX4_isAttacked ∈ AW := aw_of (aw_4 _ (List.mem_of_getElem? (i := 15) rfl)) rfl
theorem qw_4_16 : Cond.static yX4_isAttacked ∈ AW := aw_of (aw_4 _ (List.mem_of_getElem? (i := 16) rfl)) rfl
theorem qw_4_17 : Cond.code yX4_isAttacked cX4_isAttacked 4 (some .boolean) ∈ AW := aw_of (aw_4 _ (List.mem_of_getElem? (i := 17) rfl)) rfl
theorem qw_4_18 : Cond.methodLink RX4 76 yX4_isOf ∈ AW := aw_of (aw_4 _ (List.mem_of_getElem? (i := 18) rfl)) rfl
theorem qw_4_19 : Cond.static yX4_isOf ∈ AW := aw_of (aw_4 _ (List.mem_of_getElem? (i := 19) rfl)) rfl
theorem qw_4_20 : Cond.code yX4_isOf cX4_isOf 3 (some .boolean) ∈ AW := aw_of (aw_4 _ (List.mem_of_getElem? (i := 20) rfl)) rfl
theorem qw_4_21 : Cond.methodLink RX4 79 yX4_attacks ∈ AW := aw_of (aw_4 _ (List.mem_of_getElem? (i := 21) rfl)) rfl
theorem qw_4_22 : Cond.static yX4_attacks ∈ AW := aw_of (aw_4 _ (List.mem_of_getElem? (i := 22) rfl)) rfl
theorem qw_4_23 : Cond.code yX4_attacks cX4_attacks 7 (some .boolean) ∈ AW := aw_of (aw_4 _ (List.mem_of_getElem? (i := 23) rfl)) rfl
theorem qw_4_24 : Cond.methodLink RX4 65 yX4_kind ∈ AW := aw_of (aw_4 _ (List.mem_of_getElem? (i := 24) rfl)) rfl
theorem qw_4_25 : Cond.static yX4_kind ∈ AW := aw_of (aw_4 _ (List.mem_of_getElem? (i := 25) rfl)) rfl
theorem qw_4_26 : Cond.code yX4_kind cX4_kind 2 (some .int) ∈ AW := aw_of (aw_4 _ (List.mem_of_getElem? (i := 26) rfl)) rfl
theorem qw_4_27 : Cond.methodLink RX4 69 yX4_isClear ∈ AW := aw_of (aw_4 _ (List.mem_of_getElem? (i := 27) rfl)) rfl
theorem qw_4_28 : Cond.static yX4_isClear ∈ AW := aw_of (aw_4 _ (List.mem_of_getElem? (i := 28) rfl)) rfl
theorem qw_4_29 : Cond.code yX4_isClear cX4_isClear 5 (some .boolean) ∈ AW := aw_of (aw_4 _ (List.mem_of_getElem? (i := 29) rfl)) rfl
theorem qw_4_30 : Cond.methodLink RX4 60 yJ6_compare_7cf53 ∈ AW := aw_of (aw_4 _ (List.mem_of_getElem? (i := 30) rfl)) rfl
theorem qw_4_31 : Cond.static yJ6_compare_7cf53 ∈ AW := aw_of (aw_4 _ (List.mem_of_getElem? (i := 31) rfl)) rfl
theorem qw_4_32 : Cond.code yJ6_compare_7cf53 cJ6_compare_7cf53 2 (some .int) ∈ AW := aw_of (aw_4 _ (List.mem_of_getElem? (i := 32) rfl)) rfl
theorem qw_4_33 : Cond.methodLink RX4 73 yX4_ahead ∈ AW := aw_of (aw_4 _ (List.mem_of_getElem? (i := 33) rfl)) rfl
theorem qw_4_34 : Cond.static yX4_ahead ∈ AW := aw_of (aw_4 _ (List.mem_of_getElem? (i := 34) rfl)) rfl
theorem qw_4_35 : Cond.code yX4_ahead cX4_ahead 2 (some .int) ∈ AW := aw_of (aw_4 _ (List.mem_of_getElem? (i := 35) rfl)) rfl
theorem qw_4_36 : Cond.methodLink RX4 131 yX4_hasMove ∈ AW := aw_of (aw_4 _ (List.mem_of_getElem? (i := 36) rfl)) rfl
theorem qw_4_38 : Cond.instanceMethod yX4_hasMove ∈ AW := aw_of (aw_4 _ (List.mem_of_getElem? (i := 38) rfl)) rfl
theorem qw_4_39 : Cond.code yX4_hasMove cX4_hasMove 4 (some .boolean) ∈ AW := aw_of (aw_4 _ (List.mem_of_getElem? (i := 39) rfl)) rfl
theorem qw_4_40 : Cond.methodLink RX4 113 yX4_reason ∈ AW := aw_of (aw_4 _ (List.mem_of_getElem? (i := 40) rfl)) rfl
theorem qw_4_42 : Cond.instanceMethod yX4_reason ∈ AW := aw_of (aw_4 _ (List.mem_of_getElem? (i := 42) rfl)) rfl
theorem qw_4_43 : Cond.code yX4_reason cX4_reason 6 (some .int) ∈ AW := aw_of (aw_4 _ (List.mem_of_getElem? (i := 43) rfl)) rfl
theorem qw_4_44 : Cond.methodLink RX4 95 yX4_canMove ∈ AW := aw_of (aw_4 _ (List.mem_of_getElem? (i := 44) rfl)) rfl
theorem qw_4_45 : Cond.static yX4_canMove ∈ AW := aw_of (aw_4 _ (List.mem_of_getElem? (i := 45) rfl)) rfl
theorem qw_4_46 : Cond.code yX4_canMove cX4_canMove 5 (some .boolean) ∈ AW := aw_of (aw_4 _ (List.mem_of_getElem? (i := 46) rfl)) rfl
theorem qw_4_47 : Cond.methodLink RX4 102 yX4_apply ∈ AW := aw_of (aw_4 _ (List.mem_of_getElem? (i := 47) rfl)) rfl
theorem qw_4_48 : Cond.static yX4_apply ∈ AW := aw_of (aw_4 _ (List.mem_of_getElem? (i := 48) rfl)) rfl
theorem qw_4_49 : Cond.code yX4_apply cX4_apply 7 (some .int) ∈ AW := aw_of (aw_4 _ (List.mem_of_getElem? (i := 49) rfl)) rfl
theorem qw_4_50 : Cond.methodLink RX4 88 yX4_untie ∈ AW := aw_of (aw_4 _ (List.mem_of_getElem? (i := 50) rfl)) rfl
theorem qw_4_51 : Cond.static yX4_untie ∈ AW := aw_of (aw_4 _ (List.mem_of_getElem? (i := 51) rfl)) rfl
theorem qw_4_52 : Cond.code yX4_untie cX4_untie 3 none ∈ AW := aw_of (aw_4 _ (List.mem_of_getElem? (i := 52) rfl)) rfl
theorem qw_4_53 : Cond.methodLink RX4 110 yX4_isFar ∈ AW := aw_of (aw_4 _ (List.mem_of_getElem? (i := 53) rfl)) rfl
theorem qw_4_55 : Cond.instanceMethod yX4_isFar ∈ AW := aw_of (aw_4 _ (List.mem_of_getElem? (i := 55) rfl)) rfl
theorem qw_4_56 : Cond.code yX4_isFar cX4_isFar 4 (some .boolean) ∈ AW := aw_of (aw_4 _ (List.mem_of_getElem? (i := 56) rfl)) rfl
theorem qw_4_57 : Cond.methodLink RX4 92 yX4_leapsOf ∈ AW := aw_of (aw_4 _ (List.mem_of_getElem? (i := 57) rfl)) rfl
theorem qw_4_59 : Cond.instanceMethod yX4_leapsOf ∈ AW := aw_of (aw_4 _ (List.mem_of_getElem? (i := 59) rfl)) rfl
theorem qw_4_60 : Cond.code yX4_leapsOf cX4_leapsOf 3 (some .int) ∈ AW := aw_of (aw_4 _ (List.mem_of_getElem? (i := 60) rfl)) rfl
theorem qw_4_61 : Cond.methodLink RX4 138 yX4_hasBondAction ∈ AW := aw_of (aw_4 _ (List.mem_of_getElem? (i := 61) rfl)) rfl
theorem qw_4_63 : Cond.instanceMethod yX4_hasBondAction ∈ AW := aw_of (aw_4 _ (List.mem_of_getElem? (i := 63) rfl)) rfl
theorem qw_4_64 : Cond.code yX4_hasBondAction cX4_hasBondAction 3 (some .boolean) ∈ AW := aw_of (aw_4 _ (List.mem_of_getElem? (i := 64) rfl)) rfl
theorem qw_4_65 : Cond.methodLink RX4 117 yX4_dissolveReason ∈ AW := aw_of (aw_4 _ (List.mem_of_getElem? (i := 65) rfl)) rfl
theorem qw_4_67 : Cond.instanceMethod yX4_dissolveReason ∈ AW := aw_of (aw_4 _ (List.mem_of_getElem? (i := 67) rfl)) rfl
theorem qw_4_68 : Cond.code yX4_dissolveReason cX4_dissolveReason 2 (some .int) ∈ AW := aw_of (aw_4 _ (List.mem_of_getElem? (i := 68) rfl)) rfl
theorem qw_4_69 : Cond.methodLink RX4 121 yX4_bondReason ∈ AW := aw_of (aw_4 _ (List.mem_of_getElem? (i := 69) rfl)) rfl
theorem qw_4_71 : Cond.instanceMethod yX4_bondReason ∈ AW := aw_of (aw_4 _ (List.mem_of_getElem? (i := 71) rfl)) rfl
theorem qw_4_72 : Cond.code yX4_bondReason cX4_bondReason 4 (some .int) ∈ AW := aw_of (aw_4 _ (List.mem_of_getElem? (i := 72) rfl)) rfl
theorem qw_4_73 : Cond.methodLink RX4 142 yX4_pieces ∈ AW := aw_of (aw_4 _ (List.mem_of_getElem? (i := 73) rfl)) rfl
theorem qw_4_74 : Cond.static yX4_pieces ∈ AW := aw_of (aw_4 _ (List.mem_of_getElem? (i := 74) rfl)) rfl
theorem qw_4_75 : Cond.code yX4_pieces cX4_pieces 3 (some .int) ∈ AW := aw_of (aw_4 _ (List.mem_of_getElem? (i := 75) rfl)) rfl
theorem qw_4_76 : Cond.methodLink RX4 146 yX4_occurred ∈ AW := aw_of (aw_4 _ (List.mem_of_getElem? (i := 76) rfl)) rfl
theorem qw_4_78 : Cond.instanceMethod yX4_occurred ∈ AW := aw_of (aw_4 _ (List.mem_of_getElem? (i := 78) rfl)) rfl
theorem qw_4_79 : Cond.code yX4_occurred cX4_occurred 3 (some .int) ∈ AW := aw_of (aw_4 _ (List.mem_of_getElem? (i := 79) rfl)) rfl
theorem qw_4_80 : Cond.methodLink RX4 127 yX4_isSame ∈ AW := aw_of (aw_4 _ (List.mem_of_getElem? (i := 80) rfl)) rfl
theorem qw_4_82 : Cond.instanceMethod yX4_isSame ∈ AW := aw_of (aw_4 _ (List.mem_of_getElem? (i := 82) rfl)) rfl
theorem qw_4_83 : Cond.code yX4_isSame cX4_isSame 4 (some .boolean) ∈ AW := aw_of (aw_4 _ (List.mem_of_getElem? (i := 83) rfl)) rfl
theorem qw_4_84 : Cond.fieldLink RX4 44 RX4 "thrown" "I" ∈ AW := aw_of (aw_4 _ (List.mem_of_getElem? (i := 84) rfl)) rfl
theorem qw_4_85 : Cond.fieldLink RX4 153 RX4 "setup" "Z" ∈ AW := aw_of (aw_4 _ (List.mem_of_getElem? (i := 85) rfl)) rfl
theorem qw_4_86 : Cond.fieldLink RX4 7 RX4 "rows" "[I" ∈ AW := aw_of (aw_4 _ (List.mem_of_getElem? (i := 86) rfl)) rfl
theorem qw_4_87 : Cond.fieldLink RX4 124 RX4 "actions" "I" ∈ AW := aw_of (aw_4 _ (List.mem_of_getElem? (i := 87) rfl)) rfl
theorem qw_4_88 : Cond.fieldLink RX4 135 RX4 "outcome" "I" ∈ AW := aw_of (aw_4 _ (List.mem_of_getElem? (i := 88) rfl)) rfl
theorem qw_4_89 : Cond.fieldLink RX4 13 RX4 "now" "[I" ∈ AW := aw_of (aw_4 _ (List.mem_of_getElem? (i := 89) rfl)) rfl
theorem qw_4_90 : Cond.fieldLink RX4 16 RX4 "first" "[I" ∈ AW := aw_of (aw_4 _ (List.mem_of_getElem? (i := 90) rfl)) rfl
theorem qw_4_91 : Cond.fieldLink RX4 19 RX4 "second" "[I" ∈ AW := aw_of (aw_4 _ (List.mem_of_getElem? (i := 91) rfl)) rfl
theorem qw_4_92 : Cond.fieldLink RX4 22 RX4 "third" "[I" ∈ AW := aw_of (aw_4 _ (List.mem_of_getElem? (i := 92) rfl)) rfl
theorem qw_4_93 : Cond.fieldLink RX4 25 RX4 "leaps" "[I" ∈ AW := aw_of (aw_4 _ (List.mem_of_getElem? (i := 93) rfl)) rfl
theorem qw_4_94 : Cond.fieldLink RX4 28 RX4 "order" "[I" ∈ AW := aw_of (aw_4 _ (List.mem_of_getElem? (i := 94) rfl)) rfl
theorem qw_4_95 : Cond.lays RX4 RX4 "thrown" "I" ∈ AW := aw_of (aw_4 _ (List.mem_of_getElem? (i := 95) rfl)) rfl
theorem qw_4_96 : Cond.soleField RX4 "thrown" ∈ AW := aw_of (aw_4 _ (List.mem_of_getElem? (i := 96) rfl)) rfl
theorem qw_4_97 : Cond.lays RX4 RX4 "setup" "Z" ∈ AW := aw_of (aw_4 _ (List.mem_of_getElem? (i := 97) rfl)) rfl
theorem qw_4_98 : Cond.soleField RX4 "setup" ∈ AW := aw_of (aw_4 _ (List.mem_of_getElem? (i := 98) rfl)) rfl
theorem qw_4_99 : Cond.lays RX4 RX4 "rows" "[I" ∈ AW := aw_of (aw_4 _ (List.mem_of_getElem? (i := 99) rfl)) rfl
theorem qw_4_100 : Cond.soleField RX4 "rows" ∈ AW := aw_of (aw_4 _ (List.mem_of_getElem? (i := 100) rfl)) rfl
theorem qw_4_101 : Cond.lays RX4 RX4 "actions" "I" ∈ AW := aw_of (aw_4 _ (List.mem_of_getElem? (i := 101) rfl)) rfl
theorem qw_4_102 : Cond.soleField RX4 "actions" ∈ AW := aw_of (aw_4 _ (List.mem_of_getElem? (i := 102) rfl)) rfl
theorem qw_4_103 : Cond.lays RX4 RX4 "outcome" "I" ∈ AW := aw_of (aw_4 _ (List.mem_of_getElem? (i := 103) rfl)) rfl
theorem qw_4_104 : Cond.soleField RX4 "outcome" ∈ AW := aw_of (aw_4 _ (List.mem_of_getElem? (i := 104) rfl)) rfl
theorem qw_4_105 : Cond.laysFinal RX4 RX4 "now" "[I" ∈ AW := aw_of (aw_4 _ (List.mem_of_getElem? (i := 105) rfl)) rfl
theorem qw_4_106 : Cond.soleField RX4 "now" ∈ AW := aw_of (aw_4 _ (List.mem_of_getElem? (i := 106) rfl)) rfl
theorem qw_4_107 : Cond.laysFinal RX4 RX4 "first" "[I" ∈ AW := aw_of (aw_4 _ (List.mem_of_getElem? (i := 107) rfl)) rfl
theorem qw_4_108 : Cond.soleField RX4 "first" ∈ AW := aw_of (aw_4 _ (List.mem_of_getElem? (i := 108) rfl)) rfl
theorem qw_4_109 : Cond.laysFinal RX4 RX4 "second" "[I" ∈ AW := aw_of (aw_4 _ (List.mem_of_getElem? (i := 109) rfl)) rfl
theorem qw_4_110 : Cond.soleField RX4 "second" ∈ AW := aw_of (aw_4 _ (List.mem_of_getElem? (i := 110) rfl)) rfl
theorem qw_4_111 : Cond.laysFinal RX4 RX4 "third" "[I" ∈ AW := aw_of (aw_4 _ (List.mem_of_getElem? (i := 111) rfl)) rfl
theorem qw_4_112 : Cond.soleField RX4 "third" ∈ AW := aw_of (aw_4 _ (List.mem_of_getElem? (i := 112) rfl)) rfl
theorem qw_4_113 : Cond.laysFinal RX4 RX4 "leaps" "[I" ∈ AW := aw_of (aw_4 _ (List.mem_of_getElem? (i := 113) rfl)) rfl
theorem qw_4_114 : Cond.soleField RX4 "leaps" ∈ AW := aw_of (aw_4 _ (List.mem_of_getElem? (i := 114) rfl)) rfl
theorem qw_4_115 : Cond.laysFinal RX4 RX4 "order" "[I" ∈ AW := aw_of (aw_4 _ (List.mem_of_getElem? (i := 115) rfl)) rfl
theorem qw_4_116 : Cond.soleField RX4 "order" ∈ AW := aw_of (aw_4 _ (List.mem_of_getElem? (i := 116) rfl)) rfl
theorem qw_4_117 : Cond.superclass RX4 "java/lang/Object" ∈ AW := aw_of (aw_4 _ (List.mem_of_getElem? (i := 117) rfl)) rfl
theorem qw_4_118 : Cond.methodLink RL 94 yX4_thrown ∈ AW := aw_of (aw_4 _ (List.mem_of_getElem? (i := 118) rfl)) rfl
theorem qw_4_119 : Cond.instanceMethod yX4_thrown ∈ AW := aw_of (aw_4 _ (List.mem_of_getElem? (i := 119) rfl)) rfl
theorem qw_4_120 : Cond.selects RX4 yX4_thrown yX4_thrown ∈ AW := aw_of (aw_4 _ (List.mem_of_getElem? (i := 120) rfl)) rfl
theorem qw_4_121 : Cond.code yX4_thrown cX4_thrown 1 (some .int) ∈ AW := aw_of (aw_4 _ (List.mem_of_getElem? (i := 121) rfl)) rfl
theorem qw_4_122 : Cond.methodLink RL 87 yX4_beginSetup ∈ AW := aw_of (aw_4 _ (List.mem_of_getElem? (i := 122) rfl)) rfl
theorem qw_4_123 : Cond.instanceMethod yX4_beginSetup ∈ AW := aw_of (aw_4 _ (List.mem_of_getElem? (i := 123) rfl)) rfl
theorem qw_4_124 : Cond.selects RX4 yX4_beginSetup yX4_beginSetup ∈ AW := aw_of (aw_4 _ (List.mem_of_getElem? (i := 124) rfl)) rfl
theorem qw_4_125 : Cond.code yX4_beginSetup cX4_beginSetup 1 none ∈ AW := aw_of (aw_4 _ (List.mem_of_getElem? (i := 125) rfl)) rfl
theorem qw_4_126 : Cond.methodLink RL 93 yX4_place ∈ AW := aw_of (aw_4 _ (List.mem_of_getElem? (i := 126) rfl)) rfl
theorem qw_4_127 : Cond.instanceMethod yX4_place ∈ AW := aw_of (aw_4 _ (List.mem_of_getElem? (i := 127) rfl)) rfl
theorem qw_4_128 : Cond.selects RX4 yX4_place yX4_place ∈ AW := aw_of (aw_4 _ (List.mem_of_getElem? (i := 128) rfl)) rfl
theorem qw_4_129 : Cond.code yX4_place cX4_place 6 (some .int) ∈ AW := aw_of (aw_4 _ (List.mem_of_getElem? (i := 129) rfl)) rfl
theorem qw_4_130 : Cond.methodLink RX4 160 yX4_isSquare ∈ AW := aw_of (aw_4 _ (List.mem_of_getElem? (i := 130) rfl)) rfl
theorem qw_4_131 : Cond.static yX4_isSquare ∈ AW := aw_of (aw_4 _ (List.mem_of_getElem? (i := 131) rfl)) rfl
theorem qw_4_132 : Cond.code yX4_isSquare cX4_isSquare 1 (some .boolean) ∈ AW := aw_of (aw_4 _ (List.mem_of_getElem? (i := 132) rfl)) rfl
theorem qw_4_133 : Cond.methodLink RX4 163 yX4_isGood ∈ AW := aw_of (aw_4 _ (List.mem_of_getElem? (i := 133) rfl)) rfl
theorem qw_4_135 : Cond.instanceMethod yX4_isGood ∈ AW := aw_of (aw_4 _ (List.mem_of_getElem? (i := 135) rfl)) rfl
theorem qw_4_136 : Cond.code yX4_isGood cX4_isGood 2 (some .boolean) ∈ AW := aw_of (aw_4 _ (List.mem_of_getElem? (i := 136) rfl)) rfl
theorem qw_4_137 : Cond.methodLink RX4 167 yX4_fail ∈ AW := aw_of (aw_4 _ (List.mem_of_getElem? (i := 137) rfl)) rfl
theorem qw_4_139 : Cond.instanceMethod yX4_fail ∈ AW := aw_of (aw_4 _ (List.mem_of_getElem? (i := 139) rfl)) rfl
theorem qw_4_140 : Cond.code yX4_fail cX4_fail 2 (some .int) ∈ AW := aw_of (aw_4 _ (List.mem_of_getElem? (i := 140) rfl)) rfl
theorem qw_4_141 : Cond.methodLink RX4 170 yX4_side ∈ AW := aw_of (aw_4 _ (List.mem_of_getElem? (i := 141) rfl)) rfl
theorem qw_4_142 : Cond.static yX4_side ∈ AW := aw_of (aw_4 _ (List.mem_of_getElem? (i := 142) rfl)) rfl
theorem qw_4_143 : Cond.code yX4_side cX4_side 1 (some .int) ∈ AW := aw_of (aw_4 _ (List.mem_of_getElem? (i := 143) rfl)) rfl
theorem qw_4_144 : Cond.methodLink RL 100 yX4_remove ∈ AW := aw_of (aw_4 _ (List.mem_of_getElem? (i := 144) rfl)) rfl
theorem qw_4_145 : Cond.instanceMethod yX4_remove ∈ AW := aw_of (aw_4 _ (List.mem_of_getElem? (i := 145) rfl)) rfl
theorem qw_4_146 : Cond.selects RX4 yX4_remove yX4_remove ∈ AW := aw_of (aw_4 _ (List.mem_of_getElem? (i := 146) rfl)) rfl
theorem qw_4_147 : Cond.code yX4_remove cX4_remove 3 (some .int) ∈ AW := aw_of (aw_4 _ (List.mem_of_getElem? (i := 147) rfl)) rfl
theorem qw_4_148 : Cond.methodLink RL 104 yX4_endSetup ∈ AW := aw_of (aw_4 _ (List.mem_of_getElem? (i := 148) rfl)) rfl
theorem qw_4_149 : Cond.instanceMethod yX4_endSetup ∈ AW := aw_of (aw_4 _ (List.mem_of_getElem? (i := 149) rfl)) rfl
theorem qw_4_150 : Cond.selects RX4 yX4_endSetup yX4_endSetup ∈ AW := aw_of (aw_4 _ (List.mem_of_getElem? (i := 150) rfl)) rfl
theorem qw_4_151 : Cond.code yX4_endSetup cX4_endSetup 3 (some .int) ∈ AW := aw_of (aw_4 _ (List.mem_of_getElem? (i := 151) rfl)) rfl
theorem qw_4_152 : Cond.methodLink RL 109 yX4_isSetup ∈ AW := aw_of (aw_4 _ (List.mem_of_getElem? (i := 152) rfl)) rfl
theorem qw_4_153 : Cond.instanceMethod yX4_isSetup ∈ AW := aw_of (aw_4 _ (List.mem_of_getElem? (i := 153) rfl)) rfl
theorem qw_4_154 : Cond.selects RX4 yX4_isSetup yX4_isSetup ∈ AW := aw_of (aw_4 _ (List.mem_of_getElem? (i := 154) rfl)) rfl
theorem qw_4_155 : Cond.code yX4_isSetup cX4_isSetup 1 (some .boolean) ∈ AW := aw_of (aw_4 _ (List.mem_of_getElem? (i := 155) rfl)) rfl
theorem qw_4_156 : Cond.methodLink RL 113 yX4_whiteToAct ∈ AW := aw_of (aw_4 _ (List.mem_of_getElem? (i := 156) rfl)) rfl
theorem qw_4_157 : Cond.instanceMethod yX4_whiteToAct ∈ AW := aw_of (aw_4 _ (List.mem_of_getElem? (i := 157) rfl)) rfl
theorem qw_4_158 : Cond.selects RX4 yX4_whiteToAct yX4_whiteToAct ∈ AW := aw_of (aw_4 _ (List.mem_of_getElem? (i := 158) rfl)) rfl
theorem qw_4_159 : Cond.code yX4_whiteToAct cX4_whiteToAct 1 (some .boolean) ∈ AW := aw_of (aw_4 _ (List.mem_of_getElem? (i := 159) rfl)) rfl
theorem qw_4_160 : Cond.methodLink RL 116 yX4_pieceAt ∈ AW := aw_of (aw_4 _ (List.mem_of_getElem? (i := 160) rfl)) rfl
theorem qw_4_161 : Cond.instanceMethod yX4_pieceAt ∈ AW := aw_of (aw_4 _ (List.mem_of_getElem? (i := 161) rfl)) rfl
theorem qw_4_162 : Cond.selects RX4 yX4_pieceAt yX4_pieceAt ∈ AW := aw_of (aw_4 _ (List.mem_of_getElem? (i := 162) rfl)) rfl
theorem qw_4_163 : Cond.code yX4_pieceAt cX4_pieceAt 2 (some .int) ∈ AW := aw_of (aw_4 _ (List.mem_of_getElem? (i := 163) rfl)) rfl
theorem qw_4_164 : Cond.methodLink RL 119 yX4_isWhite ∈ AW := aw_of (aw_4 _ (List.mem_of_getElem? (i := 164) rfl)) rfl
theorem qw_4_165 : Cond.instanceMethod yX4_isWhite ∈ AW := aw_of (aw_4 _ (List.mem_of_getElem? (i := 165) rfl)) rfl
theorem qw_4_166 : Cond.selects RX4 yX4_isWhite yX4_isWhite ∈ AW := aw_of (aw_4 _ (List.mem_of_getElem? (i := 166) rfl)) rfl
theorem qw_4_167 : Cond.code yX4_isWhite cX4_isWhite 2 (some .boolean) ∈ AW := aw_of (aw_4 _ (List.mem_of_getElem? (i := 167) rfl)) rfl
theorem qw_4_168 : Cond.methodLink RL 124 yX4_piecesOf ∈ AW := aw_of (aw_4 _ (List.mem_of_getElem? (i := 168) rfl)) rfl
theorem qw_4_169 : Cond.instanceMethod yX4_piecesOf ∈ AW := aw_of (aw_4 _ (List.mem_of_getElem? (i := 169) rfl)) rfl
theorem qw_4_170 : Cond.selects RX4 yX4_piecesOf yX4_piecesOf ∈ AW := aw_of (aw_4 _ (List.mem_of_getElem? (i := 170) rfl)) rfl
theorem qw_4_171 : Cond.code yX4_piecesOf cX4_piecesOf 5 (some .long) ∈ AW := aw_of (aw_4 _ (List.mem_of_getElem? (i := 171) rfl)) rfl
theorem qw_4_172 : Cond.methodLink RL 128 yX4_kingSquare ∈ AW := aw_of (aw_4 _ (List.mem_of_getElem? (i := 172) rfl)) rfl
theorem qw_4_173 : Cond.instanceMethod yX4_kingSquare ∈ AW := aw_of (aw_4 _ (List.mem_of_getElem? (i := 173) rfl)) rfl
theorem qw_4_174 : Cond.selects RX4 yX4_kingSquare yX4_kingSquare ∈ AW := aw_of (aw_4 _ (List.mem_of_getElem? (i := 174) rfl)) rfl
theorem qw_4_175 : Cond.code yX4_kingSquare cX4_kingSquare 2 (some .int) ∈ AW := aw_of (aw_4 _ (List.mem_of_getElem? (i := 175) rfl)) rfl
theorem qw_4_176 : Cond.methodLink RL 131 yX4_bondOf ∈ AW := aw_of (aw_4 _ (List.mem_of_getElem? (i := 176) rfl)) rfl
theorem qw_4_177 : Cond.instanceMethod yX4_bondOf ∈ AW := aw_of (aw_4 _ (List.mem_of_getElem? (i := 177) rfl)) rfl
theorem qw_4_178 : Cond.selects RX4 yX4_bondOf yX4_bondOf ∈ AW := aw_of (aw_4 _ (List.mem_of_getElem? (i := 178) rfl)) rfl
theorem qw_4_179 : Cond.code yX4_bondOf cX4_bondOf 2 (some .int) ∈ AW := aw_of (aw_4 _ (List.mem_of_getElem? (i := 179) rfl)) rfl
theorem qw_4_180 : Cond.methodLink RL 135 yX4_bondCount ∈ AW := aw_of (aw_4 _ (List.mem_of_getElem? (i := 180) rfl)) rfl
theorem qw_4_181 : Cond.instanceMethod yX4_bondCount ∈ AW := aw_of (aw_4 _ (List.mem_of_getElem? (i := 181) rfl)) rfl
theorem qw_4_182 : Cond.selects RX4 yX4_bondCount yX4_bondCount ∈ AW := aw_of (aw_4 _ (List.mem_of_getElem? (i := 182) rfl)) rfl
theorem qw_4_183 : Cond.code yX4_bondCount cX4_bondCount 4 (some .int) ∈ AW := aw_of (aw_4 _ (List.mem_of_getElem? (i := 183) rfl)) rfl
theorem qw_4_184 : Cond.methodLink RL 139 yX4_longestBond ∈ AW := aw_of (aw_4 _ (List.mem_of_getElem? (i := 184) rfl)) rfl
theorem qw_4_185 : Cond.instanceMethod yX4_longestBond ∈ AW := aw_of (aw_4 _ (List.mem_of_getElem? (i := 185) rfl)) rfl
theorem qw_4_186 : Cond.selects RX4 yX4_longestBond yX4_longestBond ∈ AW := aw_of (aw_4 _ (List.mem_of_getElem? (i := 186) rfl)) rfl
theorem qw_4_187 : Cond.code yX4_longestBond cX4_longestBond 4 (some .int) ∈ AW := aw_of (aw_4 _ (List.mem_of_getElem? (i := 187) rfl)) rfl
theorem qw_4_188 : Cond.methodLink RX4 174 yJ9_max_7cf53 ∈ AW := aw_of (aw_4 _ (List.mem_of_getElem? (i := 188) rfl)) rfl
theorem qw_4_189 : Cond.methodLink RL 143 yX4_knightDistance ∈ AW := aw_of (aw_4 _ (List.mem_of_getElem? (i := 189) rfl)) rfl
theorem qw_4_190 : Cond.instanceMethod yX4_knightDistance ∈ AW := aw_of (aw_4 _ (List.mem_of_getElem? (i := 190) rfl)) rfl
theorem qw_4_191 : Cond.selects RX4 yX4_knightDistance yX4_knightDistance ∈ AW := aw_of (aw_4 _ (List.mem_of_getElem? (i := 191) rfl)) rfl
theorem qw_4_192 : Cond.code yX4_knightDistance cX4_knightDistance 3 (some .int) ∈ AW := aw_of (aw_4 _ (List.mem_of_getElem? (i := 192) rfl)) rfl
theorem qw_4_193 : Cond.methodLink RL 147 yX4_attackers ∈ AW := aw_of (aw_4 _ (List.mem_of_getElem? (i := 193) rfl)) rfl
theorem qw_4_194 : Cond.instanceMethod yX4_attackers ∈ AW := aw_of (aw_4 _ (List.mem_of_getElem? (i := 194) rfl)) rfl
theorem qw_4_195 : Cond.selects RX4 yX4_attackers yX4_attackers ∈ AW := aw_of (aw_4 _ (List.mem_of_getElem? (i := 195) rfl)) rfl
theorem qw_4_196 : Cond.code yX4_attackers cX4_attackers 6 (some .long) ∈ AW := aw_of (aw_4 _ (List.mem_of_getElem? (i := 196) rfl)) rfl
theorem qw_4_197 : Cond.methodLink RL 151 yX4_attackedSquares ∈ AW := aw_of (aw_4 _ (List.mem_of_getElem? (i := 197) rfl)) rfl
theorem qw_4_198 : Cond.instanceMethod yX4_attackedSquares ∈ AW := aw_of (aw_4 _ (List.mem_of_getElem? (i := 198) rfl)) rfl
theorem qw_4_199 : Cond.selects RX4 yX4_attackedSquares yX4_attackedSquares ∈ AW := aw_of (aw_4 _ (List.mem_of_getElem? (i := 199) rfl)) rfl
theorem qw_4_200 : Cond.code yX4_attackedSquares cX4_attackedSquares 2 (some .long) ∈ AW := aw_of (aw_4 _ (List.mem_of_getElem? (i := 200) rfl)) rfl
theorem qw_4_201 : Cond.methodLink RX4 179 yX4_attacked ∈ AW := aw_of (aw_4 _ (List.mem_of_getElem? (i := 201) rfl)) rfl
theorem qw_4_203 : Cond.instanceMethod yX4_attacked ∈ AW := aw_of (aw_4 _ (List.mem_of_getElem? (i := 203) rfl)) rfl
theorem qw_4_204 : Cond.code yX4_attacked cX4_attacked 5 (some .long) ∈ AW := aw_of (aw_4 _ (List.mem_of_getElem? (i := 204) rfl)) rfl
theorem qw_4_205 : Cond.methodLink RL 156 yX4_isInCheck ∈ AW := aw_of (aw_4 _ (List.mem_of_getElem? (i := 205) rfl)) rfl
theorem qw_4_206 : Cond.instanceMethod yX4_isInCheck ∈ AW := aw_of (aw_4 _ (List.mem_of_getElem? (i := 206) rfl)) rfl
theorem qw_4_207 : Cond.selects RX4 yX4_isInCheck yX4_isInCheck ∈ AW := aw_of (aw_4 _ (List.mem_of_getElem? (i := 207) rfl)) rfl
theorem qw_4_208 : Cond.code yX4_isInCheck cX4_isInCheck 2 (some .boolean) ∈ AW := aw_of (aw_4 _ (List.mem_of_getElem? (i := 208) rfl)) rfl
theorem qw_4_209 : Cond.methodLink RL 159 yX4_legalMoves ∈ AW := aw_of (aw_4 _ (List.mem_of_getElem? (i := 209) rfl)) rfl
theorem qw_4_210 : Cond.instanceMethod yX4_legalMoves ∈ AW := aw_of (aw_4 _ (List.mem_of_getElem? (i := 210) rfl)) rfl
theorem qw_4_211 : Cond.selects RX4 yX4_legalMoves yX4_legalMoves ∈ AW := aw_of (aw_4 _ (List.mem_of_getElem? (i := 211) rfl)) rfl
theorem qw_4_212 : Cond.code yX4_legalMoves cX4_legalMoves 5 (some .long) ∈ AW := aw_of (aw_4 _ (List.mem_of_getElem? (i := 212) rfl)) rfl
theorem qw_4_213 : Cond.methodLink RX4 183 yX4_isPlayed ∈ AW := aw_of (aw_4 _ (List.mem_of_getElem? (i := 213) rfl)) rfl
theorem qw_4_215 : Cond.instanceMethod yX4_isPlayed ∈ AW := aw_of (aw_4 _ (List.mem_of_getElem? (i := 215) rfl)) rfl
theorem qw_4_216 : Cond.code yX4_isPlayed cX4_isPlayed 1 (some .boolean) ∈ AW := aw_of (aw_4 _ (List.mem_of_getElem? (i := 216) rfl)) rfl
theorem qw_4_217 : Cond.methodLink RL 163 yX4_legalMoveCount ∈ AW := aw_of (aw_4 _ (List.mem_of_getElem? (i := 217) rfl)) rfl
theorem qw_4_218 : Cond.instanceMethod yX4_legalMoveCount ∈ AW := aw_of (aw_4 _ (List.mem_of_getElem? (i := 218) rfl)) rfl
theorem qw_4_219 : Cond.selects RX4 yX4_legalMoveCount yX4_legalMoveCount ∈ AW := aw_of (aw_4 _ (List.mem_of_getElem? (i := 219) rfl)) rfl
theorem qw_4_220 : Cond.code yX4_legalMoveCount cX4_legalMoveCount 1 (some .int) ∈ AW := aw_of (aw_4 _ (List.mem_of_getElem? (i := 220) rfl)) rfl
theorem qw_4_221 : Cond.methodLink RX4 186 yX4_countMoves ∈ AW := aw_of (aw_4 _ (List.mem_of_getElem? (i := 221) rfl)) rfl
theorem qw_4_223 : Cond.instanceMethod yX4_countMoves ∈ AW := aw_of (aw_4 _ (List.mem_of_getElem? (i := 223) rfl)) rfl
theorem qw_4_224 : Cond.code yX4_countMoves cX4_countMoves 5 (some .int) ∈ AW := aw_of (aw_4 _ (List.mem_of_getElem? (i := 224) rfl)) rfl
theorem qw_4_225 : Cond.methodLink RL 166 yX4_moveRefusal ∈ AW := aw_of (aw_4 _ (List.mem_of_getElem? (i := 225) rfl)) rfl
theorem qw_4_226 : Cond.instanceMethod yX4_moveRefusal ∈ AW := aw_of (aw_4 _ (List.mem_of_getElem? (i := 226) rfl)) rfl
theorem qw_4_227 : Cond.selects RX4 yX4_moveRefusal yX4_moveRefusal ∈ AW := aw_of (aw_4 _ (List.mem_of_getElem? (i := 227) rfl)) rfl
theorem qw_4_228 : Cond.code yX4_moveRefusal cX4_moveRefusal 3 (some .int) ∈ AW := aw_of (aw_4 _ (List.mem_of_getElem? (i := 228) rfl)) rfl
theorem qw_4_229 : Cond.methodLink RX4 190 yX4_areSquares ∈ AW := aw_of (aw_4 _ (List.mem_of_getElem? (i := 229) rfl)) rfl
theorem qw_4_231 : Cond.instanceMethod yX4_areSquares ∈ AW := aw_of (aw_4 _ (List.mem_of_getElem? (i := 231) rfl)) rfl
theorem qw_4_232 : Cond.code yX4_areSquares cX4_areSquares 3 (some .boolean) ∈ AW := aw_of (aw_4 _ (List.mem_of_getElem? (i := 232) rfl)) rfl
theorem qw_4_233 : Cond.methodLink RL 169 yX4_bondRefusal ∈ AW := aw_of (aw_4 _ (List.mem_of_getElem? (i := 233) rfl)) rfl
theorem qw_4_234 : Cond.instanceMethod yX4_bondRefusal ∈ AW := aw_of (aw_4 _ (List.mem_of_getElem? (i := 234) rfl)) rfl
theorem qw_4_235 : Cond.selects RX4 yX4_bondRefusal yX4_bondRefusal ∈ AW := aw_of (aw_4 _ (List.mem_of_getElem? (i := 235) rfl)) rfl
theorem qw_4_236 : Cond.code yX4_bondRefusal cX4_bondRefusal 3 (some .int) ∈ AW := aw_of (aw_4 _ (List.mem_of_getElem? (i := 236) rfl)) rfl
theorem qw_4_237 : Cond.methodLink RL 172 yX4_dissolveRefusal ∈ AW := aw_of (aw_4 _ (List.mem_of_getElem? (i := 237) rfl)) rfl
theorem qw_4_238 : Cond.instanceMethod yX4_dissolveRefusal ∈ AW := aw_of (aw_4 _ (List.mem_of_getElem? (i := 238) rfl)) rfl
theorem qw_4_239 : Cond.selects RX4 yX4_dissolveRefusal yX4_dissolveRefusal ∈ AW := aw_of (aw_4 _ (List.mem_of_getElem? (i := 239) rfl)) rfl
theorem qw_5_0 : Cond.code yX4_dissolveRefusal cX4_dissolveRefusal 2 (some .int) ∈ AW := aw_of (aw_5 _ (List.mem_of_getElem? (i := 0) rfl)) rfl
theorem qw_5_1 : Cond.methodLink RL 176 yX4_matingMove ∈ AW := aw_of (aw_5 _ (List.mem_of_getElem? (i := 1) rfl)) rfl
theorem qw_5_2 : Cond.instanceMethod yX4_matingMove ∈ AW := aw_of (aw_5 _ (List.mem_of_getElem? (i := 2) rfl)) rfl
theorem qw_5_3 : Cond.selects RX4 yX4_matingMove yX4_matingMove ∈ AW := aw_of (aw_5 _ (List.mem_of_getElem? (i := 3) rfl)) rfl
theorem qw_5_4 : Cond.code yX4_matingMove cX4_matingMove 2 (some .int) ∈ AW := aw_of (aw_5 _ (List.mem_of_getElem? (i := 4) rfl)) rfl
theorem qw_5_5 : Cond.methodLink RL 179 yX4_countSequences ∈ AW := aw_of (aw_5 _ (List.mem_of_getElem? (i := 5) rfl)) rfl
theorem qw_5_6 : Cond.instanceMethod yX4_countSequences ∈ AW := aw_of (aw_5 _ (List.mem_of_getElem? (i := 6) rfl)) rfl
theorem qw_5_7 : Cond.selects RX4 yX4_countSequences yX4_countSequences ∈ AW := aw_of (aw_5 _ (List.mem_of_getElem? (i := 7) rfl)) rfl
theorem qw_5_8 : Cond.code yX4_countSequences cX4_countSequences 4 (some .int) ∈ AW := aw_of (aw_5 _ (List.mem_of_getElem? (i := 8) rfl)) rfl
theorem qw_5_9 : Cond.methodLink RL 182 yX4_move ∈ AW := aw_of (aw_5 _ (List.mem_of_getElem? (i := 9) rfl)) rfl
theorem qw_5_10 : Cond.instanceMethod yX4_move ∈ AW := aw_of (aw_5 _ (List.mem_of_getElem? (i := 10) rfl)) rfl
theorem qw_5_11 : Cond.selects RX4 yX4_move yX4_move ∈ AW := aw_of (aw_5 _ (List.mem_of_getElem? (i := 11) rfl)) rfl
theorem qw_5_12 : Cond.code yX4_move cX4_move 4 (some .int) ∈ AW := aw_of (aw_5 _ (List.mem_of_getElem? (i := 12) rfl)) rfl
theorem qw_5_13 : Cond.methodLink RL 185 yX4_bond ∈ AW := aw_of (aw_5 _ (List.mem_of_getElem? (i := 13) rfl)) rfl
theorem qw_5_14 : Cond.instanceMethod yX4_bond ∈ AW := aw_of (aw_5 _ (List.mem_of_getElem? (i := 14) rfl)) rfl
theorem qw_5_15 : Cond.selects RX4 yX4_bond yX4_bond ∈ AW := aw_of (aw_5 _ (List.mem_of_getElem? (i := 15) rfl)) rfl
theorem qw_5_16 : Cond.code yX4_bond cX4_bond 3 (some .int) ∈ AW := aw_of (aw_5 _ (List.mem_of_getElem? (i := 16) rfl)) rfl
theorem qw_5_17 : Cond.methodLink RX4 193 yX4_endCalmly ∈ AW := aw_of (aw_5 _ (List.mem_of_getElem? (i := 17) rfl)) rfl
theorem qw_5_19 : Cond.instanceMethod yX4_endCalmly ∈ AW := aw_of (aw_5 _ (List.mem_of_getElem? (i := 19) rfl)) rfl
theorem qw_5_20 : Cond.code yX4_endCalmly cX4_endCalmly 1 none ∈ AW := aw_of (aw_5 _ (List.mem_of_getElem? (i := 20) rfl)) rfl
theorem qw_5_21 : Cond.methodLink RL 188 yX4_dissolve ∈ AW := aw_of (aw_5 _ (List.mem_of_getElem? (i := 21) rfl)) rfl
theorem qw_5_22 : Cond.instanceMethod yX4_dissolve ∈ AW := aw_of (aw_5 _ (List.mem_of_getElem? (i := 22) rfl)) rfl
theorem qw_5_23 : Cond.selects RX4 yX4_dissolve yX4_dissolve ∈ AW := aw_of (aw_5 _ (List.mem_of_getElem? (i := 23) rfl)) rfl
theorem qw_5_24 : Cond.code yX4_dissolve cX4_dissolve 3 (some .int) ∈ AW := aw_of (aw_5 _ (List.mem_of_getElem? (i := 24) rfl)) rfl
theorem qw_5_25 : Cond.methodLink RL 192 yX4_takeBack ∈ AW := aw_of (aw_5 _ (List.mem_of_getElem? (i := 25) rfl)) rfl
theorem qw_5_26 : Cond.instanceMethod yX4_takeBack ∈ AW := aw_of (aw_5 _ (List.mem_of_getElem? (i := 26) rfl)) rfl
theorem qw_5_27 : Cond.selects RX4 yX4_takeBack yX4_takeBack ∈ AW := aw_of (aw_5 _ (List.mem_of_getElem? (i := 27) rfl)) rfl
theorem qw_5_28 : Cond.code yX4_takeBack cX4_takeBack 1 (some .int) ∈ AW := aw_of (aw_5 _ (List.mem_of_getElem? (i := 28) rfl)) rfl
theorem qw_5_29 : Cond.methodLink RL 196 yX4_actionCount ∈ AW := aw_of (aw_5 _ (List.mem_of_getElem? (i := 29) rfl)) rfl
theorem qw_5_30 : Cond.instanceMethod yX4_actionCount ∈ AW := aw_of (aw_5 _ (List.mem_of_getElem? (i := 30) rfl)) rfl
theorem qw_5_31 : Cond.selects RX4 yX4_actionCount yX4_actionCount ∈ AW := aw_of (aw_5 _ (List.mem_of_getElem? (i := 31) rfl)) rfl
theorem qw_5_32 : Cond.code yX4_actionCount cX4_actionCount 1 (some .int) ∈ AW := aw_of (aw_5 _ (List.mem_of_getElem? (i := 32) rfl)) rfl
theorem qw_5_33 : Cond.methodLink RL 200 yX4_outcome ∈ AW := aw_of (aw_5 _ (List.mem_of_getElem? (i := 33) rfl)) rfl
theorem qw_5_34 : Cond.instanceMethod yX4_outcome ∈ AW := aw_of (aw_5 _ (List.mem_of_getElem? (i := 34) rfl)) rfl
theorem qw_5_35 : Cond.selects RX4 yX4_outcome yX4_outcome ∈ AW := aw_of (aw_5 _ (List.mem_of_getElem? (i := 35) rfl)) rfl
theorem qw_5_36 : Cond.code yX4_outcome cX4_outcome 1 (some .int) ∈ AW := aw_of (aw_5 _ (List.mem_of_getElem? (i := 36) rfl)) rfl
theorem qw_5_37 : Cond.methodLink RL 204 yX4_occurrences ∈ AW := aw_of (aw_5 _ (List.mem_of_getElem? (i := 37) rfl)) rfl
theorem qw_5_38 : Cond.instanceMethod yX4_occurrences ∈ AW := aw_of (aw_5 _ (List.mem_of_getElem? (i := 38) rfl)) rfl
theorem qw_5_39 : Cond.selects RX4 yX4_occurrences yX4_occurrences ∈ AW := aw_of (aw_5 _ (List.mem_of_getElem? (i := 39) rfl)) rfl
theorem qw_5_40 : Cond.code yX4_occurrences cX4_occurrences 1 (some .int) ∈ AW := aw_of (aw_5 _ (List.mem_of_getElem? (i := 40) rfl)) rfl
theorem qw_5_41 : Cond.methodLink RL 208 yX4_quietActions ∈ AW := aw_of (aw_5 _ (List.mem_of_getElem? (i := 41) rfl)) rfl
theorem qw_5_42 : Cond.instanceMethod yX4_quietActions ∈ AW := aw_of (aw_5 _ (List.mem_of_getElem? (i := 42) rfl)) rfl
theorem qw_5_43 : Cond.selects RX4 yX4_quietActions yX4_quietActions ∈ AW := aw_of (aw_5 _ (List.mem_of_getElem? (i := 43) rfl)) rfl
theorem qw_5_44 : Cond.code yX4_quietActions cX4_quietActions 1 (some .int) ∈ AW := aw_of (aw_5 _ (List.mem_of_getElem? (i := 44) rfl)) rfl
theorem qw_5_45 : Cond.methodLink RL 211 yX4_capturedCount ∈ AW := aw_of (aw_5 _ (List.mem_of_getElem? (i := 45) rfl)) rfl
theorem qw_5_46 : Cond.instanceMethod yX4_capturedCount ∈ AW := aw_of (aw_5 _ (List.mem_of_getElem? (i := 46) rfl)) rfl
theorem qw_5_47 : Cond.selects RX4 yX4_capturedCount yX4_capturedCount ∈ AW := aw_of (aw_5 _ (List.mem_of_getElem? (i := 47) rfl)) rfl
theorem qw_5_48 : Cond.code yX4_capturedCount cX4_capturedCount 3 (some .int) ∈ AW := aw_of (aw_5 _ (List.mem_of_getElem? (i := 48) rfl)) rfl
theorem qw_5_49 : Cond.methodLink RL 216 yX4_strengthOf ∈ AW := aw_of (aw_5 _ (List.mem_of_getElem? (i := 49) rfl)) rfl
theorem qw_5_50 : Cond.instanceMethod yX4_strengthOf ∈ AW := aw_of (aw_5 _ (List.mem_of_getElem? (i := 50) rfl)) rfl
theorem qw_5_51 : Cond.selects RX4 yX4_strengthOf yX4_strengthOf ∈ AW := aw_of (aw_5 _ (List.mem_of_getElem? (i := 51) rfl)) rfl
theorem qw_5_52 : Cond.code yX4_strengthOf cX4_strengthOf 2 (some .float) ∈ AW := aw_of (aw_5 _ (List.mem_of_getElem? (i := 52) rfl)) rfl
theorem qw_5_53 : Cond.methodLink RX4 212 yX4_strength ∈ AW := aw_of (aw_5 _ (List.mem_of_getElem? (i := 53) rfl)) rfl
theorem qw_5_55 : Cond.instanceMethod yX4_strength ∈ AW := aw_of (aw_5 _ (List.mem_of_getElem? (i := 55) rfl)) rfl
theorem qw_5_56 : Cond.code yX4_strength cX4_strength 4 (some .float) ∈ AW := aw_of (aw_5 _ (List.mem_of_getElem? (i := 56) rfl)) rfl
theorem qw_5_57 : Cond.methodLink RX4 201 yX4_weight ∈ AW := aw_of (aw_5 _ (List.mem_of_getElem? (i := 57) rfl)) rfl
theorem qw_5_59 : Cond.instanceMethod yX4_weight ∈ AW := aw_of (aw_5 _ (List.mem_of_getElem? (i := 59) rfl)) rfl
theorem qw_5_60 : Cond.code yX4_weight cX4_weight 2 (some .float) ∈ AW := aw_of (aw_5 _ (List.mem_of_getElem? (i := 60) rfl)) rfl
theorem qw_5_61 : Cond.constantFloat RX4 196 1092091904 ∈ AW := aw_of (aw_5 _ (List.mem_of_getElem? (i := 61) rfl)) rfl
theorem qw_5_62 : Cond.constantFloat RX4 197 1084227584 ∈ AW := aw_of (aw_5 _ (List.mem_of_getElem? (i := 62) rfl)) rfl
theorem qw_5_63 : Cond.constantFloat RX4 198 1079194419 ∈ AW := aw_of (aw_5 _ (List.mem_of_getElem? (i := 63) rfl)) rfl
theorem qw_5_64 : Cond.constantFloat RX4 199 1078774989 ∈ AW := aw_of (aw_5 _ (List.mem_of_getElem? (i := 64) rfl)) rfl
theorem qw_5_65 : Cond.constantFloat RX4 200 1080872141 ∈ AW := aw_of (aw_5 _ (List.mem_of_getElem? (i := 65) rfl)) rfl
theorem qw_5_66 : Cond.constantFloat RX4 205 1036831949 ∈ AW := aw_of (aw_5 _ (List.mem_of_getElem? (i := 66) rfl)) rfl
theorem qw_5_67 : Cond.methodLink RX4 206 yJ13_bitCount_95d88 ∈ AW := aw_of (aw_5 _ (List.mem_of_getElem? (i := 67) rfl)) rfl
theorem qw_5_68 : Cond.methodLink RL 220 yX4_strengthBits ∈ AW := aw_of (aw_5 _ (List.mem_of_getElem? (i := 68) rfl)) rfl
theorem qw_5_69 : Cond.instanceMethod yX4_strengthBits ∈ AW := aw_of (aw_5 _ (List.mem_of_getElem? (i := 69) rfl)) rfl
theorem qw_5_70 : Cond.selects RX4 yX4_strengthBits yX4_strengthBits ∈ AW := aw_of (aw_5 _ (List.mem_of_getElem? (i := 70) rfl)) rfl
theorem qw_5_71 : Cond.code yX4_strengthBits cX4_strengthBits 2 (some .int) ∈ AW := aw_of (aw_5 _ (List.mem_of_getElem? (i := 71) rfl)) rfl
theorem qw_5_72 : Cond.methodLink RX4 216 yJxf58ca_floatToIntBits_5c35a ∈ AW := aw_of (aw_5 _ (List.mem_of_getElem? (i := 72) rfl)) rfl
theorem qw_5_73 : Cond.static yJxf58ca_floatToIntBits_5c35a ∈ AW := aw_of (aw_5 _ (List.mem_of_getElem? (i := 73) rfl)) rfl
theorem qw_5_74 : Cond.code yJxf58ca_floatToIntBits_5c35a cJxf58ca_floatToIntBits_5c35a 1 (some .int) ∈ AW := aw_of (aw_5 _ (List.mem_of_getElem? (i := 74) rfl)) rfl
theorem qw_5_75 : Cond.methodLink RJxf58ca 59 yJxf58ca_isNaN_12338 ∈ AW := aw_of (aw_5 _ (List.mem_of_getElem? (i := 75) rfl)) rfl
theorem qw_5_76 : Cond.static yJxf58ca_isNaN_12338 ∈ AW := aw_of (aw_5 _ (List.mem_of_getElem? (i := 76) rfl)) rfl
theorem qw_5_77 : Cond.code yJxf58ca_isNaN_12338 cJxf58ca_isNaN_12338 1 (some .boolean) ∈ AW := aw_of (aw_5 _ (List.mem_of_getElem? (i := 77) rfl)) rfl
theorem qw_5_78 : Cond.methodLink RJxf58ca 74 ⟨RJxf58ca, "floatToRawIntBits", "(F)I"⟩ ∈ AW := aw_of (aw_5 _ (List.mem_of_getElem? (i := 78) rfl)) rfl
theorem qw_5_79 : Cond.static ⟨RJxf58ca, "floatToRawIntBits", "(F)I"⟩ ∈ AW := aw_of (aw_5 _ (List.mem_of_getElem? (i := 79) rfl)) rfl
theorem qw_5_80 : Cond.native ⟨RJxf58ca, "floatToRawIntBits", "(F)I"⟩ ∈ AW := aw_of (aw_5 _ (List.mem_of_getElem? (i := 80) rfl)) rfl
theorem qw_5_81 : Cond.constant RJxf58ca 77 2143289344 ∈ AW := aw_of (aw_5 _ (List.mem_of_getElem? (i := 81) rfl)) rfl
theorem qw_5_82 : Cond.methodLink RL 225 yX4_balance ∈ AW := aw_of (aw_5 _ (List.mem_of_getElem? (i := 82) rfl)) rfl
theorem qw_5_83 : Cond.instanceMethod yX4_balance ∈ AW := aw_of (aw_5 _ (List.mem_of_getElem? (i := 83) rfl)) rfl
theorem qw_5_84 : Cond.selects RX4 yX4_balance yX4_balance ∈ AW := aw_of (aw_5 _ (List.mem_of_getElem? (i := 84) rfl)) rfl
theorem qw_5_85 : Cond.code yX4_balance cX4_balance 1 (some .double) ∈ AW := aw_of (aw_5 _ (List.mem_of_getElem? (i := 85) rfl)) rfl
theorem qw_5_86 : Cond.sameMethod "java/lang/Throwable" "java/lang/Throwable" "fillInStackTrace" "(I)Ljava/lang/Throwable;" ∈ AW := aw_of (aw_5 _ (List.mem_of_getElem? (i := 86) rfl)) rfl
theorem inX0 : ∀ w ∈ u_ws RX0 TX0 7, w ∈ AW := by
  intro w h
  refine aw_of (List.mem_append_right _ ?_) ?_
  · revert w; decide +kernel
  · revert w; decide +kernel
theorem inX1 : ∀ w ∈ u_ws RX1 TX1 5, w ∈ AW := by
  intro w h
  refine aw_of (List.mem_append_right _ ?_) ?_
  · revert w; decide +kernel
  · revert w; decide +kernel
theorem inX2 : ∀ w ∈ u_ws RX2 TX2 0, w ∈ AW := by
  intro w h
  refine aw_of (List.mem_append_right _ ?_) ?_
  · revert w; decide +kernel
  · revert w; decide +kernel
theorem inX3 : ∀ w ∈ u_ws RX3 TX3 4, w ∈ AW := by
  intro w h
  refine aw_of (List.mem_append_right _ ?_) ?_
  · revert w; decide +kernel
  · revert w; decide +kernel
theorem inX4 : ∀ w ∈ u_ws RX4 TX4 11, w ∈ AW := by
  intro w h
  refine aw_of (List.mem_append_right _ ?_) ?_
  · revert w; decide +kernel
  · revert w; decide +kernel
