theorem ic_m8 : Int32.ofInt (-8) = (-8) := by decide
theorem ic_m1 : Int32.ofInt (-1) = (-1) := by decide
theorem ic_0 : Int32.ofInt 0 = 0 := by decide
theorem ic_1 : Int32.ofInt 1 = 1 := by decide
theorem ic_2 : Int32.ofInt 2 = 2 := by decide
theorem ic_3 : Int32.ofInt 3 = 3 := by decide
theorem ic_4 : Int32.ofInt 4 = 4 := by decide
theorem ic_5 : Int32.ofInt 5 = 5 := by decide
theorem ic_6 : Int32.ofInt 6 = 6 := by decide
theorem bi_m6 : (Int8.ofInt (-6)).toInt32 = (-6) := by decide
theorem bi_m5 : (Int8.ofInt (-5)).toInt32 = (-5) := by decide
theorem bi_m3 : (Int8.ofInt (-3)).toInt32 = (-3) := by decide
theorem bi_m2 : (Int8.ofInt (-2)).toInt32 = (-2) := by decide
theorem bi_6 : (Int8.ofInt 6).toInt32 = 6 := by decide
theorem bi_7 : (Int8.ofInt 7).toInt32 = 7 := by decide
theorem bi_8 : (Int8.ofInt 8).toInt32 = 8 := by decide
theorem bi_9 : (Int8.ofInt 9).toInt32 = 9 := by decide
theorem bi_10 : (Int8.ofInt 10).toInt32 = 10 := by decide
theorem bi_11 : (Int8.ofInt 11).toInt32 = 11 := by decide
theorem bi_12 : (Int8.ofInt 12).toInt32 = 12 := by decide
theorem bi_13 : (Int8.ofInt 13).toInt32 = 13 := by decide
theorem bi_14 : (Int8.ofInt 14).toInt32 = 14 := by decide
theorem bi_15 : (Int8.ofInt 15).toInt32 = 15 := by decide
theorem bi_16 : (Int8.ofInt 16).toInt32 = 16 := by decide
theorem bi_17 : (Int8.ofInt 17).toInt32 = 17 := by decide
theorem bi_20 : (Int8.ofInt 20).toInt32 = 20 := by decide
theorem bi_21 : (Int8.ofInt 21).toInt32 = 21 := by decide
theorem bi_22 : (Int8.ofInt 22).toInt32 = 22 := by decide
theorem bi_23 : (Int8.ofInt 23).toInt32 = 23 := by decide
theorem bi_24 : (Int8.ofInt 24).toInt32 = 24 := by decide
theorem bi_25 : (Int8.ofInt 25).toInt32 = 25 := by decide
theorem bi_26 : (Int8.ofInt 26).toInt32 = 26 := by decide
theorem bi_27 : (Int8.ofInt 27).toInt32 = 27 := by decide
theorem bi_28 : (Int8.ofInt 28).toInt32 = 28 := by decide
theorem bi_29 : (Int8.ofInt 29).toInt32 = 29 := by decide
theorem bi_30 : (Int8.ofInt 30).toInt32 = 30 := by decide
theorem bi_31 : (Int8.ofInt 31).toInt32 = 31 := by decide
theorem bi_32 : (Int8.ofInt 32).toInt32 = 32 := by decide
theorem bi_37 : (Int8.ofInt 37).toInt32 = 37 := by decide
theorem bi_40 : (Int8.ofInt 40).toInt32 = 40 := by decide
theorem bi_41 : (Int8.ofInt 41).toInt32 = 41 := by decide
theorem bi_42 : (Int8.ofInt 42).toInt32 = 42 := by decide
theorem bi_43 : (Int8.ofInt 43).toInt32 = 43 := by decide
theorem bi_45 : (Int8.ofInt 45).toInt32 = 45 := by decide
theorem bi_47 : (Int8.ofInt 47).toInt32 = 47 := by decide
theorem bi_48 : (Int8.ofInt 48).toInt32 = 48 := by decide
theorem bi_50 : (Int8.ofInt 50).toInt32 = 50 := by decide
theorem bi_52 : (Int8.ofInt 52).toInt32 = 52 := by decide
theorem bi_57 : (Int8.ofInt 57).toInt32 = 57 := by decide
theorem bi_59 : (Int8.ofInt 59).toInt32 = 59 := by decide
theorem bi_60 : (Int8.ofInt 60).toInt32 = 60 := by decide
theorem bi_61 : (Int8.ofInt 61).toInt32 = 61 := by decide
theorem bi_62 : (Int8.ofInt 62).toInt32 = 62 := by decide
theorem bi_63 : (Int8.ofInt 63).toInt32 = 63 := by decide
theorem bi_64 : (Int8.ofInt 64).toInt32 = 64 := by decide
theorem bi_78 : (Int8.ofInt 78).toInt32 = 78 := by decide
theorem bi_91 : (Int8.ofInt 91).toInt32 = 91 := by decide
theorem bi_93 : (Int8.ofInt 93).toInt32 = 93 := by decide
theorem bi_96 : (Int8.ofInt 96).toInt32 = 96 := by decide
theorem bi_97 : (Int8.ofInt 97).toInt32 = 97 := by decide
theorem bi_98 : (Int8.ofInt 98).toInt32 = 98 := by decide
theorem bi_99 : (Int8.ofInt 99).toInt32 = 99 := by decide
theorem bi_100 : (Int8.ofInt 100).toInt32 = 100 := by decide
theorem bi_120 : (Int8.ofInt 120).toInt32 = 120 := by decide
theorem bi_121 : (Int8.ofInt 121).toInt32 = 121 := by decide
theorem bi_122 : (Int8.ofInt 122).toInt32 = 122 := by decide
theorem bi_126 : (Int8.ofInt 126).toInt32 = 126 := by decide
theorem si_132 : (Int16.ofInt 132).toInt32 = 132 := by decide
theorem si_138 : (Int16.ofInt 138).toInt32 = 138 := by decide
theorem si_146 : (Int16.ofInt 146).toInt32 = 146 := by decide
theorem si_154 : (Int16.ofInt 154).toInt32 = 154 := by decide
theorem si_162 : (Int16.ofInt 162).toInt32 = 162 := by decide
theorem si_170 : (Int16.ofInt 170).toInt32 = 170 := by decide
theorem si_185 : (Int16.ofInt 185).toInt32 = 185 := by decide
theorem si_189 : (Int16.ofInt 189).toInt32 = 189 := by decide
theorem si_255 : (Int16.ofInt 255).toInt32 = 255 := by decide
theorem si_256 : (Int16.ofInt 256).toInt32 = 256 := by decide
theorem si_400 : (Int16.ofInt 400).toInt32 = 400 := by decide
theorem si_900 : (Int16.ofInt 900).toInt32 = 900 := by decide
theorem si_999 : (Int16.ofInt 999).toInt32 = 999 := by decide
theorem si_1000 : (Int16.ofInt 1000).toInt32 = 1000 := by decide
theorem si_1815 : (Int16.ofInt 1815).toInt32 = 1815 := by decide
theorem si_1936 : (Int16.ofInt 1936).toInt32 = 1936 := by decide
theorem si_2048 : (Int16.ofInt 2048).toInt32 = 2048 := by decide
theorem si_2178 : (Int16.ofInt 2178).toInt32 = 2178 := by decide
theorem si_5585 : (Int16.ofInt 5585).toInt32 = 5585 := by decide
theorem si_10000 : (Int16.ofInt 10000).toInt32 = 10000 := by decide
theorem si_11170 : (Int16.ofInt 11170).toInt32 = 11170 := by decide
theorem lc_0 : Int64.ofNat (0 : Fin 2).val = 0 := by decide
theorem lc_1 : Int64.ofNat (1 : Fin 2).val = 1 := by decide
theorem hd_X0_init : yX0_init.cls = RX0 ∧ (yX0_init.cls ≠ "java/lang/invoke/MethodHandle" ∧ yX0_init.cls ≠ "java/lang/invoke/VarHandle" ∧ (parseMethodDescriptor yX0_init.desc).map (fun d => d.parameters.length) = some 0) := by decide +kernel
theorem hd_X0_tiring : yX0_tiring.cls = RX0 ∧ (yX0_tiring.cls ≠ "java/lang/invoke/MethodHandle" ∧ yX0_tiring.cls ≠ "java/lang/invoke/VarHandle" ∧ (parseMethodDescriptor yX0_tiring.desc).map (fun d => d.parameters.length) = some 3) := by decide +kernel
theorem hd_X0_price : yX0_price.cls = RX0 ∧ (yX0_price.cls ≠ "java/lang/invoke/MethodHandle" ∧ yX0_price.cls ≠ "java/lang/invoke/VarHandle" ∧ (parseMethodDescriptor yX0_price.desc).map (fun d => d.parameters.length) = some 4) := by decide +kernel
theorem hd_X0_worthIn : yX0_worthIn.cls = RX0 ∧ (yX0_worthIn.cls ≠ "java/lang/invoke/MethodHandle" ∧ yX0_worthIn.cls ≠ "java/lang/invoke/VarHandle" ∧ (parseMethodDescriptor yX0_worthIn.desc).map (fun d => d.parameters.length) = some 3) := by decide +kernel
theorem hd_X0_opensTo : yX0_opensTo.cls = RX0 ∧ (yX0_opensTo.cls ≠ "java/lang/invoke/MethodHandle" ∧ yX0_opensTo.cls ≠ "java/lang/invoke/VarHandle" ∧ (parseMethodDescriptor yX0_opensTo.desc).map (fun d => d.parameters.length) = some 3) := by decide +kernel
theorem hd_X0_isBarred : yX0_isBarred.cls = RX0 ∧ (yX0_isBarred.cls ≠ "java/lang/invoke/MethodHandle" ∧ yX0_isBarred.cls ≠ "java/lang/invoke/VarHandle" ∧ (parseMethodDescriptor yX0_isBarred.desc).map (fun d => d.parameters.length) = some 4) := by decide +kernel
theorem hd_X0_setWords : yX0_setWords.cls = RX0 ∧ (yX0_setWords.cls ≠ "java/lang/invoke/MethodHandle" ∧ yX0_setWords.cls ≠ "java/lang/invoke/VarHandle" ∧ (parseMethodDescriptor yX0_setWords.desc).map (fun d => d.parameters.length) = some 4) := by decide +kernel
theorem hd_X0_lastTold : yX0_lastTold.cls = RX0 ∧ (yX0_lastTold.cls ≠ "java/lang/invoke/MethodHandle" ∧ yX0_lastTold.cls ≠ "java/lang/invoke/VarHandle" ∧ (parseMethodDescriptor yX0_lastTold.desc).map (fun d => d.parameters.length) = some 2) := by decide +kernel
theorem hd_X0_someHolds : yX0_someHolds.cls = RX0 ∧ (yX0_someHolds.cls ≠ "java/lang/invoke/MethodHandle" ∧ yX0_someHolds.cls ≠ "java/lang/invoke/VarHandle" ∧ (parseMethodDescriptor yX0_someHolds.desc).map (fun d => d.parameters.length) = some 2) := by decide +kernel
theorem hd_X1_init : yX1_init.cls = RX1 ∧ (yX1_init.cls ≠ "java/lang/invoke/MethodHandle" ∧ yX1_init.cls ≠ "java/lang/invoke/VarHandle" ∧ (parseMethodDescriptor yX1_init.desc).map (fun d => d.parameters.length) = some 1) := by decide +kernel
theorem hd_X1_ringBell : yX1_ringBell.cls = RX1 ∧ (yX1_ringBell.cls ≠ "java/lang/invoke/MethodHandle" ∧ yX1_ringBell.cls ≠ "java/lang/invoke/VarHandle" ∧ (parseMethodDescriptor yX1_ringBell.desc).map (fun d => d.parameters.length) = some 4) := by decide +kernel
theorem hd_X1_sellRing : yX1_sellRing.cls = RX1 ∧ (yX1_sellRing.cls ≠ "java/lang/invoke/MethodHandle" ∧ yX1_sellRing.cls ≠ "java/lang/invoke/VarHandle" ∧ (parseMethodDescriptor yX1_sellRing.desc).map (fun d => d.parameters.length) = some 5) := by decide +kernel
theorem hd_X1_canBuy : yX1_canBuy.cls = RX1 ∧ (yX1_canBuy.cls ≠ "java/lang/invoke/MethodHandle" ∧ yX1_canBuy.cls ≠ "java/lang/invoke/VarHandle" ∧ (parseMethodDescriptor yX1_canBuy.desc).map (fun d => d.parameters.length) = some 4) := by decide +kernel
theorem hd_X1_bury : yX1_bury.cls = RX1 ∧ (yX1_bury.cls ≠ "java/lang/invoke/MethodHandle" ∧ yX1_bury.cls ≠ "java/lang/invoke/VarHandle" ∧ (parseMethodDescriptor yX1_bury.desc).map (fun d => d.parameters.length) = some 3) := by decide +kernel
theorem hd_X1_divide : yX1_divide.cls = RX1 ∧ (yX1_divide.cls ≠ "java/lang/invoke/MethodHandle" ∧ yX1_divide.cls ≠ "java/lang/invoke/VarHandle" ∧ (parseMethodDescriptor yX1_divide.desc).map (fun d => d.parameters.length) = some 5) := by decide +kernel
theorem hd_X1_turnYear : yX1_turnYear.cls = RX1 ∧ (yX1_turnYear.cls ≠ "java/lang/invoke/MethodHandle" ∧ yX1_turnYear.cls ≠ "java/lang/invoke/VarHandle" ∧ (parseMethodDescriptor yX1_turnYear.desc).map (fun d => d.parameters.length) = some 2) := by decide +kernel
theorem hd_X1_note : yX1_note.cls = RX1 ∧ (yX1_note.cls ≠ "java/lang/invoke/MethodHandle" ∧ yX1_note.cls ≠ "java/lang/invoke/VarHandle" ∧ (parseMethodDescriptor yX1_note.desc).map (fun d => d.parameters.length) = some 3) := by decide +kernel
theorem hd_X1_run : yX1_run.cls = RX1 ∧ (yX1_run.cls ≠ "java/lang/invoke/MethodHandle" ∧ yX1_run.cls ≠ "java/lang/invoke/VarHandle" ∧ (parseMethodDescriptor yX1_run.desc).map (fun d => d.parameters.length) = some 3) := by decide +kernel
theorem hd_X1_setWords : yX1_setWords.cls = RX1 ∧ (yX1_setWords.cls ≠ "java/lang/invoke/MethodHandle" ∧ yX1_setWords.cls ≠ "java/lang/invoke/VarHandle" ∧ (parseMethodDescriptor yX1_setWords.desc).map (fun d => d.parameters.length) = some 1) := by decide +kernel
theorem hd_X1_live : yX1_live.cls = RX1 ∧ (yX1_live.cls ≠ "java/lang/invoke/MethodHandle" ∧ yX1_live.cls ≠ "java/lang/invoke/VarHandle" ∧ (parseMethodDescriptor yX1_live.desc).map (fun d => d.parameters.length) = some 3) := by decide +kernel
theorem hd_X1_draw : yX1_draw.cls = RX1 ∧ (yX1_draw.cls ≠ "java/lang/invoke/MethodHandle" ∧ yX1_draw.cls ≠ "java/lang/invoke/VarHandle" ∧ (parseMethodDescriptor yX1_draw.desc).map (fun d => d.parameters.length) = some 1) := by decide +kernel
theorem hd_X2_init : yX2_init.cls = RX2 ∧ (yX2_init.cls ≠ "java/lang/invoke/MethodHandle" ∧ yX2_init.cls ≠ "java/lang/invoke/VarHandle" ∧ (parseMethodDescriptor yX2_init.desc).map (fun d => d.parameters.length) = some 0) := by decide +kernel
theorem hd_X2_copyFrom : yX2_copyFrom.cls = RX2 ∧ (yX2_copyFrom.cls ≠ "java/lang/invoke/MethodHandle" ∧ yX2_copyFrom.cls ≠ "java/lang/invoke/VarHandle" ∧ (parseMethodDescriptor yX2_copyFrom.desc).map (fun d => d.parameters.length) = some 1) := by decide +kernel
theorem hd_X3_init : yX3_init.cls = RX3 ∧ (yX3_init.cls ≠ "java/lang/invoke/MethodHandle" ∧ yX3_init.cls ≠ "java/lang/invoke/VarHandle" ∧ (parseMethodDescriptor yX3_init.desc).map (fun d => d.parameters.length) = some 0) := by decide +kernel
theorem hd_X3_push : yX3_push.cls = RX3 ∧ (yX3_push.cls ≠ "java/lang/invoke/MethodHandle" ∧ yX3_push.cls ≠ "java/lang/invoke/VarHandle" ∧ (parseMethodDescriptor yX3_push.desc).map (fun d => d.parameters.length) = some 2) := by decide +kernel
theorem hd_X3_takeBack : yX3_takeBack.cls = RX3 ∧ (yX3_takeBack.cls ≠ "java/lang/invoke/MethodHandle" ∧ yX3_takeBack.cls ≠ "java/lang/invoke/VarHandle" ∧ (parseMethodDescriptor yX3_takeBack.desc).map (fun d => d.parameters.length) = some 1) := by decide +kernel
theorem hd_X3_clear : yX3_clear.cls = RX3 ∧ (yX3_clear.cls ≠ "java/lang/invoke/MethodHandle" ∧ yX3_clear.cls ≠ "java/lang/invoke/VarHandle" ∧ (parseMethodDescriptor yX3_clear.desc).map (fun d => d.parameters.length) = some 0) := by decide +kernel
theorem hd_X4_init : yX4_init.cls = RX4 ∧ (yX4_init.cls ≠ "java/lang/invoke/MethodHandle" ∧ yX4_init.cls ≠ "java/lang/invoke/VarHandle" ∧ (parseMethodDescriptor yX4_init.desc).map (fun d => d.parameters.length) = some 0) := by decide +kernel
theorem hd_X4_findVisits : yX4_findVisits.cls = RX4 ∧ (yX4_findVisits.cls ≠ "java/lang/invoke/MethodHandle" ∧ yX4_findVisits.cls ≠ "java/lang/invoke/VarHandle" ∧ (parseMethodDescriptor yX4_findVisits.desc).map (fun d => d.parameters.length) = some 3) := by decide +kernel
theorem hd_X4_walk : yX4_walk.cls = RX4 ∧ (yX4_walk.cls ≠ "java/lang/invoke/MethodHandle" ∧ yX4_walk.cls ≠ "java/lang/invoke/VarHandle" ∧ (parseMethodDescriptor yX4_walk.desc).map (fun d => d.parameters.length) = some 6) := by decide +kernel
theorem hd_X4_findExchange : yX4_findExchange.cls = RX4 ∧ (yX4_findExchange.cls ≠ "java/lang/invoke/MethodHandle" ∧ yX4_findExchange.cls ≠ "java/lang/invoke/VarHandle" ∧ (parseMethodDescriptor yX4_findExchange.desc).map (fun d => d.parameters.length) = some 1) := by decide +kernel
theorem hd_X4_firstBestGiver : yX4_firstBestGiver.cls = RX4 ∧ (yX4_firstBestGiver.cls ≠ "java/lang/invoke/MethodHandle" ∧ yX4_firstBestGiver.cls ≠ "java/lang/invoke/VarHandle" ∧ (parseMethodDescriptor yX4_firstBestGiver.desc).map (fun d => d.parameters.length) = some 3) := by decide +kernel
theorem hd_X4_mostIfGives : yX4_mostIfGives.cls = RX4 ∧ (yX4_mostIfGives.cls ≠ "java/lang/invoke/MethodHandle" ∧ yX4_mostIfGives.cls ≠ "java/lang/invoke/VarHandle" ∧ (parseMethodDescriptor yX4_mostIfGives.desc).map (fun d => d.parameters.length) = some 4) := by decide +kernel
theorem hd_X4_canGive : yX4_canGive.cls = RX4 ∧ (yX4_canGive.cls ≠ "java/lang/invoke/MethodHandle" ∧ yX4_canGive.cls ≠ "java/lang/invoke/VarHandle" ∧ (parseMethodDescriptor yX4_canGive.desc).map (fun d => d.parameters.length) = some 3) := by decide +kernel
theorem hd_X4_findChain : yX4_findChain.cls = RX4 ∧ (yX4_findChain.cls ≠ "java/lang/invoke/MethodHandle" ∧ yX4_findChain.cls ≠ "java/lang/invoke/VarHandle" ∧ (parseMethodDescriptor yX4_findChain.desc).map (fun d => d.parameters.length) = some 3) := by decide +kernel
theorem hd_X4_toGoBy : yX4_toGoBy.cls = RX4 ∧ (yX4_toGoBy.cls ≠ "java/lang/invoke/MethodHandle" ∧ yX4_toGoBy.cls ≠ "java/lang/invoke/VarHandle" ∧ (parseMethodDescriptor yX4_toGoBy.desc).map (fun d => d.parameters.length) = some 2) := by decide +kernel
theorem hd_X4_firstBestBuyer : yX4_firstBestBuyer.cls = RX4 ∧ (yX4_firstBestBuyer.cls ≠ "java/lang/invoke/MethodHandle" ∧ yX4_firstBestBuyer.cls ≠ "java/lang/invoke/VarHandle" ∧ (parseMethodDescriptor yX4_firstBestBuyer.desc).map (fun d => d.parameters.length) = some 2) := by decide +kernel
theorem hd_X5_init : yX5_init.cls = RX5 ∧ (yX5_init.cls ≠ "java/lang/invoke/MethodHandle" ∧ yX5_init.cls ≠ "java/lang/invoke/VarHandle" ∧ (parseMethodDescriptor yX5_init.desc).map (fun d => d.parameters.length) = some 1) := by decide +kernel
theorem hd_X5_read : yX5_read.cls = RX5 ∧ (yX5_read.cls ≠ "java/lang/invoke/MethodHandle" ∧ yX5_read.cls ≠ "java/lang/invoke/VarHandle" ∧ (parseMethodDescriptor yX5_read.desc).map (fun d => d.parameters.length) = some 1) := by decide +kernel
theorem hd_X5_readLawClause : yX5_readLawClause.cls = RX5 ∧ (yX5_readLawClause.cls ≠ "java/lang/invoke/MethodHandle" ∧ yX5_readLawClause.cls ≠ "java/lang/invoke/VarHandle" ∧ (parseMethodDescriptor yX5_readLawClause.desc).map (fun d => d.parameters.length) = some 0) := by decide +kernel
theorem hd_X5_lawKind : yX5_lawKind.cls = RX5 ∧ (yX5_lawKind.cls ≠ "java/lang/invoke/MethodHandle" ∧ yX5_lawKind.cls ≠ "java/lang/invoke/VarHandle" ∧ (parseMethodDescriptor yX5_lawKind.desc).map (fun d => d.parameters.length) = some 0) := by decide +kernel
theorem hd_X5_readOrderClause : yX5_readOrderClause.cls = RX5 ∧ (yX5_readOrderClause.cls ≠ "java/lang/invoke/MethodHandle" ∧ yX5_readOrderClause.cls ≠ "java/lang/invoke/VarHandle" ∧ (parseMethodDescriptor yX5_readOrderClause.desc).map (fun d => d.parameters.length) = some 0) := by decide +kernel
theorem hd_X5_readNextSum : yX5_readNextSum.cls = RX5 ∧ (yX5_readNextSum.cls ≠ "java/lang/invoke/MethodHandle" ∧ yX5_readNextSum.cls ≠ "java/lang/invoke/VarHandle" ∧ (parseMethodDescriptor yX5_readNextSum.desc).map (fun d => d.parameters.length) = some 2) := by decide +kernel
theorem hd_X5_readTimes : yX5_readTimes.cls = RX5 ∧ (yX5_readTimes.cls ≠ "java/lang/invoke/MethodHandle" ∧ yX5_readTimes.cls ≠ "java/lang/invoke/VarHandle" ∧ (parseMethodDescriptor yX5_readTimes.desc).map (fun d => d.parameters.length) = some 0) := by decide +kernel
theorem hd_X5_readIf : yX5_readIf.cls = RX5 ∧ (yX5_readIf.cls ≠ "java/lang/invoke/MethodHandle" ∧ yX5_readIf.cls ≠ "java/lang/invoke/VarHandle" ∧ (parseMethodDescriptor yX5_readIf.desc).map (fun d => d.parameters.length) = some 0) := by decide +kernel
theorem hd_X5_readTest : yX5_readTest.cls = RX5 ∧ (yX5_readTest.cls ≠ "java/lang/invoke/MethodHandle" ∧ yX5_readTest.cls ≠ "java/lang/invoke/VarHandle" ∧ (parseMethodDescriptor yX5_readTest.desc).map (fun d => d.parameters.length) = some 1) := by decide +kernel
theorem hd_X5_readBoth : yX5_readBoth.cls = RX5 ∧ (yX5_readBoth.cls ≠ "java/lang/invoke/MethodHandle" ∧ yX5_readBoth.cls ≠ "java/lang/invoke/VarHandle" ∧ (parseMethodDescriptor yX5_readBoth.desc).map (fun d => d.parameters.length) = some 1) := by decide +kernel
theorem hd_X5_readPlain : yX5_readPlain.cls = RX5 ∧ (yX5_readPlain.cls ≠ "java/lang/invoke/MethodHandle" ∧ yX5_readPlain.cls ≠ "java/lang/invoke/VarHandle" ∧ (parseMethodDescriptor yX5_readPlain.desc).map (fun d => d.parameters.length) = some 1) := by decide +kernel
theorem hd_X5_readBracketedTest : yX5_readBracketedTest.cls = RX5 ∧ (yX5_readBracketedTest.cls ≠ "java/lang/invoke/MethodHandle" ∧ yX5_readBracketedTest.cls ≠ "java/lang/invoke/VarHandle" ∧ (parseMethodDescriptor yX5_readBracketedTest.desc).map (fun d => d.parameters.length) = some 1) := by decide +kernel
theorem hd_X5_readComparison : yX5_readComparison.cls = RX5 ∧ (yX5_readComparison.cls ≠ "java/lang/invoke/MethodHandle" ∧ yX5_readComparison.cls ≠ "java/lang/invoke/VarHandle" ∧ (parseMethodDescriptor yX5_readComparison.desc).map (fun d => d.parameters.length) = some 1) := by decide +kernel
theorem hd_X5_readSum : yX5_readSum.cls = RX5 ∧ (yX5_readSum.cls ≠ "java/lang/invoke/MethodHandle" ∧ yX5_readSum.cls ≠ "java/lang/invoke/VarHandle" ∧ (parseMethodDescriptor yX5_readSum.desc).map (fun d => d.parameters.length) = some 1) := by decide +kernel
theorem hd_X5_readTerm : yX5_readTerm.cls = RX5 ∧ (yX5_readTerm.cls ≠ "java/lang/invoke/MethodHandle" ∧ yX5_readTerm.cls ≠ "java/lang/invoke/VarHandle" ∧ (parseMethodDescriptor yX5_readTerm.desc).map (fun d => d.parameters.length) = some 1) := by decide +kernel
theorem hd_X5_isTermSign : yX5_isTermSign.cls = RX5 ∧ (yX5_isTermSign.cls ≠ "java/lang/invoke/MethodHandle" ∧ yX5_isTermSign.cls ≠ "java/lang/invoke/VarHandle" ∧ (parseMethodDescriptor yX5_isTermSign.desc).map (fun d => d.parameters.length) = some 0) := by decide +kernel
theorem hd_X5_readFactor : yX5_readFactor.cls = RX5 ∧ (yX5_readFactor.cls ≠ "java/lang/invoke/MethodHandle" ∧ yX5_readFactor.cls ≠ "java/lang/invoke/VarHandle" ∧ (parseMethodDescriptor yX5_readFactor.desc).map (fun d => d.parameters.length) = some 1) := by decide +kernel
theorem hd_X5_addWord : yX5_addWord.cls = RX5 ∧ (yX5_addWord.cls ≠ "java/lang/invoke/MethodHandle" ∧ yX5_addWord.cls ≠ "java/lang/invoke/VarHandle" ∧ (parseMethodDescriptor yX5_addWord.desc).map (fun d => d.parameters.length) = some 1) := by decide +kernel
theorem hd_X5_readWhose : yX5_readWhose.cls = RX5 ∧ (yX5_readWhose.cls ≠ "java/lang/invoke/MethodHandle" ∧ yX5_readWhose.cls ≠ "java/lang/invoke/VarHandle" ∧ (parseMethodDescriptor yX5_readWhose.desc).map (fun d => d.parameters.length) = some 1) := by decide +kernel
theorem hd_X5_lawWord : yX5_lawWord.cls = RX5 ∧ (yX5_lawWord.cls ≠ "java/lang/invoke/MethodHandle" ∧ yX5_lawWord.cls ≠ "java/lang/invoke/VarHandle" ∧ (parseMethodDescriptor yX5_lawWord.desc).map (fun d => d.parameters.length) = some 0) := by decide +kernel
theorem hd_X5_orderWord : yX5_orderWord.cls = RX5 ∧ (yX5_orderWord.cls ≠ "java/lang/invoke/MethodHandle" ∧ yX5_orderWord.cls ≠ "java/lang/invoke/VarHandle" ∧ (parseMethodDescriptor yX5_orderWord.desc).map (fun d => d.parameters.length) = some 0) := by decide +kernel
theorem hd_X5_takeWord : yX5_takeWord.cls = RX5 ∧ (yX5_takeWord.cls ≠ "java/lang/invoke/MethodHandle" ∧ yX5_takeWord.cls ≠ "java/lang/invoke/VarHandle" ∧ (parseMethodDescriptor yX5_takeWord.desc).map (fun d => d.parameters.length) = some 1) := by decide +kernel
theorem hd_X5_takeSign : yX5_takeSign.cls = RX5 ∧ (yX5_takeSign.cls ≠ "java/lang/invoke/MethodHandle" ∧ yX5_takeSign.cls ≠ "java/lang/invoke/VarHandle" ∧ (parseMethodDescriptor yX5_takeSign.desc).map (fun d => d.parameters.length) = some 1) := by decide +kernel
theorem hd_X6_init : yX6_init.cls = RX6 ∧ (yX6_init.cls ≠ "java/lang/invoke/MethodHandle" ∧ yX6_init.cls ≠ "java/lang/invoke/VarHandle" ∧ (parseMethodDescriptor yX6_init.desc).map (fun d => d.parameters.length) = some 0) := by decide +kernel
theorem hd_X6_weigh : yX6_weigh.cls = RX6 ∧ (yX6_weigh.cls ≠ "java/lang/invoke/MethodHandle" ∧ yX6_weigh.cls ≠ "java/lang/invoke/VarHandle" ∧ (parseMethodDescriptor yX6_weigh.desc).map (fun d => d.parameters.length) = some 4) := by decide +kernel
theorem hd_X6_reckon : yX6_reckon.cls = RX6 ∧ (yX6_reckon.cls ≠ "java/lang/invoke/MethodHandle" ∧ yX6_reckon.cls ≠ "java/lang/invoke/VarHandle" ∧ (parseMethodDescriptor yX6_reckon.desc).map (fun d => d.parameters.length) = some 3) := by decide +kernel
theorem hd_X7_init : yX7_init.cls = RX7 ∧ (yX7_init.cls ≠ "java/lang/invoke/MethodHandle" ∧ yX7_init.cls ≠ "java/lang/invoke/VarHandle" ∧ (parseMethodDescriptor yX7_init.desc).map (fun d => d.parameters.length) = some 0) := by decide +kernel
theorem hd_X7_struckOut : yX7_struckOut.cls = RX7 ∧ (yX7_struckOut.cls ≠ "java/lang/invoke/MethodHandle" ∧ yX7_struckOut.cls ≠ "java/lang/invoke/VarHandle" ∧ (parseMethodDescriptor yX7_struckOut.desc).map (fun d => d.parameters.length) = some 2) := by decide +kernel
theorem hd_X7_giveOut : yX7_giveOut.cls = RX7 ∧ (yX7_giveOut.cls ≠ "java/lang/invoke/MethodHandle" ∧ yX7_giveOut.cls ≠ "java/lang/invoke/VarHandle" ∧ (parseMethodDescriptor yX7_giveOut.desc).map (fun d => d.parameters.length) = some 3) := by decide +kernel
theorem hd_X7_keepRings : yX7_keepRings.cls = RX7 ∧ (yX7_keepRings.cls ≠ "java/lang/invoke/MethodHandle" ∧ yX7_keepRings.cls ≠ "java/lang/invoke/VarHandle" ∧ (parseMethodDescriptor yX7_keepRings.desc).map (fun d => d.parameters.length) = some 2) := by decide +kernel
theorem hd_X7_firstBestUse : yX7_firstBestUse.cls = RX7 ∧ (yX7_firstBestUse.cls ≠ "java/lang/invoke/MethodHandle" ∧ yX7_firstBestUse.cls ≠ "java/lang/invoke/VarHandle" ∧ (parseMethodDescriptor yX7_firstBestUse.desc).map (fun d => d.parameters.length) = some 2) := by decide +kernel
theorem hd_X7_gain : yX7_gain.cls = RX7 ∧ (yX7_gain.cls ≠ "java/lang/invoke/MethodHandle" ∧ yX7_gain.cls ≠ "java/lang/invoke/VarHandle" ∧ (parseMethodDescriptor yX7_gain.desc).map (fun d => d.parameters.length) = some 2) := by decide +kernel
theorem hd_X7_entry : yX7_entry.cls = RX7 ∧ (yX7_entry.cls ≠ "java/lang/invoke/MethodHandle" ∧ yX7_entry.cls ≠ "java/lang/invoke/VarHandle" ∧ (parseMethodDescriptor yX7_entry.desc).map (fun d => d.parameters.length) = some 2) := by decide +kernel
theorem hd_X7_chance : yX7_chance.cls = RX7 ∧ (yX7_chance.cls ≠ "java/lang/invoke/MethodHandle" ∧ yX7_chance.cls ≠ "java/lang/invoke/VarHandle" ∧ (parseMethodDescriptor yX7_chance.desc).map (fun d => d.parameters.length) = some 3) := by decide +kernel
theorem hd_X8_init : yX8_init.cls = RX8 ∧ (yX8_init.cls ≠ "java/lang/invoke/MethodHandle" ∧ yX8_init.cls ≠ "java/lang/invoke/VarHandle" ∧ (parseMethodDescriptor yX8_init.desc).map (fun d => d.parameters.length) = some 0) := by decide +kernel
theorem hd_X8_copyFrom : yX8_copyFrom.cls = RX8 ∧ (yX8_copyFrom.cls ≠ "java/lang/invoke/MethodHandle" ∧ yX8_copyFrom.cls ≠ "java/lang/invoke/VarHandle" ∧ (parseMethodDescriptor yX8_copyFrom.desc).map (fun d => d.parameters.length) = some 1) := by decide +kernel
theorem hd_X8_addHouse : yX8_addHouse.cls = RX8 ∧ (yX8_addHouse.cls ≠ "java/lang/invoke/MethodHandle" ∧ yX8_addHouse.cls ≠ "java/lang/invoke/VarHandle" ∧ (parseMethodDescriptor yX8_addHouse.desc).map (fun d => d.parameters.length) = some 2) := by decide +kernel
theorem hd_X8_addPerson : yX8_addPerson.cls = RX8 ∧ (yX8_addPerson.cls ≠ "java/lang/invoke/MethodHandle" ∧ yX8_addPerson.cls ≠ "java/lang/invoke/VarHandle" ∧ (parseMethodDescriptor yX8_addPerson.desc).map (fun d => d.parameters.length) = some 3) := by decide +kernel
theorem hd_X8_addLaw : yX8_addLaw.cls = RX8 ∧ (yX8_addLaw.cls ≠ "java/lang/invoke/MethodHandle" ∧ yX8_addLaw.cls ≠ "java/lang/invoke/VarHandle" ∧ (parseMethodDescriptor yX8_addLaw.desc).map (fun d => d.parameters.length) = some 1) := by decide +kernel
theorem hd_X8_lawInForce : yX8_lawInForce.cls = RX8 ∧ (yX8_lawInForce.cls ≠ "java/lang/invoke/MethodHandle" ∧ yX8_lawInForce.cls ≠ "java/lang/invoke/VarHandle" ∧ (parseMethodDescriptor yX8_lawInForce.desc).map (fun d => d.parameters.length) = some 0) := by decide +kernel
theorem hd_X8_hasHouse : yX8_hasHouse.cls = RX8 ∧ (yX8_hasHouse.cls ≠ "java/lang/invoke/MethodHandle" ∧ yX8_hasHouse.cls ≠ "java/lang/invoke/VarHandle" ∧ (parseMethodDescriptor yX8_hasHouse.desc).map (fun d => d.parameters.length) = some 1) := by decide +kernel
theorem hd_X8_hasPerson : yX8_hasPerson.cls = RX8 ∧ (yX8_hasPerson.cls ≠ "java/lang/invoke/MethodHandle" ∧ yX8_hasPerson.cls ≠ "java/lang/invoke/VarHandle" ∧ (parseMethodDescriptor yX8_hasPerson.desc).map (fun d => d.parameters.length) = some 1) := by decide +kernel
theorem hd_X8_lives : yX8_lives.cls = RX8 ∧ (yX8_lives.cls ≠ "java/lang/invoke/MethodHandle" ∧ yX8_lives.cls ≠ "java/lang/invoke/VarHandle" ∧ (parseMethodDescriptor yX8_lives.desc).map (fun d => d.parameters.length) = some 1) := by decide +kernel
theorem hd_X8_rightsOf : yX8_rightsOf.cls = RX8 ∧ (yX8_rightsOf.cls ≠ "java/lang/invoke/MethodHandle" ∧ yX8_rightsOf.cls ≠ "java/lang/invoke/VarHandle" ∧ (parseMethodDescriptor yX8_rightsOf.desc).map (fun d => d.parameters.length) = some 2) := by decide +kernel
theorem hd_X8_usedOf : yX8_usedOf.cls = RX8 ∧ (yX8_usedOf.cls ≠ "java/lang/invoke/MethodHandle" ∧ yX8_usedOf.cls ≠ "java/lang/invoke/VarHandle" ∧ (parseMethodDescriptor yX8_usedOf.desc).map (fun d => d.parameters.length) = some 2) := by decide +kernel
theorem hd_X8_leftOf : yX8_leftOf.cls = RX8 ∧ (yX8_leftOf.cls ≠ "java/lang/invoke/MethodHandle" ∧ yX8_leftOf.cls ≠ "java/lang/invoke/VarHandle" ∧ (parseMethodDescriptor yX8_leftOf.desc).map (fun d => d.parameters.length) = some 2) := by decide +kernel
theorem hd_X8_allLeftOf : yX8_allLeftOf.cls = RX8 ∧ (yX8_allLeftOf.cls ≠ "java/lang/invoke/MethodHandle" ∧ yX8_allLeftOf.cls ≠ "java/lang/invoke/VarHandle" ∧ (parseMethodDescriptor yX8_allLeftOf.desc).map (fun d => d.parameters.length) = some 1) := by decide +kernel
theorem hd_X8_allRightsTo : yX8_allRightsTo.cls = RX8 ∧ (yX8_allRightsTo.cls ≠ "java/lang/invoke/MethodHandle" ∧ yX8_allRightsTo.cls ≠ "java/lang/invoke/VarHandle" ∧ (parseMethodDescriptor yX8_allRightsTo.desc).map (fun d => d.parameters.length) = some 1) := by decide +kernel
theorem hd_X8_livingPeople : yX8_livingPeople.cls = RX8 ∧ (yX8_livingPeople.cls ≠ "java/lang/invoke/MethodHandle" ∧ yX8_livingPeople.cls ≠ "java/lang/invoke/VarHandle" ∧ (parseMethodDescriptor yX8_livingPeople.desc).map (fun d => d.parameters.length) = some 0) := by decide +kernel
theorem hd_X8_livingHeirs : yX8_livingHeirs.cls = RX8 ∧ (yX8_livingHeirs.cls ≠ "java/lang/invoke/MethodHandle" ∧ yX8_livingHeirs.cls ≠ "java/lang/invoke/VarHandle" ∧ (parseMethodDescriptor yX8_livingHeirs.desc).map (fun d => d.parameters.length) = some 1) := by decide +kernel
theorem hd_X8_isLivingHeir : yX8_isLivingHeir.cls = RX8 ∧ (yX8_isLivingHeir.cls ≠ "java/lang/invoke/MethodHandle" ∧ yX8_isLivingHeir.cls ≠ "java/lang/invoke/VarHandle" ∧ (parseMethodDescriptor yX8_isLivingHeir.desc).map (fun d => d.parameters.length) = some 2) := by decide +kernel
theorem hd_X8_suspects : yX8_suspects.cls = RX8 ∧ (yX8_suspects.cls ≠ "java/lang/invoke/MethodHandle" ∧ yX8_suspects.cls ≠ "java/lang/invoke/VarHandle" ∧ (parseMethodDescriptor yX8_suspects.desc).map (fun d => d.parameters.length) = some 0) := by decide +kernel
theorem hd_X8_couldWalk : yX8_couldWalk.cls = RX8 ∧ (yX8_couldWalk.cls ≠ "java/lang/invoke/MethodHandle" ∧ yX8_couldWalk.cls ≠ "java/lang/invoke/VarHandle" ∧ (parseMethodDescriptor yX8_couldWalk.desc).map (fun d => d.parameters.length) = some 1) := by decide +kernel
theorem hd_X8_hasRingsForClues : yX8_hasRingsForClues.cls = RX8 ∧ (yX8_hasRingsForClues.cls ≠ "java/lang/invoke/MethodHandle" ∧ yX8_hasRingsForClues.cls ≠ "java/lang/invoke/VarHandle" ∧ (parseMethodDescriptor yX8_hasRingsForClues.desc).map (fun d => d.parameters.length) = some 1) := by decide +kernel
theorem hd_X8_remainAtMost : yX8_remainAtMost.cls = RX8 ∧ (yX8_remainAtMost.cls ≠ "java/lang/invoke/MethodHandle" ∧ yX8_remainAtMost.cls ≠ "java/lang/invoke/VarHandle" ∧ (parseMethodDescriptor yX8_remainAtMost.desc).map (fun d => d.parameters.length) = some 2) := by decide +kernel
theorem hd_X9_init : yX9_init.cls = RX9 ∧ (yX9_init.cls ≠ "java/lang/invoke/MethodHandle" ∧ yX9_init.cls ≠ "java/lang/invoke/VarHandle" ∧ (parseMethodDescriptor yX9_init.desc).map (fun d => d.parameters.length) = some 0) := by decide +kernel
theorem hd_X9_addFour : yX9_addFour.cls = RX9 ∧ (yX9_addFour.cls ≠ "java/lang/invoke/MethodHandle" ∧ yX9_addFour.cls ≠ "java/lang/invoke/VarHandle" ∧ (parseMethodDescriptor yX9_addFour.desc).map (fun d => d.parameters.length) = some 1) := by decide +kernel
theorem hd_X9_rewind : yX9_rewind.cls = RX9 ∧ (yX9_rewind.cls ≠ "java/lang/invoke/MethodHandle" ∧ yX9_rewind.cls ≠ "java/lang/invoke/VarHandle" ∧ (parseMethodDescriptor yX9_rewind.desc).map (fun d => d.parameters.length) = some 0) := by decide +kernel
theorem hd_X9_advance : yX9_advance.cls = RX9 ∧ (yX9_advance.cls ≠ "java/lang/invoke/MethodHandle" ∧ yX9_advance.cls ≠ "java/lang/invoke/VarHandle" ∧ (parseMethodDescriptor yX9_advance.desc).map (fun d => d.parameters.length) = some 0) := by decide +kernel
theorem hd_X9_isSign : yX9_isSign.cls = RX9 ∧ (yX9_isSign.cls ≠ "java/lang/invoke/MethodHandle" ∧ yX9_isSign.cls ≠ "java/lang/invoke/VarHandle" ∧ (parseMethodDescriptor yX9_isSign.desc).map (fun d => d.parameters.length) = some 1) := by decide +kernel
theorem hd_X9_isWord : yX9_isWord.cls = RX9 ∧ (yX9_isWord.cls ≠ "java/lang/invoke/MethodHandle" ∧ yX9_isWord.cls ≠ "java/lang/invoke/VarHandle" ∧ (parseMethodDescriptor yX9_isWord.desc).map (fun d => d.parameters.length) = some 1) := by decide +kernel
theorem hd_X9_isNumber : yX9_isNumber.cls = RX9 ∧ (yX9_isNumber.cls ≠ "java/lang/invoke/MethodHandle" ∧ yX9_isNumber.cls ≠ "java/lang/invoke/VarHandle" ∧ (parseMethodDescriptor yX9_isNumber.desc).map (fun d => d.parameters.length) = some 2) := by decide +kernel
theorem hd_X9_isLetter : yX9_isLetter.cls = RX9 ∧ (yX9_isLetter.cls ≠ "java/lang/invoke/MethodHandle" ∧ yX9_isLetter.cls ≠ "java/lang/invoke/VarHandle" ∧ (parseMethodDescriptor yX9_isLetter.desc).map (fun d => d.parameters.length) = some 1) := by decide +kernel
theorem hd_X9_isDigit : yX9_isDigit.cls = RX9 ∧ (yX9_isDigit.cls ≠ "java/lang/invoke/MethodHandle" ∧ yX9_isDigit.cls ≠ "java/lang/invoke/VarHandle" ∧ (parseMethodDescriptor yX9_isDigit.desc).map (fun d => d.parameters.length) = some 1) := by decide +kernel
theorem hd_X10_init : yX10_init.cls = RX10 ∧ (yX10_init.cls ≠ "java/lang/invoke/MethodHandle" ∧ yX10_init.cls ≠ "java/lang/invoke/VarHandle" ∧ (parseMethodDescriptor yX10_init.desc).map (fun d => d.parameters.length) = some 0) := by decide +kernel
theorem hd_X10_init_ : yX10_init_.cls = RX10 ∧ (yX10_init_.cls ≠ "java/lang/invoke/MethodHandle" ∧ yX10_init_.cls ≠ "java/lang/invoke/VarHandle" ∧ (parseMethodDescriptor yX10_init_.desc).map (fun d => d.parameters.length) = some 1) := by decide +kernel
theorem hd_X10_empty : yX10_empty.cls = RX10 ∧ (yX10_empty.cls ≠ "java/lang/invoke/MethodHandle" ∧ yX10_empty.cls ≠ "java/lang/invoke/VarHandle" ∧ (parseMethodDescriptor yX10_empty.desc).map (fun d => d.parameters.length) = some 0) := by decide +kernel
theorem hd_X10_beginClause : yX10_beginClause.cls = RX10 ∧ (yX10_beginClause.cls ≠ "java/lang/invoke/MethodHandle" ∧ yX10_beginClause.cls ≠ "java/lang/invoke/VarHandle" ∧ (parseMethodDescriptor yX10_beginClause.desc).map (fun d => d.parameters.length) = some 1) := by decide +kernel
theorem hd_X10_openPart : yX10_openPart.cls = RX10 ∧ (yX10_openPart.cls ≠ "java/lang/invoke/MethodHandle" ∧ yX10_openPart.cls ≠ "java/lang/invoke/VarHandle" ∧ (parseMethodDescriptor yX10_openPart.desc).map (fun d => d.parameters.length) = some 1) := by decide +kernel
theorem hd_X10_setTimes : yX10_setTimes.cls = RX10 ∧ (yX10_setTimes.cls ≠ "java/lang/invoke/MethodHandle" ∧ yX10_setTimes.cls ≠ "java/lang/invoke/VarHandle" ∧ (parseMethodDescriptor yX10_setTimes.desc).map (fun d => d.parameters.length) = some 1) := by decide +kernel
theorem hd_X10_add : yX10_add.cls = RX10 ∧ (yX10_add.cls ≠ "java/lang/invoke/MethodHandle" ∧ yX10_add.cls ≠ "java/lang/invoke/VarHandle" ∧ (parseMethodDescriptor yX10_add.desc).map (fun d => d.parameters.length) = some 2) := by decide +kernel
theorem hd_X10_landSkip : yX10_landSkip.cls = RX10 ∧ (yX10_landSkip.cls ≠ "java/lang/invoke/MethodHandle" ∧ yX10_landSkip.cls ≠ "java/lang/invoke/VarHandle" ∧ (parseMethodDescriptor yX10_landSkip.desc).map (fun d => d.parameters.length) = some 1) := by decide +kernel
theorem hd_X10_hasKind : yX10_hasKind.cls = RX10 ∧ (yX10_hasKind.cls ≠ "java/lang/invoke/MethodHandle" ∧ yX10_hasKind.cls ≠ "java/lang/invoke/VarHandle" ∧ (parseMethodDescriptor yX10_hasKind.desc).map (fun d => d.parameters.length) = some 1) := by decide +kernel
theorem hd_X11_init : yX11_init.cls = RX11 ∧ (yX11_init.cls ≠ "java/lang/invoke/MethodHandle" ∧ yX11_init.cls ≠ "java/lang/invoke/VarHandle" ∧ (parseMethodDescriptor yX11_init.desc).map (fun d => d.parameters.length) = some 0) := by decide +kernel
theorem hd_X11_house : yX11_house.cls = RX11 ∧ (yX11_house.cls ≠ "java/lang/invoke/MethodHandle" ∧ yX11_house.cls ≠ "java/lang/invoke/VarHandle" ∧ (parseMethodDescriptor yX11_house.desc).map (fun d => d.parameters.length) = some 2) := by decide +kernel
theorem hd_X11_at : yX11_at.cls = RX11 ∧ (yX11_at.cls ≠ "java/lang/invoke/MethodHandle" ∧ yX11_at.cls ≠ "java/lang/invoke/VarHandle" ∧ (parseMethodDescriptor yX11_at.desc).map (fun d => d.parameters.length) = some 2) := by decide +kernel
theorem hd_X11_person : yX11_person.cls = RX11 ∧ (yX11_person.cls ≠ "java/lang/invoke/MethodHandle" ∧ yX11_person.cls ≠ "java/lang/invoke/VarHandle" ∧ (parseMethodDescriptor yX11_person.desc).map (fun d => d.parameters.length) = some 3) := by decide +kernel
theorem hd_X11_of : yX11_of.cls = RX11 ∧ (yX11_of.cls ≠ "java/lang/invoke/MethodHandle" ∧ yX11_of.cls ≠ "java/lang/invoke/VarHandle" ∧ (parseMethodDescriptor yX11_of.desc).map (fun d => d.parameters.length) = some 2) := by decide +kernel
theorem hd_X11_want : yX11_want.cls = RX11 ∧ (yX11_want.cls ≠ "java/lang/invoke/MethodHandle" ∧ yX11_want.cls ≠ "java/lang/invoke/VarHandle" ∧ (parseMethodDescriptor yX11_want.desc).map (fun d => d.parameters.length) = some 2) := by decide +kernel
theorem hd_X11_will : yX11_will.cls = RX11 ∧ (yX11_will.cls ≠ "java/lang/invoke/MethodHandle" ∧ yX11_will.cls ≠ "java/lang/invoke/VarHandle" ∧ (parseMethodDescriptor yX11_will.desc).map (fun d => d.parameters.length) = some 2) := by decide +kernel
theorem hd_X11_right : yX11_right.cls = RX11 ∧ (yX11_right.cls ≠ "java/lang/invoke/MethodHandle" ∧ yX11_right.cls ≠ "java/lang/invoke/VarHandle" ∧ (parseMethodDescriptor yX11_right.desc).map (fun d => d.parameters.length) = some 3) := by decide +kernel
theorem hd_X11_has : yX11_has.cls = RX11 ∧ (yX11_has.cls ≠ "java/lang/invoke/MethodHandle" ∧ yX11_has.cls ≠ "java/lang/invoke/VarHandle" ∧ (parseMethodDescriptor yX11_has.desc).map (fun d => d.parameters.length) = some 3) := by decide +kernel
theorem hd_X11_asks : yX11_asks.cls = RX11 ∧ (yX11_asks.cls ≠ "java/lang/invoke/MethodHandle" ∧ yX11_asks.cls ≠ "java/lang/invoke/VarHandle" ∧ (parseMethodDescriptor yX11_asks.desc).map (fun d => d.parameters.length) = some 4) := by decide +kernel
theorem hd_X11_terms : yX11_terms.cls = RX11 ∧ (yX11_terms.cls ≠ "java/lang/invoke/MethodHandle" ∧ yX11_terms.cls ≠ "java/lang/invoke/VarHandle" ∧ (parseMethodDescriptor yX11_terms.desc).map (fun d => d.parameters.length) = some 2) := by decide +kernel
theorem hd_X11_feed : yX11_feed.cls = RX11 ∧ (yX11_feed.cls ≠ "java/lang/invoke/MethodHandle" ∧ yX11_feed.cls ≠ "java/lang/invoke/VarHandle" ∧ (parseMethodDescriptor yX11_feed.desc).map (fun d => d.parameters.length) = some 5) := by decide +kernel
theorem hd_X11_end : yX11_end.cls = RX11 ∧ (yX11_end.cls ≠ "java/lang/invoke/MethodHandle" ∧ yX11_end.cls ≠ "java/lang/invoke/VarHandle" ∧ (parseMethodDescriptor yX11_end.desc).map (fun d => d.parameters.length) = some 1) := by decide +kernel
theorem hd_X11_row : yX11_row.cls = RX11 ∧ (yX11_row.cls ≠ "java/lang/invoke/MethodHandle" ∧ yX11_row.cls ≠ "java/lang/invoke/VarHandle" ∧ (parseMethodDescriptor yX11_row.desc).map (fun d => d.parameters.length) = some 0) := by decide +kernel
theorem hd_X11_rust : yX11_rust.cls = RX11 ∧ (yX11_rust.cls ≠ "java/lang/invoke/MethodHandle" ∧ yX11_rust.cls ≠ "java/lang/invoke/VarHandle" ∧ (parseMethodDescriptor yX11_rust.desc).map (fun d => d.parameters.length) = some 0) := by decide +kernel
theorem hd_X11_law : yX11_law.cls = RX11 ∧ (yX11_law.cls ≠ "java/lang/invoke/MethodHandle" ∧ yX11_law.cls ≠ "java/lang/invoke/VarHandle" ∧ (parseMethodDescriptor yX11_law.desc).map (fun d => d.parameters.length) = some 0) := by decide +kernel
theorem hd_X11_orders : yX11_orders.cls = RX11 ∧ (yX11_orders.cls ≠ "java/lang/invoke/MethodHandle" ∧ yX11_orders.cls ≠ "java/lang/invoke/VarHandle" ∧ (parseMethodDescriptor yX11_orders.desc).map (fun d => d.parameters.length) = some 0) := by decide +kernel
theorem hd_X11_fault : yX11_fault.cls = RX11 ∧ (yX11_fault.cls ≠ "java/lang/invoke/MethodHandle" ∧ yX11_fault.cls ≠ "java/lang/invoke/VarHandle" ∧ (parseMethodDescriptor yX11_fault.desc).map (fun d => d.parameters.length) = some 0) := by decide +kernel
theorem hd_X11_stopped : yX11_stopped.cls = RX11 ∧ (yX11_stopped.cls ≠ "java/lang/invoke/MethodHandle" ∧ yX11_stopped.cls ≠ "java/lang/invoke/VarHandle" ∧ (parseMethodDescriptor yX11_stopped.desc).map (fun d => d.parameters.length) = some 0) := by decide +kernel
theorem hd_X11_force : yX11_force.cls = RX11 ∧ (yX11_force.cls ≠ "java/lang/invoke/MethodHandle" ∧ yX11_force.cls ≠ "java/lang/invoke/VarHandle" ∧ (parseMethodDescriptor yX11_force.desc).map (fun d => d.parameters.length) = some 1) := by decide +kernel
theorem hd_X11_ring : yX11_ring.cls = RX11 ∧ (yX11_ring.cls ≠ "java/lang/invoke/MethodHandle" ∧ yX11_ring.cls ≠ "java/lang/invoke/VarHandle" ∧ (parseMethodDescriptor yX11_ring.desc).map (fun d => d.parameters.length) = some 2) := by decide +kernel
theorem hd_X11_sell : yX11_sell.cls = RX11 ∧ (yX11_sell.cls ≠ "java/lang/invoke/MethodHandle" ∧ yX11_sell.cls ≠ "java/lang/invoke/VarHandle" ∧ (parseMethodDescriptor yX11_sell.desc).map (fun d => d.parameters.length) = some 3) := by decide +kernel
theorem hd_X11_die : yX11_die.cls = RX11 ∧ (yX11_die.cls ≠ "java/lang/invoke/MethodHandle" ∧ yX11_die.cls ≠ "java/lang/invoke/VarHandle" ∧ (parseMethodDescriptor yX11_die.desc).map (fun d => d.parameters.length) = some 1) := by decide +kernel
theorem hd_X11_pass : yX11_pass.cls = RX11 ∧ (yX11_pass.cls ≠ "java/lang/invoke/MethodHandle" ∧ yX11_pass.cls ≠ "java/lang/invoke/VarHandle" ∧ (parseMethodDescriptor yX11_pass.desc).map (fun d => d.parameters.length) = some 0) := by decide +kernel
theorem hd_X11_undo : yX11_undo.cls = RX11 ∧ (yX11_undo.cls ≠ "java/lang/invoke/MethodHandle" ∧ yX11_undo.cls ≠ "java/lang/invoke/VarHandle" ∧ (parseMethodDescriptor yX11_undo.desc).map (fun d => d.parameters.length) = some 0) := by decide +kernel
theorem hd_X11_visits : yX11_visits.cls = RX11 ∧ (yX11_visits.cls ≠ "java/lang/invoke/MethodHandle" ∧ yX11_visits.cls ≠ "java/lang/invoke/VarHandle" ∧ (parseMethodDescriptor yX11_visits.desc).map (fun d => d.parameters.length) = some 3) := by decide +kernel
theorem hd_X11_exchange : yX11_exchange.cls = RX11 ∧ (yX11_exchange.cls ≠ "java/lang/invoke/MethodHandle" ∧ yX11_exchange.cls ≠ "java/lang/invoke/VarHandle" ∧ (parseMethodDescriptor yX11_exchange.desc).map (fun d => d.parameters.length) = some 1) := by decide +kernel
theorem hd_X11_clue : yX11_clue.cls = RX11 ∧ (yX11_clue.cls ≠ "java/lang/invoke/MethodHandle" ∧ yX11_clue.cls ≠ "java/lang/invoke/VarHandle" ∧ (parseMethodDescriptor yX11_clue.desc).map (fun d => d.parameters.length) = some 2) := by decide +kernel
theorem hd_X11_forget : yX11_forget.cls = RX11 ∧ (yX11_forget.cls ≠ "java/lang/invoke/MethodHandle" ∧ yX11_forget.cls ≠ "java/lang/invoke/VarHandle" ∧ (parseMethodDescriptor yX11_forget.desc).map (fun d => d.parameters.length) = some 0) := by decide +kernel
theorem hd_X11_who : yX11_who.cls = RX11 ∧ (yX11_who.cls ≠ "java/lang/invoke/MethodHandle" ∧ yX11_who.cls ≠ "java/lang/invoke/VarHandle" ∧ (parseMethodDescriptor yX11_who.desc).map (fun d => d.parameters.length) = some 0) := by decide +kernel
theorem hd_X11_look : yX11_look.cls = RX11 ∧ (yX11_look.cls ≠ "java/lang/invoke/MethodHandle" ∧ yX11_look.cls ≠ "java/lang/invoke/VarHandle" ∧ (parseMethodDescriptor yX11_look.desc).map (fun d => d.parameters.length) = some 1) := by decide +kernel
theorem hd_X11_amend : yX11_amend.cls = RX11 ∧ (yX11_amend.cls ≠ "java/lang/invoke/MethodHandle" ∧ yX11_amend.cls ≠ "java/lang/invoke/VarHandle" ∧ (parseMethodDescriptor yX11_amend.desc).map (fun d => d.parameters.length) = some 2) := by decide +kernel
theorem hd_X11_given : yX11_given.cls = RX11 ∧ (yX11_given.cls ≠ "java/lang/invoke/MethodHandle" ∧ yX11_given.cls ≠ "java/lang/invoke/VarHandle" ∧ (parseMethodDescriptor yX11_given.desc).map (fun d => d.parameters.length) = some 3) := by decide +kernel
theorem hd_X11_keep : yX11_keep.cls = RX11 ∧ (yX11_keep.cls ≠ "java/lang/invoke/MethodHandle" ∧ yX11_keep.cls ≠ "java/lang/invoke/VarHandle" ∧ (parseMethodDescriptor yX11_keep.desc).map (fun d => d.parameters.length) = some 4) := by decide +kernel
theorem hd_X11_chain : yX11_chain.cls = RX11 ∧ (yX11_chain.cls ≠ "java/lang/invoke/MethodHandle" ∧ yX11_chain.cls ≠ "java/lang/invoke/VarHandle" ∧ (parseMethodDescriptor yX11_chain.desc).map (fun d => d.parameters.length) = some 4) := by decide +kernel
theorem hd_X11_likely : yX11_likely.cls = RX11 ∧ (yX11_likely.cls ≠ "java/lang/invoke/MethodHandle" ∧ yX11_likely.cls ≠ "java/lang/invoke/VarHandle" ∧ (parseMethodDescriptor yX11_likely.desc).map (fun d => d.parameters.length) = some 2) := by decide +kernel
theorem hd_X11_generations : yX11_generations.cls = RX11 ∧ (yX11_generations.cls ≠ "java/lang/invoke/MethodHandle" ∧ yX11_generations.cls ≠ "java/lang/invoke/VarHandle" ∧ (parseMethodDescriptor yX11_generations.desc).map (fun d => d.parameters.length) = some 2) := by decide +kernel
theorem hd_X11_drawn : yX11_drawn.cls = RX11 ∧ (yX11_drawn.cls ≠ "java/lang/invoke/MethodHandle" ∧ yX11_drawn.cls ≠ "java/lang/invoke/VarHandle" ∧ (parseMethodDescriptor yX11_drawn.desc).map (fun d => d.parameters.length) = some 2) := by decide +kernel
theorem hd_X11_image : yX11_image.cls = RX11 ∧ (yX11_image.cls ≠ "java/lang/invoke/MethodHandle" ∧ yX11_image.cls ≠ "java/lang/invoke/VarHandle" ∧ (parseMethodDescriptor yX11_image.desc).map (fun d => d.parameters.length) = some 1) := by decide +kernel
theorem hd_X11_back : yX11_back.cls = RX11 ∧ (yX11_back.cls ≠ "java/lang/invoke/MethodHandle" ∧ yX11_back.cls ≠ "java/lang/invoke/VarHandle" ∧ (parseMethodDescriptor yX11_back.desc).map (fun d => d.parameters.length) = some 1) := by decide +kernel
theorem hd_X11_count : yX11_count.cls = RX11 ∧ (yX11_count.cls ≠ "java/lang/invoke/MethodHandle" ∧ yX11_count.cls ≠ "java/lang/invoke/VarHandle" ∧ (parseMethodDescriptor yX11_count.desc).map (fun d => d.parameters.length) = some 1) := by decide +kernel
theorem hd_X11_status : yX11_status.cls = RX11 ∧ (yX11_status.cls ≠ "java/lang/invoke/MethodHandle" ∧ yX11_status.cls ≠ "java/lang/invoke/VarHandle" ∧ (parseMethodDescriptor yX11_status.desc).map (fun d => d.parameters.length) = some 0) := by decide +kernel
theorem hd_X11_refuse : yX11_refuse.cls = RX11 ∧ (yX11_refuse.cls ≠ "java/lang/invoke/MethodHandle" ∧ yX11_refuse.cls ≠ "java/lang/invoke/VarHandle" ∧ (parseMethodDescriptor yX11_refuse.desc).map (fun d => d.parameters.length) = some 1) := by decide +kernel
theorem hd_X11_accept : yX11_accept.cls = RX11 ∧ (yX11_accept.cls ≠ "java/lang/invoke/MethodHandle" ∧ yX11_accept.cls ≠ "java/lang/invoke/VarHandle" ∧ (parseMethodDescriptor yX11_accept.desc).map (fun d => d.parameters.length) = some 1) := by decide +kernel
theorem hd_X11_tell : yX11_tell.cls = RX11 ∧ (yX11_tell.cls ≠ "java/lang/invoke/MethodHandle" ∧ yX11_tell.cls ≠ "java/lang/invoke/VarHandle" ∧ (parseMethodDescriptor yX11_tell.desc).map (fun d => d.parameters.length) = some 1) := by decide +kernel
theorem hd_X11_let : yX11_let.cls = RX11 ∧ (yX11_let.cls ≠ "java/lang/invoke/MethodHandle" ∧ yX11_let.cls ≠ "java/lang/invoke/VarHandle" ∧ (parseMethodDescriptor yX11_let.desc).map (fun d => d.parameters.length) = some 1) := by decide +kernel
theorem hd_X11_canSell : yX11_canSell.cls = RX11 ∧ (yX11_canSell.cls ≠ "java/lang/invoke/MethodHandle" ∧ yX11_canSell.cls ≠ "java/lang/invoke/VarHandle" ∧ (parseMethodDescriptor yX11_canSell.desc).map (fun d => d.parameters.length) = some 3) := by decide +kernel
theorem hd_X11_setSales : yX11_setSales.cls = RX11 ∧ (yX11_setSales.cls ≠ "java/lang/invoke/MethodHandle" ∧ yX11_setSales.cls ≠ "java/lang/invoke/VarHandle" ∧ (parseMethodDescriptor yX11_setSales.desc).map (fun d => d.parameters.length) = some 1) := by decide +kernel
theorem hd_X11_isWithin : yX11_isWithin.cls = RX11 ∧ (yX11_isWithin.cls ≠ "java/lang/invoke/MethodHandle" ∧ yX11_isWithin.cls ≠ "java/lang/invoke/VarHandle" ∧ (parseMethodDescriptor yX11_isWithin.desc).map (fun d => d.parameters.length) = some 2) := by decide +kernel
theorem hd_X11_hasBit : yX11_hasBit.cls = RX11 ∧ (yX11_hasBit.cls ≠ "java/lang/invoke/MethodHandle" ∧ yX11_hasBit.cls ≠ "java/lang/invoke/VarHandle" ∧ (parseMethodDescriptor yX11_hasBit.desc).map (fun d => d.parameters.length) = some 2) := by decide +kernel
theorem hd_X11_slot : yX11_slot.cls = RX11 ∧ (yX11_slot.cls ≠ "java/lang/invoke/MethodHandle" ∧ yX11_slot.cls ≠ "java/lang/invoke/VarHandle" ∧ (parseMethodDescriptor yX11_slot.desc).map (fun d => d.parameters.length) = some 2) := by decide +kernel
theorem hd_X11_stepsBetween : yX11_stepsBetween.cls = RX11 ∧ (yX11_stepsBetween.cls ≠ "java/lang/invoke/MethodHandle" ∧ yX11_stepsBetween.cls ≠ "java/lang/invoke/VarHandle" ∧ (parseMethodDescriptor yX11_stepsBetween.desc).map (fun d => d.parameters.length) = some 2) := by decide +kernel
theorem hd_X12_init : yX12_init.cls = RX12 ∧ (yX12_init.cls ≠ "java/lang/invoke/MethodHandle" ∧ yX12_init.cls ≠ "java/lang/invoke/VarHandle" ∧ (parseMethodDescriptor yX12_init.desc).map (fun d => d.parameters.length) = some 0) := by decide +kernel
theorem hd_X12_in : yX12_in.cls = RX12 ∧ (yX12_in.cls ≠ "java/lang/invoke/MethodHandle" ∧ yX12_in.cls ≠ "java/lang/invoke/VarHandle" ∧ (parseMethodDescriptor yX12_in.desc).map (fun d => d.parameters.length) = some 3) := by decide +kernel
theorem hd_X12_is : yX12_is.cls = RX12 ∧ (yX12_is.cls ≠ "java/lang/invoke/MethodHandle" ∧ yX12_is.cls ≠ "java/lang/invoke/VarHandle" ∧ (parseMethodDescriptor yX12_is.desc).map (fun d => d.parameters.length) = some 2) := by decide +kernel
theorem hd_X12_ones : yX12_ones.cls = RX12 ∧ (yX12_ones.cls ≠ "java/lang/invoke/MethodHandle" ∧ yX12_ones.cls ≠ "java/lang/invoke/VarHandle" ∧ (parseMethodDescriptor yX12_ones.desc).map (fun d => d.parameters.length) = some 1) := by decide +kernel
theorem hd_X12_within : yX12_within.cls = RX12 ∧ (yX12_within.cls ≠ "java/lang/invoke/MethodHandle" ∧ yX12_within.cls ≠ "java/lang/invoke/VarHandle" ∧ (parseMethodDescriptor yX12_within.desc).map (fun d => d.parameters.length) = some 3) := by decide +kernel
theorem hd_X12_tell : yX12_tell.cls = RX12 ∧ (yX12_tell.cls ≠ "java/lang/invoke/MethodHandle" ∧ yX12_tell.cls ≠ "java/lang/invoke/VarHandle" ∧ (parseMethodDescriptor yX12_tell.desc).map (fun d => d.parameters.length) = some 1) := by decide +kernel
theorem hd_X12_change : yX12_change.cls = RX12 ∧ (yX12_change.cls ≠ "java/lang/invoke/MethodHandle" ∧ yX12_change.cls ≠ "java/lang/invoke/VarHandle" ∧ (parseMethodDescriptor yX12_change.desc).map (fun d => d.parameters.length) = some 2) := by decide +kernel
theorem hd_X12_settled : yX12_settled.cls = RX12 ∧ (yX12_settled.cls ≠ "java/lang/invoke/MethodHandle" ∧ yX12_settled.cls ≠ "java/lang/invoke/VarHandle" ∧ (parseMethodDescriptor yX12_settled.desc).map (fun d => d.parameters.length) = some 1) := by decide +kernel
theorem hd_X12_keepAll : yX12_keepAll.cls = RX12 ∧ (yX12_keepAll.cls ≠ "java/lang/invoke/MethodHandle" ∧ yX12_keepAll.cls ≠ "java/lang/invoke/VarHandle" ∧ (parseMethodDescriptor yX12_keepAll.desc).map (fun d => d.parameters.length) = some 1) := by decide +kernel
theorem hd_X12_putBack : yX12_putBack.cls = RX12 ∧ (yX12_putBack.cls ≠ "java/lang/invoke/MethodHandle" ∧ yX12_putBack.cls ≠ "java/lang/invoke/VarHandle" ∧ (parseMethodDescriptor yX12_putBack.desc).map (fun d => d.parameters.length) = some 1) := by decide +kernel
theorem hd_X12_remember : yX12_remember.cls = RX12 ∧ (yX12_remember.cls ≠ "java/lang/invoke/MethodHandle" ∧ yX12_remember.cls ≠ "java/lang/invoke/VarHandle" ∧ (parseMethodDescriptor yX12_remember.desc).map (fun d => d.parameters.length) = some 1) := by decide +kernel
theorem hd_X12_undo : yX12_undo.cls = RX12 ∧ (yX12_undo.cls ≠ "java/lang/invoke/MethodHandle" ∧ yX12_undo.cls ≠ "java/lang/invoke/VarHandle" ∧ (parseMethodDescriptor yX12_undo.desc).map (fun d => d.parameters.length) = some 0) := by decide +kernel
theorem hd_X12_image : yX12_image.cls = RX12 ∧ (yX12_image.cls ≠ "java/lang/invoke/MethodHandle" ∧ yX12_image.cls ≠ "java/lang/invoke/VarHandle" ∧ (parseMethodDescriptor yX12_image.desc).map (fun d => d.parameters.length) = some 1) := by decide +kernel
theorem hd_X12_back : yX12_back.cls = RX12 ∧ (yX12_back.cls ≠ "java/lang/invoke/MethodHandle" ∧ yX12_back.cls ≠ "java/lang/invoke/VarHandle" ∧ (parseMethodDescriptor yX12_back.desc).map (fun d => d.parameters.length) = some 1) := by decide +kernel
theorem hd_X12_isHouse : yX12_isHouse.cls = RX12 ∧ (yX12_isHouse.cls ≠ "java/lang/invoke/MethodHandle" ∧ yX12_isHouse.cls ≠ "java/lang/invoke/VarHandle" ∧ (parseMethodDescriptor yX12_isHouse.desc).map (fun d => d.parameters.length) = some 1) := by decide +kernel
theorem hd_X12_isPerson : yX12_isPerson.cls = RX12 ∧ (yX12_isPerson.cls ≠ "java/lang/invoke/MethodHandle" ∧ yX12_isPerson.cls ≠ "java/lang/invoke/VarHandle" ∧ (parseMethodDescriptor yX12_isPerson.desc).map (fun d => d.parameters.length) = some 1) := by decide +kernel
theorem hd_X12_isPlace : yX12_isPlace.cls = RX12 ∧ (yX12_isPlace.cls ≠ "java/lang/invoke/MethodHandle" ∧ yX12_isPlace.cls ≠ "java/lang/invoke/VarHandle" ∧ (parseMethodDescriptor yX12_isPlace.desc).map (fun d => d.parameters.length) = some 1) := by decide +kernel
theorem hd_X12_lives : yX12_lives.cls = RX12 ∧ (yX12_lives.cls ≠ "java/lang/invoke/MethodHandle" ∧ yX12_lives.cls ≠ "java/lang/invoke/VarHandle" ∧ (parseMethodDescriptor yX12_lives.desc).map (fun d => d.parameters.length) = some 1) := by decide +kernel
theorem hd_X12_living : yX12_living.cls = RX12 ∧ (yX12_living.cls ≠ "java/lang/invoke/MethodHandle" ∧ yX12_living.cls ≠ "java/lang/invoke/VarHandle" ∧ (parseMethodDescriptor yX12_living.desc).map (fun d => d.parameters.length) = some 0) := by decide +kernel
theorem hd_X12_rights : yX12_rights.cls = RX12 ∧ (yX12_rights.cls ≠ "java/lang/invoke/MethodHandle" ∧ yX12_rights.cls ≠ "java/lang/invoke/VarHandle" ∧ (parseMethodDescriptor yX12_rights.desc).map (fun d => d.parameters.length) = some 2) := by decide +kernel
theorem hd_X12_leftOf : yX12_leftOf.cls = RX12 ∧ (yX12_leftOf.cls ≠ "java/lang/invoke/MethodHandle" ∧ yX12_leftOf.cls ≠ "java/lang/invoke/VarHandle" ∧ (parseMethodDescriptor yX12_leftOf.desc).map (fun d => d.parameters.length) = some 2) := by decide +kernel
theorem hd_X12_leftOfAll : yX12_leftOfAll.cls = RX12 ∧ (yX12_leftOfAll.cls ≠ "java/lang/invoke/MethodHandle" ∧ yX12_leftOfAll.cls ≠ "java/lang/invoke/VarHandle" ∧ (parseMethodDescriptor yX12_leftOfAll.desc).map (fun d => d.parameters.length) = some 1) := by decide +kernel
theorem hd_X12_stepsOf : yX12_stepsOf.cls = RX12 ∧ (yX12_stepsOf.cls ≠ "java/lang/invoke/MethodHandle" ∧ yX12_stepsOf.cls ≠ "java/lang/invoke/VarHandle" ∧ (parseMethodDescriptor yX12_stepsOf.desc).map (fun d => d.parameters.length) = some 2) := by decide +kernel
theorem hd_X12_house : yX12_house.cls = RX12 ∧ (yX12_house.cls ≠ "java/lang/invoke/MethodHandle" ∧ yX12_house.cls ≠ "java/lang/invoke/VarHandle" ∧ (parseMethodDescriptor yX12_house.desc).map (fun d => d.parameters.length) = some 2) := by decide +kernel
theorem hd_X12_rightsTo : yX12_rightsTo.cls = RX12 ∧ (yX12_rightsTo.cls ≠ "java/lang/invoke/MethodHandle" ∧ yX12_rightsTo.cls ≠ "java/lang/invoke/VarHandle" ∧ (parseMethodDescriptor yX12_rightsTo.desc).map (fun d => d.parameters.length) = some 1) := by decide +kernel
theorem hd_X12_at : yX12_at.cls = RX12 ∧ (yX12_at.cls ≠ "java/lang/invoke/MethodHandle" ∧ yX12_at.cls ≠ "java/lang/invoke/VarHandle" ∧ (parseMethodDescriptor yX12_at.desc).map (fun d => d.parameters.length) = some 2) := by decide +kernel
theorem hd_X12_come : yX12_come.cls = RX12 ∧ (yX12_come.cls ≠ "java/lang/invoke/MethodHandle" ∧ yX12_come.cls ≠ "java/lang/invoke/VarHandle" ∧ (parseMethodDescriptor yX12_come.desc).map (fun d => d.parameters.length) = some 3) := by decide +kernel
theorem hd_X12_person : yX12_person.cls = RX12 ∧ (yX12_person.cls ≠ "java/lang/invoke/MethodHandle" ∧ yX12_person.cls ≠ "java/lang/invoke/VarHandle" ∧ (parseMethodDescriptor yX12_person.desc).map (fun d => d.parameters.length) = some 3) := by decide +kernel
theorem hd_X12_of : yX12_of.cls = RX12 ∧ (yX12_of.cls ≠ "java/lang/invoke/MethodHandle" ∧ yX12_of.cls ≠ "java/lang/invoke/VarHandle" ∧ (parseMethodDescriptor yX12_of.desc).map (fun d => d.parameters.length) = some 2) := by decide +kernel
theorem hd_X12_want : yX12_want.cls = RX12 ∧ (yX12_want.cls ≠ "java/lang/invoke/MethodHandle" ∧ yX12_want.cls ≠ "java/lang/invoke/VarHandle" ∧ (parseMethodDescriptor yX12_want.desc).map (fun d => d.parameters.length) = some 2) := by decide +kernel
theorem hd_X12_will : yX12_will.cls = RX12 ∧ (yX12_will.cls ≠ "java/lang/invoke/MethodHandle" ∧ yX12_will.cls ≠ "java/lang/invoke/VarHandle" ∧ (parseMethodDescriptor yX12_will.desc).map (fun d => d.parameters.length) = some 2) := by decide +kernel
theorem hd_X12_right : yX12_right.cls = RX12 ∧ (yX12_right.cls ≠ "java/lang/invoke/MethodHandle" ∧ yX12_right.cls ≠ "java/lang/invoke/VarHandle" ∧ (parseMethodDescriptor yX12_right.desc).map (fun d => d.parameters.length) = some 3) := by decide +kernel
theorem hd_X12_has : yX12_has.cls = RX12 ∧ (yX12_has.cls ≠ "java/lang/invoke/MethodHandle" ∧ yX12_has.cls ≠ "java/lang/invoke/VarHandle" ∧ (parseMethodDescriptor yX12_has.desc).map (fun d => d.parameters.length) = some 3) := by decide +kernel
theorem hd_X12_terms : yX12_terms.cls = RX12 ∧ (yX12_terms.cls ≠ "java/lang/invoke/MethodHandle" ∧ yX12_terms.cls ≠ "java/lang/invoke/VarHandle" ∧ (parseMethodDescriptor yX12_terms.desc).map (fun d => d.parameters.length) = some 2) := by decide +kernel
theorem hd_X12_row : yX12_row.cls = RX12 ∧ (yX12_row.cls ≠ "java/lang/invoke/MethodHandle" ∧ yX12_row.cls ≠ "java/lang/invoke/VarHandle" ∧ (parseMethodDescriptor yX12_row.desc).map (fun d => d.parameters.length) = some 0) := by decide +kernel
theorem hd_X12_rust : yX12_rust.cls = RX12 ∧ (yX12_rust.cls ≠ "java/lang/invoke/MethodHandle" ∧ yX12_rust.cls ≠ "java/lang/invoke/VarHandle" ∧ (parseMethodDescriptor yX12_rust.desc).map (fun d => d.parameters.length) = some 0) := by decide +kernel
theorem hd_X12_four : yX12_four.cls = RX12 ∧ (yX12_four.cls ≠ "java/lang/invoke/MethodHandle" ∧ yX12_four.cls ≠ "java/lang/invoke/VarHandle" ∧ (parseMethodDescriptor yX12_four.desc).map (fun d => d.parameters.length) = some 1) := by decide +kernel
theorem hd_X12_feed : yX12_feed.cls = RX12 ∧ (yX12_feed.cls ≠ "java/lang/invoke/MethodHandle" ∧ yX12_feed.cls ≠ "java/lang/invoke/VarHandle" ∧ (parseMethodDescriptor yX12_feed.desc).map (fun d => d.parameters.length) = some 5) := by decide +kernel
theorem hd_X12_end : yX12_end.cls = RX12 ∧ (yX12_end.cls ≠ "java/lang/invoke/MethodHandle" ∧ yX12_end.cls ≠ "java/lang/invoke/VarHandle" ∧ (parseMethodDescriptor yX12_end.desc).map (fun d => d.parameters.length) = some 1) := by decide +kernel
theorem hd_X12_isSmall : yX12_isSmall.cls = RX12 ∧ (yX12_isSmall.cls ≠ "java/lang/invoke/MethodHandle" ∧ yX12_isSmall.cls ≠ "java/lang/invoke/VarHandle" ∧ (parseMethodDescriptor yX12_isSmall.desc).map (fun d => d.parameters.length) = some 1) := by decide +kernel
theorem hd_X12_isDigit : yX12_isDigit.cls = RX12 ∧ (yX12_isDigit.cls ≠ "java/lang/invoke/MethodHandle" ∧ yX12_isDigit.cls ≠ "java/lang/invoke/VarHandle" ∧ (parseMethodDescriptor yX12_isDigit.desc).map (fun d => d.parameters.length) = some 1) := by decide +kernel
theorem hd_X12_begin : yX12_begin.cls = RX12 ∧ (yX12_begin.cls ≠ "java/lang/invoke/MethodHandle" ∧ yX12_begin.cls ≠ "java/lang/invoke/VarHandle" ∧ (parseMethodDescriptor yX12_begin.desc).map (fun d => d.parameters.length) = some 0) := by decide +kernel
theorem hd_X12_next : yX12_next.cls = RX12 ∧ (yX12_next.cls ≠ "java/lang/invoke/MethodHandle" ∧ yX12_next.cls ≠ "java/lang/invoke/VarHandle" ∧ (parseMethodDescriptor yX12_next.desc).map (fun d => d.parameters.length) = some 0) := by decide +kernel
theorem hd_X12_isWord : yX12_isWord.cls = RX12 ∧ (yX12_isWord.cls ≠ "java/lang/invoke/MethodHandle" ∧ yX12_isWord.cls ≠ "java/lang/invoke/VarHandle" ∧ (parseMethodDescriptor yX12_isWord.desc).map (fun d => d.parameters.length) = some 1) := by decide +kernel
theorem hd_X12_isSign : yX12_isSign.cls = RX12 ∧ (yX12_isSign.cls ≠ "java/lang/invoke/MethodHandle" ∧ yX12_isSign.cls ≠ "java/lang/invoke/VarHandle" ∧ (parseMethodDescriptor yX12_isSign.desc).map (fun d => d.parameters.length) = some 1) := by decide +kernel
theorem hd_X12_must : yX12_must.cls = RX12 ∧ (yX12_must.cls ≠ "java/lang/invoke/MethodHandle" ∧ yX12_must.cls ≠ "java/lang/invoke/VarHandle" ∧ (parseMethodDescriptor yX12_must.desc).map (fun d => d.parameters.length) = some 1) := by decide +kernel
theorem hd_X12_number : yX12_number.cls = RX12 ∧ (yX12_number.cls ≠ "java/lang/invoke/MethodHandle" ∧ yX12_number.cls ≠ "java/lang/invoke/VarHandle" ∧ (parseMethodDescriptor yX12_number.desc).map (fun d => d.parameters.length) = some 2) := by decide +kernel
theorem hd_X12_fault : yX12_fault.cls = RX12 ∧ (yX12_fault.cls ≠ "java/lang/invoke/MethodHandle" ∧ yX12_fault.cls ≠ "java/lang/invoke/VarHandle" ∧ (parseMethodDescriptor yX12_fault.desc).map (fun d => d.parameters.length) = some 0) := by decide +kernel
theorem hd_X12_emit : yX12_emit.cls = RX12 ∧ (yX12_emit.cls ≠ "java/lang/invoke/MethodHandle" ∧ yX12_emit.cls ≠ "java/lang/invoke/VarHandle" ∧ (parseMethodDescriptor yX12_emit.desc).map (fun d => d.parameters.length) = some 2) := by decide +kernel
theorem hd_X12_push : yX12_push.cls = RX12 ∧ (yX12_push.cls ≠ "java/lang/invoke/MethodHandle" ∧ yX12_push.cls ≠ "java/lang/invoke/VarHandle" ∧ (parseMethodDescriptor yX12_push.desc).map (fun d => d.parameters.length) = some 2) := by decide +kernel
theorem hd_X12_binds : yX12_binds.cls = RX12 ∧ (yX12_binds.cls ≠ "java/lang/invoke/MethodHandle" ∧ yX12_binds.cls ≠ "java/lang/invoke/VarHandle" ∧ (parseMethodDescriptor yX12_binds.desc).map (fun d => d.parameters.length) = some 1) := by decide +kernel
theorem hd_X12_settle : yX12_settle.cls = RX12 ∧ (yX12_settle.cls ≠ "java/lang/invoke/MethodHandle" ∧ yX12_settle.cls ≠ "java/lang/invoke/VarHandle" ∧ (parseMethodDescriptor yX12_settle.desc).map (fun d => d.parameters.length) = some 1) := by decide +kernel
theorem hd_X12_inner : yX12_inner.cls = RX12 ∧ (yX12_inner.cls ≠ "java/lang/invoke/MethodHandle" ∧ yX12_inner.cls ≠ "java/lang/invoke/VarHandle" ∧ (parseMethodDescriptor yX12_inner.desc).map (fun d => d.parameters.length) = some 0) := by decide +kernel
theorem hd_X12_isCompared : yX12_isCompared.cls = RX12 ∧ (yX12_isCompared.cls ≠ "java/lang/invoke/MethodHandle" ∧ yX12_isCompared.cls ≠ "java/lang/invoke/VarHandle" ∧ (parseMethodDescriptor yX12_isCompared.desc).map (fun d => d.parameters.length) = some 0) := by decide +kernel
theorem hd_X12_partAt : yX12_partAt.cls = RX12 ∧ (yX12_partAt.cls ≠ "java/lang/invoke/MethodHandle" ∧ yX12_partAt.cls ≠ "java/lang/invoke/VarHandle" ∧ (parseMethodDescriptor yX12_partAt.desc).map (fun d => d.parameters.length) = some 0) := by decide +kernel
theorem hd_X12_orderPartAt : yX12_orderPartAt.cls = RX12 ∧ (yX12_orderPartAt.cls ≠ "java/lang/invoke/MethodHandle" ∧ yX12_orderPartAt.cls ≠ "java/lang/invoke/VarHandle" ∧ (parseMethodDescriptor yX12_orderPartAt.desc).map (fun d => d.parameters.length) = some 0) := by decide +kernel
theorem hd_X12_openBracket : yX12_openBracket.cls = RX12 ∧ (yX12_openBracket.cls ≠ "java/lang/invoke/MethodHandle" ∧ yX12_openBracket.cls ≠ "java/lang/invoke/VarHandle" ∧ (parseMethodDescriptor yX12_openBracket.desc).map (fun d => d.parameters.length) = some 1) := by decide +kernel
theorem hd_X12_leaf : yX12_leaf.cls = RX12 ∧ (yX12_leaf.cls ≠ "java/lang/invoke/MethodHandle" ∧ yX12_leaf.cls ≠ "java/lang/invoke/VarHandle" ∧ (parseMethodDescriptor yX12_leaf.desc).map (fun d => d.parameters.length) = some 3) := by decide +kernel
theorem hd_X12_readPart : yX12_readPart.cls = RX12 ∧ (yX12_readPart.cls ≠ "java/lang/invoke/MethodHandle" ∧ yX12_readPart.cls ≠ "java/lang/invoke/VarHandle" ∧ (parseMethodDescriptor yX12_readPart.desc).map (fun d => d.parameters.length) = some 0) := by decide +kernel
theorem hd_X12_readPlain : yX12_readPlain.cls = RX12 ∧ (yX12_readPlain.cls ≠ "java/lang/invoke/MethodHandle" ∧ yX12_readPlain.cls ≠ "java/lang/invoke/VarHandle" ∧ (parseMethodDescriptor yX12_readPlain.desc).map (fun d => d.parameters.length) = some 0) := by decide +kernel
theorem hd_X12_behindSum : yX12_behindSum.cls = RX12 ∧ (yX12_behindSum.cls ≠ "java/lang/invoke/MethodHandle" ∧ yX12_behindSum.cls ≠ "java/lang/invoke/VarHandle" ∧ (parseMethodDescriptor yX12_behindSum.desc).map (fun d => d.parameters.length) = some 1) := by decide +kernel
theorem hd_X12_behindTest : yX12_behindTest.cls = RX12 ∧ (yX12_behindTest.cls ≠ "java/lang/invoke/MethodHandle" ∧ yX12_behindTest.cls ≠ "java/lang/invoke/VarHandle" ∧ (parseMethodDescriptor yX12_behindTest.desc).map (fun d => d.parameters.length) = some 0) := by decide +kernel
theorem hd_X12_readExpression : yX12_readExpression.cls = RX12 ∧ (yX12_readExpression.cls ≠ "java/lang/invoke/MethodHandle" ∧ yX12_readExpression.cls ≠ "java/lang/invoke/VarHandle" ∧ (parseMethodDescriptor yX12_readExpression.desc).map (fun d => d.parameters.length) = some 1) := by decide +kernel
theorem hd_X12_beginText : yX12_beginText.cls = RX12 ∧ (yX12_beginText.cls ≠ "java/lang/invoke/MethodHandle" ∧ yX12_beginText.cls ≠ "java/lang/invoke/VarHandle" ∧ (parseMethodDescriptor yX12_beginText.desc).map (fun d => d.parameters.length) = some 1) := by decide +kernel
theorem hd_X12_endText : yX12_endText.cls = RX12 ∧ (yX12_endText.cls ≠ "java/lang/invoke/MethodHandle" ∧ yX12_endText.cls ≠ "java/lang/invoke/VarHandle" ∧ (parseMethodDescriptor yX12_endText.desc).map (fun d => d.parameters.length) = some 0) := by decide +kernel
theorem hd_X12_readLaw : yX12_readLaw.cls = RX12 ∧ (yX12_readLaw.cls ≠ "java/lang/invoke/MethodHandle" ∧ yX12_readLaw.cls ≠ "java/lang/invoke/VarHandle" ∧ (parseMethodDescriptor yX12_readLaw.desc).map (fun d => d.parameters.length) = some 0) := by decide +kernel
theorem hd_X12_law : yX12_law.cls = RX12 ∧ (yX12_law.cls ≠ "java/lang/invoke/MethodHandle" ∧ yX12_law.cls ≠ "java/lang/invoke/VarHandle" ∧ (parseMethodDescriptor yX12_law.desc).map (fun d => d.parameters.length) = some 0) := by decide +kernel
theorem hd_X12_force : yX12_force.cls = RX12 ∧ (yX12_force.cls ≠ "java/lang/invoke/MethodHandle" ∧ yX12_force.cls ≠ "java/lang/invoke/VarHandle" ∧ (parseMethodDescriptor yX12_force.desc).map (fun d => d.parameters.length) = some 1) := by decide +kernel
theorem hd_X12_reckon : yX12_reckon.cls = RX12 ∧ (yX12_reckon.cls ≠ "java/lang/invoke/MethodHandle" ∧ yX12_reckon.cls ≠ "java/lang/invoke/VarHandle" ∧ (parseMethodDescriptor yX12_reckon.desc).map (fun d => d.parameters.length) = some 3) := by decide +kernel
theorem hd_X12_reckonAll : yX12_reckonAll.cls = RX12 ∧ (yX12_reckonAll.cls ≠ "java/lang/invoke/MethodHandle" ∧ yX12_reckonAll.cls ≠ "java/lang/invoke/VarHandle" ∧ (parseMethodDescriptor yX12_reckonAll.desc).map (fun d => d.parameters.length) = some 2) := by decide +kernel
theorem hd_X12_isSo : yX12_isSo.cls = RX12 ∧ (yX12_isSo.cls ≠ "java/lang/invoke/MethodHandle" ∧ yX12_isSo.cls ≠ "java/lang/invoke/VarHandle" ∧ (parseMethodDescriptor yX12_isSo.desc).map (fun d => d.parameters.length) = some 1) := by decide +kernel
theorem hd_X12_tells : yX12_tells.cls = RX12 ∧ (yX12_tells.cls ≠ "java/lang/invoke/MethodHandle" ∧ yX12_tells.cls ≠ "java/lang/invoke/VarHandle" ∧ (parseMethodDescriptor yX12_tells.desc).map (fun d => d.parameters.length) = some 6) := by decide +kernel
theorem hd_X12_yearNow : yX12_yearNow.cls = RX12 ∧ (yX12_yearNow.cls ≠ "java/lang/invoke/MethodHandle" ∧ yX12_yearNow.cls ≠ "java/lang/invoke/VarHandle" ∧ (parseMethodDescriptor yX12_yearNow.desc).map (fun d => d.parameters.length) = some 0) := by decide +kernel
theorem hd_X12_tellsOpening : yX12_tellsOpening.cls = RX12 ∧ (yX12_tellsOpening.cls ≠ "java/lang/invoke/MethodHandle" ∧ yX12_tellsOpening.cls ≠ "java/lang/invoke/VarHandle" ∧ (parseMethodDescriptor yX12_tellsOpening.desc).map (fun d => d.parameters.length) = some 0) := by decide +kernel
theorem hd_X12_isOpen : yX12_isOpen.cls = RX12 ∧ (yX12_isOpen.cls ≠ "java/lang/invoke/MethodHandle" ∧ yX12_isOpen.cls ≠ "java/lang/invoke/VarHandle" ∧ (parseMethodDescriptor yX12_isOpen.desc).map (fun d => d.parameters.length) = some 2) := by decide +kernel
theorem hd_X12_tiresOf : yX12_tiresOf.cls = RX12 ∧ (yX12_tiresOf.cls ≠ "java/lang/invoke/MethodHandle" ∧ yX12_tiresOf.cls ≠ "java/lang/invoke/VarHandle" ∧ (parseMethodDescriptor yX12_tiresOf.desc).map (fun d => d.parameters.length) = some 2) := by decide +kernel
theorem hd_X12_worthOf : yX12_worthOf.cls = RX12 ∧ (yX12_worthOf.cls ≠ "java/lang/invoke/MethodHandle" ∧ yX12_worthOf.cls ≠ "java/lang/invoke/VarHandle" ∧ (parseMethodDescriptor yX12_worthOf.desc).map (fun d => d.parameters.length) = some 2) := by decide +kernel
theorem hd_X12_costsOf : yX12_costsOf.cls = RX12 ∧ (yX12_costsOf.cls ≠ "java/lang/invoke/MethodHandle" ∧ yX12_costsOf.cls ≠ "java/lang/invoke/VarHandle" ∧ (parseMethodDescriptor yX12_costsOf.desc).map (fun d => d.parameters.length) = some 3) := by decide +kernel
theorem hd_X12_isBarred : yX12_isBarred.cls = RX12 ∧ (yX12_isBarred.cls ≠ "java/lang/invoke/MethodHandle" ∧ yX12_isBarred.cls ≠ "java/lang/invoke/VarHandle" ∧ (parseMethodDescriptor yX12_isBarred.desc).map (fun d => d.parameters.length) = some 3) := by decide +kernel
theorem hd_X12_canBuy : yX12_canBuy.cls = RX12 ∧ (yX12_canBuy.cls ≠ "java/lang/invoke/MethodHandle" ∧ yX12_canBuy.cls ≠ "java/lang/invoke/VarHandle" ∧ (parseMethodDescriptor yX12_canBuy.desc).map (fun d => d.parameters.length) = some 3) := by decide +kernel
theorem hd_X12_canSell : yX12_canSell.cls = RX12 ∧ (yX12_canSell.cls ≠ "java/lang/invoke/MethodHandle" ∧ yX12_canSell.cls ≠ "java/lang/invoke/VarHandle" ∧ (parseMethodDescriptor yX12_canSell.desc).map (fun d => d.parameters.length) = some 3) := by decide +kernel
theorem hd_X12_asks : yX12_asks.cls = RX12 ∧ (yX12_asks.cls ≠ "java/lang/invoke/MethodHandle" ∧ yX12_asks.cls ≠ "java/lang/invoke/VarHandle" ∧ (parseMethodDescriptor yX12_asks.desc).map (fun d => d.parameters.length) = some 4) := by decide +kernel
theorem hd_X12_canRing : yX12_canRing.cls = RX12 ∧ (yX12_canRing.cls ≠ "java/lang/invoke/MethodHandle" ∧ yX12_canRing.cls ≠ "java/lang/invoke/VarHandle" ∧ (parseMethodDescriptor yX12_canRing.desc).map (fun d => d.parameters.length) = some 2) := by decide +kernel
theorem hd_X12_ringIt : yX12_ringIt.cls = RX12 ∧ (yX12_ringIt.cls ≠ "java/lang/invoke/MethodHandle" ∧ yX12_ringIt.cls ≠ "java/lang/invoke/VarHandle" ∧ (parseMethodDescriptor yX12_ringIt.desc).map (fun d => d.parameters.length) = some 2) := by decide +kernel
theorem hd_X12_ringNow : yX12_ringNow.cls = RX12 ∧ (yX12_ringNow.cls ≠ "java/lang/invoke/MethodHandle" ∧ yX12_ringNow.cls ≠ "java/lang/invoke/VarHandle" ∧ (parseMethodDescriptor yX12_ringNow.desc).map (fun d => d.parameters.length) = some 2) := by decide +kernel
theorem hd_X12_ring : yX12_ring.cls = RX12 ∧ (yX12_ring.cls ≠ "java/lang/invoke/MethodHandle" ∧ yX12_ring.cls ≠ "java/lang/invoke/VarHandle" ∧ (parseMethodDescriptor yX12_ring.desc).map (fun d => d.parameters.length) = some 2) := by decide +kernel
theorem hd_X12_sellNow : yX12_sellNow.cls = RX12 ∧ (yX12_sellNow.cls ≠ "java/lang/invoke/MethodHandle" ∧ yX12_sellNow.cls ≠ "java/lang/invoke/VarHandle" ∧ (parseMethodDescriptor yX12_sellNow.desc).map (fun d => d.parameters.length) = some 3) := by decide +kernel
theorem hd_X12_sell : yX12_sell.cls = RX12 ∧ (yX12_sell.cls ≠ "java/lang/invoke/MethodHandle" ∧ yX12_sell.cls ≠ "java/lang/invoke/VarHandle" ∧ (parseMethodDescriptor yX12_sell.desc).map (fun d => d.parameters.length) = some 3) := by decide +kernel
theorem hd_X12_dieIt : yX12_dieIt.cls = RX12 ∧ (yX12_dieIt.cls ≠ "java/lang/invoke/MethodHandle" ∧ yX12_dieIt.cls ≠ "java/lang/invoke/VarHandle" ∧ (parseMethodDescriptor yX12_dieIt.desc).map (fun d => d.parameters.length) = some 1) := by decide +kernel
theorem hd_X12_dieNow : yX12_dieNow.cls = RX12 ∧ (yX12_dieNow.cls ≠ "java/lang/invoke/MethodHandle" ∧ yX12_dieNow.cls ≠ "java/lang/invoke/VarHandle" ∧ (parseMethodDescriptor yX12_dieNow.desc).map (fun d => d.parameters.length) = some 1) := by decide +kernel
theorem hd_X12_die : yX12_die.cls = RX12 ∧ (yX12_die.cls ≠ "java/lang/invoke/MethodHandle" ∧ yX12_die.cls ≠ "java/lang/invoke/VarHandle" ∧ (parseMethodDescriptor yX12_die.desc).map (fun d => d.parameters.length) = some 1) := by decide +kernel
theorem hd_X12_passIt : yX12_passIt.cls = RX12 ∧ (yX12_passIt.cls ≠ "java/lang/invoke/MethodHandle" ∧ yX12_passIt.cls ≠ "java/lang/invoke/VarHandle" ∧ (parseMethodDescriptor yX12_passIt.desc).map (fun d => d.parameters.length) = some 0) := by decide +kernel
theorem hd_X12_passNow : yX12_passNow.cls = RX12 ∧ (yX12_passNow.cls ≠ "java/lang/invoke/MethodHandle" ∧ yX12_passNow.cls ≠ "java/lang/invoke/VarHandle" ∧ (parseMethodDescriptor yX12_passNow.desc).map (fun d => d.parameters.length) = some 0) := by decide +kernel
theorem hd_X12_pass : yX12_pass.cls = RX12 ∧ (yX12_pass.cls ≠ "java/lang/invoke/MethodHandle" ∧ yX12_pass.cls ≠ "java/lang/invoke/VarHandle" ∧ (parseMethodDescriptor yX12_pass.desc).map (fun d => d.parameters.length) = some 0) := by decide +kernel
theorem hd_X12_isNew : yX12_isNew.cls = RX12 ∧ (yX12_isNew.cls ≠ "java/lang/invoke/MethodHandle" ∧ yX12_isNew.cls ≠ "java/lang/invoke/VarHandle" ∧ (parseMethodDescriptor yX12_isNew.desc).map (fun d => d.parameters.length) = some 1) := by decide +kernel
theorem hd_X12_findVisits : yX12_findVisits.cls = RX12 ∧ (yX12_findVisits.cls ≠ "java/lang/invoke/MethodHandle" ∧ yX12_findVisits.cls ≠ "java/lang/invoke/VarHandle" ∧ (parseMethodDescriptor yX12_findVisits.desc).map (fun d => d.parameters.length) = some 2) := by decide +kernel
theorem hd_X12_visits : yX12_visits.cls = RX12 ∧ (yX12_visits.cls ≠ "java/lang/invoke/MethodHandle" ∧ yX12_visits.cls ≠ "java/lang/invoke/VarHandle" ∧ (parseMethodDescriptor yX12_visits.desc).map (fun d => d.parameters.length) = some 3) := by decide +kernel
theorem hd_X12_canGive : yX12_canGive.cls = RX12 ∧ (yX12_canGive.cls ≠ "java/lang/invoke/MethodHandle" ∧ yX12_canGive.cls ≠ "java/lang/invoke/VarHandle" ∧ (parseMethodDescriptor yX12_canGive.desc).map (fun d => d.parameters.length) = some 1) := by decide +kernel
theorem hd_X12_gets : yX12_gets.cls = RX12 ∧ (yX12_gets.cls ≠ "java/lang/invoke/MethodHandle" ∧ yX12_gets.cls ≠ "java/lang/invoke/VarHandle" ∧ (parseMethodDescriptor yX12_gets.desc).map (fun d => d.parameters.length) = some 0) := by decide +kernel
theorem hd_X12_findExchange : yX12_findExchange.cls = RX12 ∧ (yX12_findExchange.cls ≠ "java/lang/invoke/MethodHandle" ∧ yX12_findExchange.cls ≠ "java/lang/invoke/VarHandle" ∧ (parseMethodDescriptor yX12_findExchange.desc).map (fun d => d.parameters.length) = some 0) := by decide +kernel
theorem hd_X12_exchange : yX12_exchange.cls = RX12 ∧ (yX12_exchange.cls ≠ "java/lang/invoke/MethodHandle" ∧ yX12_exchange.cls ≠ "java/lang/invoke/VarHandle" ∧ (parseMethodDescriptor yX12_exchange.desc).map (fun d => d.parameters.length) = some 1) := by decide +kernel
theorem hd_X12_clue : yX12_clue.cls = RX12 ∧ (yX12_clue.cls ≠ "java/lang/invoke/MethodHandle" ∧ yX12_clue.cls ≠ "java/lang/invoke/VarHandle" ∧ (parseMethodDescriptor yX12_clue.desc).map (fun d => d.parameters.length) = some 2) := by decide +kernel
theorem hd_X12_forget : yX12_forget.cls = RX12 ∧ (yX12_forget.cls ≠ "java/lang/invoke/MethodHandle" ∧ yX12_forget.cls ≠ "java/lang/invoke/VarHandle" ∧ (parseMethodDescriptor yX12_forget.desc).map (fun d => d.parameters.length) = some 0) := by decide +kernel
theorem hd_X12_timesTold : yX12_timesTold.cls = RX12 ∧ (yX12_timesTold.cls ≠ "java/lang/invoke/MethodHandle" ∧ yX12_timesTold.cls ≠ "java/lang/invoke/VarHandle" ∧ (parseMethodDescriptor yX12_timesTold.desc).map (fun d => d.parameters.length) = some 1) := by decide +kernel
theorem hd_X12_canHaveRung : yX12_canHaveRung.cls = RX12 ∧ (yX12_canHaveRung.cls ≠ "java/lang/invoke/MethodHandle" ∧ yX12_canHaveRung.cls ≠ "java/lang/invoke/VarHandle" ∧ (parseMethodDescriptor yX12_canHaveRung.desc).map (fun d => d.parameters.length) = some 1) := by decide +kernel
theorem hd_X12_whoCan : yX12_whoCan.cls = RX12 ∧ (yX12_whoCan.cls ≠ "java/lang/invoke/MethodHandle" ∧ yX12_whoCan.cls ≠ "java/lang/invoke/VarHandle" ∧ (parseMethodDescriptor yX12_whoCan.desc).map (fun d => d.parameters.length) = some 0) := by decide +kernel
theorem hd_X12_who : yX12_who.cls = RX12 ∧ (yX12_who.cls ≠ "java/lang/invoke/MethodHandle" ∧ yX12_who.cls ≠ "java/lang/invoke/VarHandle" ∧ (parseMethodDescriptor yX12_who.desc).map (fun d => d.parameters.length) = some 0) := by decide +kernel
theorem hd_X12_look : yX12_look.cls = RX12 ∧ (yX12_look.cls ≠ "java/lang/invoke/MethodHandle" ∧ yX12_look.cls ≠ "java/lang/invoke/VarHandle" ∧ (parseMethodDescriptor yX12_look.desc).map (fun d => d.parameters.length) = some 1) := by decide +kernel
theorem hd_X12_amend : yX12_amend.cls = RX12 ∧ (yX12_amend.cls ≠ "java/lang/invoke/MethodHandle" ∧ yX12_amend.cls ≠ "java/lang/invoke/VarHandle" ∧ (parseMethodDescriptor yX12_amend.desc).map (fun d => d.parameters.length) = some 2) := by decide +kernel
theorem hd_X12_given : yX12_given.cls = RX12 ∧ (yX12_given.cls ≠ "java/lang/invoke/MethodHandle" ∧ yX12_given.cls ≠ "java/lang/invoke/VarHandle" ∧ (parseMethodDescriptor yX12_given.desc).map (fun d => d.parameters.length) = some 3) := by decide +kernel
theorem hd_X12_worthOfAll : yX12_worthOfAll.cls = RX12 ∧ (yX12_worthOfAll.cls ≠ "java/lang/invoke/MethodHandle" ∧ yX12_worthOfAll.cls ≠ "java/lang/invoke/VarHandle" ∧ (parseMethodDescriptor yX12_worthOfAll.desc).map (fun d => d.parameters.length) = some 3) := by decide +kernel
theorem hd_X12_keptBy : yX12_keptBy.cls = RX12 ∧ (yX12_keptBy.cls ≠ "java/lang/invoke/MethodHandle" ∧ yX12_keptBy.cls ≠ "java/lang/invoke/VarHandle" ∧ (parseMethodDescriptor yX12_keptBy.desc).map (fun d => d.parameters.length) = some 4) := by decide +kernel
theorem hd_X12_keep : yX12_keep.cls = RX12 ∧ (yX12_keep.cls ≠ "java/lang/invoke/MethodHandle" ∧ yX12_keep.cls ≠ "java/lang/invoke/VarHandle" ∧ (parseMethodDescriptor yX12_keep.desc).map (fun d => d.parameters.length) = some 4) := by decide +kernel
theorem hd_X12_chainBy : yX12_chainBy.cls = RX12 ∧ (yX12_chainBy.cls ≠ "java/lang/invoke/MethodHandle" ∧ yX12_chainBy.cls ≠ "java/lang/invoke/VarHandle" ∧ (parseMethodDescriptor yX12_chainBy.desc).map (fun d => d.parameters.length) = some 3) := by decide +kernel
theorem hd_X12_chain : yX12_chain.cls = RX12 ∧ (yX12_chain.cls ≠ "java/lang/invoke/MethodHandle" ∧ yX12_chain.cls ≠ "java/lang/invoke/VarHandle" ∧ (parseMethodDescriptor yX12_chain.desc).map (fun d => d.parameters.length) = some 4) := by decide +kernel
theorem hd_X12_likely : yX12_likely.cls = RX12 ∧ (yX12_likely.cls ≠ "java/lang/invoke/MethodHandle" ∧ yX12_likely.cls ≠ "java/lang/invoke/VarHandle" ∧ (parseMethodDescriptor yX12_likely.desc).map (fun d => d.parameters.length) = some 2) := by decide +kernel
theorem hd_X12_readSum : yX12_readSum.cls = RX12 ∧ (yX12_readSum.cls ≠ "java/lang/invoke/MethodHandle" ∧ yX12_readSum.cls ≠ "java/lang/invoke/VarHandle" ∧ (parseMethodDescriptor yX12_readSum.desc).map (fun d => d.parameters.length) = some 1) := by decide +kernel
theorem hd_X12_behind : yX12_behind.cls = RX12 ∧ (yX12_behind.cls ≠ "java/lang/invoke/MethodHandle" ∧ yX12_behind.cls ≠ "java/lang/invoke/VarHandle" ∧ (parseMethodDescriptor yX12_behind.desc).map (fun d => d.parameters.length) = some 2) := by decide +kernel
theorem hd_X12_readOrder : yX12_readOrder.cls = RX12 ∧ (yX12_readOrder.cls ≠ "java/lang/invoke/MethodHandle" ∧ yX12_readOrder.cls ≠ "java/lang/invoke/VarHandle" ∧ (parseMethodDescriptor yX12_readOrder.desc).map (fun d => d.parameters.length) = some 0) := by decide +kernel
theorem hd_X12_sumOf : yX12_sumOf.cls = RX12 ∧ (yX12_sumOf.cls ≠ "java/lang/invoke/MethodHandle" ∧ yX12_sumOf.cls ≠ "java/lang/invoke/VarHandle" ∧ (parseMethodDescriptor yX12_sumOf.desc).map (fun d => d.parameters.length) = some 1) := by decide +kernel
theorem hd_X12_act : yX12_act.cls = RX12 ∧ (yX12_act.cls ≠ "java/lang/invoke/MethodHandle" ∧ yX12_act.cls ≠ "java/lang/invoke/VarHandle" ∧ (parseMethodDescriptor yX12_act.desc).map (fun d => d.parameters.length) = some 4) := by decide +kernel
theorem hd_X12_run : yX12_run.cls = RX12 ∧ (yX12_run.cls ≠ "java/lang/invoke/MethodHandle" ∧ yX12_run.cls ≠ "java/lang/invoke/VarHandle" ∧ (parseMethodDescriptor yX12_run.desc).map (fun d => d.parameters.length) = some 1) := by decide +kernel
theorem hd_X12_orders : yX12_orders.cls = RX12 ∧ (yX12_orders.cls ≠ "java/lang/invoke/MethodHandle" ∧ yX12_orders.cls ≠ "java/lang/invoke/VarHandle" ∧ (parseMethodDescriptor yX12_orders.desc).map (fun d => d.parameters.length) = some 0) := by decide +kernel
theorem hd_X12_giveBack : yX12_giveBack.cls = RX12 ∧ (yX12_giveBack.cls ≠ "java/lang/invoke/MethodHandle" ∧ yX12_giveBack.cls ≠ "java/lang/invoke/VarHandle" ∧ (parseMethodDescriptor yX12_giveBack.desc).map (fun d => d.parameters.length) = some 1) := by decide +kernel
theorem hd_X12_stopped : yX12_stopped.cls = RX12 ∧ (yX12_stopped.cls ≠ "java/lang/invoke/MethodHandle" ∧ yX12_stopped.cls ≠ "java/lang/invoke/VarHandle" ∧ (parseMethodDescriptor yX12_stopped.desc).map (fun d => d.parameters.length) = some 0) := by decide +kernel
theorem hd_X12_draw : yX12_draw.cls = RX12 ∧ (yX12_draw.cls ≠ "java/lang/invoke/MethodHandle" ∧ yX12_draw.cls ≠ "java/lang/invoke/VarHandle" ∧ (parseMethodDescriptor yX12_draw.desc).map (fun d => d.parameters.length) = some 1) := by decide +kernel
theorem hd_X12_generations : yX12_generations.cls = RX12 ∧ (yX12_generations.cls ≠ "java/lang/invoke/MethodHandle" ∧ yX12_generations.cls ≠ "java/lang/invoke/VarHandle" ∧ (parseMethodDescriptor yX12_generations.desc).map (fun d => d.parameters.length) = some 2) := by decide +kernel
theorem hd_X12_drawn : yX12_drawn.cls = RX12 ∧ (yX12_drawn.cls ≠ "java/lang/invoke/MethodHandle" ∧ yX12_drawn.cls ≠ "java/lang/invoke/VarHandle" ∧ (parseMethodDescriptor yX12_drawn.desc).map (fun d => d.parameters.length) = some 2) := by decide +kernel
theorem hd_X12_count : yX12_count.cls = RX12 ∧ (yX12_count.cls ≠ "java/lang/invoke/MethodHandle" ∧ yX12_count.cls ≠ "java/lang/invoke/VarHandle" ∧ (parseMethodDescriptor yX12_count.desc).map (fun d => d.parameters.length) = some 1) := by decide +kernel
theorem hd_X12_status : yX12_status.cls = RX12 ∧ (yX12_status.cls ≠ "java/lang/invoke/MethodHandle" ∧ yX12_status.cls ≠ "java/lang/invoke/VarHandle" ∧ (parseMethodDescriptor yX12_status.desc).map (fun d => d.parameters.length) = some 0) := by decide +kernel
theorem hd_J6_bitCount_0f7a4 : yJ6_bitCount_0f7a4.cls = RJ6 ∧ (yJ6_bitCount_0f7a4.cls ≠ "java/lang/invoke/MethodHandle" ∧ yJ6_bitCount_0f7a4.cls ≠ "java/lang/invoke/VarHandle" ∧ (parseMethodDescriptor yJ6_bitCount_0f7a4.desc).map (fun d => d.parameters.length) = some 1) := by decide +kernel
def FX0_0 : List Value := [.null, .null]
set_option maxRecDepth 20000 in
theorem FX0_d : ∀ j, j < 2 → defaultValue (tyX0 j) = vp_V FX0_0 j := by decide +kernel
def FX1_0 : List Value := [.null, .null, .null, .int 0, .int 0, .int 0]
set_option maxRecDepth 20000 in
theorem FX1_d : ∀ j, j < 6 → defaultValue (tyX1 j) = vp_V FX1_0 j := by decide +kernel
def FX2_0 : List Value := [.null, .null, .null, .null, .int 0, .int 0]
set_option maxRecDepth 20000 in
theorem FX2_d : ∀ j, j < 6 → defaultValue (tyX2 j) = vp_V FX2_0 j := by decide +kernel
def FX3_0 : List Value := [.null, .null, .int 0, .int 0]
set_option maxRecDepth 20000 in
theorem FX3_d : ∀ j, j < 4 → defaultValue (tyX3 j) = vp_V FX3_0 j := by decide +kernel
def FX4_0 : List Value := [.null, .int 0, .int 0, .null, .int 0, .null, .null, .null, .null, .null, .int 0]
set_option maxRecDepth 20000 in
theorem FX4_d : ∀ j, j < 11 → defaultValue (tyX4 j) = vp_V FX4_0 j := by decide +kernel
def FX5_0 : List Value := [.null, .null, .int 0, .int 0]
set_option maxRecDepth 20000 in
theorem FX5_d : ∀ j, j < 4 → defaultValue (tyX5 j) = vp_V FX5_0 j := by decide +kernel
def FX6_0 : List Value := [.null]
set_option maxRecDepth 20000 in
theorem FX6_d : ∀ j, j < 1 → defaultValue (tyX6 j) = vp_V FX6_0 j := by decide +kernel
def FX7_0 : List Value := [.null, .null, .null, .null, .null]
set_option maxRecDepth 20000 in
theorem FX7_d : ∀ j, j < 5 → defaultValue (tyX7 j) = vp_V FX7_0 j := by decide +kernel
def FX8_0 : List Value := [.null, .int 0, .null, .null, .int 0, .null, .null, .null, .null, .int 0, .null, .null, .int 0, .int 0, .int 0, .null, .int 0]
set_option maxRecDepth 20000 in
theorem FX8_d : ∀ j, j < 17 → defaultValue (tyX8 j) = vp_V FX8_0 j := by decide +kernel
def FX9_0 : List Value := [.null, .int 0, .int 0, .int 0, .int 0, .int 0]
set_option maxRecDepth 20000 in
theorem FX9_d : ∀ j, j < 6 → defaultValue (tyX9 j) = vp_V FX9_0 j := by decide +kernel
def FX10_0 : List Value := [.int 0, .int 0, .int 0, .null, .null, .null, .null]
set_option maxRecDepth 20000 in
theorem FX10_d : ∀ j, j < 7 → defaultValue (tyX10 j) = vp_V FX10_0 j := by decide +kernel
def FX11_0 : List Value := [.null, .null, .null, .null, .null, .null, .null, .null, .null, .null, .null, .int 0, .int 0, .int 0, .int 0, .int 0, .null, .int 0]
set_option maxRecDepth 20000 in
theorem FX11_d : ∀ j, j < 18 → defaultValue (tyX11 j) = vp_V FX11_0 j := by decide +kernel
def FX12_0 : List Value := [.int 0, .int 0, .null, .null, .null, .null, .null, .null, .int 0, .null, .null, .int 0, .null, .int 0, .int 0, .int 0, .int 0, .long 0, .int 0, .int 0, .int 0, .int 0, .null, .int 0, .null, .null, .int 0, .null, .null, .int 0, .int 0, .null, .null, .null, .int 0, .null, .null, .null, .int 0, .long 0, .long 0, .null, .null, .null, .int 0, .null, .null, .null, .null, .null, .null, .null, .null, .int 0, .int 0, .int 0, .int 0, .long 0, .null, .int 0, .int 0]
set_option maxRecDepth 20000 in
theorem FX12_d : ∀ j, j < 61 → defaultValue (tyX12 j) = vp_V FX12_0 j := by decide +kernel
