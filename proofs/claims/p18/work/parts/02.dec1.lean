theorem dX0_init_0 : decode cX0_init 0 = .ok (.aload_n 0, 1) := by decide +kernel
theorem dX0_init_1 : decode cX0_init 1 = .ok (.invokespecial 3, 3) := by decide +kernel
theorem dX0_init_4 : decode cX0_init 4 = .ok (.aload_n 0, 1) := by decide +kernel
theorem dX0_init_5 : decode cX0_init 5 = .ok (.new 9, 3) := by decide +kernel
theorem dX0_init_8 : decode cX0_init 8 = .ok (.dup, 1) := by decide +kernel
theorem dX0_init_9 : decode cX0_init 9 = .ok (.invokespecial 11, 3) := by decide +kernel
theorem dX0_init_12 : decode cX0_init 12 = .ok (.putfield 12, 3) := by decide +kernel
theorem dX0_init_15 : decode cX0_init 15 = .ok (.aload_n 0, 1) := by decide +kernel
theorem dX0_init_16 : decode cX0_init 16 = .ok (.bipush 9, 2) := by decide +kernel
theorem dX0_init_18 : decode cX0_init 18 = .ok (.newarray .int, 2) := by decide +kernel
theorem dX0_init_20 : decode cX0_init 20 = .ok (.putfield 18, 3) := by decide +kernel
theorem dX0_init_23 : decode cX0_init 23 = .ok (.return_, 1) := by decide +kernel
theorem dX0_tiring_0 : decode cX0_tiring 0 = .ok (.aload_n 0, 1) := by decide +kernel
theorem dX0_tiring_1 : decode cX0_tiring 1 = .ok (.aload_n 1, 1) := by decide +kernel
theorem dX0_tiring_2 : decode cX0_tiring 2 = .ok (.iload_n 2, 1) := by decide +kernel
theorem dX0_tiring_3 : decode cX0_tiring 3 = .ok (.iload_n 3, 1) := by decide +kernel
theorem dX0_tiring_4 : decode cX0_tiring 4 = .ok (.iconst (-1), 1) := by decide +kernel
theorem dX0_tiring_5 : decode cX0_tiring 5 = .ok (.invokevirtual 22, 3) := by decide +kernel
theorem dX0_tiring_8 : decode cX0_tiring 8 = .ok (.aload_n 0, 1) := by decide +kernel
theorem dX0_tiring_9 : decode cX0_tiring 9 = .ok (.aload_n 1, 1) := by decide +kernel
theorem dX0_tiring_10 : decode cX0_tiring 10 = .ok (.invokevirtual 26, 3) := by decide +kernel
theorem dX0_tiring_13 : decode cX0_tiring 13 = .ok (.iconst 0, 1) := by decide +kernel
theorem dX0_tiring_14 : decode cX0_tiring 14 = .ok (.invokevirtual 32, 3) := by decide +kernel
theorem dX0_tiring_17 : decode cX0_tiring 17 = .ok (.ireturn, 1) := by decide +kernel
theorem dX0_price_0 : decode cX0_price 0 = .ok (.aload_n 0, 1) := by decide +kernel
theorem dX0_price_1 : decode cX0_price 1 = .ok (.aload_n 1, 1) := by decide +kernel
theorem dX0_price_2 : decode cX0_price 2 = .ok (.iload_n 2, 1) := by decide +kernel
theorem dX0_price_3 : decode cX0_price 3 = .ok (.iload 4, 2) := by decide +kernel
theorem dX0_price_5 : decode cX0_price 5 = .ok (.iload_n 3, 1) := by decide +kernel
theorem dX0_price_6 : decode cX0_price 6 = .ok (.invokevirtual 22, 3) := by decide +kernel
theorem dX0_price_9 : decode cX0_price 9 = .ok (.aload_n 0, 1) := by decide +kernel
theorem dX0_price_10 : decode cX0_price 10 = .ok (.aload_n 1, 1) := by decide +kernel
theorem dX0_price_11 : decode cX0_price 11 = .ok (.invokevirtual 26, 3) := by decide +kernel
theorem dX0_price_14 : decode cX0_price 14 = .ok (.iconst 1, 1) := by decide +kernel
theorem dX0_price_15 : decode cX0_price 15 = .ok (.invokevirtual 32, 3) := by decide +kernel
theorem dX0_price_18 : decode cX0_price 18 = .ok (.ireturn, 1) := by decide +kernel
theorem dX0_worthIn_0 : decode cX0_worthIn 0 = .ok (.aload_n 0, 1) := by decide +kernel
theorem dX0_worthIn_1 : decode cX0_worthIn 1 = .ok (.aload_n 1, 1) := by decide +kernel
theorem dX0_worthIn_2 : decode cX0_worthIn 2 = .ok (.iconst (-1), 1) := by decide +kernel
theorem dX0_worthIn_3 : decode cX0_worthIn 3 = .ok (.iload_n 2, 1) := by decide +kernel
theorem dX0_worthIn_4 : decode cX0_worthIn 4 = .ok (.iconst (-1), 1) := by decide +kernel
theorem dX0_worthIn_5 : decode cX0_worthIn 5 = .ok (.invokevirtual 22, 3) := by decide +kernel
theorem dX0_worthIn_8 : decode cX0_worthIn 8 = .ok (.aload_n 0, 1) := by decide +kernel
theorem dX0_worthIn_9 : decode cX0_worthIn 9 = .ok (.getfield 18, 3) := by decide +kernel
theorem dX0_worthIn_12 : decode cX0_worthIn 12 = .ok (.bipush 6, 2) := by decide +kernel
theorem dX0_worthIn_14 : decode cX0_worthIn 14 = .ok (.iload_n 3, 1) := by decide +kernel
theorem dX0_worthIn_15 : decode cX0_worthIn 15 = .ok (.iastore, 1) := by decide +kernel
theorem dX0_worthIn_16 : decode cX0_worthIn 16 = .ok (.aload_n 0, 1) := by decide +kernel
theorem dX0_worthIn_17 : decode cX0_worthIn 17 = .ok (.aload_n 1, 1) := by decide +kernel
theorem dX0_worthIn_18 : decode cX0_worthIn 18 = .ok (.invokevirtual 26, 3) := by decide +kernel
theorem dX0_worthIn_21 : decode cX0_worthIn 21 = .ok (.iconst 2, 1) := by decide +kernel
theorem dX0_worthIn_22 : decode cX0_worthIn 22 = .ok (.invokevirtual 32, 3) := by decide +kernel
theorem dX0_worthIn_25 : decode cX0_worthIn 25 = .ok (.ireturn, 1) := by decide +kernel
theorem dX0_opensTo_0 : decode cX0_opensTo 0 = .ok (.aload_n 1, 1) := by decide +kernel
theorem dX0_opensTo_1 : decode cX0_opensTo 1 = .ok (.invokevirtual 26, 3) := by decide +kernel
theorem dX0_opensTo_4 : decode cX0_opensTo 4 = .ok (.astore 4, 2) := by decide +kernel
theorem dX0_opensTo_6 : decode cX0_opensTo 6 = .ok (.aload 4, 2) := by decide +kernel
theorem dX0_opensTo_8 : decode cX0_opensTo 8 = .ok (.ifnull 12, 3) := by decide +kernel
theorem dX0_opensTo_11 : decode cX0_opensTo 11 = .ok (.aload 4, 2) := by decide +kernel
theorem dX0_opensTo_13 : decode cX0_opensTo 13 = .ok (.iconst 3, 1) := by decide +kernel
theorem dX0_opensTo_14 : decode cX0_opensTo 14 = .ok (.invokevirtual 36, 3) := by decide +kernel
theorem dX0_opensTo_17 : decode cX0_opensTo 17 = .ok (.ifCond .ne 31, 3) := by decide +kernel
theorem dX0_opensTo_20 : decode cX0_opensTo 20 = .ok (.aload_n 1, 1) := by decide +kernel
theorem dX0_opensTo_21 : decode cX0_opensTo 21 = .ok (.iload_n 3, 1) := by decide +kernel
theorem dX0_opensTo_22 : decode cX0_opensTo 22 = .ok (.invokevirtual 42, 3) := by decide +kernel
theorem dX0_opensTo_25 : decode cX0_opensTo 25 = .ok (.ifCond .eq 21, 3) := by decide +kernel
theorem dX0_opensTo_28 : decode cX0_opensTo 28 = .ok (.aload_n 1, 1) := by decide +kernel
theorem dX0_opensTo_29 : decode cX0_opensTo 29 = .ok (.getfield 45, 3) := by decide +kernel
theorem dX0_opensTo_32 : decode cX0_opensTo 32 = .ok (.getfield 49, 3) := by decide +kernel
theorem dX0_opensTo_35 : decode cX0_opensTo 35 = .ok (.iload_n 3, 1) := by decide +kernel
theorem dX0_opensTo_36 : decode cX0_opensTo 36 = .ok (.iaload, 1) := by decide +kernel
theorem dX0_opensTo_37 : decode cX0_opensTo 37 = .ok (.bipush 10, 2) := by decide +kernel
theorem dX0_opensTo_39 : decode cX0_opensTo 39 = .ok (.if_icmp .ge 7, 3) := by decide +kernel
theorem dX0_opensTo_42 : decode cX0_opensTo 42 = .ok (.iconst 1, 1) := by decide +kernel
theorem dX0_opensTo_43 : decode cX0_opensTo 43 = .ok (.goto 4, 3) := by decide +kernel
theorem dX0_opensTo_46 : decode cX0_opensTo 46 = .ok (.iconst 0, 1) := by decide +kernel
theorem dX0_opensTo_47 : decode cX0_opensTo 47 = .ok (.ireturn, 1) := by decide +kernel
theorem dX0_opensTo_48 : decode cX0_opensTo 48 = .ok (.aload_n 0, 1) := by decide +kernel
theorem dX0_opensTo_49 : decode cX0_opensTo 49 = .ok (.aload_n 1, 1) := by decide +kernel
theorem dX0_opensTo_50 : decode cX0_opensTo 50 = .ok (.iload_n 2, 1) := by decide +kernel
theorem dX0_opensTo_51 : decode cX0_opensTo 51 = .ok (.iload_n 3, 1) := by decide +kernel
theorem dX0_opensTo_52 : decode cX0_opensTo 52 = .ok (.iconst (-1), 1) := by decide +kernel
theorem dX0_opensTo_53 : decode cX0_opensTo 53 = .ok (.invokevirtual 22, 3) := by decide +kernel
theorem dX0_opensTo_56 : decode cX0_opensTo 56 = .ok (.aload_n 0, 1) := by decide +kernel
theorem dX0_opensTo_57 : decode cX0_opensTo 57 = .ok (.aload 4, 2) := by decide +kernel
theorem dX0_opensTo_59 : decode cX0_opensTo 59 = .ok (.iconst 3, 1) := by decide +kernel
theorem dX0_opensTo_60 : decode cX0_opensTo 60 = .ok (.invokevirtual 54, 3) := by decide +kernel
theorem dX0_opensTo_63 : decode cX0_opensTo 63 = .ok (.ireturn, 1) := by decide +kernel
theorem dX0_isBarred_0 : decode cX0_isBarred 0 = .ok (.aload_n 0, 1) := by decide +kernel
theorem dX0_isBarred_1 : decode cX0_isBarred 1 = .ok (.aload_n 1, 1) := by decide +kernel
theorem dX0_isBarred_2 : decode cX0_isBarred 2 = .ok (.iload_n 2, 1) := by decide +kernel
theorem dX0_isBarred_3 : decode cX0_isBarred 3 = .ok (.iload 4, 2) := by decide +kernel
theorem dX0_isBarred_5 : decode cX0_isBarred 5 = .ok (.iload_n 3, 1) := by decide +kernel
theorem dX0_isBarred_6 : decode cX0_isBarred 6 = .ok (.invokevirtual 22, 3) := by decide +kernel
theorem dX0_isBarred_9 : decode cX0_isBarred 9 = .ok (.aload_n 0, 1) := by decide +kernel
theorem dX0_isBarred_10 : decode cX0_isBarred 10 = .ok (.aload_n 1, 1) := by decide +kernel
theorem dX0_isBarred_11 : decode cX0_isBarred 11 = .ok (.invokevirtual 26, 3) := by decide +kernel
theorem dX0_isBarred_14 : decode cX0_isBarred 14 = .ok (.iconst 4, 1) := by decide +kernel
theorem dX0_isBarred_15 : decode cX0_isBarred 15 = .ok (.invokevirtual 54, 3) := by decide +kernel
theorem dX0_isBarred_18 : decode cX0_isBarred 18 = .ok (.ireturn, 1) := by decide +kernel
theorem dX0_setWords_0 : decode cX0_setWords 0 = .ok (.aload_n 1, 1) := by decide +kernel
theorem dX0_setWords_1 : decode cX0_setWords 1 = .ok (.iload_n 2, 1) := by decide +kernel
theorem dX0_setWords_2 : decode cX0_setWords 2 = .ok (.invokevirtual 58, 3) := by decide +kernel
theorem dX0_setWords_5 : decode cX0_setWords 5 = .ok (.istore 5, 2) := by decide +kernel
theorem dX0_setWords_7 : decode cX0_setWords 7 = .ok (.aload_n 0, 1) := by decide +kernel
theorem dX0_setWords_8 : decode cX0_setWords 8 = .ok (.getfield 18, 3) := by decide +kernel
theorem dX0_setWords_11 : decode cX0_setWords 11 = .ok (.iconst 0, 1) := by decide +kernel
theorem dX0_setWords_12 : decode cX0_setWords 12 = .ok (.iload_n 2, 1) := by decide +kernel
theorem dX0_setWords_13 : decode cX0_setWords 13 = .ok (.iastore, 1) := by decide +kernel
theorem dX0_setWords_14 : decode cX0_setWords 14 = .ok (.aload_n 0, 1) := by decide +kernel
theorem dX0_setWords_15 : decode cX0_setWords 15 = .ok (.getfield 18, 3) := by decide +kernel
theorem dX0_setWords_18 : decode cX0_setWords 18 = .ok (.iconst 1, 1) := by decide +kernel
theorem dX0_setWords_19 : decode cX0_setWords 19 = .ok (.iload 5, 2) := by decide +kernel
theorem dX0_setWords_21 : decode cX0_setWords 21 = .ok (.ifCond .eq 12, 3) := by decide +kernel
theorem dX0_setWords_24 : decode cX0_setWords 24 = .ok (.aload_n 1, 1) := by decide +kernel
theorem dX0_setWords_25 : decode cX0_setWords 25 = .ok (.getfield 61, 3) := by decide +kernel
theorem dX0_setWords_28 : decode cX0_setWords 28 = .ok (.iload_n 2, 1) := by decide +kernel
theorem dX0_setWords_29 : decode cX0_setWords 29 = .ok (.iaload, 1) := by decide +kernel
theorem dX0_setWords_30 : decode cX0_setWords 30 = .ok (.goto 4, 3) := by decide +kernel
theorem dX0_setWords_33 : decode cX0_setWords 33 = .ok (.iconst (-1), 1) := by decide +kernel
theorem dX0_setWords_34 : decode cX0_setWords 34 = .ok (.iastore, 1) := by decide +kernel
theorem dX0_setWords_35 : decode cX0_setWords 35 = .ok (.aload_n 0, 1) := by decide +kernel
theorem dX0_setWords_36 : decode cX0_setWords 36 = .ok (.getfield 18, 3) := by decide +kernel
theorem dX0_setWords_39 : decode cX0_setWords 39 = .ok (.iconst 2, 1) := by decide +kernel
theorem dX0_setWords_40 : decode cX0_setWords 40 = .ok (.iload 5, 2) := by decide +kernel
theorem dX0_setWords_42 : decode cX0_setWords 42 = .ok (.ifCond .eq 15, 3) := by decide +kernel
theorem dX0_setWords_45 : decode cX0_setWords 45 = .ok (.aload_n 1, 1) := by decide +kernel
theorem dX0_setWords_46 : decode cX0_setWords 46 = .ok (.getfield 45, 3) := by decide +kernel
theorem dX0_setWords_49 : decode cX0_setWords 49 = .ok (.getfield 64, 3) := by decide +kernel
theorem dX0_setWords_52 : decode cX0_setWords 52 = .ok (.iload_n 2, 1) := by decide +kernel
theorem dX0_setWords_53 : decode cX0_setWords 53 = .ok (.iaload, 1) := by decide +kernel
theorem dX0_setWords_54 : decode cX0_setWords 54 = .ok (.goto 4, 3) := by decide +kernel
theorem dX0_setWords_57 : decode cX0_setWords 57 = .ok (.iconst (-1), 1) := by decide +kernel
theorem dX0_setWords_58 : decode cX0_setWords 58 = .ok (.iastore, 1) := by decide +kernel
theorem dX0_setWords_59 : decode cX0_setWords 59 = .ok (.aload_n 0, 1) := by decide +kernel
theorem dX0_setWords_60 : decode cX0_setWords 60 = .ok (.getfield 18, 3) := by decide +kernel
theorem dX0_setWords_63 : decode cX0_setWords 63 = .ok (.iconst 3, 1) := by decide +kernel
theorem dX0_setWords_64 : decode cX0_setWords 64 = .ok (.iload_n 3, 1) := by decide +kernel
theorem dX0_setWords_65 : decode cX0_setWords 65 = .ok (.iastore, 1) := by decide +kernel
theorem dX0_setWords_66 : decode cX0_setWords 66 = .ok (.aload_n 0, 1) := by decide +kernel
theorem dX0_setWords_67 : decode cX0_setWords 67 = .ok (.getfield 18, 3) := by decide +kernel
theorem dX0_setWords_70 : decode cX0_setWords 70 = .ok (.iconst 4, 1) := by decide +kernel
theorem dX0_setWords_71 : decode cX0_setWords 71 = .ok (.aload_n 1, 1) := by decide +kernel
theorem dX0_setWords_72 : decode cX0_setWords 72 = .ok (.iload_n 3, 1) := by decide +kernel
theorem dX0_setWords_73 : decode cX0_setWords 73 = .ok (.invokevirtual 42, 3) := by decide +kernel
theorem dX0_setWords_76 : decode cX0_setWords 76 = .ok (.ifCond .eq 15, 3) := by decide +kernel
theorem dX0_setWords_79 : decode cX0_setWords 79 = .ok (.aload_n 1, 1) := by decide +kernel
theorem dX0_setWords_80 : decode cX0_setWords 80 = .ok (.getfield 45, 3) := by decide +kernel
theorem dX0_setWords_83 : decode cX0_setWords 83 = .ok (.getfield 49, 3) := by decide +kernel
theorem dX0_setWords_86 : decode cX0_setWords 86 = .ok (.iload_n 3, 1) := by decide +kernel
theorem dX0_setWords_87 : decode cX0_setWords 87 = .ok (.iaload, 1) := by decide +kernel
theorem dX0_setWords_88 : decode cX0_setWords 88 = .ok (.goto 4, 3) := by decide +kernel
theorem dX0_setWords_91 : decode cX0_setWords 91 = .ok (.iconst (-1), 1) := by decide +kernel
theorem dX0_setWords_92 : decode cX0_setWords 92 = .ok (.iastore, 1) := by decide +kernel
theorem dX0_setWords_93 : decode cX0_setWords 93 = .ok (.aload_n 0, 1) := by decide +kernel
theorem dX0_setWords_94 : decode cX0_setWords 94 = .ok (.getfield 18, 3) := by decide +kernel
theorem dX0_setWords_97 : decode cX0_setWords 97 = .ok (.iconst 5, 1) := by decide +kernel
theorem dX0_setWords_98 : decode cX0_setWords 98 = .ok (.iload 5, 2) := by decide +kernel
theorem dX0_setWords_100 : decode cX0_setWords 100 = .ok (.ifCond .eq 12, 3) := by decide +kernel
theorem dX0_setWords_103 : decode cX0_setWords 103 = .ok (.aload_n 1, 1) := by decide +kernel
theorem dX0_setWords_104 : decode cX0_setWords 104 = .ok (.iload_n 2, 1) := by decide +kernel
theorem dX0_setWords_105 : decode cX0_setWords 105 = .ok (.iload_n 3, 1) := by decide +kernel
theorem dX0_setWords_106 : decode cX0_setWords 106 = .ok (.invokevirtual 67, 3) := by decide +kernel
theorem dX0_setWords_109 : decode cX0_setWords 109 = .ok (.goto 4, 3) := by decide +kernel
theorem dX0_setWords_112 : decode cX0_setWords 112 = .ok (.iconst (-1), 1) := by decide +kernel
theorem dX0_setWords_113 : decode cX0_setWords 113 = .ok (.iastore, 1) := by decide +kernel
theorem dX0_setWords_114 : decode cX0_setWords 114 = .ok (.aload_n 0, 1) := by decide +kernel
theorem dX0_setWords_115 : decode cX0_setWords 115 = .ok (.getfield 18, 3) := by decide +kernel
theorem dX0_setWords_118 : decode cX0_setWords 118 = .ok (.bipush 6, 2) := by decide +kernel
theorem dX0_setWords_120 : decode cX0_setWords 120 = .ok (.aload_n 1, 1) := by decide +kernel
theorem dX0_setWords_121 : decode cX0_setWords 121 = .ok (.getfield 45, 3) := by decide +kernel
theorem dX0_setWords_124 : decode cX0_setWords 124 = .ok (.getfield 71, 3) := by decide +kernel
theorem dX0_setWords_127 : decode cX0_setWords 127 = .ok (.iastore, 1) := by decide +kernel
theorem dX0_setWords_128 : decode cX0_setWords 128 = .ok (.aload_n 0, 1) := by decide +kernel
theorem dX0_setWords_129 : decode cX0_setWords 129 = .ok (.getfield 18, 3) := by decide +kernel
theorem dX0_setWords_132 : decode cX0_setWords 132 = .ok (.bipush 7, 2) := by decide +kernel
theorem dX0_setWords_134 : decode cX0_setWords 134 = .ok (.iload 4, 2) := by decide +kernel
theorem dX0_setWords_136 : decode cX0_setWords 136 = .ok (.iastore, 1) := by decide +kernel
theorem dX0_setWords_137 : decode cX0_setWords 137 = .ok (.aload_n 0, 1) := by decide +kernel
theorem dX0_setWords_138 : decode cX0_setWords 138 = .ok (.getfield 18, 3) := by decide +kernel
theorem dX0_setWords_141 : decode cX0_setWords 141 = .ok (.bipush 8, 2) := by decide +kernel
theorem dX0_setWords_143 : decode cX0_setWords 143 = .ok (.aload_n 1, 1) := by decide +kernel
theorem dX0_setWords_144 : decode cX0_setWords 144 = .ok (.getfield 75, 3) := by decide +kernel
theorem dX0_setWords_147 : decode cX0_setWords 147 = .ok (.iastore, 1) := by decide +kernel
theorem dX0_setWords_148 : decode cX0_setWords 148 = .ok (.return_, 1) := by decide +kernel
theorem dX0_lastTold_0 : decode cX0_lastTold 0 = .ok (.iload_n 2, 1) := by decide +kernel
theorem dX0_lastTold_1 : decode cX0_lastTold 1 = .ok (.ifCond .lt 8, 3) := by decide +kernel
theorem dX0_lastTold_4 : decode cX0_lastTold 4 = .ok (.iload_n 2, 1) := by decide +kernel
theorem dX0_lastTold_5 : decode cX0_lastTold 5 = .ok (.iconst 2, 1) := by decide +kernel
theorem dX0_lastTold_6 : decode cX0_lastTold 6 = .ok (.if_icmp .le 5, 3) := by decide +kernel
theorem dX0_lastTold_9 : decode cX0_lastTold 9 = .ok (.iconst (-1), 1) := by decide +kernel
theorem dX0_lastTold_10 : decode cX0_lastTold 10 = .ok (.ireturn, 1) := by decide +kernel
theorem dX0_lastTold_11 : decode cX0_lastTold 11 = .ok (.aload_n 1, 1) := by decide +kernel
theorem dX0_lastTold_12 : decode cX0_lastTold 12 = .ok (.ifnonnull 7, 3) := by decide +kernel
theorem dX0_lastTold_15 : decode cX0_lastTold 15 = .ok (.iconst (-1), 1) := by decide +kernel
theorem dX0_lastTold_16 : decode cX0_lastTold 16 = .ok (.goto 9, 3) := by decide +kernel
theorem dX0_lastTold_19 : decode cX0_lastTold 19 = .ok (.aload_n 1, 1) := by decide +kernel
theorem dX0_lastTold_20 : decode cX0_lastTold 20 = .ok (.getfield 78, 3) := by decide +kernel
theorem dX0_lastTold_23 : decode cX0_lastTold 23 = .ok (.iconst 1, 1) := by decide +kernel
theorem dX0_lastTold_24 : decode cX0_lastTold 24 = .ok (.isub, 1) := by decide +kernel
theorem dX0_lastTold_25 : decode cX0_lastTold 25 = .ok (.istore_n 3, 1) := by decide +kernel
theorem dX0_lastTold_26 : decode cX0_lastTold 26 = .ok (.iload_n 3, 1) := by decide +kernel
theorem dX0_lastTold_27 : decode cX0_lastTold 27 = .ok (.istore 4, 2) := by decide +kernel
theorem dX0_lastTold_29 : decode cX0_lastTold 29 = .ok (.iload 4, 2) := by decide +kernel
theorem dX0_lastTold_31 : decode cX0_lastTold 31 = .ok (.ifCond .lt 78, 3) := by decide +kernel
theorem dX0_lastTold_34 : decode cX0_lastTold 34 = .ok (.aload_n 1, 1) := by decide +kernel
theorem dX0_lastTold_35 : decode cX0_lastTold 35 = .ok (.getfield 81, 3) := by decide +kernel
theorem dX0_lastTold_38 : decode cX0_lastTold 38 = .ok (.iload 4, 2) := by decide +kernel
theorem dX0_lastTold_40 : decode cX0_lastTold 40 = .ok (.iaload, 1) := by decide +kernel
theorem dX0_lastTold_41 : decode cX0_lastTold 41 = .ok (.iload_n 2, 1) := by decide +kernel
theorem dX0_lastTold_42 : decode cX0_lastTold 42 = .ok (.if_icmp .ne 61, 3) := by decide +kernel
theorem dX0_lastTold_45 : decode cX0_lastTold 45 = .ok (.aload_n 0, 1) := by decide +kernel
theorem dX0_lastTold_46 : decode cX0_lastTold 46 = .ok (.getfield 12, 3) := by decide +kernel
theorem dX0_lastTold_49 : decode cX0_lastTold 49 = .ok (.aload_n 1, 1) := by decide +kernel
theorem dX0_lastTold_50 : decode cX0_lastTold 50 = .ok (.iload 4, 2) := by decide +kernel
theorem dX0_lastTold_52 : decode cX0_lastTold 52 = .ok (.iconst 3, 1) := by decide +kernel
theorem dX0_lastTold_53 : decode cX0_lastTold 53 = .ok (.aload_n 0, 1) := by decide +kernel
theorem dX0_lastTold_54 : decode cX0_lastTold 54 = .ok (.getfield 18, 3) := by decide +kernel
theorem dX0_lastTold_57 : decode cX0_lastTold 57 = .ok (.invokevirtual 84, 3) := by decide +kernel
theorem dX0_lastTold_60 : decode cX0_lastTold 60 = .ok (.iconst 1, 1) := by decide +kernel
theorem dX0_lastTold_61 : decode cX0_lastTold 61 = .ok (.if_icmp .ne 42, 3) := by decide +kernel
theorem dX0_lastTold_64 : decode cX0_lastTold 64 = .ok (.aload_n 0, 1) := by decide +kernel
theorem dX0_lastTold_65 : decode cX0_lastTold 65 = .ok (.getfield 12, 3) := by decide +kernel
theorem dX0_lastTold_68 : decode cX0_lastTold 68 = .ok (.aload_n 1, 1) := by decide +kernel
theorem dX0_lastTold_69 : decode cX0_lastTold 69 = .ok (.iload 4, 2) := by decide +kernel
theorem dX0_lastTold_71 : decode cX0_lastTold 71 = .ok (.iconst 0, 1) := by decide +kernel
theorem dX0_lastTold_72 : decode cX0_lastTold 72 = .ok (.aload_n 0, 1) := by decide +kernel
theorem dX0_lastTold_73 : decode cX0_lastTold 73 = .ok (.getfield 18, 3) := by decide +kernel
theorem dX0_lastTold_76 : decode cX0_lastTold 76 = .ok (.invokevirtual 84, 3) := by decide +kernel
theorem dX0_lastTold_79 : decode cX0_lastTold 79 = .ok (.istore 5, 2) := by decide +kernel
theorem dX0_lastTold_81 : decode cX0_lastTold 81 = .ok (.iload 5, 2) := by decide +kernel
theorem dX0_lastTold_83 : decode cX0_lastTold 83 = .ok (.ldc 88, 2) := by decide +kernel
theorem dX0_lastTold_85 : decode cX0_lastTold 85 = .ok (.if_icmp .eq 18, 3) := by decide +kernel
theorem dX0_lastTold_88 : decode cX0_lastTold 88 = .ok (.iconst 0, 1) := by decide +kernel
theorem dX0_lastTold_89 : decode cX0_lastTold 89 = .ok (.iload 5, 2) := by decide +kernel
theorem dX0_lastTold_91 : decode cX0_lastTold 91 = .ok (.getstatic 89, 3) := by decide +kernel
theorem dX0_lastTold_94 : decode cX0_lastTold 94 = .ok (.iload_n 2, 1) := by decide +kernel
theorem dX0_lastTold_95 : decode cX0_lastTold 95 = .ok (.iaload, 1) := by decide +kernel
theorem dX0_lastTold_96 : decode cX0_lastTold 96 = .ok (.invokestatic 92, 3) := by decide +kernel
theorem dX0_lastTold_99 : decode cX0_lastTold 99 = .ok (.invokestatic 97, 3) := by decide +kernel
theorem dX0_lastTold_102 : decode cX0_lastTold 102 = .ok (.ireturn, 1) := by decide +kernel
theorem dX0_lastTold_103 : decode cX0_lastTold 103 = .ok (.iinc 4 (-1), 3) := by decide +kernel
theorem dX0_lastTold_106 : decode cX0_lastTold 106 = .ok (.goto (-77), 3) := by decide +kernel
theorem dX0_lastTold_109 : decode cX0_lastTold 109 = .ok (.getstatic 100, 3) := by decide +kernel
theorem dX0_lastTold_112 : decode cX0_lastTold 112 = .ok (.iload_n 2, 1) := by decide +kernel
theorem dX0_lastTold_113 : decode cX0_lastTold 113 = .ok (.iaload, 1) := by decide +kernel
theorem dX0_lastTold_114 : decode cX0_lastTold 114 = .ok (.ireturn, 1) := by decide +kernel
theorem dX0_someHolds_0 : decode cX0_someHolds 0 = .ok (.aload_n 1, 1) := by decide +kernel
theorem dX0_someHolds_1 : decode cX0_someHolds 1 = .ok (.ifnonnull 7, 3) := by decide +kernel
theorem dX0_someHolds_4 : decode cX0_someHolds 4 = .ok (.iconst 0, 1) := by decide +kernel
theorem dX0_someHolds_5 : decode cX0_someHolds 5 = .ok (.goto 7, 3) := by decide +kernel
theorem dX0_someHolds_8 : decode cX0_someHolds 8 = .ok (.aload_n 1, 1) := by decide +kernel
theorem dX0_someHolds_9 : decode cX0_someHolds 9 = .ok (.getfield 78, 3) := by decide +kernel
theorem dX0_someHolds_12 : decode cX0_someHolds 12 = .ok (.istore_n 3, 1) := by decide +kernel
theorem dX0_someHolds_13 : decode cX0_someHolds 13 = .ok (.iconst 0, 1) := by decide +kernel
theorem dX0_someHolds_14 : decode cX0_someHolds 14 = .ok (.istore 4, 2) := by decide +kernel
theorem dX0_someHolds_16 : decode cX0_someHolds 16 = .ok (.iload 4, 2) := by decide +kernel
theorem dX0_someHolds_18 : decode cX0_someHolds 18 = .ok (.iload_n 3, 1) := by decide +kernel
theorem dX0_someHolds_19 : decode cX0_someHolds 19 = .ok (.if_icmp .ge 41, 3) := by decide +kernel
theorem dX0_someHolds_22 : decode cX0_someHolds 22 = .ok (.aload_n 1, 1) := by decide +kernel
theorem dX0_someHolds_23 : decode cX0_someHolds 23 = .ok (.getfield 81, 3) := by decide +kernel
theorem dX0_someHolds_26 : decode cX0_someHolds 26 = .ok (.iload 4, 2) := by decide +kernel
theorem dX0_someHolds_28 : decode cX0_someHolds 28 = .ok (.iaload, 1) := by decide +kernel
theorem dX0_someHolds_29 : decode cX0_someHolds 29 = .ok (.iload_n 2, 1) := by decide +kernel
theorem dX0_someHolds_30 : decode cX0_someHolds 30 = .ok (.if_icmp .ne 24, 3) := by decide +kernel
theorem dX0_someHolds_33 : decode cX0_someHolds 33 = .ok (.aload_n 0, 1) := by decide +kernel
theorem dX0_someHolds_34 : decode cX0_someHolds 34 = .ok (.getfield 12, 3) := by decide +kernel
theorem dX0_someHolds_37 : decode cX0_someHolds 37 = .ok (.aload_n 1, 1) := by decide +kernel
theorem dX0_someHolds_38 : decode cX0_someHolds 38 = .ok (.iload 4, 2) := by decide +kernel
theorem dX0_someHolds_40 : decode cX0_someHolds 40 = .ok (.iconst 3, 1) := by decide +kernel
theorem dX0_someHolds_41 : decode cX0_someHolds 41 = .ok (.aload_n 0, 1) := by decide +kernel
theorem dX0_someHolds_42 : decode cX0_someHolds 42 = .ok (.getfield 18, 3) := by decide +kernel
theorem dX0_someHolds_45 : decode cX0_someHolds 45 = .ok (.invokevirtual 84, 3) := by decide +kernel
theorem dX0_someHolds_48 : decode cX0_someHolds 48 = .ok (.iconst 1, 1) := by decide +kernel
theorem dX0_someHolds_49 : decode cX0_someHolds 49 = .ok (.if_icmp .ne 5, 3) := by decide +kernel
theorem dX0_someHolds_52 : decode cX0_someHolds 52 = .ok (.iconst 1, 1) := by decide +kernel
theorem dX0_someHolds_53 : decode cX0_someHolds 53 = .ok (.ireturn, 1) := by decide +kernel
theorem dX0_someHolds_54 : decode cX0_someHolds 54 = .ok (.iinc 4 1, 3) := by decide +kernel
theorem dX0_someHolds_57 : decode cX0_someHolds 57 = .ok (.goto (-41), 3) := by decide +kernel
theorem dX0_someHolds_60 : decode cX0_someHolds 60 = .ok (.iconst 0, 1) := by decide +kernel
theorem dX0_someHolds_61 : decode cX0_someHolds 61 = .ok (.ireturn, 1) := by decide +kernel
theorem dX1_init_0 : decode cX1_init 0 = .ok (.aload_n 0, 1) := by decide +kernel
theorem dX1_init_1 : decode cX1_init 1 = .ok (.invokespecial 3, 3) := by decide +kernel
theorem dX1_init_4 : decode cX1_init 4 = .ok (.aload_n 0, 1) := by decide +kernel
theorem dX1_init_5 : decode cX1_init 5 = .ok (.new 9, 3) := by decide +kernel
theorem dX1_init_8 : decode cX1_init 8 = .ok (.dup, 1) := by decide +kernel
theorem dX1_init_9 : decode cX1_init 9 = .ok (.invokespecial 11, 3) := by decide +kernel
theorem dX1_init_12 : decode cX1_init 12 = .ok (.putfield 12, 3) := by decide +kernel
theorem dX1_init_15 : decode cX1_init 15 = .ok (.aload_n 0, 1) := by decide +kernel
theorem dX1_init_16 : decode cX1_init 16 = .ok (.bipush 26, 2) := by decide +kernel
theorem dX1_init_18 : decode cX1_init 18 = .ok (.newarray .int, 2) := by decide +kernel
theorem dX1_init_20 : decode cX1_init 20 = .ok (.putfield 18, 3) := by decide +kernel
theorem dX1_init_23 : decode cX1_init 23 = .ok (.aload_n 0, 1) := by decide +kernel
theorem dX1_init_24 : decode cX1_init 24 = .ok (.iconst (-1), 1) := by decide +kernel
theorem dX1_init_25 : decode cX1_init 25 = .ok (.putfield 22, 3) := by decide +kernel
theorem dX1_init_28 : decode cX1_init 28 = .ok (.aload_n 0, 1) := by decide +kernel
theorem dX1_init_29 : decode cX1_init 29 = .ok (.iconst 0, 1) := by decide +kernel
theorem dX1_init_30 : decode cX1_init 30 = .ok (.putfield 26, 3) := by decide +kernel
theorem dX1_init_33 : decode cX1_init 33 = .ok (.aload_n 0, 1) := by decide +kernel
theorem dX1_init_34 : decode cX1_init 34 = .ok (.iconst 0, 1) := by decide +kernel
theorem dX1_init_35 : decode cX1_init 35 = .ok (.putfield 29, 3) := by decide +kernel
theorem dX1_init_38 : decode cX1_init 38 = .ok (.aload_n 0, 1) := by decide +kernel
theorem dX1_init_39 : decode cX1_init 39 = .ok (.aload_n 1, 1) := by decide +kernel
theorem dX1_init_40 : decode cX1_init 40 = .ok (.putfield 32, 3) := by decide +kernel
theorem dX1_init_43 : decode cX1_init 43 = .ok (.return_, 1) := by decide +kernel
theorem dX1_ringBell_0 : decode cX1_ringBell 0 = .ok (.aload_n 1, 1) := by decide +kernel
theorem dX1_ringBell_1 : decode cX1_ringBell 1 = .ok (.iload_n 3, 1) := by decide +kernel
theorem dX1_ringBell_2 : decode cX1_ringBell 2 = .ok (.invokevirtual 36, 3) := by decide +kernel
theorem dX1_ringBell_5 : decode cX1_ringBell 5 = .ok (.ifCond .eq 12, 3) := by decide +kernel
theorem dX1_ringBell_8 : decode cX1_ringBell 8 = .ok (.aload_n 1, 1) := by decide +kernel
theorem dX1_ringBell_9 : decode cX1_ringBell 9 = .ok (.iload 4, 2) := by decide +kernel
theorem dX1_ringBell_11 : decode cX1_ringBell 11 = .ok (.invokevirtual 42, 3) := by decide +kernel
theorem dX1_ringBell_14 : decode cX1_ringBell 14 = .ok (.ifCond .ne 6, 3) := by decide +kernel
theorem dX1_ringBell_17 : decode cX1_ringBell 17 = .ok (.bipush (-2), 2) := by decide +kernel
theorem dX1_ringBell_19 : decode cX1_ringBell 19 = .ok (.ireturn, 1) := by decide +kernel
theorem dX1_ringBell_20 : decode cX1_ringBell 20 = .ok (.aload_n 1, 1) := by decide +kernel
theorem dX1_ringBell_21 : decode cX1_ringBell 21 = .ok (.iload_n 3, 1) := by decide +kernel
theorem dX1_ringBell_22 : decode cX1_ringBell 22 = .ok (.invokevirtual 45, 3) := by decide +kernel
theorem dX1_ringBell_25 : decode cX1_ringBell 25 = .ok (.ifCond .eq 14, 3) := by decide +kernel
theorem dX1_ringBell_28 : decode cX1_ringBell 28 = .ok (.aload_n 1, 1) := by decide +kernel
theorem dX1_ringBell_29 : decode cX1_ringBell 29 = .ok (.iload_n 3, 1) := by decide +kernel
theorem dX1_ringBell_30 : decode cX1_ringBell 30 = .ok (.iload 4, 2) := by decide +kernel
theorem dX1_ringBell_32 : decode cX1_ringBell 32 = .ok (.invokevirtual 48, 3) := by decide +kernel
theorem dX1_ringBell_35 : decode cX1_ringBell 35 = .ok (.iconst 1, 1) := by decide +kernel
theorem dX1_ringBell_36 : decode cX1_ringBell 36 = .ok (.if_icmp .ge 6, 3) := by decide +kernel
theorem dX1_ringBell_39 : decode cX1_ringBell 39 = .ok (.bipush (-3), 2) := by decide +kernel
theorem dX1_ringBell_41 : decode cX1_ringBell 41 = .ok (.ireturn, 1) := by decide +kernel
theorem dX1_ringBell_42 : decode cX1_ringBell 42 = .ok (.aload_n 2, 1) := by decide +kernel
theorem dX1_ringBell_43 : decode cX1_ringBell 43 = .ok (.iconst 0, 1) := by decide +kernel
theorem dX1_ringBell_44 : decode cX1_ringBell 44 = .ok (.aload_n 1, 1) := by decide +kernel
theorem dX1_ringBell_45 : decode cX1_ringBell 45 = .ok (.getfield 52, 3) := by decide +kernel
theorem dX1_ringBell_48 : decode cX1_ringBell 48 = .ok (.invokestatic 56, 3) := by decide +kernel
theorem dX1_ringBell_51 : decode cX1_ringBell 51 = .ok (.aload_n 0, 1) := by decide +kernel
theorem dX1_ringBell_52 : decode cX1_ringBell 52 = .ok (.getfield 32, 3) := by decide +kernel
theorem dX1_ringBell_55 : decode cX1_ringBell 55 = .ok (.aload_n 1, 1) := by decide +kernel
theorem dX1_ringBell_56 : decode cX1_ringBell 56 = .ok (.iload_n 3, 1) := by decide +kernel
theorem dX1_ringBell_57 : decode cX1_ringBell 57 = .ok (.iload 4, 2) := by decide +kernel
theorem dX1_ringBell_59 : decode cX1_ringBell 59 = .ok (.invokevirtual 60, 3) := by decide +kernel
theorem dX1_ringBell_62 : decode cX1_ringBell 62 = .ok (.istore 5, 2) := by decide +kernel
theorem dX1_ringBell_64 : decode cX1_ringBell 64 = .ok (.aload_n 0, 1) := by decide +kernel
theorem dX1_ringBell_65 : decode cX1_ringBell 65 = .ok (.getfield 32, 3) := by decide +kernel
theorem dX1_ringBell_68 : decode cX1_ringBell 68 = .ok (.aload_n 1, 1) := by decide +kernel
theorem dX1_ringBell_69 : decode cX1_ringBell 69 = .ok (.iload_n 3, 1) := by decide +kernel
theorem dX1_ringBell_70 : decode cX1_ringBell 70 = .ok (.iload 4, 2) := by decide +kernel
theorem dX1_ringBell_72 : decode cX1_ringBell 72 = .ok (.invokevirtual 66, 3) := by decide +kernel
theorem dX1_ringBell_75 : decode cX1_ringBell 75 = .ok (.istore 6, 2) := by decide +kernel
theorem dX1_ringBell_77 : decode cX1_ringBell 77 = .ok (.aload_n 1, 1) := by decide +kernel
theorem dX1_ringBell_78 : decode cX1_ringBell 78 = .ok (.getfield 52, 3) := by decide +kernel
theorem dX1_ringBell_81 : decode cX1_ringBell 81 = .ok (.getfield 70, 3) := by decide +kernel
theorem dX1_ringBell_84 : decode cX1_ringBell 84 = .ok (.iload_n 3, 1) := by decide +kernel
theorem dX1_ringBell_85 : decode cX1_ringBell 85 = .ok (.iload 4, 2) := by decide +kernel
theorem dX1_ringBell_87 : decode cX1_ringBell 87 = .ok (.invokestatic 75, 3) := by decide +kernel
theorem dX1_ringBell_90 : decode cX1_ringBell 90 = .ok (.dup2, 1) := by decide +kernel
theorem dX1_ringBell_91 : decode cX1_ringBell 91 = .ok (.iaload, 1) := by decide +kernel
theorem dX1_ringBell_92 : decode cX1_ringBell 92 = .ok (.iconst 1, 1) := by decide +kernel
theorem dX1_ringBell_93 : decode cX1_ringBell 93 = .ok (.iadd, 1) := by decide +kernel
theorem dX1_ringBell_94 : decode cX1_ringBell 94 = .ok (.iastore, 1) := by decide +kernel
theorem dX1_ringBell_95 : decode cX1_ringBell 95 = .ok (.aload_n 1, 1) := by decide +kernel
theorem dX1_ringBell_96 : decode cX1_ringBell 96 = .ok (.getfield 52, 3) := by decide +kernel
theorem dX1_ringBell_99 : decode cX1_ringBell 99 = .ok (.getfield 78, 3) := by decide +kernel
theorem dX1_ringBell_102 : decode cX1_ringBell 102 = .ok (.iload 4, 2) := by decide +kernel
theorem dX1_ringBell_104 : decode cX1_ringBell 104 = .ok (.aload_n 1, 1) := by decide +kernel
theorem dX1_ringBell_105 : decode cX1_ringBell 105 = .ok (.getfield 52, 3) := by decide +kernel
theorem dX1_ringBell_108 : decode cX1_ringBell 108 = .ok (.getfield 78, 3) := by decide +kernel
theorem dX1_ringBell_111 : decode cX1_ringBell 111 = .ok (.iload 4, 2) := by decide +kernel
theorem dX1_ringBell_113 : decode cX1_ringBell 113 = .ok (.iaload, 1) := by decide +kernel
theorem dX1_ringBell_114 : decode cX1_ringBell 114 = .ok (.iload 6, 2) := by decide +kernel
theorem dX1_ringBell_116 : decode cX1_ringBell 116 = .ok (.iadd, 1) := by decide +kernel
theorem dX1_ringBell_117 : decode cX1_ringBell 117 = .ok (.bipush 99, 2) := by decide +kernel
theorem dX1_ringBell_119 : decode cX1_ringBell 119 = .ok (.invokestatic 81, 3) := by decide +kernel
theorem dX1_ringBell_122 : decode cX1_ringBell 122 = .ok (.iastore, 1) := by decide +kernel
theorem dX1_ringBell_123 : decode cX1_ringBell 123 = .ok (.iload 5, 2) := by decide +kernel
theorem dX1_ringBell_125 : decode cX1_ringBell 125 = .ok (.ifCond .eq 7, 3) := by decide +kernel
theorem dX1_ringBell_128 : decode cX1_ringBell 128 = .ok (.iconst 1, 1) := by decide +kernel
theorem dX1_ringBell_129 : decode cX1_ringBell 129 = .ok (.goto 4, 3) := by decide +kernel
theorem dX1_ringBell_132 : decode cX1_ringBell 132 = .ok (.iconst 0, 1) := by decide +kernel
theorem dX1_ringBell_133 : decode cX1_ringBell 133 = .ok (.ireturn, 1) := by decide +kernel
theorem dX1_sellRing_0 : decode cX1_sellRing 0 = .ok (.iload_n 3, 1) := by decide +kernel
theorem dX1_sellRing_1 : decode cX1_sellRing 1 = .ok (.iload 4, 2) := by decide +kernel
theorem dX1_sellRing_3 : decode cX1_sellRing 3 = .ok (.if_icmp .ne 5, 3) := by decide +kernel
theorem dX1_sellRing_6 : decode cX1_sellRing 6 = .ok (.iconst (-1), 1) := by decide +kernel
theorem dX1_sellRing_7 : decode cX1_sellRing 7 = .ok (.ireturn, 1) := by decide +kernel
theorem dX1_sellRing_8 : decode cX1_sellRing 8 = .ok (.aload_n 1, 1) := by decide +kernel
theorem dX1_sellRing_9 : decode cX1_sellRing 9 = .ok (.iload_n 3, 1) := by decide +kernel
theorem dX1_sellRing_10 : decode cX1_sellRing 10 = .ok (.invokevirtual 36, 3) := by decide +kernel
theorem dX1_sellRing_13 : decode cX1_sellRing 13 = .ok (.ifCond .eq 21, 3) := by decide +kernel
theorem dX1_sellRing_16 : decode cX1_sellRing 16 = .ok (.aload_n 1, 1) := by decide +kernel
theorem dX1_sellRing_17 : decode cX1_sellRing 17 = .ok (.iload 4, 2) := by decide +kernel
theorem dX1_sellRing_19 : decode cX1_sellRing 19 = .ok (.invokevirtual 36, 3) := by decide +kernel
theorem dX1_sellRing_22 : decode cX1_sellRing 22 = .ok (.ifCond .eq 12, 3) := by decide +kernel
theorem dX1_sellRing_25 : decode cX1_sellRing 25 = .ok (.aload_n 1, 1) := by decide +kernel
theorem dX1_sellRing_26 : decode cX1_sellRing 26 = .ok (.iload 5, 2) := by decide +kernel
theorem dX1_sellRing_28 : decode cX1_sellRing 28 = .ok (.invokevirtual 42, 3) := by decide +kernel
theorem dX1_sellRing_31 : decode cX1_sellRing 31 = .ok (.ifCond .ne 6, 3) := by decide +kernel
theorem dX1_sellRing_34 : decode cX1_sellRing 34 = .ok (.bipush (-2), 2) := by decide +kernel
theorem dX1_sellRing_36 : decode cX1_sellRing 36 = .ok (.ireturn, 1) := by decide +kernel
theorem dX1_sellRing_37 : decode cX1_sellRing 37 = .ok (.aload_n 1, 1) := by decide +kernel
theorem dX1_sellRing_38 : decode cX1_sellRing 38 = .ok (.iload_n 3, 1) := by decide +kernel
theorem dX1_sellRing_39 : decode cX1_sellRing 39 = .ok (.iload 5, 2) := by decide +kernel
theorem dX1_sellRing_41 : decode cX1_sellRing 41 = .ok (.invokevirtual 48, 3) := by decide +kernel
theorem dX1_sellRing_44 : decode cX1_sellRing 44 = .ok (.iconst 1, 1) := by decide +kernel
theorem dX1_sellRing_45 : decode cX1_sellRing 45 = .ok (.if_icmp .lt 16, 3) := by decide +kernel
theorem dX1_sellRing_48 : decode cX1_sellRing 48 = .ok (.aload_n 0, 1) := by decide +kernel
theorem dX1_sellRing_49 : decode cX1_sellRing 49 = .ok (.aload_n 1, 1) := by decide +kernel
theorem dX1_sellRing_50 : decode cX1_sellRing 50 = .ok (.iload_n 3, 1) := by decide +kernel
theorem dX1_sellRing_51 : decode cX1_sellRing 51 = .ok (.iload 4, 2) := by decide +kernel
theorem dX1_sellRing_53 : decode cX1_sellRing 53 = .ok (.iload 5, 2) := by decide +kernel
theorem dX1_sellRing_55 : decode cX1_sellRing 55 = .ok (.invokevirtual 86, 3) := by decide +kernel
theorem dX1_sellRing_58 : decode cX1_sellRing 58 = .ok (.ifCond .ne 6, 3) := by decide +kernel
theorem dX1_sellRing_61 : decode cX1_sellRing 61 = .ok (.bipush (-3), 2) := by decide +kernel
theorem dX1_sellRing_63 : decode cX1_sellRing 63 = .ok (.ireturn, 1) := by decide +kernel
theorem dX1_sellRing_64 : decode cX1_sellRing 64 = .ok (.aload_n 2, 1) := by decide +kernel
theorem dX1_sellRing_65 : decode cX1_sellRing 65 = .ok (.iconst 1, 1) := by decide +kernel
theorem dX1_sellRing_66 : decode cX1_sellRing 66 = .ok (.aload_n 1, 1) := by decide +kernel
theorem dX1_sellRing_67 : decode cX1_sellRing 67 = .ok (.getfield 52, 3) := by decide +kernel
theorem dX1_sellRing_70 : decode cX1_sellRing 70 = .ok (.invokestatic 56, 3) := by decide +kernel
theorem dX1_sellRing_73 : decode cX1_sellRing 73 = .ok (.aload_n 0, 1) := by decide +kernel
theorem dX1_sellRing_74 : decode cX1_sellRing 74 = .ok (.getfield 32, 3) := by decide +kernel
theorem dX1_sellRing_77 : decode cX1_sellRing 77 = .ok (.aload_n 1, 1) := by decide +kernel
theorem dX1_sellRing_78 : decode cX1_sellRing 78 = .ok (.iload_n 3, 1) := by decide +kernel
theorem dX1_sellRing_79 : decode cX1_sellRing 79 = .ok (.iload 4, 2) := by decide +kernel
theorem dX1_sellRing_81 : decode cX1_sellRing 81 = .ok (.iload 5, 2) := by decide +kernel
theorem dX1_sellRing_83 : decode cX1_sellRing 83 = .ok (.invokevirtual 90, 3) := by decide +kernel
theorem dX1_sellRing_86 : decode cX1_sellRing 86 = .ok (.istore 6, 2) := by decide +kernel
theorem dX1_sellRing_88 : decode cX1_sellRing 88 = .ok (.aload_n 1, 1) := by decide +kernel
theorem dX1_sellRing_89 : decode cX1_sellRing 89 = .ok (.getfield 52, 3) := by decide +kernel
theorem dX1_sellRing_92 : decode cX1_sellRing 92 = .ok (.astore 7, 2) := by decide +kernel
theorem dX1_sellRing_94 : decode cX1_sellRing 94 = .ok (.aload 7, 2) := by decide +kernel
theorem dX1_sellRing_96 : decode cX1_sellRing 96 = .ok (.getfield 94, 3) := by decide +kernel
theorem dX1_sellRing_99 : decode cX1_sellRing 99 = .ok (.iload_n 3, 1) := by decide +kernel
theorem dX1_sellRing_100 : decode cX1_sellRing 100 = .ok (.iload 5, 2) := by decide +kernel
theorem dX1_sellRing_102 : decode cX1_sellRing 102 = .ok (.invokestatic 75, 3) := by decide +kernel
theorem dX1_sellRing_105 : decode cX1_sellRing 105 = .ok (.dup2, 1) := by decide +kernel
theorem dX1_sellRing_106 : decode cX1_sellRing 106 = .ok (.iaload, 1) := by decide +kernel
theorem dX1_sellRing_107 : decode cX1_sellRing 107 = .ok (.iconst 1, 1) := by decide +kernel
theorem dX1_sellRing_108 : decode cX1_sellRing 108 = .ok (.isub, 1) := by decide +kernel
theorem dX1_sellRing_109 : decode cX1_sellRing 109 = .ok (.iastore, 1) := by decide +kernel
theorem dX1_sellRing_110 : decode cX1_sellRing 110 = .ok (.aload 7, 2) := by decide +kernel
theorem dX1_sellRing_112 : decode cX1_sellRing 112 = .ok (.getfield 94, 3) := by decide +kernel
theorem dX1_sellRing_115 : decode cX1_sellRing 115 = .ok (.iload 4, 2) := by decide +kernel
theorem dX1_sellRing_117 : decode cX1_sellRing 117 = .ok (.iload 5, 2) := by decide +kernel
theorem dX1_sellRing_119 : decode cX1_sellRing 119 = .ok (.invokestatic 75, 3) := by decide +kernel
theorem dX1_sellRing_122 : decode cX1_sellRing 122 = .ok (.dup2, 1) := by decide +kernel
theorem dX1_sellRing_123 : decode cX1_sellRing 123 = .ok (.iaload, 1) := by decide +kernel
theorem dX1_sellRing_124 : decode cX1_sellRing 124 = .ok (.iconst 1, 1) := by decide +kernel
theorem dX1_sellRing_125 : decode cX1_sellRing 125 = .ok (.iadd, 1) := by decide +kernel
theorem dX1_sellRing_126 : decode cX1_sellRing 126 = .ok (.iastore, 1) := by decide +kernel
theorem dX1_sellRing_127 : decode cX1_sellRing 127 = .ok (.aload 7, 2) := by decide +kernel
theorem dX1_sellRing_129 : decode cX1_sellRing 129 = .ok (.getfield 97, 3) := by decide +kernel
theorem dX1_sellRing_132 : decode cX1_sellRing 132 = .ok (.iload 4, 2) := by decide +kernel
theorem dX1_sellRing_134 : decode cX1_sellRing 134 = .ok (.dup2, 1) := by decide +kernel
theorem dX1_sellRing_135 : decode cX1_sellRing 135 = .ok (.iaload, 1) := by decide +kernel
theorem dX1_sellRing_136 : decode cX1_sellRing 136 = .ok (.iload 6, 2) := by decide +kernel
theorem dX1_sellRing_138 : decode cX1_sellRing 138 = .ok (.isub, 1) := by decide +kernel
theorem dX1_sellRing_139 : decode cX1_sellRing 139 = .ok (.iastore, 1) := by decide +kernel
theorem dX1_sellRing_140 : decode cX1_sellRing 140 = .ok (.aload 7, 2) := by decide +kernel
theorem dX1_sellRing_142 : decode cX1_sellRing 142 = .ok (.getfield 97, 3) := by decide +kernel
theorem dX1_sellRing_145 : decode cX1_sellRing 145 = .ok (.iload_n 3, 1) := by decide +kernel
theorem dX1_sellRing_146 : decode cX1_sellRing 146 = .ok (.aload 7, 2) := by decide +kernel
theorem dX1_sellRing_148 : decode cX1_sellRing 148 = .ok (.getfield 97, 3) := by decide +kernel
theorem dX1_sellRing_151 : decode cX1_sellRing 151 = .ok (.iload_n 3, 1) := by decide +kernel
theorem dX1_sellRing_152 : decode cX1_sellRing 152 = .ok (.iaload, 1) := by decide +kernel
theorem dX1_sellRing_153 : decode cX1_sellRing 153 = .ok (.iload 6, 2) := by decide +kernel
theorem dX1_sellRing_155 : decode cX1_sellRing 155 = .ok (.iadd, 1) := by decide +kernel
theorem dX1_sellRing_156 : decode cX1_sellRing 156 = .ok (.sipush 999, 3) := by decide +kernel
theorem dX1_sellRing_159 : decode cX1_sellRing 159 = .ok (.invokestatic 81, 3) := by decide +kernel
theorem dX1_sellRing_162 : decode cX1_sellRing 162 = .ok (.iastore, 1) := by decide +kernel
theorem dX1_sellRing_163 : decode cX1_sellRing 163 = .ok (.iload 6, 2) := by decide +kernel
theorem dX1_sellRing_165 : decode cX1_sellRing 165 = .ok (.ireturn, 1) := by decide +kernel
theorem dX1_canBuy_0 : decode cX1_canBuy 0 = .ok (.aload_n 1, 1) := by decide +kernel
theorem dX1_canBuy_1 : decode cX1_canBuy 1 = .ok (.iload_n 2, 1) := by decide +kernel
theorem dX1_canBuy_2 : decode cX1_canBuy 2 = .ok (.invokevirtual 45, 3) := by decide +kernel
theorem dX1_canBuy_5 : decode cX1_canBuy 5 = .ok (.ifCond .eq 66, 3) := by decide +kernel
theorem dX1_canBuy_8 : decode cX1_canBuy 8 = .ok (.aload_n 1, 1) := by decide +kernel
theorem dX1_canBuy_9 : decode cX1_canBuy 9 = .ok (.iload_n 3, 1) := by decide +kernel
theorem dX1_canBuy_10 : decode cX1_canBuy 10 = .ok (.invokevirtual 45, 3) := by decide +kernel
theorem dX1_canBuy_13 : decode cX1_canBuy 13 = .ok (.ifCond .eq 58, 3) := by decide +kernel
theorem dX1_canBuy_16 : decode cX1_canBuy 16 = .ok (.aload_n 1, 1) := by decide +kernel
theorem dX1_canBuy_17 : decode cX1_canBuy 17 = .ok (.iload_n 3, 1) := by decide +kernel
theorem dX1_canBuy_18 : decode cX1_canBuy 18 = .ok (.iload 4, 2) := by decide +kernel
theorem dX1_canBuy_20 : decode cX1_canBuy 20 = .ok (.invokevirtual 100, 3) := by decide +kernel
theorem dX1_canBuy_23 : decode cX1_canBuy 23 = .ok (.bipush 99, 2) := by decide +kernel
theorem dX1_canBuy_25 : decode cX1_canBuy 25 = .ok (.if_icmp .ge 46, 3) := by decide +kernel
theorem dX1_canBuy_28 : decode cX1_canBuy 28 = .ok (.aload_n 0, 1) := by decide +kernel
theorem dX1_canBuy_29 : decode cX1_canBuy 29 = .ok (.getfield 32, 3) := by decide +kernel
theorem dX1_canBuy_32 : decode cX1_canBuy 32 = .ok (.aload_n 1, 1) := by decide +kernel
theorem dX1_canBuy_33 : decode cX1_canBuy 33 = .ok (.iload_n 2, 1) := by decide +kernel
theorem dX1_canBuy_34 : decode cX1_canBuy 34 = .ok (.iload_n 3, 1) := by decide +kernel
theorem dX1_canBuy_35 : decode cX1_canBuy 35 = .ok (.iload 4, 2) := by decide +kernel
theorem dX1_canBuy_37 : decode cX1_canBuy 37 = .ok (.invokevirtual 103, 3) := by decide +kernel
theorem dX1_canBuy_40 : decode cX1_canBuy 40 = .ok (.ifCond .ne 31, 3) := by decide +kernel
theorem dX1_canBuy_43 : decode cX1_canBuy 43 = .ok (.aload_n 1, 1) := by decide +kernel
theorem dX1_canBuy_44 : decode cX1_canBuy 44 = .ok (.getfield 52, 3) := by decide +kernel
theorem dX1_canBuy_47 : decode cX1_canBuy 47 = .ok (.getfield 97, 3) := by decide +kernel
theorem dX1_canBuy_50 : decode cX1_canBuy 50 = .ok (.iload_n 3, 1) := by decide +kernel
theorem dX1_canBuy_51 : decode cX1_canBuy 51 = .ok (.iaload, 1) := by decide +kernel
theorem dX1_canBuy_52 : decode cX1_canBuy 52 = .ok (.aload_n 0, 1) := by decide +kernel
theorem dX1_canBuy_53 : decode cX1_canBuy 53 = .ok (.getfield 32, 3) := by decide +kernel
theorem dX1_canBuy_56 : decode cX1_canBuy 56 = .ok (.aload_n 1, 1) := by decide +kernel
theorem dX1_canBuy_57 : decode cX1_canBuy 57 = .ok (.iload_n 2, 1) := by decide +kernel
theorem dX1_canBuy_58 : decode cX1_canBuy 58 = .ok (.iload_n 3, 1) := by decide +kernel
theorem dX1_canBuy_59 : decode cX1_canBuy 59 = .ok (.iload 4, 2) := by decide +kernel
theorem dX1_canBuy_61 : decode cX1_canBuy 61 = .ok (.invokevirtual 90, 3) := by decide +kernel
theorem dX1_canBuy_64 : decode cX1_canBuy 64 = .ok (.if_icmp .lt 7, 3) := by decide +kernel
theorem dX1_canBuy_67 : decode cX1_canBuy 67 = .ok (.iconst 1, 1) := by decide +kernel
theorem dX1_canBuy_68 : decode cX1_canBuy 68 = .ok (.goto 4, 3) := by decide +kernel
theorem dX1_canBuy_71 : decode cX1_canBuy 71 = .ok (.iconst 0, 1) := by decide +kernel
theorem dX1_canBuy_72 : decode cX1_canBuy 72 = .ok (.ireturn, 1) := by decide +kernel
theorem dX1_bury_0 : decode cX1_bury 0 = .ok (.aload_n 1, 1) := by decide +kernel
theorem dX1_bury_1 : decode cX1_bury 1 = .ok (.iload_n 3, 1) := by decide +kernel
theorem dX1_bury_2 : decode cX1_bury 2 = .ok (.invokevirtual 36, 3) := by decide +kernel
theorem dX1_bury_5 : decode cX1_bury 5 = .ok (.ifCond .ne 6, 3) := by decide +kernel
theorem dX1_bury_8 : decode cX1_bury 8 = .ok (.bipush (-2), 2) := by decide +kernel
theorem dX1_bury_10 : decode cX1_bury 10 = .ok (.ireturn, 1) := by decide +kernel
theorem dX1_bury_11 : decode cX1_bury 11 = .ok (.aload_n 1, 1) := by decide +kernel
theorem dX1_bury_12 : decode cX1_bury 12 = .ok (.iload_n 3, 1) := by decide +kernel
theorem dX1_bury_13 : decode cX1_bury 13 = .ok (.invokevirtual 45, 3) := by decide +kernel
theorem dX1_bury_16 : decode cX1_bury 16 = .ok (.ifCond .ne 6, 3) := by decide +kernel
theorem dX1_bury_19 : decode cX1_bury 19 = .ok (.bipush (-3), 2) := by decide +kernel
theorem dX1_bury_21 : decode cX1_bury 21 = .ok (.ireturn, 1) := by decide +kernel
theorem dX1_bury_22 : decode cX1_bury 22 = .ok (.aload_n 1, 1) := by decide +kernel
theorem dX1_bury_23 : decode cX1_bury 23 = .ok (.getfield 52, 3) := by decide +kernel
theorem dX1_bury_26 : decode cX1_bury 26 = .ok (.astore 4, 2) := by decide +kernel
theorem dX1_bury_28 : decode cX1_bury 28 = .ok (.aload_n 2, 1) := by decide +kernel
theorem dX1_bury_29 : decode cX1_bury 29 = .ok (.iconst 2, 1) := by decide +kernel
theorem dX1_bury_30 : decode cX1_bury 30 = .ok (.aload 4, 2) := by decide +kernel
theorem dX1_bury_32 : decode cX1_bury 32 = .ok (.invokestatic 56, 3) := by decide +kernel
theorem dX1_bury_35 : decode cX1_bury 35 = .ok (.aload_n 1, 1) := by decide +kernel
theorem dX1_bury_36 : decode cX1_bury 36 = .ok (.iload_n 3, 1) := by decide +kernel
theorem dX1_bury_37 : decode cX1_bury 37 = .ok (.invokevirtual 106, 3) := by decide +kernel
theorem dX1_bury_40 : decode cX1_bury 40 = .ok (.istore 5, 2) := by decide +kernel
theorem dX1_bury_42 : decode cX1_bury 42 = .ok (.iconst 0, 1) := by decide +kernel
theorem dX1_bury_43 : decode cX1_bury 43 = .ok (.istore 6, 2) := by decide +kernel
theorem dX1_bury_45 : decode cX1_bury 45 = .ok (.iload 6, 2) := by decide +kernel
theorem dX1_bury_47 : decode cX1_bury 47 = .ok (.aload_n 1, 1) := by decide +kernel
theorem dX1_bury_48 : decode cX1_bury 48 = .ok (.getfield 110, 3) := by decide +kernel
theorem dX1_bury_51 : decode cX1_bury 51 = .ok (.if_icmp .ge 71, 3) := by decide +kernel
theorem dX1_bury_54 : decode cX1_bury 54 = .ok (.aload 4, 2) := by decide +kernel
theorem dX1_bury_56 : decode cX1_bury 56 = .ok (.getfield 94, 3) := by decide +kernel
theorem dX1_bury_59 : decode cX1_bury 59 = .ok (.iload_n 3, 1) := by decide +kernel
theorem dX1_bury_60 : decode cX1_bury 60 = .ok (.iload 6, 2) := by decide +kernel
theorem dX1_bury_62 : decode cX1_bury 62 = .ok (.invokestatic 75, 3) := by decide +kernel
theorem dX1_bury_65 : decode cX1_bury 65 = .ok (.iaload, 1) := by decide +kernel
theorem dX1_bury_66 : decode cX1_bury 66 = .ok (.istore 7, 2) := by decide +kernel
theorem dX1_bury_68 : decode cX1_bury 68 = .ok (.aload 4, 2) := by decide +kernel
theorem dX1_bury_70 : decode cX1_bury 70 = .ok (.getfield 94, 3) := by decide +kernel
theorem dX1_bury_73 : decode cX1_bury 73 = .ok (.iload_n 3, 1) := by decide +kernel
theorem dX1_bury_74 : decode cX1_bury 74 = .ok (.iload 6, 2) := by decide +kernel
theorem dX1_bury_76 : decode cX1_bury 76 = .ok (.invokestatic 75, 3) := by decide +kernel
theorem dX1_bury_79 : decode cX1_bury 79 = .ok (.iconst 0, 1) := by decide +kernel
theorem dX1_bury_80 : decode cX1_bury 80 = .ok (.iastore, 1) := by decide +kernel
theorem dX1_bury_81 : decode cX1_bury 81 = .ok (.aload 4, 2) := by decide +kernel
theorem dX1_bury_83 : decode cX1_bury 83 = .ok (.getfield 70, 3) := by decide +kernel
theorem dX1_bury_86 : decode cX1_bury 86 = .ok (.iload_n 3, 1) := by decide +kernel
theorem dX1_bury_87 : decode cX1_bury 87 = .ok (.iload 6, 2) := by decide +kernel
theorem dX1_bury_89 : decode cX1_bury 89 = .ok (.invokestatic 75, 3) := by decide +kernel
theorem dX1_bury_92 : decode cX1_bury 92 = .ok (.iconst 0, 1) := by decide +kernel
theorem dX1_bury_93 : decode cX1_bury 93 = .ok (.iastore, 1) := by decide +kernel
theorem dX1_bury_94 : decode cX1_bury 94 = .ok (.iload 5, 2) := by decide +kernel
theorem dX1_bury_96 : decode cX1_bury 96 = .ok (.ifCond .le 20, 3) := by decide +kernel
theorem dX1_bury_99 : decode cX1_bury 99 = .ok (.aload_n 1, 1) := by decide +kernel
theorem dX1_bury_100 : decode cX1_bury 100 = .ok (.iload_n 3, 1) := by decide +kernel
theorem dX1_bury_101 : decode cX1_bury 101 = .ok (.iload 6, 2) := by decide +kernel
theorem dX1_bury_103 : decode cX1_bury 103 = .ok (.iload 7, 2) := by decide +kernel
theorem dX1_bury_105 : decode cX1_bury 105 = .ok (.iload 5, 2) := by decide +kernel
theorem dX1_bury_107 : decode cX1_bury 107 = .ok (.idiv, 1) := by decide +kernel
theorem dX1_bury_108 : decode cX1_bury 108 = .ok (.iload 7, 2) := by decide +kernel
theorem dX1_bury_110 : decode cX1_bury 110 = .ok (.iload 5, 2) := by decide +kernel
theorem dX1_bury_112 : decode cX1_bury 112 = .ok (.irem, 1) := by decide +kernel
theorem dX1_bury_113 : decode cX1_bury 113 = .ok (.invokestatic 113, 3) := by decide +kernel
theorem dX1_bury_116 : decode cX1_bury 116 = .ok (.iinc 6 1, 3) := by decide +kernel
theorem dX1_bury_119 : decode cX1_bury 119 = .ok (.goto (-74), 3) := by decide +kernel
theorem dX1_bury_122 : decode cX1_bury 122 = .ok (.aload 4, 2) := by decide +kernel
theorem dX1_bury_124 : decode cX1_bury 124 = .ok (.dup, 1) := by decide +kernel
theorem dX1_bury_125 : decode cX1_bury 125 = .ok (.getfield 117, 3) := by decide +kernel
theorem dX1_bury_128 : decode cX1_bury 128 = .ok (.iconst 1, 1) := by decide +kernel
theorem dX1_bury_129 : decode cX1_bury 129 = .ok (.iload_n 3, 1) := by decide +kernel
theorem dX1_bury_130 : decode cX1_bury 130 = .ok (.ishl, 1) := by decide +kernel
theorem dX1_bury_131 : decode cX1_bury 131 = .ok (.ior, 1) := by decide +kernel
theorem dX1_bury_132 : decode cX1_bury 132 = .ok (.putfield 117, 3) := by decide +kernel
theorem dX1_bury_135 : decode cX1_bury 135 = .ok (.iload 5, 2) := by decide +kernel
theorem dX1_bury_137 : decode cX1_bury 137 = .ok (.ireturn, 1) := by decide +kernel
theorem dX1_divide_0 : decode cX1_divide 0 = .ok (.aload_n 0, 1) := by decide +kernel
theorem dX1_divide_1 : decode cX1_divide 1 = .ok (.getfield 52, 3) := by decide +kernel
theorem dX1_divide_4 : decode cX1_divide 4 = .ok (.getfield 94, 3) := by decide +kernel
theorem dX1_divide_7 : decode cX1_divide 7 = .ok (.astore 5, 2) := by decide +kernel
theorem dX1_divide_9 : decode cX1_divide 9 = .ok (.iconst 0, 1) := by decide +kernel
theorem dX1_divide_10 : decode cX1_divide 10 = .ok (.istore 6, 2) := by decide +kernel
theorem dX1_divide_12 : decode cX1_divide 12 = .ok (.iconst 0, 1) := by decide +kernel
theorem dX1_divide_13 : decode cX1_divide 13 = .ok (.istore 7, 2) := by decide +kernel
theorem dX1_divide_15 : decode cX1_divide 15 = .ok (.iload 7, 2) := by decide +kernel
theorem dX1_divide_17 : decode cX1_divide 17 = .ok (.aload_n 0, 1) := by decide +kernel
theorem dX1_divide_18 : decode cX1_divide 18 = .ok (.getfield 120, 3) := by decide +kernel
theorem dX1_divide_21 : decode cX1_divide 21 = .ok (.if_icmp .ge 64, 3) := by decide +kernel
theorem dX1_divide_24 : decode cX1_divide 24 = .ok (.aload_n 0, 1) := by decide +kernel
theorem dX1_divide_25 : decode cX1_divide 25 = .ok (.iload_n 1, 1) := by decide +kernel
theorem dX1_divide_26 : decode cX1_divide 26 = .ok (.iload 7, 2) := by decide +kernel
theorem dX1_divide_28 : decode cX1_divide 28 = .ok (.invokevirtual 123, 3) := by decide +kernel
theorem dX1_divide_31 : decode cX1_divide 31 = .ok (.ifCond .eq 48, 3) := by decide +kernel
theorem dX1_divide_34 : decode cX1_divide 34 = .ok (.iload 6, 2) := by decide +kernel
theorem dX1_divide_36 : decode cX1_divide 36 = .ok (.iload 4, 2) := by decide +kernel
theorem dX1_divide_38 : decode cX1_divide 38 = .ok (.if_icmp .ge 9, 3) := by decide +kernel
theorem dX1_divide_41 : decode cX1_divide 41 = .ok (.iload_n 3, 1) := by decide +kernel
theorem dX1_divide_42 : decode cX1_divide 42 = .ok (.iconst 1, 1) := by decide +kernel
theorem dX1_divide_43 : decode cX1_divide 43 = .ok (.iadd, 1) := by decide +kernel
theorem dX1_divide_44 : decode cX1_divide 44 = .ok (.goto 4, 3) := by decide +kernel
theorem dX1_divide_47 : decode cX1_divide 47 = .ok (.iload_n 3, 1) := by decide +kernel
theorem dX1_divide_48 : decode cX1_divide 48 = .ok (.istore 8, 2) := by decide +kernel
theorem dX1_divide_50 : decode cX1_divide 50 = .ok (.aload 5, 2) := by decide +kernel
theorem dX1_divide_52 : decode cX1_divide 52 = .ok (.iload 7, 2) := by decide +kernel
theorem dX1_divide_54 : decode cX1_divide 54 = .ok (.iload_n 2, 1) := by decide +kernel
theorem dX1_divide_55 : decode cX1_divide 55 = .ok (.invokestatic 75, 3) := by decide +kernel
theorem dX1_divide_58 : decode cX1_divide 58 = .ok (.aload 5, 2) := by decide +kernel
theorem dX1_divide_60 : decode cX1_divide 60 = .ok (.iload 7, 2) := by decide +kernel
theorem dX1_divide_62 : decode cX1_divide 62 = .ok (.iload_n 2, 1) := by decide +kernel
theorem dX1_divide_63 : decode cX1_divide 63 = .ok (.invokestatic 75, 3) := by decide +kernel
theorem dX1_divide_66 : decode cX1_divide 66 = .ok (.iaload, 1) := by decide +kernel
theorem dX1_divide_67 : decode cX1_divide 67 = .ok (.iload 8, 2) := by decide +kernel
theorem dX1_divide_69 : decode cX1_divide 69 = .ok (.iadd, 1) := by decide +kernel
theorem dX1_divide_70 : decode cX1_divide 70 = .ok (.bipush 99, 2) := by decide +kernel
theorem dX1_divide_72 : decode cX1_divide 72 = .ok (.invokestatic 81, 3) := by decide +kernel
theorem dX1_divide_75 : decode cX1_divide 75 = .ok (.iastore, 1) := by decide +kernel
theorem dX1_divide_76 : decode cX1_divide 76 = .ok (.iinc 6 1, 3) := by decide +kernel
theorem dX1_divide_79 : decode cX1_divide 79 = .ok (.iinc 7 1, 3) := by decide +kernel
theorem dX1_divide_82 : decode cX1_divide 82 = .ok (.goto (-67), 3) := by decide +kernel
theorem dX1_divide_85 : decode cX1_divide 85 = .ok (.return_, 1) := by decide +kernel
theorem dX1_turnYear_0 : decode cX1_turnYear 0 = .ok (.aload_n 1, 1) := by decide +kernel
theorem dX1_turnYear_1 : decode cX1_turnYear 1 = .ok (.getfield 52, 3) := by decide +kernel
theorem dX1_turnYear_4 : decode cX1_turnYear 4 = .ok (.astore_n 3, 1) := by decide +kernel
theorem dX1_turnYear_5 : decode cX1_turnYear 5 = .ok (.aload_n 3, 1) := by decide +kernel
theorem dX1_turnYear_6 : decode cX1_turnYear 6 = .ok (.getfield 127, 3) := by decide +kernel
theorem dX1_turnYear_9 : decode cX1_turnYear 9 = .ok (.sipush 999, 3) := by decide +kernel
theorem dX1_turnYear_12 : decode cX1_turnYear 12 = .ok (.if_icmp .lt 6, 3) := by decide +kernel
theorem dX1_turnYear_15 : decode cX1_turnYear 15 = .ok (.bipush (-3), 2) := by decide +kernel
theorem dX1_turnYear_17 : decode cX1_turnYear 17 = .ok (.ireturn, 1) := by decide +kernel
theorem dX1_turnYear_18 : decode cX1_turnYear 18 = .ok (.aload_n 2, 1) := by decide +kernel
theorem dX1_turnYear_19 : decode cX1_turnYear 19 = .ok (.iconst 3, 1) := by decide +kernel
theorem dX1_turnYear_20 : decode cX1_turnYear 20 = .ok (.aload_n 3, 1) := by decide +kernel
theorem dX1_turnYear_21 : decode cX1_turnYear 21 = .ok (.invokestatic 56, 3) := by decide +kernel
theorem dX1_turnYear_24 : decode cX1_turnYear 24 = .ok (.iconst 0, 1) := by decide +kernel
theorem dX1_turnYear_25 : decode cX1_turnYear 25 = .ok (.istore 4, 2) := by decide +kernel
theorem dX1_turnYear_27 : decode cX1_turnYear 27 = .ok (.iload 4, 2) := by decide +kernel
theorem dX1_turnYear_29 : decode cX1_turnYear 29 = .ok (.aload_n 3, 1) := by decide +kernel
theorem dX1_turnYear_30 : decode cX1_turnYear 30 = .ok (.getfield 70, 3) := by decide +kernel
theorem dX1_turnYear_33 : decode cX1_turnYear 33 = .ok (.arraylength, 1) := by decide +kernel
theorem dX1_turnYear_34 : decode cX1_turnYear 34 = .ok (.if_icmp .ge 17, 3) := by decide +kernel
theorem dX1_turnYear_37 : decode cX1_turnYear 37 = .ok (.aload_n 3, 1) := by decide +kernel
theorem dX1_turnYear_38 : decode cX1_turnYear 38 = .ok (.getfield 70, 3) := by decide +kernel
theorem dX1_turnYear_41 : decode cX1_turnYear 41 = .ok (.iload 4, 2) := by decide +kernel
theorem dX1_turnYear_43 : decode cX1_turnYear 43 = .ok (.iconst 0, 1) := by decide +kernel
theorem dX1_turnYear_44 : decode cX1_turnYear 44 = .ok (.iastore, 1) := by decide +kernel
theorem dX1_turnYear_45 : decode cX1_turnYear 45 = .ok (.iinc 4 1, 3) := by decide +kernel
theorem dX1_turnYear_48 : decode cX1_turnYear 48 = .ok (.goto (-21), 3) := by decide +kernel
theorem dX1_turnYear_51 : decode cX1_turnYear 51 = .ok (.iconst 0, 1) := by decide +kernel
theorem dX1_turnYear_52 : decode cX1_turnYear 52 = .ok (.istore 4, 2) := by decide +kernel
theorem dX1_turnYear_54 : decode cX1_turnYear 54 = .ok (.iload 4, 2) := by decide +kernel
theorem dX1_turnYear_56 : decode cX1_turnYear 56 = .ok (.bipush 6, 2) := by decide +kernel
theorem dX1_turnYear_58 : decode cX1_turnYear 58 = .ok (.if_icmp .ge 17, 3) := by decide +kernel
theorem dX1_turnYear_61 : decode cX1_turnYear 61 = .ok (.aload_n 3, 1) := by decide +kernel
theorem dX1_turnYear_62 : decode cX1_turnYear 62 = .ok (.getfield 78, 3) := by decide +kernel
theorem dX1_turnYear_65 : decode cX1_turnYear 65 = .ok (.iload 4, 2) := by decide +kernel
theorem dX1_turnYear_67 : decode cX1_turnYear 67 = .ok (.iconst 0, 1) := by decide +kernel
theorem dX1_turnYear_68 : decode cX1_turnYear 68 = .ok (.iastore, 1) := by decide +kernel
theorem dX1_turnYear_69 : decode cX1_turnYear 69 = .ok (.iinc 4 1, 3) := by decide +kernel
theorem dX1_turnYear_72 : decode cX1_turnYear 72 = .ok (.goto (-18), 3) := by decide +kernel
theorem dX1_turnYear_75 : decode cX1_turnYear 75 = .ok (.aload_n 3, 1) := by decide +kernel
theorem dX1_turnYear_76 : decode cX1_turnYear 76 = .ok (.dup, 1) := by decide +kernel
theorem dX1_turnYear_77 : decode cX1_turnYear 77 = .ok (.getfield 127, 3) := by decide +kernel
theorem dX1_turnYear_80 : decode cX1_turnYear 80 = .ok (.iconst 1, 1) := by decide +kernel
theorem dX1_turnYear_81 : decode cX1_turnYear 81 = .ok (.iadd, 1) := by decide +kernel
theorem dX1_turnYear_82 : decode cX1_turnYear 82 = .ok (.putfield 127, 3) := by decide +kernel
theorem dX1_turnYear_85 : decode cX1_turnYear 85 = .ok (.aload_n 3, 1) := by decide +kernel
theorem dX1_turnYear_86 : decode cX1_turnYear 86 = .ok (.getfield 127, 3) := by decide +kernel
theorem dX1_turnYear_89 : decode cX1_turnYear 89 = .ok (.ireturn, 1) := by decide +kernel
theorem dX1_note_0 : decode cX1_note 0 = .ok (.aload_n 0, 1) := by decide +kernel
theorem dX1_note_1 : decode cX1_note 1 = .ok (.ifnull 9, 3) := by decide +kernel
theorem dX1_note_4 : decode cX1_note 4 = .ok (.aload_n 0, 1) := by decide +kernel
theorem dX1_note_5 : decode cX1_note 5 = .ok (.iload_n 1, 1) := by decide +kernel
theorem dX1_note_6 : decode cX1_note 6 = .ok (.aload_n 2, 1) := by decide +kernel
theorem dX1_note_7 : decode cX1_note 7 = .ok (.invokevirtual 130, 3) := by decide +kernel
theorem dX1_note_10 : decode cX1_note 10 = .ok (.return_, 1) := by decide +kernel
theorem dX1_run_0 : decode cX1_run 0 = .ok (.aload_n 0, 1) := by decide +kernel
theorem dX1_run_1 : decode cX1_run 1 = .ok (.iconst 0, 1) := by decide +kernel
theorem dX1_run_2 : decode cX1_run 2 = .ok (.putfield 29, 3) := by decide +kernel
theorem dX1_run_5 : decode cX1_run 5 = .ok (.aload_n 0, 1) := by decide +kernel
theorem dX1_run_6 : decode cX1_run 6 = .ok (.iconst (-1), 1) := by decide +kernel
theorem dX1_run_7 : decode cX1_run 7 = .ok (.putfield 22, 3) := by decide +kernel
theorem dX1_run_10 : decode cX1_run 10 = .ok (.iconst 0, 1) := by decide +kernel
theorem dX1_run_11 : decode cX1_run 11 = .ok (.istore 4, 2) := by decide +kernel
theorem dX1_run_13 : decode cX1_run 13 = .ok (.iload 4, 2) := by decide +kernel
theorem dX1_run_15 : decode cX1_run 15 = .ok (.aload_n 1, 1) := by decide +kernel
theorem dX1_run_16 : decode cX1_run 16 = .ok (.getfield 136, 3) := by decide +kernel
theorem dX1_run_19 : decode cX1_run 19 = .ok (.if_icmp .ge 242, 3) := by decide +kernel
theorem dX1_run_22 : decode cX1_run 22 = .ok (.iconst 0, 1) := by decide +kernel
theorem dX1_run_23 : decode cX1_run 23 = .ok (.istore 5, 2) := by decide +kernel
theorem dX1_run_25 : decode cX1_run 25 = .ok (.iload 5, 2) := by decide +kernel
theorem dX1_run_27 : decode cX1_run 27 = .ok (.aload_n 1, 1) := by decide +kernel
theorem dX1_run_28 : decode cX1_run 28 = .ok (.getfield 141, 3) := by decide +kernel
theorem dX1_run_31 : decode cX1_run 31 = .ok (.iload 4, 2) := by decide +kernel
theorem dX1_run_33 : decode cX1_run 33 = .ok (.iaload, 1) := by decide +kernel
theorem dX1_run_34 : decode cX1_run 34 = .ok (.if_icmp .ge 221, 3) := by decide +kernel
theorem dX1_run_37 : decode cX1_run 37 = .ok (.aload_n 0, 1) := by decide +kernel
theorem dX1_run_38 : decode cX1_run 38 = .ok (.aload_n 2, 1) := by decide +kernel
theorem dX1_run_39 : decode cX1_run 39 = .ok (.invokevirtual 144, 3) := by decide +kernel
theorem dX1_run_42 : decode cX1_run 42 = .ok (.aload_n 0, 1) := by decide +kernel
theorem dX1_run_43 : decode cX1_run 43 = .ok (.getfield 12, 3) := by decide +kernel
theorem dX1_run_46 : decode cX1_run 46 = .ok (.aload_n 1, 1) := by decide +kernel
theorem dX1_run_47 : decode cX1_run 47 = .ok (.iload 4, 2) := by decide +kernel
theorem dX1_run_49 : decode cX1_run 49 = .ok (.iconst 3, 1) := by decide +kernel
theorem dX1_run_50 : decode cX1_run 50 = .ok (.aload_n 0, 1) := by decide +kernel
theorem dX1_run_51 : decode cX1_run 51 = .ok (.getfield 18, 3) := by decide +kernel
theorem dX1_run_54 : decode cX1_run 54 = .ok (.invokevirtual 148, 3) := by decide +kernel
theorem dX1_run_57 : decode cX1_run 57 = .ok (.iconst 1, 1) := by decide +kernel
theorem dX1_run_58 : decode cX1_run 58 = .ok (.if_icmp .eq 6, 3) := by decide +kernel
theorem dX1_run_61 : decode cX1_run 61 = .ok (.goto 188, 3) := by decide +kernel
theorem dX1_run_64 : decode cX1_run 64 = .ok (.aload_n 0, 1) := by decide +kernel
theorem dX1_run_65 : decode cX1_run 65 = .ok (.getfield 12, 3) := by decide +kernel
theorem dX1_run_68 : decode cX1_run 68 = .ok (.aload_n 1, 1) := by decide +kernel
theorem dX1_run_69 : decode cX1_run 69 = .ok (.iload 4, 2) := by decide +kernel
theorem dX1_run_71 : decode cX1_run 71 = .ok (.iconst 0, 1) := by decide +kernel
theorem dX1_run_72 : decode cX1_run 72 = .ok (.aload_n 0, 1) := by decide +kernel
theorem dX1_run_73 : decode cX1_run 73 = .ok (.getfield 18, 3) := by decide +kernel
theorem dX1_run_76 : decode cX1_run 76 = .ok (.invokevirtual 148, 3) := by decide +kernel
theorem dX1_run_79 : decode cX1_run 79 = .ok (.istore 6, 2) := by decide +kernel
theorem dX1_run_81 : decode cX1_run 81 = .ok (.aload_n 0, 1) := by decide +kernel
theorem dX1_run_82 : decode cX1_run 82 = .ok (.getfield 12, 3) := by decide +kernel
theorem dX1_run_85 : decode cX1_run 85 = .ok (.aload_n 1, 1) := by decide +kernel
theorem dX1_run_86 : decode cX1_run 86 = .ok (.iload 4, 2) := by decide +kernel
theorem dX1_run_88 : decode cX1_run 88 = .ok (.iconst 1, 1) := by decide +kernel
theorem dX1_run_89 : decode cX1_run 89 = .ok (.aload_n 0, 1) := by decide +kernel
theorem dX1_run_90 : decode cX1_run 90 = .ok (.getfield 18, 3) := by decide +kernel
theorem dX1_run_93 : decode cX1_run 93 = .ok (.invokevirtual 148, 3) := by decide +kernel
theorem dX1_run_96 : decode cX1_run 96 = .ok (.istore 7, 2) := by decide +kernel
theorem dX1_run_98 : decode cX1_run 98 = .ok (.aload_n 0, 1) := by decide +kernel
theorem dX1_run_99 : decode cX1_run 99 = .ok (.getfield 12, 3) := by decide +kernel
theorem dX1_run_102 : decode cX1_run 102 = .ok (.aload_n 1, 1) := by decide +kernel
theorem dX1_run_103 : decode cX1_run 103 = .ok (.iload 4, 2) := by decide +kernel
theorem dX1_run_105 : decode cX1_run 105 = .ok (.iconst 2, 1) := by decide +kernel
theorem dX1_run_106 : decode cX1_run 106 = .ok (.aload_n 0, 1) := by decide +kernel
theorem dX1_run_107 : decode cX1_run 107 = .ok (.getfield 18, 3) := by decide +kernel
theorem dX1_run_110 : decode cX1_run 110 = .ok (.invokevirtual 148, 3) := by decide +kernel
theorem dX1_run_113 : decode cX1_run 113 = .ok (.istore 8, 2) := by decide +kernel
theorem dX1_run_115 : decode cX1_run 115 = .ok (.iload 6, 2) := by decide +kernel
theorem dX1_run_117 : decode cX1_run 117 = .ok (.ldc 152, 2) := by decide +kernel
theorem dX1_run_119 : decode cX1_run 119 = .ok (.if_icmp .eq 17, 3) := by decide +kernel
theorem dX1_run_122 : decode cX1_run 122 = .ok (.iload 7, 2) := by decide +kernel
theorem dX1_run_124 : decode cX1_run 124 = .ok (.ldc 152, 2) := by decide +kernel
theorem dX1_run_126 : decode cX1_run 126 = .ok (.if_icmp .eq 10, 3) := by decide +kernel
theorem dX1_run_129 : decode cX1_run 129 = .ok (.iload 8, 2) := by decide +kernel
theorem dX1_run_131 : decode cX1_run 131 = .ok (.ldc 152, 2) := by decide +kernel
theorem dX1_run_133 : decode cX1_run 133 = .ok (.if_icmp .ne 6, 3) := by decide +kernel
theorem dX1_run_136 : decode cX1_run 136 = .ok (.iload 4, 2) := by decide +kernel
theorem dX1_run_138 : decode cX1_run 138 = .ok (.ireturn, 1) := by decide +kernel
theorem dX1_run_139 : decode cX1_run 139 = .ok (.aload_n 1, 1) := by decide +kernel
theorem dX1_run_140 : decode cX1_run 140 = .ok (.getfield 153, 3) := by decide +kernel
theorem dX1_run_143 : decode cX1_run 143 = .ok (.iload 4, 2) := by decide +kernel
theorem dX1_run_145 : decode cX1_run 145 = .ok (.iaload, 1) := by decide +kernel
theorem dX1_run_146 : decode cX1_run 146 = .ok (.tableswitch 77 0 2 #[26, 47, 64], 26) := by decide +kernel
theorem dX1_run_172 : decode cX1_run 172 = .ok (.aload_n 0, 1) := by decide +kernel
theorem dX1_run_173 : decode cX1_run 173 = .ok (.aload_n 2, 1) := by decide +kernel
theorem dX1_run_174 : decode cX1_run 174 = .ok (.aload_n 3, 1) := by decide +kernel
theorem dX1_run_175 : decode cX1_run 175 = .ok (.iload 6, 2) := by decide +kernel
theorem dX1_run_177 : decode cX1_run 177 = .ok (.iload 7, 2) := by decide +kernel
theorem dX1_run_179 : decode cX1_run 179 = .ok (.invokevirtual 156, 3) := by decide +kernel
theorem dX1_run_182 : decode cX1_run 182 = .ok (.istore 9, 2) := by decide +kernel
theorem dX1_run_184 : decode cX1_run 184 = .ok (.aload_n 0, 1) := by decide +kernel
theorem dX1_run_185 : decode cX1_run 185 = .ok (.iload 9, 2) := by decide +kernel
theorem dX1_run_187 : decode cX1_run 187 = .ok (.putfield 22, 3) := by decide +kernel
theorem dX1_run_190 : decode cX1_run 190 = .ok (.goto 41, 3) := by decide +kernel
theorem dX1_run_193 : decode cX1_run 193 = .ok (.aload_n 0, 1) := by decide +kernel
theorem dX1_run_194 : decode cX1_run 194 = .ok (.aload_n 2, 1) := by decide +kernel
theorem dX1_run_195 : decode cX1_run 195 = .ok (.aload_n 3, 1) := by decide +kernel
theorem dX1_run_196 : decode cX1_run 196 = .ok (.iload 6, 2) := by decide +kernel
theorem dX1_run_198 : decode cX1_run 198 = .ok (.iload 7, 2) := by decide +kernel
theorem dX1_run_200 : decode cX1_run 200 = .ok (.iload 8, 2) := by decide +kernel
theorem dX1_run_202 : decode cX1_run 202 = .ok (.invokevirtual 160, 3) := by decide +kernel
theorem dX1_run_205 : decode cX1_run 205 = .ok (.istore 9, 2) := by decide +kernel
theorem dX1_run_207 : decode cX1_run 207 = .ok (.goto 24, 3) := by decide +kernel
theorem dX1_run_210 : decode cX1_run 210 = .ok (.aload_n 0, 1) := by decide +kernel
theorem dX1_run_211 : decode cX1_run 211 = .ok (.aload_n 2, 1) := by decide +kernel
theorem dX1_run_212 : decode cX1_run 212 = .ok (.aload_n 3, 1) := by decide +kernel
theorem dX1_run_213 : decode cX1_run 213 = .ok (.iload 6, 2) := by decide +kernel
theorem dX1_run_215 : decode cX1_run 215 = .ok (.invokevirtual 164, 3) := by decide +kernel
theorem dX1_run_218 : decode cX1_run 218 = .ok (.istore 9, 2) := by decide +kernel
theorem dX1_run_220 : decode cX1_run 220 = .ok (.goto 11, 3) := by decide +kernel
theorem dX1_run_223 : decode cX1_run 223 = .ok (.aload_n 0, 1) := by decide +kernel
theorem dX1_run_224 : decode cX1_run 224 = .ok (.aload_n 2, 1) := by decide +kernel
theorem dX1_run_225 : decode cX1_run 225 = .ok (.aload_n 3, 1) := by decide +kernel
theorem dX1_run_226 : decode cX1_run 226 = .ok (.invokevirtual 168, 3) := by decide +kernel
theorem dX1_run_229 : decode cX1_run 229 = .ok (.istore 9, 2) := by decide +kernel
theorem dX1_run_231 : decode cX1_run 231 = .ok (.iload 9, 2) := by decide +kernel
theorem dX1_run_233 : decode cX1_run 233 = .ok (.ifCond .ge 6, 3) := by decide +kernel
theorem dX1_run_236 : decode cX1_run 236 = .ok (.iload 4, 2) := by decide +kernel
theorem dX1_run_238 : decode cX1_run 238 = .ok (.ireturn, 1) := by decide +kernel
theorem dX1_run_239 : decode cX1_run 239 = .ok (.aload_n 0, 1) := by decide +kernel
theorem dX1_run_240 : decode cX1_run 240 = .ok (.dup, 1) := by decide +kernel
theorem dX1_run_241 : decode cX1_run 241 = .ok (.getfield 29, 3) := by decide +kernel
theorem dX1_run_244 : decode cX1_run 244 = .ok (.iconst 1, 1) := by decide +kernel
theorem dX1_run_245 : decode cX1_run 245 = .ok (.iadd, 1) := by decide +kernel
theorem dX1_run_246 : decode cX1_run 246 = .ok (.putfield 29, 3) := by decide +kernel
theorem dX1_run_249 : decode cX1_run 249 = .ok (.iinc 5 1, 3) := by decide +kernel
theorem dX1_run_252 : decode cX1_run 252 = .ok (.goto (-227), 3) := by decide +kernel
theorem dX1_run_255 : decode cX1_run 255 = .ok (.iinc 4 1, 3) := by decide +kernel
theorem dX1_run_258 : decode cX1_run 258 = .ok (.goto (-245), 3) := by decide +kernel
theorem dX1_run_261 : decode cX1_run 261 = .ok (.iconst (-1), 1) := by decide +kernel
theorem dX1_run_262 : decode cX1_run 262 = .ok (.ireturn, 1) := by decide +kernel
theorem dX1_setWords_0 : decode cX1_setWords 0 = .ok (.aload_n 0, 1) := by decide +kernel
theorem dX1_setWords_1 : decode cX1_setWords 1 = .ok (.getfield 18, 3) := by decide +kernel
theorem dX1_setWords_4 : decode cX1_setWords 4 = .ok (.iconst 0, 1) := by decide +kernel
theorem dX1_setWords_5 : decode cX1_setWords 5 = .ok (.aload_n 1, 1) := by decide +kernel
theorem dX1_setWords_6 : decode cX1_setWords 6 = .ok (.getfield 52, 3) := by decide +kernel
theorem dX1_setWords_9 : decode cX1_setWords 9 = .ok (.getfield 127, 3) := by decide +kernel
theorem dX1_setWords_12 : decode cX1_setWords 12 = .ok (.iastore, 1) := by decide +kernel
theorem dX1_setWords_13 : decode cX1_setWords 13 = .ok (.aload_n 0, 1) := by decide +kernel
theorem dX1_setWords_14 : decode cX1_setWords 14 = .ok (.getfield 18, 3) := by decide +kernel
theorem dX1_setWords_17 : decode cX1_setWords 17 = .ok (.iconst 1, 1) := by decide +kernel
theorem dX1_setWords_18 : decode cX1_setWords 18 = .ok (.aload_n 0, 1) := by decide +kernel
theorem dX1_setWords_19 : decode cX1_setWords 19 = .ok (.getfield 29, 3) := by decide +kernel
theorem dX1_setWords_22 : decode cX1_setWords 22 = .ok (.iastore, 1) := by decide +kernel
theorem dX1_setWords_23 : decode cX1_setWords 23 = .ok (.aload_n 0, 1) := by decide +kernel
theorem dX1_setWords_24 : decode cX1_setWords 24 = .ok (.getfield 18, 3) := by decide +kernel
theorem dX1_setWords_27 : decode cX1_setWords 27 = .ok (.iconst 2, 1) := by decide +kernel
theorem dX1_setWords_28 : decode cX1_setWords 28 = .ok (.aload_n 0, 1) := by decide +kernel
theorem dX1_setWords_29 : decode cX1_setWords 29 = .ok (.getfield 22, 3) := by decide +kernel
theorem dX1_setWords_32 : decode cX1_setWords 32 = .ok (.iastore, 1) := by decide +kernel
theorem dX1_setWords_33 : decode cX1_setWords 33 = .ok (.aload_n 0, 1) := by decide +kernel
theorem dX1_setWords_34 : decode cX1_setWords 34 = .ok (.getfield 18, 3) := by decide +kernel
theorem dX1_setWords_37 : decode cX1_setWords 37 = .ok (.iconst 3, 1) := by decide +kernel
theorem dX1_setWords_38 : decode cX1_setWords 38 = .ok (.aload_n 1, 1) := by decide +kernel
theorem dX1_setWords_39 : decode cX1_setWords 39 = .ok (.invokevirtual 172, 3) := by decide +kernel
theorem dX1_setWords_42 : decode cX1_setWords 42 = .ok (.iastore, 1) := by decide +kernel
theorem dX1_setWords_43 : decode cX1_setWords 43 = .ok (.iconst 0, 1) := by decide +kernel
theorem dX1_setWords_44 : decode cX1_setWords 44 = .ok (.istore_n 2, 1) := by decide +kernel
theorem dX1_setWords_45 : decode cX1_setWords 45 = .ok (.iload_n 2, 1) := by decide +kernel
theorem dX1_setWords_46 : decode cX1_setWords 46 = .ok (.bipush 8, 2) := by decide +kernel
theorem dX1_setWords_48 : decode cX1_setWords 48 = .ok (.if_icmp .ge 62, 3) := by decide +kernel
theorem dX1_setWords_51 : decode cX1_setWords 51 = .ok (.aload_n 1, 1) := by decide +kernel
theorem dX1_setWords_52 : decode cX1_setWords 52 = .ok (.iload_n 2, 1) := by decide +kernel
theorem dX1_setWords_53 : decode cX1_setWords 53 = .ok (.invokevirtual 36, 3) := by decide +kernel
theorem dX1_setWords_56 : decode cX1_setWords 56 = .ok (.istore_n 3, 1) := by decide +kernel
theorem dX1_setWords_57 : decode cX1_setWords 57 = .ok (.aload_n 0, 1) := by decide +kernel
theorem dX1_setWords_58 : decode cX1_setWords 58 = .ok (.getfield 18, 3) := by decide +kernel
theorem dX1_setWords_61 : decode cX1_setWords 61 = .ok (.iconst 4, 1) := by decide +kernel
theorem dX1_setWords_62 : decode cX1_setWords 62 = .ok (.iload_n 2, 1) := by decide +kernel
theorem dX1_setWords_63 : decode cX1_setWords 63 = .ok (.iadd, 1) := by decide +kernel
theorem dX1_setWords_64 : decode cX1_setWords 64 = .ok (.iload_n 3, 1) := by decide +kernel
theorem dX1_setWords_65 : decode cX1_setWords 65 = .ok (.ifCond .eq 15, 3) := by decide +kernel
theorem dX1_setWords_68 : decode cX1_setWords 68 = .ok (.aload_n 1, 1) := by decide +kernel
theorem dX1_setWords_69 : decode cX1_setWords 69 = .ok (.getfield 52, 3) := by decide +kernel
theorem dX1_setWords_72 : decode cX1_setWords 72 = .ok (.getfield 97, 3) := by decide +kernel
theorem dX1_setWords_75 : decode cX1_setWords 75 = .ok (.iload_n 2, 1) := by decide +kernel
theorem dX1_setWords_76 : decode cX1_setWords 76 = .ok (.iaload, 1) := by decide +kernel
theorem dX1_setWords_77 : decode cX1_setWords 77 = .ok (.goto 4, 3) := by decide +kernel
theorem dX1_setWords_80 : decode cX1_setWords 80 = .ok (.iconst (-1), 1) := by decide +kernel
theorem dX1_setWords_81 : decode cX1_setWords 81 = .ok (.iastore, 1) := by decide +kernel
theorem dX1_setWords_82 : decode cX1_setWords 82 = .ok (.aload_n 0, 1) := by decide +kernel
theorem dX1_setWords_83 : decode cX1_setWords 83 = .ok (.getfield 18, 3) := by decide +kernel
theorem dX1_setWords_86 : decode cX1_setWords 86 = .ok (.bipush 12, 2) := by decide +kernel
theorem dX1_setWords_88 : decode cX1_setWords 88 = .ok (.iload_n 2, 1) := by decide +kernel
theorem dX1_setWords_89 : decode cX1_setWords 89 = .ok (.iadd, 1) := by decide +kernel
theorem dX1_setWords_90 : decode cX1_setWords 90 = .ok (.iload_n 3, 1) := by decide +kernel
theorem dX1_setWords_91 : decode cX1_setWords 91 = .ok (.ifCond .eq 11, 3) := by decide +kernel
theorem dX1_setWords_94 : decode cX1_setWords 94 = .ok (.aload_n 1, 1) := by decide +kernel
theorem dX1_setWords_95 : decode cX1_setWords 95 = .ok (.iload_n 2, 1) := by decide +kernel
theorem dX1_setWords_96 : decode cX1_setWords 96 = .ok (.invokevirtual 176, 3) := by decide +kernel
theorem dX1_setWords_99 : decode cX1_setWords 99 = .ok (.goto 4, 3) := by decide +kernel
theorem dX1_setWords_102 : decode cX1_setWords 102 = .ok (.iconst (-1), 1) := by decide +kernel
theorem dX1_setWords_103 : decode cX1_setWords 103 = .ok (.iastore, 1) := by decide +kernel
theorem dX1_setWords_104 : decode cX1_setWords 104 = .ok (.iinc 2 1, 3) := by decide +kernel
theorem dX1_setWords_107 : decode cX1_setWords 107 = .ok (.goto (-62), 3) := by decide +kernel
theorem dX1_setWords_110 : decode cX1_setWords 110 = .ok (.iconst 0, 1) := by decide +kernel
theorem dX1_setWords_111 : decode cX1_setWords 111 = .ok (.istore_n 2, 1) := by decide +kernel
theorem dX1_setWords_112 : decode cX1_setWords 112 = .ok (.iload_n 2, 1) := by decide +kernel
theorem dX1_setWords_113 : decode cX1_setWords 113 = .ok (.bipush 6, 2) := by decide +kernel
theorem dX1_setWords_115 : decode cX1_setWords 115 = .ok (.if_icmp .ge 39, 3) := by decide +kernel
theorem dX1_setWords_118 : decode cX1_setWords 118 = .ok (.aload_n 0, 1) := by decide +kernel
theorem dX1_setWords_119 : decode cX1_setWords 119 = .ok (.getfield 18, 3) := by decide +kernel
theorem dX1_setWords_122 : decode cX1_setWords 122 = .ok (.bipush 20, 2) := by decide +kernel
theorem dX1_setWords_124 : decode cX1_setWords 124 = .ok (.iload_n 2, 1) := by decide +kernel
theorem dX1_setWords_125 : decode cX1_setWords 125 = .ok (.iadd, 1) := by decide +kernel
theorem dX1_setWords_126 : decode cX1_setWords 126 = .ok (.aload_n 1, 1) := by decide +kernel
theorem dX1_setWords_127 : decode cX1_setWords 127 = .ok (.iload_n 2, 1) := by decide +kernel
theorem dX1_setWords_128 : decode cX1_setWords 128 = .ok (.invokevirtual 42, 3) := by decide +kernel
theorem dX1_setWords_131 : decode cX1_setWords 131 = .ok (.ifCond .eq 15, 3) := by decide +kernel
theorem dX1_setWords_134 : decode cX1_setWords 134 = .ok (.aload_n 1, 1) := by decide +kernel
theorem dX1_setWords_135 : decode cX1_setWords 135 = .ok (.getfield 52, 3) := by decide +kernel
theorem dX1_setWords_138 : decode cX1_setWords 138 = .ok (.getfield 78, 3) := by decide +kernel
theorem dX1_setWords_141 : decode cX1_setWords 141 = .ok (.iload_n 2, 1) := by decide +kernel
theorem dX1_setWords_142 : decode cX1_setWords 142 = .ok (.iaload, 1) := by decide +kernel
theorem dX1_setWords_143 : decode cX1_setWords 143 = .ok (.goto 4, 3) := by decide +kernel
theorem dX1_setWords_146 : decode cX1_setWords 146 = .ok (.iconst (-1), 1) := by decide +kernel
theorem dX1_setWords_147 : decode cX1_setWords 147 = .ok (.iastore, 1) := by decide +kernel
theorem dX1_setWords_148 : decode cX1_setWords 148 = .ok (.iinc 2 1, 3) := by decide +kernel
theorem dX1_setWords_151 : decode cX1_setWords 151 = .ok (.goto (-39), 3) := by decide +kernel
theorem dX1_setWords_154 : decode cX1_setWords 154 = .ok (.return_, 1) := by decide +kernel
theorem dX1_live_0 : decode cX1_live 0 = .ok (.aload_n 0, 1) := by decide +kernel
theorem dX1_live_1 : decode cX1_live 1 = .ok (.iload_n 2, 1) := by decide +kernel
theorem dX1_live_2 : decode cX1_live 2 = .ok (.putfield 26, 3) := by decide +kernel
theorem dX1_live_5 : decode cX1_live 5 = .ok (.iconst 0, 1) := by decide +kernel
theorem dX1_live_6 : decode cX1_live 6 = .ok (.istore 4, 2) := by decide +kernel
theorem dX1_live_8 : decode cX1_live 8 = .ok (.iconst 0, 1) := by decide +kernel
theorem dX1_live_9 : decode cX1_live 9 = .ok (.istore 5, 2) := by decide +kernel
theorem dX1_live_11 : decode cX1_live 11 = .ok (.iload 5, 2) := by decide +kernel
theorem dX1_live_13 : decode cX1_live 13 = .ok (.iload_n 3, 1) := by decide +kernel
theorem dX1_live_14 : decode cX1_live 14 = .ok (.if_icmp .ge 97, 3) := by decide +kernel
theorem dX1_live_17 : decode cX1_live 17 = .ok (.aload_n 1, 1) := by decide +kernel
theorem dX1_live_18 : decode cX1_live 18 = .ok (.getfield 52, 3) := by decide +kernel
theorem dX1_live_21 : decode cX1_live 21 = .ok (.getfield 127, 3) := by decide +kernel
theorem dX1_live_24 : decode cX1_live 24 = .ok (.sipush 999, 3) := by decide +kernel
theorem dX1_live_27 : decode cX1_live 27 = .ok (.if_icmp .ge 84, 3) := by decide +kernel
theorem dX1_live_30 : decode cX1_live 30 = .ok (.aload_n 0, 1) := by decide +kernel
theorem dX1_live_31 : decode cX1_live 31 = .ok (.aload_n 1, 1) := by decide +kernel
theorem dX1_live_32 : decode cX1_live 32 = .ok (.getfield 120, 3) := by decide +kernel
theorem dX1_live_35 : decode cX1_live 35 = .ok (.invokevirtual 179, 3) := by decide +kernel
theorem dX1_live_38 : decode cX1_live 38 = .ok (.istore 6, 2) := by decide +kernel
theorem dX1_live_40 : decode cX1_live 40 = .ok (.aload_n 0, 1) := by decide +kernel
theorem dX1_live_41 : decode cX1_live 41 = .ok (.aload_n 1, 1) := by decide +kernel
theorem dX1_live_42 : decode cX1_live 42 = .ok (.getfield 110, 3) := by decide +kernel
theorem dX1_live_45 : decode cX1_live 45 = .ok (.invokevirtual 179, 3) := by decide +kernel
theorem dX1_live_48 : decode cX1_live 48 = .ok (.istore 7, 2) := by decide +kernel
theorem dX1_live_50 : decode cX1_live 50 = .ok (.aload_n 0, 1) := by decide +kernel
theorem dX1_live_51 : decode cX1_live 51 = .ok (.bipush 8, 2) := by decide +kernel
theorem dX1_live_53 : decode cX1_live 53 = .ok (.invokevirtual 179, 3) := by decide +kernel
theorem dX1_live_56 : decode cX1_live 56 = .ok (.istore 8, 2) := by decide +kernel
theorem dX1_live_58 : decode cX1_live 58 = .ok (.aload_n 0, 1) := by decide +kernel
theorem dX1_live_59 : decode cX1_live 59 = .ok (.aload_n 1, 1) := by decide +kernel
theorem dX1_live_60 : decode cX1_live 60 = .ok (.aconst_null, 1) := by decide +kernel
theorem dX1_live_61 : decode cX1_live 61 = .ok (.iload 6, 2) := by decide +kernel
theorem dX1_live_63 : decode cX1_live 63 = .ok (.iload 7, 2) := by decide +kernel
theorem dX1_live_65 : decode cX1_live 65 = .ok (.invokevirtual 156, 3) := by decide +kernel
theorem dX1_live_68 : decode cX1_live 68 = .ok (.iconst 1, 1) := by decide +kernel
theorem dX1_live_69 : decode cX1_live 69 = .ok (.if_icmp .ne 6, 3) := by decide +kernel
theorem dX1_live_72 : decode cX1_live 72 = .ok (.iinc 4 1, 3) := by decide +kernel
theorem dX1_live_75 : decode cX1_live 75 = .ok (.iload 8, 2) := by decide +kernel
theorem dX1_live_77 : decode cX1_live 77 = .ok (.ifCond .ne 15, 3) := by decide +kernel
theorem dX1_live_80 : decode cX1_live 80 = .ok (.aload_n 0, 1) := by decide +kernel
theorem dX1_live_81 : decode cX1_live 81 = .ok (.aload_n 1, 1) := by decide +kernel
theorem dX1_live_82 : decode cX1_live 82 = .ok (.aconst_null, 1) := by decide +kernel
theorem dX1_live_83 : decode cX1_live 83 = .ok (.iload 6, 2) := by decide +kernel
theorem dX1_live_85 : decode cX1_live 85 = .ok (.invokevirtual 164, 3) := by decide +kernel
theorem dX1_live_88 : decode cX1_live 88 = .ok (.pop, 1) := by decide +kernel
theorem dX1_live_89 : decode cX1_live 89 = .ok (.goto 16, 3) := by decide +kernel
theorem dX1_live_92 : decode cX1_live 92 = .ok (.iload 8, 2) := by decide +kernel
theorem dX1_live_94 : decode cX1_live 94 = .ok (.iconst 1, 1) := by decide +kernel
theorem dX1_live_95 : decode cX1_live 95 = .ok (.if_icmp .ne 10, 3) := by decide +kernel
theorem dX1_live_98 : decode cX1_live 98 = .ok (.aload_n 0, 1) := by decide +kernel
theorem dX1_live_99 : decode cX1_live 99 = .ok (.aload_n 1, 1) := by decide +kernel
theorem dX1_live_100 : decode cX1_live 100 = .ok (.aconst_null, 1) := by decide +kernel
theorem dX1_live_101 : decode cX1_live 101 = .ok (.invokevirtual 168, 3) := by decide +kernel
theorem dX1_live_104 : decode cX1_live 104 = .ok (.pop, 1) := by decide +kernel
theorem dX1_live_105 : decode cX1_live 105 = .ok (.iinc 5 1, 3) := by decide +kernel
theorem dX1_live_108 : decode cX1_live 108 = .ok (.goto (-97), 3) := by decide +kernel
theorem dX1_live_111 : decode cX1_live 111 = .ok (.iload 4, 2) := by decide +kernel
theorem dX1_live_113 : decode cX1_live 113 = .ok (.ireturn, 1) := by decide +kernel
theorem dX1_draw_0 : decode cX1_draw 0 = .ok (.aload_n 0, 1) := by decide +kernel
theorem dX1_draw_1 : decode cX1_draw 1 = .ok (.aload_n 0, 1) := by decide +kernel
theorem dX1_draw_2 : decode cX1_draw 2 = .ok (.getfield 26, 3) := by decide +kernel
theorem dX1_draw_5 : decode cX1_draw 5 = .ok (.i2l, 1) := by decide +kernel
theorem dX1_draw_6 : decode cX1_draw 6 = .ok (.ldc2_w 182, 3) := by decide +kernel
theorem dX1_draw_9 : decode cX1_draw 9 = .ok (.lmul, 1) := by decide +kernel
theorem dX1_draw_10 : decode cX1_draw 10 = .ok (.ldc2_w 184, 3) := by decide +kernel
theorem dX1_draw_13 : decode cX1_draw 13 = .ok (.ladd, 1) := by decide +kernel
theorem dX1_draw_14 : decode cX1_draw 14 = .ok (.ldc2_w 186, 3) := by decide +kernel
theorem dX1_draw_17 : decode cX1_draw 17 = .ok (.lrem, 1) := by decide +kernel
theorem dX1_draw_18 : decode cX1_draw 18 = .ok (.l2i, 1) := by decide +kernel
theorem dX1_draw_19 : decode cX1_draw 19 = .ok (.putfield 26, 3) := by decide +kernel
theorem dX1_draw_22 : decode cX1_draw 22 = .ok (.iload_n 1, 1) := by decide +kernel
theorem dX1_draw_23 : decode cX1_draw 23 = .ok (.ifCond .le 12, 3) := by decide +kernel
theorem dX1_draw_26 : decode cX1_draw 26 = .ok (.aload_n 0, 1) := by decide +kernel
theorem dX1_draw_27 : decode cX1_draw 27 = .ok (.getfield 26, 3) := by decide +kernel
theorem dX1_draw_30 : decode cX1_draw 30 = .ok (.iload_n 1, 1) := by decide +kernel
theorem dX1_draw_31 : decode cX1_draw 31 = .ok (.irem, 1) := by decide +kernel
theorem dX1_draw_32 : decode cX1_draw 32 = .ok (.goto 4, 3) := by decide +kernel
theorem dX1_draw_35 : decode cX1_draw 35 = .ok (.iconst 0, 1) := by decide +kernel
theorem dX1_draw_36 : decode cX1_draw 36 = .ok (.ireturn, 1) := by decide +kernel
theorem dX2_init_0 : decode cX2_init 0 = .ok (.aload_n 0, 1) := by decide +kernel
theorem dX2_init_1 : decode cX2_init 1 = .ok (.invokespecial 3, 3) := by decide +kernel
theorem dX2_init_4 : decode cX2_init 4 = .ok (.aload_n 0, 1) := by decide +kernel
theorem dX2_init_5 : decode cX2_init 5 = .ok (.bipush 48, 2) := by decide +kernel
theorem dX2_init_7 : decode cX2_init 7 = .ok (.newarray .int, 2) := by decide +kernel
theorem dX2_init_9 : decode cX2_init 9 = .ok (.putfield 9, 3) := by decide +kernel
theorem dX2_init_12 : decode cX2_init 12 = .ok (.aload_n 0, 1) := by decide +kernel
theorem dX2_init_13 : decode cX2_init 13 = .ok (.bipush 48, 2) := by decide +kernel
theorem dX2_init_15 : decode cX2_init 15 = .ok (.newarray .int, 2) := by decide +kernel
theorem dX2_init_17 : decode cX2_init 17 = .ok (.putfield 15, 3) := by decide +kernel
theorem dX2_init_20 : decode cX2_init 20 = .ok (.aload_n 0, 1) := by decide +kernel
theorem dX2_init_21 : decode cX2_init 21 = .ok (.bipush 6, 2) := by decide +kernel
theorem dX2_init_23 : decode cX2_init 23 = .ok (.newarray .int, 2) := by decide +kernel
theorem dX2_init_25 : decode cX2_init 25 = .ok (.putfield 18, 3) := by decide +kernel
theorem dX2_init_28 : decode cX2_init 28 = .ok (.aload_n 0, 1) := by decide +kernel
theorem dX2_init_29 : decode cX2_init 29 = .ok (.bipush 8, 2) := by decide +kernel
theorem dX2_init_31 : decode cX2_init 31 = .ok (.newarray .int, 2) := by decide +kernel
theorem dX2_init_33 : decode cX2_init 33 = .ok (.putfield 21, 3) := by decide +kernel
theorem dX2_init_36 : decode cX2_init 36 = .ok (.aload_n 0, 1) := by decide +kernel
theorem dX2_init_37 : decode cX2_init 37 = .ok (.iconst 0, 1) := by decide +kernel
theorem dX2_init_38 : decode cX2_init 38 = .ok (.putfield 24, 3) := by decide +kernel
theorem dX2_init_41 : decode cX2_init 41 = .ok (.aload_n 0, 1) := by decide +kernel
theorem dX2_init_42 : decode cX2_init 42 = .ok (.iconst 0, 1) := by decide +kernel
theorem dX2_init_43 : decode cX2_init 43 = .ok (.putfield 28, 3) := by decide +kernel
theorem dX2_init_46 : decode cX2_init 46 = .ok (.return_, 1) := by decide +kernel
theorem dX2_copyFrom_0 : decode cX2_copyFrom 0 = .ok (.aload_n 1, 1) := by decide +kernel
theorem dX2_copyFrom_1 : decode cX2_copyFrom 1 = .ok (.getfield 9, 3) := by decide +kernel
theorem dX2_copyFrom_4 : decode cX2_copyFrom 4 = .ok (.iconst 0, 1) := by decide +kernel
theorem dX2_copyFrom_5 : decode cX2_copyFrom 5 = .ok (.aload_n 0, 1) := by decide +kernel
theorem dX2_copyFrom_6 : decode cX2_copyFrom 6 = .ok (.getfield 9, 3) := by decide +kernel
theorem dX2_copyFrom_9 : decode cX2_copyFrom 9 = .ok (.iconst 0, 1) := by decide +kernel
theorem dX2_copyFrom_10 : decode cX2_copyFrom 10 = .ok (.aload_n 0, 1) := by decide +kernel
theorem dX2_copyFrom_11 : decode cX2_copyFrom 11 = .ok (.getfield 9, 3) := by decide +kernel
theorem dX2_copyFrom_14 : decode cX2_copyFrom 14 = .ok (.arraylength, 1) := by decide +kernel
theorem dX2_copyFrom_15 : decode cX2_copyFrom 15 = .ok (.invokestatic 31, 3) := by decide +kernel
theorem dX2_copyFrom_18 : decode cX2_copyFrom 18 = .ok (.aload_n 1, 1) := by decide +kernel
theorem dX2_copyFrom_19 : decode cX2_copyFrom 19 = .ok (.getfield 15, 3) := by decide +kernel
theorem dX2_copyFrom_22 : decode cX2_copyFrom 22 = .ok (.iconst 0, 1) := by decide +kernel
theorem dX2_copyFrom_23 : decode cX2_copyFrom 23 = .ok (.aload_n 0, 1) := by decide +kernel
theorem dX2_copyFrom_24 : decode cX2_copyFrom 24 = .ok (.getfield 15, 3) := by decide +kernel
theorem dX2_copyFrom_27 : decode cX2_copyFrom 27 = .ok (.iconst 0, 1) := by decide +kernel
theorem dX2_copyFrom_28 : decode cX2_copyFrom 28 = .ok (.aload_n 0, 1) := by decide +kernel
theorem dX2_copyFrom_29 : decode cX2_copyFrom 29 = .ok (.getfield 15, 3) := by decide +kernel
theorem dX2_copyFrom_32 : decode cX2_copyFrom 32 = .ok (.arraylength, 1) := by decide +kernel
theorem dX2_copyFrom_33 : decode cX2_copyFrom 33 = .ok (.invokestatic 31, 3) := by decide +kernel
theorem dX2_copyFrom_36 : decode cX2_copyFrom 36 = .ok (.aload_n 1, 1) := by decide +kernel
theorem dX2_copyFrom_37 : decode cX2_copyFrom 37 = .ok (.getfield 18, 3) := by decide +kernel
theorem dX2_copyFrom_40 : decode cX2_copyFrom 40 = .ok (.iconst 0, 1) := by decide +kernel
theorem dX2_copyFrom_41 : decode cX2_copyFrom 41 = .ok (.aload_n 0, 1) := by decide +kernel
theorem dX2_copyFrom_42 : decode cX2_copyFrom 42 = .ok (.getfield 18, 3) := by decide +kernel
theorem dX2_copyFrom_45 : decode cX2_copyFrom 45 = .ok (.iconst 0, 1) := by decide +kernel
theorem dX2_copyFrom_46 : decode cX2_copyFrom 46 = .ok (.aload_n 0, 1) := by decide +kernel
theorem dX2_copyFrom_47 : decode cX2_copyFrom 47 = .ok (.getfield 18, 3) := by decide +kernel
theorem dX2_copyFrom_50 : decode cX2_copyFrom 50 = .ok (.arraylength, 1) := by decide +kernel
theorem dX2_copyFrom_51 : decode cX2_copyFrom 51 = .ok (.invokestatic 31, 3) := by decide +kernel
theorem dX2_copyFrom_54 : decode cX2_copyFrom 54 = .ok (.aload_n 1, 1) := by decide +kernel
theorem dX2_copyFrom_55 : decode cX2_copyFrom 55 = .ok (.getfield 21, 3) := by decide +kernel
theorem dX2_copyFrom_58 : decode cX2_copyFrom 58 = .ok (.iconst 0, 1) := by decide +kernel
theorem dX2_copyFrom_59 : decode cX2_copyFrom 59 = .ok (.aload_n 0, 1) := by decide +kernel
theorem dX2_copyFrom_60 : decode cX2_copyFrom 60 = .ok (.getfield 21, 3) := by decide +kernel
theorem dX2_copyFrom_63 : decode cX2_copyFrom 63 = .ok (.iconst 0, 1) := by decide +kernel
theorem dX2_copyFrom_64 : decode cX2_copyFrom 64 = .ok (.aload_n 0, 1) := by decide +kernel
theorem dX2_copyFrom_65 : decode cX2_copyFrom 65 = .ok (.getfield 21, 3) := by decide +kernel
theorem dX2_copyFrom_68 : decode cX2_copyFrom 68 = .ok (.arraylength, 1) := by decide +kernel
theorem dX2_copyFrom_69 : decode cX2_copyFrom 69 = .ok (.invokestatic 31, 3) := by decide +kernel
theorem dX2_copyFrom_72 : decode cX2_copyFrom 72 = .ok (.aload_n 0, 1) := by decide +kernel
theorem dX2_copyFrom_73 : decode cX2_copyFrom 73 = .ok (.aload_n 1, 1) := by decide +kernel
theorem dX2_copyFrom_74 : decode cX2_copyFrom 74 = .ok (.getfield 24, 3) := by decide +kernel
theorem dX2_copyFrom_77 : decode cX2_copyFrom 77 = .ok (.putfield 24, 3) := by decide +kernel
theorem dX2_copyFrom_80 : decode cX2_copyFrom 80 = .ok (.aload_n 0, 1) := by decide +kernel
theorem dX2_copyFrom_81 : decode cX2_copyFrom 81 = .ok (.aload_n 1, 1) := by decide +kernel
theorem dX2_copyFrom_82 : decode cX2_copyFrom 82 = .ok (.getfield 28, 3) := by decide +kernel
theorem dX2_copyFrom_85 : decode cX2_copyFrom 85 = .ok (.putfield 28, 3) := by decide +kernel
theorem dX2_copyFrom_88 : decode cX2_copyFrom 88 = .ok (.return_, 1) := by decide +kernel
theorem dX3_init_0 : decode cX3_init 0 = .ok (.aload_n 0, 1) := by decide +kernel
theorem dX3_init_1 : decode cX3_init 1 = .ok (.invokespecial 3, 3) := by decide +kernel
theorem dX3_init_4 : decode cX3_init 4 = .ok (.aload_n 0, 1) := by decide +kernel
theorem dX3_init_5 : decode cX3_init 5 = .ok (.bipush 16, 2) := by decide +kernel
theorem dX3_init_7 : decode cX3_init 7 = .ok (.anewarray 9, 3) := by decide +kernel
theorem dX3_init_10 : decode cX3_init 10 = .ok (.putfield 11, 3) := by decide +kernel
theorem dX3_init_13 : decode cX3_init 13 = .ok (.aload_n 0, 1) := by decide +kernel
theorem dX3_init_14 : decode cX3_init 14 = .ok (.bipush 16, 2) := by decide +kernel
theorem dX3_init_16 : decode cX3_init 16 = .ok (.newarray .int, 2) := by decide +kernel
theorem dX3_init_18 : decode cX3_init 18 = .ok (.putfield 17, 3) := by decide +kernel
theorem dX3_init_21 : decode cX3_init 21 = .ok (.aload_n 0, 1) := by decide +kernel
theorem dX3_init_22 : decode cX3_init 22 = .ok (.iconst 0, 1) := by decide +kernel
theorem dX3_init_23 : decode cX3_init 23 = .ok (.putfield 21, 3) := by decide +kernel
theorem dX3_init_26 : decode cX3_init 26 = .ok (.aload_n 0, 1) := by decide +kernel
theorem dX3_init_27 : decode cX3_init 27 = .ok (.iconst 0, 1) := by decide +kernel
theorem dX3_init_28 : decode cX3_init 28 = .ok (.putfield 25, 3) := by decide +kernel
theorem dX3_init_31 : decode cX3_init 31 = .ok (.return_, 1) := by decide +kernel
theorem dX3_push_0 : decode cX3_push 0 = .ok (.aload_n 0, 1) := by decide +kernel
theorem dX3_push_1 : decode cX3_push 1 = .ok (.getfield 11, 3) := by decide +kernel
theorem dX3_push_4 : decode cX3_push 4 = .ok (.aload_n 0, 1) := by decide +kernel
theorem dX3_push_5 : decode cX3_push 5 = .ok (.getfield 21, 3) := by decide +kernel
theorem dX3_push_8 : decode cX3_push 8 = .ok (.aaload, 1) := by decide +kernel
theorem dX3_push_9 : decode cX3_push 9 = .ok (.ifnonnull 19, 3) := by decide +kernel
theorem dX3_push_12 : decode cX3_push 12 = .ok (.aload_n 0, 1) := by decide +kernel
theorem dX3_push_13 : decode cX3_push 13 = .ok (.getfield 11, 3) := by decide +kernel
theorem dX3_push_16 : decode cX3_push 16 = .ok (.aload_n 0, 1) := by decide +kernel
theorem dX3_push_17 : decode cX3_push 17 = .ok (.getfield 21, 3) := by decide +kernel
theorem dX3_push_20 : decode cX3_push 20 = .ok (.new 9, 3) := by decide +kernel
theorem dX3_push_23 : decode cX3_push 23 = .ok (.dup, 1) := by decide +kernel
theorem dX3_push_24 : decode cX3_push 24 = .ok (.invokespecial 28, 3) := by decide +kernel
theorem dX3_push_27 : decode cX3_push 27 = .ok (.aastore, 1) := by decide +kernel
theorem dX3_push_28 : decode cX3_push 28 = .ok (.aload_n 0, 1) := by decide +kernel
theorem dX3_push_29 : decode cX3_push 29 = .ok (.getfield 11, 3) := by decide +kernel
theorem dX3_push_32 : decode cX3_push 32 = .ok (.aload_n 0, 1) := by decide +kernel
theorem dX3_push_33 : decode cX3_push 33 = .ok (.getfield 21, 3) := by decide +kernel
theorem dX3_push_36 : decode cX3_push 36 = .ok (.aaload, 1) := by decide +kernel
theorem dX3_push_37 : decode cX3_push 37 = .ok (.aload_n 2, 1) := by decide +kernel
theorem dX3_push_38 : decode cX3_push 38 = .ok (.invokevirtual 29, 3) := by decide +kernel
theorem dX3_push_41 : decode cX3_push 41 = .ok (.aload_n 0, 1) := by decide +kernel
theorem dX3_push_42 : decode cX3_push 42 = .ok (.getfield 17, 3) := by decide +kernel
theorem dX3_push_45 : decode cX3_push 45 = .ok (.aload_n 0, 1) := by decide +kernel
theorem dX3_push_46 : decode cX3_push 46 = .ok (.getfield 21, 3) := by decide +kernel
theorem dX3_push_49 : decode cX3_push 49 = .ok (.iload_n 1, 1) := by decide +kernel
theorem dX3_push_50 : decode cX3_push 50 = .ok (.iastore, 1) := by decide +kernel
theorem dX3_push_51 : decode cX3_push 51 = .ok (.aload_n 0, 1) := by decide +kernel
theorem dX3_push_52 : decode cX3_push 52 = .ok (.aload_n 0, 1) := by decide +kernel
theorem dX3_push_53 : decode cX3_push 53 = .ok (.getfield 21, 3) := by decide +kernel
theorem dX3_push_56 : decode cX3_push 56 = .ok (.iconst 1, 1) := by decide +kernel
theorem dX3_push_57 : decode cX3_push 57 = .ok (.iadd, 1) := by decide +kernel
theorem dX3_push_58 : decode cX3_push 58 = .ok (.bipush 16, 2) := by decide +kernel
theorem dX3_push_60 : decode cX3_push 60 = .ok (.irem, 1) := by decide +kernel
theorem dX3_push_61 : decode cX3_push 61 = .ok (.putfield 21, 3) := by decide +kernel
theorem dX3_push_64 : decode cX3_push 64 = .ok (.aload_n 0, 1) := by decide +kernel
theorem dX3_push_65 : decode cX3_push 65 = .ok (.aload_n 0, 1) := by decide +kernel
theorem dX3_push_66 : decode cX3_push 66 = .ok (.getfield 25, 3) := by decide +kernel
theorem dX3_push_69 : decode cX3_push 69 = .ok (.iconst 1, 1) := by decide +kernel
theorem dX3_push_70 : decode cX3_push 70 = .ok (.iadd, 1) := by decide +kernel
theorem dX3_push_71 : decode cX3_push 71 = .ok (.bipush 16, 2) := by decide +kernel
theorem dX3_push_73 : decode cX3_push 73 = .ok (.invokestatic 33, 3) := by decide +kernel
theorem dX3_push_76 : decode cX3_push 76 = .ok (.putfield 25, 3) := by decide +kernel
theorem dX3_push_79 : decode cX3_push 79 = .ok (.return_, 1) := by decide +kernel
theorem dX3_takeBack_0 : decode cX3_takeBack 0 = .ok (.aload_n 0, 1) := by decide +kernel
theorem dX3_takeBack_1 : decode cX3_takeBack 1 = .ok (.getfield 25, 3) := by decide +kernel
theorem dX3_takeBack_4 : decode cX3_takeBack 4 = .ok (.ifCond .ne 5, 3) := by decide +kernel
theorem dX3_takeBack_7 : decode cX3_takeBack 7 = .ok (.iconst (-1), 1) := by decide +kernel
theorem dX3_takeBack_8 : decode cX3_takeBack 8 = .ok (.ireturn, 1) := by decide +kernel
theorem dX3_takeBack_9 : decode cX3_takeBack 9 = .ok (.aload_n 0, 1) := by decide +kernel
theorem dX3_takeBack_10 : decode cX3_takeBack 10 = .ok (.aload_n 0, 1) := by decide +kernel
theorem dX3_takeBack_11 : decode cX3_takeBack 11 = .ok (.getfield 21, 3) := by decide +kernel
theorem dX3_takeBack_14 : decode cX3_takeBack 14 = .ok (.bipush 16, 2) := by decide +kernel
theorem dX3_takeBack_16 : decode cX3_takeBack 16 = .ok (.iadd, 1) := by decide +kernel
theorem dX3_takeBack_17 : decode cX3_takeBack 17 = .ok (.iconst 1, 1) := by decide +kernel
theorem dX3_takeBack_18 : decode cX3_takeBack 18 = .ok (.isub, 1) := by decide +kernel
theorem dX3_takeBack_19 : decode cX3_takeBack 19 = .ok (.bipush 16, 2) := by decide +kernel
theorem dX3_takeBack_21 : decode cX3_takeBack 21 = .ok (.irem, 1) := by decide +kernel
theorem dX3_takeBack_22 : decode cX3_takeBack 22 = .ok (.putfield 21, 3) := by decide +kernel
theorem dX3_takeBack_25 : decode cX3_takeBack 25 = .ok (.aload_n 0, 1) := by decide +kernel
theorem dX3_takeBack_26 : decode cX3_takeBack 26 = .ok (.dup, 1) := by decide +kernel
theorem dX3_takeBack_27 : decode cX3_takeBack 27 = .ok (.getfield 25, 3) := by decide +kernel
theorem dX3_takeBack_30 : decode cX3_takeBack 30 = .ok (.iconst 1, 1) := by decide +kernel
theorem dX3_takeBack_31 : decode cX3_takeBack 31 = .ok (.isub, 1) := by decide +kernel
theorem dX3_takeBack_32 : decode cX3_takeBack 32 = .ok (.putfield 25, 3) := by decide +kernel
theorem dX3_takeBack_35 : decode cX3_takeBack 35 = .ok (.aload_n 0, 1) := by decide +kernel
theorem dX3_takeBack_36 : decode cX3_takeBack 36 = .ok (.getfield 11, 3) := by decide +kernel
theorem dX3_takeBack_39 : decode cX3_takeBack 39 = .ok (.aload_n 0, 1) := by decide +kernel
theorem dX3_takeBack_40 : decode cX3_takeBack 40 = .ok (.getfield 21, 3) := by decide +kernel
theorem dX3_takeBack_43 : decode cX3_takeBack 43 = .ok (.aaload, 1) := by decide +kernel
theorem dX3_takeBack_44 : decode cX3_takeBack 44 = .ok (.astore_n 2, 1) := by decide +kernel
theorem dX3_takeBack_45 : decode cX3_takeBack 45 = .ok (.aload_n 2, 1) := by decide +kernel
theorem dX3_takeBack_46 : decode cX3_takeBack 46 = .ok (.ifnonnull 5, 3) := by decide +kernel
theorem dX3_takeBack_49 : decode cX3_takeBack 49 = .ok (.iconst (-1), 1) := by decide +kernel
theorem dX3_takeBack_50 : decode cX3_takeBack 50 = .ok (.ireturn, 1) := by decide +kernel
theorem dX3_takeBack_51 : decode cX3_takeBack 51 = .ok (.aload_n 1, 1) := by decide +kernel
theorem dX3_takeBack_52 : decode cX3_takeBack 52 = .ok (.aload_n 2, 1) := by decide +kernel
theorem dX3_takeBack_53 : decode cX3_takeBack 53 = .ok (.invokevirtual 29, 3) := by decide +kernel
theorem dX3_takeBack_56 : decode cX3_takeBack 56 = .ok (.aload_n 0, 1) := by decide +kernel
theorem dX3_takeBack_57 : decode cX3_takeBack 57 = .ok (.getfield 17, 3) := by decide +kernel
theorem dX3_takeBack_60 : decode cX3_takeBack 60 = .ok (.aload_n 0, 1) := by decide +kernel
theorem dX3_takeBack_61 : decode cX3_takeBack 61 = .ok (.getfield 21, 3) := by decide +kernel
theorem dX3_takeBack_64 : decode cX3_takeBack 64 = .ok (.iaload, 1) := by decide +kernel
theorem dX3_takeBack_65 : decode cX3_takeBack 65 = .ok (.ireturn, 1) := by decide +kernel
theorem dX3_clear_0 : decode cX3_clear 0 = .ok (.aload_n 0, 1) := by decide +kernel
theorem dX3_clear_1 : decode cX3_clear 1 = .ok (.iconst 0, 1) := by decide +kernel
theorem dX3_clear_2 : decode cX3_clear 2 = .ok (.putfield 25, 3) := by decide +kernel
theorem dX3_clear_5 : decode cX3_clear 5 = .ok (.return_, 1) := by decide +kernel
theorem dX4_init_0 : decode cX4_init 0 = .ok (.aload_n 0, 1) := by decide +kernel
theorem dX4_init_1 : decode cX4_init 1 = .ok (.invokespecial 3, 3) := by decide +kernel
theorem dX4_init_4 : decode cX4_init 4 = .ok (.aload_n 0, 1) := by decide +kernel
theorem dX4_init_5 : decode cX4_init 5 = .ok (.bipush 6, 2) := by decide +kernel
theorem dX4_init_7 : decode cX4_init 7 = .ok (.newarray .int, 2) := by decide +kernel
theorem dX4_init_9 : decode cX4_init 9 = .ok (.putfield 9, 3) := by decide +kernel
theorem dX4_init_12 : decode cX4_init 12 = .ok (.aload_n 0, 1) := by decide +kernel
theorem dX4_init_13 : decode cX4_init 13 = .ok (.iconst 0, 1) := by decide +kernel
theorem dX4_init_14 : decode cX4_init 14 = .ok (.putfield 15, 3) := by decide +kernel
theorem dX4_init_17 : decode cX4_init 17 = .ok (.aload_n 0, 1) := by decide +kernel
theorem dX4_init_18 : decode cX4_init 18 = .ok (.iconst 0, 1) := by decide +kernel
theorem dX4_init_19 : decode cX4_init 19 = .ok (.putfield 19, 3) := by decide +kernel
theorem dX4_init_22 : decode cX4_init 22 = .ok (.aload_n 0, 1) := by decide +kernel
theorem dX4_init_23 : decode cX4_init 23 = .ok (.bipush 6, 2) := by decide +kernel
theorem dX4_init_25 : decode cX4_init 25 = .ok (.newarray .int, 2) := by decide +kernel
theorem dX4_init_27 : decode cX4_init 27 = .ok (.putfield 22, 3) := by decide +kernel
theorem dX4_init_30 : decode cX4_init 30 = .ok (.aload_n 0, 1) := by decide +kernel
theorem dX4_init_31 : decode cX4_init 31 = .ok (.iconst 0, 1) := by decide +kernel
theorem dX4_init_32 : decode cX4_init 32 = .ok (.putfield 25, 3) := by decide +kernel
theorem dX4_init_35 : decode cX4_init 35 = .ok (.aload_n 0, 1) := by decide +kernel
theorem dX4_init_36 : decode cX4_init 36 = .ok (.sipush 256, 3) := by decide +kernel
theorem dX4_init_39 : decode cX4_init 39 = .ok (.newarray .int, 2) := by decide +kernel
theorem dX4_init_41 : decode cX4_init 41 = .ok (.putfield 28, 3) := by decide +kernel
theorem dX4_init_44 : decode cX4_init 44 = .ok (.aload_n 0, 1) := by decide +kernel
theorem dX4_init_45 : decode cX4_init 45 = .ok (.bipush 8, 2) := by decide +kernel
theorem dX4_init_47 : decode cX4_init 47 = .ok (.newarray .int, 2) := by decide +kernel
theorem dX4_init_49 : decode cX4_init 49 = .ok (.putfield 31, 3) := by decide +kernel
theorem dX4_init_52 : decode cX4_init 52 = .ok (.aload_n 0, 1) := by decide +kernel
theorem dX4_init_53 : decode cX4_init 53 = .ok (.bipush 64, 2) := by decide +kernel
theorem dX4_init_55 : decode cX4_init 55 = .ok (.newarray .int, 2) := by decide +kernel
theorem dX4_init_57 : decode cX4_init 57 = .ok (.putfield 34, 3) := by decide +kernel
theorem dX4_init_60 : decode cX4_init 60 = .ok (.aload_n 0, 1) := by decide +kernel
theorem dX4_init_61 : decode cX4_init 61 = .ok (.bipush 8, 2) := by decide +kernel
theorem dX4_init_63 : decode cX4_init 63 = .ok (.newarray .int, 2) := by decide +kernel
theorem dX4_init_65 : decode cX4_init 65 = .ok (.putfield 37, 3) := by decide +kernel
theorem dX4_init_68 : decode cX4_init 68 = .ok (.aload_n 0, 1) := by decide +kernel
theorem dX4_init_69 : decode cX4_init 69 = .ok (.bipush 8, 2) := by decide +kernel
theorem dX4_init_71 : decode cX4_init 71 = .ok (.newarray .int, 2) := by decide +kernel
theorem dX4_init_73 : decode cX4_init 73 = .ok (.putfield 40, 3) := by decide +kernel
theorem dX4_init_76 : decode cX4_init 76 = .ok (.aload_n 0, 1) := by decide +kernel
theorem dX4_init_77 : decode cX4_init 77 = .ok (.iconst 0, 1) := by decide +kernel
theorem dX4_init_78 : decode cX4_init 78 = .ok (.putfield 43, 3) := by decide +kernel
theorem dX4_init_81 : decode cX4_init 81 = .ok (.return_, 1) := by decide +kernel
theorem dX4_findVisits_0 : decode cX4_findVisits 0 = .ok (.aload_n 0, 1) := by decide +kernel
theorem dX4_findVisits_1 : decode cX4_findVisits 1 = .ok (.iload_n 3, 1) := by decide +kernel
theorem dX4_findVisits_2 : decode cX4_findVisits 2 = .ok (.putfield 15, 3) := by decide +kernel
theorem dX4_findVisits_5 : decode cX4_findVisits 5 = .ok (.aload_n 0, 1) := by decide +kernel
theorem dX4_findVisits_6 : decode cX4_findVisits 6 = .ok (.iconst 0, 1) := by decide +kernel
theorem dX4_findVisits_7 : decode cX4_findVisits 7 = .ok (.putfield 25, 3) := by decide +kernel
theorem dX4_findVisits_10 : decode cX4_findVisits 10 = .ok (.aload_n 0, 1) := by decide +kernel
theorem dX4_findVisits_11 : decode cX4_findVisits 11 = .ok (.iconst 0, 1) := by decide +kernel
theorem dX4_findVisits_12 : decode cX4_findVisits 12 = .ok (.putfield 19, 3) := by decide +kernel
theorem dX4_findVisits_15 : decode cX4_findVisits 15 = .ok (.aload_n 1, 1) := by decide +kernel
theorem dX4_findVisits_16 : decode cX4_findVisits 16 = .ok (.iload_n 2, 1) := by decide +kernel
theorem dX4_findVisits_17 : decode cX4_findVisits 17 = .ok (.invokevirtual 46, 3) := by decide +kernel
theorem dX4_findVisits_20 : decode cX4_findVisits 20 = .ok (.ifCond .eq 18, 3) := by decide +kernel
theorem dX4_findVisits_23 : decode cX4_findVisits 23 = .ok (.aload_n 0, 1) := by decide +kernel
theorem dX4_findVisits_24 : decode cX4_findVisits 24 = .ok (.aload_n 1, 1) := by decide +kernel
theorem dX4_findVisits_25 : decode cX4_findVisits 25 = .ok (.iload_n 2, 1) := by decide +kernel
theorem dX4_findVisits_26 : decode cX4_findVisits 26 = .ok (.aload_n 1, 1) := by decide +kernel
theorem dX4_findVisits_27 : decode cX4_findVisits 27 = .ok (.getfield 52, 3) := by decide +kernel
theorem dX4_findVisits_30 : decode cX4_findVisits 30 = .ok (.iload_n 2, 1) := by decide +kernel
theorem dX4_findVisits_31 : decode cX4_findVisits 31 = .ok (.iaload, 1) := by decide +kernel
theorem dX4_findVisits_32 : decode cX4_findVisits 32 = .ok (.iconst 0, 1) := by decide +kernel
theorem dX4_findVisits_33 : decode cX4_findVisits 33 = .ok (.iconst 0, 1) := by decide +kernel
theorem dX4_findVisits_34 : decode cX4_findVisits 34 = .ok (.iconst 0, 1) := by decide +kernel
theorem dX4_findVisits_35 : decode cX4_findVisits 35 = .ok (.invokevirtual 55, 3) := by decide +kernel
theorem dX4_findVisits_38 : decode cX4_findVisits 38 = .ok (.return_, 1) := by decide +kernel
theorem dX4_walk_0 : decode cX4_walk 0 = .ok (.iload 6, 2) := by decide +kernel
theorem dX4_walk_2 : decode cX4_walk 2 = .ok (.aload_n 0, 1) := by decide +kernel
theorem dX4_walk_3 : decode cX4_walk 3 = .ok (.getfield 25, 3) := by decide +kernel
theorem dX4_walk_6 : decode cX4_walk 6 = .ok (.if_icmp .gt 21, 3) := by decide +kernel
theorem dX4_walk_9 : decode cX4_walk 9 = .ok (.iload 6, 2) := by decide +kernel
theorem dX4_walk_11 : decode cX4_walk 11 = .ok (.aload_n 0, 1) := by decide +kernel
theorem dX4_walk_12 : decode cX4_walk 12 = .ok (.getfield 25, 3) := by decide +kernel
theorem dX4_walk_15 : decode cX4_walk 15 = .ok (.if_icmp .ne 39, 3) := by decide +kernel
theorem dX4_walk_18 : decode cX4_walk 18 = .ok (.iload 4, 2) := by decide +kernel
theorem dX4_walk_20 : decode cX4_walk 20 = .ok (.aload_n 0, 1) := by decide +kernel
theorem dX4_walk_21 : decode cX4_walk 21 = .ok (.getfield 19, 3) := by decide +kernel
theorem dX4_walk_24 : decode cX4_walk 24 = .ok (.if_icmp .ge 30, 3) := by decide +kernel
theorem dX4_walk_27 : decode cX4_walk 27 = .ok (.aload_n 0, 1) := by decide +kernel
theorem dX4_walk_28 : decode cX4_walk 28 = .ok (.iload 6, 2) := by decide +kernel
theorem dX4_walk_30 : decode cX4_walk 30 = .ok (.putfield 25, 3) := by decide +kernel
theorem dX4_walk_33 : decode cX4_walk 33 = .ok (.aload_n 0, 1) := by decide +kernel
theorem dX4_walk_34 : decode cX4_walk 34 = .ok (.iload 4, 2) := by decide +kernel
theorem dX4_walk_36 : decode cX4_walk 36 = .ok (.putfield 19, 3) := by decide +kernel
theorem dX4_walk_39 : decode cX4_walk 39 = .ok (.aload_n 0, 1) := by decide +kernel
theorem dX4_walk_40 : decode cX4_walk 40 = .ok (.getfield 9, 3) := by decide +kernel
theorem dX4_walk_43 : decode cX4_walk 43 = .ok (.iconst 0, 1) := by decide +kernel
theorem dX4_walk_44 : decode cX4_walk 44 = .ok (.aload_n 0, 1) := by decide +kernel
theorem dX4_walk_45 : decode cX4_walk 45 = .ok (.getfield 22, 3) := by decide +kernel
theorem dX4_walk_48 : decode cX4_walk 48 = .ok (.iconst 0, 1) := by decide +kernel
theorem dX4_walk_49 : decode cX4_walk 49 = .ok (.iload 6, 2) := by decide +kernel
theorem dX4_walk_51 : decode cX4_walk 51 = .ok (.invokestatic 59, 3) := by decide +kernel
theorem dX4_walk_54 : decode cX4_walk 54 = .ok (.iload 6, 2) := by decide +kernel
theorem dX4_walk_56 : decode cX4_walk 56 = .ok (.bipush 6, 2) := by decide +kernel
theorem dX4_walk_58 : decode cX4_walk 58 = .ok (.if_icmp .lt 4, 3) := by decide +kernel
theorem dX4_walk_61 : decode cX4_walk 61 = .ok (.return_, 1) := by decide +kernel
theorem dX4_walk_62 : decode cX4_walk 62 = .ok (.iconst 0, 1) := by decide +kernel
theorem dX4_walk_63 : decode cX4_walk 63 = .ok (.istore 7, 2) := by decide +kernel
theorem dX4_walk_65 : decode cX4_walk 65 = .ok (.iload 7, 2) := by decide +kernel
theorem dX4_walk_67 : decode cX4_walk 67 = .ok (.aload_n 1, 1) := by decide +kernel
theorem dX4_walk_68 : decode cX4_walk 68 = .ok (.getfield 65, 3) := by decide +kernel
theorem dX4_walk_71 : decode cX4_walk 71 = .ok (.if_icmp .ge 90, 3) := by decide +kernel
theorem dX4_walk_74 : decode cX4_walk 74 = .ok (.iload 4, 2) := by decide +kernel
theorem dX4_walk_76 : decode cX4_walk 76 = .ok (.iload_n 3, 1) := by decide +kernel
theorem dX4_walk_77 : decode cX4_walk 77 = .ok (.aload_n 1, 1) := by decide +kernel
theorem dX4_walk_78 : decode cX4_walk 78 = .ok (.getfield 68, 3) := by decide +kernel
theorem dX4_walk_81 : decode cX4_walk 81 = .ok (.iload 7, 2) := by decide +kernel
theorem dX4_walk_83 : decode cX4_walk 83 = .ok (.iaload, 1) := by decide +kernel
theorem dX4_walk_84 : decode cX4_walk 84 = .ok (.invokestatic 71, 3) := by decide +kernel
theorem dX4_walk_87 : decode cX4_walk 87 = .ok (.iadd, 1) := by decide +kernel
theorem dX4_walk_88 : decode cX4_walk 88 = .ok (.istore 8, 2) := by decide +kernel
theorem dX4_walk_90 : decode cX4_walk 90 = .ok (.iload 5, 2) := by decide +kernel
theorem dX4_walk_92 : decode cX4_walk 92 = .ok (.iload 7, 2) := by decide +kernel
theorem dX4_walk_94 : decode cX4_walk 94 = .ok (.invokestatic 75, 3) := by decide +kernel
theorem dX4_walk_97 : decode cX4_walk 97 = .ok (.ifCond .ne 58, 3) := by decide +kernel
theorem dX4_walk_100 : decode cX4_walk 100 = .ok (.aload_n 1, 1) := by decide +kernel
theorem dX4_walk_101 : decode cX4_walk 101 = .ok (.iload_n 2, 1) := by decide +kernel
theorem dX4_walk_102 : decode cX4_walk 102 = .ok (.iload 7, 2) := by decide +kernel
theorem dX4_walk_104 : decode cX4_walk 104 = .ok (.invokevirtual 79, 3) := by decide +kernel
theorem dX4_walk_107 : decode cX4_walk 107 = .ok (.iconst 1, 1) := by decide +kernel
theorem dX4_walk_108 : decode cX4_walk 108 = .ok (.if_icmp .lt 47, 3) := by decide +kernel
theorem dX4_walk_111 : decode cX4_walk 111 = .ok (.iload 8, 2) := by decide +kernel
theorem dX4_walk_113 : decode cX4_walk 113 = .ok (.aload_n 0, 1) := by decide +kernel
theorem dX4_walk_114 : decode cX4_walk 114 = .ok (.getfield 15, 3) := by decide +kernel
theorem dX4_walk_117 : decode cX4_walk 117 = .ok (.if_icmp .gt 38, 3) := by decide +kernel
theorem dX4_walk_120 : decode cX4_walk 120 = .ok (.aload_n 0, 1) := by decide +kernel
theorem dX4_walk_121 : decode cX4_walk 121 = .ok (.getfield 9, 3) := by decide +kernel
theorem dX4_walk_124 : decode cX4_walk 124 = .ok (.iload 6, 2) := by decide +kernel
theorem dX4_walk_126 : decode cX4_walk 126 = .ok (.iload 7, 2) := by decide +kernel
theorem dX4_walk_128 : decode cX4_walk 128 = .ok (.iastore, 1) := by decide +kernel
theorem dX4_walk_129 : decode cX4_walk 129 = .ok (.aload_n 0, 1) := by decide +kernel
theorem dX4_walk_130 : decode cX4_walk 130 = .ok (.aload_n 1, 1) := by decide +kernel
theorem dX4_walk_131 : decode cX4_walk 131 = .ok (.iload_n 2, 1) := by decide +kernel
theorem dX4_walk_132 : decode cX4_walk 132 = .ok (.aload_n 1, 1) := by decide +kernel
theorem dX4_walk_133 : decode cX4_walk 133 = .ok (.getfield 68, 3) := by decide +kernel
theorem dX4_walk_136 : decode cX4_walk 136 = .ok (.iload 7, 2) := by decide +kernel
theorem dX4_walk_138 : decode cX4_walk 138 = .ok (.iaload, 1) := by decide +kernel
theorem dX4_walk_139 : decode cX4_walk 139 = .ok (.iload 8, 2) := by decide +kernel
theorem dX4_walk_141 : decode cX4_walk 141 = .ok (.iload 5, 2) := by decide +kernel
theorem dX4_walk_143 : decode cX4_walk 143 = .ok (.iconst 1, 1) := by decide +kernel
theorem dX4_walk_144 : decode cX4_walk 144 = .ok (.iload 7, 2) := by decide +kernel
theorem dX4_walk_146 : decode cX4_walk 146 = .ok (.ishl, 1) := by decide +kernel
theorem dX4_walk_147 : decode cX4_walk 147 = .ok (.ior, 1) := by decide +kernel
theorem dX4_walk_148 : decode cX4_walk 148 = .ok (.iload 6, 2) := by decide +kernel
theorem dX4_walk_150 : decode cX4_walk 150 = .ok (.iconst 1, 1) := by decide +kernel
theorem dX4_walk_151 : decode cX4_walk 151 = .ok (.iadd, 1) := by decide +kernel
theorem dX4_walk_152 : decode cX4_walk 152 = .ok (.invokevirtual 55, 3) := by decide +kernel
theorem dX4_walk_155 : decode cX4_walk 155 = .ok (.iinc 7 1, 3) := by decide +kernel
theorem dX4_walk_158 : decode cX4_walk 158 = .ok (.goto (-93), 3) := by decide +kernel
theorem dX4_walk_161 : decode cX4_walk 161 = .ok (.return_, 1) := by decide +kernel
theorem dX4_findExchange_0 : decode cX4_findExchange 0 = .ok (.aload_n 1, 1) := by decide +kernel
theorem dX4_findExchange_1 : decode cX4_findExchange 1 = .ok (.getfield 82, 3) := by decide +kernel
theorem dX4_findExchange_4 : decode cX4_findExchange 4 = .ok (.istore_n 2, 1) := by decide +kernel
theorem dX4_findExchange_5 : decode cX4_findExchange 5 = .ok (.iconst 1, 1) := by decide +kernel
theorem dX4_findExchange_6 : decode cX4_findExchange 6 = .ok (.iload_n 2, 1) := by decide +kernel
theorem dX4_findExchange_7 : decode cX4_findExchange 7 = .ok (.ishl, 1) := by decide +kernel
theorem dX4_findExchange_8 : decode cX4_findExchange 8 = .ok (.iconst 1, 1) := by decide +kernel
theorem dX4_findExchange_9 : decode cX4_findExchange 9 = .ok (.isub, 1) := by decide +kernel
theorem dX4_findExchange_10 : decode cX4_findExchange 10 = .ok (.istore_n 3, 1) := by decide +kernel
theorem dX4_findExchange_11 : decode cX4_findExchange 11 = .ok (.aload_n 0, 1) := by decide +kernel
theorem dX4_findExchange_12 : decode cX4_findExchange 12 = .ok (.getfield 28, 3) := by decide +kernel
theorem dX4_findExchange_15 : decode cX4_findExchange 15 = .ok (.iload_n 3, 1) := by decide +kernel
theorem dX4_findExchange_16 : decode cX4_findExchange 16 = .ok (.iconst 0, 1) := by decide +kernel
theorem dX4_findExchange_17 : decode cX4_findExchange 17 = .ok (.iastore, 1) := by decide +kernel
theorem dX4_findExchange_18 : decode cX4_findExchange 18 = .ok (.iload_n 3, 1) := by decide +kernel
theorem dX4_findExchange_19 : decode cX4_findExchange 19 = .ok (.iconst 1, 1) := by decide +kernel
theorem dX4_findExchange_20 : decode cX4_findExchange 20 = .ok (.isub, 1) := by decide +kernel
theorem dX4_findExchange_21 : decode cX4_findExchange 21 = .ok (.istore 4, 2) := by decide +kernel
theorem dX4_findExchange_23 : decode cX4_findExchange 23 = .ok (.iload 4, 2) := by decide +kernel
theorem dX4_findExchange_25 : decode cX4_findExchange 25 = .ok (.ifCond .lt 61, 3) := by decide +kernel
theorem dX4_findExchange_28 : decode cX4_findExchange 28 = .ok (.iload 4, 2) := by decide +kernel
theorem dX4_findExchange_30 : decode cX4_findExchange 30 = .ok (.invokestatic 85, 3) := by decide +kernel
theorem dX4_findExchange_33 : decode cX4_findExchange 33 = .ok (.istore 5, 2) := by decide +kernel
theorem dX4_findExchange_35 : decode cX4_findExchange 35 = .ok (.iconst (-1), 1) := by decide +kernel
theorem dX4_findExchange_36 : decode cX4_findExchange 36 = .ok (.istore 6, 2) := by decide +kernel
theorem dX4_findExchange_38 : decode cX4_findExchange 38 = .ok (.iconst 0, 1) := by decide +kernel
theorem dX4_findExchange_39 : decode cX4_findExchange 39 = .ok (.istore 7, 2) := by decide +kernel
theorem dX4_findExchange_41 : decode cX4_findExchange 41 = .ok (.iload 7, 2) := by decide +kernel
theorem dX4_findExchange_43 : decode cX4_findExchange 43 = .ok (.iload_n 2, 1) := by decide +kernel
theorem dX4_findExchange_44 : decode cX4_findExchange 44 = .ok (.if_icmp .ge 27, 3) := by decide +kernel
theorem dX4_findExchange_47 : decode cX4_findExchange 47 = .ok (.iload 6, 2) := by decide +kernel
theorem dX4_findExchange_49 : decode cX4_findExchange 49 = .ok (.aload_n 0, 1) := by decide +kernel
theorem dX4_findExchange_50 : decode cX4_findExchange 50 = .ok (.aload_n 1, 1) := by decide +kernel
theorem dX4_findExchange_51 : decode cX4_findExchange 51 = .ok (.iload 4, 2) := by decide +kernel
theorem dX4_findExchange_53 : decode cX4_findExchange 53 = .ok (.iload 5, 2) := by decide +kernel
theorem dX4_findExchange_55 : decode cX4_findExchange 55 = .ok (.iload 7, 2) := by decide +kernel
theorem dX4_findExchange_57 : decode cX4_findExchange 57 = .ok (.invokevirtual 91, 3) := by decide +kernel
theorem dX4_findExchange_60 : decode cX4_findExchange 60 = .ok (.invokestatic 95, 3) := by decide +kernel
theorem dX4_findExchange_63 : decode cX4_findExchange 63 = .ok (.istore 6, 2) := by decide +kernel
theorem dX4_findExchange_65 : decode cX4_findExchange 65 = .ok (.iinc 7 1, 3) := by decide +kernel
theorem dX4_findExchange_68 : decode cX4_findExchange 68 = .ok (.goto (-27), 3) := by decide +kernel
theorem dX4_findExchange_71 : decode cX4_findExchange 71 = .ok (.aload_n 0, 1) := by decide +kernel
theorem dX4_findExchange_72 : decode cX4_findExchange 72 = .ok (.getfield 28, 3) := by decide +kernel
theorem dX4_findExchange_75 : decode cX4_findExchange 75 = .ok (.iload 4, 2) := by decide +kernel
theorem dX4_findExchange_77 : decode cX4_findExchange 77 = .ok (.iload 6, 2) := by decide +kernel
theorem dX4_findExchange_79 : decode cX4_findExchange 79 = .ok (.iastore, 1) := by decide +kernel
theorem dX4_findExchange_80 : decode cX4_findExchange 80 = .ok (.iinc 4 (-1), 3) := by decide +kernel
theorem dX4_findExchange_83 : decode cX4_findExchange 83 = .ok (.goto (-60), 3) := by decide +kernel
theorem dX4_findExchange_86 : decode cX4_findExchange 86 = .ok (.iconst 0, 1) := by decide +kernel
theorem dX4_findExchange_87 : decode cX4_findExchange 87 = .ok (.istore 4, 2) := by decide +kernel
theorem dX4_findExchange_89 : decode cX4_findExchange 89 = .ok (.iconst 0, 1) := by decide +kernel
theorem dX4_findExchange_90 : decode cX4_findExchange 90 = .ok (.istore 5, 2) := by decide +kernel
theorem dX4_findExchange_92 : decode cX4_findExchange 92 = .ok (.iload 5, 2) := by decide +kernel
theorem dX4_findExchange_94 : decode cX4_findExchange 94 = .ok (.iload_n 2, 1) := by decide +kernel
theorem dX4_findExchange_95 : decode cX4_findExchange 95 = .ok (.if_icmp .ge 50, 3) := by decide +kernel
theorem dX4_findExchange_98 : decode cX4_findExchange 98 = .ok (.aload_n 0, 1) := by decide +kernel
theorem dX4_findExchange_99 : decode cX4_findExchange 99 = .ok (.aload_n 1, 1) := by decide +kernel
theorem dX4_findExchange_100 : decode cX4_findExchange 100 = .ok (.iload 4, 2) := by decide +kernel
theorem dX4_findExchange_102 : decode cX4_findExchange 102 = .ok (.iload 5, 2) := by decide +kernel
theorem dX4_findExchange_104 : decode cX4_findExchange 104 = .ok (.invokevirtual 100, 3) := by decide +kernel
theorem dX4_findExchange_107 : decode cX4_findExchange 107 = .ok (.istore 6, 2) := by decide +kernel
theorem dX4_findExchange_109 : decode cX4_findExchange 109 = .ok (.aload_n 0, 1) := by decide +kernel
theorem dX4_findExchange_110 : decode cX4_findExchange 110 = .ok (.getfield 31, 3) := by decide +kernel
theorem dX4_findExchange_113 : decode cX4_findExchange 113 = .ok (.iload 5, 2) := by decide +kernel
theorem dX4_findExchange_115 : decode cX4_findExchange 115 = .ok (.iload 6, 2) := by decide +kernel
theorem dX4_findExchange_117 : decode cX4_findExchange 117 = .ok (.iload 5, 2) := by decide +kernel
theorem dX4_findExchange_119 : decode cX4_findExchange 119 = .ok (.if_icmp .ne 8, 3) := by decide +kernel
theorem dX4_findExchange_122 : decode cX4_findExchange 122 = .ok (.bipush 100, 2) := by decide +kernel
theorem dX4_findExchange_124 : decode cX4_findExchange 124 = .ok (.goto 5, 3) := by decide +kernel
theorem dX4_findExchange_127 : decode cX4_findExchange 127 = .ok (.iload 6, 2) := by decide +kernel
theorem dX4_findExchange_129 : decode cX4_findExchange 129 = .ok (.iastore, 1) := by decide +kernel
theorem dX4_findExchange_130 : decode cX4_findExchange 130 = .ok (.iload 4, 2) := by decide +kernel
theorem dX4_findExchange_132 : decode cX4_findExchange 132 = .ok (.iconst 1, 1) := by decide +kernel
theorem dX4_findExchange_133 : decode cX4_findExchange 133 = .ok (.iload 6, 2) := by decide +kernel
theorem dX4_findExchange_135 : decode cX4_findExchange 135 = .ok (.ishl, 1) := by decide +kernel
theorem dX4_findExchange_136 : decode cX4_findExchange 136 = .ok (.ior, 1) := by decide +kernel
theorem dX4_findExchange_137 : decode cX4_findExchange 137 = .ok (.istore 4, 2) := by decide +kernel
theorem dX4_findExchange_139 : decode cX4_findExchange 139 = .ok (.iinc 5 1, 3) := by decide +kernel
theorem dX4_findExchange_142 : decode cX4_findExchange 142 = .ok (.goto (-50), 3) := by decide +kernel
theorem dX4_findExchange_145 : decode cX4_findExchange 145 = .ok (.aload_n 0, 1) := by decide +kernel
theorem dX4_findExchange_146 : decode cX4_findExchange 146 = .ok (.getfield 28, 3) := by decide +kernel
theorem dX4_findExchange_149 : decode cX4_findExchange 149 = .ok (.iconst 0, 1) := by decide +kernel
theorem dX4_findExchange_150 : decode cX4_findExchange 150 = .ok (.iaload, 1) := by decide +kernel
theorem dX4_findExchange_151 : decode cX4_findExchange 151 = .ok (.ireturn, 1) := by decide +kernel
theorem dX4_firstBestGiver_0 : decode cX4_firstBestGiver 0 = .ok (.iconst 0, 1) := by decide +kernel
theorem dX4_firstBestGiver_1 : decode cX4_firstBestGiver 1 = .ok (.istore 4, 2) := by decide +kernel
theorem dX4_firstBestGiver_3 : decode cX4_firstBestGiver 3 = .ok (.iload 4, 2) := by decide +kernel
theorem dX4_firstBestGiver_5 : decode cX4_firstBestGiver 5 = .ok (.aload_n 1, 1) := by decide +kernel
theorem dX4_firstBestGiver_6 : decode cX4_firstBestGiver 6 = .ok (.getfield 82, 3) := by decide +kernel
theorem dX4_firstBestGiver_9 : decode cX4_firstBestGiver 9 = .ok (.if_icmp .ge 36, 3) := by decide +kernel
theorem dX4_firstBestGiver_12 : decode cX4_firstBestGiver 12 = .ok (.iload 4, 2) := by decide +kernel
theorem dX4_firstBestGiver_14 : decode cX4_firstBestGiver 14 = .ok (.iload_n 3, 1) := by decide +kernel
theorem dX4_firstBestGiver_15 : decode cX4_firstBestGiver 15 = .ok (.if_icmp .eq 24, 3) := by decide +kernel
theorem dX4_firstBestGiver_18 : decode cX4_firstBestGiver 18 = .ok (.aload_n 0, 1) := by decide +kernel
theorem dX4_firstBestGiver_19 : decode cX4_firstBestGiver 19 = .ok (.aload_n 1, 1) := by decide +kernel
theorem dX4_firstBestGiver_20 : decode cX4_firstBestGiver 20 = .ok (.iload_n 2, 1) := by decide +kernel
theorem dX4_firstBestGiver_21 : decode cX4_firstBestGiver 21 = .ok (.iload_n 3, 1) := by decide +kernel
theorem dX4_firstBestGiver_22 : decode cX4_firstBestGiver 22 = .ok (.iload 4, 2) := by decide +kernel
theorem dX4_firstBestGiver_24 : decode cX4_firstBestGiver 24 = .ok (.invokevirtual 91, 3) := by decide +kernel
theorem dX4_firstBestGiver_27 : decode cX4_firstBestGiver 27 = .ok (.aload_n 0, 1) := by decide +kernel
theorem dX4_firstBestGiver_28 : decode cX4_firstBestGiver 28 = .ok (.getfield 28, 3) := by decide +kernel
theorem dX4_firstBestGiver_31 : decode cX4_firstBestGiver 31 = .ok (.iload_n 2, 1) := by decide +kernel
theorem dX4_firstBestGiver_32 : decode cX4_firstBestGiver 32 = .ok (.iaload, 1) := by decide +kernel
theorem dX4_firstBestGiver_33 : decode cX4_firstBestGiver 33 = .ok (.if_icmp .ne 6, 3) := by decide +kernel
theorem dX4_firstBestGiver_36 : decode cX4_firstBestGiver 36 = .ok (.iload 4, 2) := by decide +kernel
theorem dX4_firstBestGiver_38 : decode cX4_firstBestGiver 38 = .ok (.ireturn, 1) := by decide +kernel
theorem dX4_firstBestGiver_39 : decode cX4_firstBestGiver 39 = .ok (.iinc 4 1, 3) := by decide +kernel
theorem dX4_firstBestGiver_42 : decode cX4_firstBestGiver 42 = .ok (.goto (-39), 3) := by decide +kernel
theorem dX4_firstBestGiver_45 : decode cX4_firstBestGiver 45 = .ok (.iload_n 3, 1) := by decide +kernel
theorem dX4_firstBestGiver_46 : decode cX4_firstBestGiver 46 = .ok (.ireturn, 1) := by decide +kernel
theorem dX4_mostIfGives_0 : decode cX4_mostIfGives 0 = .ok (.iload_n 2, 1) := by decide +kernel
theorem dX4_mostIfGives_1 : decode cX4_mostIfGives 1 = .ok (.iload 4, 2) := by decide +kernel
theorem dX4_mostIfGives_3 : decode cX4_mostIfGives 3 = .ok (.invokestatic 75, 3) := by decide +kernel
theorem dX4_mostIfGives_6 : decode cX4_mostIfGives 6 = .ok (.ifCond .eq 5, 3) := by decide +kernel
theorem dX4_mostIfGives_9 : decode cX4_mostIfGives 9 = .ok (.iconst (-1), 1) := by decide +kernel
theorem dX4_mostIfGives_10 : decode cX4_mostIfGives 10 = .ok (.ireturn, 1) := by decide +kernel
theorem dX4_mostIfGives_11 : decode cX4_mostIfGives 11 = .ok (.aload_n 0, 1) := by decide +kernel
theorem dX4_mostIfGives_12 : decode cX4_mostIfGives 12 = .ok (.getfield 28, 3) := by decide +kernel
theorem dX4_mostIfGives_15 : decode cX4_mostIfGives 15 = .ok (.iload_n 2, 1) := by decide +kernel
theorem dX4_mostIfGives_16 : decode cX4_mostIfGives 16 = .ok (.iconst 1, 1) := by decide +kernel
theorem dX4_mostIfGives_17 : decode cX4_mostIfGives 17 = .ok (.iload 4, 2) := by decide +kernel
theorem dX4_mostIfGives_19 : decode cX4_mostIfGives 19 = .ok (.ishl, 1) := by decide +kernel
theorem dX4_mostIfGives_20 : decode cX4_mostIfGives 20 = .ok (.ior, 1) := by decide +kernel
theorem dX4_mostIfGives_21 : decode cX4_mostIfGives 21 = .ok (.iaload, 1) := by decide +kernel
theorem dX4_mostIfGives_22 : decode cX4_mostIfGives 22 = .ok (.istore 5, 2) := by decide +kernel
theorem dX4_mostIfGives_24 : decode cX4_mostIfGives 24 = .ok (.iload 5, 2) := by decide +kernel
theorem dX4_mostIfGives_26 : decode cX4_mostIfGives 26 = .ok (.iconst (-1), 1) := by decide +kernel
theorem dX4_mostIfGives_27 : decode cX4_mostIfGives 27 = .ok (.if_icmp .eq 9, 3) := by decide +kernel
theorem dX4_mostIfGives_30 : decode cX4_mostIfGives 30 = .ok (.iload_n 3, 1) := by decide +kernel
theorem dX4_mostIfGives_31 : decode cX4_mostIfGives 31 = .ok (.iload 4, 2) := by decide +kernel
theorem dX4_mostIfGives_33 : decode cX4_mostIfGives 33 = .ok (.if_icmp .ne 6, 3) := by decide +kernel
theorem dX4_mostIfGives_36 : decode cX4_mostIfGives 36 = .ok (.iload 5, 2) := by decide +kernel
theorem dX4_mostIfGives_38 : decode cX4_mostIfGives 38 = .ok (.ireturn, 1) := by decide +kernel
theorem dX4_mostIfGives_39 : decode cX4_mostIfGives 39 = .ok (.aload_n 1, 1) := by decide +kernel
theorem dX4_mostIfGives_40 : decode cX4_mostIfGives 40 = .ok (.iload_n 3, 1) := by decide +kernel
theorem dX4_mostIfGives_41 : decode cX4_mostIfGives 41 = .ok (.iload 4, 2) := by decide +kernel
theorem dX4_mostIfGives_43 : decode cX4_mostIfGives 43 = .ok (.invokestatic 104, 3) := by decide +kernel
theorem dX4_mostIfGives_46 : decode cX4_mostIfGives 46 = .ok (.ifCond .eq 10, 3) := by decide +kernel
theorem dX4_mostIfGives_49 : decode cX4_mostIfGives 49 = .ok (.iload 5, 2) := by decide +kernel
theorem dX4_mostIfGives_51 : decode cX4_mostIfGives 51 = .ok (.iconst 1, 1) := by decide +kernel
theorem dX4_mostIfGives_52 : decode cX4_mostIfGives 52 = .ok (.iadd, 1) := by decide +kernel
theorem dX4_mostIfGives_53 : decode cX4_mostIfGives 53 = .ok (.goto 4, 3) := by decide +kernel
theorem dX4_mostIfGives_56 : decode cX4_mostIfGives 56 = .ok (.iconst (-1), 1) := by decide +kernel
theorem dX4_mostIfGives_57 : decode cX4_mostIfGives 57 = .ok (.ireturn, 1) := by decide +kernel
theorem dX4_canGive_0 : decode cX4_canGive 0 = .ok (.aload_n 0, 1) := by decide +kernel
theorem dX4_canGive_1 : decode cX4_canGive 1 = .ok (.iload_n 1, 1) := by decide +kernel
theorem dX4_canGive_2 : decode cX4_canGive 2 = .ok (.invokevirtual 108, 3) := by decide +kernel
theorem dX4_canGive_5 : decode cX4_canGive 5 = .ok (.ifCond .eq 30, 3) := by decide +kernel
theorem dX4_canGive_8 : decode cX4_canGive 8 = .ok (.aload_n 0, 1) := by decide +kernel
theorem dX4_canGive_9 : decode cX4_canGive 9 = .ok (.iload_n 2, 1) := by decide +kernel
theorem dX4_canGive_10 : decode cX4_canGive 10 = .ok (.invokevirtual 108, 3) := by decide +kernel
theorem dX4_canGive_13 : decode cX4_canGive 13 = .ok (.ifCond .eq 22, 3) := by decide +kernel
theorem dX4_canGive_16 : decode cX4_canGive 16 = .ok (.aload_n 0, 1) := by decide +kernel
theorem dX4_canGive_17 : decode cX4_canGive 17 = .ok (.iload_n 2, 1) := by decide +kernel
theorem dX4_canGive_18 : decode cX4_canGive 18 = .ok (.aload_n 0, 1) := by decide +kernel
theorem dX4_canGive_19 : decode cX4_canGive 19 = .ok (.getfield 111, 3) := by decide +kernel
theorem dX4_canGive_22 : decode cX4_canGive 22 = .ok (.iload_n 1, 1) := by decide +kernel
theorem dX4_canGive_23 : decode cX4_canGive 23 = .ok (.iaload, 1) := by decide +kernel
theorem dX4_canGive_24 : decode cX4_canGive 24 = .ok (.invokevirtual 79, 3) := by decide +kernel
theorem dX4_canGive_27 : decode cX4_canGive 27 = .ok (.iconst 1, 1) := by decide +kernel
theorem dX4_canGive_28 : decode cX4_canGive 28 = .ok (.if_icmp .lt 7, 3) := by decide +kernel
theorem dX4_canGive_31 : decode cX4_canGive 31 = .ok (.iconst 1, 1) := by decide +kernel
theorem dX4_canGive_32 : decode cX4_canGive 32 = .ok (.goto 4, 3) := by decide +kernel
theorem dX4_canGive_35 : decode cX4_canGive 35 = .ok (.iconst 0, 1) := by decide +kernel
theorem dX4_canGive_36 : decode cX4_canGive 36 = .ok (.ireturn, 1) := by decide +kernel
theorem dX4_findChain_0 : decode cX4_findChain 0 = .ok (.iconst 0, 1) := by decide +kernel
theorem dX4_findChain_1 : decode cX4_findChain 1 = .ok (.istore 4, 2) := by decide +kernel
theorem dX4_findChain_3 : decode cX4_findChain 3 = .ok (.iload 4, 2) := by decide +kernel
theorem dX4_findChain_5 : decode cX4_findChain 5 = .ok (.iload_n 3, 1) := by decide +kernel
theorem dX4_findChain_6 : decode cX4_findChain 6 = .ok (.if_icmp .ge 28, 3) := by decide +kernel
theorem dX4_findChain_9 : decode cX4_findChain 9 = .ok (.aload_n 0, 1) := by decide +kernel
theorem dX4_findChain_10 : decode cX4_findChain 10 = .ok (.getfield 37, 3) := by decide +kernel
theorem dX4_findChain_13 : decode cX4_findChain 13 = .ok (.iload 4, 2) := by decide +kernel
theorem dX4_findChain_15 : decode cX4_findChain 15 = .ok (.iload 4, 2) := by decide +kernel
theorem dX4_findChain_17 : decode cX4_findChain 17 = .ok (.iload_n 2, 1) := by decide +kernel
theorem dX4_findChain_18 : decode cX4_findChain 18 = .ok (.if_icmp .ne 7, 3) := by decide +kernel
theorem dX4_findChain_21 : decode cX4_findChain 21 = .ok (.iconst 0, 1) := by decide +kernel
theorem dX4_findChain_22 : decode cX4_findChain 22 = .ok (.goto 5, 3) := by decide +kernel
theorem dX4_findChain_25 : decode cX4_findChain 25 = .ok (.ldc 114, 2) := by decide +kernel
theorem dX4_findChain_27 : decode cX4_findChain 27 = .ok (.iastore, 1) := by decide +kernel
theorem dX4_findChain_28 : decode cX4_findChain 28 = .ok (.iinc 4 1, 3) := by decide +kernel
theorem dX4_findChain_31 : decode cX4_findChain 31 = .ok (.goto (-28), 3) := by decide +kernel
theorem dX4_findChain_34 : decode cX4_findChain 34 = .ok (.iconst 0, 1) := by decide +kernel
theorem dX4_findChain_35 : decode cX4_findChain 35 = .ok (.istore 4, 2) := by decide +kernel
theorem dX4_findChain_37 : decode cX4_findChain 37 = .ok (.iload 4, 2) := by decide +kernel
theorem dX4_findChain_39 : decode cX4_findChain 39 = .ok (.iload_n 3, 1) := by decide +kernel
theorem dX4_findChain_40 : decode cX4_findChain 40 = .ok (.if_icmp .ge 64, 3) := by decide +kernel
theorem dX4_findChain_43 : decode cX4_findChain 43 = .ok (.iconst 0, 1) := by decide +kernel
theorem dX4_findChain_44 : decode cX4_findChain 44 = .ok (.istore 5, 2) := by decide +kernel
theorem dX4_findChain_46 : decode cX4_findChain 46 = .ok (.iload 5, 2) := by decide +kernel
theorem dX4_findChain_48 : decode cX4_findChain 48 = .ok (.iload_n 3, 1) := by decide +kernel
theorem dX4_findChain_49 : decode cX4_findChain 49 = .ok (.if_icmp .ge 49, 3) := by decide +kernel
theorem dX4_findChain_52 : decode cX4_findChain 52 = .ok (.iconst 0, 1) := by decide +kernel
theorem dX4_findChain_53 : decode cX4_findChain 53 = .ok (.istore 6, 2) := by decide +kernel
theorem dX4_findChain_55 : decode cX4_findChain 55 = .ok (.iload 6, 2) := by decide +kernel
theorem dX4_findChain_57 : decode cX4_findChain 57 = .ok (.iload_n 3, 1) := by decide +kernel
theorem dX4_findChain_58 : decode cX4_findChain 58 = .ok (.if_icmp .ge 34, 3) := by decide +kernel
theorem dX4_findChain_61 : decode cX4_findChain 61 = .ok (.aload_n 0, 1) := by decide +kernel
theorem dX4_findChain_62 : decode cX4_findChain 62 = .ok (.getfield 37, 3) := by decide +kernel
theorem dX4_findChain_65 : decode cX4_findChain 65 = .ok (.iload 5, 2) := by decide +kernel
theorem dX4_findChain_67 : decode cX4_findChain 67 = .ok (.aload_n 0, 1) := by decide +kernel
theorem dX4_findChain_68 : decode cX4_findChain 68 = .ok (.getfield 37, 3) := by decide +kernel
theorem dX4_findChain_71 : decode cX4_findChain 71 = .ok (.iload 5, 2) := by decide +kernel
theorem dX4_findChain_73 : decode cX4_findChain 73 = .ok (.iaload, 1) := by decide +kernel
theorem dX4_findChain_74 : decode cX4_findChain 74 = .ok (.aload_n 0, 1) := by decide +kernel
theorem dX4_findChain_75 : decode cX4_findChain 75 = .ok (.iload 5, 2) := by decide +kernel
theorem dX4_findChain_77 : decode cX4_findChain 77 = .ok (.iload 6, 2) := by decide +kernel
theorem dX4_findChain_79 : decode cX4_findChain 79 = .ok (.invokevirtual 115, 3) := by decide +kernel
theorem dX4_findChain_82 : decode cX4_findChain 82 = .ok (.invokestatic 118, 3) := by decide +kernel
theorem dX4_findChain_85 : decode cX4_findChain 85 = .ok (.iastore, 1) := by decide +kernel
theorem dX4_findChain_86 : decode cX4_findChain 86 = .ok (.iinc 6 1, 3) := by decide +kernel
theorem dX4_findChain_89 : decode cX4_findChain 89 = .ok (.goto (-34), 3) := by decide +kernel
theorem dX4_findChain_92 : decode cX4_findChain 92 = .ok (.iinc 5 1, 3) := by decide +kernel
theorem dX4_findChain_95 : decode cX4_findChain 95 = .ok (.goto (-49), 3) := by decide +kernel
theorem dX4_findChain_98 : decode cX4_findChain 98 = .ok (.iinc 4 1, 3) := by decide +kernel
theorem dX4_findChain_101 : decode cX4_findChain 101 = .ok (.goto (-64), 3) := by decide +kernel
theorem dX4_findChain_104 : decode cX4_findChain 104 = .ok (.aload_n 0, 1) := by decide +kernel
theorem dX4_findChain_105 : decode cX4_findChain 105 = .ok (.iconst 0, 1) := by decide +kernel
theorem dX4_findChain_106 : decode cX4_findChain 106 = .ok (.putfield 43, 3) := by decide +kernel
theorem dX4_findChain_109 : decode cX4_findChain 109 = .ok (.aload_n 0, 1) := by decide +kernel
theorem dX4_findChain_110 : decode cX4_findChain 110 = .ok (.getfield 37, 3) := by decide +kernel
theorem dX4_findChain_113 : decode cX4_findChain 113 = .ok (.iload_n 1, 1) := by decide +kernel
theorem dX4_findChain_114 : decode cX4_findChain 114 = .ok (.iaload, 1) := by decide +kernel
theorem dX4_findChain_115 : decode cX4_findChain 115 = .ok (.ldc 114, 2) := by decide +kernel
theorem dX4_findChain_117 : decode cX4_findChain 117 = .ok (.if_icmp .lt 5, 3) := by decide +kernel
theorem dX4_findChain_120 : decode cX4_findChain 120 = .ok (.iconst (-1), 1) := by decide +kernel
theorem dX4_findChain_121 : decode cX4_findChain 121 = .ok (.ireturn, 1) := by decide +kernel
theorem dX4_findChain_122 : decode cX4_findChain 122 = .ok (.iload_n 1, 1) := by decide +kernel
theorem dX4_findChain_123 : decode cX4_findChain 123 = .ok (.istore 4, 2) := by decide +kernel
theorem dX4_findChain_125 : decode cX4_findChain 125 = .ok (.iconst 0, 1) := by decide +kernel
theorem dX4_findChain_126 : decode cX4_findChain 126 = .ok (.istore 5, 2) := by decide +kernel
theorem dX4_findChain_128 : decode cX4_findChain 128 = .ok (.iload 5, 2) := by decide +kernel
theorem dX4_findChain_130 : decode cX4_findChain 130 = .ok (.iload_n 3, 1) := by decide +kernel
theorem dX4_findChain_131 : decode cX4_findChain 131 = .ok (.if_icmp .ge 43, 3) := by decide +kernel
theorem dX4_findChain_134 : decode cX4_findChain 134 = .ok (.iload 4, 2) := by decide +kernel
theorem dX4_findChain_136 : decode cX4_findChain 136 = .ok (.iload_n 2, 1) := by decide +kernel
theorem dX4_findChain_137 : decode cX4_findChain 137 = .ok (.if_icmp .eq 37, 3) := by decide +kernel
theorem dX4_findChain_140 : decode cX4_findChain 140 = .ok (.aload_n 0, 1) := by decide +kernel
theorem dX4_findChain_141 : decode cX4_findChain 141 = .ok (.iload 4, 2) := by decide +kernel
theorem dX4_findChain_143 : decode cX4_findChain 143 = .ok (.iload_n 3, 1) := by decide +kernel
theorem dX4_findChain_144 : decode cX4_findChain 144 = .ok (.invokevirtual 121, 3) := by decide +kernel
theorem dX4_findChain_147 : decode cX4_findChain 147 = .ok (.istore 4, 2) := by decide +kernel
theorem dX4_findChain_149 : decode cX4_findChain 149 = .ok (.aload_n 0, 1) := by decide +kernel
theorem dX4_findChain_150 : decode cX4_findChain 150 = .ok (.getfield 40, 3) := by decide +kernel
theorem dX4_findChain_153 : decode cX4_findChain 153 = .ok (.iload 5, 2) := by decide +kernel
theorem dX4_findChain_155 : decode cX4_findChain 155 = .ok (.iload 4, 2) := by decide +kernel
theorem dX4_findChain_157 : decode cX4_findChain 157 = .ok (.iastore, 1) := by decide +kernel
theorem dX4_findChain_158 : decode cX4_findChain 158 = .ok (.aload_n 0, 1) := by decide +kernel
theorem dX4_findChain_159 : decode cX4_findChain 159 = .ok (.dup, 1) := by decide +kernel
theorem dX4_findChain_160 : decode cX4_findChain 160 = .ok (.getfield 43, 3) := by decide +kernel
theorem dX4_findChain_163 : decode cX4_findChain 163 = .ok (.iconst 1, 1) := by decide +kernel
theorem dX4_findChain_164 : decode cX4_findChain 164 = .ok (.iadd, 1) := by decide +kernel
theorem dX4_findChain_165 : decode cX4_findChain 165 = .ok (.putfield 43, 3) := by decide +kernel
theorem dX4_findChain_168 : decode cX4_findChain 168 = .ok (.iinc 5 1, 3) := by decide +kernel
theorem dX4_findChain_171 : decode cX4_findChain 171 = .ok (.goto (-43), 3) := by decide +kernel
theorem dX4_findChain_174 : decode cX4_findChain 174 = .ok (.aload_n 0, 1) := by decide +kernel
theorem dX4_findChain_175 : decode cX4_findChain 175 = .ok (.getfield 37, 3) := by decide +kernel
theorem dX4_findChain_178 : decode cX4_findChain 178 = .ok (.iload_n 1, 1) := by decide +kernel
theorem dX4_findChain_179 : decode cX4_findChain 179 = .ok (.iaload, 1) := by decide +kernel
theorem dX4_findChain_180 : decode cX4_findChain 180 = .ok (.bipush 16, 2) := by decide +kernel
theorem dX4_findChain_182 : decode cX4_findChain 182 = .ok (.idiv, 1) := by decide +kernel
theorem dX4_findChain_183 : decode cX4_findChain 183 = .ok (.ireturn, 1) := by decide +kernel
theorem dX4_toGoBy_0 : decode cX4_toGoBy 0 = .ok (.aload_n 0, 1) := by decide +kernel
theorem dX4_toGoBy_1 : decode cX4_toGoBy 1 = .ok (.getfield 34, 3) := by decide +kernel
theorem dX4_toGoBy_4 : decode cX4_toGoBy 4 = .ok (.iload_n 1, 1) := by decide +kernel
theorem dX4_toGoBy_5 : decode cX4_toGoBy 5 = .ok (.bipush 8, 2) := by decide +kernel
theorem dX4_toGoBy_7 : decode cX4_toGoBy 7 = .ok (.imul, 1) := by decide +kernel
theorem dX4_toGoBy_8 : decode cX4_toGoBy 8 = .ok (.iload_n 2, 1) := by decide +kernel
theorem dX4_toGoBy_9 : decode cX4_toGoBy 9 = .ok (.iadd, 1) := by decide +kernel
theorem dX4_toGoBy_10 : decode cX4_toGoBy 10 = .ok (.iaload, 1) := by decide +kernel
theorem dX4_toGoBy_11 : decode cX4_toGoBy 11 = .ok (.istore_n 3, 1) := by decide +kernel
theorem dX4_toGoBy_12 : decode cX4_toGoBy 12 = .ok (.iload_n 3, 1) := by decide +kernel
theorem dX4_toGoBy_13 : decode cX4_toGoBy 13 = .ok (.iconst (-1), 1) := by decide +kernel
theorem dX4_toGoBy_14 : decode cX4_toGoBy 14 = .ok (.if_icmp .eq 14, 3) := by decide +kernel
theorem dX4_toGoBy_17 : decode cX4_toGoBy 17 = .ok (.aload_n 0, 1) := by decide +kernel
theorem dX4_toGoBy_18 : decode cX4_toGoBy 18 = .ok (.getfield 37, 3) := by decide +kernel
theorem dX4_toGoBy_21 : decode cX4_toGoBy 21 = .ok (.iload_n 2, 1) := by decide +kernel
theorem dX4_toGoBy_22 : decode cX4_toGoBy 22 = .ok (.iaload, 1) := by decide +kernel
theorem dX4_toGoBy_23 : decode cX4_toGoBy 23 = .ok (.ldc 114, 2) := by decide +kernel
theorem dX4_toGoBy_25 : decode cX4_toGoBy 25 = .ok (.if_icmp .lt 8, 3) := by decide +kernel
theorem dX4_toGoBy_28 : decode cX4_toGoBy 28 = .ok (.ldc 114, 2) := by decide +kernel
theorem dX4_toGoBy_30 : decode cX4_toGoBy 30 = .ok (.goto 16, 3) := by decide +kernel
theorem dX4_toGoBy_33 : decode cX4_toGoBy 33 = .ok (.iload_n 3, 1) := by decide +kernel
theorem dX4_toGoBy_34 : decode cX4_toGoBy 34 = .ok (.bipush 16, 2) := by decide +kernel
theorem dX4_toGoBy_36 : decode cX4_toGoBy 36 = .ok (.imul, 1) := by decide +kernel
theorem dX4_toGoBy_37 : decode cX4_toGoBy 37 = .ok (.iconst 1, 1) := by decide +kernel
theorem dX4_toGoBy_38 : decode cX4_toGoBy 38 = .ok (.iadd, 1) := by decide +kernel
theorem dX4_toGoBy_39 : decode cX4_toGoBy 39 = .ok (.aload_n 0, 1) := by decide +kernel
theorem dX4_toGoBy_40 : decode cX4_toGoBy 40 = .ok (.getfield 37, 3) := by decide +kernel
theorem dX4_toGoBy_43 : decode cX4_toGoBy 43 = .ok (.iload_n 2, 1) := by decide +kernel
theorem dX4_toGoBy_44 : decode cX4_toGoBy 44 = .ok (.iaload, 1) := by decide +kernel
theorem dX4_toGoBy_45 : decode cX4_toGoBy 45 = .ok (.iadd, 1) := by decide +kernel
theorem dX4_toGoBy_46 : decode cX4_toGoBy 46 = .ok (.ireturn, 1) := by decide +kernel
theorem dX4_firstBestBuyer_0 : decode cX4_firstBestBuyer 0 = .ok (.iconst 0, 1) := by decide +kernel
theorem dX4_firstBestBuyer_1 : decode cX4_firstBestBuyer 1 = .ok (.istore_n 3, 1) := by decide +kernel
theorem dX4_firstBestBuyer_2 : decode cX4_firstBestBuyer 2 = .ok (.iload_n 3, 1) := by decide +kernel
theorem dX4_firstBestBuyer_3 : decode cX4_firstBestBuyer 3 = .ok (.iload_n 2, 1) := by decide +kernel
theorem dX4_firstBestBuyer_4 : decode cX4_firstBestBuyer 4 = .ok (.if_icmp .ge 26, 3) := by decide +kernel
theorem dX4_firstBestBuyer_7 : decode cX4_firstBestBuyer 7 = .ok (.aload_n 0, 1) := by decide +kernel
theorem dX4_firstBestBuyer_8 : decode cX4_firstBestBuyer 8 = .ok (.iload_n 1, 1) := by decide +kernel
theorem dX4_firstBestBuyer_9 : decode cX4_firstBestBuyer 9 = .ok (.iload_n 3, 1) := by decide +kernel
theorem dX4_firstBestBuyer_10 : decode cX4_firstBestBuyer 10 = .ok (.invokevirtual 115, 3) := by decide +kernel
theorem dX4_firstBestBuyer_13 : decode cX4_firstBestBuyer 13 = .ok (.aload_n 0, 1) := by decide +kernel
theorem dX4_firstBestBuyer_14 : decode cX4_firstBestBuyer 14 = .ok (.getfield 37, 3) := by decide +kernel
theorem dX4_firstBestBuyer_17 : decode cX4_firstBestBuyer 17 = .ok (.iload_n 1, 1) := by decide +kernel
theorem dX4_firstBestBuyer_18 : decode cX4_firstBestBuyer 18 = .ok (.iaload, 1) := by decide +kernel
theorem dX4_firstBestBuyer_19 : decode cX4_firstBestBuyer 19 = .ok (.if_icmp .ne 5, 3) := by decide +kernel
theorem dX4_firstBestBuyer_22 : decode cX4_firstBestBuyer 22 = .ok (.iload_n 3, 1) := by decide +kernel
theorem dX4_firstBestBuyer_23 : decode cX4_firstBestBuyer 23 = .ok (.ireturn, 1) := by decide +kernel
theorem dX4_firstBestBuyer_24 : decode cX4_firstBestBuyer 24 = .ok (.iinc 3 1, 3) := by decide +kernel
theorem dX4_firstBestBuyer_27 : decode cX4_firstBestBuyer 27 = .ok (.goto (-25), 3) := by decide +kernel
theorem dX4_firstBestBuyer_30 : decode cX4_firstBestBuyer 30 = .ok (.iload_n 1, 1) := by decide +kernel
theorem dX4_firstBestBuyer_31 : decode cX4_firstBestBuyer 31 = .ok (.ireturn, 1) := by decide +kernel
theorem dX5_init_0 : decode cX5_init 0 = .ok (.aload_n 0, 1) := by decide +kernel
theorem dX5_init_1 : decode cX5_init 1 = .ok (.invokespecial 3, 3) := by decide +kernel
theorem dX5_init_4 : decode cX5_init 4 = .ok (.aload_n 0, 1) := by decide +kernel
theorem dX5_init_5 : decode cX5_init 5 = .ok (.new 9, 3) := by decide +kernel
theorem dX5_init_8 : decode cX5_init 8 = .ok (.dup, 1) := by decide +kernel
theorem dX5_init_9 : decode cX5_init 9 = .ok (.invokespecial 11, 3) := by decide +kernel
theorem dX5_init_12 : decode cX5_init 12 = .ok (.putfield 12, 3) := by decide +kernel
theorem dX5_init_15 : decode cX5_init 15 = .ok (.aload_n 0, 1) := by decide +kernel
theorem dX5_init_16 : decode cX5_init 16 = .ok (.iconst 1, 1) := by decide +kernel
theorem dX5_init_17 : decode cX5_init 17 = .ok (.putfield 18, 3) := by decide +kernel
theorem dX5_init_20 : decode cX5_init 20 = .ok (.aload_n 0, 1) := by decide +kernel
theorem dX5_init_21 : decode cX5_init 21 = .ok (.iconst 0, 1) := by decide +kernel
theorem dX5_init_22 : decode cX5_init 22 = .ok (.putfield 22, 3) := by decide +kernel
theorem dX5_init_25 : decode cX5_init 25 = .ok (.aload_n 0, 1) := by decide +kernel
theorem dX5_init_26 : decode cX5_init 26 = .ok (.aload_n 1, 1) := by decide +kernel
theorem dX5_init_27 : decode cX5_init 27 = .ok (.putfield 26, 3) := by decide +kernel
theorem dX5_init_30 : decode cX5_init 30 = .ok (.return_, 1) := by decide +kernel
theorem dX5_read_0 : decode cX5_read 0 = .ok (.aload_n 0, 1) := by decide +kernel
theorem dX5_read_1 : decode cX5_read 1 = .ok (.iload_n 1, 1) := by decide +kernel
theorem dX5_read_2 : decode cX5_read 2 = .ok (.putfield 18, 3) := by decide +kernel
theorem dX5_read_5 : decode cX5_read 5 = .ok (.aload_n 0, 1) := by decide +kernel
theorem dX5_read_6 : decode cX5_read 6 = .ok (.iconst 0, 1) := by decide +kernel
theorem dX5_read_7 : decode cX5_read 7 = .ok (.putfield 22, 3) := by decide +kernel
theorem dX5_read_10 : decode cX5_read 10 = .ok (.aload_n 0, 1) := by decide +kernel
theorem dX5_read_11 : decode cX5_read 11 = .ok (.getfield 12, 3) := by decide +kernel
theorem dX5_read_14 : decode cX5_read 14 = .ok (.invokevirtual 30, 3) := by decide +kernel
theorem dX5_read_17 : decode cX5_read 17 = .ok (.aload_n 0, 1) := by decide +kernel
theorem dX5_read_18 : decode cX5_read 18 = .ok (.getfield 26, 3) := by decide +kernel
theorem dX5_read_21 : decode cX5_read 21 = .ok (.invokevirtual 33, 3) := by decide +kernel
theorem dX5_read_24 : decode cX5_read 24 = .ok (.iconst 0, 1) := by decide +kernel
theorem dX5_read_25 : decode cX5_read 25 = .ok (.istore_n 2, 1) := by decide +kernel
theorem dX5_read_26 : decode cX5_read 26 = .ok (.iload_n 2, 1) := by decide +kernel
theorem dX5_read_27 : decode cX5_read 27 = .ok (.bipush 12, 2) := by decide +kernel
theorem dX5_read_29 : decode cX5_read 29 = .ok (.if_icmp .ge 65, 3) := by decide +kernel
theorem dX5_read_32 : decode cX5_read 32 = .ok (.aload_n 0, 1) := by decide +kernel
theorem dX5_read_33 : decode cX5_read 33 = .ok (.getfield 18, 3) := by decide +kernel
theorem dX5_read_36 : decode cX5_read 36 = .ok (.ifCond .eq 10, 3) := by decide +kernel
theorem dX5_read_39 : decode cX5_read 39 = .ok (.aload_n 0, 1) := by decide +kernel
theorem dX5_read_40 : decode cX5_read 40 = .ok (.invokevirtual 38, 3) := by decide +kernel
theorem dX5_read_43 : decode cX5_read 43 = .ok (.goto 7, 3) := by decide +kernel
theorem dX5_read_46 : decode cX5_read 46 = .ok (.aload_n 0, 1) := by decide +kernel
theorem dX5_read_47 : decode cX5_read 47 = .ok (.invokevirtual 42, 3) := by decide +kernel
theorem dX5_read_50 : decode cX5_read 50 = .ok (.istore_n 3, 1) := by decide +kernel
theorem dX5_read_51 : decode cX5_read 51 = .ok (.iload_n 3, 1) := by decide +kernel
theorem dX5_read_52 : decode cX5_read 52 = .ok (.ifCond .eq 15, 3) := by decide +kernel
theorem dX5_read_55 : decode cX5_read 55 = .ok (.aload_n 0, 1) := by decide +kernel
theorem dX5_read_56 : decode cX5_read 56 = .ok (.getfield 26, 3) := by decide +kernel
theorem dX5_read_59 : decode cX5_read 59 = .ok (.getfield 45, 3) := by decide +kernel
theorem dX5_read_62 : decode cX5_read 62 = .ok (.ifCond .ne 5, 3) := by decide +kernel
theorem dX5_read_65 : decode cX5_read 65 = .ok (.iconst (-1), 1) := by decide +kernel
theorem dX5_read_66 : decode cX5_read 66 = .ok (.ireturn, 1) := by decide +kernel
theorem dX5_read_67 : decode cX5_read 67 = .ok (.iload_n 3, 1) := by decide +kernel
theorem dX5_read_68 : decode cX5_read 68 = .ok (.ifCond .eq 12, 3) := by decide +kernel
theorem dX5_read_71 : decode cX5_read 71 = .ok (.aload_n 0, 1) := by decide +kernel
theorem dX5_read_72 : decode cX5_read 72 = .ok (.bipush 59, 2) := by decide +kernel
theorem dX5_read_74 : decode cX5_read 74 = .ok (.invokevirtual 48, 3) := by decide +kernel
theorem dX5_read_77 : decode cX5_read 77 = .ok (.ifCond .ne 11, 3) := by decide +kernel
theorem dX5_read_80 : decode cX5_read 80 = .ok (.aload_n 0, 1) := by decide +kernel
theorem dX5_read_81 : decode cX5_read 81 = .ok (.getfield 26, 3) := by decide +kernel
theorem dX5_read_84 : decode cX5_read 84 = .ok (.getfield 52, 3) := by decide +kernel
theorem dX5_read_87 : decode cX5_read 87 = .ok (.ireturn, 1) := by decide +kernel
theorem dX5_read_88 : decode cX5_read 88 = .ok (.iinc 2 1, 3) := by decide +kernel
theorem dX5_read_91 : decode cX5_read 91 = .ok (.goto (-65), 3) := by decide +kernel
theorem dX5_read_94 : decode cX5_read 94 = .ok (.aload_n 0, 1) := by decide +kernel
theorem dX5_read_95 : decode cX5_read 95 = .ok (.getfield 26, 3) := by decide +kernel
theorem dX5_read_98 : decode cX5_read 98 = .ok (.getfield 52, 3) := by decide +kernel
theorem dX5_read_101 : decode cX5_read 101 = .ok (.ireturn, 1) := by decide +kernel
theorem dX5_readLawClause_0 : decode cX5_readLawClause 0 = .ok (.aload_n 0, 1) := by decide +kernel
theorem dX5_readLawClause_1 : decode cX5_readLawClause 1 = .ok (.invokevirtual 55, 3) := by decide +kernel
theorem dX5_readLawClause_4 : decode cX5_readLawClause 4 = .ok (.istore_n 1, 1) := by decide +kernel
theorem dX5_readLawClause_5 : decode cX5_readLawClause 5 = .ok (.iload_n 1, 1) := by decide +kernel
theorem dX5_readLawClause_6 : decode cX5_readLawClause 6 = .ok (.iconst (-1), 1) := by decide +kernel
theorem dX5_readLawClause_7 : decode cX5_readLawClause 7 = .ok (.if_icmp .ne 5, 3) := by decide +kernel
theorem dX5_readLawClause_10 : decode cX5_readLawClause 10 = .ok (.iconst 0, 1) := by decide +kernel
theorem dX5_readLawClause_11 : decode cX5_readLawClause 11 = .ok (.ireturn, 1) := by decide +kernel
theorem dX5_readLawClause_12 : decode cX5_readLawClause 12 = .ok (.aload_n 0, 1) := by decide +kernel
theorem dX5_readLawClause_13 : decode cX5_readLawClause 13 = .ok (.getfield 12, 3) := by decide +kernel
theorem dX5_readLawClause_16 : decode cX5_readLawClause 16 = .ok (.iload_n 1, 1) := by decide +kernel
theorem dX5_readLawClause_17 : decode cX5_readLawClause 17 = .ok (.invokevirtual 59, 3) := by decide +kernel
theorem dX5_readLawClause_20 : decode cX5_readLawClause 20 = .ok (.aload_n 0, 1) := by decide +kernel
theorem dX5_readLawClause_21 : decode cX5_readLawClause 21 = .ok (.getfield 26, 3) := by decide +kernel
theorem dX5_readLawClause_24 : decode cX5_readLawClause 24 = .ok (.invokevirtual 63, 3) := by decide +kernel
theorem dX5_readLawClause_27 : decode cX5_readLawClause 27 = .ok (.iload_n 1, 1) := by decide +kernel
theorem dX5_readLawClause_28 : decode cX5_readLawClause 28 = .ok (.iconst 2, 1) := by decide +kernel
theorem dX5_readLawClause_29 : decode cX5_readLawClause 29 = .ok (.if_icmp .gt 11, 3) := by decide +kernel
theorem dX5_readLawClause_32 : decode cX5_readLawClause 32 = .ok (.aload_n 0, 1) := by decide +kernel
theorem dX5_readLawClause_33 : decode cX5_readLawClause 33 = .ok (.iconst 0, 1) := by decide +kernel
theorem dX5_readLawClause_34 : decode cX5_readLawClause 34 = .ok (.invokevirtual 66, 3) := by decide +kernel
theorem dX5_readLawClause_37 : decode cX5_readLawClause 37 = .ok (.ifCond .eq 14, 3) := by decide +kernel
theorem dX5_readLawClause_40 : decode cX5_readLawClause 40 = .ok (.aload_n 0, 1) := by decide +kernel
theorem dX5_readLawClause_41 : decode cX5_readLawClause 41 = .ok (.invokevirtual 70, 3) := by decide +kernel
theorem dX5_readLawClause_44 : decode cX5_readLawClause 44 = .ok (.ifCond .eq 7, 3) := by decide +kernel
theorem dX5_readLawClause_47 : decode cX5_readLawClause 47 = .ok (.iconst 1, 1) := by decide +kernel
theorem dX5_readLawClause_48 : decode cX5_readLawClause 48 = .ok (.goto 4, 3) := by decide +kernel
theorem dX5_readLawClause_51 : decode cX5_readLawClause 51 = .ok (.iconst 0, 1) := by decide +kernel
theorem dX5_readLawClause_52 : decode cX5_readLawClause 52 = .ok (.ireturn, 1) := by decide +kernel
theorem dX5_lawKind_0 : decode cX5_lawKind 0 = .ok (.aload_n 0, 1) := by decide +kernel
theorem dX5_lawKind_1 : decode cX5_lawKind 1 = .ok (.getfield 26, 3) := by decide +kernel
theorem dX5_lawKind_4 : decode cX5_lawKind 4 = .ok (.ldc 73, 2) := by decide +kernel
theorem dX5_lawKind_6 : decode cX5_lawKind 6 = .ok (.invokevirtual 75, 3) := by decide +kernel
theorem dX5_lawKind_9 : decode cX5_lawKind 9 = .ok (.ifCond .eq 5, 3) := by decide +kernel
theorem dX5_lawKind_12 : decode cX5_lawKind 12 = .ok (.iconst 0, 1) := by decide +kernel
theorem dX5_lawKind_13 : decode cX5_lawKind 13 = .ok (.ireturn, 1) := by decide +kernel
theorem dX5_lawKind_14 : decode cX5_lawKind 14 = .ok (.aload_n 0, 1) := by decide +kernel
theorem dX5_lawKind_15 : decode cX5_lawKind 15 = .ok (.getfield 26, 3) := by decide +kernel
theorem dX5_lawKind_18 : decode cX5_lawKind 18 = .ok (.ldc 79, 2) := by decide +kernel
theorem dX5_lawKind_20 : decode cX5_lawKind 20 = .ok (.invokevirtual 75, 3) := by decide +kernel
theorem dX5_lawKind_23 : decode cX5_lawKind 23 = .ok (.ifCond .eq 5, 3) := by decide +kernel
theorem dX5_lawKind_26 : decode cX5_lawKind 26 = .ok (.iconst 1, 1) := by decide +kernel
theorem dX5_lawKind_27 : decode cX5_lawKind 27 = .ok (.ireturn, 1) := by decide +kernel
theorem dX5_lawKind_28 : decode cX5_lawKind 28 = .ok (.aload_n 0, 1) := by decide +kernel
theorem dX5_lawKind_29 : decode cX5_lawKind 29 = .ok (.getfield 26, 3) := by decide +kernel
theorem dX5_lawKind_32 : decode cX5_lawKind 32 = .ok (.ldc 81, 2) := by decide +kernel
theorem dX5_lawKind_34 : decode cX5_lawKind 34 = .ok (.invokevirtual 75, 3) := by decide +kernel
theorem dX5_lawKind_37 : decode cX5_lawKind 37 = .ok (.ifCond .eq 5, 3) := by decide +kernel
theorem dX5_lawKind_40 : decode cX5_lawKind 40 = .ok (.iconst 2, 1) := by decide +kernel
theorem dX5_lawKind_41 : decode cX5_lawKind 41 = .ok (.ireturn, 1) := by decide +kernel
theorem dX5_lawKind_42 : decode cX5_lawKind 42 = .ok (.aload_n 0, 1) := by decide +kernel
theorem dX5_lawKind_43 : decode cX5_lawKind 43 = .ok (.getfield 26, 3) := by decide +kernel
theorem dX5_lawKind_46 : decode cX5_lawKind 46 = .ok (.ldc 83, 2) := by decide +kernel
theorem dX5_lawKind_48 : decode cX5_lawKind 48 = .ok (.invokevirtual 75, 3) := by decide +kernel
theorem dX5_lawKind_51 : decode cX5_lawKind 51 = .ok (.ifCond .eq 5, 3) := by decide +kernel
theorem dX5_lawKind_54 : decode cX5_lawKind 54 = .ok (.iconst 3, 1) := by decide +kernel
theorem dX5_lawKind_55 : decode cX5_lawKind 55 = .ok (.ireturn, 1) := by decide +kernel
theorem dX5_lawKind_56 : decode cX5_lawKind 56 = .ok (.aload_n 0, 1) := by decide +kernel
theorem dX5_lawKind_57 : decode cX5_lawKind 57 = .ok (.getfield 26, 3) := by decide +kernel
theorem dX5_lawKind_60 : decode cX5_lawKind 60 = .ok (.ldc 85, 2) := by decide +kernel
theorem dX5_lawKind_62 : decode cX5_lawKind 62 = .ok (.invokevirtual 75, 3) := by decide +kernel
theorem dX5_lawKind_65 : decode cX5_lawKind 65 = .ok (.ifCond .eq 7, 3) := by decide +kernel
theorem dX5_lawKind_68 : decode cX5_lawKind 68 = .ok (.iconst 4, 1) := by decide +kernel
theorem dX5_lawKind_69 : decode cX5_lawKind 69 = .ok (.goto 4, 3) := by decide +kernel
theorem dX5_lawKind_72 : decode cX5_lawKind 72 = .ok (.iconst (-1), 1) := by decide +kernel
theorem dX5_lawKind_73 : decode cX5_lawKind 73 = .ok (.ireturn, 1) := by decide +kernel
theorem dX5_readOrderClause_0 : decode cX5_readOrderClause 0 = .ok (.aload_n 0, 1) := by decide +kernel
theorem dX5_readOrderClause_1 : decode cX5_readOrderClause 1 = .ok (.ldc 87, 2) := by decide +kernel
theorem dX5_readOrderClause_3 : decode cX5_readOrderClause 3 = .ok (.invokevirtual 89, 3) := by decide +kernel
theorem dX5_readOrderClause_6 : decode cX5_readOrderClause 6 = .ok (.ifCond .eq 49, 3) := by decide +kernel
theorem dX5_readOrderClause_9 : decode cX5_readOrderClause 9 = .ok (.aload_n 0, 1) := by decide +kernel
theorem dX5_readOrderClause_10 : decode cX5_readOrderClause 10 = .ok (.getfield 12, 3) := by decide +kernel
theorem dX5_readOrderClause_13 : decode cX5_readOrderClause 13 = .ok (.iconst 0, 1) := by decide +kernel
theorem dX5_readOrderClause_14 : decode cX5_readOrderClause 14 = .ok (.invokevirtual 59, 3) := by decide +kernel
theorem dX5_readOrderClause_17 : decode cX5_readOrderClause 17 = .ok (.aload_n 0, 1) := by decide +kernel
theorem dX5_readOrderClause_18 : decode cX5_readOrderClause 18 = .ok (.iconst 0, 1) := by decide +kernel
theorem dX5_readOrderClause_19 : decode cX5_readOrderClause 19 = .ok (.invokevirtual 66, 3) := by decide +kernel
theorem dX5_readOrderClause_22 : decode cX5_readOrderClause 22 = .ok (.ifCond .eq 31, 3) := by decide +kernel
theorem dX5_readOrderClause_25 : decode cX5_readOrderClause 25 = .ok (.aload_n 0, 1) := by decide +kernel
theorem dX5_readOrderClause_26 : decode cX5_readOrderClause 26 = .ok (.ldc 92, 2) := by decide +kernel
theorem dX5_readOrderClause_28 : decode cX5_readOrderClause 28 = .ok (.iconst 1, 1) := by decide +kernel
theorem dX5_readOrderClause_29 : decode cX5_readOrderClause 29 = .ok (.invokevirtual 94, 3) := by decide +kernel
theorem dX5_readOrderClause_32 : decode cX5_readOrderClause 32 = .ok (.ifCond .eq 21, 3) := by decide +kernel
theorem dX5_readOrderClause_35 : decode cX5_readOrderClause 35 = .ok (.aload_n 0, 1) := by decide +kernel
theorem dX5_readOrderClause_36 : decode cX5_readOrderClause 36 = .ok (.invokevirtual 98, 3) := by decide +kernel
theorem dX5_readOrderClause_39 : decode cX5_readOrderClause 39 = .ok (.ifCond .eq 14, 3) := by decide +kernel
theorem dX5_readOrderClause_42 : decode cX5_readOrderClause 42 = .ok (.aload_n 0, 1) := by decide +kernel
theorem dX5_readOrderClause_43 : decode cX5_readOrderClause 43 = .ok (.invokevirtual 70, 3) := by decide +kernel
theorem dX5_readOrderClause_46 : decode cX5_readOrderClause 46 = .ok (.ifCond .eq 7, 3) := by decide +kernel
theorem dX5_readOrderClause_49 : decode cX5_readOrderClause 49 = .ok (.iconst 1, 1) := by decide +kernel
theorem dX5_readOrderClause_50 : decode cX5_readOrderClause 50 = .ok (.goto 4, 3) := by decide +kernel
theorem dX5_readOrderClause_53 : decode cX5_readOrderClause 53 = .ok (.iconst 0, 1) := by decide +kernel
theorem dX5_readOrderClause_54 : decode cX5_readOrderClause 54 = .ok (.ireturn, 1) := by decide +kernel
theorem dX5_readOrderClause_55 : decode cX5_readOrderClause 55 = .ok (.aload_n 0, 1) := by decide +kernel
theorem dX5_readOrderClause_56 : decode cX5_readOrderClause 56 = .ok (.ldc 101, 2) := by decide +kernel
theorem dX5_readOrderClause_58 : decode cX5_readOrderClause 58 = .ok (.invokevirtual 89, 3) := by decide +kernel
theorem dX5_readOrderClause_61 : decode cX5_readOrderClause 61 = .ok (.ifCond .eq 59, 3) := by decide +kernel
theorem dX5_readOrderClause_64 : decode cX5_readOrderClause 64 = .ok (.aload_n 0, 1) := by decide +kernel
theorem dX5_readOrderClause_65 : decode cX5_readOrderClause 65 = .ok (.getfield 12, 3) := by decide +kernel
theorem dX5_readOrderClause_68 : decode cX5_readOrderClause 68 = .ok (.iconst 1, 1) := by decide +kernel
theorem dX5_readOrderClause_69 : decode cX5_readOrderClause 69 = .ok (.invokevirtual 59, 3) := by decide +kernel
theorem dX5_readOrderClause_72 : decode cX5_readOrderClause 72 = .ok (.aload_n 0, 1) := by decide +kernel
theorem dX5_readOrderClause_73 : decode cX5_readOrderClause 73 = .ok (.iconst 0, 1) := by decide +kernel
theorem dX5_readOrderClause_74 : decode cX5_readOrderClause 74 = .ok (.invokevirtual 66, 3) := by decide +kernel
theorem dX5_readOrderClause_77 : decode cX5_readOrderClause 77 = .ok (.ifCond .eq 41, 3) := by decide +kernel
theorem dX5_readOrderClause_80 : decode cX5_readOrderClause 80 = .ok (.aload_n 0, 1) := by decide +kernel
theorem dX5_readOrderClause_81 : decode cX5_readOrderClause 81 = .ok (.ldc 103, 2) := by decide +kernel
theorem dX5_readOrderClause_83 : decode cX5_readOrderClause 83 = .ok (.iconst 1, 1) := by decide +kernel
theorem dX5_readOrderClause_84 : decode cX5_readOrderClause 84 = .ok (.invokevirtual 94, 3) := by decide +kernel
theorem dX5_readOrderClause_87 : decode cX5_readOrderClause 87 = .ok (.ifCond .eq 31, 3) := by decide +kernel
theorem dX5_readOrderClause_90 : decode cX5_readOrderClause 90 = .ok (.aload_n 0, 1) := by decide +kernel
theorem dX5_readOrderClause_91 : decode cX5_readOrderClause 91 = .ok (.ldc 105, 2) := by decide +kernel
theorem dX5_readOrderClause_93 : decode cX5_readOrderClause 93 = .ok (.iconst 2, 1) := by decide +kernel
theorem dX5_readOrderClause_94 : decode cX5_readOrderClause 94 = .ok (.invokevirtual 94, 3) := by decide +kernel
theorem dX5_readOrderClause_97 : decode cX5_readOrderClause 97 = .ok (.ifCond .eq 21, 3) := by decide +kernel
theorem dX5_readOrderClause_100 : decode cX5_readOrderClause 100 = .ok (.aload_n 0, 1) := by decide +kernel
theorem dX5_readOrderClause_101 : decode cX5_readOrderClause 101 = .ok (.invokevirtual 98, 3) := by decide +kernel
theorem dX5_readOrderClause_104 : decode cX5_readOrderClause 104 = .ok (.ifCond .eq 14, 3) := by decide +kernel
theorem dX5_readOrderClause_107 : decode cX5_readOrderClause 107 = .ok (.aload_n 0, 1) := by decide +kernel
theorem dX5_readOrderClause_108 : decode cX5_readOrderClause 108 = .ok (.invokevirtual 70, 3) := by decide +kernel
theorem dX5_readOrderClause_111 : decode cX5_readOrderClause 111 = .ok (.ifCond .eq 7, 3) := by decide +kernel
theorem dX5_readOrderClause_114 : decode cX5_readOrderClause 114 = .ok (.iconst 1, 1) := by decide +kernel
theorem dX5_readOrderClause_115 : decode cX5_readOrderClause 115 = .ok (.goto 4, 3) := by decide +kernel
theorem dX5_readOrderClause_118 : decode cX5_readOrderClause 118 = .ok (.iconst 0, 1) := by decide +kernel
theorem dX5_readOrderClause_119 : decode cX5_readOrderClause 119 = .ok (.ireturn, 1) := by decide +kernel
theorem dX5_readOrderClause_120 : decode cX5_readOrderClause 120 = .ok (.aload_n 0, 1) := by decide +kernel
theorem dX5_readOrderClause_121 : decode cX5_readOrderClause 121 = .ok (.ldc 107, 2) := by decide +kernel
theorem dX5_readOrderClause_123 : decode cX5_readOrderClause 123 = .ok (.invokevirtual 89, 3) := by decide +kernel
theorem dX5_readOrderClause_126 : decode cX5_readOrderClause 126 = .ok (.ifCond .eq 39, 3) := by decide +kernel
theorem dX5_readOrderClause_129 : decode cX5_readOrderClause 129 = .ok (.aload_n 0, 1) := by decide +kernel
theorem dX5_readOrderClause_130 : decode cX5_readOrderClause 130 = .ok (.getfield 12, 3) := by decide +kernel
theorem dX5_readOrderClause_133 : decode cX5_readOrderClause 133 = .ok (.iconst 2, 1) := by decide +kernel
theorem dX5_readOrderClause_134 : decode cX5_readOrderClause 134 = .ok (.invokevirtual 59, 3) := by decide +kernel
theorem dX5_readOrderClause_137 : decode cX5_readOrderClause 137 = .ok (.aload_n 0, 1) := by decide +kernel
theorem dX5_readOrderClause_138 : decode cX5_readOrderClause 138 = .ok (.iconst 0, 1) := by decide +kernel
theorem dX5_readOrderClause_139 : decode cX5_readOrderClause 139 = .ok (.invokevirtual 66, 3) := by decide +kernel
theorem dX5_readOrderClause_142 : decode cX5_readOrderClause 142 = .ok (.ifCond .eq 21, 3) := by decide +kernel
theorem dX5_readOrderClause_145 : decode cX5_readOrderClause 145 = .ok (.aload_n 0, 1) := by decide +kernel
theorem dX5_readOrderClause_146 : decode cX5_readOrderClause 146 = .ok (.invokevirtual 98, 3) := by decide +kernel
theorem dX5_readOrderClause_149 : decode cX5_readOrderClause 149 = .ok (.ifCond .eq 14, 3) := by decide +kernel
theorem dX5_readOrderClause_152 : decode cX5_readOrderClause 152 = .ok (.aload_n 0, 1) := by decide +kernel
theorem dX5_readOrderClause_153 : decode cX5_readOrderClause 153 = .ok (.invokevirtual 70, 3) := by decide +kernel
theorem dX5_readOrderClause_156 : decode cX5_readOrderClause 156 = .ok (.ifCond .eq 7, 3) := by decide +kernel
theorem dX5_readOrderClause_159 : decode cX5_readOrderClause 159 = .ok (.iconst 1, 1) := by decide +kernel
theorem dX5_readOrderClause_160 : decode cX5_readOrderClause 160 = .ok (.goto 4, 3) := by decide +kernel
theorem dX5_readOrderClause_163 : decode cX5_readOrderClause 163 = .ok (.iconst 0, 1) := by decide +kernel
theorem dX5_readOrderClause_164 : decode cX5_readOrderClause 164 = .ok (.ireturn, 1) := by decide +kernel
theorem dX5_readOrderClause_165 : decode cX5_readOrderClause 165 = .ok (.aload_n 0, 1) := by decide +kernel
theorem dX5_readOrderClause_166 : decode cX5_readOrderClause 166 = .ok (.ldc 109, 2) := by decide +kernel
theorem dX5_readOrderClause_168 : decode cX5_readOrderClause 168 = .ok (.invokevirtual 89, 3) := by decide +kernel
theorem dX5_readOrderClause_171 : decode cX5_readOrderClause 171 = .ok (.ifCond .eq 31, 3) := by decide +kernel
theorem dX5_readOrderClause_174 : decode cX5_readOrderClause 174 = .ok (.aload_n 0, 1) := by decide +kernel
theorem dX5_readOrderClause_175 : decode cX5_readOrderClause 175 = .ok (.getfield 12, 3) := by decide +kernel
theorem dX5_readOrderClause_178 : decode cX5_readOrderClause 178 = .ok (.iconst 3, 1) := by decide +kernel
theorem dX5_readOrderClause_179 : decode cX5_readOrderClause 179 = .ok (.invokevirtual 59, 3) := by decide +kernel
theorem dX5_readOrderClause_182 : decode cX5_readOrderClause 182 = .ok (.aload_n 0, 1) := by decide +kernel
theorem dX5_readOrderClause_183 : decode cX5_readOrderClause 183 = .ok (.invokevirtual 98, 3) := by decide +kernel
theorem dX5_readOrderClause_186 : decode cX5_readOrderClause 186 = .ok (.ifCond .eq 14, 3) := by decide +kernel
theorem dX5_readOrderClause_189 : decode cX5_readOrderClause 189 = .ok (.aload_n 0, 1) := by decide +kernel
theorem dX5_readOrderClause_190 : decode cX5_readOrderClause 190 = .ok (.invokevirtual 70, 3) := by decide +kernel
theorem dX5_readOrderClause_193 : decode cX5_readOrderClause 193 = .ok (.ifCond .eq 7, 3) := by decide +kernel
theorem dX5_readOrderClause_196 : decode cX5_readOrderClause 196 = .ok (.iconst 1, 1) := by decide +kernel
theorem dX5_readOrderClause_197 : decode cX5_readOrderClause 197 = .ok (.goto 4, 3) := by decide +kernel
theorem dX5_readOrderClause_200 : decode cX5_readOrderClause 200 = .ok (.iconst 0, 1) := by decide +kernel
theorem dX5_readOrderClause_201 : decode cX5_readOrderClause 201 = .ok (.ireturn, 1) := by decide +kernel
theorem dX5_readOrderClause_202 : decode cX5_readOrderClause 202 = .ok (.iconst 0, 1) := by decide +kernel
theorem dX5_readOrderClause_203 : decode cX5_readOrderClause 203 = .ok (.ireturn, 1) := by decide +kernel
theorem dX5_readNextSum_0 : decode cX5_readNextSum 0 = .ok (.aload_n 0, 1) := by decide +kernel
theorem dX5_readNextSum_1 : decode cX5_readNextSum 1 = .ok (.aload_n 1, 1) := by decide +kernel
theorem dX5_readNextSum_2 : decode cX5_readNextSum 2 = .ok (.invokevirtual 89, 3) := by decide +kernel
theorem dX5_readNextSum_5 : decode cX5_readNextSum 5 = .ok (.ifCond .ne 5, 3) := by decide +kernel
theorem dX5_readNextSum_8 : decode cX5_readNextSum 8 = .ok (.iconst 0, 1) := by decide +kernel
theorem dX5_readNextSum_9 : decode cX5_readNextSum 9 = .ok (.ireturn, 1) := by decide +kernel
theorem dX5_readNextSum_10 : decode cX5_readNextSum 10 = .ok (.aload_n 0, 1) := by decide +kernel
theorem dX5_readNextSum_11 : decode cX5_readNextSum 11 = .ok (.getfield 12, 3) := by decide +kernel
theorem dX5_readNextSum_14 : decode cX5_readNextSum 14 = .ok (.iload_n 2, 1) := by decide +kernel
theorem dX5_readNextSum_15 : decode cX5_readNextSum 15 = .ok (.invokevirtual 111, 3) := by decide +kernel
theorem dX5_readNextSum_18 : decode cX5_readNextSum 18 = .ok (.aload_n 0, 1) := by decide +kernel
theorem dX5_readNextSum_19 : decode cX5_readNextSum 19 = .ok (.iconst 0, 1) := by decide +kernel
theorem dX5_readNextSum_20 : decode cX5_readNextSum 20 = .ok (.invokevirtual 66, 3) := by decide +kernel
theorem dX5_readNextSum_23 : decode cX5_readNextSum 23 = .ok (.ireturn, 1) := by decide +kernel
theorem dX5_readTimes_0 : decode cX5_readTimes 0 = .ok (.aload_n 0, 1) := by decide +kernel
theorem dX5_readTimes_1 : decode cX5_readTimes 1 = .ok (.ldc 114, 2) := by decide +kernel
theorem dX5_readTimes_3 : decode cX5_readTimes 3 = .ok (.invokevirtual 89, 3) := by decide +kernel
theorem dX5_readTimes_6 : decode cX5_readTimes 6 = .ok (.ifCond .ne 5, 3) := by decide +kernel
theorem dX5_readTimes_9 : decode cX5_readTimes 9 = .ok (.iconst 1, 1) := by decide +kernel
theorem dX5_readTimes_10 : decode cX5_readTimes 10 = .ok (.ireturn, 1) := by decide +kernel
theorem dX5_readTimes_11 : decode cX5_readTimes 11 = .ok (.aload_n 0, 1) := by decide +kernel
theorem dX5_readTimes_12 : decode cX5_readTimes 12 = .ok (.getfield 26, 3) := by decide +kernel
theorem dX5_readTimes_15 : decode cX5_readTimes 15 = .ok (.iconst 1, 1) := by decide +kernel
theorem dX5_readTimes_16 : decode cX5_readTimes 16 = .ok (.bipush 20, 2) := by decide +kernel
theorem dX5_readTimes_18 : decode cX5_readTimes 18 = .ok (.invokevirtual 116, 3) := by decide +kernel
theorem dX5_readTimes_21 : decode cX5_readTimes 21 = .ok (.ifCond .ne 5, 3) := by decide +kernel
theorem dX5_readTimes_24 : decode cX5_readTimes 24 = .ok (.iconst 0, 1) := by decide +kernel
theorem dX5_readTimes_25 : decode cX5_readTimes 25 = .ok (.ireturn, 1) := by decide +kernel
theorem dX5_readTimes_26 : decode cX5_readTimes 26 = .ok (.aload_n 0, 1) := by decide +kernel
theorem dX5_readTimes_27 : decode cX5_readTimes 27 = .ok (.getfield 12, 3) := by decide +kernel
theorem dX5_readTimes_30 : decode cX5_readTimes 30 = .ok (.aload_n 0, 1) := by decide +kernel
theorem dX5_readTimes_31 : decode cX5_readTimes 31 = .ok (.getfield 26, 3) := by decide +kernel
theorem dX5_readTimes_34 : decode cX5_readTimes 34 = .ok (.getfield 120, 3) := by decide +kernel
theorem dX5_readTimes_37 : decode cX5_readTimes 37 = .ok (.invokevirtual 123, 3) := by decide +kernel
theorem dX5_readTimes_40 : decode cX5_readTimes 40 = .ok (.aload_n 0, 1) := by decide +kernel
theorem dX5_readTimes_41 : decode cX5_readTimes 41 = .ok (.getfield 26, 3) := by decide +kernel
theorem dX5_readTimes_44 : decode cX5_readTimes 44 = .ok (.invokevirtual 63, 3) := by decide +kernel
theorem dX5_readTimes_47 : decode cX5_readTimes 47 = .ok (.iconst 1, 1) := by decide +kernel
theorem dX5_readTimes_48 : decode cX5_readTimes 48 = .ok (.ireturn, 1) := by decide +kernel
theorem dX5_readIf_0 : decode cX5_readIf 0 = .ok (.aload_n 0, 1) := by decide +kernel
theorem dX5_readIf_1 : decode cX5_readIf 1 = .ok (.getfield 12, 3) := by decide +kernel
theorem dX5_readIf_4 : decode cX5_readIf 4 = .ok (.iconst 3, 1) := by decide +kernel
theorem dX5_readIf_5 : decode cX5_readIf 5 = .ok (.invokevirtual 111, 3) := by decide +kernel
theorem dX5_readIf_8 : decode cX5_readIf 8 = .ok (.aload_n 0, 1) := by decide +kernel
theorem dX5_readIf_9 : decode cX5_readIf 9 = .ok (.ldc 126, 2) := by decide +kernel
theorem dX5_readIf_11 : decode cX5_readIf 11 = .ok (.invokevirtual 89, 3) := by decide +kernel
theorem dX5_readIf_14 : decode cX5_readIf 14 = .ok (.ifCond .eq 11, 3) := by decide +kernel
theorem dX5_readIf_17 : decode cX5_readIf 17 = .ok (.aload_n 0, 1) := by decide +kernel
theorem dX5_readIf_18 : decode cX5_readIf 18 = .ok (.iconst 0, 1) := by decide +kernel
theorem dX5_readIf_19 : decode cX5_readIf 19 = .ok (.invokevirtual 128, 3) := by decide +kernel
theorem dX5_readIf_22 : decode cX5_readIf 22 = .ok (.ifCond .eq 7, 3) := by decide +kernel
theorem dX5_readIf_25 : decode cX5_readIf 25 = .ok (.iconst 1, 1) := by decide +kernel
theorem dX5_readIf_26 : decode cX5_readIf 26 = .ok (.goto 4, 3) := by decide +kernel
theorem dX5_readIf_29 : decode cX5_readIf 29 = .ok (.iconst 0, 1) := by decide +kernel
theorem dX5_readIf_30 : decode cX5_readIf 30 = .ok (.ireturn, 1) := by decide +kernel
theorem dX5_readTest_0 : decode cX5_readTest 0 = .ok (.aload_n 0, 1) := by decide +kernel
theorem dX5_readTest_1 : decode cX5_readTest 1 = .ok (.iload_n 1, 1) := by decide +kernel
theorem dX5_readTest_2 : decode cX5_readTest 2 = .ok (.invokevirtual 131, 3) := by decide +kernel
theorem dX5_readTest_5 : decode cX5_readTest 5 = .ok (.ifCond .ne 5, 3) := by decide +kernel
theorem dX5_readTest_8 : decode cX5_readTest 8 = .ok (.iconst 0, 1) := by decide +kernel
theorem dX5_readTest_9 : decode cX5_readTest 9 = .ok (.ireturn, 1) := by decide +kernel
theorem dX5_readTest_10 : decode cX5_readTest 10 = .ok (.iconst 0, 1) := by decide +kernel
theorem dX5_readTest_11 : decode cX5_readTest 11 = .ok (.istore_n 2, 1) := by decide +kernel
theorem dX5_readTest_12 : decode cX5_readTest 12 = .ok (.iload_n 2, 1) := by decide +kernel
theorem dX5_readTest_13 : decode cX5_readTest 13 = .ok (.sipush 400, 3) := by decide +kernel
theorem dX5_readTest_16 : decode cX5_readTest 16 = .ok (.if_icmp .ge 47, 3) := by decide +kernel
theorem dX5_readTest_19 : decode cX5_readTest 19 = .ok (.aload_n 0, 1) := by decide +kernel
theorem dX5_readTest_20 : decode cX5_readTest 20 = .ok (.ldc 134, 2) := by decide +kernel
theorem dX5_readTest_22 : decode cX5_readTest 22 = .ok (.invokevirtual 89, 3) := by decide +kernel
theorem dX5_readTest_25 : decode cX5_readTest 25 = .ok (.ifCond .eq 38, 3) := by decide +kernel
theorem dX5_readTest_28 : decode cX5_readTest 28 = .ok (.aload_n 0, 1) := by decide +kernel
theorem dX5_readTest_29 : decode cX5_readTest 29 = .ok (.getfield 12, 3) := by decide +kernel
theorem dX5_readTest_32 : decode cX5_readTest 32 = .ok (.bipush 11, 2) := by decide +kernel
theorem dX5_readTest_34 : decode cX5_readTest 34 = .ok (.iconst 0, 1) := by decide +kernel
theorem dX5_readTest_35 : decode cX5_readTest 35 = .ok (.invokevirtual 136, 3) := by decide +kernel
theorem dX5_readTest_38 : decode cX5_readTest 38 = .ok (.istore_n 3, 1) := by decide +kernel
theorem dX5_readTest_39 : decode cX5_readTest 39 = .ok (.aload_n 0, 1) := by decide +kernel
theorem dX5_readTest_40 : decode cX5_readTest 40 = .ok (.iload_n 1, 1) := by decide +kernel
theorem dX5_readTest_41 : decode cX5_readTest 41 = .ok (.invokevirtual 131, 3) := by decide +kernel
theorem dX5_readTest_44 : decode cX5_readTest 44 = .ok (.ifCond .ne 5, 3) := by decide +kernel
theorem dX5_readTest_47 : decode cX5_readTest 47 = .ok (.iconst 0, 1) := by decide +kernel
theorem dX5_readTest_48 : decode cX5_readTest 48 = .ok (.ireturn, 1) := by decide +kernel
theorem dX5_readTest_49 : decode cX5_readTest 49 = .ok (.aload_n 0, 1) := by decide +kernel
theorem dX5_readTest_50 : decode cX5_readTest 50 = .ok (.getfield 12, 3) := by decide +kernel
theorem dX5_readTest_53 : decode cX5_readTest 53 = .ok (.iload_n 3, 1) := by decide +kernel
theorem dX5_readTest_54 : decode cX5_readTest 54 = .ok (.invokevirtual 140, 3) := by decide +kernel
theorem dX5_readTest_57 : decode cX5_readTest 57 = .ok (.iinc 2 1, 3) := by decide +kernel
theorem dX5_readTest_60 : decode cX5_readTest 60 = .ok (.goto (-48), 3) := by decide +kernel
theorem dX5_readTest_63 : decode cX5_readTest 63 = .ok (.iconst 1, 1) := by decide +kernel
theorem dX5_readTest_64 : decode cX5_readTest 64 = .ok (.ireturn, 1) := by decide +kernel
theorem dX5_readBoth_0 : decode cX5_readBoth 0 = .ok (.aload_n 0, 1) := by decide +kernel
theorem dX5_readBoth_1 : decode cX5_readBoth 1 = .ok (.iload_n 1, 1) := by decide +kernel
theorem dX5_readBoth_2 : decode cX5_readBoth 2 = .ok (.invokevirtual 143, 3) := by decide +kernel
theorem dX5_readBoth_5 : decode cX5_readBoth 5 = .ok (.ifCond .ne 5, 3) := by decide +kernel
theorem dX5_readBoth_8 : decode cX5_readBoth 8 = .ok (.iconst 0, 1) := by decide +kernel
theorem dX5_readBoth_9 : decode cX5_readBoth 9 = .ok (.ireturn, 1) := by decide +kernel
theorem dX5_readBoth_10 : decode cX5_readBoth 10 = .ok (.iconst 0, 1) := by decide +kernel
theorem dX5_readBoth_11 : decode cX5_readBoth 11 = .ok (.istore_n 2, 1) := by decide +kernel
theorem dX5_readBoth_12 : decode cX5_readBoth 12 = .ok (.iload_n 2, 1) := by decide +kernel
theorem dX5_readBoth_13 : decode cX5_readBoth 13 = .ok (.sipush 400, 3) := by decide +kernel
theorem dX5_readBoth_16 : decode cX5_readBoth 16 = .ok (.if_icmp .ge 47, 3) := by decide +kernel
theorem dX5_readBoth_19 : decode cX5_readBoth 19 = .ok (.aload_n 0, 1) := by decide +kernel
theorem dX5_readBoth_20 : decode cX5_readBoth 20 = .ok (.ldc 146, 2) := by decide +kernel
theorem dX5_readBoth_22 : decode cX5_readBoth 22 = .ok (.invokevirtual 89, 3) := by decide +kernel
theorem dX5_readBoth_25 : decode cX5_readBoth 25 = .ok (.ifCond .eq 38, 3) := by decide +kernel
theorem dX5_readBoth_28 : decode cX5_readBoth 28 = .ok (.aload_n 0, 1) := by decide +kernel
theorem dX5_readBoth_29 : decode cX5_readBoth 29 = .ok (.getfield 12, 3) := by decide +kernel
theorem dX5_readBoth_32 : decode cX5_readBoth 32 = .ok (.bipush 12, 2) := by decide +kernel
theorem dX5_readBoth_34 : decode cX5_readBoth 34 = .ok (.iconst 0, 1) := by decide +kernel
theorem dX5_readBoth_35 : decode cX5_readBoth 35 = .ok (.invokevirtual 136, 3) := by decide +kernel
theorem dX5_readBoth_38 : decode cX5_readBoth 38 = .ok (.istore_n 3, 1) := by decide +kernel
theorem dX5_readBoth_39 : decode cX5_readBoth 39 = .ok (.aload_n 0, 1) := by decide +kernel
theorem dX5_readBoth_40 : decode cX5_readBoth 40 = .ok (.iload_n 1, 1) := by decide +kernel
theorem dX5_readBoth_41 : decode cX5_readBoth 41 = .ok (.invokevirtual 143, 3) := by decide +kernel
theorem dX5_readBoth_44 : decode cX5_readBoth 44 = .ok (.ifCond .ne 5, 3) := by decide +kernel
theorem dX5_readBoth_47 : decode cX5_readBoth 47 = .ok (.iconst 0, 1) := by decide +kernel
theorem dX5_readBoth_48 : decode cX5_readBoth 48 = .ok (.ireturn, 1) := by decide +kernel
theorem dX5_readBoth_49 : decode cX5_readBoth 49 = .ok (.aload_n 0, 1) := by decide +kernel
theorem dX5_readBoth_50 : decode cX5_readBoth 50 = .ok (.getfield 12, 3) := by decide +kernel
theorem dX5_readBoth_53 : decode cX5_readBoth 53 = .ok (.iload_n 3, 1) := by decide +kernel
theorem dX5_readBoth_54 : decode cX5_readBoth 54 = .ok (.invokevirtual 140, 3) := by decide +kernel
theorem dX5_readBoth_57 : decode cX5_readBoth 57 = .ok (.iinc 2 1, 3) := by decide +kernel
theorem dX5_readBoth_60 : decode cX5_readBoth 60 = .ok (.goto (-48), 3) := by decide +kernel
theorem dX5_readBoth_63 : decode cX5_readBoth 63 = .ok (.iconst 1, 1) := by decide +kernel
theorem dX5_readBoth_64 : decode cX5_readBoth 64 = .ok (.ireturn, 1) := by decide +kernel
theorem dX5_readPlain_0 : decode cX5_readPlain 0 = .ok (.iconst 0, 1) := by decide +kernel
theorem dX5_readPlain_1 : decode cX5_readPlain 1 = .ok (.istore_n 2, 1) := by decide +kernel
theorem dX5_readPlain_2 : decode cX5_readPlain 2 = .ok (.iconst 0, 1) := by decide +kernel
theorem dX5_readPlain_3 : decode cX5_readPlain 3 = .ok (.istore_n 3, 1) := by decide +kernel
theorem dX5_readPlain_4 : decode cX5_readPlain 4 = .ok (.iload_n 3, 1) := by decide +kernel
theorem dX5_readPlain_5 : decode cX5_readPlain 5 = .ok (.sipush 400, 3) := by decide +kernel
theorem dX5_readPlain_8 : decode cX5_readPlain 8 = .ok (.if_icmp .ge 28, 3) := by decide +kernel
theorem dX5_readPlain_11 : decode cX5_readPlain 11 = .ok (.aload_n 0, 1) := by decide +kernel
theorem dX5_readPlain_12 : decode cX5_readPlain 12 = .ok (.ldc 148, 2) := by decide +kernel
theorem dX5_readPlain_14 : decode cX5_readPlain 14 = .ok (.invokevirtual 89, 3) := by decide +kernel
theorem dX5_readPlain_17 : decode cX5_readPlain 17 = .ok (.ifCond .eq 19, 3) := by decide +kernel
theorem dX5_readPlain_20 : decode cX5_readPlain 20 = .ok (.iload_n 2, 1) := by decide +kernel
theorem dX5_readPlain_21 : decode cX5_readPlain 21 = .ok (.ifCond .ne 7, 3) := by decide +kernel
theorem dX5_readPlain_24 : decode cX5_readPlain 24 = .ok (.iconst 1, 1) := by decide +kernel
theorem dX5_readPlain_25 : decode cX5_readPlain 25 = .ok (.goto 4, 3) := by decide +kernel
theorem dX5_readPlain_28 : decode cX5_readPlain 28 = .ok (.iconst 0, 1) := by decide +kernel
theorem dX5_readPlain_29 : decode cX5_readPlain 29 = .ok (.istore_n 2, 1) := by decide +kernel
theorem dX5_readPlain_30 : decode cX5_readPlain 30 = .ok (.iinc 3 1, 3) := by decide +kernel
theorem dX5_readPlain_33 : decode cX5_readPlain 33 = .ok (.goto (-29), 3) := by decide +kernel
theorem dX5_readPlain_36 : decode cX5_readPlain 36 = .ok (.aload_n 0, 1) := by decide +kernel
theorem dX5_readPlain_37 : decode cX5_readPlain 37 = .ok (.getfield 26, 3) := by decide +kernel
theorem dX5_readPlain_40 : decode cX5_readPlain 40 = .ok (.bipush 40, 2) := by decide +kernel
theorem dX5_readPlain_42 : decode cX5_readPlain 42 = .ok (.invokevirtual 150, 3) := by decide +kernel
theorem dX5_readPlain_45 : decode cX5_readPlain 45 = .ok (.ifCond .eq 11, 3) := by decide +kernel
theorem dX5_readPlain_48 : decode cX5_readPlain 48 = .ok (.aload_n 0, 1) := by decide +kernel
theorem dX5_readPlain_49 : decode cX5_readPlain 49 = .ok (.iload_n 1, 1) := by decide +kernel
theorem dX5_readPlain_50 : decode cX5_readPlain 50 = .ok (.invokevirtual 153, 3) := by decide +kernel
theorem dX5_readPlain_53 : decode cX5_readPlain 53 = .ok (.goto 8, 3) := by decide +kernel
theorem dX5_readPlain_56 : decode cX5_readPlain 56 = .ok (.aload_n 0, 1) := by decide +kernel
theorem dX5_readPlain_57 : decode cX5_readPlain 57 = .ok (.iload_n 1, 1) := by decide +kernel
theorem dX5_readPlain_58 : decode cX5_readPlain 58 = .ok (.invokevirtual 156, 3) := by decide +kernel
theorem dX5_readPlain_61 : decode cX5_readPlain 61 = .ok (.istore_n 3, 1) := by decide +kernel
theorem dX5_readPlain_62 : decode cX5_readPlain 62 = .ok (.iload_n 3, 1) := by decide +kernel
theorem dX5_readPlain_63 : decode cX5_readPlain 63 = .ok (.ifCond .eq 18, 3) := by decide +kernel
theorem dX5_readPlain_66 : decode cX5_readPlain 66 = .ok (.iload_n 2, 1) := by decide +kernel
theorem dX5_readPlain_67 : decode cX5_readPlain 67 = .ok (.ifCond .eq 14, 3) := by decide +kernel
theorem dX5_readPlain_70 : decode cX5_readPlain 70 = .ok (.aload_n 0, 1) := by decide +kernel
theorem dX5_readPlain_71 : decode cX5_readPlain 71 = .ok (.getfield 12, 3) := by decide +kernel
theorem dX5_readPlain_74 : decode cX5_readPlain 74 = .ok (.bipush 10, 2) := by decide +kernel
theorem dX5_readPlain_76 : decode cX5_readPlain 76 = .ok (.iconst 0, 1) := by decide +kernel
theorem dX5_readPlain_77 : decode cX5_readPlain 77 = .ok (.invokevirtual 136, 3) := by decide +kernel
theorem dX5_readPlain_80 : decode cX5_readPlain 80 = .ok (.pop, 1) := by decide +kernel
theorem dX5_readPlain_81 : decode cX5_readPlain 81 = .ok (.iload_n 3, 1) := by decide +kernel
theorem dX5_readPlain_82 : decode cX5_readPlain 82 = .ok (.ireturn, 1) := by decide +kernel
theorem dX5_readBracketedTest_0 : decode cX5_readBracketedTest 0 = .ok (.iload_n 1, 1) := by decide +kernel
theorem dX5_readBracketedTest_1 : decode cX5_readBracketedTest 1 = .ok (.bipush 8, 2) := by decide +kernel
theorem dX5_readBracketedTest_3 : decode cX5_readBracketedTest 3 = .ok (.if_icmp .ge 35, 3) := by decide +kernel
theorem dX5_readBracketedTest_6 : decode cX5_readBracketedTest 6 = .ok (.aload_n 0, 1) := by decide +kernel
theorem dX5_readBracketedTest_7 : decode cX5_readBracketedTest 7 = .ok (.bipush 40, 2) := by decide +kernel
theorem dX5_readBracketedTest_9 : decode cX5_readBracketedTest 9 = .ok (.invokevirtual 48, 3) := by decide +kernel
theorem dX5_readBracketedTest_12 : decode cX5_readBracketedTest 12 = .ok (.ifCond .eq 26, 3) := by decide +kernel
theorem dX5_readBracketedTest_15 : decode cX5_readBracketedTest 15 = .ok (.aload_n 0, 1) := by decide +kernel
theorem dX5_readBracketedTest_16 : decode cX5_readBracketedTest 16 = .ok (.iload_n 1, 1) := by decide +kernel
theorem dX5_readBracketedTest_17 : decode cX5_readBracketedTest 17 = .ok (.iconst 1, 1) := by decide +kernel
theorem dX5_readBracketedTest_18 : decode cX5_readBracketedTest 18 = .ok (.iadd, 1) := by decide +kernel
theorem dX5_readBracketedTest_19 : decode cX5_readBracketedTest 19 = .ok (.invokevirtual 128, 3) := by decide +kernel
theorem dX5_readBracketedTest_22 : decode cX5_readBracketedTest 22 = .ok (.ifCond .eq 16, 3) := by decide +kernel
theorem dX5_readBracketedTest_25 : decode cX5_readBracketedTest 25 = .ok (.aload_n 0, 1) := by decide +kernel
theorem dX5_readBracketedTest_26 : decode cX5_readBracketedTest 26 = .ok (.bipush 41, 2) := by decide +kernel
theorem dX5_readBracketedTest_28 : decode cX5_readBracketedTest 28 = .ok (.invokevirtual 48, 3) := by decide +kernel
theorem dX5_readBracketedTest_31 : decode cX5_readBracketedTest 31 = .ok (.ifCond .eq 7, 3) := by decide +kernel
theorem dX5_readBracketedTest_34 : decode cX5_readBracketedTest 34 = .ok (.iconst 1, 1) := by decide +kernel
theorem dX5_readBracketedTest_35 : decode cX5_readBracketedTest 35 = .ok (.goto 4, 3) := by decide +kernel
theorem dX5_readBracketedTest_38 : decode cX5_readBracketedTest 38 = .ok (.iconst 0, 1) := by decide +kernel
theorem dX5_readBracketedTest_39 : decode cX5_readBracketedTest 39 = .ok (.ireturn, 1) := by decide +kernel
theorem dX5_readComparison_0 : decode cX5_readComparison 0 = .ok (.aload_n 0, 1) := by decide +kernel
theorem dX5_readComparison_1 : decode cX5_readComparison 1 = .ok (.iload_n 1, 1) := by decide +kernel
theorem dX5_readComparison_2 : decode cX5_readComparison 2 = .ok (.invokevirtual 66, 3) := by decide +kernel
theorem dX5_readComparison_5 : decode cX5_readComparison 5 = .ok (.ifCond .ne 5, 3) := by decide +kernel
theorem dX5_readComparison_8 : decode cX5_readComparison 8 = .ok (.iconst 0, 1) := by decide +kernel
theorem dX5_readComparison_9 : decode cX5_readComparison 9 = .ok (.ireturn, 1) := by decide +kernel
theorem dX5_readComparison_10 : decode cX5_readComparison 10 = .ok (.aload_n 0, 1) := by decide +kernel
theorem dX5_readComparison_11 : decode cX5_readComparison 11 = .ok (.getfield 26, 3) := by decide +kernel
theorem dX5_readComparison_14 : decode cX5_readComparison 14 = .ok (.bipush 60, 2) := by decide +kernel
theorem dX5_readComparison_16 : decode cX5_readComparison 16 = .ok (.invokevirtual 150, 3) := by decide +kernel
theorem dX5_readComparison_19 : decode cX5_readComparison 19 = .ok (.ifCond .eq 8, 3) := by decide +kernel
theorem dX5_readComparison_22 : decode cX5_readComparison 22 = .ok (.bipush 7, 2) := by decide +kernel
theorem dX5_readComparison_24 : decode cX5_readComparison 24 = .ok (.goto 22, 3) := by decide +kernel
theorem dX5_readComparison_27 : decode cX5_readComparison 27 = .ok (.aload_n 0, 1) := by decide +kernel
theorem dX5_readComparison_28 : decode cX5_readComparison 28 = .ok (.getfield 26, 3) := by decide +kernel
theorem dX5_readComparison_31 : decode cX5_readComparison 31 = .ok (.bipush 62, 2) := by decide +kernel
theorem dX5_readComparison_33 : decode cX5_readComparison 33 = .ok (.invokevirtual 150, 3) := by decide +kernel
theorem dX5_readComparison_36 : decode cX5_readComparison 36 = .ok (.ifCond .eq 8, 3) := by decide +kernel
theorem dX5_readComparison_39 : decode cX5_readComparison 39 = .ok (.bipush 8, 2) := by decide +kernel
theorem dX5_readComparison_41 : decode cX5_readComparison 41 = .ok (.goto 5, 3) := by decide +kernel
theorem dX5_readComparison_44 : decode cX5_readComparison 44 = .ok (.bipush 9, 2) := by decide +kernel
theorem dX5_readComparison_46 : decode cX5_readComparison 46 = .ok (.istore_n 2, 1) := by decide +kernel
theorem dX5_readComparison_47 : decode cX5_readComparison 47 = .ok (.iload_n 2, 1) := by decide +kernel
theorem dX5_readComparison_48 : decode cX5_readComparison 48 = .ok (.bipush 9, 2) := by decide +kernel
theorem dX5_readComparison_50 : decode cX5_readComparison 50 = .ok (.if_icmp .ne 17, 3) := by decide +kernel
theorem dX5_readComparison_53 : decode cX5_readComparison 53 = .ok (.aload_n 0, 1) := by decide +kernel
theorem dX5_readComparison_54 : decode cX5_readComparison 54 = .ok (.getfield 26, 3) := by decide +kernel
theorem dX5_readComparison_57 : decode cX5_readComparison 57 = .ok (.bipush 61, 2) := by decide +kernel
theorem dX5_readComparison_59 : decode cX5_readComparison 59 = .ok (.invokevirtual 150, 3) := by decide +kernel
theorem dX5_readComparison_62 : decode cX5_readComparison 62 = .ok (.ifCond .ne 5, 3) := by decide +kernel
theorem dX5_readComparison_65 : decode cX5_readComparison 65 = .ok (.iconst 0, 1) := by decide +kernel
theorem dX5_readComparison_66 : decode cX5_readComparison 66 = .ok (.ireturn, 1) := by decide +kernel
theorem dX5_readComparison_67 : decode cX5_readComparison 67 = .ok (.aload_n 0, 1) := by decide +kernel
theorem dX5_readComparison_68 : decode cX5_readComparison 68 = .ok (.getfield 26, 3) := by decide +kernel
theorem dX5_readComparison_71 : decode cX5_readComparison 71 = .ok (.invokevirtual 63, 3) := by decide +kernel
theorem dX5_readComparison_74 : decode cX5_readComparison 74 = .ok (.aload_n 0, 1) := by decide +kernel
theorem dX5_readComparison_75 : decode cX5_readComparison 75 = .ok (.iload_n 1, 1) := by decide +kernel
theorem dX5_readComparison_76 : decode cX5_readComparison 76 = .ok (.invokevirtual 66, 3) := by decide +kernel
theorem dX5_readComparison_79 : decode cX5_readComparison 79 = .ok (.ifCond .ne 5, 3) := by decide +kernel
theorem dX5_readComparison_82 : decode cX5_readComparison 82 = .ok (.iconst 0, 1) := by decide +kernel
theorem dX5_readComparison_83 : decode cX5_readComparison 83 = .ok (.ireturn, 1) := by decide +kernel
theorem dX5_readComparison_84 : decode cX5_readComparison 84 = .ok (.aload_n 0, 1) := by decide +kernel
theorem dX5_readComparison_85 : decode cX5_readComparison 85 = .ok (.getfield 12, 3) := by decide +kernel
theorem dX5_readComparison_88 : decode cX5_readComparison 88 = .ok (.iload_n 2, 1) := by decide +kernel
theorem dX5_readComparison_89 : decode cX5_readComparison 89 = .ok (.iconst 0, 1) := by decide +kernel
theorem dX5_readComparison_90 : decode cX5_readComparison 90 = .ok (.invokevirtual 136, 3) := by decide +kernel
theorem dX5_readComparison_93 : decode cX5_readComparison 93 = .ok (.pop, 1) := by decide +kernel
theorem dX5_readComparison_94 : decode cX5_readComparison 94 = .ok (.iconst 1, 1) := by decide +kernel
theorem dX5_readComparison_95 : decode cX5_readComparison 95 = .ok (.ireturn, 1) := by decide +kernel
theorem dX5_readSum_0 : decode cX5_readSum 0 = .ok (.aload_n 0, 1) := by decide +kernel
theorem dX5_readSum_1 : decode cX5_readSum 1 = .ok (.iload_n 1, 1) := by decide +kernel
theorem dX5_readSum_2 : decode cX5_readSum 2 = .ok (.invokevirtual 159, 3) := by decide +kernel
theorem dX5_readSum_5 : decode cX5_readSum 5 = .ok (.ifCond .ne 5, 3) := by decide +kernel
theorem dX5_readSum_8 : decode cX5_readSum 8 = .ok (.iconst 0, 1) := by decide +kernel
theorem dX5_readSum_9 : decode cX5_readSum 9 = .ok (.ireturn, 1) := by decide +kernel
theorem dX5_readSum_10 : decode cX5_readSum 10 = .ok (.iconst 0, 1) := by decide +kernel
theorem dX5_readSum_11 : decode cX5_readSum 11 = .ok (.istore_n 2, 1) := by decide +kernel
theorem dX5_readSum_12 : decode cX5_readSum 12 = .ok (.iload_n 2, 1) := by decide +kernel
theorem dX5_readSum_13 : decode cX5_readSum 13 = .ok (.sipush 400, 3) := by decide +kernel
theorem dX5_readSum_16 : decode cX5_readSum 16 = .ok (.if_icmp .ge 78, 3) := by decide +kernel
theorem dX5_readSum_19 : decode cX5_readSum 19 = .ok (.aload_n 0, 1) := by decide +kernel
theorem dX5_readSum_20 : decode cX5_readSum 20 = .ok (.getfield 26, 3) := by decide +kernel
theorem dX5_readSum_23 : decode cX5_readSum 23 = .ok (.bipush 43, 2) := by decide +kernel
theorem dX5_readSum_25 : decode cX5_readSum 25 = .ok (.invokevirtual 150, 3) := by decide +kernel
theorem dX5_readSum_28 : decode cX5_readSum 28 = .ok (.ifCond .ne 15, 3) := by decide +kernel
theorem dX5_readSum_31 : decode cX5_readSum 31 = .ok (.aload_n 0, 1) := by decide +kernel
theorem dX5_readSum_32 : decode cX5_readSum 32 = .ok (.getfield 26, 3) := by decide +kernel
theorem dX5_readSum_35 : decode cX5_readSum 35 = .ok (.bipush 45, 2) := by decide +kernel
theorem dX5_readSum_37 : decode cX5_readSum 37 = .ok (.invokevirtual 150, 3) := by decide +kernel
theorem dX5_readSum_40 : decode cX5_readSum 40 = .ok (.ifCond .eq 54, 3) := by decide +kernel
theorem dX5_readSum_43 : decode cX5_readSum 43 = .ok (.aload_n 0, 1) := by decide +kernel
theorem dX5_readSum_44 : decode cX5_readSum 44 = .ok (.getfield 26, 3) := by decide +kernel
theorem dX5_readSum_47 : decode cX5_readSum 47 = .ok (.bipush 43, 2) := by decide +kernel
theorem dX5_readSum_49 : decode cX5_readSum 49 = .ok (.invokevirtual 150, 3) := by decide +kernel
theorem dX5_readSum_52 : decode cX5_readSum 52 = .ok (.ifCond .eq 7, 3) := by decide +kernel
theorem dX5_readSum_55 : decode cX5_readSum 55 = .ok (.iconst 2, 1) := by decide +kernel
theorem dX5_readSum_56 : decode cX5_readSum 56 = .ok (.goto 4, 3) := by decide +kernel
theorem dX5_readSum_59 : decode cX5_readSum 59 = .ok (.iconst 3, 1) := by decide +kernel
theorem dX5_readSum_60 : decode cX5_readSum 60 = .ok (.istore_n 3, 1) := by decide +kernel
theorem dX5_readSum_61 : decode cX5_readSum 61 = .ok (.aload_n 0, 1) := by decide +kernel
theorem dX5_readSum_62 : decode cX5_readSum 62 = .ok (.getfield 26, 3) := by decide +kernel
theorem dX5_readSum_65 : decode cX5_readSum 65 = .ok (.invokevirtual 63, 3) := by decide +kernel
theorem dX5_readSum_68 : decode cX5_readSum 68 = .ok (.aload_n 0, 1) := by decide +kernel
theorem dX5_readSum_69 : decode cX5_readSum 69 = .ok (.iload_n 1, 1) := by decide +kernel
theorem dX5_readSum_70 : decode cX5_readSum 70 = .ok (.invokevirtual 159, 3) := by decide +kernel
theorem dX5_readSum_73 : decode cX5_readSum 73 = .ok (.ifCond .ne 5, 3) := by decide +kernel
theorem dX5_readSum_76 : decode cX5_readSum 76 = .ok (.iconst 0, 1) := by decide +kernel
theorem dX5_readSum_77 : decode cX5_readSum 77 = .ok (.ireturn, 1) := by decide +kernel
theorem dX5_readSum_78 : decode cX5_readSum 78 = .ok (.aload_n 0, 1) := by decide +kernel
theorem dX5_readSum_79 : decode cX5_readSum 79 = .ok (.getfield 12, 3) := by decide +kernel
theorem dX5_readSum_82 : decode cX5_readSum 82 = .ok (.iload_n 3, 1) := by decide +kernel
theorem dX5_readSum_83 : decode cX5_readSum 83 = .ok (.iconst 0, 1) := by decide +kernel
theorem dX5_readSum_84 : decode cX5_readSum 84 = .ok (.invokevirtual 136, 3) := by decide +kernel
theorem dX5_readSum_87 : decode cX5_readSum 87 = .ok (.pop, 1) := by decide +kernel
theorem dX5_readSum_88 : decode cX5_readSum 88 = .ok (.iinc 2 1, 3) := by decide +kernel
theorem dX5_readSum_91 : decode cX5_readSum 91 = .ok (.goto (-79), 3) := by decide +kernel
theorem dX5_readSum_94 : decode cX5_readSum 94 = .ok (.iconst 1, 1) := by decide +kernel
theorem dX5_readSum_95 : decode cX5_readSum 95 = .ok (.ireturn, 1) := by decide +kernel
theorem dX5_readTerm_0 : decode cX5_readTerm 0 = .ok (.aload_n 0, 1) := by decide +kernel
theorem dX5_readTerm_1 : decode cX5_readTerm 1 = .ok (.iload_n 1, 1) := by decide +kernel
theorem dX5_readTerm_2 : decode cX5_readTerm 2 = .ok (.invokevirtual 162, 3) := by decide +kernel
theorem dX5_readTerm_5 : decode cX5_readTerm 5 = .ok (.ifCond .ne 5, 3) := by decide +kernel
theorem dX5_readTerm_8 : decode cX5_readTerm 8 = .ok (.iconst 0, 1) := by decide +kernel
theorem dX5_readTerm_9 : decode cX5_readTerm 9 = .ok (.ireturn, 1) := by decide +kernel
theorem dX5_readTerm_10 : decode cX5_readTerm 10 = .ok (.iconst 0, 1) := by decide +kernel
theorem dX5_readTerm_11 : decode cX5_readTerm 11 = .ok (.istore_n 2, 1) := by decide +kernel
theorem dX5_readTerm_12 : decode cX5_readTerm 12 = .ok (.iload_n 2, 1) := by decide +kernel
theorem dX5_readTerm_13 : decode cX5_readTerm 13 = .ok (.sipush 400, 3) := by decide +kernel
theorem dX5_readTerm_16 : decode cX5_readTerm 16 = .ok (.if_icmp .ge 78, 3) := by decide +kernel
theorem dX5_readTerm_19 : decode cX5_readTerm 19 = .ok (.aload_n 0, 1) := by decide +kernel
theorem dX5_readTerm_20 : decode cX5_readTerm 20 = .ok (.invokevirtual 165, 3) := by decide +kernel
theorem dX5_readTerm_23 : decode cX5_readTerm 23 = .ok (.ifCond .eq 71, 3) := by decide +kernel
theorem dX5_readTerm_26 : decode cX5_readTerm 26 = .ok (.aload_n 0, 1) := by decide +kernel
theorem dX5_readTerm_27 : decode cX5_readTerm 27 = .ok (.getfield 26, 3) := by decide +kernel
theorem dX5_readTerm_30 : decode cX5_readTerm 30 = .ok (.bipush 42, 2) := by decide +kernel
theorem dX5_readTerm_32 : decode cX5_readTerm 32 = .ok (.invokevirtual 150, 3) := by decide +kernel
theorem dX5_readTerm_35 : decode cX5_readTerm 35 = .ok (.ifCond .eq 7, 3) := by decide +kernel
theorem dX5_readTerm_38 : decode cX5_readTerm 38 = .ok (.iconst 4, 1) := by decide +kernel
theorem dX5_readTerm_39 : decode cX5_readTerm 39 = .ok (.goto 21, 3) := by decide +kernel
theorem dX5_readTerm_42 : decode cX5_readTerm 42 = .ok (.aload_n 0, 1) := by decide +kernel
theorem dX5_readTerm_43 : decode cX5_readTerm 43 = .ok (.getfield 26, 3) := by decide +kernel
theorem dX5_readTerm_46 : decode cX5_readTerm 46 = .ok (.bipush 47, 2) := by decide +kernel
theorem dX5_readTerm_48 : decode cX5_readTerm 48 = .ok (.invokevirtual 150, 3) := by decide +kernel
theorem dX5_readTerm_51 : decode cX5_readTerm 51 = .ok (.ifCond .eq 7, 3) := by decide +kernel
theorem dX5_readTerm_54 : decode cX5_readTerm 54 = .ok (.iconst 5, 1) := by decide +kernel
theorem dX5_readTerm_55 : decode cX5_readTerm 55 = .ok (.goto 5, 3) := by decide +kernel
theorem dX5_readTerm_58 : decode cX5_readTerm 58 = .ok (.bipush 6, 2) := by decide +kernel
theorem dX5_readTerm_60 : decode cX5_readTerm 60 = .ok (.istore_n 3, 1) := by decide +kernel
theorem dX5_readTerm_61 : decode cX5_readTerm 61 = .ok (.aload_n 0, 1) := by decide +kernel
theorem dX5_readTerm_62 : decode cX5_readTerm 62 = .ok (.getfield 26, 3) := by decide +kernel
theorem dX5_readTerm_65 : decode cX5_readTerm 65 = .ok (.invokevirtual 63, 3) := by decide +kernel
theorem dX5_readTerm_68 : decode cX5_readTerm 68 = .ok (.aload_n 0, 1) := by decide +kernel
theorem dX5_readTerm_69 : decode cX5_readTerm 69 = .ok (.iload_n 1, 1) := by decide +kernel
theorem dX5_readTerm_70 : decode cX5_readTerm 70 = .ok (.invokevirtual 162, 3) := by decide +kernel
theorem dX5_readTerm_73 : decode cX5_readTerm 73 = .ok (.ifCond .ne 5, 3) := by decide +kernel
theorem dX5_readTerm_76 : decode cX5_readTerm 76 = .ok (.iconst 0, 1) := by decide +kernel
theorem dX5_readTerm_77 : decode cX5_readTerm 77 = .ok (.ireturn, 1) := by decide +kernel
theorem dX5_readTerm_78 : decode cX5_readTerm 78 = .ok (.aload_n 0, 1) := by decide +kernel
theorem dX5_readTerm_79 : decode cX5_readTerm 79 = .ok (.getfield 12, 3) := by decide +kernel
theorem dX5_readTerm_82 : decode cX5_readTerm 82 = .ok (.iload_n 3, 1) := by decide +kernel
theorem dX5_readTerm_83 : decode cX5_readTerm 83 = .ok (.iconst 0, 1) := by decide +kernel
theorem dX5_readTerm_84 : decode cX5_readTerm 84 = .ok (.invokevirtual 136, 3) := by decide +kernel
theorem dX5_readTerm_87 : decode cX5_readTerm 87 = .ok (.pop, 1) := by decide +kernel
theorem dX5_readTerm_88 : decode cX5_readTerm 88 = .ok (.iinc 2 1, 3) := by decide +kernel
theorem dX5_readTerm_91 : decode cX5_readTerm 91 = .ok (.goto (-79), 3) := by decide +kernel
theorem dX5_readTerm_94 : decode cX5_readTerm 94 = .ok (.iconst 1, 1) := by decide +kernel
theorem dX5_readTerm_95 : decode cX5_readTerm 95 = .ok (.ireturn, 1) := by decide +kernel
theorem dX5_isTermSign_0 : decode cX5_isTermSign 0 = .ok (.aload_n 0, 1) := by decide +kernel
theorem dX5_isTermSign_1 : decode cX5_isTermSign 1 = .ok (.getfield 26, 3) := by decide +kernel
theorem dX5_isTermSign_4 : decode cX5_isTermSign 4 = .ok (.bipush 42, 2) := by decide +kernel
theorem dX5_isTermSign_6 : decode cX5_isTermSign 6 = .ok (.invokevirtual 150, 3) := by decide +kernel
theorem dX5_isTermSign_9 : decode cX5_isTermSign 9 = .ok (.ifCond .ne 27, 3) := by decide +kernel
theorem dX5_isTermSign_12 : decode cX5_isTermSign 12 = .ok (.aload_n 0, 1) := by decide +kernel
theorem dX5_isTermSign_13 : decode cX5_isTermSign 13 = .ok (.getfield 26, 3) := by decide +kernel
theorem dX5_isTermSign_16 : decode cX5_isTermSign 16 = .ok (.bipush 47, 2) := by decide +kernel
theorem dX5_isTermSign_18 : decode cX5_isTermSign 18 = .ok (.invokevirtual 150, 3) := by decide +kernel
theorem dX5_isTermSign_21 : decode cX5_isTermSign 21 = .ok (.ifCond .ne 15, 3) := by decide +kernel
theorem dX5_isTermSign_24 : decode cX5_isTermSign 24 = .ok (.aload_n 0, 1) := by decide +kernel
theorem dX5_isTermSign_25 : decode cX5_isTermSign 25 = .ok (.getfield 26, 3) := by decide +kernel
theorem dX5_isTermSign_28 : decode cX5_isTermSign 28 = .ok (.bipush 37, 2) := by decide +kernel
theorem dX5_isTermSign_30 : decode cX5_isTermSign 30 = .ok (.invokevirtual 150, 3) := by decide +kernel
theorem dX5_isTermSign_33 : decode cX5_isTermSign 33 = .ok (.ifCond .eq 7, 3) := by decide +kernel
theorem dX5_isTermSign_36 : decode cX5_isTermSign 36 = .ok (.iconst 1, 1) := by decide +kernel
theorem dX5_isTermSign_37 : decode cX5_isTermSign 37 = .ok (.goto 4, 3) := by decide +kernel
theorem dX5_isTermSign_40 : decode cX5_isTermSign 40 = .ok (.iconst 0, 1) := by decide +kernel
theorem dX5_isTermSign_41 : decode cX5_isTermSign 41 = .ok (.ireturn, 1) := by decide +kernel
theorem dX5_readFactor_0 : decode cX5_readFactor 0 = .ok (.aload_n 0, 1) := by decide +kernel
theorem dX5_readFactor_1 : decode cX5_readFactor 1 = .ok (.getfield 26, 3) := by decide +kernel
theorem dX5_readFactor_4 : decode cX5_readFactor 4 = .ok (.bipush 91, 2) := by decide +kernel
theorem dX5_readFactor_6 : decode cX5_readFactor 6 = .ok (.invokevirtual 150, 3) := by decide +kernel
theorem dX5_readFactor_9 : decode cX5_readFactor 9 = .ok (.ifCond .eq 43, 3) := by decide +kernel
theorem dX5_readFactor_12 : decode cX5_readFactor 12 = .ok (.iload_n 1, 1) := by decide +kernel
theorem dX5_readFactor_13 : decode cX5_readFactor 13 = .ok (.bipush 8, 2) := by decide +kernel
theorem dX5_readFactor_15 : decode cX5_readFactor 15 = .ok (.if_icmp .ge 35, 3) := by decide +kernel
theorem dX5_readFactor_18 : decode cX5_readFactor 18 = .ok (.aload_n 0, 1) := by decide +kernel
theorem dX5_readFactor_19 : decode cX5_readFactor 19 = .ok (.bipush 91, 2) := by decide +kernel
theorem dX5_readFactor_21 : decode cX5_readFactor 21 = .ok (.invokevirtual 48, 3) := by decide +kernel
theorem dX5_readFactor_24 : decode cX5_readFactor 24 = .ok (.ifCond .eq 26, 3) := by decide +kernel
theorem dX5_readFactor_27 : decode cX5_readFactor 27 = .ok (.aload_n 0, 1) := by decide +kernel
theorem dX5_readFactor_28 : decode cX5_readFactor 28 = .ok (.iload_n 1, 1) := by decide +kernel
theorem dX5_readFactor_29 : decode cX5_readFactor 29 = .ok (.iconst 1, 1) := by decide +kernel
theorem dX5_readFactor_30 : decode cX5_readFactor 30 = .ok (.iadd, 1) := by decide +kernel
theorem dX5_readFactor_31 : decode cX5_readFactor 31 = .ok (.invokevirtual 66, 3) := by decide +kernel
theorem dX5_readFactor_34 : decode cX5_readFactor 34 = .ok (.ifCond .eq 16, 3) := by decide +kernel
theorem dX5_readFactor_37 : decode cX5_readFactor 37 = .ok (.aload_n 0, 1) := by decide +kernel
theorem dX5_readFactor_38 : decode cX5_readFactor 38 = .ok (.bipush 93, 2) := by decide +kernel
theorem dX5_readFactor_40 : decode cX5_readFactor 40 = .ok (.invokevirtual 48, 3) := by decide +kernel
theorem dX5_readFactor_43 : decode cX5_readFactor 43 = .ok (.ifCond .eq 7, 3) := by decide +kernel
theorem dX5_readFactor_46 : decode cX5_readFactor 46 = .ok (.iconst 1, 1) := by decide +kernel
theorem dX5_readFactor_47 : decode cX5_readFactor 47 = .ok (.goto 4, 3) := by decide +kernel
theorem dX5_readFactor_50 : decode cX5_readFactor 50 = .ok (.iconst 0, 1) := by decide +kernel
theorem dX5_readFactor_51 : decode cX5_readFactor 51 = .ok (.ireturn, 1) := by decide +kernel
theorem dX5_readFactor_52 : decode cX5_readFactor 52 = .ok (.aload_n 0, 1) := by decide +kernel
theorem dX5_readFactor_53 : decode cX5_readFactor 53 = .ok (.getfield 22, 3) := by decide +kernel
theorem dX5_readFactor_56 : decode cX5_readFactor 56 = .ok (.bipush 50, 2) := by decide +kernel
theorem dX5_readFactor_58 : decode cX5_readFactor 58 = .ok (.if_icmp .lt 5, 3) := by decide +kernel
theorem dX5_readFactor_61 : decode cX5_readFactor 61 = .ok (.iconst 0, 1) := by decide +kernel
theorem dX5_readFactor_62 : decode cX5_readFactor 62 = .ok (.ireturn, 1) := by decide +kernel
theorem dX5_readFactor_63 : decode cX5_readFactor 63 = .ok (.aload_n 0, 1) := by decide +kernel
theorem dX5_readFactor_64 : decode cX5_readFactor 64 = .ok (.dup, 1) := by decide +kernel
theorem dX5_readFactor_65 : decode cX5_readFactor 65 = .ok (.getfield 22, 3) := by decide +kernel
theorem dX5_readFactor_68 : decode cX5_readFactor 68 = .ok (.iconst 1, 1) := by decide +kernel
theorem dX5_readFactor_69 : decode cX5_readFactor 69 = .ok (.iadd, 1) := by decide +kernel
theorem dX5_readFactor_70 : decode cX5_readFactor 70 = .ok (.putfield 22, 3) := by decide +kernel
theorem dX5_readFactor_73 : decode cX5_readFactor 73 = .ok (.aload_n 0, 1) := by decide +kernel
theorem dX5_readFactor_74 : decode cX5_readFactor 74 = .ok (.getfield 26, 3) := by decide +kernel
theorem dX5_readFactor_77 : decode cX5_readFactor 77 = .ok (.iconst 0, 1) := by decide +kernel
theorem dX5_readFactor_78 : decode cX5_readFactor 78 = .ok (.sipush 1000, 3) := by decide +kernel
theorem dX5_readFactor_81 : decode cX5_readFactor 81 = .ok (.invokevirtual 116, 3) := by decide +kernel
theorem dX5_readFactor_84 : decode cX5_readFactor 84 = .ok (.ifCond .eq 28, 3) := by decide +kernel
theorem dX5_readFactor_87 : decode cX5_readFactor 87 = .ok (.aload_n 0, 1) := by decide +kernel
theorem dX5_readFactor_88 : decode cX5_readFactor 88 = .ok (.getfield 12, 3) := by decide +kernel
theorem dX5_readFactor_91 : decode cX5_readFactor 91 = .ok (.iconst 0, 1) := by decide +kernel
theorem dX5_readFactor_92 : decode cX5_readFactor 92 = .ok (.aload_n 0, 1) := by decide +kernel
theorem dX5_readFactor_93 : decode cX5_readFactor 93 = .ok (.getfield 26, 3) := by decide +kernel
theorem dX5_readFactor_96 : decode cX5_readFactor 96 = .ok (.getfield 120, 3) := by decide +kernel
theorem dX5_readFactor_99 : decode cX5_readFactor 99 = .ok (.invokevirtual 136, 3) := by decide +kernel
theorem dX5_readFactor_102 : decode cX5_readFactor 102 = .ok (.pop, 1) := by decide +kernel
theorem dX5_readFactor_103 : decode cX5_readFactor 103 = .ok (.aload_n 0, 1) := by decide +kernel
theorem dX5_readFactor_104 : decode cX5_readFactor 104 = .ok (.getfield 26, 3) := by decide +kernel
theorem dX5_readFactor_107 : decode cX5_readFactor 107 = .ok (.invokevirtual 63, 3) := by decide +kernel
theorem dX5_readFactor_110 : decode cX5_readFactor 110 = .ok (.iconst 1, 1) := by decide +kernel
theorem dX5_readFactor_111 : decode cX5_readFactor 111 = .ok (.ireturn, 1) := by decide +kernel
theorem dX5_readFactor_112 : decode cX5_readFactor 112 = .ok (.aload_n 0, 1) := by decide +kernel
theorem dX5_readFactor_113 : decode cX5_readFactor 113 = .ok (.getfield 18, 3) := by decide +kernel
theorem dX5_readFactor_116 : decode cX5_readFactor 116 = .ok (.ifCond .eq 10, 3) := by decide +kernel
theorem dX5_readFactor_119 : decode cX5_readFactor 119 = .ok (.aload_n 0, 1) := by decide +kernel
theorem dX5_readFactor_120 : decode cX5_readFactor 120 = .ok (.invokevirtual 168, 3) := by decide +kernel
theorem dX5_readFactor_123 : decode cX5_readFactor 123 = .ok (.goto 7, 3) := by decide +kernel
theorem dX5_readFactor_126 : decode cX5_readFactor 126 = .ok (.aload_n 0, 1) := by decide +kernel
theorem dX5_readFactor_127 : decode cX5_readFactor 127 = .ok (.invokevirtual 171, 3) := by decide +kernel
theorem dX5_readFactor_130 : decode cX5_readFactor 130 = .ok (.istore_n 2, 1) := by decide +kernel
theorem dX5_readFactor_131 : decode cX5_readFactor 131 = .ok (.iload_n 2, 1) := by decide +kernel
theorem dX5_readFactor_132 : decode cX5_readFactor 132 = .ok (.iconst (-1), 1) := by decide +kernel
theorem dX5_readFactor_133 : decode cX5_readFactor 133 = .ok (.if_icmp .ne 5, 3) := by decide +kernel
theorem dX5_readFactor_136 : decode cX5_readFactor 136 = .ok (.iconst 0, 1) := by decide +kernel
theorem dX5_readFactor_137 : decode cX5_readFactor 137 = .ok (.ireturn, 1) := by decide +kernel
theorem dX5_readFactor_138 : decode cX5_readFactor 138 = .ok (.aload_n 0, 1) := by decide +kernel
theorem dX5_readFactor_139 : decode cX5_readFactor 139 = .ok (.getfield 26, 3) := by decide +kernel
theorem dX5_readFactor_142 : decode cX5_readFactor 142 = .ok (.invokevirtual 63, 3) := by decide +kernel
theorem dX5_readFactor_145 : decode cX5_readFactor 145 = .ok (.aload_n 0, 1) := by decide +kernel
theorem dX5_readFactor_146 : decode cX5_readFactor 146 = .ok (.getfield 18, 3) := by decide +kernel
theorem dX5_readFactor_149 : decode cX5_readFactor 149 = .ok (.ifCond .ne 8, 3) := by decide +kernel
theorem dX5_readFactor_152 : decode cX5_readFactor 152 = .ok (.iload_n 2, 1) := by decide +kernel
theorem dX5_readFactor_153 : decode cX5_readFactor 153 = .ok (.iconst 4, 1) := by decide +kernel
theorem dX5_readFactor_154 : decode cX5_readFactor 154 = .ok (.if_icmp .ge 11, 3) := by decide +kernel
theorem dX5_readFactor_157 : decode cX5_readFactor 157 = .ok (.aload_n 0, 1) := by decide +kernel
theorem dX5_readFactor_158 : decode cX5_readFactor 158 = .ok (.iload_n 2, 1) := by decide +kernel
theorem dX5_readFactor_159 : decode cX5_readFactor 159 = .ok (.invokevirtual 174, 3) := by decide +kernel
theorem dX5_readFactor_162 : decode cX5_readFactor 162 = .ok (.goto 8, 3) := by decide +kernel
theorem dX5_readFactor_165 : decode cX5_readFactor 165 = .ok (.aload_n 0, 1) := by decide +kernel
theorem dX5_readFactor_166 : decode cX5_readFactor 166 = .ok (.iload_n 2, 1) := by decide +kernel
theorem dX5_readFactor_167 : decode cX5_readFactor 167 = .ok (.invokevirtual 177, 3) := by decide +kernel
theorem dX5_readFactor_170 : decode cX5_readFactor 170 = .ok (.ireturn, 1) := by decide +kernel
theorem dX5_addWord_0 : decode cX5_addWord 0 = .ok (.aload_n 0, 1) := by decide +kernel
theorem dX5_addWord_1 : decode cX5_addWord 1 = .ok (.getfield 12, 3) := by decide +kernel
theorem dX5_addWord_4 : decode cX5_addWord 4 = .ok (.iconst 1, 1) := by decide +kernel
theorem dX5_addWord_5 : decode cX5_addWord 5 = .ok (.iload_n 1, 1) := by decide +kernel
theorem dX5_addWord_6 : decode cX5_addWord 6 = .ok (.invokevirtual 136, 3) := by decide +kernel
theorem dX5_addWord_9 : decode cX5_addWord 9 = .ok (.pop, 1) := by decide +kernel
theorem dX5_addWord_10 : decode cX5_addWord 10 = .ok (.iconst 1, 1) := by decide +kernel
theorem dX5_addWord_11 : decode cX5_addWord 11 = .ok (.ireturn, 1) := by decide +kernel
theorem dX5_readWhose_0 : decode cX5_readWhose 0 = .ok (.iload_n 1, 1) := by decide +kernel
theorem dX5_readWhose_1 : decode cX5_readWhose 1 = .ok (.bipush 20, 2) := by decide +kernel
theorem dX5_readWhose_3 : decode cX5_readWhose 3 = .ok (.if_icmp .ne 7, 3) := by decide +kernel
theorem dX5_readWhose_6 : decode cX5_readWhose 6 = .ok (.iconst 5, 1) := by decide +kernel
theorem dX5_readWhose_7 : decode cX5_readWhose 7 = .ok (.goto 5, 3) := by decide +kernel
theorem dX5_readWhose_10 : decode cX5_readWhose 10 = .ok (.bipush 7, 2) := by decide +kernel
theorem dX5_readWhose_12 : decode cX5_readWhose 12 = .ok (.istore_n 2, 1) := by decide +kernel
theorem dX5_readWhose_13 : decode cX5_readWhose 13 = .ok (.aload_n 0, 1) := by decide +kernel
theorem dX5_readWhose_14 : decode cX5_readWhose 14 = .ok (.getfield 26, 3) := by decide +kernel
theorem dX5_readWhose_17 : decode cX5_readWhose 17 = .ok (.iconst 0, 1) := by decide +kernel
theorem dX5_readWhose_18 : decode cX5_readWhose 18 = .ok (.iload_n 2, 1) := by decide +kernel
theorem dX5_readWhose_19 : decode cX5_readWhose 19 = .ok (.invokevirtual 116, 3) := by decide +kernel
theorem dX5_readWhose_22 : decode cX5_readWhose 22 = .ok (.ifCond .ne 5, 3) := by decide +kernel
theorem dX5_readWhose_25 : decode cX5_readWhose 25 = .ok (.iconst 0, 1) := by decide +kernel
theorem dX5_readWhose_26 : decode cX5_readWhose 26 = .ok (.ireturn, 1) := by decide +kernel
theorem dX5_readWhose_27 : decode cX5_readWhose 27 = .ok (.aload_n 0, 1) := by decide +kernel
theorem dX5_readWhose_28 : decode cX5_readWhose 28 = .ok (.getfield 12, 3) := by decide +kernel
theorem dX5_readWhose_31 : decode cX5_readWhose 31 = .ok (.iconst 1, 1) := by decide +kernel
theorem dX5_readWhose_32 : decode cX5_readWhose 32 = .ok (.iload_n 1, 1) := by decide +kernel
theorem dX5_readWhose_33 : decode cX5_readWhose 33 = .ok (.aload_n 0, 1) := by decide +kernel
theorem dX5_readWhose_34 : decode cX5_readWhose 34 = .ok (.getfield 26, 3) := by decide +kernel
theorem dX5_readWhose_37 : decode cX5_readWhose 37 = .ok (.getfield 120, 3) := by decide +kernel
theorem dX5_readWhose_40 : decode cX5_readWhose 40 = .ok (.iadd, 1) := by decide +kernel
theorem dX5_readWhose_41 : decode cX5_readWhose 41 = .ok (.invokevirtual 136, 3) := by decide +kernel
theorem dX5_readWhose_44 : decode cX5_readWhose 44 = .ok (.pop, 1) := by decide +kernel
theorem dX5_readWhose_45 : decode cX5_readWhose 45 = .ok (.aload_n 0, 1) := by decide +kernel
theorem dX5_readWhose_46 : decode cX5_readWhose 46 = .ok (.getfield 26, 3) := by decide +kernel
theorem dX5_readWhose_49 : decode cX5_readWhose 49 = .ok (.invokevirtual 63, 3) := by decide +kernel
theorem dX5_readWhose_52 : decode cX5_readWhose 52 = .ok (.iconst 1, 1) := by decide +kernel
theorem dX5_readWhose_53 : decode cX5_readWhose 53 = .ok (.ireturn, 1) := by decide +kernel
theorem dX5_lawWord_0 : decode cX5_lawWord 0 = .ok (.aload_n 0, 1) := by decide +kernel
theorem dX5_lawWord_1 : decode cX5_lawWord 1 = .ok (.getfield 26, 3) := by decide +kernel
theorem dX5_lawWord_4 : decode cX5_lawWord 4 = .ok (.ldc 180, 2) := by decide +kernel
theorem dX5_lawWord_6 : decode cX5_lawWord 6 = .ok (.invokevirtual 75, 3) := by decide +kernel
theorem dX5_lawWord_9 : decode cX5_lawWord 9 = .ok (.ifCond .eq 5, 3) := by decide +kernel
theorem dX5_lawWord_12 : decode cX5_lawWord 12 = .ok (.iconst 0, 1) := by decide +kernel
theorem dX5_lawWord_13 : decode cX5_lawWord 13 = .ok (.ireturn, 1) := by decide +kernel
theorem dX5_lawWord_14 : decode cX5_lawWord 14 = .ok (.aload_n 0, 1) := by decide +kernel
theorem dX5_lawWord_15 : decode cX5_lawWord 15 = .ok (.getfield 26, 3) := by decide +kernel
theorem dX5_lawWord_18 : decode cX5_lawWord 18 = .ok (.ldc 182, 2) := by decide +kernel
theorem dX5_lawWord_20 : decode cX5_lawWord 20 = .ok (.invokevirtual 75, 3) := by decide +kernel
theorem dX5_lawWord_23 : decode cX5_lawWord 23 = .ok (.ifCond .eq 5, 3) := by decide +kernel
theorem dX5_lawWord_26 : decode cX5_lawWord 26 = .ok (.iconst 1, 1) := by decide +kernel
theorem dX5_lawWord_27 : decode cX5_lawWord 27 = .ok (.ireturn, 1) := by decide +kernel
theorem dX5_lawWord_28 : decode cX5_lawWord 28 = .ok (.aload_n 0, 1) := by decide +kernel
theorem dX5_lawWord_29 : decode cX5_lawWord 29 = .ok (.getfield 26, 3) := by decide +kernel
theorem dX5_lawWord_32 : decode cX5_lawWord 32 = .ok (.ldc 184, 2) := by decide +kernel
theorem dX5_lawWord_34 : decode cX5_lawWord 34 = .ok (.invokevirtual 75, 3) := by decide +kernel
theorem dX5_lawWord_37 : decode cX5_lawWord 37 = .ok (.ifCond .eq 5, 3) := by decide +kernel
theorem dX5_lawWord_40 : decode cX5_lawWord 40 = .ok (.iconst 2, 1) := by decide +kernel
theorem dX5_lawWord_41 : decode cX5_lawWord 41 = .ok (.ireturn, 1) := by decide +kernel
theorem dX5_lawWord_42 : decode cX5_lawWord 42 = .ok (.aload_n 0, 1) := by decide +kernel
theorem dX5_lawWord_43 : decode cX5_lawWord 43 = .ok (.getfield 26, 3) := by decide +kernel
theorem dX5_lawWord_46 : decode cX5_lawWord 46 = .ok (.ldc 186, 2) := by decide +kernel
theorem dX5_lawWord_48 : decode cX5_lawWord 48 = .ok (.invokevirtual 75, 3) := by decide +kernel
theorem dX5_lawWord_51 : decode cX5_lawWord 51 = .ok (.ifCond .eq 5, 3) := by decide +kernel
theorem dX5_lawWord_54 : decode cX5_lawWord 54 = .ok (.iconst 3, 1) := by decide +kernel
theorem dX5_lawWord_55 : decode cX5_lawWord 55 = .ok (.ireturn, 1) := by decide +kernel
theorem dX5_lawWord_56 : decode cX5_lawWord 56 = .ok (.aload_n 0, 1) := by decide +kernel
theorem dX5_lawWord_57 : decode cX5_lawWord 57 = .ok (.getfield 26, 3) := by decide +kernel
theorem dX5_lawWord_60 : decode cX5_lawWord 60 = .ok (.ldc 188, 2) := by decide +kernel
theorem dX5_lawWord_62 : decode cX5_lawWord 62 = .ok (.invokevirtual 75, 3) := by decide +kernel
theorem dX5_lawWord_65 : decode cX5_lawWord 65 = .ok (.ifCond .eq 5, 3) := by decide +kernel
theorem dX5_lawWord_68 : decode cX5_lawWord 68 = .ok (.iconst 4, 1) := by decide +kernel
theorem dX5_lawWord_69 : decode cX5_lawWord 69 = .ok (.ireturn, 1) := by decide +kernel
theorem dX5_lawWord_70 : decode cX5_lawWord 70 = .ok (.aload_n 0, 1) := by decide +kernel
theorem dX5_lawWord_71 : decode cX5_lawWord 71 = .ok (.getfield 26, 3) := by decide +kernel
theorem dX5_lawWord_74 : decode cX5_lawWord 74 = .ok (.ldc 190, 2) := by decide +kernel
theorem dX5_lawWord_76 : decode cX5_lawWord 76 = .ok (.invokevirtual 75, 3) := by decide +kernel
theorem dX5_lawWord_79 : decode cX5_lawWord 79 = .ok (.ifCond .eq 5, 3) := by decide +kernel
theorem dX5_lawWord_82 : decode cX5_lawWord 82 = .ok (.iconst 5, 1) := by decide +kernel
theorem dX5_lawWord_83 : decode cX5_lawWord 83 = .ok (.ireturn, 1) := by decide +kernel
theorem dX5_lawWord_84 : decode cX5_lawWord 84 = .ok (.aload_n 0, 1) := by decide +kernel
theorem dX5_lawWord_85 : decode cX5_lawWord 85 = .ok (.getfield 26, 3) := by decide +kernel
theorem dX5_lawWord_88 : decode cX5_lawWord 88 = .ok (.ldc 192, 2) := by decide +kernel
theorem dX5_lawWord_90 : decode cX5_lawWord 90 = .ok (.invokevirtual 75, 3) := by decide +kernel
theorem dX5_lawWord_93 : decode cX5_lawWord 93 = .ok (.ifCond .eq 6, 3) := by decide +kernel
theorem dX5_lawWord_96 : decode cX5_lawWord 96 = .ok (.bipush 6, 2) := by decide +kernel
theorem dX5_lawWord_98 : decode cX5_lawWord 98 = .ok (.ireturn, 1) := by decide +kernel
theorem dX5_lawWord_99 : decode cX5_lawWord 99 = .ok (.aload_n 0, 1) := by decide +kernel
theorem dX5_lawWord_100 : decode cX5_lawWord 100 = .ok (.getfield 26, 3) := by decide +kernel
theorem dX5_lawWord_103 : decode cX5_lawWord 103 = .ok (.ldc 103, 2) := by decide +kernel
theorem dX5_lawWord_105 : decode cX5_lawWord 105 = .ok (.invokevirtual 75, 3) := by decide +kernel
theorem dX5_lawWord_108 : decode cX5_lawWord 108 = .ok (.ifCond .eq 6, 3) := by decide +kernel
theorem dX5_lawWord_111 : decode cX5_lawWord 111 = .ok (.bipush 7, 2) := by decide +kernel
theorem dX5_lawWord_113 : decode cX5_lawWord 113 = .ok (.ireturn, 1) := by decide +kernel
theorem dX5_lawWord_114 : decode cX5_lawWord 114 = .ok (.aload_n 0, 1) := by decide +kernel
theorem dX5_lawWord_115 : decode cX5_lawWord 115 = .ok (.getfield 26, 3) := by decide +kernel
theorem dX5_lawWord_118 : decode cX5_lawWord 118 = .ok (.ldc 194, 2) := by decide +kernel
theorem dX5_lawWord_120 : decode cX5_lawWord 120 = .ok (.invokevirtual 75, 3) := by decide +kernel
theorem dX5_lawWord_123 : decode cX5_lawWord 123 = .ok (.ifCond .eq 8, 3) := by decide +kernel
theorem dX5_lawWord_126 : decode cX5_lawWord 126 = .ok (.bipush 8, 2) := by decide +kernel
theorem dX5_lawWord_128 : decode cX5_lawWord 128 = .ok (.goto 4, 3) := by decide +kernel
theorem dX5_lawWord_131 : decode cX5_lawWord 131 = .ok (.iconst (-1), 1) := by decide +kernel
theorem dX5_lawWord_132 : decode cX5_lawWord 132 = .ok (.ireturn, 1) := by decide +kernel
theorem dX5_orderWord_0 : decode cX5_orderWord 0 = .ok (.aload_n 0, 1) := by decide +kernel
theorem dX5_orderWord_1 : decode cX5_orderWord 1 = .ok (.getfield 26, 3) := by decide +kernel
theorem dX5_orderWord_4 : decode cX5_orderWord 4 = .ok (.ldc 192, 2) := by decide +kernel
theorem dX5_orderWord_6 : decode cX5_orderWord 6 = .ok (.invokevirtual 75, 3) := by decide +kernel
theorem dX5_orderWord_9 : decode cX5_orderWord 9 = .ok (.ifCond .eq 5, 3) := by decide +kernel
theorem dX5_orderWord_12 : decode cX5_orderWord 12 = .ok (.iconst 0, 1) := by decide +kernel
theorem dX5_orderWord_13 : decode cX5_orderWord 13 = .ok (.ireturn, 1) := by decide +kernel
theorem dX5_orderWord_14 : decode cX5_orderWord 14 = .ok (.aload_n 0, 1) := by decide +kernel
theorem dX5_orderWord_15 : decode cX5_orderWord 15 = .ok (.getfield 26, 3) := by decide +kernel
theorem dX5_orderWord_18 : decode cX5_orderWord 18 = .ok (.ldc 196, 2) := by decide +kernel
theorem dX5_orderWord_20 : decode cX5_orderWord 20 = .ok (.invokevirtual 75, 3) := by decide +kernel
theorem dX5_orderWord_23 : decode cX5_orderWord 23 = .ok (.ifCond .eq 5, 3) := by decide +kernel
theorem dX5_orderWord_26 : decode cX5_orderWord 26 = .ok (.iconst 1, 1) := by decide +kernel
theorem dX5_orderWord_27 : decode cX5_orderWord 27 = .ok (.ireturn, 1) := by decide +kernel
theorem dX5_orderWord_28 : decode cX5_orderWord 28 = .ok (.aload_n 0, 1) := by decide +kernel
theorem dX5_orderWord_29 : decode cX5_orderWord 29 = .ok (.getfield 26, 3) := by decide +kernel
theorem dX5_orderWord_32 : decode cX5_orderWord 32 = .ok (.ldc 198, 2) := by decide +kernel
theorem dX5_orderWord_34 : decode cX5_orderWord 34 = .ok (.invokevirtual 75, 3) := by decide +kernel
theorem dX5_orderWord_37 : decode cX5_orderWord 37 = .ok (.ifCond .eq 5, 3) := by decide +kernel
theorem dX5_orderWord_40 : decode cX5_orderWord 40 = .ok (.iconst 2, 1) := by decide +kernel
theorem dX5_orderWord_41 : decode cX5_orderWord 41 = .ok (.ireturn, 1) := by decide +kernel
theorem dX5_orderWord_42 : decode cX5_orderWord 42 = .ok (.aload_n 0, 1) := by decide +kernel
theorem dX5_orderWord_43 : decode cX5_orderWord 43 = .ok (.getfield 26, 3) := by decide +kernel
theorem dX5_orderWord_46 : decode cX5_orderWord 46 = .ok (.ldc 200, 2) := by decide +kernel
theorem dX5_orderWord_48 : decode cX5_orderWord 48 = .ok (.invokevirtual 75, 3) := by decide +kernel
theorem dX5_orderWord_51 : decode cX5_orderWord 51 = .ok (.ifCond .eq 5, 3) := by decide +kernel
theorem dX5_orderWord_54 : decode cX5_orderWord 54 = .ok (.iconst 3, 1) := by decide +kernel
theorem dX5_orderWord_55 : decode cX5_orderWord 55 = .ok (.ireturn, 1) := by decide +kernel
theorem dX5_orderWord_56 : decode cX5_orderWord 56 = .ok (.aload_n 0, 1) := by decide +kernel
theorem dX5_orderWord_57 : decode cX5_orderWord 57 = .ok (.getfield 26, 3) := by decide +kernel
theorem dX5_orderWord_60 : decode cX5_orderWord 60 = .ok (.ldc 184, 2) := by decide +kernel
theorem dX5_orderWord_62 : decode cX5_orderWord 62 = .ok (.invokevirtual 75, 3) := by decide +kernel
theorem dX5_orderWord_65 : decode cX5_orderWord 65 = .ok (.ifCond .eq 5, 3) := by decide +kernel
theorem dX5_orderWord_68 : decode cX5_orderWord 68 = .ok (.iconst 4, 1) := by decide +kernel
theorem dX5_orderWord_69 : decode cX5_orderWord 69 = .ok (.ireturn, 1) := by decide +kernel
theorem dX5_orderWord_70 : decode cX5_orderWord 70 = .ok (.aload_n 0, 1) := by decide +kernel
theorem dX5_orderWord_71 : decode cX5_orderWord 71 = .ok (.getfield 26, 3) := by decide +kernel
theorem dX5_orderWord_74 : decode cX5_orderWord 74 = .ok (.ldc 190, 2) := by decide +kernel
theorem dX5_orderWord_76 : decode cX5_orderWord 76 = .ok (.invokevirtual 75, 3) := by decide +kernel
theorem dX5_orderWord_79 : decode cX5_orderWord 79 = .ok (.ifCond .eq 6, 3) := by decide +kernel
theorem dX5_orderWord_82 : decode cX5_orderWord 82 = .ok (.bipush 12, 2) := by decide +kernel
theorem dX5_orderWord_84 : decode cX5_orderWord 84 = .ok (.ireturn, 1) := by decide +kernel
theorem dX5_orderWord_85 : decode cX5_orderWord 85 = .ok (.aload_n 0, 1) := by decide +kernel
theorem dX5_orderWord_86 : decode cX5_orderWord 86 = .ok (.getfield 26, 3) := by decide +kernel
theorem dX5_orderWord_89 : decode cX5_orderWord 89 = .ok (.ldc 188, 2) := by decide +kernel
theorem dX5_orderWord_91 : decode cX5_orderWord 91 = .ok (.invokevirtual 75, 3) := by decide +kernel
theorem dX5_orderWord_94 : decode cX5_orderWord 94 = .ok (.ifCond .eq 8, 3) := by decide +kernel
theorem dX5_orderWord_97 : decode cX5_orderWord 97 = .ok (.bipush 20, 2) := by decide +kernel
theorem dX5_orderWord_99 : decode cX5_orderWord 99 = .ok (.goto 4, 3) := by decide +kernel
theorem dX5_orderWord_102 : decode cX5_orderWord 102 = .ok (.iconst (-1), 1) := by decide +kernel
theorem dX5_orderWord_103 : decode cX5_orderWord 103 = .ok (.ireturn, 1) := by decide +kernel
theorem dX5_takeWord_0 : decode cX5_takeWord 0 = .ok (.aload_n 0, 1) := by decide +kernel
theorem dX5_takeWord_1 : decode cX5_takeWord 1 = .ok (.getfield 26, 3) := by decide +kernel
theorem dX5_takeWord_4 : decode cX5_takeWord 4 = .ok (.aload_n 1, 1) := by decide +kernel
theorem dX5_takeWord_5 : decode cX5_takeWord 5 = .ok (.invokevirtual 75, 3) := by decide +kernel
theorem dX5_takeWord_8 : decode cX5_takeWord 8 = .ok (.ifCond .ne 5, 3) := by decide +kernel
theorem dX5_takeWord_11 : decode cX5_takeWord 11 = .ok (.iconst 0, 1) := by decide +kernel
theorem dX5_takeWord_12 : decode cX5_takeWord 12 = .ok (.ireturn, 1) := by decide +kernel
theorem dX5_takeWord_13 : decode cX5_takeWord 13 = .ok (.aload_n 0, 1) := by decide +kernel
theorem dX5_takeWord_14 : decode cX5_takeWord 14 = .ok (.getfield 26, 3) := by decide +kernel
theorem dX5_takeWord_17 : decode cX5_takeWord 17 = .ok (.invokevirtual 63, 3) := by decide +kernel
theorem dX5_takeWord_20 : decode cX5_takeWord 20 = .ok (.iconst 1, 1) := by decide +kernel
theorem dX5_takeWord_21 : decode cX5_takeWord 21 = .ok (.ireturn, 1) := by decide +kernel
theorem dX5_takeSign_0 : decode cX5_takeSign 0 = .ok (.aload_n 0, 1) := by decide +kernel
theorem dX5_takeSign_1 : decode cX5_takeSign 1 = .ok (.getfield 26, 3) := by decide +kernel
theorem dX5_takeSign_4 : decode cX5_takeSign 4 = .ok (.iload_n 1, 1) := by decide +kernel
theorem dX5_takeSign_5 : decode cX5_takeSign 5 = .ok (.invokevirtual 150, 3) := by decide +kernel
theorem dX5_takeSign_8 : decode cX5_takeSign 8 = .ok (.ifCond .ne 5, 3) := by decide +kernel
theorem dX5_takeSign_11 : decode cX5_takeSign 11 = .ok (.iconst 0, 1) := by decide +kernel
theorem dX5_takeSign_12 : decode cX5_takeSign 12 = .ok (.ireturn, 1) := by decide +kernel
theorem dX5_takeSign_13 : decode cX5_takeSign 13 = .ok (.aload_n 0, 1) := by decide +kernel
theorem dX5_takeSign_14 : decode cX5_takeSign 14 = .ok (.getfield 26, 3) := by decide +kernel
theorem dX5_takeSign_17 : decode cX5_takeSign 17 = .ok (.invokevirtual 63, 3) := by decide +kernel
theorem dX5_takeSign_20 : decode cX5_takeSign 20 = .ok (.iconst 1, 1) := by decide +kernel
theorem dX5_takeSign_21 : decode cX5_takeSign 21 = .ok (.ireturn, 1) := by decide +kernel
theorem dX6_init_0 : decode cX6_init 0 = .ok (.aload_n 0, 1) := by decide +kernel
theorem dX6_init_1 : decode cX6_init 1 = .ok (.invokespecial 3, 3) := by decide +kernel
theorem dX6_init_4 : decode cX6_init 4 = .ok (.aload_n 0, 1) := by decide +kernel
theorem dX6_init_5 : decode cX6_init 5 = .ok (.bipush 52, 2) := by decide +kernel
theorem dX6_init_7 : decode cX6_init 7 = .ok (.newarray .int, 2) := by decide +kernel
theorem dX6_init_9 : decode cX6_init 9 = .ok (.putfield 9, 3) := by decide +kernel
theorem dX6_init_12 : decode cX6_init 12 = .ok (.return_, 1) := by decide +kernel
theorem dX6_weigh_0 : decode cX6_weigh 0 = .ok (.iload_n 2, 1) := by decide +kernel
theorem dX6_weigh_1 : decode cX6_weigh 1 = .ok (.ifCond .lt 20, 3) := by decide +kernel
theorem dX6_weigh_4 : decode cX6_weigh 4 = .ok (.iload_n 2, 1) := by decide +kernel
theorem dX6_weigh_5 : decode cX6_weigh 5 = .ok (.aload_n 1, 1) := by decide +kernel
theorem dX6_weigh_6 : decode cX6_weigh 6 = .ok (.getfield 15, 3) := by decide +kernel
theorem dX6_weigh_9 : decode cX6_weigh 9 = .ok (.if_icmp .ge 12, 3) := by decide +kernel
theorem dX6_weigh_12 : decode cX6_weigh 12 = .ok (.iload_n 3, 1) := by decide +kernel
theorem dX6_weigh_13 : decode cX6_weigh 13 = .ok (.ifCond .lt 8, 3) := by decide +kernel
theorem dX6_weigh_16 : decode cX6_weigh 16 = .ok (.iload_n 3, 1) := by decide +kernel
theorem dX6_weigh_17 : decode cX6_weigh 17 = .ok (.iconst 3, 1) := by decide +kernel
theorem dX6_weigh_18 : decode cX6_weigh 18 = .ok (.if_icmp .le 6, 3) := by decide +kernel
theorem dX6_weigh_21 : decode cX6_weigh 21 = .ok (.ldc 21, 2) := by decide +kernel
theorem dX6_weigh_23 : decode cX6_weigh 23 = .ok (.ireturn, 1) := by decide +kernel
theorem dX6_weigh_24 : decode cX6_weigh 24 = .ok (.aload_n 1, 1) := by decide +kernel
theorem dX6_weigh_25 : decode cX6_weigh 25 = .ok (.getfield 22, 3) := by decide +kernel
theorem dX6_weigh_28 : decode cX6_weigh 28 = .ok (.iload_n 2, 1) := by decide +kernel
theorem dX6_weigh_29 : decode cX6_weigh 29 = .ok (.iconst 5, 1) := by decide +kernel
theorem dX6_weigh_30 : decode cX6_weigh 30 = .ok (.imul, 1) := by decide +kernel
theorem dX6_weigh_31 : decode cX6_weigh 31 = .ok (.iload_n 3, 1) := by decide +kernel
theorem dX6_weigh_32 : decode cX6_weigh 32 = .ok (.iadd, 1) := by decide +kernel
theorem dX6_weigh_33 : decode cX6_weigh 33 = .ok (.iaload, 1) := by decide +kernel
theorem dX6_weigh_34 : decode cX6_weigh 34 = .ok (.istore 5, 2) := by decide +kernel
theorem dX6_weigh_36 : decode cX6_weigh 36 = .ok (.aload_n 1, 1) := by decide +kernel
theorem dX6_weigh_37 : decode cX6_weigh 37 = .ok (.getfield 22, 3) := by decide +kernel
theorem dX6_weigh_40 : decode cX6_weigh 40 = .ok (.iload_n 2, 1) := by decide +kernel
theorem dX6_weigh_41 : decode cX6_weigh 41 = .ok (.iconst 5, 1) := by decide +kernel
theorem dX6_weigh_42 : decode cX6_weigh 42 = .ok (.imul, 1) := by decide +kernel
theorem dX6_weigh_43 : decode cX6_weigh 43 = .ok (.iload_n 3, 1) := by decide +kernel
theorem dX6_weigh_44 : decode cX6_weigh 44 = .ok (.iadd, 1) := by decide +kernel
theorem dX6_weigh_45 : decode cX6_weigh 45 = .ok (.iconst 1, 1) := by decide +kernel
theorem dX6_weigh_46 : decode cX6_weigh 46 = .ok (.iadd, 1) := by decide +kernel
theorem dX6_weigh_47 : decode cX6_weigh 47 = .ok (.iaload, 1) := by decide +kernel
theorem dX6_weigh_48 : decode cX6_weigh 48 = .ok (.istore 6, 2) := by decide +kernel
theorem dX6_weigh_50 : decode cX6_weigh 50 = .ok (.iconst 0, 1) := by decide +kernel
theorem dX6_weigh_51 : decode cX6_weigh 51 = .ok (.istore 7, 2) := by decide +kernel
theorem dX6_weigh_53 : decode cX6_weigh 53 = .ok (.aload_n 0, 1) := by decide +kernel
theorem dX6_weigh_54 : decode cX6_weigh 54 = .ok (.getfield 9, 3) := by decide +kernel
theorem dX6_weigh_57 : decode cX6_weigh 57 = .ok (.iconst 0, 1) := by decide +kernel
theorem dX6_weigh_58 : decode cX6_weigh 58 = .ok (.iconst 1, 1) := by decide +kernel
theorem dX6_weigh_59 : decode cX6_weigh 59 = .ok (.iastore, 1) := by decide +kernel
theorem dX6_weigh_60 : decode cX6_weigh 60 = .ok (.iload 5, 2) := by decide +kernel
theorem dX6_weigh_62 : decode cX6_weigh 62 = .ok (.istore 8, 2) := by decide +kernel
theorem dX6_weigh_64 : decode cX6_weigh 64 = .ok (.iload 8, 2) := by decide +kernel
theorem dX6_weigh_66 : decode cX6_weigh 66 = .ok (.iload 6, 2) := by decide +kernel
theorem dX6_weigh_68 : decode cX6_weigh 68 = .ok (.if_icmp .ge 244, 3) := by decide +kernel
theorem dX6_weigh_71 : decode cX6_weigh 71 = .ok (.iload 8, 2) := by decide +kernel
theorem dX6_weigh_73 : decode cX6_weigh 73 = .ok (.aload_n 1, 1) := by decide +kernel
theorem dX6_weigh_74 : decode cX6_weigh 74 = .ok (.getfield 25, 3) := by decide +kernel
theorem dX6_weigh_77 : decode cX6_weigh 77 = .ok (.if_icmp .ge 235, 3) := by decide +kernel
theorem dX6_weigh_80 : decode cX6_weigh 80 = .ok (.aload_n 1, 1) := by decide +kernel
theorem dX6_weigh_81 : decode cX6_weigh 81 = .ok (.getfield 28, 3) := by decide +kernel
theorem dX6_weigh_84 : decode cX6_weigh 84 = .ok (.iload 8, 2) := by decide +kernel
theorem dX6_weigh_86 : decode cX6_weigh 86 = .ok (.iaload, 1) := by decide +kernel
theorem dX6_weigh_87 : decode cX6_weigh 87 = .ok (.sipush 2048, 3) := by decide +kernel
theorem dX6_weigh_90 : decode cX6_weigh 90 = .ok (.idiv, 1) := by decide +kernel
theorem dX6_weigh_91 : decode cX6_weigh 91 = .ok (.istore 9, 2) := by decide +kernel
theorem dX6_weigh_93 : decode cX6_weigh 93 = .ok (.aload_n 1, 1) := by decide +kernel
theorem dX6_weigh_94 : decode cX6_weigh 94 = .ok (.getfield 28, 3) := by decide +kernel
theorem dX6_weigh_97 : decode cX6_weigh 97 = .ok (.iload 8, 2) := by decide +kernel
theorem dX6_weigh_99 : decode cX6_weigh 99 = .ok (.iaload, 1) := by decide +kernel
theorem dX6_weigh_100 : decode cX6_weigh 100 = .ok (.sipush 2048, 3) := by decide +kernel
theorem dX6_weigh_103 : decode cX6_weigh 103 = .ok (.irem, 1) := by decide +kernel
theorem dX6_weigh_104 : decode cX6_weigh 104 = .ok (.istore 10, 2) := by decide +kernel
theorem dX6_weigh_106 : decode cX6_weigh 106 = .ok (.iload 9, 2) := by decide +kernel
theorem dX6_weigh_108 : decode cX6_weigh 108 = .ok (.iconst 1, 1) := by decide +kernel
theorem dX6_weigh_109 : decode cX6_weigh 109 = .ok (.if_icmp .gt 58, 3) := by decide +kernel
theorem dX6_weigh_112 : decode cX6_weigh 112 = .ok (.iinc 7 1, 3) := by decide +kernel
theorem dX6_weigh_115 : decode cX6_weigh 115 = .ok (.iload 7, 2) := by decide +kernel
theorem dX6_weigh_117 : decode cX6_weigh 117 = .ok (.aload_n 0, 1) := by decide +kernel
theorem dX6_weigh_118 : decode cX6_weigh 118 = .ok (.getfield 9, 3) := by decide +kernel
theorem dX6_weigh_121 : decode cX6_weigh 121 = .ok (.arraylength, 1) := by decide +kernel
theorem dX6_weigh_122 : decode cX6_weigh 122 = .ok (.if_icmp .ge 17, 3) := by decide +kernel
theorem dX6_weigh_125 : decode cX6_weigh 125 = .ok (.iload 9, 2) := by decide +kernel
theorem dX6_weigh_127 : decode cX6_weigh 127 = .ok (.iconst 1, 1) := by decide +kernel
theorem dX6_weigh_128 : decode cX6_weigh 128 = .ok (.if_icmp .ne 14, 3) := by decide +kernel
theorem dX6_weigh_131 : decode cX6_weigh 131 = .ok (.iload 10, 2) := by decide +kernel
theorem dX6_weigh_133 : decode cX6_weigh 133 = .ok (.aload 4, 2) := by decide +kernel
theorem dX6_weigh_135 : decode cX6_weigh 135 = .ok (.arraylength, 1) := by decide +kernel
theorem dX6_weigh_136 : decode cX6_weigh 136 = .ok (.if_icmp .lt 6, 3) := by decide +kernel
theorem dX6_weigh_139 : decode cX6_weigh 139 = .ok (.ldc 21, 2) := by decide +kernel
theorem dX6_weigh_141 : decode cX6_weigh 141 = .ok (.ireturn, 1) := by decide +kernel
theorem dX6_weigh_142 : decode cX6_weigh 142 = .ok (.aload_n 0, 1) := by decide +kernel
theorem dX6_weigh_143 : decode cX6_weigh 143 = .ok (.getfield 9, 3) := by decide +kernel
theorem dX6_weigh_146 : decode cX6_weigh 146 = .ok (.iload 7, 2) := by decide +kernel
theorem dX6_weigh_148 : decode cX6_weigh 148 = .ok (.iload 9, 2) := by decide +kernel
theorem dX6_weigh_150 : decode cX6_weigh 150 = .ok (.ifCond .ne 8, 3) := by decide +kernel
theorem dX6_weigh_153 : decode cX6_weigh 153 = .ok (.iload 10, 2) := by decide +kernel
theorem dX6_weigh_155 : decode cX6_weigh 155 = .ok (.goto 8, 3) := by decide +kernel
theorem dX6_weigh_158 : decode cX6_weigh 158 = .ok (.aload 4, 2) := by decide +kernel
theorem dX6_weigh_160 : decode cX6_weigh 160 = .ok (.iload 10, 2) := by decide +kernel
theorem dX6_weigh_162 : decode cX6_weigh 162 = .ok (.iaload, 1) := by decide +kernel
theorem dX6_weigh_163 : decode cX6_weigh 163 = .ok (.iastore, 1) := by decide +kernel
theorem dX6_weigh_164 : decode cX6_weigh 164 = .ok (.goto 142, 3) := by decide +kernel
theorem dX6_weigh_167 : decode cX6_weigh 167 = .ok (.iload 9, 2) := by decide +kernel
theorem dX6_weigh_169 : decode cX6_weigh 169 = .ok (.bipush 10, 2) := by decide +kernel
theorem dX6_weigh_171 : decode cX6_weigh 171 = .ok (.if_icmp .ne 22, 3) := by decide +kernel
theorem dX6_weigh_174 : decode cX6_weigh 174 = .ok (.aload_n 0, 1) := by decide +kernel
theorem dX6_weigh_175 : decode cX6_weigh 175 = .ok (.getfield 9, 3) := by decide +kernel
theorem dX6_weigh_178 : decode cX6_weigh 178 = .ok (.iload 7, 2) := by decide +kernel
theorem dX6_weigh_180 : decode cX6_weigh 180 = .ok (.iconst 1, 1) := by decide +kernel
theorem dX6_weigh_181 : decode cX6_weigh 181 = .ok (.aload_n 0, 1) := by decide +kernel
theorem dX6_weigh_182 : decode cX6_weigh 182 = .ok (.getfield 9, 3) := by decide +kernel
theorem dX6_weigh_185 : decode cX6_weigh 185 = .ok (.iload 7, 2) := by decide +kernel
theorem dX6_weigh_187 : decode cX6_weigh 187 = .ok (.iaload, 1) := by decide +kernel
theorem dX6_weigh_188 : decode cX6_weigh 188 = .ok (.isub, 1) := by decide +kernel
theorem dX6_weigh_189 : decode cX6_weigh 189 = .ok (.iastore, 1) := by decide +kernel
theorem dX6_weigh_190 : decode cX6_weigh 190 = .ok (.goto 116, 3) := by decide +kernel
theorem dX6_weigh_193 : decode cX6_weigh 193 = .ok (.iload 9, 2) := by decide +kernel
theorem dX6_weigh_195 : decode cX6_weigh 195 = .ok (.bipush 11, 2) := by decide +kernel
theorem dX6_weigh_197 : decode cX6_weigh 197 = .ok (.if_icmp .lt 56, 3) := by decide +kernel
theorem dX6_weigh_200 : decode cX6_weigh 200 = .ok (.iload 9, 2) := by decide +kernel
theorem dX6_weigh_202 : decode cX6_weigh 202 = .ok (.bipush 11, 2) := by decide +kernel
theorem dX6_weigh_204 : decode cX6_weigh 204 = .ok (.if_icmp .ne 7, 3) := by decide +kernel
theorem dX6_weigh_207 : decode cX6_weigh 207 = .ok (.iconst 1, 1) := by decide +kernel
theorem dX6_weigh_208 : decode cX6_weigh 208 = .ok (.goto 4, 3) := by decide +kernel
theorem dX6_weigh_211 : decode cX6_weigh 211 = .ok (.iconst 0, 1) := by decide +kernel
theorem dX6_weigh_212 : decode cX6_weigh 212 = .ok (.istore 11, 2) := by decide +kernel
theorem dX6_weigh_214 : decode cX6_weigh 214 = .ok (.aload_n 0, 1) := by decide +kernel
theorem dX6_weigh_215 : decode cX6_weigh 215 = .ok (.getfield 9, 3) := by decide +kernel
theorem dX6_weigh_218 : decode cX6_weigh 218 = .ok (.iload 7, 2) := by decide +kernel
theorem dX6_weigh_220 : decode cX6_weigh 220 = .ok (.iaload, 1) := by decide +kernel
theorem dX6_weigh_221 : decode cX6_weigh 221 = .ok (.iload 11, 2) := by decide +kernel
theorem dX6_weigh_223 : decode cX6_weigh 223 = .ok (.if_icmp .ne 17, 3) := by decide +kernel
theorem dX6_weigh_226 : decode cX6_weigh 226 = .ok (.iload 8, 2) := by decide +kernel
theorem dX6_weigh_228 : decode cX6_weigh 228 = .ok (.iload 10, 2) := by decide +kernel
theorem dX6_weigh_230 : decode cX6_weigh 230 = .ok (.iconst 1, 1) := by decide +kernel
theorem dX6_weigh_231 : decode cX6_weigh 231 = .ok (.isub, 1) := by decide +kernel
theorem dX6_weigh_232 : decode cX6_weigh 232 = .ok (.invokestatic 31, 3) := by decide +kernel
theorem dX6_weigh_235 : decode cX6_weigh 235 = .ok (.istore 8, 2) := by decide +kernel
theorem dX6_weigh_237 : decode cX6_weigh 237 = .ok (.goto 13, 3) := by decide +kernel
theorem dX6_weigh_240 : decode cX6_weigh 240 = .ok (.iconst 0, 1) := by decide +kernel
theorem dX6_weigh_241 : decode cX6_weigh 241 = .ok (.iload 7, 2) := by decide +kernel
theorem dX6_weigh_243 : decode cX6_weigh 243 = .ok (.iconst 1, 1) := by decide +kernel
theorem dX6_weigh_244 : decode cX6_weigh 244 = .ok (.isub, 1) := by decide +kernel
theorem dX6_weigh_245 : decode cX6_weigh 245 = .ok (.invokestatic 31, 3) := by decide +kernel
theorem dX6_weigh_248 : decode cX6_weigh 248 = .ok (.istore 7, 2) := by decide +kernel
theorem dX6_weigh_250 : decode cX6_weigh 250 = .ok (.goto 56, 3) := by decide +kernel
theorem dX6_weigh_253 : decode cX6_weigh 253 = .ok (.iconst 1, 1) := by decide +kernel
theorem dX6_weigh_254 : decode cX6_weigh 254 = .ok (.iload 7, 2) := by decide +kernel
theorem dX6_weigh_256 : decode cX6_weigh 256 = .ok (.iconst 1, 1) := by decide +kernel
theorem dX6_weigh_257 : decode cX6_weigh 257 = .ok (.isub, 1) := by decide +kernel
theorem dX6_weigh_258 : decode cX6_weigh 258 = .ok (.invokestatic 31, 3) := by decide +kernel
theorem dX6_weigh_261 : decode cX6_weigh 261 = .ok (.istore 7, 2) := by decide +kernel
theorem dX6_weigh_263 : decode cX6_weigh 263 = .ok (.aload_n 0, 1) := by decide +kernel
theorem dX6_weigh_264 : decode cX6_weigh 264 = .ok (.getfield 9, 3) := by decide +kernel
theorem dX6_weigh_267 : decode cX6_weigh 267 = .ok (.iload 7, 2) := by decide +kernel
theorem dX6_weigh_269 : decode cX6_weigh 269 = .ok (.iload 9, 2) := by decide +kernel
theorem dX6_weigh_271 : decode cX6_weigh 271 = .ok (.aload_n 0, 1) := by decide +kernel
theorem dX6_weigh_272 : decode cX6_weigh 272 = .ok (.getfield 9, 3) := by decide +kernel
theorem dX6_weigh_275 : decode cX6_weigh 275 = .ok (.iload 7, 2) := by decide +kernel
theorem dX6_weigh_277 : decode cX6_weigh 277 = .ok (.iaload, 1) := by decide +kernel
theorem dX6_weigh_278 : decode cX6_weigh 278 = .ok (.aload_n 0, 1) := by decide +kernel
theorem dX6_weigh_279 : decode cX6_weigh 279 = .ok (.getfield 9, 3) := by decide +kernel
theorem dX6_weigh_282 : decode cX6_weigh 282 = .ok (.iload 7, 2) := by decide +kernel
theorem dX6_weigh_284 : decode cX6_weigh 284 = .ok (.iconst 1, 1) := by decide +kernel
theorem dX6_weigh_285 : decode cX6_weigh 285 = .ok (.iadd, 1) := by decide +kernel
theorem dX6_weigh_286 : decode cX6_weigh 286 = .ok (.iaload, 1) := by decide +kernel
theorem dX6_weigh_287 : decode cX6_weigh 287 = .ok (.invokestatic 37, 3) := by decide +kernel
theorem dX6_weigh_290 : decode cX6_weigh 290 = .ok (.iastore, 1) := by decide +kernel
theorem dX6_weigh_291 : decode cX6_weigh 291 = .ok (.aload_n 0, 1) := by decide +kernel
theorem dX6_weigh_292 : decode cX6_weigh 292 = .ok (.getfield 9, 3) := by decide +kernel
theorem dX6_weigh_295 : decode cX6_weigh 295 = .ok (.iload 7, 2) := by decide +kernel
theorem dX6_weigh_297 : decode cX6_weigh 297 = .ok (.iaload, 1) := by decide +kernel
theorem dX6_weigh_298 : decode cX6_weigh 298 = .ok (.ldc 21, 2) := by decide +kernel
theorem dX6_weigh_300 : decode cX6_weigh 300 = .ok (.if_icmp .ne 6, 3) := by decide +kernel
theorem dX6_weigh_303 : decode cX6_weigh 303 = .ok (.ldc 21, 2) := by decide +kernel
theorem dX6_weigh_305 : decode cX6_weigh 305 = .ok (.ireturn, 1) := by decide +kernel
theorem dX6_weigh_306 : decode cX6_weigh 306 = .ok (.iinc 8 1, 3) := by decide +kernel
theorem dX6_weigh_309 : decode cX6_weigh 309 = .ok (.goto (-245), 3) := by decide +kernel
theorem dX6_weigh_312 : decode cX6_weigh 312 = .ok (.aload_n 0, 1) := by decide +kernel
theorem dX6_weigh_313 : decode cX6_weigh 313 = .ok (.getfield 9, 3) := by decide +kernel
theorem dX6_weigh_316 : decode cX6_weigh 316 = .ok (.iload 7, 2) := by decide +kernel
theorem dX6_weigh_318 : decode cX6_weigh 318 = .ok (.iaload, 1) := by decide +kernel
theorem dX6_weigh_319 : decode cX6_weigh 319 = .ok (.ireturn, 1) := by decide +kernel
theorem dX6_reckon_0 : decode cX6_reckon 0 = .ok (.iload_n 0, 1) := by decide +kernel
theorem dX6_reckon_1 : decode cX6_reckon 1 = .ok (.tableswitch 152 2 9 #[47, 56, 65, 74, 92, 110, 124, 138], 47) := by decide +kernel
theorem dX6_reckon_48 : decode cX6_reckon 48 = .ok (.iload_n 1, 1) := by decide +kernel
theorem dX6_reckon_49 : decode cX6_reckon 49 = .ok (.i2l, 1) := by decide +kernel
theorem dX6_reckon_50 : decode cX6_reckon 50 = .ok (.iload_n 2, 1) := by decide +kernel
theorem dX6_reckon_51 : decode cX6_reckon 51 = .ok (.i2l, 1) := by decide +kernel
theorem dX6_reckon_52 : decode cX6_reckon 52 = .ok (.ladd, 1) := by decide +kernel
theorem dX6_reckon_53 : decode cX6_reckon 53 = .ok (.lstore_n 3, 1) := by decide +kernel
theorem dX6_reckon_54 : decode cX6_reckon 54 = .ok (.goto 103, 3) := by decide +kernel
theorem dX6_reckon_57 : decode cX6_reckon 57 = .ok (.iload_n 1, 1) := by decide +kernel
theorem dX6_reckon_58 : decode cX6_reckon 58 = .ok (.i2l, 1) := by decide +kernel
theorem dX6_reckon_59 : decode cX6_reckon 59 = .ok (.iload_n 2, 1) := by decide +kernel
theorem dX6_reckon_60 : decode cX6_reckon 60 = .ok (.i2l, 1) := by decide +kernel
theorem dX6_reckon_61 : decode cX6_reckon 61 = .ok (.lsub, 1) := by decide +kernel
theorem dX6_reckon_62 : decode cX6_reckon 62 = .ok (.lstore_n 3, 1) := by decide +kernel
theorem dX6_reckon_63 : decode cX6_reckon 63 = .ok (.goto 94, 3) := by decide +kernel
theorem dX6_reckon_66 : decode cX6_reckon 66 = .ok (.iload_n 1, 1) := by decide +kernel
theorem dX6_reckon_67 : decode cX6_reckon 67 = .ok (.i2l, 1) := by decide +kernel
theorem dX6_reckon_68 : decode cX6_reckon 68 = .ok (.iload_n 2, 1) := by decide +kernel
theorem dX6_reckon_69 : decode cX6_reckon 69 = .ok (.i2l, 1) := by decide +kernel
theorem dX6_reckon_70 : decode cX6_reckon 70 = .ok (.lmul, 1) := by decide +kernel
theorem dX6_reckon_71 : decode cX6_reckon 71 = .ok (.lstore_n 3, 1) := by decide +kernel
theorem dX6_reckon_72 : decode cX6_reckon 72 = .ok (.goto 85, 3) := by decide +kernel
theorem dX6_reckon_75 : decode cX6_reckon 75 = .ok (.iload_n 2, 1) := by decide +kernel
theorem dX6_reckon_76 : decode cX6_reckon 76 = .ok (.ifCond .ne 9, 3) := by decide +kernel
theorem dX6_reckon_79 : decode cX6_reckon 79 = .ok (.ldc2_w 41, 3) := by decide +kernel
theorem dX6_reckon_82 : decode cX6_reckon 82 = .ok (.goto 7, 3) := by decide +kernel
theorem dX6_reckon_85 : decode cX6_reckon 85 = .ok (.iload_n 1, 1) := by decide +kernel
theorem dX6_reckon_86 : decode cX6_reckon 86 = .ok (.iload_n 2, 1) := by decide +kernel
theorem dX6_reckon_87 : decode cX6_reckon 87 = .ok (.idiv, 1) := by decide +kernel
theorem dX6_reckon_88 : decode cX6_reckon 88 = .ok (.i2l, 1) := by decide +kernel
theorem dX6_reckon_89 : decode cX6_reckon 89 = .ok (.lstore_n 3, 1) := by decide +kernel
theorem dX6_reckon_90 : decode cX6_reckon 90 = .ok (.goto 67, 3) := by decide +kernel
theorem dX6_reckon_93 : decode cX6_reckon 93 = .ok (.iload_n 2, 1) := by decide +kernel
theorem dX6_reckon_94 : decode cX6_reckon 94 = .ok (.ifCond .ne 9, 3) := by decide +kernel
theorem dX6_reckon_97 : decode cX6_reckon 97 = .ok (.ldc2_w 41, 3) := by decide +kernel
theorem dX6_reckon_100 : decode cX6_reckon 100 = .ok (.goto 7, 3) := by decide +kernel
theorem dX6_reckon_103 : decode cX6_reckon 103 = .ok (.iload_n 1, 1) := by decide +kernel
theorem dX6_reckon_104 : decode cX6_reckon 104 = .ok (.iload_n 2, 1) := by decide +kernel
theorem dX6_reckon_105 : decode cX6_reckon 105 = .ok (.irem, 1) := by decide +kernel
theorem dX6_reckon_106 : decode cX6_reckon 106 = .ok (.i2l, 1) := by decide +kernel
theorem dX6_reckon_107 : decode cX6_reckon 107 = .ok (.lstore_n 3, 1) := by decide +kernel
theorem dX6_reckon_108 : decode cX6_reckon 108 = .ok (.goto 49, 3) := by decide +kernel
theorem dX6_reckon_111 : decode cX6_reckon 111 = .ok (.iload_n 1, 1) := by decide +kernel
theorem dX6_reckon_112 : decode cX6_reckon 112 = .ok (.iload_n 2, 1) := by decide +kernel
theorem dX6_reckon_113 : decode cX6_reckon 113 = .ok (.if_icmp .ge 7, 3) := by decide +kernel
theorem dX6_reckon_116 : decode cX6_reckon 116 = .ok (.lconst 1, 1) := by decide +kernel
theorem dX6_reckon_117 : decode cX6_reckon 117 = .ok (.goto 4, 3) := by decide +kernel
theorem dX6_reckon_120 : decode cX6_reckon 120 = .ok (.lconst 0, 1) := by decide +kernel
theorem dX6_reckon_121 : decode cX6_reckon 121 = .ok (.lstore_n 3, 1) := by decide +kernel
theorem dX6_reckon_122 : decode cX6_reckon 122 = .ok (.goto 35, 3) := by decide +kernel
theorem dX6_reckon_125 : decode cX6_reckon 125 = .ok (.iload_n 1, 1) := by decide +kernel
theorem dX6_reckon_126 : decode cX6_reckon 126 = .ok (.iload_n 2, 1) := by decide +kernel
theorem dX6_reckon_127 : decode cX6_reckon 127 = .ok (.if_icmp .le 7, 3) := by decide +kernel
theorem dX6_reckon_130 : decode cX6_reckon 130 = .ok (.lconst 1, 1) := by decide +kernel
theorem dX6_reckon_131 : decode cX6_reckon 131 = .ok (.goto 4, 3) := by decide +kernel
theorem dX6_reckon_134 : decode cX6_reckon 134 = .ok (.lconst 0, 1) := by decide +kernel
theorem dX6_reckon_135 : decode cX6_reckon 135 = .ok (.lstore_n 3, 1) := by decide +kernel
theorem dX6_reckon_136 : decode cX6_reckon 136 = .ok (.goto 21, 3) := by decide +kernel
theorem dX6_reckon_139 : decode cX6_reckon 139 = .ok (.iload_n 1, 1) := by decide +kernel
theorem dX6_reckon_140 : decode cX6_reckon 140 = .ok (.iload_n 2, 1) := by decide +kernel
theorem dX6_reckon_141 : decode cX6_reckon 141 = .ok (.if_icmp .ne 7, 3) := by decide +kernel
theorem dX6_reckon_144 : decode cX6_reckon 144 = .ok (.lconst 1, 1) := by decide +kernel
theorem dX6_reckon_145 : decode cX6_reckon 145 = .ok (.goto 4, 3) := by decide +kernel
theorem dX6_reckon_148 : decode cX6_reckon 148 = .ok (.lconst 0, 1) := by decide +kernel
theorem dX6_reckon_149 : decode cX6_reckon 149 = .ok (.lstore_n 3, 1) := by decide +kernel
theorem dX6_reckon_150 : decode cX6_reckon 150 = .ok (.goto 7, 3) := by decide +kernel
theorem dX6_reckon_153 : decode cX6_reckon 153 = .ok (.ldc2_w 41, 3) := by decide +kernel
theorem dX6_reckon_156 : decode cX6_reckon 156 = .ok (.lstore_n 3, 1) := by decide +kernel
theorem dX6_reckon_157 : decode cX6_reckon 157 = .ok (.lload_n 3, 1) := by decide +kernel
theorem dX6_reckon_158 : decode cX6_reckon 158 = .ok (.ldc2_w 43, 3) := by decide +kernel
theorem dX6_reckon_161 : decode cX6_reckon 161 = .ok (.lcmp, 1) := by decide +kernel
theorem dX6_reckon_162 : decode cX6_reckon 162 = .ok (.ifCond .gt 11, 3) := by decide +kernel
theorem dX6_reckon_165 : decode cX6_reckon 165 = .ok (.lload_n 3, 1) := by decide +kernel
theorem dX6_reckon_166 : decode cX6_reckon 166 = .ok (.ldc2_w 45, 3) := by decide +kernel
theorem dX6_reckon_169 : decode cX6_reckon 169 = .ok (.lcmp, 1) := by decide +kernel
theorem dX6_reckon_170 : decode cX6_reckon 170 = .ok (.ifCond .ge 8, 3) := by decide +kernel
theorem dX6_reckon_173 : decode cX6_reckon 173 = .ok (.ldc 21, 2) := by decide +kernel
theorem dX6_reckon_175 : decode cX6_reckon 175 = .ok (.goto 5, 3) := by decide +kernel
theorem dX6_reckon_178 : decode cX6_reckon 178 = .ok (.lload_n 3, 1) := by decide +kernel
theorem dX6_reckon_179 : decode cX6_reckon 179 = .ok (.l2i, 1) := by decide +kernel
theorem dX6_reckon_180 : decode cX6_reckon 180 = .ok (.ireturn, 1) := by decide +kernel
theorem dX7_init_0 : decode cX7_init 0 = .ok (.aload_n 0, 1) := by decide +kernel
theorem dX7_init_1 : decode cX7_init 1 = .ok (.invokespecial 3, 3) := by decide +kernel
theorem dX7_init_4 : decode cX7_init 4 = .ok (.aload_n 0, 1) := by decide +kernel
theorem dX7_init_5 : decode cX7_init 5 = .ok (.bipush 8, 2) := by decide +kernel
theorem dX7_init_7 : decode cX7_init 7 = .ok (.newarray .int, 2) := by decide +kernel
theorem dX7_init_9 : decode cX7_init 9 = .ok (.putfield 9, 3) := by decide +kernel
theorem dX7_init_12 : decode cX7_init 12 = .ok (.aload_n 0, 1) := by decide +kernel
theorem dX7_init_13 : decode cX7_init 13 = .ok (.bipush 8, 2) := by decide +kernel
theorem dX7_init_15 : decode cX7_init 15 = .ok (.newarray .int, 2) := by decide +kernel
theorem dX7_init_17 : decode cX7_init 17 = .ok (.putfield 15, 3) := by decide +kernel
theorem dX7_init_20 : decode cX7_init 20 = .ok (.aload_n 0, 1) := by decide +kernel
theorem dX7_init_21 : decode cX7_init 21 = .ok (.bipush 8, 2) := by decide +kernel
theorem dX7_init_23 : decode cX7_init 23 = .ok (.newarray .int, 2) := by decide +kernel
theorem dX7_init_25 : decode cX7_init 25 = .ok (.putfield 18, 3) := by decide +kernel
theorem dX7_init_28 : decode cX7_init 28 = .ok (.aload_n 0, 1) := by decide +kernel
theorem dX7_init_29 : decode cX7_init 29 = .ok (.sipush 189, 3) := by decide +kernel
theorem dX7_init_32 : decode cX7_init 32 = .ok (.newarray .int, 2) := by decide +kernel
theorem dX7_init_34 : decode cX7_init 34 = .ok (.putfield 21, 3) := by decide +kernel
theorem dX7_init_37 : decode cX7_init 37 = .ok (.aload_n 0, 1) := by decide +kernel
theorem dX7_init_38 : decode cX7_init 38 = .ok (.bipush 21, 2) := by decide +kernel
theorem dX7_init_40 : decode cX7_init 40 = .ok (.newarray .long, 2) := by decide +kernel
theorem dX7_init_42 : decode cX7_init 42 = .ok (.putfield 24, 3) := by decide +kernel
theorem dX7_init_45 : decode cX7_init 45 = .ok (.return_, 1) := by decide +kernel
theorem dX7_struckOut_0 : decode cX7_struckOut 0 = .ok (.iconst 1, 1) := by decide +kernel
theorem dX7_struckOut_1 : decode cX7_struckOut 1 = .ok (.aload_n 1, 1) := by decide +kernel
theorem dX7_struckOut_2 : decode cX7_struckOut 2 = .ok (.getfield 28, 3) := by decide +kernel
theorem dX7_struckOut_5 : decode cX7_struckOut 5 = .ok (.ishl, 1) := by decide +kernel
theorem dX7_struckOut_6 : decode cX7_struckOut 6 = .ok (.iconst 1, 1) := by decide +kernel
theorem dX7_struckOut_7 : decode cX7_struckOut 7 = .ok (.isub, 1) := by decide +kernel
theorem dX7_struckOut_8 : decode cX7_struckOut 8 = .ok (.istore_n 3, 1) := by decide +kernel
theorem dX7_struckOut_9 : decode cX7_struckOut 9 = .ok (.aload_n 1, 1) := by decide +kernel
theorem dX7_struckOut_10 : decode cX7_struckOut 10 = .ok (.iload_n 2, 1) := by decide +kernel
theorem dX7_struckOut_11 : decode cX7_struckOut 11 = .ok (.invokevirtual 34, 3) := by decide +kernel
theorem dX7_struckOut_14 : decode cX7_struckOut 14 = .ok (.ifCond .eq 12, 3) := by decide +kernel
theorem dX7_struckOut_17 : decode cX7_struckOut 17 = .ok (.aload_n 1, 1) := by decide +kernel
theorem dX7_struckOut_18 : decode cX7_struckOut 18 = .ok (.getfield 38, 3) := by decide +kernel
theorem dX7_struckOut_21 : decode cX7_struckOut 21 = .ok (.iload_n 2, 1) := by decide +kernel
theorem dX7_struckOut_22 : decode cX7_struckOut 22 = .ok (.iaload, 1) := by decide +kernel
theorem dX7_struckOut_23 : decode cX7_struckOut 23 = .ok (.goto 4, 3) := by decide +kernel
theorem dX7_struckOut_26 : decode cX7_struckOut 26 = .ok (.iconst 0, 1) := by decide +kernel
theorem dX7_struckOut_27 : decode cX7_struckOut 27 = .ok (.istore 4, 2) := by decide +kernel
theorem dX7_struckOut_29 : decode cX7_struckOut 29 = .ok (.iload_n 3, 1) := by decide +kernel
theorem dX7_struckOut_30 : decode cX7_struckOut 30 = .ok (.istore 5, 2) := by decide +kernel
theorem dX7_struckOut_32 : decode cX7_struckOut 32 = .ok (.iload 5, 2) := by decide +kernel
theorem dX7_struckOut_34 : decode cX7_struckOut 34 = .ok (.ifCond .lt 78, 3) := by decide +kernel
theorem dX7_struckOut_37 : decode cX7_struckOut 37 = .ok (.iconst 0, 1) := by decide +kernel
theorem dX7_struckOut_38 : decode cX7_struckOut 38 = .ok (.istore 6, 2) := by decide +kernel
theorem dX7_struckOut_40 : decode cX7_struckOut 40 = .ok (.iconst 0, 1) := by decide +kernel
theorem dX7_struckOut_41 : decode cX7_struckOut 41 = .ok (.istore 7, 2) := by decide +kernel
theorem dX7_struckOut_43 : decode cX7_struckOut 43 = .ok (.iload 7, 2) := by decide +kernel
theorem dX7_struckOut_45 : decode cX7_struckOut 45 = .ok (.aload_n 1, 1) := by decide +kernel
theorem dX7_struckOut_46 : decode cX7_struckOut 46 = .ok (.getfield 28, 3) := by decide +kernel
theorem dX7_struckOut_49 : decode cX7_struckOut 49 = .ok (.if_icmp .ge 35, 3) := by decide +kernel
theorem dX7_struckOut_52 : decode cX7_struckOut 52 = .ok (.iload 6, 2) := by decide +kernel
theorem dX7_struckOut_54 : decode cX7_struckOut 54 = .ok (.iload 5, 2) := by decide +kernel
theorem dX7_struckOut_56 : decode cX7_struckOut 56 = .ok (.iload 7, 2) := by decide +kernel
theorem dX7_struckOut_58 : decode cX7_struckOut 58 = .ok (.invokestatic 41, 3) := by decide +kernel
theorem dX7_struckOut_61 : decode cX7_struckOut 61 = .ok (.ifCond .eq 7, 3) := by decide +kernel
theorem dX7_struckOut_64 : decode cX7_struckOut 64 = .ok (.iconst 0, 1) := by decide +kernel
theorem dX7_struckOut_65 : decode cX7_struckOut 65 = .ok (.goto 10, 3) := by decide +kernel
theorem dX7_struckOut_68 : decode cX7_struckOut 68 = .ok (.aload_n 1, 1) := by decide +kernel
theorem dX7_struckOut_69 : decode cX7_struckOut 69 = .ok (.iload 7, 2) := by decide +kernel
theorem dX7_struckOut_71 : decode cX7_struckOut 71 = .ok (.iload_n 2, 1) := by decide +kernel
theorem dX7_struckOut_72 : decode cX7_struckOut 72 = .ok (.invokevirtual 45, 3) := by decide +kernel
theorem dX7_struckOut_75 : decode cX7_struckOut 75 = .ok (.iadd, 1) := by decide +kernel
theorem dX7_struckOut_76 : decode cX7_struckOut 76 = .ok (.istore 6, 2) := by decide +kernel
theorem dX7_struckOut_78 : decode cX7_struckOut 78 = .ok (.iinc 7 1, 3) := by decide +kernel
theorem dX7_struckOut_81 : decode cX7_struckOut 81 = .ok (.goto (-38), 3) := by decide +kernel
theorem dX7_struckOut_84 : decode cX7_struckOut 84 = .ok (.iload 6, 2) := by decide +kernel
theorem dX7_struckOut_86 : decode cX7_struckOut 86 = .ok (.iload 4, 2) := by decide +kernel
theorem dX7_struckOut_88 : decode cX7_struckOut 88 = .ok (.if_icmp .gt 18, 3) := by decide +kernel
theorem dX7_struckOut_91 : decode cX7_struckOut 91 = .ok (.iload 5, 2) := by decide +kernel
theorem dX7_struckOut_93 : decode cX7_struckOut 93 = .ok (.invokestatic 49, 3) := by decide +kernel
theorem dX7_struckOut_96 : decode cX7_struckOut 96 = .ok (.iload_n 3, 1) := by decide +kernel
theorem dX7_struckOut_97 : decode cX7_struckOut 97 = .ok (.invokestatic 49, 3) := by decide +kernel
theorem dX7_struckOut_100 : decode cX7_struckOut 100 = .ok (.if_icmp .gt 6, 3) := by decide +kernel
theorem dX7_struckOut_103 : decode cX7_struckOut 103 = .ok (.iload 5, 2) := by decide +kernel
theorem dX7_struckOut_105 : decode cX7_struckOut 105 = .ok (.istore_n 3, 1) := by decide +kernel
theorem dX7_struckOut_106 : decode cX7_struckOut 106 = .ok (.iinc 5 (-1), 3) := by decide +kernel
theorem dX7_struckOut_109 : decode cX7_struckOut 109 = .ok (.goto (-77), 3) := by decide +kernel
theorem dX7_struckOut_112 : decode cX7_struckOut 112 = .ok (.iload_n 3, 1) := by decide +kernel
theorem dX7_struckOut_113 : decode cX7_struckOut 113 = .ok (.ireturn, 1) := by decide +kernel
theorem dX7_giveOut_0 : decode cX7_giveOut 0 = .ok (.iconst 0, 1) := by decide +kernel
theorem dX7_giveOut_1 : decode cX7_giveOut 1 = .ok (.istore 4, 2) := by decide +kernel
theorem dX7_giveOut_3 : decode cX7_giveOut 3 = .ok (.iload 4, 2) := by decide +kernel
theorem dX7_giveOut_5 : decode cX7_giveOut 5 = .ok (.bipush 8, 2) := by decide +kernel
theorem dX7_giveOut_7 : decode cX7_giveOut 7 = .ok (.if_icmp .ge 17, 3) := by decide +kernel
theorem dX7_giveOut_10 : decode cX7_giveOut 10 = .ok (.aload_n 0, 1) := by decide +kernel
theorem dX7_giveOut_11 : decode cX7_giveOut 11 = .ok (.getfield 9, 3) := by decide +kernel
theorem dX7_giveOut_14 : decode cX7_giveOut 14 = .ok (.iload 4, 2) := by decide +kernel
theorem dX7_giveOut_16 : decode cX7_giveOut 16 = .ok (.iconst 0, 1) := by decide +kernel
theorem dX7_giveOut_17 : decode cX7_giveOut 17 = .ok (.iastore, 1) := by decide +kernel
theorem dX7_giveOut_18 : decode cX7_giveOut 18 = .ok (.iinc 4 1, 3) := by decide +kernel
theorem dX7_giveOut_21 : decode cX7_giveOut 21 = .ok (.goto (-18), 3) := by decide +kernel
theorem dX7_giveOut_24 : decode cX7_giveOut 24 = .ok (.iconst 0, 1) := by decide +kernel
theorem dX7_giveOut_25 : decode cX7_giveOut 25 = .ok (.istore 4, 2) := by decide +kernel
theorem dX7_giveOut_27 : decode cX7_giveOut 27 = .ok (.iload 4, 2) := by decide +kernel
theorem dX7_giveOut_29 : decode cX7_giveOut 29 = .ok (.iload_n 3, 1) := by decide +kernel
theorem dX7_giveOut_30 : decode cX7_giveOut 30 = .ok (.if_icmp .ge 104, 3) := by decide +kernel
theorem dX7_giveOut_33 : decode cX7_giveOut 33 = .ok (.iconst (-1), 1) := by decide +kernel
theorem dX7_giveOut_34 : decode cX7_giveOut 34 = .ok (.istore 5, 2) := by decide +kernel
theorem dX7_giveOut_36 : decode cX7_giveOut 36 = .ok (.iconst 0, 1) := by decide +kernel
theorem dX7_giveOut_37 : decode cX7_giveOut 37 = .ok (.istore 6, 2) := by decide +kernel
theorem dX7_giveOut_39 : decode cX7_giveOut 39 = .ok (.iload 6, 2) := by decide +kernel
theorem dX7_giveOut_41 : decode cX7_giveOut 41 = .ok (.aload_n 1, 1) := by decide +kernel
theorem dX7_giveOut_42 : decode cX7_giveOut 42 = .ok (.getfield 28, 3) := by decide +kernel
theorem dX7_giveOut_45 : decode cX7_giveOut 45 = .ok (.if_icmp .ge 65, 3) := by decide +kernel
theorem dX7_giveOut_48 : decode cX7_giveOut 48 = .ok (.aload_n 1, 1) := by decide +kernel
theorem dX7_giveOut_49 : decode cX7_giveOut 49 = .ok (.iload 6, 2) := by decide +kernel
theorem dX7_giveOut_51 : decode cX7_giveOut 51 = .ok (.iload_n 2, 1) := by decide +kernel
theorem dX7_giveOut_52 : decode cX7_giveOut 52 = .ok (.invokevirtual 45, 3) := by decide +kernel
theorem dX7_giveOut_55 : decode cX7_giveOut 55 = .ok (.istore 7, 2) := by decide +kernel
theorem dX7_giveOut_57 : decode cX7_giveOut 57 = .ok (.iload 7, 2) := by decide +kernel
theorem dX7_giveOut_59 : decode cX7_giveOut 59 = .ok (.ifCond .le 45, 3) := by decide +kernel
theorem dX7_giveOut_62 : decode cX7_giveOut 62 = .ok (.iload 5, 2) := by decide +kernel
theorem dX7_giveOut_64 : decode cX7_giveOut 64 = .ok (.iconst (-1), 1) := by decide +kernel
theorem dX7_giveOut_65 : decode cX7_giveOut 65 = .ok (.if_icmp .eq 35, 3) := by decide +kernel
theorem dX7_giveOut_68 : decode cX7_giveOut 68 = .ok (.iload 7, 2) := by decide +kernel
theorem dX7_giveOut_70 : decode cX7_giveOut 70 = .ok (.aload_n 0, 1) := by decide +kernel
theorem dX7_giveOut_71 : decode cX7_giveOut 71 = .ok (.getfield 9, 3) := by decide +kernel
theorem dX7_giveOut_74 : decode cX7_giveOut 74 = .ok (.iload 5, 2) := by decide +kernel
theorem dX7_giveOut_76 : decode cX7_giveOut 76 = .ok (.iaload, 1) := by decide +kernel
theorem dX7_giveOut_77 : decode cX7_giveOut 77 = .ok (.iconst 1, 1) := by decide +kernel
theorem dX7_giveOut_78 : decode cX7_giveOut 78 = .ok (.iadd, 1) := by decide +kernel
theorem dX7_giveOut_79 : decode cX7_giveOut 79 = .ok (.imul, 1) := by decide +kernel
theorem dX7_giveOut_80 : decode cX7_giveOut 80 = .ok (.aload_n 1, 1) := by decide +kernel
theorem dX7_giveOut_81 : decode cX7_giveOut 81 = .ok (.iload 5, 2) := by decide +kernel
theorem dX7_giveOut_83 : decode cX7_giveOut 83 = .ok (.iload_n 2, 1) := by decide +kernel
theorem dX7_giveOut_84 : decode cX7_giveOut 84 = .ok (.invokevirtual 45, 3) := by decide +kernel
theorem dX7_giveOut_87 : decode cX7_giveOut 87 = .ok (.aload_n 0, 1) := by decide +kernel
theorem dX7_giveOut_88 : decode cX7_giveOut 88 = .ok (.getfield 9, 3) := by decide +kernel
theorem dX7_giveOut_91 : decode cX7_giveOut 91 = .ok (.iload 6, 2) := by decide +kernel
theorem dX7_giveOut_93 : decode cX7_giveOut 93 = .ok (.iaload, 1) := by decide +kernel
theorem dX7_giveOut_94 : decode cX7_giveOut 94 = .ok (.iconst 1, 1) := by decide +kernel
theorem dX7_giveOut_95 : decode cX7_giveOut 95 = .ok (.iadd, 1) := by decide +kernel
theorem dX7_giveOut_96 : decode cX7_giveOut 96 = .ok (.imul, 1) := by decide +kernel
theorem dX7_giveOut_97 : decode cX7_giveOut 97 = .ok (.if_icmp .le 7, 3) := by decide +kernel
theorem dX7_giveOut_100 : decode cX7_giveOut 100 = .ok (.iload 6, 2) := by decide +kernel
theorem dX7_giveOut_102 : decode cX7_giveOut 102 = .ok (.istore 5, 2) := by decide +kernel
theorem dX7_giveOut_104 : decode cX7_giveOut 104 = .ok (.iinc 6 1, 3) := by decide +kernel
theorem dX7_giveOut_107 : decode cX7_giveOut 107 = .ok (.goto (-68), 3) := by decide +kernel
theorem dX7_giveOut_110 : decode cX7_giveOut 110 = .ok (.iload 5, 2) := by decide +kernel
theorem dX7_giveOut_112 : decode cX7_giveOut 112 = .ok (.iconst (-1), 1) := by decide +kernel
theorem dX7_giveOut_113 : decode cX7_giveOut 113 = .ok (.if_icmp .ne 4, 3) := by decide +kernel
theorem dX7_giveOut_116 : decode cX7_giveOut 116 = .ok (.return_, 1) := by decide +kernel
theorem dX7_giveOut_117 : decode cX7_giveOut 117 = .ok (.aload_n 0, 1) := by decide +kernel
theorem dX7_giveOut_118 : decode cX7_giveOut 118 = .ok (.getfield 9, 3) := by decide +kernel
theorem dX7_giveOut_121 : decode cX7_giveOut 121 = .ok (.iload 5, 2) := by decide +kernel
theorem dX7_giveOut_123 : decode cX7_giveOut 123 = .ok (.dup2, 1) := by decide +kernel
theorem dX7_giveOut_124 : decode cX7_giveOut 124 = .ok (.iaload, 1) := by decide +kernel
theorem dX7_giveOut_125 : decode cX7_giveOut 125 = .ok (.iconst 1, 1) := by decide +kernel
theorem dX7_giveOut_126 : decode cX7_giveOut 126 = .ok (.iadd, 1) := by decide +kernel
theorem dX7_giveOut_127 : decode cX7_giveOut 127 = .ok (.iastore, 1) := by decide +kernel
theorem dX7_giveOut_128 : decode cX7_giveOut 128 = .ok (.iinc 4 1, 3) := by decide +kernel
theorem dX7_giveOut_131 : decode cX7_giveOut 131 = .ok (.goto (-104), 3) := by decide +kernel
theorem dX7_giveOut_134 : decode cX7_giveOut 134 = .ok (.return_, 1) := by decide +kernel
theorem dX7_keepRings_0 : decode cX7_keepRings 0 = .ok (.iconst 0, 1) := by decide +kernel
theorem dX7_keepRings_1 : decode cX7_keepRings 1 = .ok (.istore_n 3, 1) := by decide +kernel
theorem dX7_keepRings_2 : decode cX7_keepRings 2 = .ok (.iload_n 3, 1) := by decide +kernel
theorem dX7_keepRings_3 : decode cX7_keepRings 3 = .ok (.iload_n 1, 1) := by decide +kernel
theorem dX7_keepRings_4 : decode cX7_keepRings 4 = .ok (.if_icmp .gt 20, 3) := by decide +kernel
theorem dX7_keepRings_7 : decode cX7_keepRings 7 = .ok (.aload_n 0, 1) := by decide +kernel
theorem dX7_keepRings_8 : decode cX7_keepRings 8 = .ok (.getfield 21, 3) := by decide +kernel
theorem dX7_keepRings_11 : decode cX7_keepRings 11 = .ok (.iload_n 2, 1) := by decide +kernel
theorem dX7_keepRings_12 : decode cX7_keepRings 12 = .ok (.iload_n 3, 1) := by decide +kernel
theorem dX7_keepRings_13 : decode cX7_keepRings 13 = .ok (.invokestatic 55, 3) := by decide +kernel
theorem dX7_keepRings_16 : decode cX7_keepRings 16 = .ok (.iconst 0, 1) := by decide +kernel
theorem dX7_keepRings_17 : decode cX7_keepRings 17 = .ok (.iastore, 1) := by decide +kernel
theorem dX7_keepRings_18 : decode cX7_keepRings 18 = .ok (.iinc 3 1, 3) := by decide +kernel
theorem dX7_keepRings_21 : decode cX7_keepRings 21 = .ok (.goto (-19), 3) := by decide +kernel
theorem dX7_keepRings_24 : decode cX7_keepRings 24 = .ok (.iload_n 2, 1) := by decide +kernel
theorem dX7_keepRings_25 : decode cX7_keepRings 25 = .ok (.iconst 1, 1) := by decide +kernel
theorem dX7_keepRings_26 : decode cX7_keepRings 26 = .ok (.isub, 1) := by decide +kernel
theorem dX7_keepRings_27 : decode cX7_keepRings 27 = .ok (.istore_n 3, 1) := by decide +kernel
theorem dX7_keepRings_28 : decode cX7_keepRings 28 = .ok (.iload_n 3, 1) := by decide +kernel
theorem dX7_keepRings_29 : decode cX7_keepRings 29 = .ok (.ifCond .lt 87, 3) := by decide +kernel
theorem dX7_keepRings_32 : decode cX7_keepRings 32 = .ok (.iconst 0, 1) := by decide +kernel
theorem dX7_keepRings_33 : decode cX7_keepRings 33 = .ok (.istore 4, 2) := by decide +kernel
theorem dX7_keepRings_35 : decode cX7_keepRings 35 = .ok (.iload 4, 2) := by decide +kernel
theorem dX7_keepRings_37 : decode cX7_keepRings 37 = .ok (.iload_n 1, 1) := by decide +kernel
theorem dX7_keepRings_38 : decode cX7_keepRings 38 = .ok (.if_icmp .gt 72, 3) := by decide +kernel
theorem dX7_keepRings_41 : decode cX7_keepRings 41 = .ok (.iconst 0, 1) := by decide +kernel
theorem dX7_keepRings_42 : decode cX7_keepRings 42 = .ok (.istore 5, 2) := by decide +kernel
theorem dX7_keepRings_44 : decode cX7_keepRings 44 = .ok (.iconst 0, 1) := by decide +kernel
theorem dX7_keepRings_45 : decode cX7_keepRings 45 = .ok (.istore 6, 2) := by decide +kernel
theorem dX7_keepRings_47 : decode cX7_keepRings 47 = .ok (.iload 6, 2) := by decide +kernel
theorem dX7_keepRings_49 : decode cX7_keepRings 49 = .ok (.iload 4, 2) := by decide +kernel
theorem dX7_keepRings_51 : decode cX7_keepRings 51 = .ok (.if_icmp .gt 40, 3) := by decide +kernel
theorem dX7_keepRings_54 : decode cX7_keepRings 54 = .ok (.iload 5, 2) := by decide +kernel
theorem dX7_keepRings_56 : decode cX7_keepRings 56 = .ok (.aload_n 0, 1) := by decide +kernel
theorem dX7_keepRings_57 : decode cX7_keepRings 57 = .ok (.iload_n 3, 1) := by decide +kernel
theorem dX7_keepRings_58 : decode cX7_keepRings 58 = .ok (.iload 6, 2) := by decide +kernel
theorem dX7_keepRings_60 : decode cX7_keepRings 60 = .ok (.invokevirtual 58, 3) := by decide +kernel
theorem dX7_keepRings_63 : decode cX7_keepRings 63 = .ok (.aload_n 0, 1) := by decide +kernel
theorem dX7_keepRings_64 : decode cX7_keepRings 64 = .ok (.getfield 21, 3) := by decide +kernel
theorem dX7_keepRings_67 : decode cX7_keepRings 67 = .ok (.iload_n 3, 1) := by decide +kernel
theorem dX7_keepRings_68 : decode cX7_keepRings 68 = .ok (.iconst 1, 1) := by decide +kernel
theorem dX7_keepRings_69 : decode cX7_keepRings 69 = .ok (.iadd, 1) := by decide +kernel
theorem dX7_keepRings_70 : decode cX7_keepRings 70 = .ok (.iload 4, 2) := by decide +kernel
theorem dX7_keepRings_72 : decode cX7_keepRings 72 = .ok (.iload 6, 2) := by decide +kernel
theorem dX7_keepRings_74 : decode cX7_keepRings 74 = .ok (.isub, 1) := by decide +kernel
theorem dX7_keepRings_75 : decode cX7_keepRings 75 = .ok (.invokestatic 55, 3) := by decide +kernel
theorem dX7_keepRings_78 : decode cX7_keepRings 78 = .ok (.iaload, 1) := by decide +kernel
theorem dX7_keepRings_79 : decode cX7_keepRings 79 = .ok (.iadd, 1) := by decide +kernel
theorem dX7_keepRings_80 : decode cX7_keepRings 80 = .ok (.invokestatic 61, 3) := by decide +kernel
theorem dX7_keepRings_83 : decode cX7_keepRings 83 = .ok (.istore 5, 2) := by decide +kernel
theorem dX7_keepRings_85 : decode cX7_keepRings 85 = .ok (.iinc 6 1, 3) := by decide +kernel
theorem dX7_keepRings_88 : decode cX7_keepRings 88 = .ok (.goto (-41), 3) := by decide +kernel
theorem dX7_keepRings_91 : decode cX7_keepRings 91 = .ok (.aload_n 0, 1) := by decide +kernel
theorem dX7_keepRings_92 : decode cX7_keepRings 92 = .ok (.getfield 21, 3) := by decide +kernel
theorem dX7_keepRings_95 : decode cX7_keepRings 95 = .ok (.iload_n 3, 1) := by decide +kernel
theorem dX7_keepRings_96 : decode cX7_keepRings 96 = .ok (.iload 4, 2) := by decide +kernel
theorem dX7_keepRings_98 : decode cX7_keepRings 98 = .ok (.invokestatic 55, 3) := by decide +kernel
theorem dX7_keepRings_101 : decode cX7_keepRings 101 = .ok (.iload 5, 2) := by decide +kernel
theorem dX7_keepRings_103 : decode cX7_keepRings 103 = .ok (.iastore, 1) := by decide +kernel
theorem dX7_keepRings_104 : decode cX7_keepRings 104 = .ok (.iinc 4 1, 3) := by decide +kernel
theorem dX7_keepRings_107 : decode cX7_keepRings 107 = .ok (.goto (-72), 3) := by decide +kernel
theorem dX7_keepRings_110 : decode cX7_keepRings 110 = .ok (.iinc 3 (-1), 3) := by decide +kernel
theorem dX7_keepRings_113 : decode cX7_keepRings 113 = .ok (.goto (-85), 3) := by decide +kernel
theorem dX7_keepRings_116 : decode cX7_keepRings 116 = .ok (.iload_n 1, 1) := by decide +kernel
theorem dX7_keepRings_117 : decode cX7_keepRings 117 = .ok (.istore_n 3, 1) := by decide +kernel
theorem dX7_keepRings_118 : decode cX7_keepRings 118 = .ok (.iconst 0, 1) := by decide +kernel
theorem dX7_keepRings_119 : decode cX7_keepRings 119 = .ok (.istore 4, 2) := by decide +kernel
theorem dX7_keepRings_121 : decode cX7_keepRings 121 = .ok (.iload 4, 2) := by decide +kernel
theorem dX7_keepRings_123 : decode cX7_keepRings 123 = .ok (.iload_n 2, 1) := by decide +kernel
theorem dX7_keepRings_124 : decode cX7_keepRings 124 = .ok (.if_icmp .ge 33, 3) := by decide +kernel
theorem dX7_keepRings_127 : decode cX7_keepRings 127 = .ok (.aload_n 0, 1) := by decide +kernel
theorem dX7_keepRings_128 : decode cX7_keepRings 128 = .ok (.getfield 18, 3) := by decide +kernel
theorem dX7_keepRings_131 : decode cX7_keepRings 131 = .ok (.iload 4, 2) := by decide +kernel
theorem dX7_keepRings_133 : decode cX7_keepRings 133 = .ok (.aload_n 0, 1) := by decide +kernel
theorem dX7_keepRings_134 : decode cX7_keepRings 134 = .ok (.iload 4, 2) := by decide +kernel
theorem dX7_keepRings_136 : decode cX7_keepRings 136 = .ok (.iload_n 3, 1) := by decide +kernel
theorem dX7_keepRings_137 : decode cX7_keepRings 137 = .ok (.invokevirtual 66, 3) := by decide +kernel
theorem dX7_keepRings_140 : decode cX7_keepRings 140 = .ok (.iastore, 1) := by decide +kernel
theorem dX7_keepRings_141 : decode cX7_keepRings 141 = .ok (.iload_n 3, 1) := by decide +kernel
theorem dX7_keepRings_142 : decode cX7_keepRings 142 = .ok (.aload_n 0, 1) := by decide +kernel
theorem dX7_keepRings_143 : decode cX7_keepRings 143 = .ok (.getfield 18, 3) := by decide +kernel
theorem dX7_keepRings_146 : decode cX7_keepRings 146 = .ok (.iload 4, 2) := by decide +kernel
theorem dX7_keepRings_148 : decode cX7_keepRings 148 = .ok (.iaload, 1) := by decide +kernel
theorem dX7_keepRings_149 : decode cX7_keepRings 149 = .ok (.isub, 1) := by decide +kernel
theorem dX7_keepRings_150 : decode cX7_keepRings 150 = .ok (.istore_n 3, 1) := by decide +kernel
theorem dX7_keepRings_151 : decode cX7_keepRings 151 = .ok (.iinc 4 1, 3) := by decide +kernel
theorem dX7_keepRings_154 : decode cX7_keepRings 154 = .ok (.goto (-33), 3) := by decide +kernel
theorem dX7_keepRings_157 : decode cX7_keepRings 157 = .ok (.aload_n 0, 1) := by decide +kernel
theorem dX7_keepRings_158 : decode cX7_keepRings 158 = .ok (.getfield 21, 3) := by decide +kernel
theorem dX7_keepRings_161 : decode cX7_keepRings 161 = .ok (.iconst 0, 1) := by decide +kernel
theorem dX7_keepRings_162 : decode cX7_keepRings 162 = .ok (.iload_n 1, 1) := by decide +kernel
theorem dX7_keepRings_163 : decode cX7_keepRings 163 = .ok (.invokestatic 55, 3) := by decide +kernel
theorem dX7_keepRings_166 : decode cX7_keepRings 166 = .ok (.iaload, 1) := by decide +kernel
theorem dX7_keepRings_167 : decode cX7_keepRings 167 = .ok (.ireturn, 1) := by decide +kernel
theorem dX7_firstBestUse_0 : decode cX7_firstBestUse 0 = .ok (.iconst 0, 1) := by decide +kernel
theorem dX7_firstBestUse_1 : decode cX7_firstBestUse 1 = .ok (.istore_n 3, 1) := by decide +kernel
theorem dX7_firstBestUse_2 : decode cX7_firstBestUse 2 = .ok (.iload_n 3, 1) := by decide +kernel
theorem dX7_firstBestUse_3 : decode cX7_firstBestUse 3 = .ok (.iload_n 2, 1) := by decide +kernel
theorem dX7_firstBestUse_4 : decode cX7_firstBestUse 4 = .ok (.if_icmp .ge 45, 3) := by decide +kernel
theorem dX7_firstBestUse_7 : decode cX7_firstBestUse 7 = .ok (.aload_n 0, 1) := by decide +kernel
theorem dX7_firstBestUse_8 : decode cX7_firstBestUse 8 = .ok (.iload_n 1, 1) := by decide +kernel
theorem dX7_firstBestUse_9 : decode cX7_firstBestUse 9 = .ok (.iload_n 3, 1) := by decide +kernel
theorem dX7_firstBestUse_10 : decode cX7_firstBestUse 10 = .ok (.invokevirtual 58, 3) := by decide +kernel
theorem dX7_firstBestUse_13 : decode cX7_firstBestUse 13 = .ok (.aload_n 0, 1) := by decide +kernel
theorem dX7_firstBestUse_14 : decode cX7_firstBestUse 14 = .ok (.getfield 21, 3) := by decide +kernel
theorem dX7_firstBestUse_17 : decode cX7_firstBestUse 17 = .ok (.iload_n 1, 1) := by decide +kernel
theorem dX7_firstBestUse_18 : decode cX7_firstBestUse 18 = .ok (.iconst 1, 1) := by decide +kernel
theorem dX7_firstBestUse_19 : decode cX7_firstBestUse 19 = .ok (.iadd, 1) := by decide +kernel
theorem dX7_firstBestUse_20 : decode cX7_firstBestUse 20 = .ok (.iload_n 2, 1) := by decide +kernel
theorem dX7_firstBestUse_21 : decode cX7_firstBestUse 21 = .ok (.iload_n 3, 1) := by decide +kernel
theorem dX7_firstBestUse_22 : decode cX7_firstBestUse 22 = .ok (.isub, 1) := by decide +kernel
theorem dX7_firstBestUse_23 : decode cX7_firstBestUse 23 = .ok (.invokestatic 55, 3) := by decide +kernel
theorem dX7_firstBestUse_26 : decode cX7_firstBestUse 26 = .ok (.iaload, 1) := by decide +kernel
theorem dX7_firstBestUse_27 : decode cX7_firstBestUse 27 = .ok (.iadd, 1) := by decide +kernel
theorem dX7_firstBestUse_28 : decode cX7_firstBestUse 28 = .ok (.aload_n 0, 1) := by decide +kernel
theorem dX7_firstBestUse_29 : decode cX7_firstBestUse 29 = .ok (.getfield 21, 3) := by decide +kernel
theorem dX7_firstBestUse_32 : decode cX7_firstBestUse 32 = .ok (.iload_n 1, 1) := by decide +kernel
theorem dX7_firstBestUse_33 : decode cX7_firstBestUse 33 = .ok (.iload_n 2, 1) := by decide +kernel
theorem dX7_firstBestUse_34 : decode cX7_firstBestUse 34 = .ok (.invokestatic 55, 3) := by decide +kernel
theorem dX7_firstBestUse_37 : decode cX7_firstBestUse 37 = .ok (.iaload, 1) := by decide +kernel
theorem dX7_firstBestUse_38 : decode cX7_firstBestUse 38 = .ok (.if_icmp .ne 5, 3) := by decide +kernel
theorem dX7_firstBestUse_41 : decode cX7_firstBestUse 41 = .ok (.iload_n 3, 1) := by decide +kernel
theorem dX7_firstBestUse_42 : decode cX7_firstBestUse 42 = .ok (.ireturn, 1) := by decide +kernel
theorem dX7_firstBestUse_43 : decode cX7_firstBestUse 43 = .ok (.iinc 3 1, 3) := by decide +kernel
theorem dX7_firstBestUse_46 : decode cX7_firstBestUse 46 = .ok (.goto (-44), 3) := by decide +kernel
theorem dX7_firstBestUse_49 : decode cX7_firstBestUse 49 = .ok (.iload_n 2, 1) := by decide +kernel
theorem dX7_firstBestUse_50 : decode cX7_firstBestUse 50 = .ok (.ireturn, 1) := by decide +kernel
theorem dX7_gain_0 : decode cX7_gain 0 = .ok (.iload_n 2, 1) := by decide +kernel
theorem dX7_gain_1 : decode cX7_gain 1 = .ok (.aload_n 0, 1) := by decide +kernel
theorem dX7_gain_2 : decode cX7_gain 2 = .ok (.getfield 15, 3) := by decide +kernel
theorem dX7_gain_5 : decode cX7_gain 5 = .ok (.iload_n 1, 1) := by decide +kernel
theorem dX7_gain_6 : decode cX7_gain 6 = .ok (.iaload, 1) := by decide +kernel
theorem dX7_gain_7 : decode cX7_gain 7 = .ok (.invokestatic 69, 3) := by decide +kernel
theorem dX7_gain_10 : decode cX7_gain 10 = .ok (.istore_n 3, 1) := by decide +kernel
theorem dX7_gain_11 : decode cX7_gain 11 = .ok (.iload_n 3, 1) := by decide +kernel
theorem dX7_gain_12 : decode cX7_gain 12 = .ok (.aload_n 0, 1) := by decide +kernel
theorem dX7_gain_13 : decode cX7_gain 13 = .ok (.getfield 15, 3) := by decide +kernel
theorem dX7_gain_16 : decode cX7_gain 16 = .ok (.iload_n 1, 1) := by decide +kernel
theorem dX7_gain_17 : decode cX7_gain 17 = .ok (.iaload, 1) := by decide +kernel
theorem dX7_gain_18 : decode cX7_gain 18 = .ok (.imul, 1) := by decide +kernel
theorem dX7_gain_19 : decode cX7_gain 19 = .ok (.iload_n 3, 1) := by decide +kernel
theorem dX7_gain_20 : decode cX7_gain 20 = .ok (.iload_n 3, 1) := by decide +kernel
theorem dX7_gain_21 : decode cX7_gain 21 = .ok (.iconst 1, 1) := by decide +kernel
theorem dX7_gain_22 : decode cX7_gain 22 = .ok (.isub, 1) := by decide +kernel
theorem dX7_gain_23 : decode cX7_gain 23 = .ok (.imul, 1) := by decide +kernel
theorem dX7_gain_24 : decode cX7_gain 24 = .ok (.iconst 2, 1) := by decide +kernel
theorem dX7_gain_25 : decode cX7_gain 25 = .ok (.idiv, 1) := by decide +kernel
theorem dX7_gain_26 : decode cX7_gain 26 = .ok (.isub, 1) := by decide +kernel
theorem dX7_gain_27 : decode cX7_gain 27 = .ok (.ireturn, 1) := by decide +kernel
theorem dX7_entry_0 : decode cX7_entry 0 = .ok (.iload_n 0, 1) := by decide +kernel
theorem dX7_entry_1 : decode cX7_entry 1 = .ok (.bipush 21, 2) := by decide +kernel
theorem dX7_entry_3 : decode cX7_entry 3 = .ok (.imul, 1) := by decide +kernel
theorem dX7_entry_4 : decode cX7_entry 4 = .ok (.iload_n 1, 1) := by decide +kernel
theorem dX7_entry_5 : decode cX7_entry 5 = .ok (.iadd, 1) := by decide +kernel
theorem dX7_entry_6 : decode cX7_entry 6 = .ok (.ireturn, 1) := by decide +kernel
theorem dX7_chance_0 : decode cX7_chance 0 = .ok (.aload_n 0, 1) := by decide +kernel
theorem dX7_chance_1 : decode cX7_chance 1 = .ok (.getfield 24, 3) := by decide +kernel
theorem dX7_chance_4 : decode cX7_chance 4 = .ok (.iconst 0, 1) := by decide +kernel
theorem dX7_chance_5 : decode cX7_chance 5 = .ok (.ldc2_w 72, 3) := by decide +kernel
theorem dX7_chance_8 : decode cX7_chance 8 = .ok (.lastore, 1) := by decide +kernel
theorem dX7_chance_9 : decode cX7_chance 9 = .ok (.iconst 1, 1) := by decide +kernel
theorem dX7_chance_10 : decode cX7_chance 10 = .ok (.istore 4, 2) := by decide +kernel
theorem dX7_chance_12 : decode cX7_chance 12 = .ok (.iload 4, 2) := by decide +kernel
theorem dX7_chance_14 : decode cX7_chance 14 = .ok (.iload_n 1, 1) := by decide +kernel
theorem dX7_chance_15 : decode cX7_chance 15 = .ok (.if_icmp .gt 17, 3) := by decide +kernel
theorem dX7_chance_18 : decode cX7_chance 18 = .ok (.aload_n 0, 1) := by decide +kernel
theorem dX7_chance_19 : decode cX7_chance 19 = .ok (.getfield 24, 3) := by decide +kernel
theorem dX7_chance_22 : decode cX7_chance 22 = .ok (.iload 4, 2) := by decide +kernel
theorem dX7_chance_24 : decode cX7_chance 24 = .ok (.lconst 0, 1) := by decide +kernel
theorem dX7_chance_25 : decode cX7_chance 25 = .ok (.lastore, 1) := by decide +kernel
theorem dX7_chance_26 : decode cX7_chance 26 = .ok (.iinc 4 1, 3) := by decide +kernel
theorem dX7_chance_29 : decode cX7_chance 29 = .ok (.goto (-17), 3) := by decide +kernel
theorem dX7_chance_32 : decode cX7_chance 32 = .ok (.iconst 0, 1) := by decide +kernel
theorem dX7_chance_33 : decode cX7_chance 33 = .ok (.istore 4, 2) := by decide +kernel
theorem dX7_chance_35 : decode cX7_chance 35 = .ok (.iload 4, 2) := by decide +kernel
theorem dX7_chance_37 : decode cX7_chance 37 = .ok (.iload_n 2, 1) := by decide +kernel
theorem dX7_chance_38 : decode cX7_chance 38 = .ok (.if_icmp .ge 65, 3) := by decide +kernel
theorem dX7_chance_41 : decode cX7_chance 41 = .ok (.iload_n 1, 1) := by decide +kernel
theorem dX7_chance_42 : decode cX7_chance 42 = .ok (.istore 5, 2) := by decide +kernel
theorem dX7_chance_44 : decode cX7_chance 44 = .ok (.iload 5, 2) := by decide +kernel
theorem dX7_chance_46 : decode cX7_chance 46 = .ok (.iconst 1, 1) := by decide +kernel
theorem dX7_chance_47 : decode cX7_chance 47 = .ok (.if_icmp .lt 50, 3) := by decide +kernel
theorem dX7_chance_50 : decode cX7_chance 50 = .ok (.aload_n 0, 1) := by decide +kernel
theorem dX7_chance_51 : decode cX7_chance 51 = .ok (.getfield 24, 3) := by decide +kernel
theorem dX7_chance_54 : decode cX7_chance 54 = .ok (.iload 5, 2) := by decide +kernel
theorem dX7_chance_56 : decode cX7_chance 56 = .ok (.aload_n 0, 1) := by decide +kernel
theorem dX7_chance_57 : decode cX7_chance 57 = .ok (.getfield 24, 3) := by decide +kernel
theorem dX7_chance_60 : decode cX7_chance 60 = .ok (.iload 5, 2) := by decide +kernel
theorem dX7_chance_62 : decode cX7_chance 62 = .ok (.laload, 1) := by decide +kernel
theorem dX7_chance_63 : decode cX7_chance 63 = .ok (.iload_n 3, 1) := by decide +kernel
theorem dX7_chance_64 : decode cX7_chance 64 = .ok (.i2l, 1) := by decide +kernel
theorem dX7_chance_65 : decode cX7_chance 65 = .ok (.lmul, 1) := by decide +kernel
theorem dX7_chance_66 : decode cX7_chance 66 = .ok (.ldc2_w 74, 3) := by decide +kernel
theorem dX7_chance_69 : decode cX7_chance 69 = .ok (.ldiv, 1) := by decide +kernel
theorem dX7_chance_70 : decode cX7_chance 70 = .ok (.aload_n 0, 1) := by decide +kernel
theorem dX7_chance_71 : decode cX7_chance 71 = .ok (.getfield 24, 3) := by decide +kernel
theorem dX7_chance_74 : decode cX7_chance 74 = .ok (.iload 5, 2) := by decide +kernel
theorem dX7_chance_76 : decode cX7_chance 76 = .ok (.iconst 1, 1) := by decide +kernel
theorem dX7_chance_77 : decode cX7_chance 77 = .ok (.isub, 1) := by decide +kernel
theorem dX7_chance_78 : decode cX7_chance 78 = .ok (.laload, 1) := by decide +kernel
theorem dX7_chance_79 : decode cX7_chance 79 = .ok (.bipush 10, 2) := by decide +kernel
theorem dX7_chance_81 : decode cX7_chance 81 = .ok (.iload_n 3, 1) := by decide +kernel
theorem dX7_chance_82 : decode cX7_chance 82 = .ok (.isub, 1) := by decide +kernel
theorem dX7_chance_83 : decode cX7_chance 83 = .ok (.i2l, 1) := by decide +kernel
theorem dX7_chance_84 : decode cX7_chance 84 = .ok (.lmul, 1) := by decide +kernel
theorem dX7_chance_85 : decode cX7_chance 85 = .ok (.ldc2_w 74, 3) := by decide +kernel
theorem dX7_chance_88 : decode cX7_chance 88 = .ok (.ldiv, 1) := by decide +kernel
theorem dX7_chance_89 : decode cX7_chance 89 = .ok (.ladd, 1) := by decide +kernel
theorem dX7_chance_90 : decode cX7_chance 90 = .ok (.lastore, 1) := by decide +kernel
theorem dX7_chance_91 : decode cX7_chance 91 = .ok (.iinc 5 (-1), 3) := by decide +kernel
theorem dX7_chance_94 : decode cX7_chance 94 = .ok (.goto (-50), 3) := by decide +kernel
theorem dX7_chance_97 : decode cX7_chance 97 = .ok (.iinc 4 1, 3) := by decide +kernel
theorem dX7_chance_100 : decode cX7_chance 100 = .ok (.goto (-65), 3) := by decide +kernel
theorem dX7_chance_103 : decode cX7_chance 103 = .ok (.aload_n 0, 1) := by decide +kernel
theorem dX7_chance_104 : decode cX7_chance 104 = .ok (.getfield 24, 3) := by decide +kernel
theorem dX7_chance_107 : decode cX7_chance 107 = .ok (.iload_n 1, 1) := by decide +kernel
theorem dX7_chance_108 : decode cX7_chance 108 = .ok (.laload, 1) := by decide +kernel
theorem dX7_chance_109 : decode cX7_chance 109 = .ok (.lreturn, 1) := by decide +kernel
theorem dX8_init_0 : decode cX8_init 0 = .ok (.aload_n 0, 1) := by decide +kernel
theorem dX8_init_1 : decode cX8_init 1 = .ok (.invokespecial 3, 3) := by decide +kernel
theorem dX8_init_4 : decode cX8_init 4 = .ok (.aload_n 0, 1) := by decide +kernel
theorem dX8_init_5 : decode cX8_init 5 = .ok (.new 9, 3) := by decide +kernel
theorem dX8_init_8 : decode cX8_init 8 = .ok (.dup, 1) := by decide +kernel
theorem dX8_init_9 : decode cX8_init 9 = .ok (.invokespecial 11, 3) := by decide +kernel
theorem dX8_init_12 : decode cX8_init 12 = .ok (.putfield 12, 3) := by decide +kernel
theorem dX8_init_15 : decode cX8_init 15 = .ok (.aload_n 0, 1) := by decide +kernel
theorem dX8_init_16 : decode cX8_init 16 = .ok (.iconst 0, 1) := by decide +kernel
theorem dX8_init_17 : decode cX8_init 17 = .ok (.putfield 18, 3) := by decide +kernel
theorem dX8_init_20 : decode cX8_init 20 = .ok (.aload_n 0, 1) := by decide +kernel
theorem dX8_init_21 : decode cX8_init 21 = .ok (.bipush 6, 2) := by decide +kernel
theorem dX8_init_23 : decode cX8_init 23 = .ok (.newarray .int, 2) := by decide +kernel
theorem dX8_init_25 : decode cX8_init 25 = .ok (.putfield 22, 3) := by decide +kernel
theorem dX8_init_28 : decode cX8_init 28 = .ok (.aload_n 0, 1) := by decide +kernel
theorem dX8_init_29 : decode cX8_init 29 = .ok (.bipush 6, 2) := by decide +kernel
theorem dX8_init_31 : decode cX8_init 31 = .ok (.newarray .int, 2) := by decide +kernel
theorem dX8_init_33 : decode cX8_init 33 = .ok (.putfield 26, 3) := by decide +kernel
theorem dX8_init_36 : decode cX8_init 36 = .ok (.aload_n 0, 1) := by decide +kernel
theorem dX8_init_37 : decode cX8_init 37 = .ok (.iconst 0, 1) := by decide +kernel
theorem dX8_init_38 : decode cX8_init 38 = .ok (.putfield 29, 3) := by decide +kernel
theorem dX8_init_41 : decode cX8_init 41 = .ok (.aload_n 0, 1) := by decide +kernel
theorem dX8_init_42 : decode cX8_init 42 = .ok (.bipush 8, 2) := by decide +kernel
theorem dX8_init_44 : decode cX8_init 44 = .ok (.newarray .int, 2) := by decide +kernel
theorem dX8_init_46 : decode cX8_init 46 = .ok (.putfield 32, 3) := by decide +kernel
theorem dX8_init_49 : decode cX8_init 49 = .ok (.aload_n 0, 1) := by decide +kernel
theorem dX8_init_50 : decode cX8_init 50 = .ok (.bipush 8, 2) := by decide +kernel
theorem dX8_init_52 : decode cX8_init 52 = .ok (.newarray .int, 2) := by decide +kernel
theorem dX8_init_54 : decode cX8_init 54 = .ok (.putfield 35, 3) := by decide +kernel
theorem dX8_init_57 : decode cX8_init 57 = .ok (.aload_n 0, 1) := by decide +kernel
theorem dX8_init_58 : decode cX8_init 58 = .ok (.bipush 8, 2) := by decide +kernel
theorem dX8_init_60 : decode cX8_init 60 = .ok (.newarray .int, 2) := by decide +kernel
theorem dX8_init_62 : decode cX8_init 62 = .ok (.putfield 38, 3) := by decide +kernel
theorem dX8_init_65 : decode cX8_init 65 = .ok (.aload_n 0, 1) := by decide +kernel
theorem dX8_init_66 : decode cX8_init 66 = .ok (.bipush 8, 2) := by decide +kernel
theorem dX8_init_68 : decode cX8_init 68 = .ok (.newarray .int, 2) := by decide +kernel
theorem dX8_init_70 : decode cX8_init 70 = .ok (.putfield 41, 3) := by decide +kernel
theorem dX8_init_73 : decode cX8_init 73 = .ok (.aload_n 0, 1) := by decide +kernel
theorem dX8_init_74 : decode cX8_init 74 = .ok (.iconst 0, 1) := by decide +kernel
theorem dX8_init_75 : decode cX8_init 75 = .ok (.putfield 44, 3) := by decide +kernel
theorem dX8_init_78 : decode cX8_init 78 = .ok (.aload_n 0, 1) := by decide +kernel
theorem dX8_init_79 : decode cX8_init 79 = .ok (.bipush 6, 2) := by decide +kernel
theorem dX8_init_81 : decode cX8_init 81 = .ok (.newarray .int, 2) := by decide +kernel
theorem dX8_init_83 : decode cX8_init 83 = .ok (.putfield 47, 3) := by decide +kernel
theorem dX8_init_86 : decode cX8_init 86 = .ok (.aload_n 0, 1) := by decide +kernel
theorem dX8_init_87 : decode cX8_init 87 = .ok (.bipush 6, 2) := by decide +kernel
theorem dX8_init_89 : decode cX8_init 89 = .ok (.newarray .int, 2) := by decide +kernel
theorem dX8_init_91 : decode cX8_init 91 = .ok (.putfield 50, 3) := by decide +kernel
theorem dX8_init_94 : decode cX8_init 94 = .ok (.aload_n 0, 1) := by decide +kernel
theorem dX8_init_95 : decode cX8_init 95 = .ok (.iconst 3, 1) := by decide +kernel
theorem dX8_init_96 : decode cX8_init 96 = .ok (.putfield 53, 3) := by decide +kernel
theorem dX8_init_99 : decode cX8_init 99 = .ok (.aload_n 0, 1) := by decide +kernel
theorem dX8_init_100 : decode cX8_init 100 = .ok (.iconst 0, 1) := by decide +kernel
theorem dX8_init_101 : decode cX8_init 101 = .ok (.putfield 56, 3) := by decide +kernel
theorem dX8_init_104 : decode cX8_init 104 = .ok (.aload_n 0, 1) := by decide +kernel
theorem dX8_init_105 : decode cX8_init 105 = .ok (.iconst 0, 1) := by decide +kernel
theorem dX8_init_106 : decode cX8_init 106 = .ok (.putfield 59, 3) := by decide +kernel
theorem dX8_init_109 : decode cX8_init 109 = .ok (.aload_n 0, 1) := by decide +kernel
theorem dX8_init_110 : decode cX8_init 110 = .ok (.bipush 6, 2) := by decide +kernel
theorem dX8_init_112 : decode cX8_init 112 = .ok (.anewarray 62, 3) := by decide +kernel
theorem dX8_init_115 : decode cX8_init 115 = .ok (.putfield 64, 3) := by decide +kernel
theorem dX8_init_118 : decode cX8_init 118 = .ok (.aload_n 0, 1) := by decide +kernel
theorem dX8_init_119 : decode cX8_init 119 = .ok (.iconst (-1), 1) := by decide +kernel
theorem dX8_init_120 : decode cX8_init 120 = .ok (.putfield 68, 3) := by decide +kernel
theorem dX8_init_123 : decode cX8_init 123 = .ok (.return_, 1) := by decide +kernel
theorem dX8_copyFrom_0 : decode cX8_copyFrom 0 = .ok (.aload_n 0, 1) := by decide +kernel
theorem dX8_copyFrom_1 : decode cX8_copyFrom 1 = .ok (.getfield 12, 3) := by decide +kernel
theorem dX8_copyFrom_4 : decode cX8_copyFrom 4 = .ok (.aload_n 1, 1) := by decide +kernel
theorem dX8_copyFrom_5 : decode cX8_copyFrom 5 = .ok (.getfield 12, 3) := by decide +kernel
theorem dX8_copyFrom_8 : decode cX8_copyFrom 8 = .ok (.invokevirtual 71, 3) := by decide +kernel
theorem dX8_copyFrom_11 : decode cX8_copyFrom 11 = .ok (.aload_n 0, 1) := by decide +kernel
theorem dX8_copyFrom_12 : decode cX8_copyFrom 12 = .ok (.aload_n 1, 1) := by decide +kernel
theorem dX8_copyFrom_13 : decode cX8_copyFrom 13 = .ok (.getfield 18, 3) := by decide +kernel
theorem dX8_copyFrom_16 : decode cX8_copyFrom 16 = .ok (.putfield 18, 3) := by decide +kernel
theorem dX8_copyFrom_19 : decode cX8_copyFrom 19 = .ok (.aload_n 1, 1) := by decide +kernel
theorem dX8_copyFrom_20 : decode cX8_copyFrom 20 = .ok (.getfield 22, 3) := by decide +kernel
theorem dX8_copyFrom_23 : decode cX8_copyFrom 23 = .ok (.iconst 0, 1) := by decide +kernel
theorem dX8_copyFrom_24 : decode cX8_copyFrom 24 = .ok (.aload_n 0, 1) := by decide +kernel
theorem dX8_copyFrom_25 : decode cX8_copyFrom 25 = .ok (.getfield 22, 3) := by decide +kernel
theorem dX8_copyFrom_28 : decode cX8_copyFrom 28 = .ok (.iconst 0, 1) := by decide +kernel
theorem dX8_copyFrom_29 : decode cX8_copyFrom 29 = .ok (.aload_n 0, 1) := by decide +kernel
theorem dX8_copyFrom_30 : decode cX8_copyFrom 30 = .ok (.getfield 22, 3) := by decide +kernel
theorem dX8_copyFrom_33 : decode cX8_copyFrom 33 = .ok (.arraylength, 1) := by decide +kernel
theorem dX8_copyFrom_34 : decode cX8_copyFrom 34 = .ok (.invokestatic 75, 3) := by decide +kernel
theorem dX8_copyFrom_37 : decode cX8_copyFrom 37 = .ok (.aload_n 1, 1) := by decide +kernel
theorem dX8_copyFrom_38 : decode cX8_copyFrom 38 = .ok (.getfield 26, 3) := by decide +kernel
theorem dX8_copyFrom_41 : decode cX8_copyFrom 41 = .ok (.iconst 0, 1) := by decide +kernel
theorem dX8_copyFrom_42 : decode cX8_copyFrom 42 = .ok (.aload_n 0, 1) := by decide +kernel
theorem dX8_copyFrom_43 : decode cX8_copyFrom 43 = .ok (.getfield 26, 3) := by decide +kernel
theorem dX8_copyFrom_46 : decode cX8_copyFrom 46 = .ok (.iconst 0, 1) := by decide +kernel
theorem dX8_copyFrom_47 : decode cX8_copyFrom 47 = .ok (.aload_n 0, 1) := by decide +kernel
theorem dX8_copyFrom_48 : decode cX8_copyFrom 48 = .ok (.getfield 26, 3) := by decide +kernel
theorem dX8_copyFrom_51 : decode cX8_copyFrom 51 = .ok (.arraylength, 1) := by decide +kernel
theorem dX8_copyFrom_52 : decode cX8_copyFrom 52 = .ok (.invokestatic 75, 3) := by decide +kernel
theorem dX8_copyFrom_55 : decode cX8_copyFrom 55 = .ok (.aload_n 0, 1) := by decide +kernel
theorem dX8_copyFrom_56 : decode cX8_copyFrom 56 = .ok (.aload_n 1, 1) := by decide +kernel
theorem dX8_copyFrom_57 : decode cX8_copyFrom 57 = .ok (.getfield 29, 3) := by decide +kernel
theorem dX8_copyFrom_60 : decode cX8_copyFrom 60 = .ok (.putfield 29, 3) := by decide +kernel
theorem dX8_copyFrom_63 : decode cX8_copyFrom 63 = .ok (.aload_n 1, 1) := by decide +kernel
theorem dX8_copyFrom_64 : decode cX8_copyFrom 64 = .ok (.getfield 32, 3) := by decide +kernel
theorem dX8_copyFrom_67 : decode cX8_copyFrom 67 = .ok (.iconst 0, 1) := by decide +kernel
theorem dX8_copyFrom_68 : decode cX8_copyFrom 68 = .ok (.aload_n 0, 1) := by decide +kernel
theorem dX8_copyFrom_69 : decode cX8_copyFrom 69 = .ok (.getfield 32, 3) := by decide +kernel
theorem dX8_copyFrom_72 : decode cX8_copyFrom 72 = .ok (.iconst 0, 1) := by decide +kernel
theorem dX8_copyFrom_73 : decode cX8_copyFrom 73 = .ok (.aload_n 0, 1) := by decide +kernel
theorem dX8_copyFrom_74 : decode cX8_copyFrom 74 = .ok (.getfield 32, 3) := by decide +kernel
theorem dX8_copyFrom_77 : decode cX8_copyFrom 77 = .ok (.arraylength, 1) := by decide +kernel
theorem dX8_copyFrom_78 : decode cX8_copyFrom 78 = .ok (.invokestatic 75, 3) := by decide +kernel
theorem dX8_copyFrom_81 : decode cX8_copyFrom 81 = .ok (.aload_n 1, 1) := by decide +kernel
theorem dX8_copyFrom_82 : decode cX8_copyFrom 82 = .ok (.getfield 35, 3) := by decide +kernel
theorem dX8_copyFrom_85 : decode cX8_copyFrom 85 = .ok (.iconst 0, 1) := by decide +kernel
theorem dX8_copyFrom_86 : decode cX8_copyFrom 86 = .ok (.aload_n 0, 1) := by decide +kernel
theorem dX8_copyFrom_87 : decode cX8_copyFrom 87 = .ok (.getfield 35, 3) := by decide +kernel
theorem dX8_copyFrom_90 : decode cX8_copyFrom 90 = .ok (.iconst 0, 1) := by decide +kernel
theorem dX8_copyFrom_91 : decode cX8_copyFrom 91 = .ok (.aload_n 0, 1) := by decide +kernel
theorem dX8_copyFrom_92 : decode cX8_copyFrom 92 = .ok (.getfield 35, 3) := by decide +kernel
theorem dX8_copyFrom_95 : decode cX8_copyFrom 95 = .ok (.arraylength, 1) := by decide +kernel
theorem dX8_copyFrom_96 : decode cX8_copyFrom 96 = .ok (.invokestatic 75, 3) := by decide +kernel
theorem dX8_copyFrom_99 : decode cX8_copyFrom 99 = .ok (.aload_n 1, 1) := by decide +kernel
theorem dX8_copyFrom_100 : decode cX8_copyFrom 100 = .ok (.getfield 38, 3) := by decide +kernel
theorem dX8_copyFrom_103 : decode cX8_copyFrom 103 = .ok (.iconst 0, 1) := by decide +kernel
theorem dX8_copyFrom_104 : decode cX8_copyFrom 104 = .ok (.aload_n 0, 1) := by decide +kernel
theorem dX8_copyFrom_105 : decode cX8_copyFrom 105 = .ok (.getfield 38, 3) := by decide +kernel
theorem dX8_copyFrom_108 : decode cX8_copyFrom 108 = .ok (.iconst 0, 1) := by decide +kernel
theorem dX8_copyFrom_109 : decode cX8_copyFrom 109 = .ok (.aload_n 0, 1) := by decide +kernel
theorem dX8_copyFrom_110 : decode cX8_copyFrom 110 = .ok (.getfield 38, 3) := by decide +kernel
theorem dX8_copyFrom_113 : decode cX8_copyFrom 113 = .ok (.arraylength, 1) := by decide +kernel
theorem dX8_copyFrom_114 : decode cX8_copyFrom 114 = .ok (.invokestatic 75, 3) := by decide +kernel
theorem dX8_copyFrom_117 : decode cX8_copyFrom 117 = .ok (.aload_n 1, 1) := by decide +kernel
theorem dX8_copyFrom_118 : decode cX8_copyFrom 118 = .ok (.getfield 41, 3) := by decide +kernel
theorem dX8_copyFrom_121 : decode cX8_copyFrom 121 = .ok (.iconst 0, 1) := by decide +kernel
theorem dX8_copyFrom_122 : decode cX8_copyFrom 122 = .ok (.aload_n 0, 1) := by decide +kernel
theorem dX8_copyFrom_123 : decode cX8_copyFrom 123 = .ok (.getfield 41, 3) := by decide +kernel
theorem dX8_copyFrom_126 : decode cX8_copyFrom 126 = .ok (.iconst 0, 1) := by decide +kernel
theorem dX8_copyFrom_127 : decode cX8_copyFrom 127 = .ok (.aload_n 0, 1) := by decide +kernel
theorem dX8_copyFrom_128 : decode cX8_copyFrom 128 = .ok (.getfield 41, 3) := by decide +kernel
theorem dX8_copyFrom_131 : decode cX8_copyFrom 131 = .ok (.arraylength, 1) := by decide +kernel
theorem dX8_copyFrom_132 : decode cX8_copyFrom 132 = .ok (.invokestatic 75, 3) := by decide +kernel
theorem dX8_copyFrom_135 : decode cX8_copyFrom 135 = .ok (.aload_n 0, 1) := by decide +kernel
theorem dX8_copyFrom_136 : decode cX8_copyFrom 136 = .ok (.aload_n 1, 1) := by decide +kernel
theorem dX8_copyFrom_137 : decode cX8_copyFrom 137 = .ok (.getfield 44, 3) := by decide +kernel
theorem dX8_copyFrom_140 : decode cX8_copyFrom 140 = .ok (.putfield 44, 3) := by decide +kernel
theorem dX8_copyFrom_143 : decode cX8_copyFrom 143 = .ok (.aload_n 1, 1) := by decide +kernel
theorem dX8_copyFrom_144 : decode cX8_copyFrom 144 = .ok (.getfield 47, 3) := by decide +kernel
theorem dX8_copyFrom_147 : decode cX8_copyFrom 147 = .ok (.iconst 0, 1) := by decide +kernel
theorem dX8_copyFrom_148 : decode cX8_copyFrom 148 = .ok (.aload_n 0, 1) := by decide +kernel
theorem dX8_copyFrom_149 : decode cX8_copyFrom 149 = .ok (.getfield 47, 3) := by decide +kernel
theorem dX8_copyFrom_152 : decode cX8_copyFrom 152 = .ok (.iconst 0, 1) := by decide +kernel
theorem dX8_copyFrom_153 : decode cX8_copyFrom 153 = .ok (.aload_n 0, 1) := by decide +kernel
theorem dX8_copyFrom_154 : decode cX8_copyFrom 154 = .ok (.getfield 47, 3) := by decide +kernel
theorem dX8_copyFrom_157 : decode cX8_copyFrom 157 = .ok (.arraylength, 1) := by decide +kernel
theorem dX8_copyFrom_158 : decode cX8_copyFrom 158 = .ok (.invokestatic 75, 3) := by decide +kernel
theorem dX8_copyFrom_161 : decode cX8_copyFrom 161 = .ok (.aload_n 1, 1) := by decide +kernel
theorem dX8_copyFrom_162 : decode cX8_copyFrom 162 = .ok (.getfield 50, 3) := by decide +kernel
theorem dX8_copyFrom_165 : decode cX8_copyFrom 165 = .ok (.iconst 0, 1) := by decide +kernel
theorem dX8_copyFrom_166 : decode cX8_copyFrom 166 = .ok (.aload_n 0, 1) := by decide +kernel
theorem dX8_copyFrom_167 : decode cX8_copyFrom 167 = .ok (.getfield 50, 3) := by decide +kernel
theorem dX8_copyFrom_170 : decode cX8_copyFrom 170 = .ok (.iconst 0, 1) := by decide +kernel
theorem dX8_copyFrom_171 : decode cX8_copyFrom 171 = .ok (.aload_n 0, 1) := by decide +kernel
theorem dX8_copyFrom_172 : decode cX8_copyFrom 172 = .ok (.getfield 50, 3) := by decide +kernel
theorem dX8_copyFrom_175 : decode cX8_copyFrom 175 = .ok (.arraylength, 1) := by decide +kernel
theorem dX8_copyFrom_176 : decode cX8_copyFrom 176 = .ok (.invokestatic 75, 3) := by decide +kernel
theorem dX8_copyFrom_179 : decode cX8_copyFrom 179 = .ok (.aload_n 0, 1) := by decide +kernel
theorem dX8_copyFrom_180 : decode cX8_copyFrom 180 = .ok (.aload_n 1, 1) := by decide +kernel
theorem dX8_copyFrom_181 : decode cX8_copyFrom 181 = .ok (.getfield 53, 3) := by decide +kernel
theorem dX8_copyFrom_184 : decode cX8_copyFrom 184 = .ok (.putfield 53, 3) := by decide +kernel
theorem dX8_copyFrom_187 : decode cX8_copyFrom 187 = .ok (.aload_n 0, 1) := by decide +kernel
theorem dX8_copyFrom_188 : decode cX8_copyFrom 188 = .ok (.aload_n 1, 1) := by decide +kernel
theorem dX8_copyFrom_189 : decode cX8_copyFrom 189 = .ok (.getfield 56, 3) := by decide +kernel
theorem dX8_copyFrom_192 : decode cX8_copyFrom 192 = .ok (.putfield 56, 3) := by decide +kernel
theorem dX8_copyFrom_195 : decode cX8_copyFrom 195 = .ok (.aload_n 0, 1) := by decide +kernel
theorem dX8_copyFrom_196 : decode cX8_copyFrom 196 = .ok (.aload_n 1, 1) := by decide +kernel
theorem dX8_copyFrom_197 : decode cX8_copyFrom 197 = .ok (.getfield 59, 3) := by decide +kernel
theorem dX8_copyFrom_200 : decode cX8_copyFrom 200 = .ok (.putfield 59, 3) := by decide +kernel
theorem dX8_copyFrom_203 : decode cX8_copyFrom 203 = .ok (.iconst 0, 1) := by decide +kernel
theorem dX8_copyFrom_204 : decode cX8_copyFrom 204 = .ok (.istore_n 2, 1) := by decide +kernel
theorem dX8_copyFrom_205 : decode cX8_copyFrom 205 = .ok (.iload_n 2, 1) := by decide +kernel
theorem dX8_copyFrom_206 : decode cX8_copyFrom 206 = .ok (.bipush 6, 2) := by decide +kernel
theorem dX8_copyFrom_208 : decode cX8_copyFrom 208 = .ok (.if_icmp .ge 21, 3) := by decide +kernel
theorem dX8_copyFrom_211 : decode cX8_copyFrom 211 = .ok (.aload_n 0, 1) := by decide +kernel
theorem dX8_copyFrom_212 : decode cX8_copyFrom 212 = .ok (.getfield 64, 3) := by decide +kernel
theorem dX8_copyFrom_215 : decode cX8_copyFrom 215 = .ok (.iload_n 2, 1) := by decide +kernel
theorem dX8_copyFrom_216 : decode cX8_copyFrom 216 = .ok (.aload_n 1, 1) := by decide +kernel
theorem dX8_copyFrom_217 : decode cX8_copyFrom 217 = .ok (.getfield 64, 3) := by decide +kernel
theorem dX8_copyFrom_220 : decode cX8_copyFrom 220 = .ok (.iload_n 2, 1) := by decide +kernel
theorem dX8_copyFrom_221 : decode cX8_copyFrom 221 = .ok (.aaload, 1) := by decide +kernel
theorem dX8_copyFrom_222 : decode cX8_copyFrom 222 = .ok (.aastore, 1) := by decide +kernel
theorem dX8_copyFrom_223 : decode cX8_copyFrom 223 = .ok (.iinc 2 1, 3) := by decide +kernel
