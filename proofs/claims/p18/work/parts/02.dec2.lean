theorem dX8_copyFrom_226 : decode cX8_copyFrom 226 = .ok (.goto (-21), 3) := by decide +kernel
theorem dX8_copyFrom_229 : decode cX8_copyFrom 229 = .ok (.aload_n 0, 1) := by decide +kernel
theorem dX8_copyFrom_230 : decode cX8_copyFrom 230 = .ok (.aload_n 1, 1) := by decide +kernel
theorem dX8_copyFrom_231 : decode cX8_copyFrom 231 = .ok (.getfield 68, 3) := by decide +kernel
theorem dX8_copyFrom_234 : decode cX8_copyFrom 234 = .ok (.putfield 68, 3) := by decide +kernel
theorem dX8_copyFrom_237 : decode cX8_copyFrom 237 = .ok (.return_, 1) := by decide +kernel
theorem dX8_addHouse_0 : decode cX8_addHouse 0 = .ok (.aload_n 0, 1) := by decide +kernel
theorem dX8_addHouse_1 : decode cX8_addHouse 1 = .ok (.getfield 18, 3) := by decide +kernel
theorem dX8_addHouse_4 : decode cX8_addHouse 4 = .ok (.bipush 6, 2) := by decide +kernel
theorem dX8_addHouse_6 : decode cX8_addHouse 6 = .ok (.if_icmp .lt 5, 3) := by decide +kernel
theorem dX8_addHouse_9 : decode cX8_addHouse 9 = .ok (.iconst (-1), 1) := by decide +kernel
theorem dX8_addHouse_10 : decode cX8_addHouse 10 = .ok (.ireturn, 1) := by decide +kernel
theorem dX8_addHouse_11 : decode cX8_addHouse 11 = .ok (.aload_n 0, 1) := by decide +kernel
theorem dX8_addHouse_12 : decode cX8_addHouse 12 = .ok (.getfield 18, 3) := by decide +kernel
theorem dX8_addHouse_15 : decode cX8_addHouse 15 = .ok (.istore_n 3, 1) := by decide +kernel
theorem dX8_addHouse_16 : decode cX8_addHouse 16 = .ok (.aload_n 0, 1) := by decide +kernel
theorem dX8_addHouse_17 : decode cX8_addHouse 17 = .ok (.dup, 1) := by decide +kernel
theorem dX8_addHouse_18 : decode cX8_addHouse 18 = .ok (.getfield 18, 3) := by decide +kernel
theorem dX8_addHouse_21 : decode cX8_addHouse 21 = .ok (.iconst 1, 1) := by decide +kernel
theorem dX8_addHouse_22 : decode cX8_addHouse 22 = .ok (.iadd, 1) := by decide +kernel
theorem dX8_addHouse_23 : decode cX8_addHouse 23 = .ok (.putfield 18, 3) := by decide +kernel
theorem dX8_addHouse_26 : decode cX8_addHouse 26 = .ok (.aload_n 0, 1) := by decide +kernel
theorem dX8_addHouse_27 : decode cX8_addHouse 27 = .ok (.getfield 22, 3) := by decide +kernel
theorem dX8_addHouse_30 : decode cX8_addHouse 30 = .ok (.iload_n 3, 1) := by decide +kernel
theorem dX8_addHouse_31 : decode cX8_addHouse 31 = .ok (.iload_n 1, 1) := by decide +kernel
theorem dX8_addHouse_32 : decode cX8_addHouse 32 = .ok (.iastore, 1) := by decide +kernel
theorem dX8_addHouse_33 : decode cX8_addHouse 33 = .ok (.aload_n 0, 1) := by decide +kernel
theorem dX8_addHouse_34 : decode cX8_addHouse 34 = .ok (.getfield 26, 3) := by decide +kernel
theorem dX8_addHouse_37 : decode cX8_addHouse 37 = .ok (.iload_n 3, 1) := by decide +kernel
theorem dX8_addHouse_38 : decode cX8_addHouse 38 = .ok (.iload_n 2, 1) := by decide +kernel
theorem dX8_addHouse_39 : decode cX8_addHouse 39 = .ok (.iastore, 1) := by decide +kernel
theorem dX8_addHouse_40 : decode cX8_addHouse 40 = .ok (.aload_n 0, 1) := by decide +kernel
theorem dX8_addHouse_41 : decode cX8_addHouse 41 = .ok (.getfield 12, 3) := by decide +kernel
theorem dX8_addHouse_44 : decode cX8_addHouse 44 = .ok (.getfield 81, 3) := by decide +kernel
theorem dX8_addHouse_47 : decode cX8_addHouse 47 = .ok (.iload_n 3, 1) := by decide +kernel
theorem dX8_addHouse_48 : decode cX8_addHouse 48 = .ok (.iconst 0, 1) := by decide +kernel
theorem dX8_addHouse_49 : decode cX8_addHouse 49 = .ok (.iastore, 1) := by decide +kernel
theorem dX8_addHouse_50 : decode cX8_addHouse 50 = .ok (.iconst 0, 1) := by decide +kernel
theorem dX8_addHouse_51 : decode cX8_addHouse 51 = .ok (.istore 4, 2) := by decide +kernel
theorem dX8_addHouse_53 : decode cX8_addHouse 53 = .ok (.iload 4, 2) := by decide +kernel
theorem dX8_addHouse_55 : decode cX8_addHouse 55 = .ok (.bipush 8, 2) := by decide +kernel
theorem dX8_addHouse_57 : decode cX8_addHouse 57 = .ok (.if_icmp .ge 39, 3) := by decide +kernel
theorem dX8_addHouse_60 : decode cX8_addHouse 60 = .ok (.aload_n 0, 1) := by decide +kernel
theorem dX8_addHouse_61 : decode cX8_addHouse 61 = .ok (.getfield 12, 3) := by decide +kernel
theorem dX8_addHouse_64 : decode cX8_addHouse 64 = .ok (.getfield 84, 3) := by decide +kernel
theorem dX8_addHouse_67 : decode cX8_addHouse 67 = .ok (.iload 4, 2) := by decide +kernel
theorem dX8_addHouse_69 : decode cX8_addHouse 69 = .ok (.iload_n 3, 1) := by decide +kernel
theorem dX8_addHouse_70 : decode cX8_addHouse 70 = .ok (.invokestatic 87, 3) := by decide +kernel
theorem dX8_addHouse_73 : decode cX8_addHouse 73 = .ok (.iconst 0, 1) := by decide +kernel
theorem dX8_addHouse_74 : decode cX8_addHouse 74 = .ok (.iastore, 1) := by decide +kernel
theorem dX8_addHouse_75 : decode cX8_addHouse 75 = .ok (.aload_n 0, 1) := by decide +kernel
theorem dX8_addHouse_76 : decode cX8_addHouse 76 = .ok (.getfield 12, 3) := by decide +kernel
theorem dX8_addHouse_79 : decode cX8_addHouse 79 = .ok (.getfield 91, 3) := by decide +kernel
theorem dX8_addHouse_82 : decode cX8_addHouse 82 = .ok (.iload 4, 2) := by decide +kernel
theorem dX8_addHouse_84 : decode cX8_addHouse 84 = .ok (.iload_n 3, 1) := by decide +kernel
theorem dX8_addHouse_85 : decode cX8_addHouse 85 = .ok (.invokestatic 87, 3) := by decide +kernel
theorem dX8_addHouse_88 : decode cX8_addHouse 88 = .ok (.iconst 0, 1) := by decide +kernel
theorem dX8_addHouse_89 : decode cX8_addHouse 89 = .ok (.iastore, 1) := by decide +kernel
theorem dX8_addHouse_90 : decode cX8_addHouse 90 = .ok (.iinc 4 1, 3) := by decide +kernel
theorem dX8_addHouse_93 : decode cX8_addHouse 93 = .ok (.goto (-40), 3) := by decide +kernel
theorem dX8_addHouse_96 : decode cX8_addHouse 96 = .ok (.iload_n 3, 1) := by decide +kernel
theorem dX8_addHouse_97 : decode cX8_addHouse 97 = .ok (.ireturn, 1) := by decide +kernel
theorem dX8_addPerson_0 : decode cX8_addPerson 0 = .ok (.aload_n 0, 1) := by decide +kernel
theorem dX8_addPerson_1 : decode cX8_addPerson 1 = .ok (.getfield 29, 3) := by decide +kernel
theorem dX8_addPerson_4 : decode cX8_addPerson 4 = .ok (.bipush 8, 2) := by decide +kernel
theorem dX8_addPerson_6 : decode cX8_addPerson 6 = .ok (.if_icmp .lt 5, 3) := by decide +kernel
theorem dX8_addPerson_9 : decode cX8_addPerson 9 = .ok (.iconst (-1), 1) := by decide +kernel
theorem dX8_addPerson_10 : decode cX8_addPerson 10 = .ok (.ireturn, 1) := by decide +kernel
theorem dX8_addPerson_11 : decode cX8_addPerson 11 = .ok (.aload_n 0, 1) := by decide +kernel
theorem dX8_addPerson_12 : decode cX8_addPerson 12 = .ok (.getfield 29, 3) := by decide +kernel
theorem dX8_addPerson_15 : decode cX8_addPerson 15 = .ok (.istore 4, 2) := by decide +kernel
theorem dX8_addPerson_17 : decode cX8_addPerson 17 = .ok (.aload_n 0, 1) := by decide +kernel
theorem dX8_addPerson_18 : decode cX8_addPerson 18 = .ok (.dup, 1) := by decide +kernel
theorem dX8_addPerson_19 : decode cX8_addPerson 19 = .ok (.getfield 29, 3) := by decide +kernel
theorem dX8_addPerson_22 : decode cX8_addPerson 22 = .ok (.iconst 1, 1) := by decide +kernel
theorem dX8_addPerson_23 : decode cX8_addPerson 23 = .ok (.iadd, 1) := by decide +kernel
theorem dX8_addPerson_24 : decode cX8_addPerson 24 = .ok (.putfield 29, 3) := by decide +kernel
theorem dX8_addPerson_27 : decode cX8_addPerson 27 = .ok (.aload_n 0, 1) := by decide +kernel
theorem dX8_addPerson_28 : decode cX8_addPerson 28 = .ok (.getfield 32, 3) := by decide +kernel
theorem dX8_addPerson_31 : decode cX8_addPerson 31 = .ok (.iload 4, 2) := by decide +kernel
theorem dX8_addPerson_33 : decode cX8_addPerson 33 = .ok (.iload_n 1, 1) := by decide +kernel
theorem dX8_addPerson_34 : decode cX8_addPerson 34 = .ok (.iastore, 1) := by decide +kernel
theorem dX8_addPerson_35 : decode cX8_addPerson 35 = .ok (.aload_n 0, 1) := by decide +kernel
theorem dX8_addPerson_36 : decode cX8_addPerson 36 = .ok (.getfield 35, 3) := by decide +kernel
theorem dX8_addPerson_39 : decode cX8_addPerson 39 = .ok (.iload 4, 2) := by decide +kernel
theorem dX8_addPerson_41 : decode cX8_addPerson 41 = .ok (.iload_n 2, 1) := by decide +kernel
theorem dX8_addPerson_42 : decode cX8_addPerson 42 = .ok (.iastore, 1) := by decide +kernel
theorem dX8_addPerson_43 : decode cX8_addPerson 43 = .ok (.aload_n 0, 1) := by decide +kernel
theorem dX8_addPerson_44 : decode cX8_addPerson 44 = .ok (.getfield 38, 3) := by decide +kernel
theorem dX8_addPerson_47 : decode cX8_addPerson 47 = .ok (.iload 4, 2) := by decide +kernel
theorem dX8_addPerson_49 : decode cX8_addPerson 49 = .ok (.iconst (-1), 1) := by decide +kernel
theorem dX8_addPerson_50 : decode cX8_addPerson 50 = .ok (.iastore, 1) := by decide +kernel
theorem dX8_addPerson_51 : decode cX8_addPerson 51 = .ok (.aload_n 0, 1) := by decide +kernel
theorem dX8_addPerson_52 : decode cX8_addPerson 52 = .ok (.getfield 41, 3) := by decide +kernel
theorem dX8_addPerson_55 : decode cX8_addPerson 55 = .ok (.iload 4, 2) := by decide +kernel
theorem dX8_addPerson_57 : decode cX8_addPerson 57 = .ok (.iconst 0, 1) := by decide +kernel
theorem dX8_addPerson_58 : decode cX8_addPerson 58 = .ok (.iastore, 1) := by decide +kernel
theorem dX8_addPerson_59 : decode cX8_addPerson 59 = .ok (.aload_n 0, 1) := by decide +kernel
theorem dX8_addPerson_60 : decode cX8_addPerson 60 = .ok (.getfield 12, 3) := by decide +kernel
theorem dX8_addPerson_63 : decode cX8_addPerson 63 = .ok (.getfield 94, 3) := by decide +kernel
theorem dX8_addPerson_66 : decode cX8_addPerson 66 = .ok (.iload 4, 2) := by decide +kernel
theorem dX8_addPerson_68 : decode cX8_addPerson 68 = .ok (.iload_n 3, 1) := by decide +kernel
theorem dX8_addPerson_69 : decode cX8_addPerson 69 = .ok (.iastore, 1) := by decide +kernel
theorem dX8_addPerson_70 : decode cX8_addPerson 70 = .ok (.aload_n 0, 1) := by decide +kernel
theorem dX8_addPerson_71 : decode cX8_addPerson 71 = .ok (.getfield 12, 3) := by decide +kernel
theorem dX8_addPerson_74 : decode cX8_addPerson 74 = .ok (.dup, 1) := by decide +kernel
theorem dX8_addPerson_75 : decode cX8_addPerson 75 = .ok (.getfield 97, 3) := by decide +kernel
theorem dX8_addPerson_78 : decode cX8_addPerson 78 = .ok (.iconst 1, 1) := by decide +kernel
theorem dX8_addPerson_79 : decode cX8_addPerson 79 = .ok (.iload 4, 2) := by decide +kernel
theorem dX8_addPerson_81 : decode cX8_addPerson 81 = .ok (.ishl, 1) := by decide +kernel
theorem dX8_addPerson_82 : decode cX8_addPerson 82 = .ok (.iconst (-1), 1) := by decide +kernel
theorem dX8_addPerson_83 : decode cX8_addPerson 83 = .ok (.ixor, 1) := by decide +kernel
theorem dX8_addPerson_84 : decode cX8_addPerson 84 = .ok (.iand, 1) := by decide +kernel
theorem dX8_addPerson_85 : decode cX8_addPerson 85 = .ok (.putfield 97, 3) := by decide +kernel
theorem dX8_addPerson_88 : decode cX8_addPerson 88 = .ok (.iconst 0, 1) := by decide +kernel
theorem dX8_addPerson_89 : decode cX8_addPerson 89 = .ok (.istore 5, 2) := by decide +kernel
theorem dX8_addPerson_91 : decode cX8_addPerson 91 = .ok (.iload 5, 2) := by decide +kernel
theorem dX8_addPerson_93 : decode cX8_addPerson 93 = .ok (.bipush 6, 2) := by decide +kernel
theorem dX8_addPerson_95 : decode cX8_addPerson 95 = .ok (.if_icmp .ge 41, 3) := by decide +kernel
theorem dX8_addPerson_98 : decode cX8_addPerson 98 = .ok (.aload_n 0, 1) := by decide +kernel
theorem dX8_addPerson_99 : decode cX8_addPerson 99 = .ok (.getfield 12, 3) := by decide +kernel
theorem dX8_addPerson_102 : decode cX8_addPerson 102 = .ok (.getfield 84, 3) := by decide +kernel
theorem dX8_addPerson_105 : decode cX8_addPerson 105 = .ok (.iload 4, 2) := by decide +kernel
theorem dX8_addPerson_107 : decode cX8_addPerson 107 = .ok (.iload 5, 2) := by decide +kernel
theorem dX8_addPerson_109 : decode cX8_addPerson 109 = .ok (.invokestatic 87, 3) := by decide +kernel
theorem dX8_addPerson_112 : decode cX8_addPerson 112 = .ok (.iconst 0, 1) := by decide +kernel
theorem dX8_addPerson_113 : decode cX8_addPerson 113 = .ok (.iastore, 1) := by decide +kernel
theorem dX8_addPerson_114 : decode cX8_addPerson 114 = .ok (.aload_n 0, 1) := by decide +kernel
theorem dX8_addPerson_115 : decode cX8_addPerson 115 = .ok (.getfield 12, 3) := by decide +kernel
theorem dX8_addPerson_118 : decode cX8_addPerson 118 = .ok (.getfield 91, 3) := by decide +kernel
theorem dX8_addPerson_121 : decode cX8_addPerson 121 = .ok (.iload 4, 2) := by decide +kernel
theorem dX8_addPerson_123 : decode cX8_addPerson 123 = .ok (.iload 5, 2) := by decide +kernel
theorem dX8_addPerson_125 : decode cX8_addPerson 125 = .ok (.invokestatic 87, 3) := by decide +kernel
theorem dX8_addPerson_128 : decode cX8_addPerson 128 = .ok (.iconst 0, 1) := by decide +kernel
theorem dX8_addPerson_129 : decode cX8_addPerson 129 = .ok (.iastore, 1) := by decide +kernel
theorem dX8_addPerson_130 : decode cX8_addPerson 130 = .ok (.iinc 5 1, 3) := by decide +kernel
theorem dX8_addPerson_133 : decode cX8_addPerson 133 = .ok (.goto (-42), 3) := by decide +kernel
theorem dX8_addPerson_136 : decode cX8_addPerson 136 = .ok (.iload 4, 2) := by decide +kernel
theorem dX8_addPerson_138 : decode cX8_addPerson 138 = .ok (.ireturn, 1) := by decide +kernel
theorem dX8_addLaw_0 : decode cX8_addLaw 0 = .ok (.aload_n 0, 1) := by decide +kernel
theorem dX8_addLaw_1 : decode cX8_addLaw 1 = .ok (.getfield 59, 3) := by decide +kernel
theorem dX8_addLaw_4 : decode cX8_addLaw 4 = .ok (.bipush 6, 2) := by decide +kernel
theorem dX8_addLaw_6 : decode cX8_addLaw 6 = .ok (.if_icmp .lt 5, 3) := by decide +kernel
theorem dX8_addLaw_9 : decode cX8_addLaw 9 = .ok (.iconst (-1), 1) := by decide +kernel
theorem dX8_addLaw_10 : decode cX8_addLaw 10 = .ok (.ireturn, 1) := by decide +kernel
theorem dX8_addLaw_11 : decode cX8_addLaw 11 = .ok (.aload_n 0, 1) := by decide +kernel
theorem dX8_addLaw_12 : decode cX8_addLaw 12 = .ok (.getfield 64, 3) := by decide +kernel
theorem dX8_addLaw_15 : decode cX8_addLaw 15 = .ok (.aload_n 0, 1) := by decide +kernel
theorem dX8_addLaw_16 : decode cX8_addLaw 16 = .ok (.getfield 59, 3) := by decide +kernel
theorem dX8_addLaw_19 : decode cX8_addLaw 19 = .ok (.aload_n 1, 1) := by decide +kernel
theorem dX8_addLaw_20 : decode cX8_addLaw 20 = .ok (.aastore, 1) := by decide +kernel
theorem dX8_addLaw_21 : decode cX8_addLaw 21 = .ok (.aload_n 0, 1) := by decide +kernel
theorem dX8_addLaw_22 : decode cX8_addLaw 22 = .ok (.dup, 1) := by decide +kernel
theorem dX8_addLaw_23 : decode cX8_addLaw 23 = .ok (.getfield 59, 3) := by decide +kernel
theorem dX8_addLaw_26 : decode cX8_addLaw 26 = .ok (.iconst 1, 1) := by decide +kernel
theorem dX8_addLaw_27 : decode cX8_addLaw 27 = .ok (.iadd, 1) := by decide +kernel
theorem dX8_addLaw_28 : decode cX8_addLaw 28 = .ok (.putfield 59, 3) := by decide +kernel
theorem dX8_addLaw_31 : decode cX8_addLaw 31 = .ok (.aload_n 0, 1) := by decide +kernel
theorem dX8_addLaw_32 : decode cX8_addLaw 32 = .ok (.getfield 59, 3) := by decide +kernel
theorem dX8_addLaw_35 : decode cX8_addLaw 35 = .ok (.iconst 1, 1) := by decide +kernel
theorem dX8_addLaw_36 : decode cX8_addLaw 36 = .ok (.isub, 1) := by decide +kernel
theorem dX8_addLaw_37 : decode cX8_addLaw 37 = .ok (.ireturn, 1) := by decide +kernel
theorem dX8_lawInForce_0 : decode cX8_lawInForce 0 = .ok (.aload_n 0, 1) := by decide +kernel
theorem dX8_lawInForce_1 : decode cX8_lawInForce 1 = .ok (.getfield 68, 3) := by decide +kernel
theorem dX8_lawInForce_4 : decode cX8_lawInForce 4 = .ok (.ifCond .lt 35, 3) := by decide +kernel
theorem dX8_lawInForce_7 : decode cX8_lawInForce 7 = .ok (.aload_n 0, 1) := by decide +kernel
theorem dX8_lawInForce_8 : decode cX8_lawInForce 8 = .ok (.getfield 68, 3) := by decide +kernel
theorem dX8_lawInForce_11 : decode cX8_lawInForce 11 = .ok (.aload_n 0, 1) := by decide +kernel
theorem dX8_lawInForce_12 : decode cX8_lawInForce 12 = .ok (.getfield 59, 3) := by decide +kernel
theorem dX8_lawInForce_15 : decode cX8_lawInForce 15 = .ok (.if_icmp .ge 24, 3) := by decide +kernel
theorem dX8_lawInForce_18 : decode cX8_lawInForce 18 = .ok (.aload_n 0, 1) := by decide +kernel
theorem dX8_lawInForce_19 : decode cX8_lawInForce 19 = .ok (.getfield 68, 3) := by decide +kernel
theorem dX8_lawInForce_22 : decode cX8_lawInForce 22 = .ok (.bipush 6, 2) := by decide +kernel
theorem dX8_lawInForce_24 : decode cX8_lawInForce 24 = .ok (.if_icmp .ge 15, 3) := by decide +kernel
theorem dX8_lawInForce_27 : decode cX8_lawInForce 27 = .ok (.aload_n 0, 1) := by decide +kernel
theorem dX8_lawInForce_28 : decode cX8_lawInForce 28 = .ok (.getfield 64, 3) := by decide +kernel
theorem dX8_lawInForce_31 : decode cX8_lawInForce 31 = .ok (.aload_n 0, 1) := by decide +kernel
theorem dX8_lawInForce_32 : decode cX8_lawInForce 32 = .ok (.getfield 68, 3) := by decide +kernel
theorem dX8_lawInForce_35 : decode cX8_lawInForce 35 = .ok (.aaload, 1) := by decide +kernel
theorem dX8_lawInForce_36 : decode cX8_lawInForce 36 = .ok (.goto 4, 3) := by decide +kernel
theorem dX8_lawInForce_39 : decode cX8_lawInForce 39 = .ok (.aconst_null, 1) := by decide +kernel
theorem dX8_lawInForce_40 : decode cX8_lawInForce 40 = .ok (.areturn, 1) := by decide +kernel
theorem dX8_hasHouse_0 : decode cX8_hasHouse 0 = .ok (.iload_n 1, 1) := by decide +kernel
theorem dX8_hasHouse_1 : decode cX8_hasHouse 1 = .ok (.ifCond .lt 15, 3) := by decide +kernel
theorem dX8_hasHouse_4 : decode cX8_hasHouse 4 = .ok (.iload_n 1, 1) := by decide +kernel
theorem dX8_hasHouse_5 : decode cX8_hasHouse 5 = .ok (.aload_n 0, 1) := by decide +kernel
theorem dX8_hasHouse_6 : decode cX8_hasHouse 6 = .ok (.getfield 18, 3) := by decide +kernel
theorem dX8_hasHouse_9 : decode cX8_hasHouse 9 = .ok (.if_icmp .ge 7, 3) := by decide +kernel
theorem dX8_hasHouse_12 : decode cX8_hasHouse 12 = .ok (.iconst 1, 1) := by decide +kernel
theorem dX8_hasHouse_13 : decode cX8_hasHouse 13 = .ok (.goto 4, 3) := by decide +kernel
theorem dX8_hasHouse_16 : decode cX8_hasHouse 16 = .ok (.iconst 0, 1) := by decide +kernel
theorem dX8_hasHouse_17 : decode cX8_hasHouse 17 = .ok (.ireturn, 1) := by decide +kernel
theorem dX8_hasPerson_0 : decode cX8_hasPerson 0 = .ok (.iload_n 1, 1) := by decide +kernel
theorem dX8_hasPerson_1 : decode cX8_hasPerson 1 = .ok (.ifCond .lt 15, 3) := by decide +kernel
theorem dX8_hasPerson_4 : decode cX8_hasPerson 4 = .ok (.iload_n 1, 1) := by decide +kernel
theorem dX8_hasPerson_5 : decode cX8_hasPerson 5 = .ok (.aload_n 0, 1) := by decide +kernel
theorem dX8_hasPerson_6 : decode cX8_hasPerson 6 = .ok (.getfield 29, 3) := by decide +kernel
theorem dX8_hasPerson_9 : decode cX8_hasPerson 9 = .ok (.if_icmp .ge 7, 3) := by decide +kernel
theorem dX8_hasPerson_12 : decode cX8_hasPerson 12 = .ok (.iconst 1, 1) := by decide +kernel
theorem dX8_hasPerson_13 : decode cX8_hasPerson 13 = .ok (.goto 4, 3) := by decide +kernel
theorem dX8_hasPerson_16 : decode cX8_hasPerson 16 = .ok (.iconst 0, 1) := by decide +kernel
theorem dX8_hasPerson_17 : decode cX8_hasPerson 17 = .ok (.ireturn, 1) := by decide +kernel
theorem dX8_lives_0 : decode cX8_lives 0 = .ok (.aload_n 0, 1) := by decide +kernel
theorem dX8_lives_1 : decode cX8_lives 1 = .ok (.iload_n 1, 1) := by decide +kernel
theorem dX8_lives_2 : decode cX8_lives 2 = .ok (.invokevirtual 100, 3) := by decide +kernel
theorem dX8_lives_5 : decode cX8_lives 5 = .ok (.ifCond .eq 21, 3) := by decide +kernel
theorem dX8_lives_8 : decode cX8_lives 8 = .ok (.aload_n 0, 1) := by decide +kernel
theorem dX8_lives_9 : decode cX8_lives 9 = .ok (.getfield 12, 3) := by decide +kernel
theorem dX8_lives_12 : decode cX8_lives 12 = .ok (.getfield 97, 3) := by decide +kernel
theorem dX8_lives_15 : decode cX8_lives 15 = .ok (.iload_n 1, 1) := by decide +kernel
theorem dX8_lives_16 : decode cX8_lives 16 = .ok (.invokestatic 104, 3) := by decide +kernel
theorem dX8_lives_19 : decode cX8_lives 19 = .ok (.ifCond .ne 7, 3) := by decide +kernel
theorem dX8_lives_22 : decode cX8_lives 22 = .ok (.iconst 1, 1) := by decide +kernel
theorem dX8_lives_23 : decode cX8_lives 23 = .ok (.goto 4, 3) := by decide +kernel
theorem dX8_lives_26 : decode cX8_lives 26 = .ok (.iconst 0, 1) := by decide +kernel
theorem dX8_lives_27 : decode cX8_lives 27 = .ok (.ireturn, 1) := by decide +kernel
theorem dX8_rightsOf_0 : decode cX8_rightsOf 0 = .ok (.aload_n 0, 1) := by decide +kernel
theorem dX8_rightsOf_1 : decode cX8_rightsOf 1 = .ok (.iload_n 1, 1) := by decide +kernel
theorem dX8_rightsOf_2 : decode cX8_rightsOf 2 = .ok (.invokevirtual 100, 3) := by decide +kernel
theorem dX8_rightsOf_5 : decode cX8_rightsOf 5 = .ok (.ifCond .eq 27, 3) := by decide +kernel
theorem dX8_rightsOf_8 : decode cX8_rightsOf 8 = .ok (.aload_n 0, 1) := by decide +kernel
theorem dX8_rightsOf_9 : decode cX8_rightsOf 9 = .ok (.iload_n 2, 1) := by decide +kernel
theorem dX8_rightsOf_10 : decode cX8_rightsOf 10 = .ok (.invokevirtual 108, 3) := by decide +kernel
theorem dX8_rightsOf_13 : decode cX8_rightsOf 13 = .ok (.ifCond .eq 19, 3) := by decide +kernel
theorem dX8_rightsOf_16 : decode cX8_rightsOf 16 = .ok (.aload_n 0, 1) := by decide +kernel
theorem dX8_rightsOf_17 : decode cX8_rightsOf 17 = .ok (.getfield 12, 3) := by decide +kernel
theorem dX8_rightsOf_20 : decode cX8_rightsOf 20 = .ok (.getfield 84, 3) := by decide +kernel
theorem dX8_rightsOf_23 : decode cX8_rightsOf 23 = .ok (.iload_n 1, 1) := by decide +kernel
theorem dX8_rightsOf_24 : decode cX8_rightsOf 24 = .ok (.iload_n 2, 1) := by decide +kernel
theorem dX8_rightsOf_25 : decode cX8_rightsOf 25 = .ok (.invokestatic 87, 3) := by decide +kernel
theorem dX8_rightsOf_28 : decode cX8_rightsOf 28 = .ok (.iaload, 1) := by decide +kernel
theorem dX8_rightsOf_29 : decode cX8_rightsOf 29 = .ok (.goto 4, 3) := by decide +kernel
theorem dX8_rightsOf_32 : decode cX8_rightsOf 32 = .ok (.iconst 0, 1) := by decide +kernel
theorem dX8_rightsOf_33 : decode cX8_rightsOf 33 = .ok (.ireturn, 1) := by decide +kernel
theorem dX8_usedOf_0 : decode cX8_usedOf 0 = .ok (.aload_n 0, 1) := by decide +kernel
theorem dX8_usedOf_1 : decode cX8_usedOf 1 = .ok (.iload_n 1, 1) := by decide +kernel
theorem dX8_usedOf_2 : decode cX8_usedOf 2 = .ok (.invokevirtual 100, 3) := by decide +kernel
theorem dX8_usedOf_5 : decode cX8_usedOf 5 = .ok (.ifCond .eq 27, 3) := by decide +kernel
theorem dX8_usedOf_8 : decode cX8_usedOf 8 = .ok (.aload_n 0, 1) := by decide +kernel
theorem dX8_usedOf_9 : decode cX8_usedOf 9 = .ok (.iload_n 2, 1) := by decide +kernel
theorem dX8_usedOf_10 : decode cX8_usedOf 10 = .ok (.invokevirtual 108, 3) := by decide +kernel
theorem dX8_usedOf_13 : decode cX8_usedOf 13 = .ok (.ifCond .eq 19, 3) := by decide +kernel
theorem dX8_usedOf_16 : decode cX8_usedOf 16 = .ok (.aload_n 0, 1) := by decide +kernel
theorem dX8_usedOf_17 : decode cX8_usedOf 17 = .ok (.getfield 12, 3) := by decide +kernel
theorem dX8_usedOf_20 : decode cX8_usedOf 20 = .ok (.getfield 91, 3) := by decide +kernel
theorem dX8_usedOf_23 : decode cX8_usedOf 23 = .ok (.iload_n 1, 1) := by decide +kernel
theorem dX8_usedOf_24 : decode cX8_usedOf 24 = .ok (.iload_n 2, 1) := by decide +kernel
theorem dX8_usedOf_25 : decode cX8_usedOf 25 = .ok (.invokestatic 87, 3) := by decide +kernel
theorem dX8_usedOf_28 : decode cX8_usedOf 28 = .ok (.iaload, 1) := by decide +kernel
theorem dX8_usedOf_29 : decode cX8_usedOf 29 = .ok (.goto 4, 3) := by decide +kernel
theorem dX8_usedOf_32 : decode cX8_usedOf 32 = .ok (.iconst 0, 1) := by decide +kernel
theorem dX8_usedOf_33 : decode cX8_usedOf 33 = .ok (.ireturn, 1) := by decide +kernel
theorem dX8_leftOf_0 : decode cX8_leftOf 0 = .ok (.aload_n 0, 1) := by decide +kernel
theorem dX8_leftOf_1 : decode cX8_leftOf 1 = .ok (.iload_n 1, 1) := by decide +kernel
theorem dX8_leftOf_2 : decode cX8_leftOf 2 = .ok (.invokevirtual 100, 3) := by decide +kernel
theorem dX8_leftOf_5 : decode cX8_leftOf 5 = .ok (.ifCond .eq 11, 3) := by decide +kernel
theorem dX8_leftOf_8 : decode cX8_leftOf 8 = .ok (.aload_n 0, 1) := by decide +kernel
theorem dX8_leftOf_9 : decode cX8_leftOf 9 = .ok (.iload_n 2, 1) := by decide +kernel
theorem dX8_leftOf_10 : decode cX8_leftOf 10 = .ok (.invokevirtual 108, 3) := by decide +kernel
theorem dX8_leftOf_13 : decode cX8_leftOf 13 = .ok (.ifCond .ne 5, 3) := by decide +kernel
theorem dX8_leftOf_16 : decode cX8_leftOf 16 = .ok (.iconst 0, 1) := by decide +kernel
theorem dX8_leftOf_17 : decode cX8_leftOf 17 = .ok (.ireturn, 1) := by decide +kernel
theorem dX8_leftOf_18 : decode cX8_leftOf 18 = .ok (.aload_n 0, 1) := by decide +kernel
theorem dX8_leftOf_19 : decode cX8_leftOf 19 = .ok (.getfield 12, 3) := by decide +kernel
theorem dX8_leftOf_22 : decode cX8_leftOf 22 = .ok (.getfield 84, 3) := by decide +kernel
theorem dX8_leftOf_25 : decode cX8_leftOf 25 = .ok (.iload_n 1, 1) := by decide +kernel
theorem dX8_leftOf_26 : decode cX8_leftOf 26 = .ok (.iload_n 2, 1) := by decide +kernel
theorem dX8_leftOf_27 : decode cX8_leftOf 27 = .ok (.invokestatic 87, 3) := by decide +kernel
theorem dX8_leftOf_30 : decode cX8_leftOf 30 = .ok (.iaload, 1) := by decide +kernel
theorem dX8_leftOf_31 : decode cX8_leftOf 31 = .ok (.aload_n 0, 1) := by decide +kernel
theorem dX8_leftOf_32 : decode cX8_leftOf 32 = .ok (.getfield 12, 3) := by decide +kernel
theorem dX8_leftOf_35 : decode cX8_leftOf 35 = .ok (.getfield 91, 3) := by decide +kernel
theorem dX8_leftOf_38 : decode cX8_leftOf 38 = .ok (.iload_n 1, 1) := by decide +kernel
theorem dX8_leftOf_39 : decode cX8_leftOf 39 = .ok (.iload_n 2, 1) := by decide +kernel
theorem dX8_leftOf_40 : decode cX8_leftOf 40 = .ok (.invokestatic 87, 3) := by decide +kernel
theorem dX8_leftOf_43 : decode cX8_leftOf 43 = .ok (.iaload, 1) := by decide +kernel
theorem dX8_leftOf_44 : decode cX8_leftOf 44 = .ok (.isub, 1) := by decide +kernel
theorem dX8_leftOf_45 : decode cX8_leftOf 45 = .ok (.ireturn, 1) := by decide +kernel
theorem dX8_allLeftOf_0 : decode cX8_allLeftOf 0 = .ok (.iconst 0, 1) := by decide +kernel
theorem dX8_allLeftOf_1 : decode cX8_allLeftOf 1 = .ok (.istore_n 2, 1) := by decide +kernel
theorem dX8_allLeftOf_2 : decode cX8_allLeftOf 2 = .ok (.iconst 0, 1) := by decide +kernel
theorem dX8_allLeftOf_3 : decode cX8_allLeftOf 3 = .ok (.istore_n 3, 1) := by decide +kernel
theorem dX8_allLeftOf_4 : decode cX8_allLeftOf 4 = .ok (.iload_n 3, 1) := by decide +kernel
theorem dX8_allLeftOf_5 : decode cX8_allLeftOf 5 = .ok (.aload_n 0, 1) := by decide +kernel
theorem dX8_allLeftOf_6 : decode cX8_allLeftOf 6 = .ok (.getfield 18, 3) := by decide +kernel
theorem dX8_allLeftOf_9 : decode cX8_allLeftOf 9 = .ok (.if_icmp .ge 18, 3) := by decide +kernel
theorem dX8_allLeftOf_12 : decode cX8_allLeftOf 12 = .ok (.iload_n 2, 1) := by decide +kernel
theorem dX8_allLeftOf_13 : decode cX8_allLeftOf 13 = .ok (.aload_n 0, 1) := by decide +kernel
theorem dX8_allLeftOf_14 : decode cX8_allLeftOf 14 = .ok (.iload_n 1, 1) := by decide +kernel
theorem dX8_allLeftOf_15 : decode cX8_allLeftOf 15 = .ok (.iload_n 3, 1) := by decide +kernel
theorem dX8_allLeftOf_16 : decode cX8_allLeftOf 16 = .ok (.invokevirtual 111, 3) := by decide +kernel
theorem dX8_allLeftOf_19 : decode cX8_allLeftOf 19 = .ok (.iadd, 1) := by decide +kernel
theorem dX8_allLeftOf_20 : decode cX8_allLeftOf 20 = .ok (.istore_n 2, 1) := by decide +kernel
theorem dX8_allLeftOf_21 : decode cX8_allLeftOf 21 = .ok (.iinc 3 1, 3) := by decide +kernel
theorem dX8_allLeftOf_24 : decode cX8_allLeftOf 24 = .ok (.goto (-20), 3) := by decide +kernel
theorem dX8_allLeftOf_27 : decode cX8_allLeftOf 27 = .ok (.iload_n 2, 1) := by decide +kernel
theorem dX8_allLeftOf_28 : decode cX8_allLeftOf 28 = .ok (.ireturn, 1) := by decide +kernel
theorem dX8_allRightsTo_0 : decode cX8_allRightsTo 0 = .ok (.iconst 0, 1) := by decide +kernel
theorem dX8_allRightsTo_1 : decode cX8_allRightsTo 1 = .ok (.istore_n 2, 1) := by decide +kernel
theorem dX8_allRightsTo_2 : decode cX8_allRightsTo 2 = .ok (.iconst 0, 1) := by decide +kernel
theorem dX8_allRightsTo_3 : decode cX8_allRightsTo 3 = .ok (.istore_n 3, 1) := by decide +kernel
theorem dX8_allRightsTo_4 : decode cX8_allRightsTo 4 = .ok (.iload_n 3, 1) := by decide +kernel
theorem dX8_allRightsTo_5 : decode cX8_allRightsTo 5 = .ok (.aload_n 0, 1) := by decide +kernel
theorem dX8_allRightsTo_6 : decode cX8_allRightsTo 6 = .ok (.getfield 29, 3) := by decide +kernel
theorem dX8_allRightsTo_9 : decode cX8_allRightsTo 9 = .ok (.if_icmp .ge 18, 3) := by decide +kernel
theorem dX8_allRightsTo_12 : decode cX8_allRightsTo 12 = .ok (.iload_n 2, 1) := by decide +kernel
theorem dX8_allRightsTo_13 : decode cX8_allRightsTo 13 = .ok (.aload_n 0, 1) := by decide +kernel
theorem dX8_allRightsTo_14 : decode cX8_allRightsTo 14 = .ok (.iload_n 3, 1) := by decide +kernel
theorem dX8_allRightsTo_15 : decode cX8_allRightsTo 15 = .ok (.iload_n 1, 1) := by decide +kernel
theorem dX8_allRightsTo_16 : decode cX8_allRightsTo 16 = .ok (.invokevirtual 114, 3) := by decide +kernel
theorem dX8_allRightsTo_19 : decode cX8_allRightsTo 19 = .ok (.iadd, 1) := by decide +kernel
theorem dX8_allRightsTo_20 : decode cX8_allRightsTo 20 = .ok (.istore_n 2, 1) := by decide +kernel
theorem dX8_allRightsTo_21 : decode cX8_allRightsTo 21 = .ok (.iinc 3 1, 3) := by decide +kernel
theorem dX8_allRightsTo_24 : decode cX8_allRightsTo 24 = .ok (.goto (-20), 3) := by decide +kernel
theorem dX8_allRightsTo_27 : decode cX8_allRightsTo 27 = .ok (.iload_n 2, 1) := by decide +kernel
theorem dX8_allRightsTo_28 : decode cX8_allRightsTo 28 = .ok (.ireturn, 1) := by decide +kernel
theorem dX8_livingPeople_0 : decode cX8_livingPeople 0 = .ok (.iconst 0, 1) := by decide +kernel
theorem dX8_livingPeople_1 : decode cX8_livingPeople 1 = .ok (.istore_n 1, 1) := by decide +kernel
theorem dX8_livingPeople_2 : decode cX8_livingPeople 2 = .ok (.iconst 0, 1) := by decide +kernel
theorem dX8_livingPeople_3 : decode cX8_livingPeople 3 = .ok (.istore_n 2, 1) := by decide +kernel
theorem dX8_livingPeople_4 : decode cX8_livingPeople 4 = .ok (.iload_n 2, 1) := by decide +kernel
theorem dX8_livingPeople_5 : decode cX8_livingPeople 5 = .ok (.aload_n 0, 1) := by decide +kernel
theorem dX8_livingPeople_6 : decode cX8_livingPeople 6 = .ok (.getfield 29, 3) := by decide +kernel
theorem dX8_livingPeople_9 : decode cX8_livingPeople 9 = .ok (.if_icmp .ge 20, 3) := by decide +kernel
theorem dX8_livingPeople_12 : decode cX8_livingPeople 12 = .ok (.aload_n 0, 1) := by decide +kernel
theorem dX8_livingPeople_13 : decode cX8_livingPeople 13 = .ok (.iload_n 2, 1) := by decide +kernel
theorem dX8_livingPeople_14 : decode cX8_livingPeople 14 = .ok (.invokevirtual 117, 3) := by decide +kernel
theorem dX8_livingPeople_17 : decode cX8_livingPeople 17 = .ok (.ifCond .eq 6, 3) := by decide +kernel
theorem dX8_livingPeople_20 : decode cX8_livingPeople 20 = .ok (.iinc 1 1, 3) := by decide +kernel
theorem dX8_livingPeople_23 : decode cX8_livingPeople 23 = .ok (.iinc 2 1, 3) := by decide +kernel
theorem dX8_livingPeople_26 : decode cX8_livingPeople 26 = .ok (.goto (-22), 3) := by decide +kernel
theorem dX8_livingPeople_29 : decode cX8_livingPeople 29 = .ok (.iload_n 1, 1) := by decide +kernel
theorem dX8_livingPeople_30 : decode cX8_livingPeople 30 = .ok (.ireturn, 1) := by decide +kernel
theorem dX8_livingHeirs_0 : decode cX8_livingHeirs 0 = .ok (.iconst 0, 1) := by decide +kernel
theorem dX8_livingHeirs_1 : decode cX8_livingHeirs 1 = .ok (.istore_n 2, 1) := by decide +kernel
theorem dX8_livingHeirs_2 : decode cX8_livingHeirs 2 = .ok (.iconst 0, 1) := by decide +kernel
theorem dX8_livingHeirs_3 : decode cX8_livingHeirs 3 = .ok (.istore_n 3, 1) := by decide +kernel
theorem dX8_livingHeirs_4 : decode cX8_livingHeirs 4 = .ok (.iload_n 3, 1) := by decide +kernel
theorem dX8_livingHeirs_5 : decode cX8_livingHeirs 5 = .ok (.aload_n 0, 1) := by decide +kernel
theorem dX8_livingHeirs_6 : decode cX8_livingHeirs 6 = .ok (.getfield 29, 3) := by decide +kernel
theorem dX8_livingHeirs_9 : decode cX8_livingHeirs 9 = .ok (.if_icmp .ge 21, 3) := by decide +kernel
theorem dX8_livingHeirs_12 : decode cX8_livingHeirs 12 = .ok (.aload_n 0, 1) := by decide +kernel
theorem dX8_livingHeirs_13 : decode cX8_livingHeirs 13 = .ok (.iload_n 1, 1) := by decide +kernel
theorem dX8_livingHeirs_14 : decode cX8_livingHeirs 14 = .ok (.iload_n 3, 1) := by decide +kernel
theorem dX8_livingHeirs_15 : decode cX8_livingHeirs 15 = .ok (.invokevirtual 120, 3) := by decide +kernel
theorem dX8_livingHeirs_18 : decode cX8_livingHeirs 18 = .ok (.ifCond .eq 6, 3) := by decide +kernel
theorem dX8_livingHeirs_21 : decode cX8_livingHeirs 21 = .ok (.iinc 2 1, 3) := by decide +kernel
theorem dX8_livingHeirs_24 : decode cX8_livingHeirs 24 = .ok (.iinc 3 1, 3) := by decide +kernel
theorem dX8_livingHeirs_27 : decode cX8_livingHeirs 27 = .ok (.goto (-23), 3) := by decide +kernel
theorem dX8_livingHeirs_30 : decode cX8_livingHeirs 30 = .ok (.iload_n 2, 1) := by decide +kernel
theorem dX8_livingHeirs_31 : decode cX8_livingHeirs 31 = .ok (.ireturn, 1) := by decide +kernel
theorem dX8_isLivingHeir_0 : decode cX8_isLivingHeir 0 = .ok (.aload_n 0, 1) := by decide +kernel
theorem dX8_isLivingHeir_1 : decode cX8_isLivingHeir 1 = .ok (.iload_n 1, 1) := by decide +kernel
theorem dX8_isLivingHeir_2 : decode cX8_isLivingHeir 2 = .ok (.invokevirtual 100, 3) := by decide +kernel
theorem dX8_isLivingHeir_5 : decode cX8_isLivingHeir 5 = .ok (.ifCond .eq 28, 3) := by decide +kernel
theorem dX8_isLivingHeir_8 : decode cX8_isLivingHeir 8 = .ok (.aload_n 0, 1) := by decide +kernel
theorem dX8_isLivingHeir_9 : decode cX8_isLivingHeir 9 = .ok (.iload_n 2, 1) := by decide +kernel
theorem dX8_isLivingHeir_10 : decode cX8_isLivingHeir 10 = .ok (.invokevirtual 117, 3) := by decide +kernel
theorem dX8_isLivingHeir_13 : decode cX8_isLivingHeir 13 = .ok (.ifCond .eq 20, 3) := by decide +kernel
theorem dX8_isLivingHeir_16 : decode cX8_isLivingHeir 16 = .ok (.aload_n 0, 1) := by decide +kernel
theorem dX8_isLivingHeir_17 : decode cX8_isLivingHeir 17 = .ok (.getfield 41, 3) := by decide +kernel
theorem dX8_isLivingHeir_20 : decode cX8_isLivingHeir 20 = .ok (.iload_n 1, 1) := by decide +kernel
theorem dX8_isLivingHeir_21 : decode cX8_isLivingHeir 21 = .ok (.iaload, 1) := by decide +kernel
theorem dX8_isLivingHeir_22 : decode cX8_isLivingHeir 22 = .ok (.iload_n 2, 1) := by decide +kernel
theorem dX8_isLivingHeir_23 : decode cX8_isLivingHeir 23 = .ok (.invokestatic 104, 3) := by decide +kernel
theorem dX8_isLivingHeir_26 : decode cX8_isLivingHeir 26 = .ok (.ifCond .eq 7, 3) := by decide +kernel
theorem dX8_isLivingHeir_29 : decode cX8_isLivingHeir 29 = .ok (.iconst 1, 1) := by decide +kernel
theorem dX8_isLivingHeir_30 : decode cX8_isLivingHeir 30 = .ok (.goto 4, 3) := by decide +kernel
theorem dX8_isLivingHeir_33 : decode cX8_isLivingHeir 33 = .ok (.iconst 0, 1) := by decide +kernel
theorem dX8_isLivingHeir_34 : decode cX8_isLivingHeir 34 = .ok (.ireturn, 1) := by decide +kernel
theorem dX8_suspects_0 : decode cX8_suspects 0 = .ok (.iconst 0, 1) := by decide +kernel
theorem dX8_suspects_1 : decode cX8_suspects 1 = .ok (.istore_n 1, 1) := by decide +kernel
theorem dX8_suspects_2 : decode cX8_suspects 2 = .ok (.iconst 0, 1) := by decide +kernel
theorem dX8_suspects_3 : decode cX8_suspects 3 = .ok (.istore_n 2, 1) := by decide +kernel
theorem dX8_suspects_4 : decode cX8_suspects 4 = .ok (.iload_n 2, 1) := by decide +kernel
theorem dX8_suspects_5 : decode cX8_suspects 5 = .ok (.aload_n 0, 1) := by decide +kernel
theorem dX8_suspects_6 : decode cX8_suspects 6 = .ok (.getfield 29, 3) := by decide +kernel
theorem dX8_suspects_9 : decode cX8_suspects 9 = .ok (.if_icmp .ge 39, 3) := by decide +kernel
theorem dX8_suspects_12 : decode cX8_suspects 12 = .ok (.aload_n 0, 1) := by decide +kernel
theorem dX8_suspects_13 : decode cX8_suspects 13 = .ok (.iload_n 2, 1) := by decide +kernel
theorem dX8_suspects_14 : decode cX8_suspects 14 = .ok (.invokevirtual 117, 3) := by decide +kernel
theorem dX8_suspects_17 : decode cX8_suspects 17 = .ok (.ifCond .eq 25, 3) := by decide +kernel
theorem dX8_suspects_20 : decode cX8_suspects 20 = .ok (.aload_n 0, 1) := by decide +kernel
theorem dX8_suspects_21 : decode cX8_suspects 21 = .ok (.iload_n 2, 1) := by decide +kernel
theorem dX8_suspects_22 : decode cX8_suspects 22 = .ok (.invokevirtual 123, 3) := by decide +kernel
theorem dX8_suspects_25 : decode cX8_suspects 25 = .ok (.ifCond .eq 17, 3) := by decide +kernel
theorem dX8_suspects_28 : decode cX8_suspects 28 = .ok (.aload_n 0, 1) := by decide +kernel
theorem dX8_suspects_29 : decode cX8_suspects 29 = .ok (.iload_n 2, 1) := by decide +kernel
theorem dX8_suspects_30 : decode cX8_suspects 30 = .ok (.invokevirtual 126, 3) := by decide +kernel
theorem dX8_suspects_33 : decode cX8_suspects 33 = .ok (.ifCond .eq 9, 3) := by decide +kernel
theorem dX8_suspects_36 : decode cX8_suspects 36 = .ok (.iload_n 1, 1) := by decide +kernel
theorem dX8_suspects_37 : decode cX8_suspects 37 = .ok (.iconst 1, 1) := by decide +kernel
theorem dX8_suspects_38 : decode cX8_suspects 38 = .ok (.iload_n 2, 1) := by decide +kernel
theorem dX8_suspects_39 : decode cX8_suspects 39 = .ok (.ishl, 1) := by decide +kernel
theorem dX8_suspects_40 : decode cX8_suspects 40 = .ok (.ior, 1) := by decide +kernel
theorem dX8_suspects_41 : decode cX8_suspects 41 = .ok (.istore_n 1, 1) := by decide +kernel
theorem dX8_suspects_42 : decode cX8_suspects 42 = .ok (.iinc 2 1, 3) := by decide +kernel
theorem dX8_suspects_45 : decode cX8_suspects 45 = .ok (.goto (-41), 3) := by decide +kernel
theorem dX8_suspects_48 : decode cX8_suspects 48 = .ok (.iload_n 1, 1) := by decide +kernel
theorem dX8_suspects_49 : decode cX8_suspects 49 = .ok (.ireturn, 1) := by decide +kernel
theorem dX8_couldWalk_0 : decode cX8_couldWalk 0 = .ok (.aload_n 0, 1) := by decide +kernel
theorem dX8_couldWalk_1 : decode cX8_couldWalk 1 = .ok (.getfield 32, 3) := by decide +kernel
theorem dX8_couldWalk_4 : decode cX8_couldWalk 4 = .ok (.iload_n 1, 1) := by decide +kernel
theorem dX8_couldWalk_5 : decode cX8_couldWalk 5 = .ok (.iaload, 1) := by decide +kernel
theorem dX8_couldWalk_6 : decode cX8_couldWalk 6 = .ok (.istore_n 2, 1) := by decide +kernel
theorem dX8_couldWalk_7 : decode cX8_couldWalk 7 = .ok (.iconst 0, 1) := by decide +kernel
theorem dX8_couldWalk_8 : decode cX8_couldWalk 8 = .ok (.istore_n 3, 1) := by decide +kernel
theorem dX8_couldWalk_9 : decode cX8_couldWalk 9 = .ok (.iload_n 3, 1) := by decide +kernel
theorem dX8_couldWalk_10 : decode cX8_couldWalk 10 = .ok (.aload_n 0, 1) := by decide +kernel
theorem dX8_couldWalk_11 : decode cX8_couldWalk 11 = .ok (.getfield 44, 3) := by decide +kernel
theorem dX8_couldWalk_14 : decode cX8_couldWalk 14 = .ok (.if_icmp .ge 42, 3) := by decide +kernel
theorem dX8_couldWalk_17 : decode cX8_couldWalk 17 = .ok (.aload_n 0, 1) := by decide +kernel
theorem dX8_couldWalk_18 : decode cX8_couldWalk 18 = .ok (.getfield 22, 3) := by decide +kernel
theorem dX8_couldWalk_21 : decode cX8_couldWalk 21 = .ok (.aload_n 0, 1) := by decide +kernel
theorem dX8_couldWalk_22 : decode cX8_couldWalk 22 = .ok (.getfield 47, 3) := by decide +kernel
theorem dX8_couldWalk_25 : decode cX8_couldWalk 25 = .ok (.iload_n 3, 1) := by decide +kernel
theorem dX8_couldWalk_26 : decode cX8_couldWalk 26 = .ok (.iaload, 1) := by decide +kernel
theorem dX8_couldWalk_27 : decode cX8_couldWalk 27 = .ok (.iaload, 1) := by decide +kernel
theorem dX8_couldWalk_28 : decode cX8_couldWalk 28 = .ok (.istore 4, 2) := by decide +kernel
theorem dX8_couldWalk_30 : decode cX8_couldWalk 30 = .ok (.iload_n 2, 1) := by decide +kernel
theorem dX8_couldWalk_31 : decode cX8_couldWalk 31 = .ok (.iload 4, 2) := by decide +kernel
theorem dX8_couldWalk_33 : decode cX8_couldWalk 33 = .ok (.invokestatic 129, 3) := by decide +kernel
theorem dX8_couldWalk_36 : decode cX8_couldWalk 36 = .ok (.aload_n 0, 1) := by decide +kernel
theorem dX8_couldWalk_37 : decode cX8_couldWalk 37 = .ok (.getfield 50, 3) := by decide +kernel
theorem dX8_couldWalk_40 : decode cX8_couldWalk 40 = .ok (.iload_n 3, 1) := by decide +kernel
theorem dX8_couldWalk_41 : decode cX8_couldWalk 41 = .ok (.iaload, 1) := by decide +kernel
theorem dX8_couldWalk_42 : decode cX8_couldWalk 42 = .ok (.if_icmp .le 5, 3) := by decide +kernel
theorem dX8_couldWalk_45 : decode cX8_couldWalk 45 = .ok (.iconst 0, 1) := by decide +kernel
theorem dX8_couldWalk_46 : decode cX8_couldWalk 46 = .ok (.ireturn, 1) := by decide +kernel
theorem dX8_couldWalk_47 : decode cX8_couldWalk 47 = .ok (.iload 4, 2) := by decide +kernel
theorem dX8_couldWalk_49 : decode cX8_couldWalk 49 = .ok (.istore_n 2, 1) := by decide +kernel
theorem dX8_couldWalk_50 : decode cX8_couldWalk 50 = .ok (.iinc 3 1, 3) := by decide +kernel
theorem dX8_couldWalk_53 : decode cX8_couldWalk 53 = .ok (.goto (-44), 3) := by decide +kernel
theorem dX8_couldWalk_56 : decode cX8_couldWalk 56 = .ok (.iconst 1, 1) := by decide +kernel
theorem dX8_couldWalk_57 : decode cX8_couldWalk 57 = .ok (.ireturn, 1) := by decide +kernel
theorem dX8_hasRingsForClues_0 : decode cX8_hasRingsForClues 0 = .ok (.iconst 0, 1) := by decide +kernel
theorem dX8_hasRingsForClues_1 : decode cX8_hasRingsForClues 1 = .ok (.istore_n 2, 1) := by decide +kernel
theorem dX8_hasRingsForClues_2 : decode cX8_hasRingsForClues 2 = .ok (.iload_n 2, 1) := by decide +kernel
theorem dX8_hasRingsForClues_3 : decode cX8_hasRingsForClues 3 = .ok (.aload_n 0, 1) := by decide +kernel
theorem dX8_hasRingsForClues_4 : decode cX8_hasRingsForClues 4 = .ok (.getfield 18, 3) := by decide +kernel
theorem dX8_hasRingsForClues_7 : decode cX8_hasRingsForClues 7 = .ok (.if_icmp .ge 55, 3) := by decide +kernel
theorem dX8_hasRingsForClues_10 : decode cX8_hasRingsForClues 10 = .ok (.iconst 0, 1) := by decide +kernel
theorem dX8_hasRingsForClues_11 : decode cX8_hasRingsForClues 11 = .ok (.istore_n 3, 1) := by decide +kernel
theorem dX8_hasRingsForClues_12 : decode cX8_hasRingsForClues 12 = .ok (.iconst 0, 1) := by decide +kernel
theorem dX8_hasRingsForClues_13 : decode cX8_hasRingsForClues 13 = .ok (.istore 4, 2) := by decide +kernel
theorem dX8_hasRingsForClues_15 : decode cX8_hasRingsForClues 15 = .ok (.iload 4, 2) := by decide +kernel
theorem dX8_hasRingsForClues_17 : decode cX8_hasRingsForClues 17 = .ok (.aload_n 0, 1) := by decide +kernel
theorem dX8_hasRingsForClues_18 : decode cX8_hasRingsForClues 18 = .ok (.getfield 44, 3) := by decide +kernel
theorem dX8_hasRingsForClues_21 : decode cX8_hasRingsForClues 21 = .ok (.if_icmp .ge 23, 3) := by decide +kernel
theorem dX8_hasRingsForClues_24 : decode cX8_hasRingsForClues 24 = .ok (.aload_n 0, 1) := by decide +kernel
theorem dX8_hasRingsForClues_25 : decode cX8_hasRingsForClues 25 = .ok (.getfield 47, 3) := by decide +kernel
theorem dX8_hasRingsForClues_28 : decode cX8_hasRingsForClues 28 = .ok (.iload 4, 2) := by decide +kernel
theorem dX8_hasRingsForClues_30 : decode cX8_hasRingsForClues 30 = .ok (.iaload, 1) := by decide +kernel
theorem dX8_hasRingsForClues_31 : decode cX8_hasRingsForClues 31 = .ok (.iload_n 2, 1) := by decide +kernel
theorem dX8_hasRingsForClues_32 : decode cX8_hasRingsForClues 32 = .ok (.if_icmp .ne 6, 3) := by decide +kernel
theorem dX8_hasRingsForClues_35 : decode cX8_hasRingsForClues 35 = .ok (.iinc 3 1, 3) := by decide +kernel
theorem dX8_hasRingsForClues_38 : decode cX8_hasRingsForClues 38 = .ok (.iinc 4 1, 3) := by decide +kernel
theorem dX8_hasRingsForClues_41 : decode cX8_hasRingsForClues 41 = .ok (.goto (-26), 3) := by decide +kernel
theorem dX8_hasRingsForClues_44 : decode cX8_hasRingsForClues 44 = .ok (.aload_n 0, 1) := by decide +kernel
theorem dX8_hasRingsForClues_45 : decode cX8_hasRingsForClues 45 = .ok (.iload_n 1, 1) := by decide +kernel
theorem dX8_hasRingsForClues_46 : decode cX8_hasRingsForClues 46 = .ok (.iload_n 2, 1) := by decide +kernel
theorem dX8_hasRingsForClues_47 : decode cX8_hasRingsForClues 47 = .ok (.invokevirtual 111, 3) := by decide +kernel
theorem dX8_hasRingsForClues_50 : decode cX8_hasRingsForClues 50 = .ok (.iload_n 3, 1) := by decide +kernel
theorem dX8_hasRingsForClues_51 : decode cX8_hasRingsForClues 51 = .ok (.if_icmp .ge 5, 3) := by decide +kernel
theorem dX8_hasRingsForClues_54 : decode cX8_hasRingsForClues 54 = .ok (.iconst 0, 1) := by decide +kernel
theorem dX8_hasRingsForClues_55 : decode cX8_hasRingsForClues 55 = .ok (.ireturn, 1) := by decide +kernel
theorem dX8_hasRingsForClues_56 : decode cX8_hasRingsForClues 56 = .ok (.iinc 2 1, 3) := by decide +kernel
theorem dX8_hasRingsForClues_59 : decode cX8_hasRingsForClues 59 = .ok (.goto (-57), 3) := by decide +kernel
theorem dX8_hasRingsForClues_62 : decode cX8_hasRingsForClues 62 = .ok (.iconst 1, 1) := by decide +kernel
theorem dX8_hasRingsForClues_63 : decode cX8_hasRingsForClues 63 = .ok (.ireturn, 1) := by decide +kernel
theorem dX8_remainAtMost_0 : decode cX8_remainAtMost 0 = .ok (.iconst 0, 1) := by decide +kernel
theorem dX8_remainAtMost_1 : decode cX8_remainAtMost 1 = .ok (.istore_n 3, 1) := by decide +kernel
theorem dX8_remainAtMost_2 : decode cX8_remainAtMost 2 = .ok (.iconst 0, 1) := by decide +kernel
theorem dX8_remainAtMost_3 : decode cX8_remainAtMost 3 = .ok (.istore 4, 2) := by decide +kernel
theorem dX8_remainAtMost_5 : decode cX8_remainAtMost 5 = .ok (.iconst 0, 1) := by decide +kernel
theorem dX8_remainAtMost_6 : decode cX8_remainAtMost 6 = .ok (.istore 5, 2) := by decide +kernel
theorem dX8_remainAtMost_8 : decode cX8_remainAtMost 8 = .ok (.iload 5, 2) := by decide +kernel
theorem dX8_remainAtMost_10 : decode cX8_remainAtMost 10 = .ok (.aload_n 0, 1) := by decide +kernel
theorem dX8_remainAtMost_11 : decode cX8_remainAtMost 11 = .ok (.getfield 29, 3) := by decide +kernel
theorem dX8_remainAtMost_14 : decode cX8_remainAtMost 14 = .ok (.if_icmp .ge 38, 3) := by decide +kernel
theorem dX8_remainAtMost_17 : decode cX8_remainAtMost 17 = .ok (.iload_n 1, 1) := by decide +kernel
theorem dX8_remainAtMost_18 : decode cX8_remainAtMost 18 = .ok (.iload 5, 2) := by decide +kernel
theorem dX8_remainAtMost_20 : decode cX8_remainAtMost 20 = .ok (.invokestatic 104, 3) := by decide +kernel
theorem dX8_remainAtMost_23 : decode cX8_remainAtMost 23 = .ok (.ifCond .eq 23, 3) := by decide +kernel
theorem dX8_remainAtMost_26 : decode cX8_remainAtMost 26 = .ok (.aload_n 0, 1) := by decide +kernel
theorem dX8_remainAtMost_27 : decode cX8_remainAtMost 27 = .ok (.iload 5, 2) := by decide +kernel
theorem dX8_remainAtMost_29 : decode cX8_remainAtMost 29 = .ok (.iload_n 2, 1) := by decide +kernel
theorem dX8_remainAtMost_30 : decode cX8_remainAtMost 30 = .ok (.invokevirtual 111, 3) := by decide +kernel
theorem dX8_remainAtMost_33 : decode cX8_remainAtMost 33 = .ok (.iconst 1, 1) := by decide +kernel
theorem dX8_remainAtMost_34 : decode cX8_remainAtMost 34 = .ok (.if_icmp .lt 9, 3) := by decide +kernel
theorem dX8_remainAtMost_37 : decode cX8_remainAtMost 37 = .ok (.iinc 3 1, 3) := by decide +kernel
theorem dX8_remainAtMost_40 : decode cX8_remainAtMost 40 = .ok (.goto 6, 3) := by decide +kernel
theorem dX8_remainAtMost_43 : decode cX8_remainAtMost 43 = .ok (.iinc 4 1, 3) := by decide +kernel
theorem dX8_remainAtMost_46 : decode cX8_remainAtMost 46 = .ok (.iinc 5 1, 3) := by decide +kernel
theorem dX8_remainAtMost_49 : decode cX8_remainAtMost 49 = .ok (.goto (-41), 3) := by decide +kernel
theorem dX8_remainAtMost_52 : decode cX8_remainAtMost 52 = .ok (.iload_n 3, 1) := by decide +kernel
theorem dX8_remainAtMost_53 : decode cX8_remainAtMost 53 = .ok (.iload 4, 2) := by decide +kernel
theorem dX8_remainAtMost_55 : decode cX8_remainAtMost 55 = .ok (.invokestatic 132, 3) := by decide +kernel
theorem dX8_remainAtMost_58 : decode cX8_remainAtMost 58 = .ok (.ireturn, 1) := by decide +kernel
theorem dX9_init_0 : decode cX9_init 0 = .ok (.aload_n 0, 1) := by decide +kernel
theorem dX9_init_1 : decode cX9_init 1 = .ok (.invokespecial 3, 3) := by decide +kernel
theorem dX9_init_4 : decode cX9_init 4 = .ok (.aload_n 0, 1) := by decide +kernel
theorem dX9_init_5 : decode cX9_init 5 = .ok (.sipush 400, 3) := by decide +kernel
theorem dX9_init_8 : decode cX9_init 8 = .ok (.newarray .int, 2) := by decide +kernel
theorem dX9_init_10 : decode cX9_init 10 = .ok (.putfield 9, 3) := by decide +kernel
theorem dX9_init_13 : decode cX9_init 13 = .ok (.aload_n 0, 1) := by decide +kernel
theorem dX9_init_14 : decode cX9_init 14 = .ok (.iconst 0, 1) := by decide +kernel
theorem dX9_init_15 : decode cX9_init 15 = .ok (.putfield 15, 3) := by decide +kernel
theorem dX9_init_18 : decode cX9_init 18 = .ok (.aload_n 0, 1) := by decide +kernel
theorem dX9_init_19 : decode cX9_init 19 = .ok (.iconst 0, 1) := by decide +kernel
theorem dX9_init_20 : decode cX9_init 20 = .ok (.putfield 19, 3) := by decide +kernel
theorem dX9_init_23 : decode cX9_init 23 = .ok (.aload_n 0, 1) := by decide +kernel
theorem dX9_init_24 : decode cX9_init 24 = .ok (.iconst 0, 1) := by decide +kernel
theorem dX9_init_25 : decode cX9_init 25 = .ok (.putfield 22, 3) := by decide +kernel
theorem dX9_init_28 : decode cX9_init 28 = .ok (.aload_n 0, 1) := by decide +kernel
theorem dX9_init_29 : decode cX9_init 29 = .ok (.iconst 0, 1) := by decide +kernel
theorem dX9_init_30 : decode cX9_init 30 = .ok (.putfield 25, 3) := by decide +kernel
theorem dX9_init_33 : decode cX9_init 33 = .ok (.aload_n 0, 1) := by decide +kernel
theorem dX9_init_34 : decode cX9_init 34 = .ok (.iconst 0, 1) := by decide +kernel
theorem dX9_init_35 : decode cX9_init 35 = .ok (.putfield 28, 3) := by decide +kernel
theorem dX9_init_38 : decode cX9_init 38 = .ok (.return_, 1) := by decide +kernel
theorem dX9_addFour_0 : decode cX9_addFour 0 = .ok (.bipush 24, 2) := by decide +kernel
theorem dX9_addFour_2 : decode cX9_addFour 2 = .ok (.istore_n 2, 1) := by decide +kernel
theorem dX9_addFour_3 : decode cX9_addFour 3 = .ok (.iload_n 2, 1) := by decide +kernel
theorem dX9_addFour_4 : decode cX9_addFour 4 = .ok (.ifCond .lt 45, 3) := by decide +kernel
theorem dX9_addFour_7 : decode cX9_addFour 7 = .ok (.aload_n 0, 1) := by decide +kernel
theorem dX9_addFour_8 : decode cX9_addFour 8 = .ok (.getfield 15, 3) := by decide +kernel
theorem dX9_addFour_11 : decode cX9_addFour 11 = .ok (.sipush 400, 3) := by decide +kernel
theorem dX9_addFour_14 : decode cX9_addFour 14 = .ok (.if_icmp .ge 35, 3) := by decide +kernel
theorem dX9_addFour_17 : decode cX9_addFour 17 = .ok (.aload_n 0, 1) := by decide +kernel
theorem dX9_addFour_18 : decode cX9_addFour 18 = .ok (.getfield 9, 3) := by decide +kernel
theorem dX9_addFour_21 : decode cX9_addFour 21 = .ok (.aload_n 0, 1) := by decide +kernel
theorem dX9_addFour_22 : decode cX9_addFour 22 = .ok (.getfield 15, 3) := by decide +kernel
theorem dX9_addFour_25 : decode cX9_addFour 25 = .ok (.iload_n 1, 1) := by decide +kernel
theorem dX9_addFour_26 : decode cX9_addFour 26 = .ok (.iload_n 2, 1) := by decide +kernel
theorem dX9_addFour_27 : decode cX9_addFour 27 = .ok (.ishr, 1) := by decide +kernel
theorem dX9_addFour_28 : decode cX9_addFour 28 = .ok (.sipush 255, 3) := by decide +kernel
theorem dX9_addFour_31 : decode cX9_addFour 31 = .ok (.iand, 1) := by decide +kernel
theorem dX9_addFour_32 : decode cX9_addFour 32 = .ok (.iastore, 1) := by decide +kernel
theorem dX9_addFour_33 : decode cX9_addFour 33 = .ok (.aload_n 0, 1) := by decide +kernel
theorem dX9_addFour_34 : decode cX9_addFour 34 = .ok (.dup, 1) := by decide +kernel
theorem dX9_addFour_35 : decode cX9_addFour 35 = .ok (.getfield 15, 3) := by decide +kernel
theorem dX9_addFour_38 : decode cX9_addFour 38 = .ok (.iconst 1, 1) := by decide +kernel
theorem dX9_addFour_39 : decode cX9_addFour 39 = .ok (.iadd, 1) := by decide +kernel
theorem dX9_addFour_40 : decode cX9_addFour 40 = .ok (.putfield 15, 3) := by decide +kernel
theorem dX9_addFour_43 : decode cX9_addFour 43 = .ok (.iinc 2 (-8), 3) := by decide +kernel
theorem dX9_addFour_46 : decode cX9_addFour 46 = .ok (.goto (-43), 3) := by decide +kernel
theorem dX9_addFour_49 : decode cX9_addFour 49 = .ok (.return_, 1) := by decide +kernel
theorem dX9_rewind_0 : decode cX9_rewind 0 = .ok (.aload_n 0, 1) := by decide +kernel
theorem dX9_rewind_1 : decode cX9_rewind 1 = .ok (.iconst 0, 1) := by decide +kernel
theorem dX9_rewind_2 : decode cX9_rewind 2 = .ok (.putfield 28, 3) := by decide +kernel
theorem dX9_rewind_5 : decode cX9_rewind 5 = .ok (.aload_n 0, 1) := by decide +kernel
theorem dX9_rewind_6 : decode cX9_rewind 6 = .ok (.invokevirtual 31, 3) := by decide +kernel
theorem dX9_rewind_9 : decode cX9_rewind 9 = .ok (.return_, 1) := by decide +kernel
theorem dX9_advance_0 : decode cX9_advance 0 = .ok (.aload_n 0, 1) := by decide +kernel
theorem dX9_advance_1 : decode cX9_advance 1 = .ok (.aload_n 0, 1) := by decide +kernel
theorem dX9_advance_2 : decode cX9_advance 2 = .ok (.getfield 28, 3) := by decide +kernel
theorem dX9_advance_5 : decode cX9_advance 5 = .ok (.putfield 22, 3) := by decide +kernel
theorem dX9_advance_8 : decode cX9_advance 8 = .ok (.aload_n 0, 1) := by decide +kernel
theorem dX9_advance_9 : decode cX9_advance 9 = .ok (.getfield 22, 3) := by decide +kernel
theorem dX9_advance_12 : decode cX9_advance 12 = .ok (.aload_n 0, 1) := by decide +kernel
theorem dX9_advance_13 : decode cX9_advance 13 = .ok (.getfield 15, 3) := by decide +kernel
theorem dX9_advance_16 : decode cX9_advance 16 = .ok (.if_icmp .ge 30, 3) := by decide +kernel
theorem dX9_advance_19 : decode cX9_advance 19 = .ok (.aload_n 0, 1) := by decide +kernel
theorem dX9_advance_20 : decode cX9_advance 20 = .ok (.getfield 9, 3) := by decide +kernel
theorem dX9_advance_23 : decode cX9_advance 23 = .ok (.aload_n 0, 1) := by decide +kernel
theorem dX9_advance_24 : decode cX9_advance 24 = .ok (.getfield 22, 3) := by decide +kernel
theorem dX9_advance_27 : decode cX9_advance 27 = .ok (.iaload, 1) := by decide +kernel
theorem dX9_advance_28 : decode cX9_advance 28 = .ok (.bipush 32, 2) := by decide +kernel
theorem dX9_advance_30 : decode cX9_advance 30 = .ok (.if_icmp .ne 16, 3) := by decide +kernel
theorem dX9_advance_33 : decode cX9_advance 33 = .ok (.aload_n 0, 1) := by decide +kernel
theorem dX9_advance_34 : decode cX9_advance 34 = .ok (.dup, 1) := by decide +kernel
theorem dX9_advance_35 : decode cX9_advance 35 = .ok (.getfield 22, 3) := by decide +kernel
theorem dX9_advance_38 : decode cX9_advance 38 = .ok (.iconst 1, 1) := by decide +kernel
theorem dX9_advance_39 : decode cX9_advance 39 = .ok (.iadd, 1) := by decide +kernel
theorem dX9_advance_40 : decode cX9_advance 40 = .ok (.putfield 22, 3) := by decide +kernel
theorem dX9_advance_43 : decode cX9_advance 43 = .ok (.goto (-35), 3) := by decide +kernel
theorem dX9_advance_46 : decode cX9_advance 46 = .ok (.aload_n 0, 1) := by decide +kernel
theorem dX9_advance_47 : decode cX9_advance 47 = .ok (.aload_n 0, 1) := by decide +kernel
theorem dX9_advance_48 : decode cX9_advance 48 = .ok (.getfield 22, 3) := by decide +kernel
theorem dX9_advance_51 : decode cX9_advance 51 = .ok (.putfield 28, 3) := by decide +kernel
theorem dX9_advance_54 : decode cX9_advance 54 = .ok (.aload_n 0, 1) := by decide +kernel
theorem dX9_advance_55 : decode cX9_advance 55 = .ok (.getfield 22, 3) := by decide +kernel
theorem dX9_advance_58 : decode cX9_advance 58 = .ok (.aload_n 0, 1) := by decide +kernel
theorem dX9_advance_59 : decode cX9_advance 59 = .ok (.getfield 15, 3) := by decide +kernel
theorem dX9_advance_62 : decode cX9_advance 62 = .ok (.if_icmp .lt 11, 3) := by decide +kernel
theorem dX9_advance_65 : decode cX9_advance 65 = .ok (.aload_n 0, 1) := by decide +kernel
theorem dX9_advance_66 : decode cX9_advance 66 = .ok (.iconst 0, 1) := by decide +kernel
theorem dX9_advance_67 : decode cX9_advance 67 = .ok (.putfield 19, 3) := by decide +kernel
theorem dX9_advance_70 : decode cX9_advance 70 = .ok (.goto 171, 3) := by decide +kernel
theorem dX9_advance_73 : decode cX9_advance 73 = .ok (.aload_n 0, 1) := by decide +kernel
theorem dX9_advance_74 : decode cX9_advance 74 = .ok (.getfield 9, 3) := by decide +kernel
theorem dX9_advance_77 : decode cX9_advance 77 = .ok (.aload_n 0, 1) := by decide +kernel
theorem dX9_advance_78 : decode cX9_advance 78 = .ok (.getfield 22, 3) := by decide +kernel
theorem dX9_advance_81 : decode cX9_advance 81 = .ok (.iaload, 1) := by decide +kernel
theorem dX9_advance_82 : decode cX9_advance 82 = .ok (.invokestatic 34, 3) := by decide +kernel
theorem dX9_advance_85 : decode cX9_advance 85 = .ok (.ifCond .eq 47, 3) := by decide +kernel
theorem dX9_advance_88 : decode cX9_advance 88 = .ok (.aload_n 0, 1) := by decide +kernel
theorem dX9_advance_89 : decode cX9_advance 89 = .ok (.iconst 1, 1) := by decide +kernel
theorem dX9_advance_90 : decode cX9_advance 90 = .ok (.putfield 19, 3) := by decide +kernel
theorem dX9_advance_93 : decode cX9_advance 93 = .ok (.aload_n 0, 1) := by decide +kernel
theorem dX9_advance_94 : decode cX9_advance 94 = .ok (.getfield 28, 3) := by decide +kernel
theorem dX9_advance_97 : decode cX9_advance 97 = .ok (.aload_n 0, 1) := by decide +kernel
theorem dX9_advance_98 : decode cX9_advance 98 = .ok (.getfield 15, 3) := by decide +kernel
theorem dX9_advance_101 : decode cX9_advance 101 = .ok (.if_icmp .ge 140, 3) := by decide +kernel
theorem dX9_advance_104 : decode cX9_advance 104 = .ok (.aload_n 0, 1) := by decide +kernel
theorem dX9_advance_105 : decode cX9_advance 105 = .ok (.getfield 9, 3) := by decide +kernel
theorem dX9_advance_108 : decode cX9_advance 108 = .ok (.aload_n 0, 1) := by decide +kernel
theorem dX9_advance_109 : decode cX9_advance 109 = .ok (.getfield 28, 3) := by decide +kernel
theorem dX9_advance_112 : decode cX9_advance 112 = .ok (.iaload, 1) := by decide +kernel
theorem dX9_advance_113 : decode cX9_advance 113 = .ok (.invokestatic 34, 3) := by decide +kernel
theorem dX9_advance_116 : decode cX9_advance 116 = .ok (.ifCond .eq 125, 3) := by decide +kernel
theorem dX9_advance_119 : decode cX9_advance 119 = .ok (.aload_n 0, 1) := by decide +kernel
theorem dX9_advance_120 : decode cX9_advance 120 = .ok (.dup, 1) := by decide +kernel
theorem dX9_advance_121 : decode cX9_advance 121 = .ok (.getfield 28, 3) := by decide +kernel
theorem dX9_advance_124 : decode cX9_advance 124 = .ok (.iconst 1, 1) := by decide +kernel
theorem dX9_advance_125 : decode cX9_advance 125 = .ok (.iadd, 1) := by decide +kernel
theorem dX9_advance_126 : decode cX9_advance 126 = .ok (.putfield 28, 3) := by decide +kernel
theorem dX9_advance_129 : decode cX9_advance 129 = .ok (.goto (-36), 3) := by decide +kernel
theorem dX9_advance_132 : decode cX9_advance 132 = .ok (.aload_n 0, 1) := by decide +kernel
theorem dX9_advance_133 : decode cX9_advance 133 = .ok (.getfield 9, 3) := by decide +kernel
theorem dX9_advance_136 : decode cX9_advance 136 = .ok (.aload_n 0, 1) := by decide +kernel
theorem dX9_advance_137 : decode cX9_advance 137 = .ok (.getfield 22, 3) := by decide +kernel
theorem dX9_advance_140 : decode cX9_advance 140 = .ok (.iaload, 1) := by decide +kernel
theorem dX9_advance_141 : decode cX9_advance 141 = .ok (.invokestatic 38, 3) := by decide +kernel
theorem dX9_advance_144 : decode cX9_advance 144 = .ok (.ifCond .eq 82, 3) := by decide +kernel
theorem dX9_advance_147 : decode cX9_advance 147 = .ok (.aload_n 0, 1) := by decide +kernel
theorem dX9_advance_148 : decode cX9_advance 148 = .ok (.iconst 2, 1) := by decide +kernel
theorem dX9_advance_149 : decode cX9_advance 149 = .ok (.putfield 19, 3) := by decide +kernel
theorem dX9_advance_152 : decode cX9_advance 152 = .ok (.aload_n 0, 1) := by decide +kernel
theorem dX9_advance_153 : decode cX9_advance 153 = .ok (.iconst 0, 1) := by decide +kernel
theorem dX9_advance_154 : decode cX9_advance 154 = .ok (.putfield 25, 3) := by decide +kernel
theorem dX9_advance_157 : decode cX9_advance 157 = .ok (.aload_n 0, 1) := by decide +kernel
theorem dX9_advance_158 : decode cX9_advance 158 = .ok (.getfield 28, 3) := by decide +kernel
theorem dX9_advance_161 : decode cX9_advance 161 = .ok (.aload_n 0, 1) := by decide +kernel
theorem dX9_advance_162 : decode cX9_advance 162 = .ok (.getfield 15, 3) := by decide +kernel
theorem dX9_advance_165 : decode cX9_advance 165 = .ok (.if_icmp .ge 76, 3) := by decide +kernel
theorem dX9_advance_168 : decode cX9_advance 168 = .ok (.aload_n 0, 1) := by decide +kernel
theorem dX9_advance_169 : decode cX9_advance 169 = .ok (.getfield 9, 3) := by decide +kernel
theorem dX9_advance_172 : decode cX9_advance 172 = .ok (.aload_n 0, 1) := by decide +kernel
theorem dX9_advance_173 : decode cX9_advance 173 = .ok (.getfield 28, 3) := by decide +kernel
theorem dX9_advance_176 : decode cX9_advance 176 = .ok (.iaload, 1) := by decide +kernel
theorem dX9_advance_177 : decode cX9_advance 177 = .ok (.invokestatic 38, 3) := by decide +kernel
theorem dX9_advance_180 : decode cX9_advance 180 = .ok (.ifCond .eq 61, 3) := by decide +kernel
theorem dX9_advance_183 : decode cX9_advance 183 = .ok (.aload_n 0, 1) := by decide +kernel
theorem dX9_advance_184 : decode cX9_advance 184 = .ok (.aload_n 0, 1) := by decide +kernel
theorem dX9_advance_185 : decode cX9_advance 185 = .ok (.getfield 25, 3) := by decide +kernel
theorem dX9_advance_188 : decode cX9_advance 188 = .ok (.bipush 10, 2) := by decide +kernel
theorem dX9_advance_190 : decode cX9_advance 190 = .ok (.imul, 1) := by decide +kernel
theorem dX9_advance_191 : decode cX9_advance 191 = .ok (.aload_n 0, 1) := by decide +kernel
theorem dX9_advance_192 : decode cX9_advance 192 = .ok (.getfield 9, 3) := by decide +kernel
theorem dX9_advance_195 : decode cX9_advance 195 = .ok (.aload_n 0, 1) := by decide +kernel
theorem dX9_advance_196 : decode cX9_advance 196 = .ok (.getfield 28, 3) := by decide +kernel
theorem dX9_advance_199 : decode cX9_advance 199 = .ok (.iaload, 1) := by decide +kernel
theorem dX9_advance_200 : decode cX9_advance 200 = .ok (.iadd, 1) := by decide +kernel
theorem dX9_advance_201 : decode cX9_advance 201 = .ok (.bipush 48, 2) := by decide +kernel
theorem dX9_advance_203 : decode cX9_advance 203 = .ok (.isub, 1) := by decide +kernel
theorem dX9_advance_204 : decode cX9_advance 204 = .ok (.sipush 10000, 3) := by decide +kernel
theorem dX9_advance_207 : decode cX9_advance 207 = .ok (.invokestatic 41, 3) := by decide +kernel
theorem dX9_advance_210 : decode cX9_advance 210 = .ok (.putfield 25, 3) := by decide +kernel
theorem dX9_advance_213 : decode cX9_advance 213 = .ok (.aload_n 0, 1) := by decide +kernel
theorem dX9_advance_214 : decode cX9_advance 214 = .ok (.dup, 1) := by decide +kernel
theorem dX9_advance_215 : decode cX9_advance 215 = .ok (.getfield 28, 3) := by decide +kernel
theorem dX9_advance_218 : decode cX9_advance 218 = .ok (.iconst 1, 1) := by decide +kernel
theorem dX9_advance_219 : decode cX9_advance 219 = .ok (.iadd, 1) := by decide +kernel
theorem dX9_advance_220 : decode cX9_advance 220 = .ok (.putfield 28, 3) := by decide +kernel
theorem dX9_advance_223 : decode cX9_advance 223 = .ok (.goto (-66), 3) := by decide +kernel
theorem dX9_advance_226 : decode cX9_advance 226 = .ok (.aload_n 0, 1) := by decide +kernel
theorem dX9_advance_227 : decode cX9_advance 227 = .ok (.iconst 3, 1) := by decide +kernel
theorem dX9_advance_228 : decode cX9_advance 228 = .ok (.putfield 19, 3) := by decide +kernel
theorem dX9_advance_231 : decode cX9_advance 231 = .ok (.aload_n 0, 1) := by decide +kernel
theorem dX9_advance_232 : decode cX9_advance 232 = .ok (.dup, 1) := by decide +kernel
theorem dX9_advance_233 : decode cX9_advance 233 = .ok (.getfield 28, 3) := by decide +kernel
theorem dX9_advance_236 : decode cX9_advance 236 = .ok (.iconst 1, 1) := by decide +kernel
theorem dX9_advance_237 : decode cX9_advance 237 = .ok (.iadd, 1) := by decide +kernel
theorem dX9_advance_238 : decode cX9_advance 238 = .ok (.putfield 28, 3) := by decide +kernel
theorem dX9_advance_241 : decode cX9_advance 241 = .ok (.return_, 1) := by decide +kernel
theorem dX9_isSign_0 : decode cX9_isSign 0 = .ok (.aload_n 0, 1) := by decide +kernel
theorem dX9_isSign_1 : decode cX9_isSign 1 = .ok (.getfield 19, 3) := by decide +kernel
theorem dX9_isSign_4 : decode cX9_isSign 4 = .ok (.iconst 3, 1) := by decide +kernel
theorem dX9_isSign_5 : decode cX9_isSign 5 = .ok (.if_icmp .ne 31, 3) := by decide +kernel
theorem dX9_isSign_8 : decode cX9_isSign 8 = .ok (.aload_n 0, 1) := by decide +kernel
theorem dX9_isSign_9 : decode cX9_isSign 9 = .ok (.getfield 22, 3) := by decide +kernel
theorem dX9_isSign_12 : decode cX9_isSign 12 = .ok (.aload_n 0, 1) := by decide +kernel
theorem dX9_isSign_13 : decode cX9_isSign 13 = .ok (.getfield 15, 3) := by decide +kernel
theorem dX9_isSign_16 : decode cX9_isSign 16 = .ok (.if_icmp .ge 20, 3) := by decide +kernel
theorem dX9_isSign_19 : decode cX9_isSign 19 = .ok (.aload_n 0, 1) := by decide +kernel
theorem dX9_isSign_20 : decode cX9_isSign 20 = .ok (.getfield 9, 3) := by decide +kernel
theorem dX9_isSign_23 : decode cX9_isSign 23 = .ok (.aload_n 0, 1) := by decide +kernel
theorem dX9_isSign_24 : decode cX9_isSign 24 = .ok (.getfield 22, 3) := by decide +kernel
theorem dX9_isSign_27 : decode cX9_isSign 27 = .ok (.iaload, 1) := by decide +kernel
theorem dX9_isSign_28 : decode cX9_isSign 28 = .ok (.iload_n 1, 1) := by decide +kernel
theorem dX9_isSign_29 : decode cX9_isSign 29 = .ok (.if_icmp .ne 7, 3) := by decide +kernel
theorem dX9_isSign_32 : decode cX9_isSign 32 = .ok (.iconst 1, 1) := by decide +kernel
theorem dX9_isSign_33 : decode cX9_isSign 33 = .ok (.goto 4, 3) := by decide +kernel
theorem dX9_isSign_36 : decode cX9_isSign 36 = .ok (.iconst 0, 1) := by decide +kernel
theorem dX9_isSign_37 : decode cX9_isSign 37 = .ok (.ireturn, 1) := by decide +kernel
theorem dX9_isWord_0 : decode cX9_isWord 0 = .ok (.aload_n 0, 1) := by decide +kernel
theorem dX9_isWord_1 : decode cX9_isWord 1 = .ok (.getfield 19, 3) := by decide +kernel
theorem dX9_isWord_4 : decode cX9_isWord 4 = .ok (.iconst 1, 1) := by decide +kernel
theorem dX9_isWord_5 : decode cX9_isWord 5 = .ok (.if_icmp .ne 19, 3) := by decide +kernel
theorem dX9_isWord_8 : decode cX9_isWord 8 = .ok (.aload_n 0, 1) := by decide +kernel
theorem dX9_isWord_9 : decode cX9_isWord 9 = .ok (.getfield 28, 3) := by decide +kernel
theorem dX9_isWord_12 : decode cX9_isWord 12 = .ok (.aload_n 0, 1) := by decide +kernel
theorem dX9_isWord_13 : decode cX9_isWord 13 = .ok (.getfield 22, 3) := by decide +kernel
theorem dX9_isWord_16 : decode cX9_isWord 16 = .ok (.isub, 1) := by decide +kernel
theorem dX9_isWord_17 : decode cX9_isWord 17 = .ok (.aload_n 1, 1) := by decide +kernel
theorem dX9_isWord_18 : decode cX9_isWord 18 = .ok (.invokevirtual 47, 3) := by decide +kernel
theorem dX9_isWord_21 : decode cX9_isWord 21 = .ok (.if_icmp .eq 5, 3) := by decide +kernel
theorem dX9_isWord_24 : decode cX9_isWord 24 = .ok (.iconst 0, 1) := by decide +kernel
theorem dX9_isWord_25 : decode cX9_isWord 25 = .ok (.ireturn, 1) := by decide +kernel
theorem dX9_isWord_26 : decode cX9_isWord 26 = .ok (.iconst 0, 1) := by decide +kernel
theorem dX9_isWord_27 : decode cX9_isWord 27 = .ok (.istore_n 2, 1) := by decide +kernel
theorem dX9_isWord_28 : decode cX9_isWord 28 = .ok (.iload_n 2, 1) := by decide +kernel
theorem dX9_isWord_29 : decode cX9_isWord 29 = .ok (.aload_n 1, 1) := by decide +kernel
theorem dX9_isWord_30 : decode cX9_isWord 30 = .ok (.invokevirtual 47, 3) := by decide +kernel
theorem dX9_isWord_33 : decode cX9_isWord 33 = .ok (.if_icmp .ge 30, 3) := by decide +kernel
theorem dX9_isWord_36 : decode cX9_isWord 36 = .ok (.aload_n 0, 1) := by decide +kernel
theorem dX9_isWord_37 : decode cX9_isWord 37 = .ok (.getfield 9, 3) := by decide +kernel
theorem dX9_isWord_40 : decode cX9_isWord 40 = .ok (.aload_n 0, 1) := by decide +kernel
theorem dX9_isWord_41 : decode cX9_isWord 41 = .ok (.getfield 22, 3) := by decide +kernel
theorem dX9_isWord_44 : decode cX9_isWord 44 = .ok (.iload_n 2, 1) := by decide +kernel
theorem dX9_isWord_45 : decode cX9_isWord 45 = .ok (.iadd, 1) := by decide +kernel
theorem dX9_isWord_46 : decode cX9_isWord 46 = .ok (.iaload, 1) := by decide +kernel
theorem dX9_isWord_47 : decode cX9_isWord 47 = .ok (.aload_n 1, 1) := by decide +kernel
theorem dX9_isWord_48 : decode cX9_isWord 48 = .ok (.iload_n 2, 1) := by decide +kernel
theorem dX9_isWord_49 : decode cX9_isWord 49 = .ok (.invokevirtual 52, 3) := by decide +kernel
theorem dX9_isWord_52 : decode cX9_isWord 52 = .ok (.if_icmp .eq 5, 3) := by decide +kernel
theorem dX9_isWord_55 : decode cX9_isWord 55 = .ok (.iconst 0, 1) := by decide +kernel
theorem dX9_isWord_56 : decode cX9_isWord 56 = .ok (.ireturn, 1) := by decide +kernel
theorem dX9_isWord_57 : decode cX9_isWord 57 = .ok (.iinc 2 1, 3) := by decide +kernel
theorem dX9_isWord_60 : decode cX9_isWord 60 = .ok (.goto (-32), 3) := by decide +kernel
theorem dX9_isWord_63 : decode cX9_isWord 63 = .ok (.iconst 1, 1) := by decide +kernel
theorem dX9_isWord_64 : decode cX9_isWord 64 = .ok (.ireturn, 1) := by decide +kernel
theorem dX9_isNumber_0 : decode cX9_isNumber 0 = .ok (.aload_n 0, 1) := by decide +kernel
theorem dX9_isNumber_1 : decode cX9_isNumber 1 = .ok (.getfield 19, 3) := by decide +kernel
theorem dX9_isNumber_4 : decode cX9_isNumber 4 = .ok (.iconst 2, 1) := by decide +kernel
theorem dX9_isNumber_5 : decode cX9_isNumber 5 = .ok (.if_icmp .ne 23, 3) := by decide +kernel
theorem dX9_isNumber_8 : decode cX9_isNumber 8 = .ok (.aload_n 0, 1) := by decide +kernel
theorem dX9_isNumber_9 : decode cX9_isNumber 9 = .ok (.getfield 25, 3) := by decide +kernel
theorem dX9_isNumber_12 : decode cX9_isNumber 12 = .ok (.iload_n 1, 1) := by decide +kernel
theorem dX9_isNumber_13 : decode cX9_isNumber 13 = .ok (.if_icmp .lt 15, 3) := by decide +kernel
theorem dX9_isNumber_16 : decode cX9_isNumber 16 = .ok (.aload_n 0, 1) := by decide +kernel
theorem dX9_isNumber_17 : decode cX9_isNumber 17 = .ok (.getfield 25, 3) := by decide +kernel
theorem dX9_isNumber_20 : decode cX9_isNumber 20 = .ok (.iload_n 2, 1) := by decide +kernel
theorem dX9_isNumber_21 : decode cX9_isNumber 21 = .ok (.if_icmp .gt 7, 3) := by decide +kernel
theorem dX9_isNumber_24 : decode cX9_isNumber 24 = .ok (.iconst 1, 1) := by decide +kernel
theorem dX9_isNumber_25 : decode cX9_isNumber 25 = .ok (.goto 4, 3) := by decide +kernel
theorem dX9_isNumber_28 : decode cX9_isNumber 28 = .ok (.iconst 0, 1) := by decide +kernel
theorem dX9_isNumber_29 : decode cX9_isNumber 29 = .ok (.ireturn, 1) := by decide +kernel
theorem dX9_isLetter_0 : decode cX9_isLetter 0 = .ok (.iload_n 0, 1) := by decide +kernel
theorem dX9_isLetter_1 : decode cX9_isLetter 1 = .ok (.bipush 97, 2) := by decide +kernel
theorem dX9_isLetter_3 : decode cX9_isLetter 3 = .ok (.if_icmp .lt 13, 3) := by decide +kernel
theorem dX9_isLetter_6 : decode cX9_isLetter 6 = .ok (.iload_n 0, 1) := by decide +kernel
theorem dX9_isLetter_7 : decode cX9_isLetter 7 = .ok (.bipush 122, 2) := by decide +kernel
theorem dX9_isLetter_9 : decode cX9_isLetter 9 = .ok (.if_icmp .gt 7, 3) := by decide +kernel
theorem dX9_isLetter_12 : decode cX9_isLetter 12 = .ok (.iconst 1, 1) := by decide +kernel
theorem dX9_isLetter_13 : decode cX9_isLetter 13 = .ok (.goto 4, 3) := by decide +kernel
theorem dX9_isLetter_16 : decode cX9_isLetter 16 = .ok (.iconst 0, 1) := by decide +kernel
theorem dX9_isLetter_17 : decode cX9_isLetter 17 = .ok (.ireturn, 1) := by decide +kernel
theorem dX9_isDigit_0 : decode cX9_isDigit 0 = .ok (.iload_n 0, 1) := by decide +kernel
theorem dX9_isDigit_1 : decode cX9_isDigit 1 = .ok (.bipush 48, 2) := by decide +kernel
theorem dX9_isDigit_3 : decode cX9_isDigit 3 = .ok (.if_icmp .lt 13, 3) := by decide +kernel
theorem dX9_isDigit_6 : decode cX9_isDigit 6 = .ok (.iload_n 0, 1) := by decide +kernel
theorem dX9_isDigit_7 : decode cX9_isDigit 7 = .ok (.bipush 57, 2) := by decide +kernel
theorem dX9_isDigit_9 : decode cX9_isDigit 9 = .ok (.if_icmp .gt 7, 3) := by decide +kernel
theorem dX9_isDigit_12 : decode cX9_isDigit 12 = .ok (.iconst 1, 1) := by decide +kernel
theorem dX9_isDigit_13 : decode cX9_isDigit 13 = .ok (.goto 4, 3) := by decide +kernel
theorem dX9_isDigit_16 : decode cX9_isDigit 16 = .ok (.iconst 0, 1) := by decide +kernel
theorem dX9_isDigit_17 : decode cX9_isDigit 17 = .ok (.ireturn, 1) := by decide +kernel
theorem dX10_init_0 : decode cX10_init 0 = .ok (.aload_n 0, 1) := by decide +kernel
theorem dX10_init_1 : decode cX10_init 1 = .ok (.invokespecial 3, 3) := by decide +kernel
theorem dX10_init_4 : decode cX10_init 4 = .ok (.aload_n 0, 1) := by decide +kernel
theorem dX10_init_5 : decode cX10_init 5 = .ok (.iconst 0, 1) := by decide +kernel
theorem dX10_init_6 : decode cX10_init 6 = .ok (.putfield 9, 3) := by decide +kernel
theorem dX10_init_9 : decode cX10_init 9 = .ok (.aload_n 0, 1) := by decide +kernel
theorem dX10_init_10 : decode cX10_init 10 = .ok (.iconst 0, 1) := by decide +kernel
theorem dX10_init_11 : decode cX10_init 11 = .ok (.putfield 15, 3) := by decide +kernel
theorem dX10_init_14 : decode cX10_init 14 = .ok (.aload_n 0, 1) := by decide +kernel
theorem dX10_init_15 : decode cX10_init 15 = .ok (.iconst 0, 1) := by decide +kernel
theorem dX10_init_16 : decode cX10_init 16 = .ok (.putfield 18, 3) := by decide +kernel
theorem dX10_init_19 : decode cX10_init 19 = .ok (.aload_n 0, 1) := by decide +kernel
theorem dX10_init_20 : decode cX10_init 20 = .ok (.bipush 12, 2) := by decide +kernel
theorem dX10_init_22 : decode cX10_init 22 = .ok (.newarray .int, 2) := by decide +kernel
theorem dX10_init_24 : decode cX10_init 24 = .ok (.putfield 21, 3) := by decide +kernel
theorem dX10_init_27 : decode cX10_init 27 = .ok (.aload_n 0, 1) := by decide +kernel
theorem dX10_init_28 : decode cX10_init 28 = .ok (.bipush 12, 2) := by decide +kernel
theorem dX10_init_30 : decode cX10_init 30 = .ok (.newarray .int, 2) := by decide +kernel
theorem dX10_init_32 : decode cX10_init 32 = .ok (.putfield 25, 3) := by decide +kernel
theorem dX10_init_35 : decode cX10_init 35 = .ok (.aload_n 0, 1) := by decide +kernel
theorem dX10_init_36 : decode cX10_init 36 = .ok (.bipush 60, 2) := by decide +kernel
theorem dX10_init_38 : decode cX10_init 38 = .ok (.newarray .int, 2) := by decide +kernel
theorem dX10_init_40 : decode cX10_init 40 = .ok (.putfield 28, 3) := by decide +kernel
theorem dX10_init_43 : decode cX10_init 43 = .ok (.aload_n 0, 1) := by decide +kernel
theorem dX10_init_44 : decode cX10_init 44 = .ok (.sipush 400, 3) := by decide +kernel
theorem dX10_init_47 : decode cX10_init 47 = .ok (.newarray .int, 2) := by decide +kernel
theorem dX10_init_49 : decode cX10_init 49 = .ok (.putfield 31, 3) := by decide +kernel
theorem dX10_init_52 : decode cX10_init 52 = .ok (.return_, 1) := by decide +kernel
theorem dX10_init__0 : decode cX10_init_ 0 = .ok (.aload_n 0, 1) := by decide +kernel
theorem dX10_init__1 : decode cX10_init_ 1 = .ok (.invokespecial 3, 3) := by decide +kernel
theorem dX10_init__4 : decode cX10_init_ 4 = .ok (.aload_n 0, 1) := by decide +kernel
theorem dX10_init__5 : decode cX10_init_ 5 = .ok (.iconst 0, 1) := by decide +kernel
theorem dX10_init__6 : decode cX10_init_ 6 = .ok (.putfield 9, 3) := by decide +kernel
theorem dX10_init__9 : decode cX10_init_ 9 = .ok (.aload_n 0, 1) := by decide +kernel
theorem dX10_init__10 : decode cX10_init_ 10 = .ok (.iconst 0, 1) := by decide +kernel
theorem dX10_init__11 : decode cX10_init_ 11 = .ok (.putfield 15, 3) := by decide +kernel
theorem dX10_init__14 : decode cX10_init_ 14 = .ok (.aload_n 0, 1) := by decide +kernel
theorem dX10_init__15 : decode cX10_init_ 15 = .ok (.iconst 0, 1) := by decide +kernel
theorem dX10_init__16 : decode cX10_init_ 16 = .ok (.putfield 18, 3) := by decide +kernel
theorem dX10_init__19 : decode cX10_init_ 19 = .ok (.aload_n 0, 1) := by decide +kernel
theorem dX10_init__20 : decode cX10_init_ 20 = .ok (.iconst 0, 1) := by decide +kernel
theorem dX10_init__21 : decode cX10_init_ 21 = .ok (.aload_n 1, 1) := by decide +kernel
theorem dX10_init__22 : decode cX10_init_ 22 = .ok (.getfield 9, 3) := by decide +kernel
theorem dX10_init__25 : decode cX10_init_ 25 = .ok (.bipush 12, 2) := by decide +kernel
theorem dX10_init__27 : decode cX10_init_ 27 = .ok (.invokestatic 34, 3) := by decide +kernel
theorem dX10_init__30 : decode cX10_init_ 30 = .ok (.invokestatic 40, 3) := by decide +kernel
theorem dX10_init__33 : decode cX10_init_ 33 = .ok (.putfield 9, 3) := by decide +kernel
theorem dX10_init__36 : decode cX10_init_ 36 = .ok (.aload_n 0, 1) := by decide +kernel
theorem dX10_init__37 : decode cX10_init_ 37 = .ok (.iconst 0, 1) := by decide +kernel
theorem dX10_init__38 : decode cX10_init_ 38 = .ok (.aload_n 1, 1) := by decide +kernel
theorem dX10_init__39 : decode cX10_init_ 39 = .ok (.getfield 15, 3) := by decide +kernel
theorem dX10_init__42 : decode cX10_init_ 42 = .ok (.sipush 400, 3) := by decide +kernel
theorem dX10_init__45 : decode cX10_init_ 45 = .ok (.invokestatic 34, 3) := by decide +kernel
theorem dX10_init__48 : decode cX10_init_ 48 = .ok (.invokestatic 40, 3) := by decide +kernel
theorem dX10_init__51 : decode cX10_init_ 51 = .ok (.putfield 15, 3) := by decide +kernel
theorem dX10_init__54 : decode cX10_init_ 54 = .ok (.aload_n 0, 1) := by decide +kernel
theorem dX10_init__55 : decode cX10_init_ 55 = .ok (.aload_n 0, 1) := by decide +kernel
theorem dX10_init__56 : decode cX10_init_ 56 = .ok (.getfield 9, 3) := by decide +kernel
theorem dX10_init__59 : decode cX10_init_ 59 = .ok (.newarray .int, 2) := by decide +kernel
theorem dX10_init__61 : decode cX10_init_ 61 = .ok (.putfield 21, 3) := by decide +kernel
theorem dX10_init__64 : decode cX10_init_ 64 = .ok (.aload_n 0, 1) := by decide +kernel
theorem dX10_init__65 : decode cX10_init_ 65 = .ok (.aload_n 0, 1) := by decide +kernel
theorem dX10_init__66 : decode cX10_init_ 66 = .ok (.getfield 9, 3) := by decide +kernel
theorem dX10_init__69 : decode cX10_init_ 69 = .ok (.newarray .int, 2) := by decide +kernel
theorem dX10_init__71 : decode cX10_init_ 71 = .ok (.putfield 25, 3) := by decide +kernel
theorem dX10_init__74 : decode cX10_init_ 74 = .ok (.aload_n 0, 1) := by decide +kernel
theorem dX10_init__75 : decode cX10_init_ 75 = .ok (.aload_n 0, 1) := by decide +kernel
theorem dX10_init__76 : decode cX10_init_ 76 = .ok (.getfield 9, 3) := by decide +kernel
theorem dX10_init__79 : decode cX10_init_ 79 = .ok (.iconst 5, 1) := by decide +kernel
theorem dX10_init__80 : decode cX10_init_ 80 = .ok (.imul, 1) := by decide +kernel
theorem dX10_init__81 : decode cX10_init_ 81 = .ok (.newarray .int, 2) := by decide +kernel
theorem dX10_init__83 : decode cX10_init_ 83 = .ok (.putfield 28, 3) := by decide +kernel
theorem dX10_init__86 : decode cX10_init_ 86 = .ok (.aload_n 0, 1) := by decide +kernel
theorem dX10_init__87 : decode cX10_init_ 87 = .ok (.aload_n 0, 1) := by decide +kernel
theorem dX10_init__88 : decode cX10_init_ 88 = .ok (.getfield 15, 3) := by decide +kernel
theorem dX10_init__91 : decode cX10_init_ 91 = .ok (.newarray .int, 2) := by decide +kernel
theorem dX10_init__93 : decode cX10_init_ 93 = .ok (.putfield 31, 3) := by decide +kernel
theorem dX10_init__96 : decode cX10_init_ 96 = .ok (.aload_n 1, 1) := by decide +kernel
theorem dX10_init__97 : decode cX10_init_ 97 = .ok (.getfield 21, 3) := by decide +kernel
theorem dX10_init__100 : decode cX10_init_ 100 = .ok (.iconst 0, 1) := by decide +kernel
theorem dX10_init__101 : decode cX10_init_ 101 = .ok (.aload_n 0, 1) := by decide +kernel
theorem dX10_init__102 : decode cX10_init_ 102 = .ok (.getfield 21, 3) := by decide +kernel
theorem dX10_init__105 : decode cX10_init_ 105 = .ok (.iconst 0, 1) := by decide +kernel
theorem dX10_init__106 : decode cX10_init_ 106 = .ok (.aload_n 0, 1) := by decide +kernel
theorem dX10_init__107 : decode cX10_init_ 107 = .ok (.getfield 9, 3) := by decide +kernel
theorem dX10_init__110 : decode cX10_init_ 110 = .ok (.invokestatic 43, 3) := by decide +kernel
theorem dX10_init__113 : decode cX10_init_ 113 = .ok (.aload_n 1, 1) := by decide +kernel
theorem dX10_init__114 : decode cX10_init_ 114 = .ok (.getfield 25, 3) := by decide +kernel
theorem dX10_init__117 : decode cX10_init_ 117 = .ok (.iconst 0, 1) := by decide +kernel
theorem dX10_init__118 : decode cX10_init_ 118 = .ok (.aload_n 0, 1) := by decide +kernel
theorem dX10_init__119 : decode cX10_init_ 119 = .ok (.getfield 25, 3) := by decide +kernel
theorem dX10_init__122 : decode cX10_init_ 122 = .ok (.iconst 0, 1) := by decide +kernel
theorem dX10_init__123 : decode cX10_init_ 123 = .ok (.aload_n 0, 1) := by decide +kernel
theorem dX10_init__124 : decode cX10_init_ 124 = .ok (.getfield 9, 3) := by decide +kernel
theorem dX10_init__127 : decode cX10_init_ 127 = .ok (.invokestatic 43, 3) := by decide +kernel
theorem dX10_init__130 : decode cX10_init_ 130 = .ok (.aload_n 1, 1) := by decide +kernel
theorem dX10_init__131 : decode cX10_init_ 131 = .ok (.getfield 28, 3) := by decide +kernel
theorem dX10_init__134 : decode cX10_init_ 134 = .ok (.iconst 0, 1) := by decide +kernel
theorem dX10_init__135 : decode cX10_init_ 135 = .ok (.aload_n 0, 1) := by decide +kernel
theorem dX10_init__136 : decode cX10_init_ 136 = .ok (.getfield 28, 3) := by decide +kernel
theorem dX10_init__139 : decode cX10_init_ 139 = .ok (.iconst 0, 1) := by decide +kernel
theorem dX10_init__140 : decode cX10_init_ 140 = .ok (.aload_n 0, 1) := by decide +kernel
theorem dX10_init__141 : decode cX10_init_ 141 = .ok (.getfield 9, 3) := by decide +kernel
theorem dX10_init__144 : decode cX10_init_ 144 = .ok (.iconst 5, 1) := by decide +kernel
theorem dX10_init__145 : decode cX10_init_ 145 = .ok (.imul, 1) := by decide +kernel
theorem dX10_init__146 : decode cX10_init_ 146 = .ok (.invokestatic 43, 3) := by decide +kernel
theorem dX10_init__149 : decode cX10_init_ 149 = .ok (.aload_n 1, 1) := by decide +kernel
theorem dX10_init__150 : decode cX10_init_ 150 = .ok (.getfield 31, 3) := by decide +kernel
theorem dX10_init__153 : decode cX10_init_ 153 = .ok (.iconst 0, 1) := by decide +kernel
theorem dX10_init__154 : decode cX10_init_ 154 = .ok (.aload_n 0, 1) := by decide +kernel
theorem dX10_init__155 : decode cX10_init_ 155 = .ok (.getfield 31, 3) := by decide +kernel
theorem dX10_init__158 : decode cX10_init_ 158 = .ok (.iconst 0, 1) := by decide +kernel
theorem dX10_init__159 : decode cX10_init_ 159 = .ok (.aload_n 0, 1) := by decide +kernel
theorem dX10_init__160 : decode cX10_init_ 160 = .ok (.getfield 15, 3) := by decide +kernel
theorem dX10_init__163 : decode cX10_init_ 163 = .ok (.invokestatic 43, 3) := by decide +kernel
theorem dX10_init__166 : decode cX10_init_ 166 = .ok (.return_, 1) := by decide +kernel
theorem dX10_empty_0 : decode cX10_empty 0 = .ok (.aload_n 0, 1) := by decide +kernel
theorem dX10_empty_1 : decode cX10_empty 1 = .ok (.iconst 0, 1) := by decide +kernel
theorem dX10_empty_2 : decode cX10_empty 2 = .ok (.putfield 9, 3) := by decide +kernel
theorem dX10_empty_5 : decode cX10_empty 5 = .ok (.aload_n 0, 1) := by decide +kernel
theorem dX10_empty_6 : decode cX10_empty 6 = .ok (.iconst 0, 1) := by decide +kernel
theorem dX10_empty_7 : decode cX10_empty 7 = .ok (.putfield 15, 3) := by decide +kernel
theorem dX10_empty_10 : decode cX10_empty 10 = .ok (.return_, 1) := by decide +kernel
theorem dX10_beginClause_0 : decode cX10_beginClause 0 = .ok (.aload_n 0, 1) := by decide +kernel
theorem dX10_beginClause_1 : decode cX10_beginClause 1 = .ok (.getfield 9, 3) := by decide +kernel
theorem dX10_beginClause_4 : decode cX10_beginClause 4 = .ok (.aload_n 0, 1) := by decide +kernel
theorem dX10_beginClause_5 : decode cX10_beginClause 5 = .ok (.getfield 21, 3) := by decide +kernel
theorem dX10_beginClause_8 : decode cX10_beginClause 8 = .ok (.arraylength, 1) := by decide +kernel
theorem dX10_beginClause_9 : decode cX10_beginClause 9 = .ok (.if_icmp .lt 4, 3) := by decide +kernel
theorem dX10_beginClause_12 : decode cX10_beginClause 12 = .ok (.return_, 1) := by decide +kernel
theorem dX10_beginClause_13 : decode cX10_beginClause 13 = .ok (.aload_n 0, 1) := by decide +kernel
theorem dX10_beginClause_14 : decode cX10_beginClause 14 = .ok (.getfield 21, 3) := by decide +kernel
theorem dX10_beginClause_17 : decode cX10_beginClause 17 = .ok (.aload_n 0, 1) := by decide +kernel
theorem dX10_beginClause_18 : decode cX10_beginClause 18 = .ok (.getfield 9, 3) := by decide +kernel
theorem dX10_beginClause_21 : decode cX10_beginClause 21 = .ok (.iload_n 1, 1) := by decide +kernel
theorem dX10_beginClause_22 : decode cX10_beginClause 22 = .ok (.iastore, 1) := by decide +kernel
theorem dX10_beginClause_23 : decode cX10_beginClause 23 = .ok (.aload_n 0, 1) := by decide +kernel
theorem dX10_beginClause_24 : decode cX10_beginClause 24 = .ok (.getfield 25, 3) := by decide +kernel
theorem dX10_beginClause_27 : decode cX10_beginClause 27 = .ok (.aload_n 0, 1) := by decide +kernel
theorem dX10_beginClause_28 : decode cX10_beginClause 28 = .ok (.getfield 9, 3) := by decide +kernel
theorem dX10_beginClause_31 : decode cX10_beginClause 31 = .ok (.iconst 1, 1) := by decide +kernel
theorem dX10_beginClause_32 : decode cX10_beginClause 32 = .ok (.iastore, 1) := by decide +kernel
theorem dX10_beginClause_33 : decode cX10_beginClause 33 = .ok (.iconst 0, 1) := by decide +kernel
theorem dX10_beginClause_34 : decode cX10_beginClause 34 = .ok (.istore_n 2, 1) := by decide +kernel
theorem dX10_beginClause_35 : decode cX10_beginClause 35 = .ok (.iload_n 2, 1) := by decide +kernel
theorem dX10_beginClause_36 : decode cX10_beginClause 36 = .ok (.iconst 5, 1) := by decide +kernel
theorem dX10_beginClause_37 : decode cX10_beginClause 37 = .ok (.if_icmp .ge 26, 3) := by decide +kernel
theorem dX10_beginClause_40 : decode cX10_beginClause 40 = .ok (.aload_n 0, 1) := by decide +kernel
theorem dX10_beginClause_41 : decode cX10_beginClause 41 = .ok (.getfield 28, 3) := by decide +kernel
theorem dX10_beginClause_44 : decode cX10_beginClause 44 = .ok (.aload_n 0, 1) := by decide +kernel
theorem dX10_beginClause_45 : decode cX10_beginClause 45 = .ok (.getfield 9, 3) := by decide +kernel
theorem dX10_beginClause_48 : decode cX10_beginClause 48 = .ok (.iconst 5, 1) := by decide +kernel
theorem dX10_beginClause_49 : decode cX10_beginClause 49 = .ok (.imul, 1) := by decide +kernel
theorem dX10_beginClause_50 : decode cX10_beginClause 50 = .ok (.iload_n 2, 1) := by decide +kernel
theorem dX10_beginClause_51 : decode cX10_beginClause 51 = .ok (.iadd, 1) := by decide +kernel
theorem dX10_beginClause_52 : decode cX10_beginClause 52 = .ok (.aload_n 0, 1) := by decide +kernel
theorem dX10_beginClause_53 : decode cX10_beginClause 53 = .ok (.getfield 15, 3) := by decide +kernel
theorem dX10_beginClause_56 : decode cX10_beginClause 56 = .ok (.iastore, 1) := by decide +kernel
theorem dX10_beginClause_57 : decode cX10_beginClause 57 = .ok (.iinc 2 1, 3) := by decide +kernel
theorem dX10_beginClause_60 : decode cX10_beginClause 60 = .ok (.goto (-25), 3) := by decide +kernel
theorem dX10_beginClause_63 : decode cX10_beginClause 63 = .ok (.aload_n 0, 1) := by decide +kernel
theorem dX10_beginClause_64 : decode cX10_beginClause 64 = .ok (.iconst 0, 1) := by decide +kernel
theorem dX10_beginClause_65 : decode cX10_beginClause 65 = .ok (.putfield 18, 3) := by decide +kernel
theorem dX10_beginClause_68 : decode cX10_beginClause 68 = .ok (.aload_n 0, 1) := by decide +kernel
theorem dX10_beginClause_69 : decode cX10_beginClause 69 = .ok (.dup, 1) := by decide +kernel
theorem dX10_beginClause_70 : decode cX10_beginClause 70 = .ok (.getfield 9, 3) := by decide +kernel
theorem dX10_beginClause_73 : decode cX10_beginClause 73 = .ok (.iconst 1, 1) := by decide +kernel
theorem dX10_beginClause_74 : decode cX10_beginClause 74 = .ok (.iadd, 1) := by decide +kernel
theorem dX10_beginClause_75 : decode cX10_beginClause 75 = .ok (.putfield 9, 3) := by decide +kernel
theorem dX10_beginClause_78 : decode cX10_beginClause 78 = .ok (.return_, 1) := by decide +kernel
theorem dX10_openPart_0 : decode cX10_openPart 0 = .ok (.aload_n 0, 1) := by decide +kernel
theorem dX10_openPart_1 : decode cX10_openPart 1 = .ok (.iconst 0, 1) := by decide +kernel
theorem dX10_openPart_2 : decode cX10_openPart 2 = .ok (.iload_n 1, 1) := by decide +kernel
theorem dX10_openPart_3 : decode cX10_openPart 3 = .ok (.iconst 3, 1) := by decide +kernel
theorem dX10_openPart_4 : decode cX10_openPart 4 = .ok (.invokestatic 34, 3) := by decide +kernel
theorem dX10_openPart_7 : decode cX10_openPart 7 = .ok (.invokestatic 40, 3) := by decide +kernel
theorem dX10_openPart_10 : decode cX10_openPart 10 = .ok (.putfield 18, 3) := by decide +kernel
theorem dX10_openPart_13 : decode cX10_openPart 13 = .ok (.return_, 1) := by decide +kernel
theorem dX10_setTimes_0 : decode cX10_setTimes 0 = .ok (.aload_n 0, 1) := by decide +kernel
theorem dX10_setTimes_1 : decode cX10_setTimes 1 = .ok (.getfield 9, 3) := by decide +kernel
theorem dX10_setTimes_4 : decode cX10_setTimes 4 = .ok (.iconst 1, 1) := by decide +kernel
theorem dX10_setTimes_5 : decode cX10_setTimes 5 = .ok (.if_icmp .lt 15, 3) := by decide +kernel
theorem dX10_setTimes_8 : decode cX10_setTimes 8 = .ok (.aload_n 0, 1) := by decide +kernel
theorem dX10_setTimes_9 : decode cX10_setTimes 9 = .ok (.getfield 25, 3) := by decide +kernel
theorem dX10_setTimes_12 : decode cX10_setTimes 12 = .ok (.aload_n 0, 1) := by decide +kernel
theorem dX10_setTimes_13 : decode cX10_setTimes 13 = .ok (.getfield 9, 3) := by decide +kernel
theorem dX10_setTimes_16 : decode cX10_setTimes 16 = .ok (.iconst 1, 1) := by decide +kernel
theorem dX10_setTimes_17 : decode cX10_setTimes 17 = .ok (.isub, 1) := by decide +kernel
theorem dX10_setTimes_18 : decode cX10_setTimes 18 = .ok (.iload_n 1, 1) := by decide +kernel
theorem dX10_setTimes_19 : decode cX10_setTimes 19 = .ok (.iastore, 1) := by decide +kernel
theorem dX10_setTimes_20 : decode cX10_setTimes 20 = .ok (.return_, 1) := by decide +kernel
theorem dX10_add_0 : decode cX10_add 0 = .ok (.aload_n 0, 1) := by decide +kernel
theorem dX10_add_1 : decode cX10_add 1 = .ok (.getfield 15, 3) := by decide +kernel
theorem dX10_add_4 : decode cX10_add 4 = .ok (.aload_n 0, 1) := by decide +kernel
theorem dX10_add_5 : decode cX10_add 5 = .ok (.getfield 31, 3) := by decide +kernel
theorem dX10_add_8 : decode cX10_add 8 = .ok (.arraylength, 1) := by decide +kernel
theorem dX10_add_9 : decode cX10_add 9 = .ok (.if_icmp .ge 11, 3) := by decide +kernel
theorem dX10_add_12 : decode cX10_add 12 = .ok (.aload_n 0, 1) := by decide +kernel
theorem dX10_add_13 : decode cX10_add 13 = .ok (.getfield 9, 3) := by decide +kernel
theorem dX10_add_16 : decode cX10_add 16 = .ok (.iconst 1, 1) := by decide +kernel
theorem dX10_add_17 : decode cX10_add 17 = .ok (.if_icmp .ge 5, 3) := by decide +kernel
theorem dX10_add_20 : decode cX10_add 20 = .ok (.iconst (-1), 1) := by decide +kernel
theorem dX10_add_21 : decode cX10_add 21 = .ok (.ireturn, 1) := by decide +kernel
theorem dX10_add_22 : decode cX10_add 22 = .ok (.aload_n 0, 1) := by decide +kernel
theorem dX10_add_23 : decode cX10_add 23 = .ok (.getfield 31, 3) := by decide +kernel
theorem dX10_add_26 : decode cX10_add 26 = .ok (.aload_n 0, 1) := by decide +kernel
theorem dX10_add_27 : decode cX10_add 27 = .ok (.getfield 15, 3) := by decide +kernel
theorem dX10_add_30 : decode cX10_add 30 = .ok (.iload_n 1, 1) := by decide +kernel
theorem dX10_add_31 : decode cX10_add 31 = .ok (.sipush 2048, 3) := by decide +kernel
theorem dX10_add_34 : decode cX10_add 34 = .ok (.imul, 1) := by decide +kernel
theorem dX10_add_35 : decode cX10_add 35 = .ok (.iload_n 2, 1) := by decide +kernel
theorem dX10_add_36 : decode cX10_add 36 = .ok (.iadd, 1) := by decide +kernel
theorem dX10_add_37 : decode cX10_add 37 = .ok (.iastore, 1) := by decide +kernel
theorem dX10_add_38 : decode cX10_add 38 = .ok (.aload_n 0, 1) := by decide +kernel
theorem dX10_add_39 : decode cX10_add 39 = .ok (.dup, 1) := by decide +kernel
theorem dX10_add_40 : decode cX10_add 40 = .ok (.getfield 15, 3) := by decide +kernel
theorem dX10_add_43 : decode cX10_add 43 = .ok (.iconst 1, 1) := by decide +kernel
theorem dX10_add_44 : decode cX10_add 44 = .ok (.iadd, 1) := by decide +kernel
theorem dX10_add_45 : decode cX10_add 45 = .ok (.putfield 15, 3) := by decide +kernel
theorem dX10_add_48 : decode cX10_add 48 = .ok (.aload_n 0, 1) := by decide +kernel
theorem dX10_add_49 : decode cX10_add 49 = .ok (.getfield 18, 3) := by decide +kernel
theorem dX10_add_52 : decode cX10_add 52 = .ok (.iconst 1, 1) := by decide +kernel
theorem dX10_add_53 : decode cX10_add 53 = .ok (.iadd, 1) := by decide +kernel
theorem dX10_add_54 : decode cX10_add 54 = .ok (.istore_n 3, 1) := by decide +kernel
theorem dX10_add_55 : decode cX10_add 55 = .ok (.iload_n 3, 1) := by decide +kernel
theorem dX10_add_56 : decode cX10_add 56 = .ok (.iconst 5, 1) := by decide +kernel
theorem dX10_add_57 : decode cX10_add 57 = .ok (.if_icmp .ge 28, 3) := by decide +kernel
theorem dX10_add_60 : decode cX10_add 60 = .ok (.aload_n 0, 1) := by decide +kernel
theorem dX10_add_61 : decode cX10_add 61 = .ok (.getfield 28, 3) := by decide +kernel
theorem dX10_add_64 : decode cX10_add 64 = .ok (.aload_n 0, 1) := by decide +kernel
theorem dX10_add_65 : decode cX10_add 65 = .ok (.getfield 9, 3) := by decide +kernel
theorem dX10_add_68 : decode cX10_add 68 = .ok (.iconst 1, 1) := by decide +kernel
theorem dX10_add_69 : decode cX10_add 69 = .ok (.isub, 1) := by decide +kernel
theorem dX10_add_70 : decode cX10_add 70 = .ok (.iconst 5, 1) := by decide +kernel
theorem dX10_add_71 : decode cX10_add 71 = .ok (.imul, 1) := by decide +kernel
theorem dX10_add_72 : decode cX10_add 72 = .ok (.iload_n 3, 1) := by decide +kernel
theorem dX10_add_73 : decode cX10_add 73 = .ok (.iadd, 1) := by decide +kernel
theorem dX10_add_74 : decode cX10_add 74 = .ok (.aload_n 0, 1) := by decide +kernel
theorem dX10_add_75 : decode cX10_add 75 = .ok (.getfield 15, 3) := by decide +kernel
theorem dX10_add_78 : decode cX10_add 78 = .ok (.iastore, 1) := by decide +kernel
theorem dX10_add_79 : decode cX10_add 79 = .ok (.iinc 3 1, 3) := by decide +kernel
theorem dX10_add_82 : decode cX10_add 82 = .ok (.goto (-27), 3) := by decide +kernel
theorem dX10_add_85 : decode cX10_add 85 = .ok (.aload_n 0, 1) := by decide +kernel
theorem dX10_add_86 : decode cX10_add 86 = .ok (.getfield 15, 3) := by decide +kernel
theorem dX10_add_89 : decode cX10_add 89 = .ok (.iconst 1, 1) := by decide +kernel
theorem dX10_add_90 : decode cX10_add 90 = .ok (.isub, 1) := by decide +kernel
theorem dX10_add_91 : decode cX10_add 91 = .ok (.ireturn, 1) := by decide +kernel
theorem dX10_landSkip_0 : decode cX10_landSkip 0 = .ok (.iload_n 1, 1) := by decide +kernel
theorem dX10_landSkip_1 : decode cX10_landSkip 1 = .ok (.ifCond .lt 36, 3) := by decide +kernel
theorem dX10_landSkip_4 : decode cX10_landSkip 4 = .ok (.iload_n 1, 1) := by decide +kernel
theorem dX10_landSkip_5 : decode cX10_landSkip 5 = .ok (.aload_n 0, 1) := by decide +kernel
theorem dX10_landSkip_6 : decode cX10_landSkip 6 = .ok (.getfield 15, 3) := by decide +kernel
theorem dX10_landSkip_9 : decode cX10_landSkip 9 = .ok (.if_icmp .ge 28, 3) := by decide +kernel
theorem dX10_landSkip_12 : decode cX10_landSkip 12 = .ok (.aload_n 0, 1) := by decide +kernel
theorem dX10_landSkip_13 : decode cX10_landSkip 13 = .ok (.getfield 31, 3) := by decide +kernel
theorem dX10_landSkip_16 : decode cX10_landSkip 16 = .ok (.iload_n 1, 1) := by decide +kernel
theorem dX10_landSkip_17 : decode cX10_landSkip 17 = .ok (.aload_n 0, 1) := by decide +kernel
theorem dX10_landSkip_18 : decode cX10_landSkip 18 = .ok (.getfield 31, 3) := by decide +kernel
theorem dX10_landSkip_21 : decode cX10_landSkip 21 = .ok (.iload_n 1, 1) := by decide +kernel
theorem dX10_landSkip_22 : decode cX10_landSkip 22 = .ok (.iaload, 1) := by decide +kernel
theorem dX10_landSkip_23 : decode cX10_landSkip 23 = .ok (.sipush 2048, 3) := by decide +kernel
theorem dX10_landSkip_26 : decode cX10_landSkip 26 = .ok (.idiv, 1) := by decide +kernel
theorem dX10_landSkip_27 : decode cX10_landSkip 27 = .ok (.sipush 2048, 3) := by decide +kernel
theorem dX10_landSkip_30 : decode cX10_landSkip 30 = .ok (.imul, 1) := by decide +kernel
theorem dX10_landSkip_31 : decode cX10_landSkip 31 = .ok (.aload_n 0, 1) := by decide +kernel
theorem dX10_landSkip_32 : decode cX10_landSkip 32 = .ok (.getfield 15, 3) := by decide +kernel
theorem dX10_landSkip_35 : decode cX10_landSkip 35 = .ok (.iadd, 1) := by decide +kernel
theorem dX10_landSkip_36 : decode cX10_landSkip 36 = .ok (.iastore, 1) := by decide +kernel
theorem dX10_landSkip_37 : decode cX10_landSkip 37 = .ok (.return_, 1) := by decide +kernel
theorem dX10_hasKind_0 : decode cX10_hasKind 0 = .ok (.iconst 0, 1) := by decide +kernel
theorem dX10_hasKind_1 : decode cX10_hasKind 1 = .ok (.istore_n 2, 1) := by decide +kernel
theorem dX10_hasKind_2 : decode cX10_hasKind 2 = .ok (.iload_n 2, 1) := by decide +kernel
theorem dX10_hasKind_3 : decode cX10_hasKind 3 = .ok (.aload_n 0, 1) := by decide +kernel
theorem dX10_hasKind_4 : decode cX10_hasKind 4 = .ok (.getfield 9, 3) := by decide +kernel
theorem dX10_hasKind_7 : decode cX10_hasKind 7 = .ok (.if_icmp .ge 21, 3) := by decide +kernel
theorem dX10_hasKind_10 : decode cX10_hasKind 10 = .ok (.aload_n 0, 1) := by decide +kernel
theorem dX10_hasKind_11 : decode cX10_hasKind 11 = .ok (.getfield 21, 3) := by decide +kernel
theorem dX10_hasKind_14 : decode cX10_hasKind 14 = .ok (.iload_n 2, 1) := by decide +kernel
theorem dX10_hasKind_15 : decode cX10_hasKind 15 = .ok (.iaload, 1) := by decide +kernel
theorem dX10_hasKind_16 : decode cX10_hasKind 16 = .ok (.iload_n 1, 1) := by decide +kernel
theorem dX10_hasKind_17 : decode cX10_hasKind 17 = .ok (.if_icmp .ne 5, 3) := by decide +kernel
theorem dX10_hasKind_20 : decode cX10_hasKind 20 = .ok (.iconst 1, 1) := by decide +kernel
theorem dX10_hasKind_21 : decode cX10_hasKind 21 = .ok (.ireturn, 1) := by decide +kernel
theorem dX10_hasKind_22 : decode cX10_hasKind 22 = .ok (.iinc 2 1, 3) := by decide +kernel
theorem dX10_hasKind_25 : decode cX10_hasKind 25 = .ok (.goto (-23), 3) := by decide +kernel
theorem dX10_hasKind_28 : decode cX10_hasKind 28 = .ok (.iconst 0, 1) := by decide +kernel
theorem dX10_hasKind_29 : decode cX10_hasKind 29 = .ok (.ireturn, 1) := by decide +kernel
theorem dX11_init_0 : decode cX11_init 0 = .ok (.aload_n 0, 1) := by decide +kernel
theorem dX11_init_1 : decode cX11_init 1 = .ok (.invokespecial 1, 3) := by decide +kernel
theorem dX11_init_4 : decode cX11_init 4 = .ok (.aload_n 0, 1) := by decide +kernel
theorem dX11_init_5 : decode cX11_init 5 = .ok (.new 7, 3) := by decide +kernel
theorem dX11_init_8 : decode cX11_init 8 = .ok (.dup, 1) := by decide +kernel
theorem dX11_init_9 : decode cX11_init 9 = .ok (.invokespecial 9, 3) := by decide +kernel
theorem dX11_init_12 : decode cX11_init 12 = .ok (.putfield 10, 3) := by decide +kernel
theorem dX11_init_15 : decode cX11_init 15 = .ok (.aload_n 0, 1) := by decide +kernel
theorem dX11_init_16 : decode cX11_init 16 = .ok (.new 7, 3) := by decide +kernel
theorem dX11_init_19 : decode cX11_init 19 = .ok (.dup, 1) := by decide +kernel
theorem dX11_init_20 : decode cX11_init 20 = .ok (.invokespecial 9, 3) := by decide +kernel
theorem dX11_init_23 : decode cX11_init 23 = .ok (.putfield 16, 3) := by decide +kernel
theorem dX11_init_26 : decode cX11_init 26 = .ok (.aload_n 0, 1) := by decide +kernel
theorem dX11_init_27 : decode cX11_init 27 = .ok (.iconst 2, 1) := by decide +kernel
theorem dX11_init_28 : decode cX11_init 28 = .ok (.anewarray 7, 3) := by decide +kernel
theorem dX11_init_31 : decode cX11_init 31 = .ok (.putfield 19, 3) := by decide +kernel
theorem dX11_init_34 : decode cX11_init 34 = .ok (.aload_n 0, 1) := by decide +kernel
theorem dX11_init_35 : decode cX11_init 35 = .ok (.new 23, 3) := by decide +kernel
theorem dX11_init_38 : decode cX11_init 38 = .ok (.dup, 1) := by decide +kernel
theorem dX11_init_39 : decode cX11_init 39 = .ok (.invokespecial 25, 3) := by decide +kernel
theorem dX11_init_42 : decode cX11_init 42 = .ok (.putfield 26, 3) := by decide +kernel
theorem dX11_init_45 : decode cX11_init 45 = .ok (.aload_n 0, 1) := by decide +kernel
theorem dX11_init_46 : decode cX11_init 46 = .ok (.new 30, 3) := by decide +kernel
theorem dX11_init_49 : decode cX11_init 49 = .ok (.dup, 1) := by decide +kernel
theorem dX11_init_50 : decode cX11_init 50 = .ok (.invokespecial 32, 3) := by decide +kernel
theorem dX11_init_53 : decode cX11_init 53 = .ok (.putfield 33, 3) := by decide +kernel
theorem dX11_init_56 : decode cX11_init 56 = .ok (.aload_n 0, 1) := by decide +kernel
theorem dX11_init_57 : decode cX11_init 57 = .ok (.new 37, 3) := by decide +kernel
theorem dX11_init_60 : decode cX11_init 60 = .ok (.dup, 1) := by decide +kernel
theorem dX11_init_61 : decode cX11_init 61 = .ok (.aload_n 0, 1) := by decide +kernel
theorem dX11_init_62 : decode cX11_init 62 = .ok (.getfield 33, 3) := by decide +kernel
theorem dX11_init_65 : decode cX11_init 65 = .ok (.invokespecial 39, 3) := by decide +kernel
theorem dX11_init_68 : decode cX11_init 68 = .ok (.putfield 42, 3) := by decide +kernel
theorem dX11_init_71 : decode cX11_init 71 = .ok (.aload_n 0, 1) := by decide +kernel
theorem dX11_init_72 : decode cX11_init 72 = .ok (.new 46, 3) := by decide +kernel
theorem dX11_init_75 : decode cX11_init 75 = .ok (.dup, 1) := by decide +kernel
theorem dX11_init_76 : decode cX11_init 76 = .ok (.invokespecial 48, 3) := by decide +kernel
theorem dX11_init_79 : decode cX11_init 79 = .ok (.putfield 49, 3) := by decide +kernel
theorem dX11_init_82 : decode cX11_init 82 = .ok (.aload_n 0, 1) := by decide +kernel
theorem dX11_init_83 : decode cX11_init 83 = .ok (.new 53, 3) := by decide +kernel
theorem dX11_init_86 : decode cX11_init 86 = .ok (.dup, 1) := by decide +kernel
theorem dX11_init_87 : decode cX11_init 87 = .ok (.aload_n 0, 1) := by decide +kernel
theorem dX11_init_88 : decode cX11_init 88 = .ok (.getfield 49, 3) := by decide +kernel
theorem dX11_init_91 : decode cX11_init 91 = .ok (.invokespecial 55, 3) := by decide +kernel
theorem dX11_init_94 : decode cX11_init 94 = .ok (.putfield 58, 3) := by decide +kernel
theorem dX11_init_97 : decode cX11_init 97 = .ok (.aload_n 0, 1) := by decide +kernel
theorem dX11_init_98 : decode cX11_init 98 = .ok (.new 62, 3) := by decide +kernel
theorem dX11_init_101 : decode cX11_init 101 = .ok (.dup, 1) := by decide +kernel
theorem dX11_init_102 : decode cX11_init 102 = .ok (.invokespecial 64, 3) := by decide +kernel
theorem dX11_init_105 : decode cX11_init 105 = .ok (.putfield 65, 3) := by decide +kernel
theorem dX11_init_108 : decode cX11_init 108 = .ok (.aload_n 0, 1) := by decide +kernel
theorem dX11_init_109 : decode cX11_init 109 = .ok (.new 69, 3) := by decide +kernel
theorem dX11_init_112 : decode cX11_init 112 = .ok (.dup, 1) := by decide +kernel
theorem dX11_init_113 : decode cX11_init 113 = .ok (.invokespecial 71, 3) := by decide +kernel
theorem dX11_init_116 : decode cX11_init 116 = .ok (.putfield 72, 3) := by decide +kernel
theorem dX11_init_119 : decode cX11_init 119 = .ok (.aload_n 0, 1) := by decide +kernel
theorem dX11_init_120 : decode cX11_init 120 = .ok (.bipush 48, 2) := by decide +kernel
theorem dX11_init_122 : decode cX11_init 122 = .ok (.newarray .int, 2) := by decide +kernel
theorem dX11_init_124 : decode cX11_init 124 = .ok (.putfield 76, 3) := by decide +kernel
theorem dX11_init_127 : decode cX11_init 127 = .ok (.aload_n 0, 1) := by decide +kernel
theorem dX11_init_128 : decode cX11_init 128 = .ok (.iconst 0, 1) := by decide +kernel
theorem dX11_init_129 : decode cX11_init 129 = .ok (.putfield 80, 3) := by decide +kernel
theorem dX11_init_132 : decode cX11_init 132 = .ok (.aload_n 0, 1) := by decide +kernel
theorem dX11_init_133 : decode cX11_init 133 = .ok (.iconst 0, 1) := by decide +kernel
theorem dX11_init_134 : decode cX11_init 134 = .ok (.putfield 84, 3) := by decide +kernel
theorem dX11_init_137 : decode cX11_init 137 = .ok (.aload_n 0, 1) := by decide +kernel
theorem dX11_init_138 : decode cX11_init 138 = .ok (.iconst (-1), 1) := by decide +kernel
theorem dX11_init_139 : decode cX11_init 139 = .ok (.putfield 87, 3) := by decide +kernel
theorem dX11_init_142 : decode cX11_init 142 = .ok (.aload_n 0, 1) := by decide +kernel
theorem dX11_init_143 : decode cX11_init 143 = .ok (.iconst (-1), 1) := by decide +kernel
theorem dX11_init_144 : decode cX11_init 144 = .ok (.putfield 90, 3) := by decide +kernel
theorem dX11_init_147 : decode cX11_init 147 = .ok (.aload_n 0, 1) := by decide +kernel
theorem dX11_init_148 : decode cX11_init 148 = .ok (.iconst 0, 1) := by decide +kernel
theorem dX11_init_149 : decode cX11_init 149 = .ok (.putfield 93, 3) := by decide +kernel
theorem dX11_init_152 : decode cX11_init 152 = .ok (.aload_n 0, 1) := by decide +kernel
theorem dX11_init_153 : decode cX11_init 153 = .ok (.bipush 7, 2) := by decide +kernel
theorem dX11_init_155 : decode cX11_init 155 = .ok (.newarray .int, 2) := by decide +kernel
theorem dX11_init_157 : decode cX11_init 157 = .ok (.putfield 96, 3) := by decide +kernel
theorem dX11_init_160 : decode cX11_init 160 = .ok (.aload_n 0, 1) := by decide +kernel
theorem dX11_init_161 : decode cX11_init 161 = .ok (.iconst 0, 1) := by decide +kernel
theorem dX11_init_162 : decode cX11_init 162 = .ok (.putfield 99, 3) := by decide +kernel
theorem dX11_init_165 : decode cX11_init 165 = .ok (.return_, 1) := by decide +kernel
theorem dX11_house_0 : decode cX11_house 0 = .ok (.iload_n 1, 1) := by decide +kernel
theorem dX11_house_1 : decode cX11_house 1 = .ok (.bipush 24, 2) := by decide +kernel
theorem dX11_house_3 : decode cX11_house 3 = .ok (.invokestatic 102, 3) := by decide +kernel
theorem dX11_house_6 : decode cX11_house 6 = .ok (.ifCond .eq 12, 3) := by decide +kernel
theorem dX11_house_9 : decode cX11_house 9 = .ok (.iload_n 2, 1) := by decide +kernel
theorem dX11_house_10 : decode cX11_house 10 = .ok (.bipush 99, 2) := by decide +kernel
theorem dX11_house_12 : decode cX11_house 12 = .ok (.invokestatic 102, 3) := by decide +kernel
theorem dX11_house_15 : decode cX11_house 15 = .ok (.ifCond .ne 9, 3) := by decide +kernel
theorem dX11_house_18 : decode cX11_house 18 = .ok (.aload_n 0, 1) := by decide +kernel
theorem dX11_house_19 : decode cX11_house 19 = .ok (.iconst (-1), 1) := by decide +kernel
theorem dX11_house_20 : decode cX11_house 20 = .ok (.invokevirtual 106, 3) := by decide +kernel
theorem dX11_house_23 : decode cX11_house 23 = .ok (.ireturn, 1) := by decide +kernel
theorem dX11_house_24 : decode cX11_house 24 = .ok (.aload_n 0, 1) := by decide +kernel
theorem dX11_house_25 : decode cX11_house 25 = .ok (.getfield 10, 3) := by decide +kernel
theorem dX11_house_28 : decode cX11_house 28 = .ok (.getfield 110, 3) := by decide +kernel
theorem dX11_house_31 : decode cX11_house 31 = .ok (.bipush 6, 2) := by decide +kernel
theorem dX11_house_33 : decode cX11_house 33 = .ok (.if_icmp .lt 10, 3) := by decide +kernel
theorem dX11_house_36 : decode cX11_house 36 = .ok (.aload_n 0, 1) := by decide +kernel
theorem dX11_house_37 : decode cX11_house 37 = .ok (.bipush (-5), 2) := by decide +kernel
theorem dX11_house_39 : decode cX11_house 39 = .ok (.invokevirtual 106, 3) := by decide +kernel
theorem dX11_house_42 : decode cX11_house 42 = .ok (.ireturn, 1) := by decide +kernel
theorem dX11_house_43 : decode cX11_house 43 = .ok (.aload_n 0, 1) := by decide +kernel
theorem dX11_house_44 : decode cX11_house 44 = .ok (.getfield 26, 3) := by decide +kernel
theorem dX11_house_47 : decode cX11_house 47 = .ok (.invokevirtual 113, 3) := by decide +kernel
theorem dX11_house_50 : decode cX11_house 50 = .ok (.aload_n 0, 1) := by decide +kernel
theorem dX11_house_51 : decode cX11_house 51 = .ok (.aload_n 0, 1) := by decide +kernel
theorem dX11_house_52 : decode cX11_house 52 = .ok (.getfield 10, 3) := by decide +kernel
theorem dX11_house_55 : decode cX11_house 55 = .ok (.iload_n 1, 1) := by decide +kernel
theorem dX11_house_56 : decode cX11_house 56 = .ok (.iload_n 2, 1) := by decide +kernel
theorem dX11_house_57 : decode cX11_house 57 = .ok (.invokevirtual 116, 3) := by decide +kernel
theorem dX11_house_60 : decode cX11_house 60 = .ok (.invokevirtual 120, 3) := by decide +kernel
theorem dX11_house_63 : decode cX11_house 63 = .ok (.ireturn, 1) := by decide +kernel
theorem dX11_at_0 : decode cX11_at 0 = .ok (.aload_n 0, 1) := by decide +kernel
theorem dX11_at_1 : decode cX11_at 1 = .ok (.getfield 10, 3) := by decide +kernel
theorem dX11_at_4 : decode cX11_at 4 = .ok (.iload_n 1, 1) := by decide +kernel
theorem dX11_at_5 : decode cX11_at 5 = .ok (.invokevirtual 123, 3) := by decide +kernel
theorem dX11_at_8 : decode cX11_at 8 = .ok (.ifCond .ne 5, 3) := by decide +kernel
theorem dX11_at_11 : decode cX11_at 11 = .ok (.iconst (-1), 1) := by decide +kernel
theorem dX11_at_12 : decode cX11_at 12 = .ok (.ireturn, 1) := by decide +kernel
theorem dX11_at_13 : decode cX11_at 13 = .ok (.iload_n 2, 1) := by decide +kernel
theorem dX11_at_14 : decode cX11_at 14 = .ok (.tableswitch 99 0 4 #[34, 44, 54, 67, 76], 34) := by decide +kernel
theorem dX11_at_48 : decode cX11_at 48 = .ok (.aload_n 0, 1) := by decide +kernel
theorem dX11_at_49 : decode cX11_at 49 = .ok (.getfield 10, 3) := by decide +kernel
theorem dX11_at_52 : decode cX11_at 52 = .ok (.getfield 127, 3) := by decide +kernel
theorem dX11_at_55 : decode cX11_at 55 = .ok (.iload_n 1, 1) := by decide +kernel
theorem dX11_at_56 : decode cX11_at 56 = .ok (.iaload, 1) := by decide +kernel
theorem dX11_at_57 : decode cX11_at 57 = .ok (.ireturn, 1) := by decide +kernel
theorem dX11_at_58 : decode cX11_at 58 = .ok (.aload_n 0, 1) := by decide +kernel
theorem dX11_at_59 : decode cX11_at 59 = .ok (.getfield 10, 3) := by decide +kernel
theorem dX11_at_62 : decode cX11_at 62 = .ok (.getfield 130, 3) := by decide +kernel
theorem dX11_at_65 : decode cX11_at 65 = .ok (.iload_n 1, 1) := by decide +kernel
theorem dX11_at_66 : decode cX11_at 66 = .ok (.iaload, 1) := by decide +kernel
theorem dX11_at_67 : decode cX11_at 67 = .ok (.ireturn, 1) := by decide +kernel
theorem dX11_at_68 : decode cX11_at 68 = .ok (.aload_n 0, 1) := by decide +kernel
theorem dX11_at_69 : decode cX11_at 69 = .ok (.getfield 10, 3) := by decide +kernel
theorem dX11_at_72 : decode cX11_at 72 = .ok (.getfield 133, 3) := by decide +kernel
theorem dX11_at_75 : decode cX11_at 75 = .ok (.getfield 137, 3) := by decide +kernel
theorem dX11_at_78 : decode cX11_at 78 = .ok (.iload_n 1, 1) := by decide +kernel
theorem dX11_at_79 : decode cX11_at 79 = .ok (.iaload, 1) := by decide +kernel
theorem dX11_at_80 : decode cX11_at 80 = .ok (.ireturn, 1) := by decide +kernel
theorem dX11_at_81 : decode cX11_at 81 = .ok (.aload_n 0, 1) := by decide +kernel
theorem dX11_at_82 : decode cX11_at 82 = .ok (.getfield 10, 3) := by decide +kernel
theorem dX11_at_85 : decode cX11_at 85 = .ok (.iload_n 1, 1) := by decide +kernel
theorem dX11_at_86 : decode cX11_at 86 = .ok (.invokevirtual 142, 3) := by decide +kernel
theorem dX11_at_89 : decode cX11_at 89 = .ok (.ireturn, 1) := by decide +kernel
theorem dX11_at_90 : decode cX11_at 90 = .ok (.aload_n 0, 1) := by decide +kernel
theorem dX11_at_91 : decode cX11_at 91 = .ok (.getfield 49, 3) := by decide +kernel
theorem dX11_at_94 : decode cX11_at 94 = .ok (.aload_n 0, 1) := by decide +kernel
theorem dX11_at_95 : decode cX11_at 95 = .ok (.getfield 10, 3) := by decide +kernel
theorem dX11_at_98 : decode cX11_at 98 = .ok (.iload_n 1, 1) := by decide +kernel
theorem dX11_at_99 : decode cX11_at 99 = .ok (.aload_n 0, 1) := by decide +kernel
theorem dX11_at_100 : decode cX11_at 100 = .ok (.getfield 10, 3) := by decide +kernel
theorem dX11_at_103 : decode cX11_at 103 = .ok (.getfield 133, 3) := by decide +kernel
theorem dX11_at_106 : decode cX11_at 106 = .ok (.getfield 145, 3) := by decide +kernel
theorem dX11_at_109 : decode cX11_at 109 = .ok (.invokevirtual 148, 3) := by decide +kernel
theorem dX11_at_112 : decode cX11_at 112 = .ok (.ireturn, 1) := by decide +kernel
theorem dX11_at_113 : decode cX11_at 113 = .ok (.iconst (-1), 1) := by decide +kernel
theorem dX11_at_114 : decode cX11_at 114 = .ok (.ireturn, 1) := by decide +kernel
theorem dX11_person_0 : decode cX11_person 0 = .ok (.iload_n 1, 1) := by decide +kernel
theorem dX11_person_1 : decode cX11_person 1 = .ok (.bipush 24, 2) := by decide +kernel
theorem dX11_person_3 : decode cX11_person 3 = .ok (.invokestatic 102, 3) := by decide +kernel
theorem dX11_person_6 : decode cX11_person 6 = .ok (.ifCond .eq 22, 3) := by decide +kernel
theorem dX11_person_9 : decode cX11_person 9 = .ok (.iload_n 2, 1) := by decide +kernel
theorem dX11_person_10 : decode cX11_person 10 = .ok (.bipush 99, 2) := by decide +kernel
theorem dX11_person_12 : decode cX11_person 12 = .ok (.invokestatic 102, 3) := by decide +kernel
theorem dX11_person_15 : decode cX11_person 15 = .ok (.ifCond .eq 13, 3) := by decide +kernel
theorem dX11_person_18 : decode cX11_person 18 = .ok (.iload_n 3, 1) := by decide +kernel
theorem dX11_person_19 : decode cX11_person 19 = .ok (.sipush 999, 3) := by decide +kernel
theorem dX11_person_22 : decode cX11_person 22 = .ok (.invokestatic 102, 3) := by decide +kernel
theorem dX11_person_25 : decode cX11_person 25 = .ok (.ifCond .ne 9, 3) := by decide +kernel
theorem dX11_person_28 : decode cX11_person 28 = .ok (.aload_n 0, 1) := by decide +kernel
theorem dX11_person_29 : decode cX11_person 29 = .ok (.iconst (-1), 1) := by decide +kernel
theorem dX11_person_30 : decode cX11_person 30 = .ok (.invokevirtual 106, 3) := by decide +kernel
theorem dX11_person_33 : decode cX11_person 33 = .ok (.ireturn, 1) := by decide +kernel
theorem dX11_person_34 : decode cX11_person 34 = .ok (.aload_n 0, 1) := by decide +kernel
theorem dX11_person_35 : decode cX11_person 35 = .ok (.getfield 10, 3) := by decide +kernel
theorem dX11_person_38 : decode cX11_person 38 = .ok (.getfield 152, 3) := by decide +kernel
theorem dX11_person_41 : decode cX11_person 41 = .ok (.bipush 8, 2) := by decide +kernel
theorem dX11_person_43 : decode cX11_person 43 = .ok (.if_icmp .lt 10, 3) := by decide +kernel
theorem dX11_person_46 : decode cX11_person 46 = .ok (.aload_n 0, 1) := by decide +kernel
theorem dX11_person_47 : decode cX11_person 47 = .ok (.bipush (-5), 2) := by decide +kernel
theorem dX11_person_49 : decode cX11_person 49 = .ok (.invokevirtual 106, 3) := by decide +kernel
theorem dX11_person_52 : decode cX11_person 52 = .ok (.ireturn, 1) := by decide +kernel
theorem dX11_person_53 : decode cX11_person 53 = .ok (.aload_n 0, 1) := by decide +kernel
theorem dX11_person_54 : decode cX11_person 54 = .ok (.getfield 26, 3) := by decide +kernel
theorem dX11_person_57 : decode cX11_person 57 = .ok (.invokevirtual 113, 3) := by decide +kernel
theorem dX11_person_60 : decode cX11_person 60 = .ok (.aload_n 0, 1) := by decide +kernel
theorem dX11_person_61 : decode cX11_person 61 = .ok (.aload_n 0, 1) := by decide +kernel
theorem dX11_person_62 : decode cX11_person 62 = .ok (.getfield 10, 3) := by decide +kernel
theorem dX11_person_65 : decode cX11_person 65 = .ok (.iload_n 1, 1) := by decide +kernel
theorem dX11_person_66 : decode cX11_person 66 = .ok (.iload_n 2, 1) := by decide +kernel
theorem dX11_person_67 : decode cX11_person 67 = .ok (.iload_n 3, 1) := by decide +kernel
theorem dX11_person_68 : decode cX11_person 68 = .ok (.invokevirtual 155, 3) := by decide +kernel
theorem dX11_person_71 : decode cX11_person 71 = .ok (.invokevirtual 120, 3) := by decide +kernel
theorem dX11_person_74 : decode cX11_person 74 = .ok (.ireturn, 1) := by decide +kernel
theorem dX11_of_0 : decode cX11_of 0 = .ok (.aload_n 0, 1) := by decide +kernel
theorem dX11_of_1 : decode cX11_of 1 = .ok (.getfield 10, 3) := by decide +kernel
theorem dX11_of_4 : decode cX11_of 4 = .ok (.iload_n 1, 1) := by decide +kernel
theorem dX11_of_5 : decode cX11_of 5 = .ok (.invokevirtual 159, 3) := by decide +kernel
theorem dX11_of_8 : decode cX11_of 8 = .ok (.ifCond .ne 5, 3) := by decide +kernel
theorem dX11_of_11 : decode cX11_of 11 = .ok (.iconst (-1), 1) := by decide +kernel
theorem dX11_of_12 : decode cX11_of 12 = .ok (.ireturn, 1) := by decide +kernel
theorem dX11_of_13 : decode cX11_of 13 = .ok (.iload_n 2, 1) := by decide +kernel
theorem dX11_of_14 : decode cX11_of 14 = .ok (.tableswitch 108 0 5 #[38, 48, 58, 71, 81, 91], 38) := by decide +kernel
theorem dX11_of_52 : decode cX11_of 52 = .ok (.aload_n 0, 1) := by decide +kernel
theorem dX11_of_53 : decode cX11_of 53 = .ok (.getfield 10, 3) := by decide +kernel
theorem dX11_of_56 : decode cX11_of 56 = .ok (.getfield 162, 3) := by decide +kernel
theorem dX11_of_59 : decode cX11_of 59 = .ok (.iload_n 1, 1) := by decide +kernel
theorem dX11_of_60 : decode cX11_of 60 = .ok (.iaload, 1) := by decide +kernel
theorem dX11_of_61 : decode cX11_of 61 = .ok (.ireturn, 1) := by decide +kernel
theorem dX11_of_62 : decode cX11_of 62 = .ok (.aload_n 0, 1) := by decide +kernel
theorem dX11_of_63 : decode cX11_of 63 = .ok (.getfield 10, 3) := by decide +kernel
theorem dX11_of_66 : decode cX11_of 66 = .ok (.getfield 165, 3) := by decide +kernel
theorem dX11_of_69 : decode cX11_of 69 = .ok (.iload_n 1, 1) := by decide +kernel
theorem dX11_of_70 : decode cX11_of 70 = .ok (.iaload, 1) := by decide +kernel
theorem dX11_of_71 : decode cX11_of 71 = .ok (.ireturn, 1) := by decide +kernel
theorem dX11_of_72 : decode cX11_of 72 = .ok (.aload_n 0, 1) := by decide +kernel
theorem dX11_of_73 : decode cX11_of 73 = .ok (.getfield 10, 3) := by decide +kernel
theorem dX11_of_76 : decode cX11_of 76 = .ok (.getfield 133, 3) := by decide +kernel
theorem dX11_of_79 : decode cX11_of 79 = .ok (.getfield 168, 3) := by decide +kernel
theorem dX11_of_82 : decode cX11_of 82 = .ok (.iload_n 1, 1) := by decide +kernel
theorem dX11_of_83 : decode cX11_of 83 = .ok (.iaload, 1) := by decide +kernel
theorem dX11_of_84 : decode cX11_of 84 = .ok (.ireturn, 1) := by decide +kernel
theorem dX11_of_85 : decode cX11_of 85 = .ok (.aload_n 0, 1) := by decide +kernel
theorem dX11_of_86 : decode cX11_of 86 = .ok (.getfield 10, 3) := by decide +kernel
theorem dX11_of_89 : decode cX11_of 89 = .ok (.getfield 171, 3) := by decide +kernel
theorem dX11_of_92 : decode cX11_of 92 = .ok (.iload_n 1, 1) := by decide +kernel
theorem dX11_of_93 : decode cX11_of 93 = .ok (.iaload, 1) := by decide +kernel
theorem dX11_of_94 : decode cX11_of 94 = .ok (.ireturn, 1) := by decide +kernel
theorem dX11_of_95 : decode cX11_of 95 = .ok (.aload_n 0, 1) := by decide +kernel
theorem dX11_of_96 : decode cX11_of 96 = .ok (.getfield 10, 3) := by decide +kernel
theorem dX11_of_99 : decode cX11_of 99 = .ok (.getfield 174, 3) := by decide +kernel
theorem dX11_of_102 : decode cX11_of 102 = .ok (.iload_n 1, 1) := by decide +kernel
theorem dX11_of_103 : decode cX11_of 103 = .ok (.iaload, 1) := by decide +kernel
theorem dX11_of_104 : decode cX11_of 104 = .ok (.ireturn, 1) := by decide +kernel
theorem dX11_of_105 : decode cX11_of 105 = .ok (.aload_n 0, 1) := by decide +kernel
theorem dX11_of_106 : decode cX11_of 106 = .ok (.getfield 10, 3) := by decide +kernel
theorem dX11_of_109 : decode cX11_of 109 = .ok (.iload_n 1, 1) := by decide +kernel
theorem dX11_of_110 : decode cX11_of 110 = .ok (.invokevirtual 177, 3) := by decide +kernel
theorem dX11_of_113 : decode cX11_of 113 = .ok (.ifCond .eq 7, 3) := by decide +kernel
theorem dX11_of_116 : decode cX11_of 116 = .ok (.iconst 1, 1) := by decide +kernel
theorem dX11_of_117 : decode cX11_of 117 = .ok (.goto 4, 3) := by decide +kernel
theorem dX11_of_120 : decode cX11_of 120 = .ok (.iconst 0, 1) := by decide +kernel
theorem dX11_of_121 : decode cX11_of 121 = .ok (.ireturn, 1) := by decide +kernel
theorem dX11_of_122 : decode cX11_of 122 = .ok (.iconst (-1), 1) := by decide +kernel
theorem dX11_of_123 : decode cX11_of 123 = .ok (.ireturn, 1) := by decide +kernel
theorem dX11_want_0 : decode cX11_want 0 = .ok (.iload_n 2, 1) := by decide +kernel
theorem dX11_want_1 : decode cX11_want 1 = .ok (.iconst (-1), 1) := by decide +kernel
theorem dX11_want_2 : decode cX11_want 2 = .ok (.if_icmp .eq 20, 3) := by decide +kernel
theorem dX11_want_5 : decode cX11_want 5 = .ok (.aload_n 0, 1) := by decide +kernel
theorem dX11_want_6 : decode cX11_want 6 = .ok (.getfield 10, 3) := by decide +kernel
theorem dX11_want_9 : decode cX11_want 9 = .ok (.iload_n 2, 1) := by decide +kernel
theorem dX11_want_10 : decode cX11_want 10 = .ok (.invokevirtual 123, 3) := by decide +kernel
theorem dX11_want_13 : decode cX11_want 13 = .ok (.ifCond .ne 9, 3) := by decide +kernel
theorem dX11_want_16 : decode cX11_want 16 = .ok (.aload_n 0, 1) := by decide +kernel
theorem dX11_want_17 : decode cX11_want 17 = .ok (.iconst (-1), 1) := by decide +kernel
theorem dX11_want_18 : decode cX11_want 18 = .ok (.invokevirtual 106, 3) := by decide +kernel
theorem dX11_want_21 : decode cX11_want 21 = .ok (.ireturn, 1) := by decide +kernel
theorem dX11_want_22 : decode cX11_want 22 = .ok (.aload_n 0, 1) := by decide +kernel
theorem dX11_want_23 : decode cX11_want 23 = .ok (.getfield 10, 3) := by decide +kernel
theorem dX11_want_26 : decode cX11_want 26 = .ok (.iload_n 1, 1) := by decide +kernel
theorem dX11_want_27 : decode cX11_want 27 = .ok (.invokevirtual 159, 3) := by decide +kernel
theorem dX11_want_30 : decode cX11_want 30 = .ok (.ifCond .ne 10, 3) := by decide +kernel
theorem dX11_want_33 : decode cX11_want 33 = .ok (.aload_n 0, 1) := by decide +kernel
theorem dX11_want_34 : decode cX11_want 34 = .ok (.bipush (-2), 2) := by decide +kernel
theorem dX11_want_36 : decode cX11_want 36 = .ok (.invokevirtual 106, 3) := by decide +kernel
theorem dX11_want_39 : decode cX11_want 39 = .ok (.ireturn, 1) := by decide +kernel
theorem dX11_want_40 : decode cX11_want 40 = .ok (.aload_n 0, 1) := by decide +kernel
theorem dX11_want_41 : decode cX11_want 41 = .ok (.getfield 10, 3) := by decide +kernel
theorem dX11_want_44 : decode cX11_want 44 = .ok (.getfield 171, 3) := by decide +kernel
theorem dX11_want_47 : decode cX11_want 47 = .ok (.iload_n 1, 1) := by decide +kernel
theorem dX11_want_48 : decode cX11_want 48 = .ok (.iload_n 2, 1) := by decide +kernel
theorem dX11_want_49 : decode cX11_want 49 = .ok (.iastore, 1) := by decide +kernel
theorem dX11_want_50 : decode cX11_want 50 = .ok (.aload_n 0, 1) := by decide +kernel
theorem dX11_want_51 : decode cX11_want 51 = .ok (.iconst 0, 1) := by decide +kernel
theorem dX11_want_52 : decode cX11_want 52 = .ok (.invokevirtual 120, 3) := by decide +kernel
theorem dX11_want_55 : decode cX11_want 55 = .ok (.ireturn, 1) := by decide +kernel
theorem dX11_will_0 : decode cX11_will 0 = .ok (.aload_n 0, 1) := by decide +kernel
theorem dX11_will_1 : decode cX11_will 1 = .ok (.getfield 10, 3) := by decide +kernel
theorem dX11_will_4 : decode cX11_will 4 = .ok (.iload_n 1, 1) := by decide +kernel
theorem dX11_will_5 : decode cX11_will 5 = .ok (.invokevirtual 159, 3) := by decide +kernel
theorem dX11_will_8 : decode cX11_will 8 = .ok (.istore_n 3, 1) := by decide +kernel
theorem dX11_will_9 : decode cX11_will 9 = .ok (.iload_n 2, 1) := by decide +kernel
theorem dX11_will_10 : decode cX11_will 10 = .ok (.ifCond .lt 16, 3) := by decide +kernel
theorem dX11_will_13 : decode cX11_will 13 = .ok (.iload_n 2, 1) := by decide +kernel
theorem dX11_will_14 : decode cX11_will 14 = .ok (.iconst 1, 1) := by decide +kernel
theorem dX11_will_15 : decode cX11_will 15 = .ok (.aload_n 0, 1) := by decide +kernel
theorem dX11_will_16 : decode cX11_will 16 = .ok (.getfield 10, 3) := by decide +kernel
theorem dX11_will_19 : decode cX11_will 19 = .ok (.getfield 152, 3) := by decide +kernel
theorem dX11_will_22 : decode cX11_will 22 = .ok (.ishl, 1) := by decide +kernel
theorem dX11_will_23 : decode cX11_will 23 = .ok (.if_icmp .lt 7, 3) := by decide +kernel
theorem dX11_will_26 : decode cX11_will 26 = .ok (.iconst 1, 1) := by decide +kernel
theorem dX11_will_27 : decode cX11_will 27 = .ok (.goto 4, 3) := by decide +kernel
theorem dX11_will_30 : decode cX11_will 30 = .ok (.iconst 0, 1) := by decide +kernel
theorem dX11_will_31 : decode cX11_will 31 = .ok (.istore 4, 2) := by decide +kernel
theorem dX11_will_33 : decode cX11_will 33 = .ok (.iload 4, 2) := by decide +kernel
theorem dX11_will_35 : decode cX11_will 35 = .ok (.ifCond .ne 15, 3) := by decide +kernel
theorem dX11_will_38 : decode cX11_will 38 = .ok (.iload_n 3, 1) := by decide +kernel
theorem dX11_will_39 : decode cX11_will 39 = .ok (.ifCond .eq 17, 3) := by decide +kernel
theorem dX11_will_42 : decode cX11_will 42 = .ok (.iload_n 2, 1) := by decide +kernel
theorem dX11_will_43 : decode cX11_will 43 = .ok (.iload_n 1, 1) := by decide +kernel
theorem dX11_will_44 : decode cX11_will 44 = .ok (.invokestatic 180, 3) := by decide +kernel
theorem dX11_will_47 : decode cX11_will 47 = .ok (.ifCond .eq 9, 3) := by decide +kernel
theorem dX11_will_50 : decode cX11_will 50 = .ok (.aload_n 0, 1) := by decide +kernel
theorem dX11_will_51 : decode cX11_will 51 = .ok (.iconst (-1), 1) := by decide +kernel
theorem dX11_will_52 : decode cX11_will 52 = .ok (.invokevirtual 106, 3) := by decide +kernel
theorem dX11_will_55 : decode cX11_will 55 = .ok (.ireturn, 1) := by decide +kernel
theorem dX11_will_56 : decode cX11_will 56 = .ok (.iload_n 3, 1) := by decide +kernel
theorem dX11_will_57 : decode cX11_will 57 = .ok (.ifCond .ne 10, 3) := by decide +kernel
theorem dX11_will_60 : decode cX11_will 60 = .ok (.aload_n 0, 1) := by decide +kernel
theorem dX11_will_61 : decode cX11_will 61 = .ok (.bipush (-2), 2) := by decide +kernel
theorem dX11_will_63 : decode cX11_will 63 = .ok (.invokevirtual 106, 3) := by decide +kernel
theorem dX11_will_66 : decode cX11_will 66 = .ok (.ireturn, 1) := by decide +kernel
theorem dX11_will_67 : decode cX11_will 67 = .ok (.aload_n 0, 1) := by decide +kernel
theorem dX11_will_68 : decode cX11_will 68 = .ok (.getfield 10, 3) := by decide +kernel
theorem dX11_will_71 : decode cX11_will 71 = .ok (.getfield 174, 3) := by decide +kernel
theorem dX11_will_74 : decode cX11_will 74 = .ok (.iload_n 1, 1) := by decide +kernel
theorem dX11_will_75 : decode cX11_will 75 = .ok (.iaload, 1) := by decide +kernel
theorem dX11_will_76 : decode cX11_will 76 = .ok (.istore 5, 2) := by decide +kernel
theorem dX11_will_78 : decode cX11_will 78 = .ok (.aload_n 0, 1) := by decide +kernel
theorem dX11_will_79 : decode cX11_will 79 = .ok (.getfield 10, 3) := by decide +kernel
theorem dX11_will_82 : decode cX11_will 82 = .ok (.getfield 174, 3) := by decide +kernel
theorem dX11_will_85 : decode cX11_will 85 = .ok (.iload_n 1, 1) := by decide +kernel
theorem dX11_will_86 : decode cX11_will 86 = .ok (.iload_n 2, 1) := by decide +kernel
theorem dX11_will_87 : decode cX11_will 87 = .ok (.iastore, 1) := by decide +kernel
theorem dX11_will_88 : decode cX11_will 88 = .ok (.aload_n 0, 1) := by decide +kernel
theorem dX11_will_89 : decode cX11_will 89 = .ok (.iload 5, 2) := by decide +kernel
theorem dX11_will_91 : decode cX11_will 91 = .ok (.invokevirtual 120, 3) := by decide +kernel
theorem dX11_will_94 : decode cX11_will 94 = .ok (.ireturn, 1) := by decide +kernel
theorem dX11_right_0 : decode cX11_right 0 = .ok (.iload_n 3, 1) := by decide +kernel
theorem dX11_right_1 : decode cX11_right 1 = .ok (.bipush 99, 2) := by decide +kernel
theorem dX11_right_3 : decode cX11_right 3 = .ok (.invokestatic 102, 3) := by decide +kernel
theorem dX11_right_6 : decode cX11_right 6 = .ok (.ifCond .ne 9, 3) := by decide +kernel
theorem dX11_right_9 : decode cX11_right 9 = .ok (.aload_n 0, 1) := by decide +kernel
theorem dX11_right_10 : decode cX11_right 10 = .ok (.iconst (-1), 1) := by decide +kernel
theorem dX11_right_11 : decode cX11_right 11 = .ok (.invokevirtual 106, 3) := by decide +kernel
theorem dX11_right_14 : decode cX11_right 14 = .ok (.ireturn, 1) := by decide +kernel
theorem dX11_right_15 : decode cX11_right 15 = .ok (.aload_n 0, 1) := by decide +kernel
theorem dX11_right_16 : decode cX11_right 16 = .ok (.getfield 10, 3) := by decide +kernel
theorem dX11_right_19 : decode cX11_right 19 = .ok (.iload_n 1, 1) := by decide +kernel
theorem dX11_right_20 : decode cX11_right 20 = .ok (.invokevirtual 159, 3) := by decide +kernel
theorem dX11_right_23 : decode cX11_right 23 = .ok (.ifCond .eq 14, 3) := by decide +kernel
theorem dX11_right_26 : decode cX11_right 26 = .ok (.aload_n 0, 1) := by decide +kernel
theorem dX11_right_27 : decode cX11_right 27 = .ok (.getfield 10, 3) := by decide +kernel
theorem dX11_right_30 : decode cX11_right 30 = .ok (.iload_n 2, 1) := by decide +kernel
theorem dX11_right_31 : decode cX11_right 31 = .ok (.invokevirtual 123, 3) := by decide +kernel
theorem dX11_right_34 : decode cX11_right 34 = .ok (.ifCond .ne 10, 3) := by decide +kernel
theorem dX11_right_37 : decode cX11_right 37 = .ok (.aload_n 0, 1) := by decide +kernel
theorem dX11_right_38 : decode cX11_right 38 = .ok (.bipush (-2), 2) := by decide +kernel
theorem dX11_right_40 : decode cX11_right 40 = .ok (.invokevirtual 106, 3) := by decide +kernel
theorem dX11_right_43 : decode cX11_right 43 = .ok (.ireturn, 1) := by decide +kernel
theorem dX11_right_44 : decode cX11_right 44 = .ok (.aload_n 0, 1) := by decide +kernel
theorem dX11_right_45 : decode cX11_right 45 = .ok (.getfield 10, 3) := by decide +kernel
theorem dX11_right_48 : decode cX11_right 48 = .ok (.iload_n 1, 1) := by decide +kernel
theorem dX11_right_49 : decode cX11_right 49 = .ok (.invokevirtual 177, 3) := by decide +kernel
theorem dX11_right_52 : decode cX11_right 52 = .ok (.ifCond .eq 16, 3) := by decide +kernel
theorem dX11_right_55 : decode cX11_right 55 = .ok (.iload_n 3, 1) := by decide +kernel
theorem dX11_right_56 : decode cX11_right 56 = .ok (.aload_n 0, 1) := by decide +kernel
theorem dX11_right_57 : decode cX11_right 57 = .ok (.getfield 10, 3) := by decide +kernel
theorem dX11_right_60 : decode cX11_right 60 = .ok (.iload_n 1, 1) := by decide +kernel
theorem dX11_right_61 : decode cX11_right 61 = .ok (.iload_n 2, 1) := by decide +kernel
theorem dX11_right_62 : decode cX11_right 62 = .ok (.invokevirtual 183, 3) := by decide +kernel
theorem dX11_right_65 : decode cX11_right 65 = .ok (.if_icmp .ge 10, 3) := by decide +kernel
theorem dX11_right_68 : decode cX11_right 68 = .ok (.aload_n 0, 1) := by decide +kernel
theorem dX11_right_69 : decode cX11_right 69 = .ok (.bipush (-3), 2) := by decide +kernel
theorem dX11_right_71 : decode cX11_right 71 = .ok (.invokevirtual 106, 3) := by decide +kernel
theorem dX11_right_74 : decode cX11_right 74 = .ok (.ireturn, 1) := by decide +kernel
theorem dX11_right_75 : decode cX11_right 75 = .ok (.aload_n 0, 1) := by decide +kernel
theorem dX11_right_76 : decode cX11_right 76 = .ok (.getfield 10, 3) := by decide +kernel
theorem dX11_right_79 : decode cX11_right 79 = .ok (.iload_n 1, 1) := by decide +kernel
theorem dX11_right_80 : decode cX11_right 80 = .ok (.iload_n 2, 1) := by decide +kernel
theorem dX11_right_81 : decode cX11_right 81 = .ok (.invokevirtual 186, 3) := by decide +kernel
theorem dX11_right_84 : decode cX11_right 84 = .ok (.istore 4, 2) := by decide +kernel
theorem dX11_right_86 : decode cX11_right 86 = .ok (.aload_n 0, 1) := by decide +kernel
theorem dX11_right_87 : decode cX11_right 87 = .ok (.getfield 10, 3) := by decide +kernel
theorem dX11_right_90 : decode cX11_right 90 = .ok (.getfield 133, 3) := by decide +kernel
theorem dX11_right_93 : decode cX11_right 93 = .ok (.getfield 189, 3) := by decide +kernel
theorem dX11_right_96 : decode cX11_right 96 = .ok (.iload_n 1, 1) := by decide +kernel
theorem dX11_right_97 : decode cX11_right 97 = .ok (.iload_n 2, 1) := by decide +kernel
theorem dX11_right_98 : decode cX11_right 98 = .ok (.invokestatic 192, 3) := by decide +kernel
theorem dX11_right_101 : decode cX11_right 101 = .ok (.iload_n 3, 1) := by decide +kernel
theorem dX11_right_102 : decode cX11_right 102 = .ok (.iastore, 1) := by decide +kernel
theorem dX11_right_103 : decode cX11_right 103 = .ok (.aload_n 0, 1) := by decide +kernel
theorem dX11_right_104 : decode cX11_right 104 = .ok (.getfield 26, 3) := by decide +kernel
theorem dX11_right_107 : decode cX11_right 107 = .ok (.invokevirtual 113, 3) := by decide +kernel
theorem dX11_right_110 : decode cX11_right 110 = .ok (.aload_n 0, 1) := by decide +kernel
theorem dX11_right_111 : decode cX11_right 111 = .ok (.iload 4, 2) := by decide +kernel
theorem dX11_right_113 : decode cX11_right 113 = .ok (.invokevirtual 120, 3) := by decide +kernel
theorem dX11_right_116 : decode cX11_right 116 = .ok (.ireturn, 1) := by decide +kernel
theorem dX11_has_0 : decode cX11_has 0 = .ok (.aload_n 0, 1) := by decide +kernel
theorem dX11_has_1 : decode cX11_has 1 = .ok (.getfield 10, 3) := by decide +kernel
theorem dX11_has_4 : decode cX11_has 4 = .ok (.iload_n 1, 1) := by decide +kernel
theorem dX11_has_5 : decode cX11_has 5 = .ok (.invokevirtual 159, 3) := by decide +kernel
theorem dX11_has_8 : decode cX11_has 8 = .ok (.ifCond .eq 14, 3) := by decide +kernel
theorem dX11_has_11 : decode cX11_has 11 = .ok (.aload_n 0, 1) := by decide +kernel
theorem dX11_has_12 : decode cX11_has 12 = .ok (.getfield 10, 3) := by decide +kernel
theorem dX11_has_15 : decode cX11_has 15 = .ok (.iload_n 2, 1) := by decide +kernel
theorem dX11_has_16 : decode cX11_has 16 = .ok (.invokevirtual 123, 3) := by decide +kernel
theorem dX11_has_19 : decode cX11_has 19 = .ok (.ifCond .ne 5, 3) := by decide +kernel
theorem dX11_has_22 : decode cX11_has 22 = .ok (.iconst (-1), 1) := by decide +kernel
theorem dX11_has_23 : decode cX11_has 23 = .ok (.ireturn, 1) := by decide +kernel
theorem dX11_has_24 : decode cX11_has 24 = .ok (.iload_n 3, 1) := by decide +kernel
theorem dX11_has_25 : decode cX11_has 25 = .ok (.tableswitch 101 0 4 #[35, 45, 55, 65, 87], 35) := by decide +kernel
theorem dX11_has_60 : decode cX11_has 60 = .ok (.aload_n 0, 1) := by decide +kernel
theorem dX11_has_61 : decode cX11_has 61 = .ok (.getfield 10, 3) := by decide +kernel
theorem dX11_has_64 : decode cX11_has 64 = .ok (.iload_n 1, 1) := by decide +kernel
theorem dX11_has_65 : decode cX11_has 65 = .ok (.iload_n 2, 1) := by decide +kernel
theorem dX11_has_66 : decode cX11_has 66 = .ok (.invokevirtual 186, 3) := by decide +kernel
theorem dX11_has_69 : decode cX11_has 69 = .ok (.ireturn, 1) := by decide +kernel
theorem dX11_has_70 : decode cX11_has 70 = .ok (.aload_n 0, 1) := by decide +kernel
theorem dX11_has_71 : decode cX11_has 71 = .ok (.getfield 10, 3) := by decide +kernel
theorem dX11_has_74 : decode cX11_has 74 = .ok (.iload_n 1, 1) := by decide +kernel
theorem dX11_has_75 : decode cX11_has 75 = .ok (.iload_n 2, 1) := by decide +kernel
theorem dX11_has_76 : decode cX11_has 76 = .ok (.invokevirtual 183, 3) := by decide +kernel
theorem dX11_has_79 : decode cX11_has 79 = .ok (.ireturn, 1) := by decide +kernel
theorem dX11_has_80 : decode cX11_has 80 = .ok (.aload_n 0, 1) := by decide +kernel
theorem dX11_has_81 : decode cX11_has 81 = .ok (.getfield 10, 3) := by decide +kernel
theorem dX11_has_84 : decode cX11_has 84 = .ok (.iload_n 1, 1) := by decide +kernel
theorem dX11_has_85 : decode cX11_has 85 = .ok (.iload_n 2, 1) := by decide +kernel
theorem dX11_has_86 : decode cX11_has 86 = .ok (.invokevirtual 195, 3) := by decide +kernel
theorem dX11_has_89 : decode cX11_has 89 = .ok (.ireturn, 1) := by decide +kernel
theorem dX11_has_90 : decode cX11_has 90 = .ok (.aload_n 0, 1) := by decide +kernel
theorem dX11_has_91 : decode cX11_has 91 = .ok (.getfield 49, 3) := by decide +kernel
theorem dX11_has_94 : decode cX11_has 94 = .ok (.aload_n 0, 1) := by decide +kernel
theorem dX11_has_95 : decode cX11_has 95 = .ok (.getfield 10, 3) := by decide +kernel
theorem dX11_has_98 : decode cX11_has 98 = .ok (.iload_n 1, 1) := by decide +kernel
theorem dX11_has_99 : decode cX11_has 99 = .ok (.iload_n 2, 1) := by decide +kernel
theorem dX11_has_100 : decode cX11_has 100 = .ok (.invokevirtual 198, 3) := by decide +kernel
theorem dX11_has_103 : decode cX11_has 103 = .ok (.ifCond .eq 7, 3) := by decide +kernel
theorem dX11_has_106 : decode cX11_has 106 = .ok (.iconst 1, 1) := by decide +kernel
theorem dX11_has_107 : decode cX11_has 107 = .ok (.goto 4, 3) := by decide +kernel
theorem dX11_has_110 : decode cX11_has 110 = .ok (.iconst 0, 1) := by decide +kernel
theorem dX11_has_111 : decode cX11_has 111 = .ok (.ireturn, 1) := by decide +kernel
theorem dX11_has_112 : decode cX11_has 112 = .ok (.aload_n 0, 1) := by decide +kernel
theorem dX11_has_113 : decode cX11_has 113 = .ok (.getfield 49, 3) := by decide +kernel
theorem dX11_has_116 : decode cX11_has 116 = .ok (.aload_n 0, 1) := by decide +kernel
theorem dX11_has_117 : decode cX11_has 117 = .ok (.getfield 10, 3) := by decide +kernel
theorem dX11_has_120 : decode cX11_has 120 = .ok (.iload_n 1, 1) := by decide +kernel
theorem dX11_has_121 : decode cX11_has 121 = .ok (.iload_n 2, 1) := by decide +kernel
theorem dX11_has_122 : decode cX11_has 122 = .ok (.invokevirtual 202, 3) := by decide +kernel
theorem dX11_has_125 : decode cX11_has 125 = .ok (.ireturn, 1) := by decide +kernel
theorem dX11_has_126 : decode cX11_has 126 = .ok (.iconst (-1), 1) := by decide +kernel
theorem dX11_has_127 : decode cX11_has 127 = .ok (.ireturn, 1) := by decide +kernel
theorem dX11_asks_0 : decode cX11_asks 0 = .ok (.aload_n 0, 1) := by decide +kernel
theorem dX11_asks_1 : decode cX11_asks 1 = .ok (.getfield 10, 3) := by decide +kernel
theorem dX11_asks_4 : decode cX11_asks 4 = .ok (.iload_n 1, 1) := by decide +kernel
theorem dX11_asks_5 : decode cX11_asks 5 = .ok (.invokevirtual 159, 3) := by decide +kernel
theorem dX11_asks_8 : decode cX11_asks 8 = .ok (.ifCond .eq 30, 3) := by decide +kernel
theorem dX11_asks_11 : decode cX11_asks 11 = .ok (.aload_n 0, 1) := by decide +kernel
theorem dX11_asks_12 : decode cX11_asks 12 = .ok (.getfield 10, 3) := by decide +kernel
theorem dX11_asks_15 : decode cX11_asks 15 = .ok (.iload_n 2, 1) := by decide +kernel
theorem dX11_asks_16 : decode cX11_asks 16 = .ok (.invokevirtual 159, 3) := by decide +kernel
theorem dX11_asks_19 : decode cX11_asks 19 = .ok (.ifCond .eq 19, 3) := by decide +kernel
theorem dX11_asks_22 : decode cX11_asks 22 = .ok (.iload_n 1, 1) := by decide +kernel
theorem dX11_asks_23 : decode cX11_asks 23 = .ok (.iload_n 2, 1) := by decide +kernel
theorem dX11_asks_24 : decode cX11_asks 24 = .ok (.if_icmp .eq 14, 3) := by decide +kernel
theorem dX11_asks_27 : decode cX11_asks 27 = .ok (.aload_n 0, 1) := by decide +kernel
theorem dX11_asks_28 : decode cX11_asks 28 = .ok (.getfield 10, 3) := by decide +kernel
theorem dX11_asks_31 : decode cX11_asks 31 = .ok (.iload_n 3, 1) := by decide +kernel
theorem dX11_asks_32 : decode cX11_asks 32 = .ok (.invokevirtual 123, 3) := by decide +kernel
theorem dX11_asks_35 : decode cX11_asks 35 = .ok (.ifCond .ne 5, 3) := by decide +kernel
theorem dX11_asks_38 : decode cX11_asks 38 = .ok (.iconst (-1), 1) := by decide +kernel
theorem dX11_asks_39 : decode cX11_asks 39 = .ok (.ireturn, 1) := by decide +kernel
theorem dX11_asks_40 : decode cX11_asks 40 = .ok (.iload 4, 2) := by decide +kernel
theorem dX11_asks_42 : decode cX11_asks 42 = .ok (.tableswitch 80 0 2 #[26, 41, 64], 26) := by decide +kernel
theorem dX11_asks_68 : decode cX11_asks 68 = .ok (.aload_n 0, 1) := by decide +kernel
theorem dX11_asks_69 : decode cX11_asks 69 = .ok (.getfield 49, 3) := by decide +kernel
theorem dX11_asks_72 : decode cX11_asks 72 = .ok (.aload_n 0, 1) := by decide +kernel
theorem dX11_asks_73 : decode cX11_asks 73 = .ok (.getfield 10, 3) := by decide +kernel
theorem dX11_asks_76 : decode cX11_asks 76 = .ok (.iload_n 1, 1) := by decide +kernel
theorem dX11_asks_77 : decode cX11_asks 77 = .ok (.iload_n 2, 1) := by decide +kernel
theorem dX11_asks_78 : decode cX11_asks 78 = .ok (.iload_n 3, 1) := by decide +kernel
theorem dX11_asks_79 : decode cX11_asks 79 = .ok (.invokevirtual 205, 3) := by decide +kernel
theorem dX11_asks_82 : decode cX11_asks 82 = .ok (.ireturn, 1) := by decide +kernel
theorem dX11_asks_83 : decode cX11_asks 83 = .ok (.aload_n 0, 1) := by decide +kernel
theorem dX11_asks_84 : decode cX11_asks 84 = .ok (.getfield 49, 3) := by decide +kernel
theorem dX11_asks_87 : decode cX11_asks 87 = .ok (.aload_n 0, 1) := by decide +kernel
theorem dX11_asks_88 : decode cX11_asks 88 = .ok (.getfield 10, 3) := by decide +kernel
theorem dX11_asks_91 : decode cX11_asks 91 = .ok (.iload_n 1, 1) := by decide +kernel
theorem dX11_asks_92 : decode cX11_asks 92 = .ok (.iload_n 2, 1) := by decide +kernel
theorem dX11_asks_93 : decode cX11_asks 93 = .ok (.iload_n 3, 1) := by decide +kernel
theorem dX11_asks_94 : decode cX11_asks 94 = .ok (.invokevirtual 209, 3) := by decide +kernel
theorem dX11_asks_97 : decode cX11_asks 97 = .ok (.ifCond .eq 7, 3) := by decide +kernel
theorem dX11_asks_100 : decode cX11_asks 100 = .ok (.iconst 1, 1) := by decide +kernel
theorem dX11_asks_101 : decode cX11_asks 101 = .ok (.goto 4, 3) := by decide +kernel
theorem dX11_asks_104 : decode cX11_asks 104 = .ok (.iconst 0, 1) := by decide +kernel
theorem dX11_asks_105 : decode cX11_asks 105 = .ok (.ireturn, 1) := by decide +kernel
theorem dX11_asks_106 : decode cX11_asks 106 = .ok (.aload_n 0, 1) := by decide +kernel
theorem dX11_asks_107 : decode cX11_asks 107 = .ok (.iload_n 1, 1) := by decide +kernel
theorem dX11_asks_108 : decode cX11_asks 108 = .ok (.iload_n 2, 1) := by decide +kernel
theorem dX11_asks_109 : decode cX11_asks 109 = .ok (.iload_n 3, 1) := by decide +kernel
theorem dX11_asks_110 : decode cX11_asks 110 = .ok (.invokevirtual 213, 3) := by decide +kernel
theorem dX11_asks_113 : decode cX11_asks 113 = .ok (.ifCond .eq 7, 3) := by decide +kernel
theorem dX11_asks_116 : decode cX11_asks 116 = .ok (.iconst 1, 1) := by decide +kernel
theorem dX11_asks_117 : decode cX11_asks 117 = .ok (.goto 4, 3) := by decide +kernel
theorem dX11_asks_120 : decode cX11_asks 120 = .ok (.iconst 0, 1) := by decide +kernel
theorem dX11_asks_121 : decode cX11_asks 121 = .ok (.ireturn, 1) := by decide +kernel
theorem dX11_asks_122 : decode cX11_asks 122 = .ok (.iconst (-1), 1) := by decide +kernel
theorem dX11_asks_123 : decode cX11_asks 123 = .ok (.ireturn, 1) := by decide +kernel
theorem dX11_terms_0 : decode cX11_terms 0 = .ok (.iload_n 1, 1) := by decide +kernel
theorem dX11_terms_1 : decode cX11_terms 1 = .ok (.ifCond .ne 38, 3) := by decide +kernel
theorem dX11_terms_4 : decode cX11_terms 4 = .ok (.iload_n 2, 1) := by decide +kernel
theorem dX11_terms_5 : decode cX11_terms 5 = .ok (.sipush 999, 3) := by decide +kernel
theorem dX11_terms_8 : decode cX11_terms 8 = .ok (.invokestatic 102, 3) := by decide +kernel
theorem dX11_terms_11 : decode cX11_terms 11 = .ok (.ifCond .eq 28, 3) := by decide +kernel
theorem dX11_terms_14 : decode cX11_terms 14 = .ok (.aload_n 0, 1) := by decide +kernel
theorem dX11_terms_15 : decode cX11_terms 15 = .ok (.getfield 10, 3) := by decide +kernel
theorem dX11_terms_18 : decode cX11_terms 18 = .ok (.getfield 133, 3) := by decide +kernel
theorem dX11_terms_21 : decode cX11_terms 21 = .ok (.getfield 145, 3) := by decide +kernel
theorem dX11_terms_24 : decode cX11_terms 24 = .ok (.istore_n 3, 1) := by decide +kernel
theorem dX11_terms_25 : decode cX11_terms 25 = .ok (.aload_n 0, 1) := by decide +kernel
theorem dX11_terms_26 : decode cX11_terms 26 = .ok (.getfield 10, 3) := by decide +kernel
theorem dX11_terms_29 : decode cX11_terms 29 = .ok (.getfield 133, 3) := by decide +kernel
theorem dX11_terms_32 : decode cX11_terms 32 = .ok (.iload_n 2, 1) := by decide +kernel
theorem dX11_terms_33 : decode cX11_terms 33 = .ok (.putfield 145, 3) := by decide +kernel
theorem dX11_terms_36 : decode cX11_terms 36 = .ok (.goto 75, 3) := by decide +kernel
theorem dX11_terms_39 : decode cX11_terms 39 = .ok (.iload_n 1, 1) := by decide +kernel
theorem dX11_terms_40 : decode cX11_terms 40 = .ok (.iconst 1, 1) := by decide +kernel
theorem dX11_terms_41 : decode cX11_terms 41 = .ok (.if_icmp .ne 31, 3) := by decide +kernel
theorem dX11_terms_44 : decode cX11_terms 44 = .ok (.iload_n 2, 1) := by decide +kernel
theorem dX11_terms_45 : decode cX11_terms 45 = .ok (.bipush 10, 2) := by decide +kernel
theorem dX11_terms_47 : decode cX11_terms 47 = .ok (.invokestatic 102, 3) := by decide +kernel
theorem dX11_terms_50 : decode cX11_terms 50 = .ok (.ifCond .eq 22, 3) := by decide +kernel
theorem dX11_terms_53 : decode cX11_terms 53 = .ok (.aload_n 0, 1) := by decide +kernel
theorem dX11_terms_54 : decode cX11_terms 54 = .ok (.getfield 10, 3) := by decide +kernel
theorem dX11_terms_57 : decode cX11_terms 57 = .ok (.getfield 217, 3) := by decide +kernel
theorem dX11_terms_60 : decode cX11_terms 60 = .ok (.istore_n 3, 1) := by decide +kernel
theorem dX11_terms_61 : decode cX11_terms 61 = .ok (.aload_n 0, 1) := by decide +kernel
theorem dX11_terms_62 : decode cX11_terms 62 = .ok (.getfield 10, 3) := by decide +kernel
theorem dX11_terms_65 : decode cX11_terms 65 = .ok (.iload_n 2, 1) := by decide +kernel
theorem dX11_terms_66 : decode cX11_terms 66 = .ok (.putfield 217, 3) := by decide +kernel
theorem dX11_terms_69 : decode cX11_terms 69 = .ok (.goto 42, 3) := by decide +kernel
theorem dX11_terms_72 : decode cX11_terms 72 = .ok (.iload_n 1, 1) := by decide +kernel
theorem dX11_terms_73 : decode cX11_terms 73 = .ok (.iconst 2, 1) := by decide +kernel
theorem dX11_terms_74 : decode cX11_terms 74 = .ok (.if_icmp .ne 31, 3) := by decide +kernel
theorem dX11_terms_77 : decode cX11_terms 77 = .ok (.iload_n 2, 1) := by decide +kernel
theorem dX11_terms_78 : decode cX11_terms 78 = .ok (.bipush 9, 2) := by decide +kernel
theorem dX11_terms_80 : decode cX11_terms 80 = .ok (.invokestatic 102, 3) := by decide +kernel
theorem dX11_terms_83 : decode cX11_terms 83 = .ok (.ifCond .eq 22, 3) := by decide +kernel
theorem dX11_terms_86 : decode cX11_terms 86 = .ok (.aload_n 0, 1) := by decide +kernel
theorem dX11_terms_87 : decode cX11_terms 87 = .ok (.getfield 10, 3) := by decide +kernel
theorem dX11_terms_90 : decode cX11_terms 90 = .ok (.getfield 220, 3) := by decide +kernel
theorem dX11_terms_93 : decode cX11_terms 93 = .ok (.istore_n 3, 1) := by decide +kernel
theorem dX11_terms_94 : decode cX11_terms 94 = .ok (.aload_n 0, 1) := by decide +kernel
theorem dX11_terms_95 : decode cX11_terms 95 = .ok (.getfield 10, 3) := by decide +kernel
theorem dX11_terms_98 : decode cX11_terms 98 = .ok (.iload_n 2, 1) := by decide +kernel
theorem dX11_terms_99 : decode cX11_terms 99 = .ok (.putfield 220, 3) := by decide +kernel
theorem dX11_terms_102 : decode cX11_terms 102 = .ok (.goto 9, 3) := by decide +kernel
theorem dX11_terms_105 : decode cX11_terms 105 = .ok (.aload_n 0, 1) := by decide +kernel
theorem dX11_terms_106 : decode cX11_terms 106 = .ok (.iconst (-1), 1) := by decide +kernel
theorem dX11_terms_107 : decode cX11_terms 107 = .ok (.invokevirtual 106, 3) := by decide +kernel
theorem dX11_terms_110 : decode cX11_terms 110 = .ok (.ireturn, 1) := by decide +kernel
theorem dX11_terms_111 : decode cX11_terms 111 = .ok (.aload_n 0, 1) := by decide +kernel
theorem dX11_terms_112 : decode cX11_terms 112 = .ok (.getfield 26, 3) := by decide +kernel
theorem dX11_terms_115 : decode cX11_terms 115 = .ok (.invokevirtual 113, 3) := by decide +kernel
theorem dX11_terms_118 : decode cX11_terms 118 = .ok (.aload_n 0, 1) := by decide +kernel
theorem dX11_terms_119 : decode cX11_terms 119 = .ok (.iload_n 3, 1) := by decide +kernel
theorem dX11_terms_120 : decode cX11_terms 120 = .ok (.invokevirtual 120, 3) := by decide +kernel
theorem dX11_terms_123 : decode cX11_terms 123 = .ok (.ireturn, 1) := by decide +kernel
theorem dX11_feed_0 : decode cX11_feed 0 = .ok (.aload_n 0, 1) := by decide +kernel
theorem dX11_feed_1 : decode cX11_feed 1 = .ok (.getfield 33, 3) := by decide +kernel
theorem dX11_feed_4 : decode cX11_feed 4 = .ok (.getfield 223, 3) := by decide +kernel
theorem dX11_feed_7 : decode cX11_feed 7 = .ok (.bipush 20, 2) := by decide +kernel
theorem dX11_feed_9 : decode cX11_feed 9 = .ok (.iadd, 1) := by decide +kernel
theorem dX11_feed_10 : decode cX11_feed 10 = .ok (.sipush 400, 3) := by decide +kernel
theorem dX11_feed_13 : decode cX11_feed 13 = .ok (.if_icmp .le 5, 3) := by decide +kernel
theorem dX11_feed_16 : decode cX11_feed 16 = .ok (.iconst (-1), 1) := by decide +kernel
theorem dX11_feed_17 : decode cX11_feed 17 = .ok (.ireturn, 1) := by decide +kernel
theorem dX11_feed_18 : decode cX11_feed 18 = .ok (.aload_n 0, 1) := by decide +kernel
theorem dX11_feed_19 : decode cX11_feed 19 = .ok (.getfield 33, 3) := by decide +kernel
theorem dX11_feed_22 : decode cX11_feed 22 = .ok (.iload_n 1, 1) := by decide +kernel
theorem dX11_feed_23 : decode cX11_feed 23 = .ok (.invokevirtual 226, 3) := by decide +kernel
theorem dX11_feed_26 : decode cX11_feed 26 = .ok (.aload_n 0, 1) := by decide +kernel
theorem dX11_feed_27 : decode cX11_feed 27 = .ok (.getfield 33, 3) := by decide +kernel
theorem dX11_feed_30 : decode cX11_feed 30 = .ok (.iload_n 2, 1) := by decide +kernel
theorem dX11_feed_31 : decode cX11_feed 31 = .ok (.invokevirtual 226, 3) := by decide +kernel
theorem dX11_feed_34 : decode cX11_feed 34 = .ok (.aload_n 0, 1) := by decide +kernel
theorem dX11_feed_35 : decode cX11_feed 35 = .ok (.getfield 33, 3) := by decide +kernel
theorem dX11_feed_38 : decode cX11_feed 38 = .ok (.iload_n 3, 1) := by decide +kernel
theorem dX11_feed_39 : decode cX11_feed 39 = .ok (.invokevirtual 226, 3) := by decide +kernel
theorem dX11_feed_42 : decode cX11_feed 42 = .ok (.aload_n 0, 1) := by decide +kernel
theorem dX11_feed_43 : decode cX11_feed 43 = .ok (.getfield 33, 3) := by decide +kernel
theorem dX11_feed_46 : decode cX11_feed 46 = .ok (.iload 4, 2) := by decide +kernel
theorem dX11_feed_48 : decode cX11_feed 48 = .ok (.invokevirtual 226, 3) := by decide +kernel
theorem dX11_feed_51 : decode cX11_feed 51 = .ok (.aload_n 0, 1) := by decide +kernel
theorem dX11_feed_52 : decode cX11_feed 52 = .ok (.getfield 33, 3) := by decide +kernel
theorem dX11_feed_55 : decode cX11_feed 55 = .ok (.iload 5, 2) := by decide +kernel
theorem dX11_feed_57 : decode cX11_feed 57 = .ok (.invokevirtual 226, 3) := by decide +kernel
theorem dX11_feed_60 : decode cX11_feed 60 = .ok (.aload_n 0, 1) := by decide +kernel
theorem dX11_feed_61 : decode cX11_feed 61 = .ok (.getfield 33, 3) := by decide +kernel
theorem dX11_feed_64 : decode cX11_feed 64 = .ok (.getfield 223, 3) := by decide +kernel
theorem dX11_feed_67 : decode cX11_feed 67 = .ok (.ireturn, 1) := by decide +kernel
theorem dX11_end_0 : decode cX11_end 0 = .ok (.iload_n 1, 1) := by decide +kernel
theorem dX11_end_1 : decode cX11_end 1 = .ok (.aload_n 0, 1) := by decide +kernel
theorem dX11_end_2 : decode cX11_end 2 = .ok (.getfield 33, 3) := by decide +kernel
theorem dX11_end_5 : decode cX11_end 5 = .ok (.getfield 223, 3) := by decide +kernel
theorem dX11_end_8 : decode cX11_end 8 = .ok (.invokestatic 102, 3) := by decide +kernel
theorem dX11_end_11 : decode cX11_end 11 = .ok (.ifCond .ne 5, 3) := by decide +kernel
theorem dX11_end_14 : decode cX11_end 14 = .ok (.iconst (-1), 1) := by decide +kernel
theorem dX11_end_15 : decode cX11_end 15 = .ok (.ireturn, 1) := by decide +kernel
theorem dX11_end_16 : decode cX11_end 16 = .ok (.aload_n 0, 1) := by decide +kernel
theorem dX11_end_17 : decode cX11_end 17 = .ok (.getfield 33, 3) := by decide +kernel
theorem dX11_end_20 : decode cX11_end 20 = .ok (.iload_n 1, 1) := by decide +kernel
theorem dX11_end_21 : decode cX11_end 21 = .ok (.putfield 223, 3) := by decide +kernel
theorem dX11_end_24 : decode cX11_end 24 = .ok (.iload_n 1, 1) := by decide +kernel
theorem dX11_end_25 : decode cX11_end 25 = .ok (.ireturn, 1) := by decide +kernel
theorem dX11_row_0 : decode cX11_row 0 = .ok (.aload_n 0, 1) := by decide +kernel
theorem dX11_row_1 : decode cX11_row 1 = .ok (.getfield 33, 3) := by decide +kernel
theorem dX11_row_4 : decode cX11_row 4 = .ok (.getfield 223, 3) := by decide +kernel
theorem dX11_row_7 : decode cX11_row 7 = .ok (.ifCond .ne 10, 3) := by decide +kernel
theorem dX11_row_10 : decode cX11_row 10 = .ok (.aload_n 0, 1) := by decide +kernel
theorem dX11_row_11 : decode cX11_row 11 = .ok (.bipush (-6), 2) := by decide +kernel
theorem dX11_row_13 : decode cX11_row 13 = .ok (.invokevirtual 106, 3) := by decide +kernel
theorem dX11_row_16 : decode cX11_row 16 = .ok (.ireturn, 1) := by decide +kernel
theorem dX11_row_17 : decode cX11_row 17 = .ok (.iconst 0, 1) := by decide +kernel
theorem dX11_row_18 : decode cX11_row 18 = .ok (.istore_n 1, 1) := by decide +kernel
theorem dX11_row_19 : decode cX11_row 19 = .ok (.iconst 0, 1) := by decide +kernel
theorem dX11_row_20 : decode cX11_row 20 = .ok (.istore_n 2, 1) := by decide +kernel
theorem dX11_row_21 : decode cX11_row 21 = .ok (.iconst 0, 1) := by decide +kernel
theorem dX11_row_22 : decode cX11_row 22 = .ok (.istore_n 3, 1) := by decide +kernel
theorem dX11_row_23 : decode cX11_row 23 = .ok (.iload_n 3, 1) := by decide +kernel
theorem dX11_row_24 : decode cX11_row 24 = .ok (.aload_n 0, 1) := by decide +kernel
theorem dX11_row_25 : decode cX11_row 25 = .ok (.getfield 33, 3) := by decide +kernel
theorem dX11_row_28 : decode cX11_row 28 = .ok (.getfield 223, 3) := by decide +kernel
theorem dX11_row_31 : decode cX11_row 31 = .ok (.if_icmp .ge 26, 3) := by decide +kernel
theorem dX11_row_34 : decode cX11_row 34 = .ok (.aload_n 0, 1) := by decide +kernel
theorem dX11_row_35 : decode cX11_row 35 = .ok (.iload_n 3, 1) := by decide +kernel
theorem dX11_row_36 : decode cX11_row 36 = .ok (.invokevirtual 230, 3) := by decide +kernel
theorem dX11_row_39 : decode cX11_row 39 = .ok (.ifCond .eq 9, 3) := by decide +kernel
theorem dX11_row_42 : decode cX11_row 42 = .ok (.iinc 1 1, 3) := by decide +kernel
theorem dX11_row_45 : decode cX11_row 45 = .ok (.goto 6, 3) := by decide +kernel
theorem dX11_row_48 : decode cX11_row 48 = .ok (.iinc 2 1, 3) := by decide +kernel
theorem dX11_row_51 : decode cX11_row 51 = .ok (.iinc 3 4, 3) := by decide +kernel
theorem dX11_row_54 : decode cX11_row 54 = .ok (.goto (-31), 3) := by decide +kernel
theorem dX11_row_57 : decode cX11_row 57 = .ok (.aload_n 0, 1) := by decide +kernel
theorem dX11_row_58 : decode cX11_row 58 = .ok (.getfield 33, 3) := by decide +kernel
theorem dX11_row_61 : decode cX11_row 61 = .ok (.iconst 0, 1) := by decide +kernel
theorem dX11_row_62 : decode cX11_row 62 = .ok (.putfield 223, 3) := by decide +kernel
theorem dX11_row_65 : decode cX11_row 65 = .ok (.aload_n 0, 1) := by decide +kernel
theorem dX11_row_66 : decode cX11_row 66 = .ok (.iload_n 2, 1) := by decide +kernel
theorem dX11_row_67 : decode cX11_row 67 = .ok (.putfield 93, 3) := by decide +kernel
theorem dX11_row_70 : decode cX11_row 70 = .ok (.aload_n 0, 1) := by decide +kernel
theorem dX11_row_71 : decode cX11_row 71 = .ok (.getfield 26, 3) := by decide +kernel
theorem dX11_row_74 : decode cX11_row 74 = .ok (.invokevirtual 113, 3) := by decide +kernel
theorem dX11_row_77 : decode cX11_row 77 = .ok (.aload_n 0, 1) := by decide +kernel
theorem dX11_row_78 : decode cX11_row 78 = .ok (.iload_n 1, 1) := by decide +kernel
theorem dX11_row_79 : decode cX11_row 79 = .ok (.invokevirtual 120, 3) := by decide +kernel
theorem dX11_row_82 : decode cX11_row 82 = .ok (.ireturn, 1) := by decide +kernel
theorem dX11_rust_0 : decode cX11_rust 0 = .ok (.aload_n 0, 1) := by decide +kernel
theorem dX11_rust_1 : decode cX11_rust 1 = .ok (.getfield 93, 3) := by decide +kernel
theorem dX11_rust_4 : decode cX11_rust 4 = .ok (.ireturn, 1) := by decide +kernel
theorem dX11_law_0 : decode cX11_law 0 = .ok (.aload_n 0, 1) := by decide +kernel
theorem dX11_law_1 : decode cX11_law 1 = .ok (.getfield 10, 3) := by decide +kernel
theorem dX11_law_4 : decode cX11_law 4 = .ok (.getfield 233, 3) := by decide +kernel
theorem dX11_law_7 : decode cX11_law 7 = .ok (.bipush 6, 2) := by decide +kernel
theorem dX11_law_9 : decode cX11_law 9 = .ok (.if_icmp .lt 18, 3) := by decide +kernel
theorem dX11_law_12 : decode cX11_law 12 = .ok (.aload_n 0, 1) := by decide +kernel
theorem dX11_law_13 : decode cX11_law 13 = .ok (.getfield 33, 3) := by decide +kernel
theorem dX11_law_16 : decode cX11_law 16 = .ok (.iconst 0, 1) := by decide +kernel
theorem dX11_law_17 : decode cX11_law 17 = .ok (.putfield 223, 3) := by decide +kernel
theorem dX11_law_20 : decode cX11_law 20 = .ok (.aload_n 0, 1) := by decide +kernel
theorem dX11_law_21 : decode cX11_law 21 = .ok (.bipush (-5), 2) := by decide +kernel
theorem dX11_law_23 : decode cX11_law 23 = .ok (.invokevirtual 106, 3) := by decide +kernel
theorem dX11_law_26 : decode cX11_law 26 = .ok (.ireturn, 1) := by decide +kernel
theorem dX11_law_27 : decode cX11_law 27 = .ok (.aload_n 0, 1) := by decide +kernel
theorem dX11_law_28 : decode cX11_law 28 = .ok (.aload_n 0, 1) := by decide +kernel
theorem dX11_law_29 : decode cX11_law 29 = .ok (.getfield 42, 3) := by decide +kernel
theorem dX11_law_32 : decode cX11_law 32 = .ok (.iconst 1, 1) := by decide +kernel
theorem dX11_law_33 : decode cX11_law 33 = .ok (.invokevirtual 236, 3) := by decide +kernel
theorem dX11_law_36 : decode cX11_law 36 = .ok (.putfield 87, 3) := by decide +kernel
theorem dX11_law_39 : decode cX11_law 39 = .ok (.aload_n 0, 1) := by decide +kernel
theorem dX11_law_40 : decode cX11_law 40 = .ok (.getfield 33, 3) := by decide +kernel
theorem dX11_law_43 : decode cX11_law 43 = .ok (.iconst 0, 1) := by decide +kernel
theorem dX11_law_44 : decode cX11_law 44 = .ok (.putfield 223, 3) := by decide +kernel
theorem dX11_law_47 : decode cX11_law 47 = .ok (.aload_n 0, 1) := by decide +kernel
theorem dX11_law_48 : decode cX11_law 48 = .ok (.getfield 87, 3) := by decide +kernel
theorem dX11_law_51 : decode cX11_law 51 = .ok (.iconst (-1), 1) := by decide +kernel
theorem dX11_law_52 : decode cX11_law 52 = .ok (.if_icmp .eq 10, 3) := by decide +kernel
theorem dX11_law_55 : decode cX11_law 55 = .ok (.aload_n 0, 1) := by decide +kernel
theorem dX11_law_56 : decode cX11_law 56 = .ok (.bipush (-6), 2) := by decide +kernel
theorem dX11_law_58 : decode cX11_law 58 = .ok (.invokevirtual 106, 3) := by decide +kernel
theorem dX11_law_61 : decode cX11_law 61 = .ok (.ireturn, 1) := by decide +kernel
theorem dX11_law_62 : decode cX11_law 62 = .ok (.aload_n 0, 1) := by decide +kernel
theorem dX11_law_63 : decode cX11_law 63 = .ok (.aload_n 0, 1) := by decide +kernel
theorem dX11_law_64 : decode cX11_law 64 = .ok (.getfield 10, 3) := by decide +kernel
theorem dX11_law_67 : decode cX11_law 67 = .ok (.new 240, 3) := by decide +kernel
theorem dX11_law_70 : decode cX11_law 70 = .ok (.dup, 1) := by decide +kernel
theorem dX11_law_71 : decode cX11_law 71 = .ok (.aload_n 0, 1) := by decide +kernel
theorem dX11_law_72 : decode cX11_law 72 = .ok (.getfield 42, 3) := by decide +kernel
theorem dX11_law_75 : decode cX11_law 75 = .ok (.getfield 242, 3) := by decide +kernel
theorem dX11_law_78 : decode cX11_law 78 = .ok (.invokespecial 246, 3) := by decide +kernel
theorem dX11_law_81 : decode cX11_law 81 = .ok (.invokevirtual 249, 3) := by decide +kernel
theorem dX11_law_84 : decode cX11_law 84 = .ok (.invokevirtual 120, 3) := by decide +kernel
theorem dX11_law_87 : decode cX11_law 87 = .ok (.ireturn, 1) := by decide +kernel
theorem dX11_orders_0 : decode cX11_orders 0 = .ok (.aload_n 0, 1) := by decide +kernel
theorem dX11_orders_1 : decode cX11_orders 1 = .ok (.iconst (-1), 1) := by decide +kernel
theorem dX11_orders_2 : decode cX11_orders 2 = .ok (.putfield 90, 3) := by decide +kernel
theorem dX11_orders_5 : decode cX11_orders 5 = .ok (.aload_n 0, 1) := by decide +kernel
theorem dX11_orders_6 : decode cX11_orders 6 = .ok (.aload_n 0, 1) := by decide +kernel
theorem dX11_orders_7 : decode cX11_orders 7 = .ok (.getfield 42, 3) := by decide +kernel
theorem dX11_orders_10 : decode cX11_orders 10 = .ok (.iconst 0, 1) := by decide +kernel
theorem dX11_orders_11 : decode cX11_orders 11 = .ok (.invokevirtual 236, 3) := by decide +kernel
theorem dX11_orders_14 : decode cX11_orders 14 = .ok (.putfield 87, 3) := by decide +kernel
theorem dX11_orders_17 : decode cX11_orders 17 = .ok (.aload_n 0, 1) := by decide +kernel
theorem dX11_orders_18 : decode cX11_orders 18 = .ok (.getfield 33, 3) := by decide +kernel
theorem dX11_orders_21 : decode cX11_orders 21 = .ok (.iconst 0, 1) := by decide +kernel
theorem dX11_orders_22 : decode cX11_orders 22 = .ok (.putfield 223, 3) := by decide +kernel
theorem dX11_orders_25 : decode cX11_orders 25 = .ok (.aload_n 0, 1) := by decide +kernel
theorem dX11_orders_26 : decode cX11_orders 26 = .ok (.getfield 87, 3) := by decide +kernel
theorem dX11_orders_29 : decode cX11_orders 29 = .ok (.iconst (-1), 1) := by decide +kernel
theorem dX11_orders_30 : decode cX11_orders 30 = .ok (.if_icmp .eq 10, 3) := by decide +kernel
theorem dX11_orders_33 : decode cX11_orders 33 = .ok (.aload_n 0, 1) := by decide +kernel
theorem dX11_orders_34 : decode cX11_orders 34 = .ok (.bipush (-6), 2) := by decide +kernel
theorem dX11_orders_36 : decode cX11_orders 36 = .ok (.invokevirtual 106, 3) := by decide +kernel
theorem dX11_orders_39 : decode cX11_orders 39 = .ok (.ireturn, 1) := by decide +kernel
theorem dX11_orders_40 : decode cX11_orders 40 = .ok (.aload_n 0, 1) := by decide +kernel
theorem dX11_orders_41 : decode cX11_orders 41 = .ok (.getfield 16, 3) := by decide +kernel
theorem dX11_orders_44 : decode cX11_orders 44 = .ok (.aload_n 0, 1) := by decide +kernel
theorem dX11_orders_45 : decode cX11_orders 45 = .ok (.getfield 10, 3) := by decide +kernel
theorem dX11_orders_48 : decode cX11_orders 48 = .ok (.invokevirtual 253, 3) := by decide +kernel
theorem dX11_orders_51 : decode cX11_orders 51 = .ok (.aload_n 0, 1) := by decide +kernel
theorem dX11_orders_52 : decode cX11_orders 52 = .ok (.aload_n 0, 1) := by decide +kernel
theorem dX11_orders_53 : decode cX11_orders 53 = .ok (.getfield 58, 3) := by decide +kernel
theorem dX11_orders_56 : decode cX11_orders 56 = .ok (.aload_n 0, 1) := by decide +kernel
theorem dX11_orders_57 : decode cX11_orders 57 = .ok (.getfield 42, 3) := by decide +kernel
theorem dX11_orders_60 : decode cX11_orders 60 = .ok (.getfield 242, 3) := by decide +kernel
theorem dX11_orders_63 : decode cX11_orders 63 = .ok (.aload_n 0, 1) := by decide +kernel
theorem dX11_orders_64 : decode cX11_orders 64 = .ok (.getfield 16, 3) := by decide +kernel
theorem dX11_orders_67 : decode cX11_orders 67 = .ok (.aconst_null, 1) := by decide +kernel
theorem dX11_orders_68 : decode cX11_orders 68 = .ok (.invokevirtual 257, 3) := by decide +kernel
theorem dX11_orders_71 : decode cX11_orders 71 = .ok (.putfield 90, 3) := by decide +kernel
theorem dX11_orders_74 : decode cX11_orders 74 = .ok (.aload_n 0, 1) := by decide +kernel
theorem dX11_orders_75 : decode cX11_orders 75 = .ok (.getfield 90, 3) := by decide +kernel
theorem dX11_orders_78 : decode cX11_orders 78 = .ok (.iconst (-1), 1) := by decide +kernel
theorem dX11_orders_79 : decode cX11_orders 79 = .ok (.if_icmp .eq 10, 3) := by decide +kernel
theorem dX11_orders_82 : decode cX11_orders 82 = .ok (.aload_n 0, 1) := by decide +kernel
theorem dX11_orders_83 : decode cX11_orders 83 = .ok (.bipush (-3), 2) := by decide +kernel
theorem dX11_orders_85 : decode cX11_orders 85 = .ok (.invokevirtual 106, 3) := by decide +kernel
theorem dX11_orders_88 : decode cX11_orders 88 = .ok (.ireturn, 1) := by decide +kernel
theorem dX11_orders_89 : decode cX11_orders 89 = .ok (.aload_n 0, 1) := by decide +kernel
theorem dX11_orders_90 : decode cX11_orders 90 = .ok (.getfield 58, 3) := by decide +kernel
theorem dX11_orders_93 : decode cX11_orders 93 = .ok (.aload_n 0, 1) := by decide +kernel
theorem dX11_orders_94 : decode cX11_orders 94 = .ok (.getfield 42, 3) := by decide +kernel
theorem dX11_orders_97 : decode cX11_orders 97 = .ok (.getfield 242, 3) := by decide +kernel
theorem dX11_orders_100 : decode cX11_orders 100 = .ok (.aload_n 0, 1) := by decide +kernel
theorem dX11_orders_101 : decode cX11_orders 101 = .ok (.getfield 10, 3) := by decide +kernel
theorem dX11_orders_104 : decode cX11_orders 104 = .ok (.aload_n 0, 1) := by decide +kernel
theorem dX11_orders_105 : decode cX11_orders 105 = .ok (.getfield 26, 3) := by decide +kernel
theorem dX11_orders_108 : decode cX11_orders 108 = .ok (.invokevirtual 257, 3) := by decide +kernel
theorem dX11_orders_111 : decode cX11_orders 111 = .ok (.pop, 1) := by decide +kernel
theorem dX11_orders_112 : decode cX11_orders 112 = .ok (.aload_n 0, 1) := by decide +kernel
theorem dX11_orders_113 : decode cX11_orders 113 = .ok (.aload_n 0, 1) := by decide +kernel
theorem dX11_orders_114 : decode cX11_orders 114 = .ok (.getfield 58, 3) := by decide +kernel
theorem dX11_orders_117 : decode cX11_orders 117 = .ok (.getfield 261, 3) := by decide +kernel
theorem dX11_orders_120 : decode cX11_orders 120 = .ok (.invokevirtual 120, 3) := by decide +kernel
theorem dX11_orders_123 : decode cX11_orders 123 = .ok (.ireturn, 1) := by decide +kernel
theorem dX11_fault_0 : decode cX11_fault 0 = .ok (.aload_n 0, 1) := by decide +kernel
theorem dX11_fault_1 : decode cX11_fault 1 = .ok (.getfield 87, 3) := by decide +kernel
theorem dX11_fault_4 : decode cX11_fault 4 = .ok (.ireturn, 1) := by decide +kernel
theorem dX11_stopped_0 : decode cX11_stopped 0 = .ok (.aload_n 0, 1) := by decide +kernel
theorem dX11_stopped_1 : decode cX11_stopped 1 = .ok (.getfield 90, 3) := by decide +kernel
theorem dX11_stopped_4 : decode cX11_stopped 4 = .ok (.ireturn, 1) := by decide +kernel
theorem dX11_force_0 : decode cX11_force 0 = .ok (.iload_n 1, 1) := by decide +kernel
theorem dX11_force_1 : decode cX11_force 1 = .ok (.iconst (-1), 1) := by decide +kernel
theorem dX11_force_2 : decode cX11_force 2 = .ok (.if_icmp .eq 25, 3) := by decide +kernel
theorem dX11_force_5 : decode cX11_force 5 = .ok (.iload_n 1, 1) := by decide +kernel
theorem dX11_force_6 : decode cX11_force 6 = .ok (.ifCond .lt 14, 3) := by decide +kernel
theorem dX11_force_9 : decode cX11_force 9 = .ok (.iload_n 1, 1) := by decide +kernel
theorem dX11_force_10 : decode cX11_force 10 = .ok (.aload_n 0, 1) := by decide +kernel
theorem dX11_force_11 : decode cX11_force 11 = .ok (.getfield 10, 3) := by decide +kernel
theorem dX11_force_14 : decode cX11_force 14 = .ok (.getfield 233, 3) := by decide +kernel
theorem dX11_force_17 : decode cX11_force 17 = .ok (.if_icmp .lt 10, 3) := by decide +kernel
theorem dX11_force_20 : decode cX11_force 20 = .ok (.aload_n 0, 1) := by decide +kernel
theorem dX11_force_21 : decode cX11_force 21 = .ok (.bipush (-2), 2) := by decide +kernel
theorem dX11_force_23 : decode cX11_force 23 = .ok (.invokevirtual 106, 3) := by decide +kernel
theorem dX11_force_26 : decode cX11_force 26 = .ok (.ireturn, 1) := by decide +kernel
theorem dX11_force_27 : decode cX11_force 27 = .ok (.aload_n 0, 1) := by decide +kernel
theorem dX11_force_28 : decode cX11_force 28 = .ok (.getfield 10, 3) := by decide +kernel
theorem dX11_force_31 : decode cX11_force 31 = .ok (.getfield 264, 3) := by decide +kernel
theorem dX11_force_34 : decode cX11_force 34 = .ok (.istore_n 2, 1) := by decide +kernel
theorem dX11_force_35 : decode cX11_force 35 = .ok (.aload_n 0, 1) := by decide +kernel
theorem dX11_force_36 : decode cX11_force 36 = .ok (.getfield 10, 3) := by decide +kernel
theorem dX11_force_39 : decode cX11_force 39 = .ok (.iload_n 1, 1) := by decide +kernel
theorem dX11_force_40 : decode cX11_force 40 = .ok (.putfield 264, 3) := by decide +kernel
theorem dX11_force_43 : decode cX11_force 43 = .ok (.aload_n 0, 1) := by decide +kernel
theorem dX11_force_44 : decode cX11_force 44 = .ok (.iload_n 2, 1) := by decide +kernel
theorem dX11_force_45 : decode cX11_force 45 = .ok (.invokevirtual 120, 3) := by decide +kernel
theorem dX11_force_48 : decode cX11_force 48 = .ok (.ireturn, 1) := by decide +kernel
theorem dX11_ring_0 : decode cX11_ring 0 = .ok (.aload_n 0, 1) := by decide +kernel
theorem dX11_ring_1 : decode cX11_ring 1 = .ok (.aload_n 0, 1) := by decide +kernel
theorem dX11_ring_2 : decode cX11_ring 2 = .ok (.getfield 58, 3) := by decide +kernel
theorem dX11_ring_5 : decode cX11_ring 5 = .ok (.aload_n 0, 1) := by decide +kernel
theorem dX11_ring_6 : decode cX11_ring 6 = .ok (.getfield 10, 3) := by decide +kernel
theorem dX11_ring_9 : decode cX11_ring 9 = .ok (.aload_n 0, 1) := by decide +kernel
theorem dX11_ring_10 : decode cX11_ring 10 = .ok (.getfield 26, 3) := by decide +kernel
theorem dX11_ring_13 : decode cX11_ring 13 = .ok (.iload_n 1, 1) := by decide +kernel
theorem dX11_ring_14 : decode cX11_ring 14 = .ok (.iload_n 2, 1) := by decide +kernel
theorem dX11_ring_15 : decode cX11_ring 15 = .ok (.invokevirtual 267, 3) := by decide +kernel
theorem dX11_ring_18 : decode cX11_ring 18 = .ok (.invokevirtual 271, 3) := by decide +kernel
theorem dX11_ring_21 : decode cX11_ring 21 = .ok (.ireturn, 1) := by decide +kernel
theorem dX11_sell_0 : decode cX11_sell 0 = .ok (.aload_n 0, 1) := by decide +kernel
theorem dX11_sell_1 : decode cX11_sell 1 = .ok (.aload_n 0, 1) := by decide +kernel
theorem dX11_sell_2 : decode cX11_sell 2 = .ok (.getfield 58, 3) := by decide +kernel
theorem dX11_sell_5 : decode cX11_sell 5 = .ok (.aload_n 0, 1) := by decide +kernel
theorem dX11_sell_6 : decode cX11_sell 6 = .ok (.getfield 10, 3) := by decide +kernel
theorem dX11_sell_9 : decode cX11_sell 9 = .ok (.aload_n 0, 1) := by decide +kernel
theorem dX11_sell_10 : decode cX11_sell 10 = .ok (.getfield 26, 3) := by decide +kernel
theorem dX11_sell_13 : decode cX11_sell 13 = .ok (.iload_n 1, 1) := by decide +kernel
theorem dX11_sell_14 : decode cX11_sell 14 = .ok (.iload_n 2, 1) := by decide +kernel
theorem dX11_sell_15 : decode cX11_sell 15 = .ok (.iload_n 3, 1) := by decide +kernel
theorem dX11_sell_16 : decode cX11_sell 16 = .ok (.invokevirtual 274, 3) := by decide +kernel
theorem dX11_sell_19 : decode cX11_sell 19 = .ok (.invokevirtual 271, 3) := by decide +kernel
theorem dX11_sell_22 : decode cX11_sell 22 = .ok (.ireturn, 1) := by decide +kernel
theorem dX11_die_0 : decode cX11_die 0 = .ok (.aload_n 0, 1) := by decide +kernel
theorem dX11_die_1 : decode cX11_die 1 = .ok (.aload_n 0, 1) := by decide +kernel
theorem dX11_die_2 : decode cX11_die 2 = .ok (.getfield 58, 3) := by decide +kernel
theorem dX11_die_5 : decode cX11_die 5 = .ok (.aload_n 0, 1) := by decide +kernel
theorem dX11_die_6 : decode cX11_die 6 = .ok (.getfield 10, 3) := by decide +kernel
theorem dX11_die_9 : decode cX11_die 9 = .ok (.aload_n 0, 1) := by decide +kernel
theorem dX11_die_10 : decode cX11_die 10 = .ok (.getfield 26, 3) := by decide +kernel
theorem dX11_die_13 : decode cX11_die 13 = .ok (.iload_n 1, 1) := by decide +kernel
theorem dX11_die_14 : decode cX11_die 14 = .ok (.invokevirtual 278, 3) := by decide +kernel
theorem dX11_die_17 : decode cX11_die 17 = .ok (.invokevirtual 271, 3) := by decide +kernel
theorem dX11_die_20 : decode cX11_die 20 = .ok (.ireturn, 1) := by decide +kernel
theorem dX11_pass_0 : decode cX11_pass 0 = .ok (.aload_n 0, 1) := by decide +kernel
theorem dX11_pass_1 : decode cX11_pass 1 = .ok (.aload_n 0, 1) := by decide +kernel
theorem dX11_pass_2 : decode cX11_pass 2 = .ok (.getfield 58, 3) := by decide +kernel
theorem dX11_pass_5 : decode cX11_pass 5 = .ok (.aload_n 0, 1) := by decide +kernel
theorem dX11_pass_6 : decode cX11_pass 6 = .ok (.getfield 10, 3) := by decide +kernel
theorem dX11_pass_9 : decode cX11_pass 9 = .ok (.aload_n 0, 1) := by decide +kernel
theorem dX11_pass_10 : decode cX11_pass 10 = .ok (.getfield 26, 3) := by decide +kernel
theorem dX11_pass_13 : decode cX11_pass 13 = .ok (.invokevirtual 282, 3) := by decide +kernel
theorem dX11_pass_16 : decode cX11_pass 16 = .ok (.invokevirtual 271, 3) := by decide +kernel
theorem dX11_pass_19 : decode cX11_pass 19 = .ok (.ireturn, 1) := by decide +kernel
theorem dX11_undo_0 : decode cX11_undo 0 = .ok (.aload_n 0, 1) := by decide +kernel
theorem dX11_undo_1 : decode cX11_undo 1 = .ok (.getfield 26, 3) := by decide +kernel
theorem dX11_undo_4 : decode cX11_undo 4 = .ok (.aload_n 0, 1) := by decide +kernel
theorem dX11_undo_5 : decode cX11_undo 5 = .ok (.getfield 10, 3) := by decide +kernel
theorem dX11_undo_8 : decode cX11_undo 8 = .ok (.getfield 133, 3) := by decide +kernel
theorem dX11_undo_11 : decode cX11_undo 11 = .ok (.invokevirtual 286, 3) := by decide +kernel
theorem dX11_undo_14 : decode cX11_undo 14 = .ok (.istore_n 1, 1) := by decide +kernel
theorem dX11_undo_15 : decode cX11_undo 15 = .ok (.iload_n 1, 1) := by decide +kernel
theorem dX11_undo_16 : decode cX11_undo 16 = .ok (.iconst (-1), 1) := by decide +kernel
theorem dX11_undo_17 : decode cX11_undo 17 = .ok (.if_icmp .ne 12, 3) := by decide +kernel
theorem dX11_undo_20 : decode cX11_undo 20 = .ok (.aload_n 0, 1) := by decide +kernel
theorem dX11_undo_21 : decode cX11_undo 21 = .ok (.bipush (-3), 2) := by decide +kernel
theorem dX11_undo_23 : decode cX11_undo 23 = .ok (.invokevirtual 106, 3) := by decide +kernel
theorem dX11_undo_26 : decode cX11_undo 26 = .ok (.goto 8, 3) := by decide +kernel
theorem dX11_undo_29 : decode cX11_undo 29 = .ok (.aload_n 0, 1) := by decide +kernel
theorem dX11_undo_30 : decode cX11_undo 30 = .ok (.iload_n 1, 1) := by decide +kernel
theorem dX11_undo_31 : decode cX11_undo 31 = .ok (.invokevirtual 120, 3) := by decide +kernel
theorem dX11_undo_34 : decode cX11_undo 34 = .ok (.ireturn, 1) := by decide +kernel
theorem dX11_visits_0 : decode cX11_visits 0 = .ok (.aload_n 0, 1) := by decide +kernel
theorem dX11_visits_1 : decode cX11_visits 1 = .ok (.getfield 10, 3) := by decide +kernel
theorem dX11_visits_4 : decode cX11_visits 4 = .ok (.iload_n 1, 1) := by decide +kernel
theorem dX11_visits_5 : decode cX11_visits 5 = .ok (.invokevirtual 177, 3) := by decide +kernel
theorem dX11_visits_8 : decode cX11_visits 8 = .ok (.ifCond .eq 12, 3) := by decide +kernel
theorem dX11_visits_11 : decode cX11_visits 11 = .ok (.iload_n 2, 1) := by decide +kernel
theorem dX11_visits_12 : decode cX11_visits 12 = .ok (.bipush 99, 2) := by decide +kernel
theorem dX11_visits_14 : decode cX11_visits 14 = .ok (.invokestatic 102, 3) := by decide +kernel
theorem dX11_visits_17 : decode cX11_visits 17 = .ok (.ifCond .ne 5, 3) := by decide +kernel
theorem dX11_visits_20 : decode cX11_visits 20 = .ok (.iconst (-1), 1) := by decide +kernel
theorem dX11_visits_21 : decode cX11_visits 21 = .ok (.ireturn, 1) := by decide +kernel
theorem dX11_visits_22 : decode cX11_visits 22 = .ok (.aload_n 0, 1) := by decide +kernel
theorem dX11_visits_23 : decode cX11_visits 23 = .ok (.getfield 65, 3) := by decide +kernel
theorem dX11_visits_26 : decode cX11_visits 26 = .ok (.aload_n 0, 1) := by decide +kernel
theorem dX11_visits_27 : decode cX11_visits 27 = .ok (.getfield 10, 3) := by decide +kernel
theorem dX11_visits_30 : decode cX11_visits 30 = .ok (.iload_n 1, 1) := by decide +kernel
theorem dX11_visits_31 : decode cX11_visits 31 = .ok (.iload_n 2, 1) := by decide +kernel
theorem dX11_visits_32 : decode cX11_visits 32 = .ok (.invokevirtual 290, 3) := by decide +kernel
theorem dX11_visits_35 : decode cX11_visits 35 = .ok (.iload_n 3, 1) := by decide +kernel
theorem dX11_visits_36 : decode cX11_visits 36 = .ok (.iconst (-1), 1) := by decide +kernel
theorem dX11_visits_37 : decode cX11_visits 37 = .ok (.if_icmp .ne 11, 3) := by decide +kernel
theorem dX11_visits_40 : decode cX11_visits 40 = .ok (.aload_n 0, 1) := by decide +kernel
theorem dX11_visits_41 : decode cX11_visits 41 = .ok (.getfield 65, 3) := by decide +kernel
theorem dX11_visits_44 : decode cX11_visits 44 = .ok (.getfield 294, 3) := by decide +kernel
theorem dX11_visits_47 : decode cX11_visits 47 = .ok (.ireturn, 1) := by decide +kernel
theorem dX11_visits_48 : decode cX11_visits 48 = .ok (.iload_n 3, 1) := by decide +kernel
theorem dX11_visits_49 : decode cX11_visits 49 = .ok (.ifCond .lt 26, 3) := by decide +kernel
theorem dX11_visits_52 : decode cX11_visits 52 = .ok (.iload_n 3, 1) := by decide +kernel
theorem dX11_visits_53 : decode cX11_visits 53 = .ok (.aload_n 0, 1) := by decide +kernel
theorem dX11_visits_54 : decode cX11_visits 54 = .ok (.getfield 65, 3) := by decide +kernel
theorem dX11_visits_57 : decode cX11_visits 57 = .ok (.getfield 294, 3) := by decide +kernel
theorem dX11_visits_60 : decode cX11_visits 60 = .ok (.if_icmp .ge 15, 3) := by decide +kernel
theorem dX11_visits_63 : decode cX11_visits 63 = .ok (.aload_n 0, 1) := by decide +kernel
theorem dX11_visits_64 : decode cX11_visits 64 = .ok (.getfield 65, 3) := by decide +kernel
theorem dX11_visits_67 : decode cX11_visits 67 = .ok (.getfield 297, 3) := by decide +kernel
theorem dX11_visits_70 : decode cX11_visits 70 = .ok (.iload_n 3, 1) := by decide +kernel
theorem dX11_visits_71 : decode cX11_visits 71 = .ok (.iaload, 1) := by decide +kernel
theorem dX11_visits_72 : decode cX11_visits 72 = .ok (.goto 4, 3) := by decide +kernel
theorem dX11_visits_75 : decode cX11_visits 75 = .ok (.iconst (-1), 1) := by decide +kernel
theorem dX11_visits_76 : decode cX11_visits 76 = .ok (.ireturn, 1) := by decide +kernel
theorem dX11_exchange_0 : decode cX11_exchange 0 = .ok (.iload_n 1, 1) := by decide +kernel
theorem dX11_exchange_1 : decode cX11_exchange 1 = .ok (.ifCond .ne 15, 3) := by decide +kernel
theorem dX11_exchange_4 : decode cX11_exchange 4 = .ok (.aload_n 0, 1) := by decide +kernel
theorem dX11_exchange_5 : decode cX11_exchange 5 = .ok (.getfield 65, 3) := by decide +kernel
theorem dX11_exchange_8 : decode cX11_exchange 8 = .ok (.aload_n 0, 1) := by decide +kernel
theorem dX11_exchange_9 : decode cX11_exchange 9 = .ok (.getfield 10, 3) := by decide +kernel
theorem dX11_exchange_12 : decode cX11_exchange 12 = .ok (.invokevirtual 300, 3) := by decide +kernel
theorem dX11_exchange_15 : decode cX11_exchange 15 = .ok (.ireturn, 1) := by decide +kernel
theorem dX11_exchange_16 : decode cX11_exchange 16 = .ok (.iload_n 1, 1) := by decide +kernel
theorem dX11_exchange_17 : decode cX11_exchange 17 = .ok (.iconst 1, 1) := by decide +kernel
theorem dX11_exchange_18 : decode cX11_exchange 18 = .ok (.if_icmp .lt 16, 3) := by decide +kernel
theorem dX11_exchange_21 : decode cX11_exchange 21 = .ok (.aload_n 0, 1) := by decide +kernel
theorem dX11_exchange_22 : decode cX11_exchange 22 = .ok (.getfield 10, 3) := by decide +kernel
theorem dX11_exchange_25 : decode cX11_exchange 25 = .ok (.iload_n 1, 1) := by decide +kernel
theorem dX11_exchange_26 : decode cX11_exchange 26 = .ok (.iconst 1, 1) := by decide +kernel
theorem dX11_exchange_27 : decode cX11_exchange 27 = .ok (.isub, 1) := by decide +kernel
theorem dX11_exchange_28 : decode cX11_exchange 28 = .ok (.invokevirtual 159, 3) := by decide +kernel
theorem dX11_exchange_31 : decode cX11_exchange 31 = .ok (.ifCond .ne 5, 3) := by decide +kernel
theorem dX11_exchange_34 : decode cX11_exchange 34 = .ok (.iconst (-1), 1) := by decide +kernel
theorem dX11_exchange_35 : decode cX11_exchange 35 = .ok (.ireturn, 1) := by decide +kernel
theorem dX11_exchange_36 : decode cX11_exchange 36 = .ok (.aload_n 0, 1) := by decide +kernel
theorem dX11_exchange_37 : decode cX11_exchange 37 = .ok (.getfield 65, 3) := by decide +kernel
theorem dX11_exchange_40 : decode cX11_exchange 40 = .ok (.aload_n 0, 1) := by decide +kernel
theorem dX11_exchange_41 : decode cX11_exchange 41 = .ok (.getfield 10, 3) := by decide +kernel
theorem dX11_exchange_44 : decode cX11_exchange 44 = .ok (.invokevirtual 300, 3) := by decide +kernel
theorem dX11_exchange_47 : decode cX11_exchange 47 = .ok (.pop, 1) := by decide +kernel
theorem dX11_exchange_48 : decode cX11_exchange 48 = .ok (.aload_n 0, 1) := by decide +kernel
theorem dX11_exchange_49 : decode cX11_exchange 49 = .ok (.getfield 65, 3) := by decide +kernel
theorem dX11_exchange_52 : decode cX11_exchange 52 = .ok (.getfield 304, 3) := by decide +kernel
theorem dX11_exchange_55 : decode cX11_exchange 55 = .ok (.iload_n 1, 1) := by decide +kernel
theorem dX11_exchange_56 : decode cX11_exchange 56 = .ok (.iconst 1, 1) := by decide +kernel
theorem dX11_exchange_57 : decode cX11_exchange 57 = .ok (.isub, 1) := by decide +kernel
theorem dX11_exchange_58 : decode cX11_exchange 58 = .ok (.iaload, 1) := by decide +kernel
theorem dX11_exchange_59 : decode cX11_exchange 59 = .ok (.ireturn, 1) := by decide +kernel
theorem dX11_clue_0 : decode cX11_clue 0 = .ok (.iload_n 2, 1) := by decide +kernel
theorem dX11_clue_1 : decode cX11_clue 1 = .ok (.bipush 99, 2) := by decide +kernel
theorem dX11_clue_3 : decode cX11_clue 3 = .ok (.invokestatic 102, 3) := by decide +kernel
theorem dX11_clue_6 : decode cX11_clue 6 = .ok (.ifCond .ne 9, 3) := by decide +kernel
theorem dX11_clue_9 : decode cX11_clue 9 = .ok (.aload_n 0, 1) := by decide +kernel
theorem dX11_clue_10 : decode cX11_clue 10 = .ok (.iconst (-1), 1) := by decide +kernel
theorem dX11_clue_11 : decode cX11_clue 11 = .ok (.invokevirtual 106, 3) := by decide +kernel
theorem dX11_clue_14 : decode cX11_clue 14 = .ok (.ireturn, 1) := by decide +kernel
theorem dX11_clue_15 : decode cX11_clue 15 = .ok (.aload_n 0, 1) := by decide +kernel
theorem dX11_clue_16 : decode cX11_clue 16 = .ok (.getfield 10, 3) := by decide +kernel
theorem dX11_clue_19 : decode cX11_clue 19 = .ok (.iload_n 1, 1) := by decide +kernel
theorem dX11_clue_20 : decode cX11_clue 20 = .ok (.invokevirtual 123, 3) := by decide +kernel
theorem dX11_clue_23 : decode cX11_clue 23 = .ok (.ifCond .ne 10, 3) := by decide +kernel
theorem dX11_clue_26 : decode cX11_clue 26 = .ok (.aload_n 0, 1) := by decide +kernel
theorem dX11_clue_27 : decode cX11_clue 27 = .ok (.bipush (-2), 2) := by decide +kernel
theorem dX11_clue_29 : decode cX11_clue 29 = .ok (.invokevirtual 106, 3) := by decide +kernel
theorem dX11_clue_32 : decode cX11_clue 32 = .ok (.ireturn, 1) := by decide +kernel
theorem dX11_clue_33 : decode cX11_clue 33 = .ok (.aload_n 0, 1) := by decide +kernel
theorem dX11_clue_34 : decode cX11_clue 34 = .ok (.getfield 10, 3) := by decide +kernel
theorem dX11_clue_37 : decode cX11_clue 37 = .ok (.getfield 307, 3) := by decide +kernel
theorem dX11_clue_40 : decode cX11_clue 40 = .ok (.bipush 6, 2) := by decide +kernel
theorem dX11_clue_42 : decode cX11_clue 42 = .ok (.if_icmp .lt 10, 3) := by decide +kernel
theorem dX11_clue_45 : decode cX11_clue 45 = .ok (.aload_n 0, 1) := by decide +kernel
theorem dX11_clue_46 : decode cX11_clue 46 = .ok (.bipush (-5), 2) := by decide +kernel
theorem dX11_clue_48 : decode cX11_clue 48 = .ok (.invokevirtual 106, 3) := by decide +kernel
theorem dX11_clue_51 : decode cX11_clue 51 = .ok (.ireturn, 1) := by decide +kernel
theorem dX11_clue_52 : decode cX11_clue 52 = .ok (.aload_n 0, 1) := by decide +kernel
theorem dX11_clue_53 : decode cX11_clue 53 = .ok (.getfield 10, 3) := by decide +kernel
theorem dX11_clue_56 : decode cX11_clue 56 = .ok (.getfield 310, 3) := by decide +kernel
theorem dX11_clue_59 : decode cX11_clue 59 = .ok (.aload_n 0, 1) := by decide +kernel
theorem dX11_clue_60 : decode cX11_clue 60 = .ok (.getfield 10, 3) := by decide +kernel
theorem dX11_clue_63 : decode cX11_clue 63 = .ok (.getfield 307, 3) := by decide +kernel
theorem dX11_clue_66 : decode cX11_clue 66 = .ok (.iload_n 1, 1) := by decide +kernel
theorem dX11_clue_67 : decode cX11_clue 67 = .ok (.iastore, 1) := by decide +kernel
theorem dX11_clue_68 : decode cX11_clue 68 = .ok (.aload_n 0, 1) := by decide +kernel
theorem dX11_clue_69 : decode cX11_clue 69 = .ok (.getfield 10, 3) := by decide +kernel
theorem dX11_clue_72 : decode cX11_clue 72 = .ok (.getfield 313, 3) := by decide +kernel
theorem dX11_clue_75 : decode cX11_clue 75 = .ok (.aload_n 0, 1) := by decide +kernel
theorem dX11_clue_76 : decode cX11_clue 76 = .ok (.getfield 10, 3) := by decide +kernel
theorem dX11_clue_79 : decode cX11_clue 79 = .ok (.getfield 307, 3) := by decide +kernel
theorem dX11_clue_82 : decode cX11_clue 82 = .ok (.iload_n 2, 1) := by decide +kernel
theorem dX11_clue_83 : decode cX11_clue 83 = .ok (.iastore, 1) := by decide +kernel
theorem dX11_clue_84 : decode cX11_clue 84 = .ok (.aload_n 0, 1) := by decide +kernel
theorem dX11_clue_85 : decode cX11_clue 85 = .ok (.getfield 10, 3) := by decide +kernel
theorem dX11_clue_88 : decode cX11_clue 88 = .ok (.dup, 1) := by decide +kernel
theorem dX11_clue_89 : decode cX11_clue 89 = .ok (.getfield 307, 3) := by decide +kernel
theorem dX11_clue_92 : decode cX11_clue 92 = .ok (.iconst 1, 1) := by decide +kernel
theorem dX11_clue_93 : decode cX11_clue 93 = .ok (.iadd, 1) := by decide +kernel
theorem dX11_clue_94 : decode cX11_clue 94 = .ok (.putfield 307, 3) := by decide +kernel
theorem dX11_clue_97 : decode cX11_clue 97 = .ok (.aload_n 0, 1) := by decide +kernel
theorem dX11_clue_98 : decode cX11_clue 98 = .ok (.aload_n 0, 1) := by decide +kernel
theorem dX11_clue_99 : decode cX11_clue 99 = .ok (.getfield 10, 3) := by decide +kernel
theorem dX11_clue_102 : decode cX11_clue 102 = .ok (.getfield 307, 3) := by decide +kernel
theorem dX11_clue_105 : decode cX11_clue 105 = .ok (.invokevirtual 120, 3) := by decide +kernel
theorem dX11_clue_108 : decode cX11_clue 108 = .ok (.ireturn, 1) := by decide +kernel
theorem dX11_forget_0 : decode cX11_forget 0 = .ok (.aload_n 0, 1) := by decide +kernel
theorem dX11_forget_1 : decode cX11_forget 1 = .ok (.getfield 10, 3) := by decide +kernel
theorem dX11_forget_4 : decode cX11_forget 4 = .ok (.getfield 307, 3) := by decide +kernel
theorem dX11_forget_7 : decode cX11_forget 7 = .ok (.istore_n 1, 1) := by decide +kernel
theorem dX11_forget_8 : decode cX11_forget 8 = .ok (.aload_n 0, 1) := by decide +kernel
theorem dX11_forget_9 : decode cX11_forget 9 = .ok (.getfield 10, 3) := by decide +kernel
theorem dX11_forget_12 : decode cX11_forget 12 = .ok (.iconst 0, 1) := by decide +kernel
theorem dX11_forget_13 : decode cX11_forget 13 = .ok (.putfield 307, 3) := by decide +kernel
theorem dX11_forget_16 : decode cX11_forget 16 = .ok (.iload_n 1, 1) := by decide +kernel
theorem dX11_forget_17 : decode cX11_forget 17 = .ok (.ireturn, 1) := by decide +kernel
theorem dX11_who_0 : decode cX11_who 0 = .ok (.aload_n 0, 1) := by decide +kernel
theorem dX11_who_1 : decode cX11_who 1 = .ok (.getfield 10, 3) := by decide +kernel
theorem dX11_who_4 : decode cX11_who 4 = .ok (.invokevirtual 316, 3) := by decide +kernel
theorem dX11_who_7 : decode cX11_who 7 = .ok (.ireturn, 1) := by decide +kernel
theorem dX11_look_0 : decode cX11_look 0 = .ok (.aload_n 0, 1) := by decide +kernel
theorem dX11_look_1 : decode cX11_look 1 = .ok (.getfield 10, 3) := by decide +kernel
theorem dX11_look_4 : decode cX11_look 4 = .ok (.invokevirtual 316, 3) := by decide +kernel
theorem dX11_look_7 : decode cX11_look 7 = .ok (.istore_n 2, 1) := by decide +kernel
theorem dX11_look_8 : decode cX11_look 8 = .ok (.iload_n 2, 1) := by decide +kernel
theorem dX11_look_9 : decode cX11_look 9 = .ok (.ifCond .eq 12, 3) := by decide +kernel
theorem dX11_look_12 : decode cX11_look 12 = .ok (.iload_n 1, 1) := by decide +kernel
theorem dX11_look_13 : decode cX11_look 13 = .ok (.ifCond .eq 10, 3) := by decide +kernel
theorem dX11_look_16 : decode cX11_look 16 = .ok (.iload_n 1, 1) := by decide +kernel
theorem dX11_look_17 : decode cX11_look 17 = .ok (.iconst 1, 1) := by decide +kernel
theorem dX11_look_18 : decode cX11_look 18 = .ok (.if_icmp .eq 5, 3) := by decide +kernel
theorem dX11_look_21 : decode cX11_look 21 = .ok (.iconst (-1), 1) := by decide +kernel
theorem dX11_look_22 : decode cX11_look 22 = .ok (.ireturn, 1) := by decide +kernel
theorem dX11_look_23 : decode cX11_look 23 = .ok (.iconst (-1), 1) := by decide +kernel
theorem dX11_look_24 : decode cX11_look 24 = .ok (.istore_n 3, 1) := by decide +kernel
theorem dX11_look_25 : decode cX11_look 25 = .ok (.bipush 9, 2) := by decide +kernel
theorem dX11_look_27 : decode cX11_look 27 = .ok (.istore 4, 2) := by decide +kernel
theorem dX11_look_29 : decode cX11_look 29 = .ok (.iconst 0, 1) := by decide +kernel
theorem dX11_look_30 : decode cX11_look 30 = .ok (.istore 5, 2) := by decide +kernel
theorem dX11_look_32 : decode cX11_look 32 = .ok (.iload 5, 2) := by decide +kernel
theorem dX11_look_34 : decode cX11_look 34 = .ok (.aload_n 0, 1) := by decide +kernel
theorem dX11_look_35 : decode cX11_look 35 = .ok (.getfield 10, 3) := by decide +kernel
theorem dX11_look_38 : decode cX11_look 38 = .ok (.getfield 110, 3) := by decide +kernel
theorem dX11_look_41 : decode cX11_look 41 = .ok (.if_icmp .ge 35, 3) := by decide +kernel
theorem dX11_look_44 : decode cX11_look 44 = .ok (.aload_n 0, 1) := by decide +kernel
theorem dX11_look_45 : decode cX11_look 45 = .ok (.getfield 10, 3) := by decide +kernel
theorem dX11_look_48 : decode cX11_look 48 = .ok (.iload_n 2, 1) := by decide +kernel
theorem dX11_look_49 : decode cX11_look 49 = .ok (.iload 5, 2) := by decide +kernel
theorem dX11_look_51 : decode cX11_look 51 = .ok (.invokevirtual 320, 3) := by decide +kernel
theorem dX11_look_54 : decode cX11_look 54 = .ok (.istore 6, 2) := by decide +kernel
theorem dX11_look_56 : decode cX11_look 56 = .ok (.iload 6, 2) := by decide +kernel
theorem dX11_look_58 : decode cX11_look 58 = .ok (.iload 4, 2) := by decide +kernel
theorem dX11_look_60 : decode cX11_look 60 = .ok (.if_icmp .ge 10, 3) := by decide +kernel
theorem dX11_look_63 : decode cX11_look 63 = .ok (.iload 6, 2) := by decide +kernel
theorem dX11_look_65 : decode cX11_look 65 = .ok (.istore 4, 2) := by decide +kernel
theorem dX11_look_67 : decode cX11_look 67 = .ok (.iload 5, 2) := by decide +kernel
theorem dX11_look_69 : decode cX11_look 69 = .ok (.istore_n 3, 1) := by decide +kernel
theorem dX11_look_70 : decode cX11_look 70 = .ok (.iinc 5 1, 3) := by decide +kernel
theorem dX11_look_73 : decode cX11_look 73 = .ok (.goto (-41), 3) := by decide +kernel
theorem dX11_look_76 : decode cX11_look 76 = .ok (.iload_n 3, 1) := by decide +kernel
theorem dX11_look_77 : decode cX11_look 77 = .ok (.iconst (-1), 1) := by decide +kernel
theorem dX11_look_78 : decode cX11_look 78 = .ok (.if_icmp .eq 7, 3) := by decide +kernel
theorem dX11_look_81 : decode cX11_look 81 = .ok (.iload_n 1, 1) := by decide +kernel
theorem dX11_look_82 : decode cX11_look 82 = .ok (.ifCond .ne 7, 3) := by decide +kernel
theorem dX11_look_85 : decode cX11_look 85 = .ok (.iload_n 3, 1) := by decide +kernel
theorem dX11_look_86 : decode cX11_look 86 = .ok (.goto 5, 3) := by decide +kernel
theorem dX11_look_89 : decode cX11_look 89 = .ok (.iload 4, 2) := by decide +kernel
theorem dX11_look_91 : decode cX11_look 91 = .ok (.ireturn, 1) := by decide +kernel
theorem dX11_amend_0 : decode cX11_amend 0 = .ok (.aload_n 0, 1) := by decide +kernel
theorem dX11_amend_1 : decode cX11_amend 1 = .ok (.getfield 10, 3) := by decide +kernel
theorem dX11_amend_4 : decode cX11_amend 4 = .ok (.iload_n 1, 1) := by decide +kernel
theorem dX11_amend_5 : decode cX11_amend 5 = .ok (.invokevirtual 123, 3) := by decide +kernel
theorem dX11_amend_8 : decode cX11_amend 8 = .ok (.ifCond .eq 12, 3) := by decide +kernel
theorem dX11_amend_11 : decode cX11_amend 11 = .ok (.iload_n 2, 1) := by decide +kernel
theorem dX11_amend_12 : decode cX11_amend 12 = .ok (.ifCond .eq 10, 3) := by decide +kernel
theorem dX11_amend_15 : decode cX11_amend 15 = .ok (.iload_n 2, 1) := by decide +kernel
theorem dX11_amend_16 : decode cX11_amend 16 = .ok (.iconst 1, 1) := by decide +kernel
theorem dX11_amend_17 : decode cX11_amend 17 = .ok (.if_icmp .eq 5, 3) := by decide +kernel
theorem dX11_amend_20 : decode cX11_amend 20 = .ok (.iconst (-1), 1) := by decide +kernel
theorem dX11_amend_21 : decode cX11_amend 21 = .ok (.ireturn, 1) := by decide +kernel
theorem dX11_amend_22 : decode cX11_amend 22 = .ok (.aload_n 0, 1) := by decide +kernel
theorem dX11_amend_23 : decode cX11_amend 23 = .ok (.getfield 72, 3) := by decide +kernel
theorem dX11_amend_26 : decode cX11_amend 26 = .ok (.aload_n 0, 1) := by decide +kernel
theorem dX11_amend_27 : decode cX11_amend 27 = .ok (.getfield 10, 3) := by decide +kernel
theorem dX11_amend_30 : decode cX11_amend 30 = .ok (.iload_n 1, 1) := by decide +kernel
theorem dX11_amend_31 : decode cX11_amend 31 = .ok (.invokevirtual 323, 3) := by decide +kernel
theorem dX11_amend_34 : decode cX11_amend 34 = .ok (.istore_n 3, 1) := by decide +kernel
theorem dX11_amend_35 : decode cX11_amend 35 = .ok (.iload_n 2, 1) := by decide +kernel
theorem dX11_amend_36 : decode cX11_amend 36 = .ok (.ifCond .ne 10, 3) := by decide +kernel
theorem dX11_amend_39 : decode cX11_amend 39 = .ok (.iload_n 3, 1) := by decide +kernel
theorem dX11_amend_40 : decode cX11_amend 40 = .ok (.invokestatic 327, 3) := by decide +kernel
theorem dX11_amend_43 : decode cX11_amend 43 = .ok (.goto 4, 3) := by decide +kernel
theorem dX11_amend_46 : decode cX11_amend 46 = .ok (.iload_n 3, 1) := by decide +kernel
theorem dX11_amend_47 : decode cX11_amend 47 = .ok (.ireturn, 1) := by decide +kernel
theorem dX11_given_0 : decode cX11_given 0 = .ok (.aload_n 0, 1) := by decide +kernel
theorem dX11_given_1 : decode cX11_given 1 = .ok (.getfield 10, 3) := by decide +kernel
theorem dX11_given_4 : decode cX11_given 4 = .ok (.iload_n 1, 1) := by decide +kernel
theorem dX11_given_5 : decode cX11_given 5 = .ok (.invokevirtual 123, 3) := by decide +kernel
theorem dX11_given_8 : decode cX11_given 8 = .ok (.ifCond .eq 23, 3) := by decide +kernel
theorem dX11_given_11 : decode cX11_given 11 = .ok (.aload_n 0, 1) := by decide +kernel
theorem dX11_given_12 : decode cX11_given 12 = .ok (.getfield 10, 3) := by decide +kernel
theorem dX11_given_15 : decode cX11_given 15 = .ok (.iload_n 3, 1) := by decide +kernel
theorem dX11_given_16 : decode cX11_given 16 = .ok (.invokevirtual 159, 3) := by decide +kernel
theorem dX11_given_19 : decode cX11_given 19 = .ok (.ifCond .eq 12, 3) := by decide +kernel
theorem dX11_given_22 : decode cX11_given 22 = .ok (.iload_n 2, 1) := by decide +kernel
theorem dX11_given_23 : decode cX11_given 23 = .ok (.bipush 99, 2) := by decide +kernel
theorem dX11_given_25 : decode cX11_given 25 = .ok (.invokestatic 102, 3) := by decide +kernel
theorem dX11_given_28 : decode cX11_given 28 = .ok (.ifCond .ne 5, 3) := by decide +kernel
theorem dX11_given_31 : decode cX11_given 31 = .ok (.iconst (-1), 1) := by decide +kernel
theorem dX11_given_32 : decode cX11_given 32 = .ok (.ireturn, 1) := by decide +kernel
theorem dX11_given_33 : decode cX11_given 33 = .ok (.aload_n 0, 1) := by decide +kernel
theorem dX11_given_34 : decode cX11_given 34 = .ok (.getfield 72, 3) := by decide +kernel
theorem dX11_given_37 : decode cX11_given 37 = .ok (.aload_n 0, 1) := by decide +kernel
theorem dX11_given_38 : decode cX11_given 38 = .ok (.getfield 10, 3) := by decide +kernel
theorem dX11_given_41 : decode cX11_given 41 = .ok (.iload_n 1, 1) := by decide +kernel
theorem dX11_given_42 : decode cX11_given 42 = .ok (.iload_n 2, 1) := by decide +kernel
theorem dX11_given_43 : decode cX11_given 43 = .ok (.invokevirtual 332, 3) := by decide +kernel
theorem dX11_given_46 : decode cX11_given 46 = .ok (.aload_n 0, 1) := by decide +kernel
theorem dX11_given_47 : decode cX11_given 47 = .ok (.getfield 72, 3) := by decide +kernel
theorem dX11_given_50 : decode cX11_given 50 = .ok (.getfield 335, 3) := by decide +kernel
theorem dX11_given_53 : decode cX11_given 53 = .ok (.iload_n 3, 1) := by decide +kernel
theorem dX11_given_54 : decode cX11_given 54 = .ok (.iaload, 1) := by decide +kernel
theorem dX11_given_55 : decode cX11_given 55 = .ok (.ireturn, 1) := by decide +kernel
theorem dX11_keep_0 : decode cX11_keep 0 = .ok (.aload_n 0, 1) := by decide +kernel
theorem dX11_keep_1 : decode cX11_keep 1 = .ok (.getfield 10, 3) := by decide +kernel
theorem dX11_keep_4 : decode cX11_keep 4 = .ok (.iload_n 1, 1) := by decide +kernel
theorem dX11_keep_5 : decode cX11_keep 5 = .ok (.invokevirtual 123, 3) := by decide +kernel
theorem dX11_keep_8 : decode cX11_keep 8 = .ok (.ifCond .eq 23, 3) := by decide +kernel
theorem dX11_keep_11 : decode cX11_keep 11 = .ok (.iload_n 2, 1) := by decide +kernel
theorem dX11_keep_12 : decode cX11_keep 12 = .ok (.bipush 20, 2) := by decide +kernel
theorem dX11_keep_14 : decode cX11_keep 14 = .ok (.invokestatic 102, 3) := by decide +kernel
theorem dX11_keep_17 : decode cX11_keep 17 = .ok (.ifCond .eq 14, 3) := by decide +kernel
theorem dX11_keep_20 : decode cX11_keep 20 = .ok (.iload_n 3, 1) := by decide +kernel
theorem dX11_keep_21 : decode cX11_keep 21 = .ok (.iconst 1, 1) := by decide +kernel
theorem dX11_keep_22 : decode cX11_keep 22 = .ok (.if_icmp .lt 9, 3) := by decide +kernel
theorem dX11_keep_25 : decode cX11_keep 25 = .ok (.iload_n 3, 1) := by decide +kernel
theorem dX11_keep_26 : decode cX11_keep 26 = .ok (.bipush 8, 2) := by decide +kernel
theorem dX11_keep_28 : decode cX11_keep 28 = .ok (.if_icmp .le 5, 3) := by decide +kernel
theorem dX11_keep_31 : decode cX11_keep 31 = .ok (.iconst (-1), 1) := by decide +kernel
theorem dX11_keep_32 : decode cX11_keep 32 = .ok (.ireturn, 1) := by decide +kernel
theorem dX11_keep_33 : decode cX11_keep 33 = .ok (.iload 4, 2) := by decide +kernel
theorem dX11_keep_35 : decode cX11_keep 35 = .ok (.iconst (-1), 1) := by decide +kernel
theorem dX11_keep_36 : decode cX11_keep 36 = .ok (.if_icmp .lt 9, 3) := by decide +kernel
theorem dX11_keep_39 : decode cX11_keep 39 = .ok (.iload 4, 2) := by decide +kernel
theorem dX11_keep_41 : decode cX11_keep 41 = .ok (.iload_n 3, 1) := by decide +kernel
theorem dX11_keep_42 : decode cX11_keep 42 = .ok (.if_icmp .lt 5, 3) := by decide +kernel
theorem dX11_keep_45 : decode cX11_keep 45 = .ok (.iconst (-1), 1) := by decide +kernel
theorem dX11_keep_46 : decode cX11_keep 46 = .ok (.ireturn, 1) := by decide +kernel
theorem dX11_keep_47 : decode cX11_keep 47 = .ok (.iconst 0, 1) := by decide +kernel
theorem dX11_keep_48 : decode cX11_keep 48 = .ok (.istore 5, 2) := by decide +kernel
theorem dX11_keep_50 : decode cX11_keep 50 = .ok (.iload 5, 2) := by decide +kernel
theorem dX11_keep_52 : decode cX11_keep 52 = .ok (.iload_n 3, 1) := by decide +kernel
theorem dX11_keep_53 : decode cX11_keep 53 = .ok (.if_icmp .ge 44, 3) := by decide +kernel
theorem dX11_keep_56 : decode cX11_keep 56 = .ok (.aload_n 0, 1) := by decide +kernel
theorem dX11_keep_57 : decode cX11_keep 57 = .ok (.getfield 72, 3) := by decide +kernel
theorem dX11_keep_60 : decode cX11_keep 60 = .ok (.getfield 338, 3) := by decide +kernel
theorem dX11_keep_63 : decode cX11_keep 63 = .ok (.iload 5, 2) := by decide +kernel
theorem dX11_keep_65 : decode cX11_keep 65 = .ok (.aload_n 0, 1) := by decide +kernel
theorem dX11_keep_66 : decode cX11_keep 66 = .ok (.getfield 49, 3) := by decide +kernel
theorem dX11_keep_69 : decode cX11_keep 69 = .ok (.aload_n 0, 1) := by decide +kernel
theorem dX11_keep_70 : decode cX11_keep 70 = .ok (.getfield 10, 3) := by decide +kernel
theorem dX11_keep_73 : decode cX11_keep 73 = .ok (.iload_n 1, 1) := by decide +kernel
theorem dX11_keep_74 : decode cX11_keep 74 = .ok (.aload_n 0, 1) := by decide +kernel
theorem dX11_keep_75 : decode cX11_keep 75 = .ok (.getfield 10, 3) := by decide +kernel
theorem dX11_keep_78 : decode cX11_keep 78 = .ok (.getfield 133, 3) := by decide +kernel
theorem dX11_keep_81 : decode cX11_keep 81 = .ok (.getfield 145, 3) := by decide +kernel
theorem dX11_keep_84 : decode cX11_keep 84 = .ok (.iload 5, 2) := by decide +kernel
theorem dX11_keep_86 : decode cX11_keep 86 = .ok (.iadd, 1) := by decide +kernel
theorem dX11_keep_87 : decode cX11_keep 87 = .ok (.invokevirtual 148, 3) := by decide +kernel
theorem dX11_keep_90 : decode cX11_keep 90 = .ok (.iastore, 1) := by decide +kernel
theorem dX11_keep_91 : decode cX11_keep 91 = .ok (.iinc 5 1, 3) := by decide +kernel
theorem dX11_keep_94 : decode cX11_keep 94 = .ok (.goto (-44), 3) := by decide +kernel
theorem dX11_keep_97 : decode cX11_keep 97 = .ok (.aload_n 0, 1) := by decide +kernel
theorem dX11_keep_98 : decode cX11_keep 98 = .ok (.getfield 72, 3) := by decide +kernel
theorem dX11_keep_101 : decode cX11_keep 101 = .ok (.iload_n 2, 1) := by decide +kernel
theorem dX11_keep_102 : decode cX11_keep 102 = .ok (.iload_n 3, 1) := by decide +kernel
theorem dX11_keep_103 : decode cX11_keep 103 = .ok (.invokevirtual 341, 3) := by decide +kernel
theorem dX11_keep_106 : decode cX11_keep 106 = .ok (.istore 5, 2) := by decide +kernel
theorem dX11_keep_108 : decode cX11_keep 108 = .ok (.iload 4, 2) := by decide +kernel
theorem dX11_keep_110 : decode cX11_keep 110 = .ok (.iconst (-1), 1) := by decide +kernel
theorem dX11_keep_111 : decode cX11_keep 111 = .ok (.if_icmp .ne 8, 3) := by decide +kernel
theorem dX11_keep_114 : decode cX11_keep 114 = .ok (.iload 5, 2) := by decide +kernel
theorem dX11_keep_116 : decode cX11_keep 116 = .ok (.goto 13, 3) := by decide +kernel
theorem dX11_keep_119 : decode cX11_keep 119 = .ok (.aload_n 0, 1) := by decide +kernel
theorem dX11_keep_120 : decode cX11_keep 120 = .ok (.getfield 72, 3) := by decide +kernel
theorem dX11_keep_123 : decode cX11_keep 123 = .ok (.getfield 344, 3) := by decide +kernel
theorem dX11_keep_126 : decode cX11_keep 126 = .ok (.iload 4, 2) := by decide +kernel
theorem dX11_keep_128 : decode cX11_keep 128 = .ok (.iaload, 1) := by decide +kernel
theorem dX11_keep_129 : decode cX11_keep 129 = .ok (.ireturn, 1) := by decide +kernel
theorem dX11_chain_0 : decode cX11_chain 0 = .ok (.aload_n 0, 1) := by decide +kernel
theorem dX11_chain_1 : decode cX11_chain 1 = .ok (.getfield 10, 3) := by decide +kernel
theorem dX11_chain_4 : decode cX11_chain 4 = .ok (.iload_n 1, 1) := by decide +kernel
theorem dX11_chain_5 : decode cX11_chain 5 = .ok (.invokevirtual 159, 3) := by decide +kernel
theorem dX11_chain_8 : decode cX11_chain 8 = .ok (.ifCond .eq 30, 3) := by decide +kernel
theorem dX11_chain_11 : decode cX11_chain 11 = .ok (.aload_n 0, 1) := by decide +kernel
theorem dX11_chain_12 : decode cX11_chain 12 = .ok (.getfield 10, 3) := by decide +kernel
theorem dX11_chain_15 : decode cX11_chain 15 = .ok (.iload_n 2, 1) := by decide +kernel
theorem dX11_chain_16 : decode cX11_chain 16 = .ok (.invokevirtual 159, 3) := by decide +kernel
theorem dX11_chain_19 : decode cX11_chain 19 = .ok (.ifCond .eq 19, 3) := by decide +kernel
theorem dX11_chain_22 : decode cX11_chain 22 = .ok (.iload_n 1, 1) := by decide +kernel
theorem dX11_chain_23 : decode cX11_chain 23 = .ok (.iload_n 2, 1) := by decide +kernel
theorem dX11_chain_24 : decode cX11_chain 24 = .ok (.if_icmp .eq 14, 3) := by decide +kernel
theorem dX11_chain_27 : decode cX11_chain 27 = .ok (.aload_n 0, 1) := by decide +kernel
theorem dX11_chain_28 : decode cX11_chain 28 = .ok (.getfield 10, 3) := by decide +kernel
theorem dX11_chain_31 : decode cX11_chain 31 = .ok (.iload_n 3, 1) := by decide +kernel
theorem dX11_chain_32 : decode cX11_chain 32 = .ok (.invokevirtual 123, 3) := by decide +kernel
theorem dX11_chain_35 : decode cX11_chain 35 = .ok (.ifCond .ne 5, 3) := by decide +kernel
theorem dX11_chain_38 : decode cX11_chain 38 = .ok (.iconst (-1), 1) := by decide +kernel
theorem dX11_chain_39 : decode cX11_chain 39 = .ok (.ireturn, 1) := by decide +kernel
theorem dX11_chain_40 : decode cX11_chain 40 = .ok (.aload_n 0, 1) := by decide +kernel
theorem dX11_chain_41 : decode cX11_chain 41 = .ok (.getfield 10, 3) := by decide +kernel
theorem dX11_chain_44 : decode cX11_chain 44 = .ok (.iload_n 1, 1) := by decide +kernel
theorem dX11_chain_45 : decode cX11_chain 45 = .ok (.iload_n 3, 1) := by decide +kernel
theorem dX11_chain_46 : decode cX11_chain 46 = .ok (.invokevirtual 195, 3) := by decide +kernel
theorem dX11_chain_49 : decode cX11_chain 49 = .ok (.iconst 1, 1) := by decide +kernel
theorem dX11_chain_50 : decode cX11_chain 50 = .ok (.if_icmp .ge 5, 3) := by decide +kernel
theorem dX11_chain_53 : decode cX11_chain 53 = .ok (.iconst (-1), 1) := by decide +kernel
theorem dX11_chain_54 : decode cX11_chain 54 = .ok (.ireturn, 1) := by decide +kernel
theorem dX11_chain_55 : decode cX11_chain 55 = .ok (.aload_n 0, 1) := by decide +kernel
theorem dX11_chain_56 : decode cX11_chain 56 = .ok (.iload_n 3, 1) := by decide +kernel
theorem dX11_chain_57 : decode cX11_chain 57 = .ok (.invokevirtual 347, 3) := by decide +kernel
theorem dX11_chain_60 : decode cX11_chain 60 = .ok (.aload_n 0, 1) := by decide +kernel
theorem dX11_chain_61 : decode cX11_chain 61 = .ok (.getfield 65, 3) := by decide +kernel
theorem dX11_chain_64 : decode cX11_chain 64 = .ok (.iload_n 1, 1) := by decide +kernel
theorem dX11_chain_65 : decode cX11_chain 65 = .ok (.iload_n 2, 1) := by decide +kernel
theorem dX11_chain_66 : decode cX11_chain 66 = .ok (.aload_n 0, 1) := by decide +kernel
theorem dX11_chain_67 : decode cX11_chain 67 = .ok (.getfield 10, 3) := by decide +kernel
theorem dX11_chain_70 : decode cX11_chain 70 = .ok (.getfield 152, 3) := by decide +kernel
theorem dX11_chain_73 : decode cX11_chain 73 = .ok (.invokevirtual 350, 3) := by decide +kernel
theorem dX11_chain_76 : decode cX11_chain 76 = .ok (.istore 5, 2) := by decide +kernel
theorem dX11_chain_78 : decode cX11_chain 78 = .ok (.iload 5, 2) := by decide +kernel
theorem dX11_chain_80 : decode cX11_chain 80 = .ok (.iconst (-1), 1) := by decide +kernel
theorem dX11_chain_81 : decode cX11_chain 81 = .ok (.if_icmp .eq 9, 3) := by decide +kernel
theorem dX11_chain_84 : decode cX11_chain 84 = .ok (.iload 4, 2) := by decide +kernel
theorem dX11_chain_86 : decode cX11_chain 86 = .ok (.iconst (-1), 1) := by decide +kernel
theorem dX11_chain_87 : decode cX11_chain 87 = .ok (.if_icmp .ne 6, 3) := by decide +kernel
theorem dX11_chain_90 : decode cX11_chain 90 = .ok (.iload 5, 2) := by decide +kernel
theorem dX11_chain_92 : decode cX11_chain 92 = .ok (.ireturn, 1) := by decide +kernel
theorem dX11_chain_93 : decode cX11_chain 93 = .ok (.iload 4, 2) := by decide +kernel
theorem dX11_chain_95 : decode cX11_chain 95 = .ok (.ifCond .lt 28, 3) := by decide +kernel
theorem dX11_chain_98 : decode cX11_chain 98 = .ok (.iload 4, 2) := by decide +kernel
theorem dX11_chain_100 : decode cX11_chain 100 = .ok (.aload_n 0, 1) := by decide +kernel
theorem dX11_chain_101 : decode cX11_chain 101 = .ok (.getfield 65, 3) := by decide +kernel
theorem dX11_chain_104 : decode cX11_chain 104 = .ok (.getfield 353, 3) := by decide +kernel
theorem dX11_chain_107 : decode cX11_chain 107 = .ok (.if_icmp .ge 16, 3) := by decide +kernel
theorem dX11_chain_110 : decode cX11_chain 110 = .ok (.aload_n 0, 1) := by decide +kernel
theorem dX11_chain_111 : decode cX11_chain 111 = .ok (.getfield 65, 3) := by decide +kernel
theorem dX11_chain_114 : decode cX11_chain 114 = .ok (.getfield 356, 3) := by decide +kernel
theorem dX11_chain_117 : decode cX11_chain 117 = .ok (.iload 4, 2) := by decide +kernel
theorem dX11_chain_119 : decode cX11_chain 119 = .ok (.iaload, 1) := by decide +kernel
theorem dX11_chain_120 : decode cX11_chain 120 = .ok (.goto 4, 3) := by decide +kernel
theorem dX11_chain_123 : decode cX11_chain 123 = .ok (.iconst (-1), 1) := by decide +kernel
theorem dX11_chain_124 : decode cX11_chain 124 = .ok (.ireturn, 1) := by decide +kernel
theorem dX11_likely_0 : decode cX11_likely 0 = .ok (.iload_n 1, 1) := by decide +kernel
theorem dX11_likely_1 : decode cX11_likely 1 = .ok (.bipush 20, 2) := by decide +kernel
theorem dX11_likely_3 : decode cX11_likely 3 = .ok (.invokestatic 102, 3) := by decide +kernel
theorem dX11_likely_6 : decode cX11_likely 6 = .ok (.ifCond .eq 12, 3) := by decide +kernel
theorem dX11_likely_9 : decode cX11_likely 9 = .ok (.iload_n 2, 1) := by decide +kernel
theorem dX11_likely_10 : decode cX11_likely 10 = .ok (.bipush 60, 2) := by decide +kernel
theorem dX11_likely_12 : decode cX11_likely 12 = .ok (.invokestatic 102, 3) := by decide +kernel
theorem dX11_likely_15 : decode cX11_likely 15 = .ok (.ifCond .ne 7, 3) := by decide +kernel
theorem dX11_likely_18 : decode cX11_likely 18 = .ok (.ldc2_w 359, 3) := by decide +kernel
theorem dX11_likely_21 : decode cX11_likely 21 = .ok (.lreturn, 1) := by decide +kernel
theorem dX11_likely_22 : decode cX11_likely 22 = .ok (.aload_n 0, 1) := by decide +kernel
theorem dX11_likely_23 : decode cX11_likely 23 = .ok (.getfield 72, 3) := by decide +kernel
theorem dX11_likely_26 : decode cX11_likely 26 = .ok (.iload_n 1, 1) := by decide +kernel
theorem dX11_likely_27 : decode cX11_likely 27 = .ok (.iload_n 2, 1) := by decide +kernel
theorem dX11_likely_28 : decode cX11_likely 28 = .ok (.aload_n 0, 1) := by decide +kernel
theorem dX11_likely_29 : decode cX11_likely 29 = .ok (.getfield 10, 3) := by decide +kernel
theorem dX11_likely_32 : decode cX11_likely 32 = .ok (.getfield 217, 3) := by decide +kernel
theorem dX11_likely_35 : decode cX11_likely 35 = .ok (.invokevirtual 361, 3) := by decide +kernel
theorem dX11_likely_38 : decode cX11_likely 38 = .ok (.lreturn, 1) := by decide +kernel
theorem dX11_generations_0 : decode cX11_generations 0 = .ok (.iload_n 1, 1) := by decide +kernel
theorem dX11_generations_1 : decode cX11_generations 1 = .ok (.ldc_w 365, 3) := by decide +kernel
theorem dX11_generations_4 : decode cX11_generations 4 = .ok (.invokestatic 102, 3) := by decide +kernel
theorem dX11_generations_7 : decode cX11_generations 7 = .ok (.ifCond .eq 14, 3) := by decide +kernel
theorem dX11_generations_10 : decode cX11_generations 10 = .ok (.iload_n 2, 1) := by decide +kernel
theorem dX11_generations_11 : decode cX11_generations 11 = .ok (.iconst 1, 1) := by decide +kernel
theorem dX11_generations_12 : decode cX11_generations 12 = .ok (.if_icmp .lt 9, 3) := by decide +kernel
theorem dX11_generations_15 : decode cX11_generations 15 = .ok (.iload_n 2, 1) := by decide +kernel
theorem dX11_generations_16 : decode cX11_generations 16 = .ok (.bipush 60, 2) := by decide +kernel
theorem dX11_generations_18 : decode cX11_generations 18 = .ok (.if_icmp .le 9, 3) := by decide +kernel
theorem dX11_generations_21 : decode cX11_generations 21 = .ok (.aload_n 0, 1) := by decide +kernel
theorem dX11_generations_22 : decode cX11_generations 22 = .ok (.iconst (-1), 1) := by decide +kernel
theorem dX11_generations_23 : decode cX11_generations 23 = .ok (.invokevirtual 106, 3) := by decide +kernel
theorem dX11_generations_26 : decode cX11_generations 26 = .ok (.ireturn, 1) := by decide +kernel
theorem dX11_generations_27 : decode cX11_generations 27 = .ok (.aload_n 0, 1) := by decide +kernel
theorem dX11_generations_28 : decode cX11_generations 28 = .ok (.getfield 10, 3) := by decide +kernel
theorem dX11_generations_31 : decode cX11_generations 31 = .ok (.getfield 152, 3) := by decide +kernel
theorem dX11_generations_34 : decode cX11_generations 34 = .ok (.ifCond .eq 13, 3) := by decide +kernel
theorem dX11_generations_37 : decode cX11_generations 37 = .ok (.aload_n 0, 1) := by decide +kernel
theorem dX11_generations_38 : decode cX11_generations 38 = .ok (.getfield 10, 3) := by decide +kernel
theorem dX11_generations_41 : decode cX11_generations 41 = .ok (.getfield 110, 3) := by decide +kernel
theorem dX11_generations_44 : decode cX11_generations 44 = .ok (.ifCond .ne 10, 3) := by decide +kernel
theorem dX11_generations_47 : decode cX11_generations 47 = .ok (.aload_n 0, 1) := by decide +kernel
theorem dX11_generations_48 : decode cX11_generations 48 = .ok (.bipush (-3), 2) := by decide +kernel
theorem dX11_generations_50 : decode cX11_generations 50 = .ok (.invokevirtual 106, 3) := by decide +kernel
theorem dX11_generations_53 : decode cX11_generations 53 = .ok (.ireturn, 1) := by decide +kernel
theorem dX11_generations_54 : decode cX11_generations 54 = .ok (.aload_n 0, 1) := by decide +kernel
theorem dX11_generations_55 : decode cX11_generations 55 = .ok (.getfield 16, 3) := by decide +kernel
theorem dX11_generations_58 : decode cX11_generations 58 = .ok (.aload_n 0, 1) := by decide +kernel
theorem dX11_generations_59 : decode cX11_generations 59 = .ok (.getfield 10, 3) := by decide +kernel
theorem dX11_generations_62 : decode cX11_generations 62 = .ok (.invokevirtual 253, 3) := by decide +kernel
theorem dX11_generations_65 : decode cX11_generations 65 = .ok (.aload_n 0, 1) := by decide +kernel
theorem dX11_generations_66 : decode cX11_generations 66 = .ok (.getfield 58, 3) := by decide +kernel
theorem dX11_generations_69 : decode cX11_generations 69 = .ok (.aload_n 0, 1) := by decide +kernel
theorem dX11_generations_70 : decode cX11_generations 70 = .ok (.getfield 16, 3) := by decide +kernel
theorem dX11_generations_73 : decode cX11_generations 73 = .ok (.iload_n 1, 1) := by decide +kernel
theorem dX11_generations_74 : decode cX11_generations 74 = .ok (.iload_n 2, 1) := by decide +kernel
theorem dX11_generations_75 : decode cX11_generations 75 = .ok (.invokevirtual 366, 3) := by decide +kernel
theorem dX11_generations_78 : decode cX11_generations 78 = .ok (.istore_n 3, 1) := by decide +kernel
theorem dX11_generations_79 : decode cX11_generations 79 = .ok (.aload_n 0, 1) := by decide +kernel
theorem dX11_generations_80 : decode cX11_generations 80 = .ok (.aload_n 0, 1) := by decide +kernel
theorem dX11_generations_81 : decode cX11_generations 81 = .ok (.getfield 16, 3) := by decide +kernel
theorem dX11_generations_84 : decode cX11_generations 84 = .ok (.getfield 152, 3) := by decide +kernel
theorem dX11_generations_87 : decode cX11_generations 87 = .ok (.putfield 80, 3) := by decide +kernel
theorem dX11_generations_90 : decode cX11_generations 90 = .ok (.aload_n 0, 1) := by decide +kernel
theorem dX11_generations_91 : decode cX11_generations 91 = .ok (.aload_n 0, 1) := by decide +kernel
theorem dX11_generations_92 : decode cX11_generations 92 = .ok (.getfield 16, 3) := by decide +kernel
theorem dX11_generations_95 : decode cX11_generations 95 = .ok (.getfield 110, 3) := by decide +kernel
theorem dX11_generations_98 : decode cX11_generations 98 = .ok (.putfield 84, 3) := by decide +kernel
theorem dX11_generations_101 : decode cX11_generations 101 = .ok (.aload_n 0, 1) := by decide +kernel
theorem dX11_generations_102 : decode cX11_generations 102 = .ok (.getfield 16, 3) := by decide +kernel
theorem dX11_generations_105 : decode cX11_generations 105 = .ok (.getfield 133, 3) := by decide +kernel
theorem dX11_generations_108 : decode cX11_generations 108 = .ok (.getfield 189, 3) := by decide +kernel
theorem dX11_generations_111 : decode cX11_generations 111 = .ok (.iconst 0, 1) := by decide +kernel
theorem dX11_generations_112 : decode cX11_generations 112 = .ok (.aload_n 0, 1) := by decide +kernel
theorem dX11_generations_113 : decode cX11_generations 113 = .ok (.getfield 76, 3) := by decide +kernel
theorem dX11_generations_116 : decode cX11_generations 116 = .ok (.iconst 0, 1) := by decide +kernel
theorem dX11_generations_117 : decode cX11_generations 117 = .ok (.aload_n 0, 1) := by decide +kernel
theorem dX11_generations_118 : decode cX11_generations 118 = .ok (.getfield 76, 3) := by decide +kernel
theorem dX11_generations_121 : decode cX11_generations 121 = .ok (.arraylength, 1) := by decide +kernel
theorem dX11_generations_122 : decode cX11_generations 122 = .ok (.invokestatic 369, 3) := by decide +kernel
theorem dX11_generations_125 : decode cX11_generations 125 = .ok (.aload_n 0, 1) := by decide +kernel
theorem dX11_generations_126 : decode cX11_generations 126 = .ok (.iload_n 3, 1) := by decide +kernel
theorem dX11_generations_127 : decode cX11_generations 127 = .ok (.invokevirtual 120, 3) := by decide +kernel
theorem dX11_generations_130 : decode cX11_generations 130 = .ok (.ireturn, 1) := by decide +kernel
theorem dX11_drawn_0 : decode cX11_drawn 0 = .ok (.iload_n 1, 1) := by decide +kernel
theorem dX11_drawn_1 : decode cX11_drawn 1 = .ok (.ifCond .lt 23, 3) := by decide +kernel
theorem dX11_drawn_4 : decode cX11_drawn 4 = .ok (.iload_n 1, 1) := by decide +kernel
theorem dX11_drawn_5 : decode cX11_drawn 5 = .ok (.aload_n 0, 1) := by decide +kernel
theorem dX11_drawn_6 : decode cX11_drawn 6 = .ok (.getfield 80, 3) := by decide +kernel
theorem dX11_drawn_9 : decode cX11_drawn 9 = .ok (.if_icmp .ge 15, 3) := by decide +kernel
theorem dX11_drawn_12 : decode cX11_drawn 12 = .ok (.iload_n 2, 1) := by decide +kernel
theorem dX11_drawn_13 : decode cX11_drawn 13 = .ok (.ifCond .lt 11, 3) := by decide +kernel
theorem dX11_drawn_16 : decode cX11_drawn 16 = .ok (.iload_n 2, 1) := by decide +kernel
theorem dX11_drawn_17 : decode cX11_drawn 17 = .ok (.aload_n 0, 1) := by decide +kernel
theorem dX11_drawn_18 : decode cX11_drawn 18 = .ok (.getfield 84, 3) := by decide +kernel
theorem dX11_drawn_21 : decode cX11_drawn 21 = .ok (.if_icmp .lt 5, 3) := by decide +kernel
theorem dX11_drawn_24 : decode cX11_drawn 24 = .ok (.iconst (-1), 1) := by decide +kernel
theorem dX11_drawn_25 : decode cX11_drawn 25 = .ok (.ireturn, 1) := by decide +kernel
theorem dX11_drawn_26 : decode cX11_drawn 26 = .ok (.aload_n 0, 1) := by decide +kernel
theorem dX11_drawn_27 : decode cX11_drawn 27 = .ok (.getfield 76, 3) := by decide +kernel
theorem dX11_drawn_30 : decode cX11_drawn 30 = .ok (.iload_n 1, 1) := by decide +kernel
theorem dX11_drawn_31 : decode cX11_drawn 31 = .ok (.iload_n 2, 1) := by decide +kernel
theorem dX11_drawn_32 : decode cX11_drawn 32 = .ok (.invokestatic 192, 3) := by decide +kernel
theorem dX11_drawn_35 : decode cX11_drawn 35 = .ok (.iaload, 1) := by decide +kernel
theorem dX11_drawn_36 : decode cX11_drawn 36 = .ok (.ireturn, 1) := by decide +kernel
theorem dX11_image_0 : decode cX11_image 0 = .ok (.iload_n 1, 1) := by decide +kernel
theorem dX11_image_1 : decode cX11_image 1 = .ok (.iconst 1, 1) := by decide +kernel
theorem dX11_image_2 : decode cX11_image 2 = .ok (.invokestatic 102, 3) := by decide +kernel
theorem dX11_image_5 : decode cX11_image 5 = .ok (.ifCond .ne 9, 3) := by decide +kernel
theorem dX11_image_8 : decode cX11_image 8 = .ok (.aload_n 0, 1) := by decide +kernel
theorem dX11_image_9 : decode cX11_image 9 = .ok (.iconst (-1), 1) := by decide +kernel
theorem dX11_image_10 : decode cX11_image 10 = .ok (.invokevirtual 106, 3) := by decide +kernel
theorem dX11_image_13 : decode cX11_image 13 = .ok (.ireturn, 1) := by decide +kernel
theorem dX11_image_14 : decode cX11_image 14 = .ok (.aload_n 0, 1) := by decide +kernel
theorem dX11_image_15 : decode cX11_image 15 = .ok (.getfield 19, 3) := by decide +kernel
theorem dX11_image_18 : decode cX11_image 18 = .ok (.iload_n 1, 1) := by decide +kernel
theorem dX11_image_19 : decode cX11_image 19 = .ok (.aaload, 1) := by decide +kernel
theorem dX11_image_20 : decode cX11_image 20 = .ok (.ifnonnull 16, 3) := by decide +kernel
theorem dX11_image_23 : decode cX11_image 23 = .ok (.aload_n 0, 1) := by decide +kernel
theorem dX11_image_24 : decode cX11_image 24 = .ok (.getfield 19, 3) := by decide +kernel
theorem dX11_image_27 : decode cX11_image 27 = .ok (.iload_n 1, 1) := by decide +kernel
theorem dX11_image_28 : decode cX11_image 28 = .ok (.new 7, 3) := by decide +kernel
theorem dX11_image_31 : decode cX11_image 31 = .ok (.dup, 1) := by decide +kernel
theorem dX11_image_32 : decode cX11_image 32 = .ok (.invokespecial 9, 3) := by decide +kernel
theorem dX11_image_35 : decode cX11_image 35 = .ok (.aastore, 1) := by decide +kernel
theorem dX11_image_36 : decode cX11_image 36 = .ok (.aload_n 0, 1) := by decide +kernel
theorem dX11_image_37 : decode cX11_image 37 = .ok (.getfield 19, 3) := by decide +kernel
theorem dX11_image_40 : decode cX11_image 40 = .ok (.iload_n 1, 1) := by decide +kernel
theorem dX11_image_41 : decode cX11_image 41 = .ok (.aaload, 1) := by decide +kernel
theorem dX11_image_42 : decode cX11_image 42 = .ok (.aload_n 0, 1) := by decide +kernel
theorem dX11_image_43 : decode cX11_image 43 = .ok (.getfield 10, 3) := by decide +kernel
theorem dX11_image_46 : decode cX11_image 46 = .ok (.invokevirtual 253, 3) := by decide +kernel
theorem dX11_image_49 : decode cX11_image 49 = .ok (.aload_n 0, 1) := by decide +kernel
theorem dX11_image_50 : decode cX11_image 50 = .ok (.iconst 0, 1) := by decide +kernel
theorem dX11_image_51 : decode cX11_image 51 = .ok (.invokevirtual 120, 3) := by decide +kernel
theorem dX11_image_54 : decode cX11_image 54 = .ok (.ireturn, 1) := by decide +kernel
theorem dX11_back_0 : decode cX11_back 0 = .ok (.iload_n 1, 1) := by decide +kernel
theorem dX11_back_1 : decode cX11_back 1 = .ok (.iconst 1, 1) := by decide +kernel
theorem dX11_back_2 : decode cX11_back 2 = .ok (.invokestatic 102, 3) := by decide +kernel
theorem dX11_back_5 : decode cX11_back 5 = .ok (.ifCond .ne 9, 3) := by decide +kernel
theorem dX11_back_8 : decode cX11_back 8 = .ok (.aload_n 0, 1) := by decide +kernel
theorem dX11_back_9 : decode cX11_back 9 = .ok (.iconst (-1), 1) := by decide +kernel
theorem dX11_back_10 : decode cX11_back 10 = .ok (.invokevirtual 106, 3) := by decide +kernel
theorem dX11_back_13 : decode cX11_back 13 = .ok (.ireturn, 1) := by decide +kernel
theorem dX11_back_14 : decode cX11_back 14 = .ok (.aload_n 0, 1) := by decide +kernel
theorem dX11_back_15 : decode cX11_back 15 = .ok (.getfield 19, 3) := by decide +kernel
theorem dX11_back_18 : decode cX11_back 18 = .ok (.iload_n 1, 1) := by decide +kernel
theorem dX11_back_19 : decode cX11_back 19 = .ok (.aaload, 1) := by decide +kernel
theorem dX11_back_20 : decode cX11_back 20 = .ok (.astore_n 2, 1) := by decide +kernel
theorem dX11_back_21 : decode cX11_back 21 = .ok (.aload_n 2, 1) := by decide +kernel
theorem dX11_back_22 : decode cX11_back 22 = .ok (.ifnonnull 10, 3) := by decide +kernel
theorem dX11_back_25 : decode cX11_back 25 = .ok (.aload_n 0, 1) := by decide +kernel
theorem dX11_back_26 : decode cX11_back 26 = .ok (.bipush (-2), 2) := by decide +kernel
theorem dX11_back_28 : decode cX11_back 28 = .ok (.invokevirtual 106, 3) := by decide +kernel
theorem dX11_back_31 : decode cX11_back 31 = .ok (.ireturn, 1) := by decide +kernel
theorem dX11_back_32 : decode cX11_back 32 = .ok (.aload_n 0, 1) := by decide +kernel
theorem dX11_back_33 : decode cX11_back 33 = .ok (.getfield 10, 3) := by decide +kernel
theorem dX11_back_36 : decode cX11_back 36 = .ok (.aload_n 2, 1) := by decide +kernel
theorem dX11_back_37 : decode cX11_back 37 = .ok (.invokevirtual 253, 3) := by decide +kernel
theorem dX11_back_40 : decode cX11_back 40 = .ok (.aload_n 0, 1) := by decide +kernel
theorem dX11_back_41 : decode cX11_back 41 = .ok (.getfield 26, 3) := by decide +kernel
theorem dX11_back_44 : decode cX11_back 44 = .ok (.invokevirtual 113, 3) := by decide +kernel
theorem dX11_back_47 : decode cX11_back 47 = .ok (.aload_n 0, 1) := by decide +kernel
theorem dX11_back_48 : decode cX11_back 48 = .ok (.iconst 0, 1) := by decide +kernel
theorem dX11_back_49 : decode cX11_back 49 = .ok (.invokevirtual 120, 3) := by decide +kernel
theorem dX11_back_52 : decode cX11_back 52 = .ok (.ireturn, 1) := by decide +kernel
theorem dX11_count_0 : decode cX11_count 0 = .ok (.iload_n 1, 1) := by decide +kernel
theorem dX11_count_1 : decode cX11_count 1 = .ok (.tableswitch 206 0 15 #[79, 87, 95, 103, 111, 119, 127, 135, 142, 149, 156, 163, 171, 179, 190, 198], 79) := by decide +kernel
theorem dX11_count_80 : decode cX11_count 80 = .ok (.aload_n 0, 1) := by decide +kernel
theorem dX11_count_81 : decode cX11_count 81 = .ok (.getfield 10, 3) := by decide +kernel
theorem dX11_count_84 : decode cX11_count 84 = .ok (.getfield 110, 3) := by decide +kernel
theorem dX11_count_87 : decode cX11_count 87 = .ok (.ireturn, 1) := by decide +kernel
theorem dX11_count_88 : decode cX11_count 88 = .ok (.aload_n 0, 1) := by decide +kernel
theorem dX11_count_89 : decode cX11_count 89 = .ok (.getfield 10, 3) := by decide +kernel
theorem dX11_count_92 : decode cX11_count 92 = .ok (.getfield 152, 3) := by decide +kernel
theorem dX11_count_95 : decode cX11_count 95 = .ok (.ireturn, 1) := by decide +kernel
theorem dX11_count_96 : decode cX11_count 96 = .ok (.aload_n 0, 1) := by decide +kernel
theorem dX11_count_97 : decode cX11_count 97 = .ok (.getfield 10, 3) := by decide +kernel
theorem dX11_count_100 : decode cX11_count 100 = .ok (.invokevirtual 375, 3) := by decide +kernel
theorem dX11_count_103 : decode cX11_count 103 = .ok (.ireturn, 1) := by decide +kernel
theorem dX11_count_104 : decode cX11_count 104 = .ok (.aload_n 0, 1) := by decide +kernel
theorem dX11_count_105 : decode cX11_count 105 = .ok (.getfield 10, 3) := by decide +kernel
theorem dX11_count_108 : decode cX11_count 108 = .ok (.getfield 307, 3) := by decide +kernel
theorem dX11_count_111 : decode cX11_count 111 = .ok (.ireturn, 1) := by decide +kernel
theorem dX11_count_112 : decode cX11_count 112 = .ok (.aload_n 0, 1) := by decide +kernel
theorem dX11_count_113 : decode cX11_count 113 = .ok (.getfield 10, 3) := by decide +kernel
theorem dX11_count_116 : decode cX11_count 116 = .ok (.getfield 233, 3) := by decide +kernel
theorem dX11_count_119 : decode cX11_count 119 = .ok (.ireturn, 1) := by decide +kernel
theorem dX11_count_120 : decode cX11_count 120 = .ok (.aload_n 0, 1) := by decide +kernel
theorem dX11_count_121 : decode cX11_count 121 = .ok (.getfield 26, 3) := by decide +kernel
theorem dX11_count_124 : decode cX11_count 124 = .ok (.getfield 378, 3) := by decide +kernel
theorem dX11_count_127 : decode cX11_count 127 = .ok (.ireturn, 1) := by decide +kernel
theorem dX11_count_128 : decode cX11_count 128 = .ok (.aload_n 0, 1) := by decide +kernel
theorem dX11_count_129 : decode cX11_count 129 = .ok (.getfield 33, 3) := by decide +kernel
theorem dX11_count_132 : decode cX11_count 132 = .ok (.getfield 223, 3) := by decide +kernel
theorem dX11_count_135 : decode cX11_count 135 = .ok (.ireturn, 1) := by decide +kernel
theorem dX11_count_136 : decode cX11_count 136 = .ok (.aload_n 0, 1) := by decide +kernel
theorem dX11_count_137 : decode cX11_count 137 = .ok (.getfield 96, 3) := by decide +kernel
theorem dX11_count_140 : decode cX11_count 140 = .ok (.iconst 1, 1) := by decide +kernel
theorem dX11_count_141 : decode cX11_count 141 = .ok (.iaload, 1) := by decide +kernel
theorem dX11_count_142 : decode cX11_count 142 = .ok (.ireturn, 1) := by decide +kernel
theorem dX11_count_143 : decode cX11_count 143 = .ok (.aload_n 0, 1) := by decide +kernel
theorem dX11_count_144 : decode cX11_count 144 = .ok (.getfield 96, 3) := by decide +kernel
theorem dX11_count_147 : decode cX11_count 147 = .ok (.iconst 2, 1) := by decide +kernel
theorem dX11_count_148 : decode cX11_count 148 = .ok (.iaload, 1) := by decide +kernel
theorem dX11_count_149 : decode cX11_count 149 = .ok (.ireturn, 1) := by decide +kernel
theorem dX11_count_150 : decode cX11_count 150 = .ok (.aload_n 0, 1) := by decide +kernel
theorem dX11_count_151 : decode cX11_count 151 = .ok (.getfield 96, 3) := by decide +kernel
theorem dX11_count_154 : decode cX11_count 154 = .ok (.iconst 3, 1) := by decide +kernel
theorem dX11_count_155 : decode cX11_count 155 = .ok (.iaload, 1) := by decide +kernel
theorem dX11_count_156 : decode cX11_count 156 = .ok (.ireturn, 1) := by decide +kernel
theorem dX11_count_157 : decode cX11_count 157 = .ok (.aload_n 0, 1) := by decide +kernel
theorem dX11_count_158 : decode cX11_count 158 = .ok (.getfield 96, 3) := by decide +kernel
theorem dX11_count_161 : decode cX11_count 161 = .ok (.iconst 5, 1) := by decide +kernel
theorem dX11_count_162 : decode cX11_count 162 = .ok (.iaload, 1) := by decide +kernel
theorem dX11_count_163 : decode cX11_count 163 = .ok (.ireturn, 1) := by decide +kernel
theorem dX11_count_164 : decode cX11_count 164 = .ok (.aload_n 0, 1) := by decide +kernel
theorem dX11_count_165 : decode cX11_count 165 = .ok (.getfield 96, 3) := by decide +kernel
theorem dX11_count_168 : decode cX11_count 168 = .ok (.bipush 6, 2) := by decide +kernel
theorem dX11_count_170 : decode cX11_count 170 = .ok (.iaload, 1) := by decide +kernel
theorem dX11_count_171 : decode cX11_count 171 = .ok (.ireturn, 1) := by decide +kernel
theorem dX11_count_172 : decode cX11_count 172 = .ok (.aload_n 0, 1) := by decide +kernel
theorem dX11_count_173 : decode cX11_count 173 = .ok (.getfield 10, 3) := by decide +kernel
theorem dX11_count_176 : decode cX11_count 176 = .ok (.getfield 264, 3) := by decide +kernel
theorem dX11_count_179 : decode cX11_count 179 = .ok (.ireturn, 1) := by decide +kernel
theorem dX11_count_180 : decode cX11_count 180 = .ok (.aload_n 0, 1) := by decide +kernel
theorem dX11_count_181 : decode cX11_count 181 = .ok (.getfield 10, 3) := by decide +kernel
theorem dX11_count_184 : decode cX11_count 184 = .ok (.getfield 133, 3) := by decide +kernel
theorem dX11_count_187 : decode cX11_count 187 = .ok (.getfield 145, 3) := by decide +kernel
theorem dX11_count_190 : decode cX11_count 190 = .ok (.ireturn, 1) := by decide +kernel
theorem dX11_count_191 : decode cX11_count 191 = .ok (.aload_n 0, 1) := by decide +kernel
theorem dX11_count_192 : decode cX11_count 192 = .ok (.getfield 10, 3) := by decide +kernel
theorem dX11_count_195 : decode cX11_count 195 = .ok (.getfield 217, 3) := by decide +kernel
theorem dX11_count_198 : decode cX11_count 198 = .ok (.ireturn, 1) := by decide +kernel
theorem dX11_count_199 : decode cX11_count 199 = .ok (.aload_n 0, 1) := by decide +kernel
theorem dX11_count_200 : decode cX11_count 200 = .ok (.getfield 10, 3) := by decide +kernel
theorem dX11_count_203 : decode cX11_count 203 = .ok (.getfield 220, 3) := by decide +kernel
theorem dX11_count_206 : decode cX11_count 206 = .ok (.ireturn, 1) := by decide +kernel
theorem dX11_count_207 : decode cX11_count 207 = .ok (.iconst (-1), 1) := by decide +kernel
theorem dX11_count_208 : decode cX11_count 208 = .ok (.ireturn, 1) := by decide +kernel
theorem dX11_status_0 : decode cX11_status 0 = .ok (.aload_n 0, 1) := by decide +kernel
theorem dX11_status_1 : decode cX11_status 1 = .ok (.getfield 99, 3) := by decide +kernel
theorem dX11_status_4 : decode cX11_status 4 = .ok (.ireturn, 1) := by decide +kernel
theorem dX11_refuse_0 : decode cX11_refuse 0 = .ok (.aload_n 0, 1) := by decide +kernel
theorem dX11_refuse_1 : decode cX11_refuse 1 = .ok (.iload_n 1, 1) := by decide +kernel
theorem dX11_refuse_2 : decode cX11_refuse 2 = .ok (.putfield 99, 3) := by decide +kernel
theorem dX11_refuse_5 : decode cX11_refuse 5 = .ok (.iload_n 1, 1) := by decide +kernel
theorem dX11_refuse_6 : decode cX11_refuse 6 = .ok (.ifCond .ge 24, 3) := by decide +kernel
theorem dX11_refuse_9 : decode cX11_refuse 9 = .ok (.iload_n 1, 1) := by decide +kernel
theorem dX11_refuse_10 : decode cX11_refuse 10 = .ok (.aload_n 0, 1) := by decide +kernel
theorem dX11_refuse_11 : decode cX11_refuse 11 = .ok (.getfield 96, 3) := by decide +kernel
theorem dX11_refuse_14 : decode cX11_refuse 14 = .ok (.arraylength, 1) := by decide +kernel
theorem dX11_refuse_15 : decode cX11_refuse 15 = .ok (.ineg, 1) := by decide +kernel
theorem dX11_refuse_16 : decode cX11_refuse 16 = .ok (.if_icmp .le 14, 3) := by decide +kernel
theorem dX11_refuse_19 : decode cX11_refuse 19 = .ok (.aload_n 0, 1) := by decide +kernel
theorem dX11_refuse_20 : decode cX11_refuse 20 = .ok (.getfield 96, 3) := by decide +kernel
theorem dX11_refuse_23 : decode cX11_refuse 23 = .ok (.iload_n 1, 1) := by decide +kernel
theorem dX11_refuse_24 : decode cX11_refuse 24 = .ok (.ineg, 1) := by decide +kernel
theorem dX11_refuse_25 : decode cX11_refuse 25 = .ok (.dup2, 1) := by decide +kernel
theorem dX11_refuse_26 : decode cX11_refuse 26 = .ok (.iaload, 1) := by decide +kernel
theorem dX11_refuse_27 : decode cX11_refuse 27 = .ok (.iconst 1, 1) := by decide +kernel
theorem dX11_refuse_28 : decode cX11_refuse 28 = .ok (.iadd, 1) := by decide +kernel
theorem dX11_refuse_29 : decode cX11_refuse 29 = .ok (.iastore, 1) := by decide +kernel
theorem dX11_refuse_30 : decode cX11_refuse 30 = .ok (.iload_n 1, 1) := by decide +kernel
theorem dX11_refuse_31 : decode cX11_refuse 31 = .ok (.ireturn, 1) := by decide +kernel
theorem dX11_accept_0 : decode cX11_accept 0 = .ok (.aload_n 0, 1) := by decide +kernel
theorem dX11_accept_1 : decode cX11_accept 1 = .ok (.iconst 0, 1) := by decide +kernel
theorem dX11_accept_2 : decode cX11_accept 2 = .ok (.putfield 99, 3) := by decide +kernel
theorem dX11_accept_5 : decode cX11_accept 5 = .ok (.iload_n 1, 1) := by decide +kernel
theorem dX11_accept_6 : decode cX11_accept 6 = .ok (.ireturn, 1) := by decide +kernel
theorem dX11_tell_0 : decode cX11_tell 0 = .ok (.iload_n 1, 1) := by decide +kernel
theorem dX11_tell_1 : decode cX11_tell 1 = .ok (.ifCond .ge 11, 3) := by decide +kernel
theorem dX11_tell_4 : decode cX11_tell 4 = .ok (.aload_n 0, 1) := by decide +kernel
theorem dX11_tell_5 : decode cX11_tell 5 = .ok (.iload_n 1, 1) := by decide +kernel
theorem dX11_tell_6 : decode cX11_tell 6 = .ok (.invokevirtual 106, 3) := by decide +kernel
theorem dX11_tell_9 : decode cX11_tell 9 = .ok (.goto 8, 3) := by decide +kernel
theorem dX11_tell_12 : decode cX11_tell 12 = .ok (.aload_n 0, 1) := by decide +kernel
theorem dX11_tell_13 : decode cX11_tell 13 = .ok (.iload_n 1, 1) := by decide +kernel
theorem dX11_tell_14 : decode cX11_tell 14 = .ok (.invokevirtual 120, 3) := by decide +kernel
theorem dX11_tell_17 : decode cX11_tell 17 = .ok (.ireturn, 1) := by decide +kernel
theorem dX11_let_0 : decode cX11_let 0 = .ok (.iload_n 1, 1) := by decide +kernel
theorem dX11_let_1 : decode cX11_let 1 = .ok (.iconst 4, 1) := by decide +kernel
theorem dX11_let_2 : decode cX11_let 2 = .ok (.iadd, 1) := by decide +kernel
theorem dX11_let_3 : decode cX11_let 3 = .ok (.aload_n 0, 1) := by decide +kernel
theorem dX11_let_4 : decode cX11_let 4 = .ok (.getfield 33, 3) := by decide +kernel
theorem dX11_let_7 : decode cX11_let 7 = .ok (.getfield 223, 3) := by decide +kernel
theorem dX11_let_10 : decode cX11_let 10 = .ok (.if_icmp .gt 15, 3) := by decide +kernel
theorem dX11_let_13 : decode cX11_let 13 = .ok (.aload_n 0, 1) := by decide +kernel
theorem dX11_let_14 : decode cX11_let 14 = .ok (.getfield 10, 3) := by decide +kernel
theorem dX11_let_17 : decode cX11_let 17 = .ok (.getfield 152, 3) := by decide +kernel
theorem dX11_let_20 : decode cX11_let 20 = .ok (.bipush 8, 2) := by decide +kernel
theorem dX11_let_22 : decode cX11_let 22 = .ok (.if_icmp .lt 5, 3) := by decide +kernel
theorem dX11_let_25 : decode cX11_let 25 = .ok (.iconst 0, 1) := by decide +kernel
theorem dX11_let_26 : decode cX11_let 26 = .ok (.ireturn, 1) := by decide +kernel
theorem dX11_let_27 : decode cX11_let 27 = .ok (.aload_n 0, 1) := by decide +kernel
theorem dX11_let_28 : decode cX11_let 28 = .ok (.getfield 33, 3) := by decide +kernel
theorem dX11_let_31 : decode cX11_let 31 = .ok (.getfield 381, 3) := by decide +kernel
theorem dX11_let_34 : decode cX11_let 34 = .ok (.iload_n 1, 1) := by decide +kernel
theorem dX11_let_35 : decode cX11_let 35 = .ok (.iaload, 1) := by decide +kernel
theorem dX11_let_36 : decode cX11_let 36 = .ok (.istore_n 2, 1) := by decide +kernel
theorem dX11_let_37 : decode cX11_let 37 = .ok (.aload_n 0, 1) := by decide +kernel
theorem dX11_let_38 : decode cX11_let 38 = .ok (.getfield 33, 3) := by decide +kernel
theorem dX11_let_41 : decode cX11_let 41 = .ok (.getfield 381, 3) := by decide +kernel
theorem dX11_let_44 : decode cX11_let 44 = .ok (.iload_n 1, 1) := by decide +kernel
theorem dX11_let_45 : decode cX11_let 45 = .ok (.iconst 1, 1) := by decide +kernel
theorem dX11_let_46 : decode cX11_let 46 = .ok (.iadd, 1) := by decide +kernel
theorem dX11_let_47 : decode cX11_let 47 = .ok (.iaload, 1) := by decide +kernel
theorem dX11_let_48 : decode cX11_let 48 = .ok (.istore_n 3, 1) := by decide +kernel
theorem dX11_let_49 : decode cX11_let 49 = .ok (.aload_n 0, 1) := by decide +kernel
theorem dX11_let_50 : decode cX11_let 50 = .ok (.getfield 33, 3) := by decide +kernel
theorem dX11_let_53 : decode cX11_let 53 = .ok (.getfield 381, 3) := by decide +kernel
theorem dX11_let_56 : decode cX11_let 56 = .ok (.iload_n 1, 1) := by decide +kernel
theorem dX11_let_57 : decode cX11_let 57 = .ok (.iconst 2, 1) := by decide +kernel
theorem dX11_let_58 : decode cX11_let 58 = .ok (.iadd, 1) := by decide +kernel
theorem dX11_let_59 : decode cX11_let 59 = .ok (.iaload, 1) := by decide +kernel
theorem dX11_let_60 : decode cX11_let 60 = .ok (.istore 4, 2) := by decide +kernel
theorem dX11_let_62 : decode cX11_let 62 = .ok (.aload_n 0, 1) := by decide +kernel
theorem dX11_let_63 : decode cX11_let 63 = .ok (.getfield 33, 3) := by decide +kernel
theorem dX11_let_66 : decode cX11_let 66 = .ok (.getfield 381, 3) := by decide +kernel
theorem dX11_let_69 : decode cX11_let 69 = .ok (.iload_n 1, 1) := by decide +kernel
theorem dX11_let_70 : decode cX11_let 70 = .ok (.iconst 3, 1) := by decide +kernel
theorem dX11_let_71 : decode cX11_let 71 = .ok (.iadd, 1) := by decide +kernel
theorem dX11_let_72 : decode cX11_let 72 = .ok (.iaload, 1) := by decide +kernel
theorem dX11_let_73 : decode cX11_let 73 = .ok (.istore 5, 2) := by decide +kernel
theorem dX11_let_75 : decode cX11_let 75 = .ok (.bipush 10, 2) := by decide +kernel
theorem dX11_let_77 : decode cX11_let 77 = .ok (.iload 4, 2) := by decide +kernel
theorem dX11_let_79 : decode cX11_let 79 = .ok (.imul, 1) := by decide +kernel
theorem dX11_let_80 : decode cX11_let 80 = .ok (.iload 5, 2) := by decide +kernel
theorem dX11_let_82 : decode cX11_let 82 = .ok (.iadd, 1) := by decide +kernel
theorem dX11_let_83 : decode cX11_let 83 = .ok (.istore 6, 2) := by decide +kernel
theorem dX11_let_85 : decode cX11_let 85 = .ok (.iload_n 2, 1) := by decide +kernel
theorem dX11_let_86 : decode cX11_let 86 = .ok (.bipush 25, 2) := by decide +kernel
theorem dX11_let_88 : decode cX11_let 88 = .ok (.if_icmp .ge 24, 3) := by decide +kernel
theorem dX11_let_91 : decode cX11_let 91 = .ok (.iload_n 3, 1) := by decide +kernel
theorem dX11_let_92 : decode cX11_let 92 = .ok (.bipush 99, 2) := by decide +kernel
theorem dX11_let_94 : decode cX11_let 94 = .ok (.if_icmp .gt 18, 3) := by decide +kernel
theorem dX11_let_97 : decode cX11_let 97 = .ok (.iload 5, 2) := by decide +kernel
theorem dX11_let_99 : decode cX11_let 99 = .ok (.bipush 9, 2) := by decide +kernel
theorem dX11_let_101 : decode cX11_let 101 = .ok (.if_icmp .gt 11, 3) := by decide +kernel
theorem dX11_let_104 : decode cX11_let 104 = .ok (.iload 6, 2) := by decide +kernel
theorem dX11_let_106 : decode cX11_let 106 = .ok (.sipush 999, 3) := by decide +kernel
theorem dX11_let_109 : decode cX11_let 109 = .ok (.if_icmp .le 5, 3) := by decide +kernel
theorem dX11_let_112 : decode cX11_let 112 = .ok (.iconst 0, 1) := by decide +kernel
theorem dX11_let_113 : decode cX11_let 113 = .ok (.ireturn, 1) := by decide +kernel
theorem dX11_let_114 : decode cX11_let 114 = .ok (.aload_n 0, 1) := by decide +kernel
theorem dX11_let_115 : decode cX11_let 115 = .ok (.getfield 10, 3) := by decide +kernel
theorem dX11_let_118 : decode cX11_let 118 = .ok (.iload_n 2, 1) := by decide +kernel
theorem dX11_let_119 : decode cX11_let 119 = .ok (.iload_n 3, 1) := by decide +kernel
theorem dX11_let_120 : decode cX11_let 120 = .ok (.iload 6, 2) := by decide +kernel
theorem dX11_let_122 : decode cX11_let 122 = .ok (.invokevirtual 155, 3) := by decide +kernel
theorem dX11_let_125 : decode cX11_let 125 = .ok (.pop, 1) := by decide +kernel
theorem dX11_let_126 : decode cX11_let 126 = .ok (.iconst 1, 1) := by decide +kernel
theorem dX11_let_127 : decode cX11_let 127 = .ok (.ireturn, 1) := by decide +kernel
theorem dX11_canSell_0 : decode cX11_canSell 0 = .ok (.aload_n 0, 1) := by decide +kernel
theorem dX11_canSell_1 : decode cX11_canSell 1 = .ok (.getfield 10, 3) := by decide +kernel
theorem dX11_canSell_4 : decode cX11_canSell 4 = .ok (.iload_n 1, 1) := by decide +kernel
theorem dX11_canSell_5 : decode cX11_canSell 5 = .ok (.iload_n 3, 1) := by decide +kernel
theorem dX11_canSell_6 : decode cX11_canSell 6 = .ok (.invokevirtual 195, 3) := by decide +kernel
theorem dX11_canSell_9 : decode cX11_canSell 9 = .ok (.iconst 1, 1) := by decide +kernel
theorem dX11_canSell_10 : decode cX11_canSell 10 = .ok (.if_icmp .lt 24, 3) := by decide +kernel
theorem dX11_canSell_13 : decode cX11_canSell 13 = .ok (.aload_n 0, 1) := by decide +kernel
theorem dX11_canSell_14 : decode cX11_canSell 14 = .ok (.getfield 58, 3) := by decide +kernel
theorem dX11_canSell_17 : decode cX11_canSell 17 = .ok (.aload_n 0, 1) := by decide +kernel
theorem dX11_canSell_18 : decode cX11_canSell 18 = .ok (.getfield 10, 3) := by decide +kernel
theorem dX11_canSell_21 : decode cX11_canSell 21 = .ok (.iload_n 1, 1) := by decide +kernel
theorem dX11_canSell_22 : decode cX11_canSell 22 = .ok (.iload_n 2, 1) := by decide +kernel
theorem dX11_canSell_23 : decode cX11_canSell 23 = .ok (.iload_n 3, 1) := by decide +kernel
theorem dX11_canSell_24 : decode cX11_canSell 24 = .ok (.invokevirtual 384, 3) := by decide +kernel
theorem dX11_canSell_27 : decode cX11_canSell 27 = .ok (.ifCond .eq 7, 3) := by decide +kernel
theorem dX11_canSell_30 : decode cX11_canSell 30 = .ok (.iconst 1, 1) := by decide +kernel
theorem dX11_canSell_31 : decode cX11_canSell 31 = .ok (.goto 4, 3) := by decide +kernel
theorem dX11_canSell_34 : decode cX11_canSell 34 = .ok (.iconst 0, 1) := by decide +kernel
theorem dX11_canSell_35 : decode cX11_canSell 35 = .ok (.ireturn, 1) := by decide +kernel
theorem dX11_setSales_0 : decode cX11_setSales 0 = .ok (.iconst 0, 1) := by decide +kernel
theorem dX11_setSales_1 : decode cX11_setSales 1 = .ok (.istore_n 2, 1) := by decide +kernel
theorem dX11_setSales_2 : decode cX11_setSales 2 = .ok (.iload_n 2, 1) := by decide +kernel
theorem dX11_setSales_3 : decode cX11_setSales 3 = .ok (.aload_n 0, 1) := by decide +kernel
theorem dX11_setSales_4 : decode cX11_setSales 4 = .ok (.getfield 10, 3) := by decide +kernel
theorem dX11_setSales_7 : decode cX11_setSales 7 = .ok (.getfield 152, 3) := by decide +kernel
theorem dX11_setSales_10 : decode cX11_setSales 10 = .ok (.if_icmp .ge 85, 3) := by decide +kernel
theorem dX11_setSales_13 : decode cX11_setSales 13 = .ok (.iconst 0, 1) := by decide +kernel
theorem dX11_setSales_14 : decode cX11_setSales 14 = .ok (.istore_n 3, 1) := by decide +kernel
theorem dX11_setSales_15 : decode cX11_setSales 15 = .ok (.iload_n 3, 1) := by decide +kernel
theorem dX11_setSales_16 : decode cX11_setSales 16 = .ok (.aload_n 0, 1) := by decide +kernel
theorem dX11_setSales_17 : decode cX11_setSales 17 = .ok (.getfield 10, 3) := by decide +kernel
theorem dX11_setSales_20 : decode cX11_setSales 20 = .ok (.getfield 152, 3) := by decide +kernel
theorem dX11_setSales_23 : decode cX11_setSales 23 = .ok (.if_icmp .ge 66, 3) := by decide +kernel
theorem dX11_setSales_26 : decode cX11_setSales 26 = .ok (.iconst (-1), 1) := by decide +kernel
theorem dX11_setSales_27 : decode cX11_setSales 27 = .ok (.istore 4, 2) := by decide +kernel
theorem dX11_setSales_29 : decode cX11_setSales 29 = .ok (.iload_n 2, 1) := by decide +kernel
theorem dX11_setSales_30 : decode cX11_setSales 30 = .ok (.iload_n 3, 1) := by decide +kernel
theorem dX11_setSales_31 : decode cX11_setSales 31 = .ok (.if_icmp .eq 36, 3) := by decide +kernel
theorem dX11_setSales_34 : decode cX11_setSales 34 = .ok (.aload_n 0, 1) := by decide +kernel
theorem dX11_setSales_35 : decode cX11_setSales 35 = .ok (.getfield 58, 3) := by decide +kernel
theorem dX11_setSales_38 : decode cX11_setSales 38 = .ok (.aload_n 0, 1) := by decide +kernel
theorem dX11_setSales_39 : decode cX11_setSales 39 = .ok (.getfield 10, 3) := by decide +kernel
theorem dX11_setSales_42 : decode cX11_setSales 42 = .ok (.iload_n 2, 1) := by decide +kernel
theorem dX11_setSales_43 : decode cX11_setSales 43 = .ok (.iload_n 3, 1) := by decide +kernel
theorem dX11_setSales_44 : decode cX11_setSales 44 = .ok (.iload_n 1, 1) := by decide +kernel
theorem dX11_setSales_45 : decode cX11_setSales 45 = .ok (.invokevirtual 384, 3) := by decide +kernel
theorem dX11_setSales_48 : decode cX11_setSales 48 = .ok (.ifCond .eq 19, 3) := by decide +kernel
theorem dX11_setSales_51 : decode cX11_setSales 51 = .ok (.aload_n 0, 1) := by decide +kernel
theorem dX11_setSales_52 : decode cX11_setSales 52 = .ok (.getfield 49, 3) := by decide +kernel
theorem dX11_setSales_55 : decode cX11_setSales 55 = .ok (.aload_n 0, 1) := by decide +kernel
theorem dX11_setSales_56 : decode cX11_setSales 56 = .ok (.getfield 10, 3) := by decide +kernel
theorem dX11_setSales_59 : decode cX11_setSales 59 = .ok (.iload_n 2, 1) := by decide +kernel
theorem dX11_setSales_60 : decode cX11_setSales 60 = .ok (.iload_n 3, 1) := by decide +kernel
theorem dX11_setSales_61 : decode cX11_setSales 61 = .ok (.iload_n 1, 1) := by decide +kernel
theorem dX11_setSales_62 : decode cX11_setSales 62 = .ok (.invokevirtual 205, 3) := by decide +kernel
theorem dX11_setSales_65 : decode cX11_setSales 65 = .ok (.istore 4, 2) := by decide +kernel
theorem dX11_setSales_67 : decode cX11_setSales 67 = .ok (.aload_n 0, 1) := by decide +kernel
theorem dX11_setSales_68 : decode cX11_setSales 68 = .ok (.getfield 65, 3) := by decide +kernel
theorem dX11_setSales_71 : decode cX11_setSales 71 = .ok (.getfield 387, 3) := by decide +kernel
theorem dX11_setSales_74 : decode cX11_setSales 74 = .ok (.iload_n 2, 1) := by decide +kernel
theorem dX11_setSales_75 : decode cX11_setSales 75 = .ok (.bipush 8, 2) := by decide +kernel
theorem dX11_setSales_77 : decode cX11_setSales 77 = .ok (.imul, 1) := by decide +kernel
theorem dX11_setSales_78 : decode cX11_setSales 78 = .ok (.iload_n 3, 1) := by decide +kernel
theorem dX11_setSales_79 : decode cX11_setSales 79 = .ok (.iadd, 1) := by decide +kernel
theorem dX11_setSales_80 : decode cX11_setSales 80 = .ok (.iload 4, 2) := by decide +kernel
theorem dX11_setSales_82 : decode cX11_setSales 82 = .ok (.iastore, 1) := by decide +kernel
theorem dX11_setSales_83 : decode cX11_setSales 83 = .ok (.iinc 3 1, 3) := by decide +kernel
theorem dX11_setSales_86 : decode cX11_setSales 86 = .ok (.goto (-71), 3) := by decide +kernel
theorem dX11_setSales_89 : decode cX11_setSales 89 = .ok (.iinc 2 1, 3) := by decide +kernel
theorem dX11_setSales_92 : decode cX11_setSales 92 = .ok (.goto (-90), 3) := by decide +kernel
theorem dX11_setSales_95 : decode cX11_setSales 95 = .ok (.return_, 1) := by decide +kernel
theorem dX11_isWithin_0 : decode cX11_isWithin 0 = .ok (.iload_n 0, 1) := by decide +kernel
theorem dX11_isWithin_1 : decode cX11_isWithin 1 = .ok (.ifCond .lt 12, 3) := by decide +kernel
theorem dX11_isWithin_4 : decode cX11_isWithin 4 = .ok (.iload_n 0, 1) := by decide +kernel
theorem dX11_isWithin_5 : decode cX11_isWithin 5 = .ok (.iload_n 1, 1) := by decide +kernel
theorem dX11_isWithin_6 : decode cX11_isWithin 6 = .ok (.if_icmp .gt 7, 3) := by decide +kernel
theorem dX11_isWithin_9 : decode cX11_isWithin 9 = .ok (.iconst 1, 1) := by decide +kernel
theorem dX11_isWithin_10 : decode cX11_isWithin 10 = .ok (.goto 4, 3) := by decide +kernel
theorem dX11_isWithin_13 : decode cX11_isWithin 13 = .ok (.iconst 0, 1) := by decide +kernel
theorem dX11_isWithin_14 : decode cX11_isWithin 14 = .ok (.ireturn, 1) := by decide +kernel
theorem dX11_hasBit_0 : decode cX11_hasBit 0 = .ok (.iload_n 1, 1) := by decide +kernel
theorem dX11_hasBit_1 : decode cX11_hasBit 1 = .ok (.ifCond .lt 22, 3) := by decide +kernel
theorem dX11_hasBit_4 : decode cX11_hasBit 4 = .ok (.iload_n 1, 1) := by decide +kernel
theorem dX11_hasBit_5 : decode cX11_hasBit 5 = .ok (.bipush 31, 2) := by decide +kernel
theorem dX11_hasBit_7 : decode cX11_hasBit 7 = .ok (.if_icmp .ge 16, 3) := by decide +kernel
theorem dX11_hasBit_10 : decode cX11_hasBit 10 = .ok (.iload_n 0, 1) := by decide +kernel
theorem dX11_hasBit_11 : decode cX11_hasBit 11 = .ok (.iload_n 1, 1) := by decide +kernel
theorem dX11_hasBit_12 : decode cX11_hasBit 12 = .ok (.ishr, 1) := by decide +kernel
theorem dX11_hasBit_13 : decode cX11_hasBit 13 = .ok (.iconst 1, 1) := by decide +kernel
theorem dX11_hasBit_14 : decode cX11_hasBit 14 = .ok (.iand, 1) := by decide +kernel
theorem dX11_hasBit_15 : decode cX11_hasBit 15 = .ok (.iconst 1, 1) := by decide +kernel
theorem dX11_hasBit_16 : decode cX11_hasBit 16 = .ok (.if_icmp .ne 7, 3) := by decide +kernel
theorem dX11_hasBit_19 : decode cX11_hasBit 19 = .ok (.iconst 1, 1) := by decide +kernel
theorem dX11_hasBit_20 : decode cX11_hasBit 20 = .ok (.goto 4, 3) := by decide +kernel
theorem dX11_hasBit_23 : decode cX11_hasBit 23 = .ok (.iconst 0, 1) := by decide +kernel
theorem dX11_hasBit_24 : decode cX11_hasBit 24 = .ok (.ireturn, 1) := by decide +kernel
theorem dX11_slot_0 : decode cX11_slot 0 = .ok (.iload_n 0, 1) := by decide +kernel
theorem dX11_slot_1 : decode cX11_slot 1 = .ok (.bipush 6, 2) := by decide +kernel
theorem dX11_slot_3 : decode cX11_slot 3 = .ok (.imul, 1) := by decide +kernel
theorem dX11_slot_4 : decode cX11_slot 4 = .ok (.iload_n 1, 1) := by decide +kernel
theorem dX11_slot_5 : decode cX11_slot 5 = .ok (.iadd, 1) := by decide +kernel
theorem dX11_slot_6 : decode cX11_slot 6 = .ok (.ireturn, 1) := by decide +kernel
theorem dX11_stepsBetween_0 : decode cX11_stepsBetween 0 = .ok (.iload_n 0, 1) := by decide +kernel
theorem dX11_stepsBetween_1 : decode cX11_stepsBetween 1 = .ok (.iconst 5, 1) := by decide +kernel
theorem dX11_stepsBetween_2 : decode cX11_stepsBetween 2 = .ok (.irem, 1) := by decide +kernel
theorem dX11_stepsBetween_3 : decode cX11_stepsBetween 3 = .ok (.iload_n 1, 1) := by decide +kernel
theorem dX11_stepsBetween_4 : decode cX11_stepsBetween 4 = .ok (.iconst 5, 1) := by decide +kernel
theorem dX11_stepsBetween_5 : decode cX11_stepsBetween 5 = .ok (.irem, 1) := by decide +kernel
theorem dX11_stepsBetween_6 : decode cX11_stepsBetween 6 = .ok (.isub, 1) := by decide +kernel
theorem dX11_stepsBetween_7 : decode cX11_stepsBetween 7 = .ok (.invokestatic 390, 3) := by decide +kernel
theorem dX11_stepsBetween_10 : decode cX11_stepsBetween 10 = .ok (.iload_n 0, 1) := by decide +kernel
theorem dX11_stepsBetween_11 : decode cX11_stepsBetween 11 = .ok (.iconst 5, 1) := by decide +kernel
theorem dX11_stepsBetween_12 : decode cX11_stepsBetween 12 = .ok (.idiv, 1) := by decide +kernel
theorem dX11_stepsBetween_13 : decode cX11_stepsBetween 13 = .ok (.iload_n 1, 1) := by decide +kernel
theorem dX11_stepsBetween_14 : decode cX11_stepsBetween 14 = .ok (.iconst 5, 1) := by decide +kernel
theorem dX11_stepsBetween_15 : decode cX11_stepsBetween 15 = .ok (.idiv, 1) := by decide +kernel
theorem dX11_stepsBetween_16 : decode cX11_stepsBetween 16 = .ok (.isub, 1) := by decide +kernel
theorem dX11_stepsBetween_17 : decode cX11_stepsBetween 17 = .ok (.invokestatic 390, 3) := by decide +kernel
theorem dX11_stepsBetween_20 : decode cX11_stepsBetween 20 = .ok (.iadd, 1) := by decide +kernel
theorem dX11_stepsBetween_21 : decode cX11_stepsBetween 21 = .ok (.ireturn, 1) := by decide +kernel
theorem dX12_init_0 : decode cX12_init 0 = .ok (.aload_n 0, 1) := by decide +kernel
theorem dX12_init_1 : decode cX12_init 1 = .ok (.invokespecial 1, 3) := by decide +kernel
theorem dX12_init_4 : decode cX12_init 4 = .ok (.aload_n 0, 1) := by decide +kernel
theorem dX12_init_5 : decode cX12_init 5 = .ok (.bipush 7, 2) := by decide +kernel
theorem dX12_init_7 : decode cX12_init 7 = .ok (.newarray .int, 2) := by decide +kernel
theorem dX12_init_9 : decode cX12_init 9 = .ok (.putfield 7, 3) := by decide +kernel
theorem dX12_init_12 : decode cX12_init 12 = .ok (.aload_n 0, 1) := by decide +kernel
theorem dX12_init_13 : decode cX12_init 13 = .ok (.sipush 5585, 3) := by decide +kernel
theorem dX12_init_16 : decode cX12_init 16 = .ok (.newarray .int, 2) := by decide +kernel
theorem dX12_init_18 : decode cX12_init 18 = .ok (.putfield 13, 3) := by decide +kernel
theorem dX12_init_21 : decode cX12_init 21 = .ok (.aload_n 0, 1) := by decide +kernel
theorem dX12_init_22 : decode cX12_init 22 = .ok (.sipush 11170, 3) := by decide +kernel
theorem dX12_init_25 : decode cX12_init 25 = .ok (.newarray .int, 2) := by decide +kernel
theorem dX12_init_27 : decode cX12_init 27 = .ok (.putfield 16, 3) := by decide +kernel
theorem dX12_init_30 : decode cX12_init 30 = .ok (.aload_n 0, 1) := by decide +kernel
theorem dX12_init_31 : decode cX12_init 31 = .ok (.iconst 2, 1) := by decide +kernel
theorem dX12_init_32 : decode cX12_init 32 = .ok (.newarray .boolean, 2) := by decide +kernel
theorem dX12_init_34 : decode cX12_init 34 = .ok (.putfield 19, 3) := by decide +kernel
theorem dX12_init_37 : decode cX12_init 37 = .ok (.aload_n 0, 1) := by decide +kernel
theorem dX12_init_38 : decode cX12_init 38 = .ok (.sipush 2178, 3) := by decide +kernel
theorem dX12_init_41 : decode cX12_init 41 = .ok (.newarray .int, 2) := by decide +kernel
theorem dX12_init_43 : decode cX12_init 43 = .ok (.putfield 23, 3) := by decide +kernel
theorem dX12_init_46 : decode cX12_init 46 = .ok (.aload_n 0, 1) := by decide +kernel
theorem dX12_init_47 : decode cX12_init 47 = .ok (.bipush 16, 2) := by decide +kernel
theorem dX12_init_49 : decode cX12_init 49 = .ok (.newarray .int, 2) := by decide +kernel
theorem dX12_init_51 : decode cX12_init 51 = .ok (.putfield 26, 3) := by decide +kernel
theorem dX12_init_54 : decode cX12_init 54 = .ok (.aload_n 0, 1) := by decide +kernel
theorem dX12_init_55 : decode cX12_init 55 = .ok (.sipush 1936, 3) := by decide +kernel
theorem dX12_init_58 : decode cX12_init 58 = .ok (.newarray .int, 2) := by decide +kernel
theorem dX12_init_60 : decode cX12_init 60 = .ok (.putfield 29, 3) := by decide +kernel
theorem dX12_init_63 : decode cX12_init 63 = .ok (.aload_n 0, 1) := by decide +kernel
theorem dX12_init_64 : decode cX12_init 64 = .ok (.bipush 16, 2) := by decide +kernel
theorem dX12_init_66 : decode cX12_init 66 = .ok (.newarray .int, 2) := by decide +kernel
theorem dX12_init_68 : decode cX12_init 68 = .ok (.putfield 32, 3) := by decide +kernel
theorem dX12_init_71 : decode cX12_init 71 = .ok (.aload_n 0, 1) := by decide +kernel
theorem dX12_init_72 : decode cX12_init 72 = .ok (.sipush 400, 3) := by decide +kernel
theorem dX12_init_75 : decode cX12_init 75 = .ok (.newarray .int, 2) := by decide +kernel
theorem dX12_init_77 : decode cX12_init 77 = .ok (.putfield 35, 3) := by decide +kernel
theorem dX12_init_80 : decode cX12_init 80 = .ok (.aload_n 0, 1) := by decide +kernel
theorem dX12_init_81 : decode cX12_init 81 = .ok (.iconst (-1), 1) := by decide +kernel
theorem dX12_init_82 : decode cX12_init 82 = .ok (.putfield 38, 3) := by decide +kernel
theorem dX12_init_85 : decode cX12_init 85 = .ok (.aload_n 0, 1) := by decide +kernel
theorem dX12_init_86 : decode cX12_init 86 = .ok (.bipush 96, 2) := by decide +kernel
theorem dX12_init_88 : decode cX12_init 88 = .ok (.newarray .int, 2) := by decide +kernel
theorem dX12_init_90 : decode cX12_init 90 = .ok (.putfield 42, 3) := by decide +kernel
theorem dX12_init_93 : decode cX12_init 93 = .ok (.aload_n 0, 1) := by decide +kernel
theorem dX12_init_94 : decode cX12_init 94 = .ok (.sipush 400, 3) := by decide +kernel
theorem dX12_init_97 : decode cX12_init 97 = .ok (.newarray .int, 2) := by decide +kernel
theorem dX12_init_99 : decode cX12_init 99 = .ok (.putfield 45, 3) := by decide +kernel
theorem dX12_init_102 : decode cX12_init 102 = .ok (.aload_n 0, 1) := by decide +kernel
theorem dX12_init_103 : decode cX12_init 103 = .ok (.sipush 400, 3) := by decide +kernel
theorem dX12_init_106 : decode cX12_init 106 = .ok (.newarray .int, 2) := by decide +kernel
theorem dX12_init_108 : decode cX12_init 108 = .ok (.putfield 48, 3) := by decide +kernel
theorem dX12_init_111 : decode cX12_init 111 = .ok (.aload_n 0, 1) := by decide +kernel
theorem dX12_init_112 : decode cX12_init 112 = .ok (.sipush 400, 3) := by decide +kernel
theorem dX12_init_115 : decode cX12_init 115 = .ok (.newarray .int, 2) := by decide +kernel
theorem dX12_init_117 : decode cX12_init 117 = .ok (.putfield 51, 3) := by decide +kernel
theorem dX12_init_120 : decode cX12_init 120 = .ok (.aload_n 0, 1) := by decide +kernel
theorem dX12_init_121 : decode cX12_init 121 = .ok (.sipush 400, 3) := by decide +kernel
theorem dX12_init_124 : decode cX12_init 124 = .ok (.newarray .int, 2) := by decide +kernel
theorem dX12_init_126 : decode cX12_init 126 = .ok (.putfield 54, 3) := by decide +kernel
theorem dX12_init_129 : decode cX12_init 129 = .ok (.aload_n 0, 1) := by decide +kernel
theorem dX12_init_130 : decode cX12_init 130 = .ok (.bipush 9, 2) := by decide +kernel
theorem dX12_init_132 : decode cX12_init 132 = .ok (.newarray .long, 2) := by decide +kernel
theorem dX12_init_134 : decode cX12_init 134 = .ok (.dup, 1) := by decide +kernel
theorem dX12_init_135 : decode cX12_init 135 = .ok (.iconst 0, 1) := by decide +kernel
theorem dX12_init_136 : decode cX12_init 136 = .ok (.ldc2_w 57, 3) := by decide +kernel
theorem dX12_init_139 : decode cX12_init 139 = .ok (.lastore, 1) := by decide +kernel
theorem dX12_init_140 : decode cX12_init 140 = .ok (.dup, 1) := by decide +kernel
theorem dX12_init_141 : decode cX12_init 141 = .ok (.iconst 1, 1) := by decide +kernel
theorem dX12_init_142 : decode cX12_init 142 = .ok (.ldc2_w 59, 3) := by decide +kernel
theorem dX12_init_145 : decode cX12_init 145 = .ok (.lastore, 1) := by decide +kernel
theorem dX12_init_146 : decode cX12_init 146 = .ok (.dup, 1) := by decide +kernel
theorem dX12_init_147 : decode cX12_init 147 = .ok (.iconst 2, 1) := by decide +kernel
theorem dX12_init_148 : decode cX12_init 148 = .ok (.ldc2_w 61, 3) := by decide +kernel
theorem dX12_init_151 : decode cX12_init 151 = .ok (.lastore, 1) := by decide +kernel
theorem dX12_init_152 : decode cX12_init 152 = .ok (.dup, 1) := by decide +kernel
theorem dX12_init_153 : decode cX12_init 153 = .ok (.iconst 3, 1) := by decide +kernel
theorem dX12_init_154 : decode cX12_init 154 = .ok (.ldc2_w 63, 3) := by decide +kernel
theorem dX12_init_157 : decode cX12_init 157 = .ok (.lastore, 1) := by decide +kernel
theorem dX12_init_158 : decode cX12_init 158 = .ok (.dup, 1) := by decide +kernel
theorem dX12_init_159 : decode cX12_init 159 = .ok (.iconst 4, 1) := by decide +kernel
theorem dX12_init_160 : decode cX12_init 160 = .ok (.ldc2_w 65, 3) := by decide +kernel
theorem dX12_init_163 : decode cX12_init 163 = .ok (.lastore, 1) := by decide +kernel
theorem dX12_init_164 : decode cX12_init 164 = .ok (.dup, 1) := by decide +kernel
theorem dX12_init_165 : decode cX12_init 165 = .ok (.iconst 5, 1) := by decide +kernel
theorem dX12_init_166 : decode cX12_init 166 = .ok (.ldc2_w 67, 3) := by decide +kernel
theorem dX12_init_169 : decode cX12_init 169 = .ok (.lastore, 1) := by decide +kernel
theorem dX12_init_170 : decode cX12_init 170 = .ok (.dup, 1) := by decide +kernel
theorem dX12_init_171 : decode cX12_init 171 = .ok (.bipush 6, 2) := by decide +kernel
theorem dX12_init_173 : decode cX12_init 173 = .ok (.ldc2_w 69, 3) := by decide +kernel
theorem dX12_init_176 : decode cX12_init 176 = .ok (.lastore, 1) := by decide +kernel
theorem dX12_init_177 : decode cX12_init 177 = .ok (.dup, 1) := by decide +kernel
theorem dX12_init_178 : decode cX12_init 178 = .ok (.bipush 7, 2) := by decide +kernel
theorem dX12_init_180 : decode cX12_init 180 = .ok (.ldc2_w 71, 3) := by decide +kernel
theorem dX12_init_183 : decode cX12_init 183 = .ok (.lastore, 1) := by decide +kernel
theorem dX12_init_184 : decode cX12_init 184 = .ok (.dup, 1) := by decide +kernel
theorem dX12_init_185 : decode cX12_init 185 = .ok (.bipush 8, 2) := by decide +kernel
theorem dX12_init_187 : decode cX12_init 187 = .ok (.ldc2_w 73, 3) := by decide +kernel
theorem dX12_init_190 : decode cX12_init 190 = .ok (.lastore, 1) := by decide +kernel
theorem dX12_init_191 : decode cX12_init 191 = .ok (.putfield 75, 3) := by decide +kernel
theorem dX12_init_194 : decode cX12_init 194 = .ok (.aload_n 0, 1) := by decide +kernel
theorem dX12_init_195 : decode cX12_init 195 = .ok (.bipush 7, 2) := by decide +kernel
theorem dX12_init_197 : decode cX12_init 197 = .ok (.newarray .long, 2) := by decide +kernel
theorem dX12_init_199 : decode cX12_init 199 = .ok (.dup, 1) := by decide +kernel
theorem dX12_init_200 : decode cX12_init 200 = .ok (.iconst 0, 1) := by decide +kernel
theorem dX12_init_201 : decode cX12_init 201 = .ok (.ldc2_w 69, 3) := by decide +kernel
theorem dX12_init_204 : decode cX12_init 204 = .ok (.lastore, 1) := by decide +kernel
theorem dX12_init_205 : decode cX12_init 205 = .ok (.dup, 1) := by decide +kernel
theorem dX12_init_206 : decode cX12_init 206 = .ok (.iconst 1, 1) := by decide +kernel
theorem dX12_init_207 : decode cX12_init 207 = .ok (.ldc2_w 79, 3) := by decide +kernel
theorem dX12_init_210 : decode cX12_init 210 = .ok (.lastore, 1) := by decide +kernel
theorem dX12_init_211 : decode cX12_init 211 = .ok (.dup, 1) := by decide +kernel
theorem dX12_init_212 : decode cX12_init 212 = .ok (.iconst 2, 1) := by decide +kernel
theorem dX12_init_213 : decode cX12_init 213 = .ok (.ldc2_w 81, 3) := by decide +kernel
theorem dX12_init_216 : decode cX12_init 216 = .ok (.lastore, 1) := by decide +kernel
theorem dX12_init_217 : decode cX12_init 217 = .ok (.dup, 1) := by decide +kernel
theorem dX12_init_218 : decode cX12_init 218 = .ok (.iconst 3, 1) := by decide +kernel
theorem dX12_init_219 : decode cX12_init 219 = .ok (.ldc2_w 83, 3) := by decide +kernel
theorem dX12_init_222 : decode cX12_init 222 = .ok (.lastore, 1) := by decide +kernel
theorem dX12_init_223 : decode cX12_init 223 = .ok (.dup, 1) := by decide +kernel
theorem dX12_init_224 : decode cX12_init 224 = .ok (.iconst 4, 1) := by decide +kernel
theorem dX12_init_225 : decode cX12_init 225 = .ok (.ldc2_w 61, 3) := by decide +kernel
theorem dX12_init_228 : decode cX12_init 228 = .ok (.lastore, 1) := by decide +kernel
theorem dX12_init_229 : decode cX12_init 229 = .ok (.dup, 1) := by decide +kernel
theorem dX12_init_230 : decode cX12_init 230 = .ok (.iconst 5, 1) := by decide +kernel
theorem dX12_init_231 : decode cX12_init 231 = .ok (.ldc2_w 67, 3) := by decide +kernel
theorem dX12_init_234 : decode cX12_init 234 = .ok (.lastore, 1) := by decide +kernel
theorem dX12_init_235 : decode cX12_init 235 = .ok (.dup, 1) := by decide +kernel
theorem dX12_init_236 : decode cX12_init 236 = .ok (.bipush 6, 2) := by decide +kernel
theorem dX12_init_238 : decode cX12_init 238 = .ok (.ldc2_w 65, 3) := by decide +kernel
theorem dX12_init_241 : decode cX12_init 241 = .ok (.lastore, 1) := by decide +kernel
theorem dX12_init_242 : decode cX12_init 242 = .ok (.putfield 85, 3) := by decide +kernel
theorem dX12_init_245 : decode cX12_init 245 = .ok (.aload_n 0, 1) := by decide +kernel
theorem dX12_init_246 : decode cX12_init 246 = .ok (.iconst 5, 1) := by decide +kernel
theorem dX12_init_247 : decode cX12_init 247 = .ok (.newarray .long, 2) := by decide +kernel
theorem dX12_init_249 : decode cX12_init 249 = .ok (.dup, 1) := by decide +kernel
theorem dX12_init_250 : decode cX12_init 250 = .ok (.iconst 0, 1) := by decide +kernel
theorem dX12_init_251 : decode cX12_init 251 = .ok (.ldc2_w 88, 3) := by decide +kernel
theorem dX12_init_254 : decode cX12_init 254 = .ok (.lastore, 1) := by decide +kernel
theorem dX12_init_255 : decode cX12_init 255 = .ok (.dup, 1) := by decide +kernel
theorem dX12_init_256 : decode cX12_init 256 = .ok (.iconst 1, 1) := by decide +kernel
theorem dX12_init_257 : decode cX12_init 257 = .ok (.ldc2_w 90, 3) := by decide +kernel
theorem dX12_init_260 : decode cX12_init 260 = .ok (.lastore, 1) := by decide +kernel
theorem dX12_init_261 : decode cX12_init 261 = .ok (.dup, 1) := by decide +kernel
theorem dX12_init_262 : decode cX12_init 262 = .ok (.iconst 2, 1) := by decide +kernel
theorem dX12_init_263 : decode cX12_init 263 = .ok (.ldc2_w 92, 3) := by decide +kernel
theorem dX12_init_266 : decode cX12_init 266 = .ok (.lastore, 1) := by decide +kernel
theorem dX12_init_267 : decode cX12_init 267 = .ok (.dup, 1) := by decide +kernel
theorem dX12_init_268 : decode cX12_init 268 = .ok (.iconst 3, 1) := by decide +kernel
theorem dX12_init_269 : decode cX12_init 269 = .ok (.ldc2_w 94, 3) := by decide +kernel
theorem dX12_init_272 : decode cX12_init 272 = .ok (.lastore, 1) := by decide +kernel
theorem dX12_init_273 : decode cX12_init 273 = .ok (.dup, 1) := by decide +kernel
theorem dX12_init_274 : decode cX12_init 274 = .ok (.iconst 4, 1) := by decide +kernel
theorem dX12_init_275 : decode cX12_init 275 = .ok (.ldc2_w 96, 3) := by decide +kernel
theorem dX12_init_278 : decode cX12_init 278 = .ok (.lastore, 1) := by decide +kernel
theorem dX12_init_279 : decode cX12_init 279 = .ok (.putfield 98, 3) := by decide +kernel
theorem dX12_init_282 : decode cX12_init 282 = .ok (.aload_n 0, 1) := by decide +kernel
theorem dX12_init_283 : decode cX12_init 283 = .ok (.bipush 13, 2) := by decide +kernel
theorem dX12_init_285 : decode cX12_init 285 = .ok (.newarray .long, 2) := by decide +kernel
theorem dX12_init_287 : decode cX12_init 287 = .ok (.putfield 101, 3) := by decide +kernel
theorem dX12_init_290 : decode cX12_init 290 = .ok (.aload_n 0, 1) := by decide +kernel
theorem dX12_init_291 : decode cX12_init 291 = .ok (.bipush 13, 2) := by decide +kernel
theorem dX12_init_293 : decode cX12_init 293 = .ok (.newarray .long, 2) := by decide +kernel
theorem dX12_init_295 : decode cX12_init 295 = .ok (.putfield 104, 3) := by decide +kernel
theorem dX12_init_298 : decode cX12_init 298 = .ok (.aload_n 0, 1) := by decide +kernel
theorem dX12_init_299 : decode cX12_init 299 = .ok (.sipush 400, 3) := by decide +kernel
theorem dX12_init_302 : decode cX12_init 302 = .ok (.newarray .long, 2) := by decide +kernel
theorem dX12_init_304 : decode cX12_init 304 = .ok (.putfield 107, 3) := by decide +kernel
theorem dX12_init_307 : decode cX12_init 307 = .ok (.aload_n 0, 1) := by decide +kernel
theorem dX12_init_308 : decode cX12_init 308 = .ok (.bipush 7, 2) := by decide +kernel
theorem dX12_init_310 : decode cX12_init 310 = .ok (.newarray .int, 2) := by decide +kernel
theorem dX12_init_312 : decode cX12_init 312 = .ok (.putfield 110, 3) := by decide +kernel
theorem dX12_init_315 : decode cX12_init 315 = .ok (.aload_n 0, 1) := by decide +kernel
theorem dX12_init_316 : decode cX12_init 316 = .ok (.bipush 7, 2) := by decide +kernel
theorem dX12_init_318 : decode cX12_init 318 = .ok (.newarray .int, 2) := by decide +kernel
theorem dX12_init_320 : decode cX12_init 320 = .ok (.putfield 113, 3) := by decide +kernel
theorem dX12_init_323 : decode cX12_init 323 = .ok (.aload_n 0, 1) := by decide +kernel
theorem dX12_init_324 : decode cX12_init 324 = .ok (.bipush 6, 2) := by decide +kernel
theorem dX12_init_326 : decode cX12_init 326 = .ok (.newarray .int, 2) := by decide +kernel
theorem dX12_init_328 : decode cX12_init 328 = .ok (.putfield 116, 3) := by decide +kernel
theorem dX12_init_331 : decode cX12_init 331 = .ok (.aload_n 0, 1) := by decide +kernel
theorem dX12_init_332 : decode cX12_init 332 = .ok (.bipush 9, 2) := by decide +kernel
theorem dX12_init_334 : decode cX12_init 334 = .ok (.newarray .int, 2) := by decide +kernel
theorem dX12_init_336 : decode cX12_init 336 = .ok (.putfield 119, 3) := by decide +kernel
theorem dX12_init_339 : decode cX12_init 339 = .ok (.aload_n 0, 1) := by decide +kernel
theorem dX12_init_340 : decode cX12_init 340 = .ok (.bipush 8, 2) := by decide +kernel
theorem dX12_init_342 : decode cX12_init 342 = .ok (.newarray .int, 2) := by decide +kernel
theorem dX12_init_344 : decode cX12_init 344 = .ok (.putfield 122, 3) := by decide +kernel
theorem dX12_init_347 : decode cX12_init 347 = .ok (.aload_n 0, 1) := by decide +kernel
theorem dX12_init_348 : decode cX12_init 348 = .ok (.bipush 8, 2) := by decide +kernel
theorem dX12_init_350 : decode cX12_init 350 = .ok (.newarray .int, 2) := by decide +kernel
theorem dX12_init_352 : decode cX12_init 352 = .ok (.putfield 125, 3) := by decide +kernel
theorem dX12_init_355 : decode cX12_init 355 = .ok (.aload_n 0, 1) := by decide +kernel
theorem dX12_init_356 : decode cX12_init 356 = .ok (.sipush 189, 3) := by decide +kernel
theorem dX12_init_359 : decode cX12_init 359 = .ok (.newarray .int, 2) := by decide +kernel
theorem dX12_init_361 : decode cX12_init 361 = .ok (.putfield 128, 3) := by decide +kernel
theorem dX12_init_364 : decode cX12_init 364 = .ok (.aload_n 0, 1) := by decide +kernel
theorem dX12_init_365 : decode cX12_init 365 = .ok (.bipush 8, 2) := by decide +kernel
theorem dX12_init_367 : decode cX12_init 367 = .ok (.newarray .int, 2) := by decide +kernel
theorem dX12_init_369 : decode cX12_init 369 = .ok (.putfield 131, 3) := by decide +kernel
theorem dX12_init_372 : decode cX12_init 372 = .ok (.aload_n 0, 1) := by decide +kernel
theorem dX12_init_373 : decode cX12_init 373 = .ok (.bipush 22, 2) := by decide +kernel
theorem dX12_init_375 : decode cX12_init 375 = .ok (.newarray .long, 2) := by decide +kernel
theorem dX12_init_377 : decode cX12_init 377 = .ok (.putfield 134, 3) := by decide +kernel
theorem dX12_init_380 : decode cX12_init 380 = .ok (.aload_n 0, 1) := by decide +kernel
theorem dX12_init_381 : decode cX12_init 381 = .ok (.iconst 4, 1) := by decide +kernel
theorem dX12_init_382 : decode cX12_init 382 = .ok (.newarray .long, 2) := by decide +kernel
theorem dX12_init_384 : decode cX12_init 384 = .ok (.dup, 1) := by decide +kernel
theorem dX12_init_385 : decode cX12_init 385 = .ok (.iconst 0, 1) := by decide +kernel
theorem dX12_init_386 : decode cX12_init 386 = .ok (.ldc2_w 137, 3) := by decide +kernel
theorem dX12_init_389 : decode cX12_init 389 = .ok (.lastore, 1) := by decide +kernel
theorem dX12_init_390 : decode cX12_init 390 = .ok (.dup, 1) := by decide +kernel
theorem dX12_init_391 : decode cX12_init 391 = .ok (.iconst 1, 1) := by decide +kernel
theorem dX12_init_392 : decode cX12_init 392 = .ok (.ldc2_w 139, 3) := by decide +kernel
theorem dX12_init_395 : decode cX12_init 395 = .ok (.lastore, 1) := by decide +kernel
theorem dX12_init_396 : decode cX12_init 396 = .ok (.dup, 1) := by decide +kernel
theorem dX12_init_397 : decode cX12_init 397 = .ok (.iconst 2, 1) := by decide +kernel
theorem dX12_init_398 : decode cX12_init 398 = .ok (.ldc2_w 141, 3) := by decide +kernel
theorem dX12_init_401 : decode cX12_init 401 = .ok (.lastore, 1) := by decide +kernel
theorem dX12_init_402 : decode cX12_init 402 = .ok (.dup, 1) := by decide +kernel
theorem dX12_init_403 : decode cX12_init 403 = .ok (.iconst 3, 1) := by decide +kernel
theorem dX12_init_404 : decode cX12_init 404 = .ok (.ldc2_w 143, 3) := by decide +kernel
theorem dX12_init_407 : decode cX12_init 407 = .ok (.lastore, 1) := by decide +kernel
theorem dX12_init_408 : decode cX12_init 408 = .ok (.putfield 145, 3) := by decide +kernel
theorem dX12_init_411 : decode cX12_init 411 = .ok (.aload_n 0, 1) := by decide +kernel
theorem dX12_init_412 : decode cX12_init 412 = .ok (.bipush 120, 2) := by decide +kernel
theorem dX12_init_414 : decode cX12_init 414 = .ok (.newarray .int, 2) := by decide +kernel
theorem dX12_init_416 : decode cX12_init 416 = .ok (.putfield 148, 3) := by decide +kernel
theorem dX12_init_419 : decode cX12_init 419 = .ok (.aload_n 0, 1) := by decide +kernel
theorem dX12_init_420 : decode cX12_init 420 = .ok (.iconst (-1), 1) := by decide +kernel
theorem dX12_init_421 : decode cX12_init 421 = .ok (.putfield 151, 3) := by decide +kernel
theorem dX12_init_424 : decode cX12_init 424 = .ok (.aload_n 0, 1) := by decide +kernel
theorem dX12_init_425 : decode cX12_init 425 = .ok (.bipush 48, 2) := by decide +kernel
theorem dX12_init_427 : decode cX12_init 427 = .ok (.newarray .int, 2) := by decide +kernel
theorem dX12_init_429 : decode cX12_init 429 = .ok (.putfield 154, 3) := by decide +kernel
theorem dX12_init_432 : decode cX12_init 432 = .ok (.aload_n 0, 1) := by decide +kernel
theorem dX12_init_433 : decode cX12_init 433 = .ok (.iconst (-1), 1) := by decide +kernel
theorem dX12_init_434 : decode cX12_init 434 = .ok (.putfield 157, 3) := by decide +kernel
theorem dX12_init_437 : decode cX12_init 437 = .ok (.aload_n 0, 1) := by decide +kernel
theorem dX12_init_438 : decode cX12_init 438 = .ok (.iconst (-1), 1) := by decide +kernel
theorem dX12_init_439 : decode cX12_init 439 = .ok (.putfield 160, 3) := by decide +kernel
theorem dX12_init_442 : decode cX12_init 442 = .ok (.aload_n 0, 1) := by decide +kernel
theorem dX12_init_443 : decode cX12_init 443 = .ok (.getfield 13, 3) := by decide +kernel
theorem dX12_init_446 : decode cX12_init 446 = .ok (.iconst 4, 1) := by decide +kernel
theorem dX12_init_447 : decode cX12_init 447 = .ok (.iconst (-1), 1) := by decide +kernel
theorem dX12_init_448 : decode cX12_init 448 = .ok (.iastore, 1) := by decide +kernel
theorem dX12_init_449 : decode cX12_init 449 = .ok (.aload_n 0, 1) := by decide +kernel
theorem dX12_init_450 : decode cX12_init 450 = .ok (.getfield 13, 3) := by decide +kernel
theorem dX12_init_453 : decode cX12_init 453 = .ok (.bipush 6, 2) := by decide +kernel
theorem dX12_init_455 : decode cX12_init 455 = .ok (.iconst 3, 1) := by decide +kernel
theorem dX12_init_456 : decode cX12_init 456 = .ok (.iastore, 1) := by decide +kernel
theorem dX12_init_457 : decode cX12_init 457 = .ok (.return_, 1) := by decide +kernel
theorem dX12_in_0 : decode cX12_in 0 = .ok (.lload_n 0, 1) := by decide +kernel
theorem dX12_in_1 : decode cX12_in 1 = .ok (.lload_n 2, 1) := by decide +kernel
theorem dX12_in_2 : decode cX12_in 2 = .ok (.lcmp, 1) := by decide +kernel
theorem dX12_in_3 : decode cX12_in 3 = .ok (.ifCond .lt 14, 3) := by decide +kernel
theorem dX12_in_6 : decode cX12_in 6 = .ok (.lload_n 0, 1) := by decide +kernel
theorem dX12_in_7 : decode cX12_in 7 = .ok (.lload 4, 2) := by decide +kernel
theorem dX12_in_9 : decode cX12_in 9 = .ok (.lcmp, 1) := by decide +kernel
theorem dX12_in_10 : decode cX12_in 10 = .ok (.ifCond .gt 7, 3) := by decide +kernel
theorem dX12_in_13 : decode cX12_in 13 = .ok (.iconst 1, 1) := by decide +kernel
theorem dX12_in_14 : decode cX12_in 14 = .ok (.goto 4, 3) := by decide +kernel
theorem dX12_in_17 : decode cX12_in 17 = .ok (.iconst 0, 1) := by decide +kernel
theorem dX12_in_18 : decode cX12_in 18 = .ok (.ireturn, 1) := by decide +kernel
theorem dX12_is_0 : decode cX12_is 0 = .ok (.iload_n 0, 1) := by decide +kernel
theorem dX12_is_1 : decode cX12_is 1 = .ok (.iload_n 1, 1) := by decide +kernel
theorem dX12_is_2 : decode cX12_is 2 = .ok (.ishr, 1) := by decide +kernel
theorem dX12_is_3 : decode cX12_is 3 = .ok (.iconst 1, 1) := by decide +kernel
theorem dX12_is_4 : decode cX12_is 4 = .ok (.iand, 1) := by decide +kernel
theorem dX12_is_5 : decode cX12_is 5 = .ok (.iconst 1, 1) := by decide +kernel
theorem dX12_is_6 : decode cX12_is 6 = .ok (.if_icmp .ne 7, 3) := by decide +kernel
theorem dX12_is_9 : decode cX12_is 9 = .ok (.iconst 1, 1) := by decide +kernel
theorem dX12_is_10 : decode cX12_is 10 = .ok (.goto 4, 3) := by decide +kernel
theorem dX12_is_13 : decode cX12_is 13 = .ok (.iconst 0, 1) := by decide +kernel
theorem dX12_is_14 : decode cX12_is 14 = .ok (.ireturn, 1) := by decide +kernel
theorem dX12_ones_0 : decode cX12_ones 0 = .ok (.iconst 0, 1) := by decide +kernel
theorem dX12_ones_1 : decode cX12_ones 1 = .ok (.istore_n 1, 1) := by decide +kernel
theorem dX12_ones_2 : decode cX12_ones 2 = .ok (.iconst 0, 1) := by decide +kernel
theorem dX12_ones_3 : decode cX12_ones 3 = .ok (.istore_n 2, 1) := by decide +kernel
theorem dX12_ones_4 : decode cX12_ones 4 = .ok (.iload_n 2, 1) := by decide +kernel
theorem dX12_ones_5 : decode cX12_ones 5 = .ok (.bipush 8, 2) := by decide +kernel
theorem dX12_ones_7 : decode cX12_ones 7 = .ok (.if_icmp .ge 17, 3) := by decide +kernel
theorem dX12_ones_10 : decode cX12_ones 10 = .ok (.iload_n 1, 1) := by decide +kernel
theorem dX12_ones_11 : decode cX12_ones 11 = .ok (.iload_n 0, 1) := by decide +kernel
theorem dX12_ones_12 : decode cX12_ones 12 = .ok (.iload_n 2, 1) := by decide +kernel
theorem dX12_ones_13 : decode cX12_ones 13 = .ok (.ishr, 1) := by decide +kernel
theorem dX12_ones_14 : decode cX12_ones 14 = .ok (.iconst 1, 1) := by decide +kernel
theorem dX12_ones_15 : decode cX12_ones 15 = .ok (.iand, 1) := by decide +kernel
theorem dX12_ones_16 : decode cX12_ones 16 = .ok (.iadd, 1) := by decide +kernel
theorem dX12_ones_17 : decode cX12_ones 17 = .ok (.istore_n 1, 1) := by decide +kernel
theorem dX12_ones_18 : decode cX12_ones 18 = .ok (.iinc 2 1, 3) := by decide +kernel
theorem dX12_ones_21 : decode cX12_ones 21 = .ok (.goto (-17), 3) := by decide +kernel
theorem dX12_ones_24 : decode cX12_ones 24 = .ok (.iload_n 1, 1) := by decide +kernel
theorem dX12_ones_25 : decode cX12_ones 25 = .ok (.ireturn, 1) := by decide +kernel
theorem dX12_within_0 : decode cX12_within 0 = .ok (.lload_n 0, 1) := by decide +kernel
theorem dX12_within_1 : decode cX12_within 1 = .ok (.iload_n 2, 1) := by decide +kernel
theorem dX12_within_2 : decode cX12_within 2 = .ok (.i2l, 1) := by decide +kernel
theorem dX12_within_3 : decode cX12_within 3 = .ok (.lcmp, 1) := by decide +kernel
theorem dX12_within_4 : decode cX12_within 4 = .ok (.ifCond .ge 7, 3) := by decide +kernel
theorem dX12_within_7 : decode cX12_within 7 = .ok (.iload_n 2, 1) := by decide +kernel
theorem dX12_within_8 : decode cX12_within 8 = .ok (.goto 16, 3) := by decide +kernel
theorem dX12_within_11 : decode cX12_within 11 = .ok (.lload_n 0, 1) := by decide +kernel
theorem dX12_within_12 : decode cX12_within 12 = .ok (.iload_n 3, 1) := by decide +kernel
theorem dX12_within_13 : decode cX12_within 13 = .ok (.i2l, 1) := by decide +kernel
theorem dX12_within_14 : decode cX12_within 14 = .ok (.lcmp, 1) := by decide +kernel
theorem dX12_within_15 : decode cX12_within 15 = .ok (.ifCond .le 7, 3) := by decide +kernel
theorem dX12_within_18 : decode cX12_within 18 = .ok (.iload_n 3, 1) := by decide +kernel
theorem dX12_within_19 : decode cX12_within 19 = .ok (.goto 5, 3) := by decide +kernel
theorem dX12_within_22 : decode cX12_within 22 = .ok (.lload_n 0, 1) := by decide +kernel
theorem dX12_within_23 : decode cX12_within 23 = .ok (.l2i, 1) := by decide +kernel
theorem dX12_within_24 : decode cX12_within 24 = .ok (.ireturn, 1) := by decide +kernel
theorem dX12_tell_0 : decode cX12_tell 0 = .ok (.aload_n 0, 1) := by decide +kernel
theorem dX12_tell_1 : decode cX12_tell 1 = .ok (.iload_n 1, 1) := by decide +kernel
theorem dX12_tell_2 : decode cX12_tell 2 = .ok (.ifCond .ge 7, 3) := by decide +kernel
theorem dX12_tell_5 : decode cX12_tell 5 = .ok (.iload_n 1, 1) := by decide +kernel
theorem dX12_tell_6 : decode cX12_tell 6 = .ok (.goto 4, 3) := by decide +kernel
theorem dX12_tell_9 : decode cX12_tell 9 = .ok (.iconst 0, 1) := by decide +kernel
theorem dX12_tell_10 : decode cX12_tell 10 = .ok (.putfield 166, 3) := by decide +kernel
theorem dX12_tell_13 : decode cX12_tell 13 = .ok (.iload_n 1, 1) := by decide +kernel
theorem dX12_tell_14 : decode cX12_tell 14 = .ok (.ifCond .ge 14, 3) := by decide +kernel
theorem dX12_tell_17 : decode cX12_tell 17 = .ok (.aload_n 0, 1) := by decide +kernel
theorem dX12_tell_18 : decode cX12_tell 18 = .ok (.getfield 7, 3) := by decide +kernel
theorem dX12_tell_21 : decode cX12_tell 21 = .ok (.iload_n 1, 1) := by decide +kernel
theorem dX12_tell_22 : decode cX12_tell 22 = .ok (.ineg, 1) := by decide +kernel
theorem dX12_tell_23 : decode cX12_tell 23 = .ok (.dup2, 1) := by decide +kernel
theorem dX12_tell_24 : decode cX12_tell 24 = .ok (.iaload, 1) := by decide +kernel
theorem dX12_tell_25 : decode cX12_tell 25 = .ok (.iconst 1, 1) := by decide +kernel
theorem dX12_tell_26 : decode cX12_tell 26 = .ok (.iadd, 1) := by decide +kernel
theorem dX12_tell_27 : decode cX12_tell 27 = .ok (.iastore, 1) := by decide +kernel
theorem dX12_tell_28 : decode cX12_tell 28 = .ok (.iload_n 1, 1) := by decide +kernel
theorem dX12_tell_29 : decode cX12_tell 29 = .ok (.ireturn, 1) := by decide +kernel
theorem dX12_change_0 : decode cX12_change 0 = .ok (.aload_n 0, 1) := by decide +kernel
theorem dX12_change_1 : decode cX12_change 1 = .ok (.getfield 13, 3) := by decide +kernel
theorem dX12_change_4 : decode cX12_change 4 = .ok (.iload_n 1, 1) := by decide +kernel
theorem dX12_change_5 : decode cX12_change 5 = .ok (.iaload, 1) := by decide +kernel
theorem dX12_change_6 : decode cX12_change 6 = .ok (.istore_n 3, 1) := by decide +kernel
theorem dX12_change_7 : decode cX12_change 7 = .ok (.aload_n 0, 1) := by decide +kernel
theorem dX12_change_8 : decode cX12_change 8 = .ok (.getfield 13, 3) := by decide +kernel
theorem dX12_change_11 : decode cX12_change 11 = .ok (.iload_n 1, 1) := by decide +kernel
theorem dX12_change_12 : decode cX12_change 12 = .ok (.iload_n 2, 1) := by decide +kernel
theorem dX12_change_13 : decode cX12_change 13 = .ok (.iastore, 1) := by decide +kernel
theorem dX12_change_14 : decode cX12_change 14 = .ok (.aload_n 0, 1) := by decide +kernel
theorem dX12_change_15 : decode cX12_change 15 = .ok (.iconst 0, 1) := by decide +kernel
theorem dX12_change_16 : decode cX12_change 16 = .ok (.putfield 166, 3) := by decide +kernel
theorem dX12_change_19 : decode cX12_change 19 = .ok (.iload_n 3, 1) := by decide +kernel
theorem dX12_change_20 : decode cX12_change 20 = .ok (.ireturn, 1) := by decide +kernel
theorem dX12_settled_0 : decode cX12_settled 0 = .ok (.aload_n 0, 1) := by decide +kernel
theorem dX12_settled_1 : decode cX12_settled 1 = .ok (.iload_n 1, 1) := by decide +kernel
theorem dX12_settled_2 : decode cX12_settled 2 = .ok (.ifCond .ge 10, 3) := by decide +kernel
theorem dX12_settled_5 : decode cX12_settled 5 = .ok (.aload_n 0, 1) := by decide +kernel
theorem dX12_settled_6 : decode cX12_settled 6 = .ok (.getfield 169, 3) := by decide +kernel
theorem dX12_settled_9 : decode cX12_settled 9 = .ok (.goto 4, 3) := by decide +kernel
theorem dX12_settled_12 : decode cX12_settled 12 = .ok (.iconst 0, 1) := by decide +kernel
theorem dX12_settled_13 : decode cX12_settled 13 = .ok (.putfield 169, 3) := by decide +kernel
theorem dX12_settled_16 : decode cX12_settled 16 = .ok (.aload_n 0, 1) := by decide +kernel
theorem dX12_settled_17 : decode cX12_settled 17 = .ok (.iload_n 1, 1) := by decide +kernel
theorem dX12_settled_18 : decode cX12_settled 18 = .ok (.invokevirtual 172, 3) := by decide +kernel
theorem dX12_settled_21 : decode cX12_settled 21 = .ok (.ireturn, 1) := by decide +kernel
theorem dX12_keepAll_0 : decode cX12_keepAll 0 = .ok (.iconst 0, 1) := by decide +kernel
theorem dX12_keepAll_1 : decode cX12_keepAll 1 = .ok (.istore_n 2, 1) := by decide +kernel
theorem dX12_keepAll_2 : decode cX12_keepAll 2 = .ok (.iload_n 2, 1) := by decide +kernel
theorem dX12_keepAll_3 : decode cX12_keepAll 3 = .ok (.bipush 121, 2) := by decide +kernel
theorem dX12_keepAll_5 : decode cX12_keepAll 5 = .ok (.if_icmp .ge 28, 3) := by decide +kernel
theorem dX12_keepAll_8 : decode cX12_keepAll 8 = .ok (.aload_n 0, 1) := by decide +kernel
theorem dX12_keepAll_9 : decode cX12_keepAll 9 = .ok (.getfield 23, 3) := by decide +kernel
theorem dX12_keepAll_12 : decode cX12_keepAll 12 = .ok (.bipush 121, 2) := by decide +kernel
theorem dX12_keepAll_14 : decode cX12_keepAll 14 = .ok (.iload_n 1, 1) := by decide +kernel
theorem dX12_keepAll_15 : decode cX12_keepAll 15 = .ok (.imul, 1) := by decide +kernel
theorem dX12_keepAll_16 : decode cX12_keepAll 16 = .ok (.iload_n 2, 1) := by decide +kernel
theorem dX12_keepAll_17 : decode cX12_keepAll 17 = .ok (.iadd, 1) := by decide +kernel
theorem dX12_keepAll_18 : decode cX12_keepAll 18 = .ok (.aload_n 0, 1) := by decide +kernel
theorem dX12_keepAll_19 : decode cX12_keepAll 19 = .ok (.getfield 13, 3) := by decide +kernel
theorem dX12_keepAll_22 : decode cX12_keepAll 22 = .ok (.iconst 5, 1) := by decide +kernel
theorem dX12_keepAll_23 : decode cX12_keepAll 23 = .ok (.iload_n 2, 1) := by decide +kernel
theorem dX12_keepAll_24 : decode cX12_keepAll 24 = .ok (.iadd, 1) := by decide +kernel
theorem dX12_keepAll_25 : decode cX12_keepAll 25 = .ok (.iaload, 1) := by decide +kernel
theorem dX12_keepAll_26 : decode cX12_keepAll 26 = .ok (.iastore, 1) := by decide +kernel
theorem dX12_keepAll_27 : decode cX12_keepAll 27 = .ok (.iinc 2 1, 3) := by decide +kernel
theorem dX12_keepAll_30 : decode cX12_keepAll 30 = .ok (.goto (-28), 3) := by decide +kernel
theorem dX12_keepAll_33 : decode cX12_keepAll 33 = .ok (.return_, 1) := by decide +kernel
theorem dX12_putBack_0 : decode cX12_putBack 0 = .ok (.iconst 0, 1) := by decide +kernel
theorem dX12_putBack_1 : decode cX12_putBack 1 = .ok (.istore_n 2, 1) := by decide +kernel
theorem dX12_putBack_2 : decode cX12_putBack 2 = .ok (.iload_n 2, 1) := by decide +kernel
theorem dX12_putBack_3 : decode cX12_putBack 3 = .ok (.bipush 121, 2) := by decide +kernel
theorem dX12_putBack_5 : decode cX12_putBack 5 = .ok (.if_icmp .ge 28, 3) := by decide +kernel
theorem dX12_putBack_8 : decode cX12_putBack 8 = .ok (.aload_n 0, 1) := by decide +kernel
theorem dX12_putBack_9 : decode cX12_putBack 9 = .ok (.getfield 13, 3) := by decide +kernel
theorem dX12_putBack_12 : decode cX12_putBack 12 = .ok (.iconst 5, 1) := by decide +kernel
theorem dX12_putBack_13 : decode cX12_putBack 13 = .ok (.iload_n 2, 1) := by decide +kernel
theorem dX12_putBack_14 : decode cX12_putBack 14 = .ok (.iadd, 1) := by decide +kernel
theorem dX12_putBack_15 : decode cX12_putBack 15 = .ok (.aload_n 0, 1) := by decide +kernel
theorem dX12_putBack_16 : decode cX12_putBack 16 = .ok (.getfield 23, 3) := by decide +kernel
theorem dX12_putBack_19 : decode cX12_putBack 19 = .ok (.bipush 121, 2) := by decide +kernel
theorem dX12_putBack_21 : decode cX12_putBack 21 = .ok (.iload_n 1, 1) := by decide +kernel
theorem dX12_putBack_22 : decode cX12_putBack 22 = .ok (.imul, 1) := by decide +kernel
theorem dX12_putBack_23 : decode cX12_putBack 23 = .ok (.iload_n 2, 1) := by decide +kernel
theorem dX12_putBack_24 : decode cX12_putBack 24 = .ok (.iadd, 1) := by decide +kernel
theorem dX12_putBack_25 : decode cX12_putBack 25 = .ok (.iaload, 1) := by decide +kernel
theorem dX12_putBack_26 : decode cX12_putBack 26 = .ok (.iastore, 1) := by decide +kernel
theorem dX12_putBack_27 : decode cX12_putBack 27 = .ok (.iinc 2 1, 3) := by decide +kernel
theorem dX12_putBack_30 : decode cX12_putBack 30 = .ok (.goto (-28), 3) := by decide +kernel
theorem dX12_putBack_33 : decode cX12_putBack 33 = .ok (.return_, 1) := by decide +kernel
theorem dX12_remember_0 : decode cX12_remember 0 = .ok (.aload_n 0, 1) := by decide +kernel
theorem dX12_remember_1 : decode cX12_remember 1 = .ok (.getfield 169, 3) := by decide +kernel
theorem dX12_remember_4 : decode cX12_remember 4 = .ok (.bipush 16, 2) := by decide +kernel
theorem dX12_remember_6 : decode cX12_remember 6 = .ok (.if_icmp .ne 71, 3) := by decide +kernel
theorem dX12_remember_9 : decode cX12_remember 9 = .ok (.iconst 0, 1) := by decide +kernel
theorem dX12_remember_10 : decode cX12_remember 10 = .ok (.istore_n 2, 1) := by decide +kernel
theorem dX12_remember_11 : decode cX12_remember 11 = .ok (.iload_n 2, 1) := by decide +kernel
theorem dX12_remember_12 : decode cX12_remember 12 = .ok (.sipush 1815, 3) := by decide +kernel
theorem dX12_remember_15 : decode cX12_remember 15 = .ok (.if_icmp .ge 24, 3) := by decide +kernel
theorem dX12_remember_18 : decode cX12_remember 18 = .ok (.aload_n 0, 1) := by decide +kernel
theorem dX12_remember_19 : decode cX12_remember 19 = .ok (.getfield 23, 3) := by decide +kernel
theorem dX12_remember_22 : decode cX12_remember 22 = .ok (.iload_n 2, 1) := by decide +kernel
theorem dX12_remember_23 : decode cX12_remember 23 = .ok (.aload_n 0, 1) := by decide +kernel
theorem dX12_remember_24 : decode cX12_remember 24 = .ok (.getfield 23, 3) := by decide +kernel
theorem dX12_remember_27 : decode cX12_remember 27 = .ok (.iload_n 2, 1) := by decide +kernel
theorem dX12_remember_28 : decode cX12_remember 28 = .ok (.bipush 121, 2) := by decide +kernel
theorem dX12_remember_30 : decode cX12_remember 30 = .ok (.iadd, 1) := by decide +kernel
theorem dX12_remember_31 : decode cX12_remember 31 = .ok (.iaload, 1) := by decide +kernel
theorem dX12_remember_32 : decode cX12_remember 32 = .ok (.iastore, 1) := by decide +kernel
theorem dX12_remember_33 : decode cX12_remember 33 = .ok (.iinc 2 1, 3) := by decide +kernel
theorem dX12_remember_36 : decode cX12_remember 36 = .ok (.goto (-25), 3) := by decide +kernel
theorem dX12_remember_39 : decode cX12_remember 39 = .ok (.iconst 0, 1) := by decide +kernel
theorem dX12_remember_40 : decode cX12_remember 40 = .ok (.istore_n 2, 1) := by decide +kernel
theorem dX12_remember_41 : decode cX12_remember 41 = .ok (.iload_n 2, 1) := by decide +kernel
theorem dX12_remember_42 : decode cX12_remember 42 = .ok (.bipush 15, 2) := by decide +kernel
theorem dX12_remember_44 : decode cX12_remember 44 = .ok (.if_icmp .ge 23, 3) := by decide +kernel
theorem dX12_remember_47 : decode cX12_remember 47 = .ok (.aload_n 0, 1) := by decide +kernel
theorem dX12_remember_48 : decode cX12_remember 48 = .ok (.getfield 26, 3) := by decide +kernel
theorem dX12_remember_51 : decode cX12_remember 51 = .ok (.iload_n 2, 1) := by decide +kernel
theorem dX12_remember_52 : decode cX12_remember 52 = .ok (.aload_n 0, 1) := by decide +kernel
theorem dX12_remember_53 : decode cX12_remember 53 = .ok (.getfield 26, 3) := by decide +kernel
theorem dX12_remember_56 : decode cX12_remember 56 = .ok (.iload_n 2, 1) := by decide +kernel
theorem dX12_remember_57 : decode cX12_remember 57 = .ok (.iconst 1, 1) := by decide +kernel
theorem dX12_remember_58 : decode cX12_remember 58 = .ok (.iadd, 1) := by decide +kernel
theorem dX12_remember_59 : decode cX12_remember 59 = .ok (.iaload, 1) := by decide +kernel
theorem dX12_remember_60 : decode cX12_remember 60 = .ok (.iastore, 1) := by decide +kernel
theorem dX12_remember_61 : decode cX12_remember 61 = .ok (.iinc 2 1, 3) := by decide +kernel
theorem dX12_remember_64 : decode cX12_remember 64 = .ok (.goto (-23), 3) := by decide +kernel
theorem dX12_remember_67 : decode cX12_remember 67 = .ok (.aload_n 0, 1) := by decide +kernel
theorem dX12_remember_68 : decode cX12_remember 68 = .ok (.dup, 1) := by decide +kernel
theorem dX12_remember_69 : decode cX12_remember 69 = .ok (.getfield 169, 3) := by decide +kernel
theorem dX12_remember_72 : decode cX12_remember 72 = .ok (.iconst 1, 1) := by decide +kernel
theorem dX12_remember_73 : decode cX12_remember 73 = .ok (.isub, 1) := by decide +kernel
theorem dX12_remember_74 : decode cX12_remember 74 = .ok (.putfield 169, 3) := by decide +kernel
theorem dX12_remember_77 : decode cX12_remember 77 = .ok (.aload_n 0, 1) := by decide +kernel
theorem dX12_remember_78 : decode cX12_remember 78 = .ok (.aload_n 0, 1) := by decide +kernel
theorem dX12_remember_79 : decode cX12_remember 79 = .ok (.getfield 169, 3) := by decide +kernel
theorem dX12_remember_82 : decode cX12_remember 82 = .ok (.invokevirtual 176, 3) := by decide +kernel
theorem dX12_remember_85 : decode cX12_remember 85 = .ok (.aload_n 0, 1) := by decide +kernel
theorem dX12_remember_86 : decode cX12_remember 86 = .ok (.getfield 26, 3) := by decide +kernel
theorem dX12_remember_89 : decode cX12_remember 89 = .ok (.aload_n 0, 1) := by decide +kernel
theorem dX12_remember_90 : decode cX12_remember 90 = .ok (.getfield 169, 3) := by decide +kernel
theorem dX12_remember_93 : decode cX12_remember 93 = .ok (.iload_n 1, 1) := by decide +kernel
theorem dX12_remember_94 : decode cX12_remember 94 = .ok (.iastore, 1) := by decide +kernel
theorem dX12_remember_95 : decode cX12_remember 95 = .ok (.aload_n 0, 1) := by decide +kernel
theorem dX12_remember_96 : decode cX12_remember 96 = .ok (.dup, 1) := by decide +kernel
theorem dX12_remember_97 : decode cX12_remember 97 = .ok (.getfield 169, 3) := by decide +kernel
theorem dX12_remember_100 : decode cX12_remember 100 = .ok (.iconst 1, 1) := by decide +kernel
theorem dX12_remember_101 : decode cX12_remember 101 = .ok (.iadd, 1) := by decide +kernel
theorem dX12_remember_102 : decode cX12_remember 102 = .ok (.putfield 169, 3) := by decide +kernel
theorem dX12_remember_105 : decode cX12_remember 105 = .ok (.return_, 1) := by decide +kernel
theorem dX12_undo_0 : decode cX12_undo 0 = .ok (.aload_n 0, 1) := by decide +kernel
theorem dX12_undo_1 : decode cX12_undo 1 = .ok (.iconst 0, 1) := by decide +kernel
theorem dX12_undo_2 : decode cX12_undo 2 = .ok (.putfield 163, 3) := by decide +kernel
theorem dX12_undo_5 : decode cX12_undo 5 = .ok (.aload_n 0, 1) := by decide +kernel
theorem dX12_undo_6 : decode cX12_undo 6 = .ok (.getfield 169, 3) := by decide +kernel
theorem dX12_undo_9 : decode cX12_undo 9 = .ok (.ifCond .ne 10, 3) := by decide +kernel
theorem dX12_undo_12 : decode cX12_undo 12 = .ok (.aload_n 0, 1) := by decide +kernel
theorem dX12_undo_13 : decode cX12_undo 13 = .ok (.bipush (-3), 2) := by decide +kernel
theorem dX12_undo_15 : decode cX12_undo 15 = .ok (.invokevirtual 172, 3) := by decide +kernel
theorem dX12_undo_18 : decode cX12_undo 18 = .ok (.ireturn, 1) := by decide +kernel
theorem dX12_undo_19 : decode cX12_undo 19 = .ok (.aload_n 0, 1) := by decide +kernel
theorem dX12_undo_20 : decode cX12_undo 20 = .ok (.dup, 1) := by decide +kernel
theorem dX12_undo_21 : decode cX12_undo 21 = .ok (.getfield 169, 3) := by decide +kernel
theorem dX12_undo_24 : decode cX12_undo 24 = .ok (.iconst 1, 1) := by decide +kernel
theorem dX12_undo_25 : decode cX12_undo 25 = .ok (.isub, 1) := by decide +kernel
theorem dX12_undo_26 : decode cX12_undo 26 = .ok (.putfield 169, 3) := by decide +kernel
theorem dX12_undo_29 : decode cX12_undo 29 = .ok (.aload_n 0, 1) := by decide +kernel
theorem dX12_undo_30 : decode cX12_undo 30 = .ok (.aload_n 0, 1) := by decide +kernel
theorem dX12_undo_31 : decode cX12_undo 31 = .ok (.getfield 169, 3) := by decide +kernel
theorem dX12_undo_34 : decode cX12_undo 34 = .ok (.invokevirtual 180, 3) := by decide +kernel
theorem dX12_undo_37 : decode cX12_undo 37 = .ok (.aload_n 0, 1) := by decide +kernel
theorem dX12_undo_38 : decode cX12_undo 38 = .ok (.aload_n 0, 1) := by decide +kernel
theorem dX12_undo_39 : decode cX12_undo 39 = .ok (.getfield 26, 3) := by decide +kernel
theorem dX12_undo_42 : decode cX12_undo 42 = .ok (.aload_n 0, 1) := by decide +kernel
theorem dX12_undo_43 : decode cX12_undo 43 = .ok (.getfield 169, 3) := by decide +kernel
theorem dX12_undo_46 : decode cX12_undo 46 = .ok (.iaload, 1) := by decide +kernel
theorem dX12_undo_47 : decode cX12_undo 47 = .ok (.invokevirtual 172, 3) := by decide +kernel
theorem dX12_undo_50 : decode cX12_undo 50 = .ok (.ireturn, 1) := by decide +kernel
theorem dX12_image_0 : decode cX12_image 0 = .ok (.aload_n 0, 1) := by decide +kernel
theorem dX12_image_1 : decode cX12_image 1 = .ok (.iconst 0, 1) := by decide +kernel
theorem dX12_image_2 : decode cX12_image 2 = .ok (.putfield 163, 3) := by decide +kernel
theorem dX12_image_5 : decode cX12_image 5 = .ok (.iload_n 1, 1) := by decide +kernel
theorem dX12_image_6 : decode cX12_image 6 = .ok (.i2l, 1) := by decide +kernel
theorem dX12_image_7 : decode cX12_image 7 = .ok (.lconst 0, 1) := by decide +kernel
theorem dX12_image_8 : decode cX12_image 8 = .ok (.lconst 1, 1) := by decide +kernel
theorem dX12_image_9 : decode cX12_image 9 = .ok (.invokestatic 183, 3) := by decide +kernel
theorem dX12_image_12 : decode cX12_image 12 = .ok (.ifCond .ne 9, 3) := by decide +kernel
theorem dX12_image_15 : decode cX12_image 15 = .ok (.aload_n 0, 1) := by decide +kernel
theorem dX12_image_16 : decode cX12_image 16 = .ok (.iconst (-1), 1) := by decide +kernel
theorem dX12_image_17 : decode cX12_image 17 = .ok (.invokevirtual 172, 3) := by decide +kernel
theorem dX12_image_20 : decode cX12_image 20 = .ok (.ireturn, 1) := by decide +kernel
theorem dX12_image_21 : decode cX12_image 21 = .ok (.iconst 0, 1) := by decide +kernel
theorem dX12_image_22 : decode cX12_image 22 = .ok (.istore_n 2, 1) := by decide +kernel
theorem dX12_image_23 : decode cX12_image 23 = .ok (.iload_n 2, 1) := by decide +kernel
theorem dX12_image_24 : decode cX12_image 24 = .ok (.sipush 5585, 3) := by decide +kernel
theorem dX12_image_27 : decode cX12_image 27 = .ok (.if_icmp .ge 27, 3) := by decide +kernel
theorem dX12_image_30 : decode cX12_image 30 = .ok (.aload_n 0, 1) := by decide +kernel
theorem dX12_image_31 : decode cX12_image 31 = .ok (.getfield 16, 3) := by decide +kernel
theorem dX12_image_34 : decode cX12_image 34 = .ok (.sipush 5585, 3) := by decide +kernel
theorem dX12_image_37 : decode cX12_image 37 = .ok (.iload_n 1, 1) := by decide +kernel
theorem dX12_image_38 : decode cX12_image 38 = .ok (.imul, 1) := by decide +kernel
theorem dX12_image_39 : decode cX12_image 39 = .ok (.iload_n 2, 1) := by decide +kernel
theorem dX12_image_40 : decode cX12_image 40 = .ok (.iadd, 1) := by decide +kernel
theorem dX12_image_41 : decode cX12_image 41 = .ok (.aload_n 0, 1) := by decide +kernel
theorem dX12_image_42 : decode cX12_image 42 = .ok (.getfield 13, 3) := by decide +kernel
theorem dX12_image_45 : decode cX12_image 45 = .ok (.iload_n 2, 1) := by decide +kernel
theorem dX12_image_46 : decode cX12_image 46 = .ok (.iaload, 1) := by decide +kernel
theorem dX12_image_47 : decode cX12_image 47 = .ok (.iastore, 1) := by decide +kernel
theorem dX12_image_48 : decode cX12_image 48 = .ok (.iinc 2 1, 3) := by decide +kernel
theorem dX12_image_51 : decode cX12_image 51 = .ok (.goto (-28), 3) := by decide +kernel
theorem dX12_image_54 : decode cX12_image 54 = .ok (.aload_n 0, 1) := by decide +kernel
theorem dX12_image_55 : decode cX12_image 55 = .ok (.getfield 19, 3) := by decide +kernel
theorem dX12_image_58 : decode cX12_image 58 = .ok (.iload_n 1, 1) := by decide +kernel
theorem dX12_image_59 : decode cX12_image 59 = .ok (.iconst 1, 1) := by decide +kernel
theorem dX12_image_60 : decode cX12_image 60 = .ok (.bastore, 1) := by decide +kernel
theorem dX12_image_61 : decode cX12_image 61 = .ok (.aload_n 0, 1) := by decide +kernel
theorem dX12_image_62 : decode cX12_image 62 = .ok (.iconst 0, 1) := by decide +kernel
theorem dX12_image_63 : decode cX12_image 63 = .ok (.invokevirtual 172, 3) := by decide +kernel
theorem dX12_image_66 : decode cX12_image 66 = .ok (.ireturn, 1) := by decide +kernel
theorem dX12_back_0 : decode cX12_back 0 = .ok (.aload_n 0, 1) := by decide +kernel
theorem dX12_back_1 : decode cX12_back 1 = .ok (.iconst 0, 1) := by decide +kernel
theorem dX12_back_2 : decode cX12_back 2 = .ok (.putfield 163, 3) := by decide +kernel
theorem dX12_back_5 : decode cX12_back 5 = .ok (.iload_n 1, 1) := by decide +kernel
theorem dX12_back_6 : decode cX12_back 6 = .ok (.i2l, 1) := by decide +kernel
theorem dX12_back_7 : decode cX12_back 7 = .ok (.lconst 0, 1) := by decide +kernel
