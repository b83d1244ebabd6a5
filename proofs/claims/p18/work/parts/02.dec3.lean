theorem dX12_back_8 : decode cX12_back 8 = .ok (.lconst 1, 1) := by decide +kernel
theorem dX12_back_9 : decode cX12_back 9 = .ok (.invokestatic 183, 3) := by decide +kernel
theorem dX12_back_12 : decode cX12_back 12 = .ok (.ifCond .ne 9, 3) := by decide +kernel
theorem dX12_back_15 : decode cX12_back 15 = .ok (.aload_n 0, 1) := by decide +kernel
theorem dX12_back_16 : decode cX12_back 16 = .ok (.iconst (-1), 1) := by decide +kernel
theorem dX12_back_17 : decode cX12_back 17 = .ok (.invokevirtual 172, 3) := by decide +kernel
theorem dX12_back_20 : decode cX12_back 20 = .ok (.ireturn, 1) := by decide +kernel
theorem dX12_back_21 : decode cX12_back 21 = .ok (.aload_n 0, 1) := by decide +kernel
theorem dX12_back_22 : decode cX12_back 22 = .ok (.getfield 19, 3) := by decide +kernel
theorem dX12_back_25 : decode cX12_back 25 = .ok (.iload_n 1, 1) := by decide +kernel
theorem dX12_back_26 : decode cX12_back 26 = .ok (.baload, 1) := by decide +kernel
theorem dX12_back_27 : decode cX12_back 27 = .ok (.ifCond .ne 10, 3) := by decide +kernel
theorem dX12_back_30 : decode cX12_back 30 = .ok (.aload_n 0, 1) := by decide +kernel
theorem dX12_back_31 : decode cX12_back 31 = .ok (.bipush (-2), 2) := by decide +kernel
theorem dX12_back_33 : decode cX12_back 33 = .ok (.invokevirtual 172, 3) := by decide +kernel
theorem dX12_back_36 : decode cX12_back 36 = .ok (.ireturn, 1) := by decide +kernel
theorem dX12_back_37 : decode cX12_back 37 = .ok (.iconst 0, 1) := by decide +kernel
theorem dX12_back_38 : decode cX12_back 38 = .ok (.istore_n 2, 1) := by decide +kernel
theorem dX12_back_39 : decode cX12_back 39 = .ok (.iload_n 2, 1) := by decide +kernel
theorem dX12_back_40 : decode cX12_back 40 = .ok (.sipush 5585, 3) := by decide +kernel
theorem dX12_back_43 : decode cX12_back 43 = .ok (.if_icmp .ge 27, 3) := by decide +kernel
theorem dX12_back_46 : decode cX12_back 46 = .ok (.aload_n 0, 1) := by decide +kernel
theorem dX12_back_47 : decode cX12_back 47 = .ok (.getfield 13, 3) := by decide +kernel
theorem dX12_back_50 : decode cX12_back 50 = .ok (.iload_n 2, 1) := by decide +kernel
theorem dX12_back_51 : decode cX12_back 51 = .ok (.aload_n 0, 1) := by decide +kernel
theorem dX12_back_52 : decode cX12_back 52 = .ok (.getfield 16, 3) := by decide +kernel
theorem dX12_back_55 : decode cX12_back 55 = .ok (.sipush 5585, 3) := by decide +kernel
theorem dX12_back_58 : decode cX12_back 58 = .ok (.iload_n 1, 1) := by decide +kernel
theorem dX12_back_59 : decode cX12_back 59 = .ok (.imul, 1) := by decide +kernel
theorem dX12_back_60 : decode cX12_back 60 = .ok (.iload_n 2, 1) := by decide +kernel
theorem dX12_back_61 : decode cX12_back 61 = .ok (.iadd, 1) := by decide +kernel
theorem dX12_back_62 : decode cX12_back 62 = .ok (.iaload, 1) := by decide +kernel
theorem dX12_back_63 : decode cX12_back 63 = .ok (.iastore, 1) := by decide +kernel
theorem dX12_back_64 : decode cX12_back 64 = .ok (.iinc 2 1, 3) := by decide +kernel
theorem dX12_back_67 : decode cX12_back 67 = .ok (.goto (-28), 3) := by decide +kernel
theorem dX12_back_70 : decode cX12_back 70 = .ok (.aload_n 0, 1) := by decide +kernel
theorem dX12_back_71 : decode cX12_back 71 = .ok (.iconst 0, 1) := by decide +kernel
theorem dX12_back_72 : decode cX12_back 72 = .ok (.invokevirtual 187, 3) := by decide +kernel
theorem dX12_back_75 : decode cX12_back 75 = .ok (.ireturn, 1) := by decide +kernel
theorem dX12_isHouse_0 : decode cX12_isHouse 0 = .ok (.iload_n 1, 1) := by decide +kernel
theorem dX12_isHouse_1 : decode cX12_isHouse 1 = .ok (.i2l, 1) := by decide +kernel
theorem dX12_isHouse_2 : decode cX12_isHouse 2 = .ok (.lconst 0, 1) := by decide +kernel
theorem dX12_isHouse_3 : decode cX12_isHouse 3 = .ok (.aload_n 0, 1) := by decide +kernel
theorem dX12_isHouse_4 : decode cX12_isHouse 4 = .ok (.getfield 13, 3) := by decide +kernel
theorem dX12_isHouse_7 : decode cX12_isHouse 7 = .ok (.iconst 0, 1) := by decide +kernel
theorem dX12_isHouse_8 : decode cX12_isHouse 8 = .ok (.iaload, 1) := by decide +kernel
theorem dX12_isHouse_9 : decode cX12_isHouse 9 = .ok (.i2l, 1) := by decide +kernel
theorem dX12_isHouse_10 : decode cX12_isHouse 10 = .ok (.lconst 1, 1) := by decide +kernel
theorem dX12_isHouse_11 : decode cX12_isHouse 11 = .ok (.lsub, 1) := by decide +kernel
theorem dX12_isHouse_12 : decode cX12_isHouse 12 = .ok (.invokestatic 183, 3) := by decide +kernel
theorem dX12_isHouse_15 : decode cX12_isHouse 15 = .ok (.ireturn, 1) := by decide +kernel
theorem dX12_isPerson_0 : decode cX12_isPerson 0 = .ok (.iload_n 1, 1) := by decide +kernel
theorem dX12_isPerson_1 : decode cX12_isPerson 1 = .ok (.i2l, 1) := by decide +kernel
theorem dX12_isPerson_2 : decode cX12_isPerson 2 = .ok (.lconst 0, 1) := by decide +kernel
theorem dX12_isPerson_3 : decode cX12_isPerson 3 = .ok (.aload_n 0, 1) := by decide +kernel
theorem dX12_isPerson_4 : decode cX12_isPerson 4 = .ok (.getfield 13, 3) := by decide +kernel
theorem dX12_isPerson_7 : decode cX12_isPerson 7 = .ok (.iconst 1, 1) := by decide +kernel
theorem dX12_isPerson_8 : decode cX12_isPerson 8 = .ok (.iaload, 1) := by decide +kernel
theorem dX12_isPerson_9 : decode cX12_isPerson 9 = .ok (.i2l, 1) := by decide +kernel
theorem dX12_isPerson_10 : decode cX12_isPerson 10 = .ok (.lconst 1, 1) := by decide +kernel
theorem dX12_isPerson_11 : decode cX12_isPerson 11 = .ok (.lsub, 1) := by decide +kernel
theorem dX12_isPerson_12 : decode cX12_isPerson 12 = .ok (.invokestatic 183, 3) := by decide +kernel
theorem dX12_isPerson_15 : decode cX12_isPerson 15 = .ok (.ireturn, 1) := by decide +kernel
theorem dX12_isPlace_0 : decode cX12_isPlace 0 = .ok (.iload_n 0, 1) := by decide +kernel
theorem dX12_isPlace_1 : decode cX12_isPlace 1 = .ok (.i2l, 1) := by decide +kernel
theorem dX12_isPlace_2 : decode cX12_isPlace 2 = .ok (.lconst 0, 1) := by decide +kernel
theorem dX12_isPlace_3 : decode cX12_isPlace 3 = .ok (.ldc2_w 190, 3) := by decide +kernel
theorem dX12_isPlace_6 : decode cX12_isPlace 6 = .ok (.invokestatic 183, 3) := by decide +kernel
theorem dX12_isPlace_9 : decode cX12_isPlace 9 = .ok (.ireturn, 1) := by decide +kernel
theorem dX12_lives_0 : decode cX12_lives 0 = .ok (.aload_n 0, 1) := by decide +kernel
theorem dX12_lives_1 : decode cX12_lives 1 = .ok (.getfield 13, 3) := by decide +kernel
theorem dX12_lives_4 : decode cX12_lives 4 = .ok (.bipush 22, 2) := by decide +kernel
theorem dX12_lives_6 : decode cX12_lives 6 = .ok (.iload_n 1, 1) := by decide +kernel
theorem dX12_lives_7 : decode cX12_lives 7 = .ok (.iadd, 1) := by decide +kernel
theorem dX12_lives_8 : decode cX12_lives 8 = .ok (.iaload, 1) := by decide +kernel
theorem dX12_lives_9 : decode cX12_lives 9 = .ok (.ifCond .ne 7, 3) := by decide +kernel
theorem dX12_lives_12 : decode cX12_lives 12 = .ok (.iconst 1, 1) := by decide +kernel
theorem dX12_lives_13 : decode cX12_lives 13 = .ok (.goto 4, 3) := by decide +kernel
theorem dX12_lives_16 : decode cX12_lives 16 = .ok (.iconst 0, 1) := by decide +kernel
theorem dX12_lives_17 : decode cX12_lives 17 = .ok (.ireturn, 1) := by decide +kernel
theorem dX12_living_0 : decode cX12_living 0 = .ok (.iconst 0, 1) := by decide +kernel
theorem dX12_living_1 : decode cX12_living 1 = .ok (.istore_n 1, 1) := by decide +kernel
theorem dX12_living_2 : decode cX12_living 2 = .ok (.iconst 0, 1) := by decide +kernel
theorem dX12_living_3 : decode cX12_living 3 = .ok (.istore_n 2, 1) := by decide +kernel
theorem dX12_living_4 : decode cX12_living 4 = .ok (.iload_n 2, 1) := by decide +kernel
theorem dX12_living_5 : decode cX12_living 5 = .ok (.aload_n 0, 1) := by decide +kernel
theorem dX12_living_6 : decode cX12_living 6 = .ok (.getfield 13, 3) := by decide +kernel
theorem dX12_living_9 : decode cX12_living 9 = .ok (.iconst 1, 1) := by decide +kernel
theorem dX12_living_10 : decode cX12_living 10 = .ok (.iaload, 1) := by decide +kernel
theorem dX12_living_11 : decode cX12_living 11 = .ok (.if_icmp .ge 27, 3) := by decide +kernel
theorem dX12_living_14 : decode cX12_living 14 = .ok (.iload_n 1, 1) := by decide +kernel
theorem dX12_living_15 : decode cX12_living 15 = .ok (.aload_n 0, 1) := by decide +kernel
theorem dX12_living_16 : decode cX12_living 16 = .ok (.iload_n 2, 1) := by decide +kernel
theorem dX12_living_17 : decode cX12_living 17 = .ok (.invokevirtual 192, 3) := by decide +kernel
theorem dX12_living_20 : decode cX12_living 20 = .ok (.ifCond .eq 9, 3) := by decide +kernel
theorem dX12_living_23 : decode cX12_living 23 = .ok (.iconst 1, 1) := by decide +kernel
theorem dX12_living_24 : decode cX12_living 24 = .ok (.iload_n 2, 1) := by decide +kernel
theorem dX12_living_25 : decode cX12_living 25 = .ok (.ishl, 1) := by decide +kernel
theorem dX12_living_26 : decode cX12_living 26 = .ok (.goto 4, 3) := by decide +kernel
theorem dX12_living_29 : decode cX12_living 29 = .ok (.iconst 0, 1) := by decide +kernel
theorem dX12_living_30 : decode cX12_living 30 = .ok (.ior, 1) := by decide +kernel
theorem dX12_living_31 : decode cX12_living 31 = .ok (.istore_n 1, 1) := by decide +kernel
theorem dX12_living_32 : decode cX12_living 32 = .ok (.iinc 2 1, 3) := by decide +kernel
theorem dX12_living_35 : decode cX12_living 35 = .ok (.goto (-31), 3) := by decide +kernel
theorem dX12_living_38 : decode cX12_living 38 = .ok (.iload_n 1, 1) := by decide +kernel
theorem dX12_living_39 : decode cX12_living 39 = .ok (.ireturn, 1) := by decide +kernel
theorem dX12_rights_0 : decode cX12_rights 0 = .ok (.aload_n 0, 1) := by decide +kernel
theorem dX12_rights_1 : decode cX12_rights 1 = .ok (.getfield 13, 3) := by decide +kernel
theorem dX12_rights_4 : decode cX12_rights 4 = .ok (.bipush 30, 2) := by decide +kernel
theorem dX12_rights_6 : decode cX12_rights 6 = .ok (.bipush 6, 2) := by decide +kernel
theorem dX12_rights_8 : decode cX12_rights 8 = .ok (.iload_n 1, 1) := by decide +kernel
theorem dX12_rights_9 : decode cX12_rights 9 = .ok (.imul, 1) := by decide +kernel
theorem dX12_rights_10 : decode cX12_rights 10 = .ok (.iadd, 1) := by decide +kernel
theorem dX12_rights_11 : decode cX12_rights 11 = .ok (.iload_n 2, 1) := by decide +kernel
theorem dX12_rights_12 : decode cX12_rights 12 = .ok (.iadd, 1) := by decide +kernel
theorem dX12_rights_13 : decode cX12_rights 13 = .ok (.iaload, 1) := by decide +kernel
theorem dX12_rights_14 : decode cX12_rights 14 = .ok (.ireturn, 1) := by decide +kernel
theorem dX12_leftOf_0 : decode cX12_leftOf 0 = .ok (.aload_n 0, 1) := by decide +kernel
theorem dX12_leftOf_1 : decode cX12_leftOf 1 = .ok (.iload_n 1, 1) := by decide +kernel
theorem dX12_leftOf_2 : decode cX12_leftOf 2 = .ok (.iload_n 2, 1) := by decide +kernel
theorem dX12_leftOf_3 : decode cX12_leftOf 3 = .ok (.invokevirtual 196, 3) := by decide +kernel
theorem dX12_leftOf_6 : decode cX12_leftOf 6 = .ok (.aload_n 0, 1) := by decide +kernel
theorem dX12_leftOf_7 : decode cX12_leftOf 7 = .ok (.getfield 13, 3) := by decide +kernel
theorem dX12_leftOf_10 : decode cX12_leftOf 10 = .ok (.bipush 78, 2) := by decide +kernel
theorem dX12_leftOf_12 : decode cX12_leftOf 12 = .ok (.bipush 6, 2) := by decide +kernel
theorem dX12_leftOf_14 : decode cX12_leftOf 14 = .ok (.iload_n 1, 1) := by decide +kernel
theorem dX12_leftOf_15 : decode cX12_leftOf 15 = .ok (.imul, 1) := by decide +kernel
theorem dX12_leftOf_16 : decode cX12_leftOf 16 = .ok (.iadd, 1) := by decide +kernel
theorem dX12_leftOf_17 : decode cX12_leftOf 17 = .ok (.iload_n 2, 1) := by decide +kernel
theorem dX12_leftOf_18 : decode cX12_leftOf 18 = .ok (.iadd, 1) := by decide +kernel
theorem dX12_leftOf_19 : decode cX12_leftOf 19 = .ok (.iaload, 1) := by decide +kernel
theorem dX12_leftOf_20 : decode cX12_leftOf 20 = .ok (.isub, 1) := by decide +kernel
theorem dX12_leftOf_21 : decode cX12_leftOf 21 = .ok (.ireturn, 1) := by decide +kernel
theorem dX12_leftOfAll_0 : decode cX12_leftOfAll 0 = .ok (.iconst 0, 1) := by decide +kernel
theorem dX12_leftOfAll_1 : decode cX12_leftOfAll 1 = .ok (.istore_n 2, 1) := by decide +kernel
theorem dX12_leftOfAll_2 : decode cX12_leftOfAll 2 = .ok (.iconst 0, 1) := by decide +kernel
theorem dX12_leftOfAll_3 : decode cX12_leftOfAll 3 = .ok (.istore_n 3, 1) := by decide +kernel
theorem dX12_leftOfAll_4 : decode cX12_leftOfAll 4 = .ok (.iload_n 3, 1) := by decide +kernel
theorem dX12_leftOfAll_5 : decode cX12_leftOfAll 5 = .ok (.aload_n 0, 1) := by decide +kernel
theorem dX12_leftOfAll_6 : decode cX12_leftOfAll 6 = .ok (.getfield 13, 3) := by decide +kernel
theorem dX12_leftOfAll_9 : decode cX12_leftOfAll 9 = .ok (.iconst 0, 1) := by decide +kernel
theorem dX12_leftOfAll_10 : decode cX12_leftOfAll 10 = .ok (.iaload, 1) := by decide +kernel
theorem dX12_leftOfAll_11 : decode cX12_leftOfAll 11 = .ok (.if_icmp .ge 18, 3) := by decide +kernel
theorem dX12_leftOfAll_14 : decode cX12_leftOfAll 14 = .ok (.iload_n 2, 1) := by decide +kernel
theorem dX12_leftOfAll_15 : decode cX12_leftOfAll 15 = .ok (.aload_n 0, 1) := by decide +kernel
theorem dX12_leftOfAll_16 : decode cX12_leftOfAll 16 = .ok (.iload_n 1, 1) := by decide +kernel
theorem dX12_leftOfAll_17 : decode cX12_leftOfAll 17 = .ok (.iload_n 3, 1) := by decide +kernel
theorem dX12_leftOfAll_18 : decode cX12_leftOfAll 18 = .ok (.invokevirtual 200, 3) := by decide +kernel
theorem dX12_leftOfAll_21 : decode cX12_leftOfAll 21 = .ok (.iadd, 1) := by decide +kernel
theorem dX12_leftOfAll_22 : decode cX12_leftOfAll 22 = .ok (.istore_n 2, 1) := by decide +kernel
theorem dX12_leftOfAll_23 : decode cX12_leftOfAll 23 = .ok (.iinc 3 1, 3) := by decide +kernel
theorem dX12_leftOfAll_26 : decode cX12_leftOfAll 26 = .ok (.goto (-22), 3) := by decide +kernel
theorem dX12_leftOfAll_29 : decode cX12_leftOfAll 29 = .ok (.iload_n 2, 1) := by decide +kernel
theorem dX12_leftOfAll_30 : decode cX12_leftOfAll 30 = .ok (.ireturn, 1) := by decide +kernel
theorem dX12_stepsOf_0 : decode cX12_stepsOf 0 = .ok (.iload_n 0, 1) := by decide +kernel
theorem dX12_stepsOf_1 : decode cX12_stepsOf 1 = .ok (.iconst 5, 1) := by decide +kernel
theorem dX12_stepsOf_2 : decode cX12_stepsOf 2 = .ok (.irem, 1) := by decide +kernel
theorem dX12_stepsOf_3 : decode cX12_stepsOf 3 = .ok (.iload_n 1, 1) := by decide +kernel
theorem dX12_stepsOf_4 : decode cX12_stepsOf 4 = .ok (.iconst 5, 1) := by decide +kernel
theorem dX12_stepsOf_5 : decode cX12_stepsOf 5 = .ok (.irem, 1) := by decide +kernel
theorem dX12_stepsOf_6 : decode cX12_stepsOf 6 = .ok (.isub, 1) := by decide +kernel
theorem dX12_stepsOf_7 : decode cX12_stepsOf 7 = .ok (.istore_n 2, 1) := by decide +kernel
theorem dX12_stepsOf_8 : decode cX12_stepsOf 8 = .ok (.iload_n 0, 1) := by decide +kernel
theorem dX12_stepsOf_9 : decode cX12_stepsOf 9 = .ok (.iconst 5, 1) := by decide +kernel
theorem dX12_stepsOf_10 : decode cX12_stepsOf 10 = .ok (.idiv, 1) := by decide +kernel
theorem dX12_stepsOf_11 : decode cX12_stepsOf 11 = .ok (.iload_n 1, 1) := by decide +kernel
theorem dX12_stepsOf_12 : decode cX12_stepsOf 12 = .ok (.iconst 5, 1) := by decide +kernel
theorem dX12_stepsOf_13 : decode cX12_stepsOf 13 = .ok (.idiv, 1) := by decide +kernel
theorem dX12_stepsOf_14 : decode cX12_stepsOf 14 = .ok (.isub, 1) := by decide +kernel
theorem dX12_stepsOf_15 : decode cX12_stepsOf 15 = .ok (.istore_n 3, 1) := by decide +kernel
theorem dX12_stepsOf_16 : decode cX12_stepsOf 16 = .ok (.iload_n 2, 1) := by decide +kernel
theorem dX12_stepsOf_17 : decode cX12_stepsOf 17 = .ok (.ifCond .ge 8, 3) := by decide +kernel
theorem dX12_stepsOf_20 : decode cX12_stepsOf 20 = .ok (.iload_n 2, 1) := by decide +kernel
theorem dX12_stepsOf_21 : decode cX12_stepsOf 21 = .ok (.ineg, 1) := by decide +kernel
theorem dX12_stepsOf_22 : decode cX12_stepsOf 22 = .ok (.goto 4, 3) := by decide +kernel
theorem dX12_stepsOf_25 : decode cX12_stepsOf 25 = .ok (.iload_n 2, 1) := by decide +kernel
theorem dX12_stepsOf_26 : decode cX12_stepsOf 26 = .ok (.iload_n 3, 1) := by decide +kernel
theorem dX12_stepsOf_27 : decode cX12_stepsOf 27 = .ok (.ifCond .ge 8, 3) := by decide +kernel
theorem dX12_stepsOf_30 : decode cX12_stepsOf 30 = .ok (.iload_n 3, 1) := by decide +kernel
theorem dX12_stepsOf_31 : decode cX12_stepsOf 31 = .ok (.ineg, 1) := by decide +kernel
theorem dX12_stepsOf_32 : decode cX12_stepsOf 32 = .ok (.goto 4, 3) := by decide +kernel
theorem dX12_stepsOf_35 : decode cX12_stepsOf 35 = .ok (.iload_n 3, 1) := by decide +kernel
theorem dX12_stepsOf_36 : decode cX12_stepsOf 36 = .ok (.iadd, 1) := by decide +kernel
theorem dX12_stepsOf_37 : decode cX12_stepsOf 37 = .ok (.ireturn, 1) := by decide +kernel
theorem dX12_house_0 : decode cX12_house 0 = .ok (.aload_n 0, 1) := by decide +kernel
theorem dX12_house_1 : decode cX12_house 1 = .ok (.iconst 0, 1) := by decide +kernel
theorem dX12_house_2 : decode cX12_house 2 = .ok (.putfield 163, 3) := by decide +kernel
theorem dX12_house_5 : decode cX12_house 5 = .ok (.iload_n 1, 1) := by decide +kernel
theorem dX12_house_6 : decode cX12_house 6 = .ok (.invokestatic 203, 3) := by decide +kernel
theorem dX12_house_9 : decode cX12_house 9 = .ok (.ifCond .eq 15, 3) := by decide +kernel
theorem dX12_house_12 : decode cX12_house 12 = .ok (.iload_n 2, 1) := by decide +kernel
theorem dX12_house_13 : decode cX12_house 13 = .ok (.i2l, 1) := by decide +kernel
theorem dX12_house_14 : decode cX12_house 14 = .ok (.lconst 0, 1) := by decide +kernel
theorem dX12_house_15 : decode cX12_house 15 = .ok (.ldc2_w 206, 3) := by decide +kernel
theorem dX12_house_18 : decode cX12_house 18 = .ok (.invokestatic 183, 3) := by decide +kernel
theorem dX12_house_21 : decode cX12_house 21 = .ok (.ifCond .ne 9, 3) := by decide +kernel
theorem dX12_house_24 : decode cX12_house 24 = .ok (.aload_n 0, 1) := by decide +kernel
theorem dX12_house_25 : decode cX12_house 25 = .ok (.iconst (-1), 1) := by decide +kernel
theorem dX12_house_26 : decode cX12_house 26 = .ok (.invokevirtual 172, 3) := by decide +kernel
theorem dX12_house_29 : decode cX12_house 29 = .ok (.ireturn, 1) := by decide +kernel
theorem dX12_house_30 : decode cX12_house 30 = .ok (.aload_n 0, 1) := by decide +kernel
theorem dX12_house_31 : decode cX12_house 31 = .ok (.getfield 13, 3) := by decide +kernel
theorem dX12_house_34 : decode cX12_house 34 = .ok (.iconst 0, 1) := by decide +kernel
theorem dX12_house_35 : decode cX12_house 35 = .ok (.iaload, 1) := by decide +kernel
theorem dX12_house_36 : decode cX12_house 36 = .ok (.istore_n 3, 1) := by decide +kernel
theorem dX12_house_37 : decode cX12_house 37 = .ok (.iload_n 3, 1) := by decide +kernel
theorem dX12_house_38 : decode cX12_house 38 = .ok (.bipush 6, 2) := by decide +kernel
theorem dX12_house_40 : decode cX12_house 40 = .ok (.if_icmp .ne 10, 3) := by decide +kernel
theorem dX12_house_43 : decode cX12_house 43 = .ok (.aload_n 0, 1) := by decide +kernel
theorem dX12_house_44 : decode cX12_house 44 = .ok (.bipush (-5), 2) := by decide +kernel
theorem dX12_house_46 : decode cX12_house 46 = .ok (.invokevirtual 172, 3) := by decide +kernel
theorem dX12_house_49 : decode cX12_house 49 = .ok (.ireturn, 1) := by decide +kernel
theorem dX12_house_50 : decode cX12_house 50 = .ok (.aload_n 0, 1) := by decide +kernel
theorem dX12_house_51 : decode cX12_house 51 = .ok (.getfield 13, 3) := by decide +kernel
theorem dX12_house_54 : decode cX12_house 54 = .ok (.bipush 126, 2) := by decide +kernel
theorem dX12_house_56 : decode cX12_house 56 = .ok (.iload_n 3, 1) := by decide +kernel
theorem dX12_house_57 : decode cX12_house 57 = .ok (.iadd, 1) := by decide +kernel
theorem dX12_house_58 : decode cX12_house 58 = .ok (.iload_n 1, 1) := by decide +kernel
theorem dX12_house_59 : decode cX12_house 59 = .ok (.iastore, 1) := by decide +kernel
theorem dX12_house_60 : decode cX12_house 60 = .ok (.aload_n 0, 1) := by decide +kernel
theorem dX12_house_61 : decode cX12_house 61 = .ok (.getfield 13, 3) := by decide +kernel
theorem dX12_house_64 : decode cX12_house 64 = .ok (.sipush 132, 3) := by decide +kernel
theorem dX12_house_67 : decode cX12_house 67 = .ok (.iload_n 3, 1) := by decide +kernel
theorem dX12_house_68 : decode cX12_house 68 = .ok (.iadd, 1) := by decide +kernel
theorem dX12_house_69 : decode cX12_house 69 = .ok (.iload_n 2, 1) := by decide +kernel
theorem dX12_house_70 : decode cX12_house 70 = .ok (.iastore, 1) := by decide +kernel
theorem dX12_house_71 : decode cX12_house 71 = .ok (.aload_n 0, 1) := by decide +kernel
theorem dX12_house_72 : decode cX12_house 72 = .ok (.getfield 13, 3) := by decide +kernel
theorem dX12_house_75 : decode cX12_house 75 = .ok (.bipush 8, 2) := by decide +kernel
theorem dX12_house_77 : decode cX12_house 77 = .ok (.iload_n 3, 1) := by decide +kernel
theorem dX12_house_78 : decode cX12_house 78 = .ok (.iadd, 1) := by decide +kernel
theorem dX12_house_79 : decode cX12_house 79 = .ok (.iconst 0, 1) := by decide +kernel
theorem dX12_house_80 : decode cX12_house 80 = .ok (.iastore, 1) := by decide +kernel
theorem dX12_house_81 : decode cX12_house 81 = .ok (.iconst 0, 1) := by decide +kernel
theorem dX12_house_82 : decode cX12_house 82 = .ok (.istore 4, 2) := by decide +kernel
theorem dX12_house_84 : decode cX12_house 84 = .ok (.iload 4, 2) := by decide +kernel
theorem dX12_house_86 : decode cX12_house 86 = .ok (.bipush 8, 2) := by decide +kernel
theorem dX12_house_88 : decode cX12_house 88 = .ok (.if_icmp .ge 41, 3) := by decide +kernel
theorem dX12_house_91 : decode cX12_house 91 = .ok (.aload_n 0, 1) := by decide +kernel
theorem dX12_house_92 : decode cX12_house 92 = .ok (.getfield 13, 3) := by decide +kernel
theorem dX12_house_95 : decode cX12_house 95 = .ok (.bipush 30, 2) := by decide +kernel
theorem dX12_house_97 : decode cX12_house 97 = .ok (.bipush 6, 2) := by decide +kernel
theorem dX12_house_99 : decode cX12_house 99 = .ok (.iload 4, 2) := by decide +kernel
theorem dX12_house_101 : decode cX12_house 101 = .ok (.imul, 1) := by decide +kernel
theorem dX12_house_102 : decode cX12_house 102 = .ok (.iadd, 1) := by decide +kernel
theorem dX12_house_103 : decode cX12_house 103 = .ok (.iload_n 3, 1) := by decide +kernel
theorem dX12_house_104 : decode cX12_house 104 = .ok (.iadd, 1) := by decide +kernel
theorem dX12_house_105 : decode cX12_house 105 = .ok (.iconst 0, 1) := by decide +kernel
theorem dX12_house_106 : decode cX12_house 106 = .ok (.iastore, 1) := by decide +kernel
theorem dX12_house_107 : decode cX12_house 107 = .ok (.aload_n 0, 1) := by decide +kernel
theorem dX12_house_108 : decode cX12_house 108 = .ok (.getfield 13, 3) := by decide +kernel
theorem dX12_house_111 : decode cX12_house 111 = .ok (.bipush 78, 2) := by decide +kernel
theorem dX12_house_113 : decode cX12_house 113 = .ok (.bipush 6, 2) := by decide +kernel
theorem dX12_house_115 : decode cX12_house 115 = .ok (.iload 4, 2) := by decide +kernel
theorem dX12_house_117 : decode cX12_house 117 = .ok (.imul, 1) := by decide +kernel
theorem dX12_house_118 : decode cX12_house 118 = .ok (.iadd, 1) := by decide +kernel
theorem dX12_house_119 : decode cX12_house 119 = .ok (.iload_n 3, 1) := by decide +kernel
theorem dX12_house_120 : decode cX12_house 120 = .ok (.iadd, 1) := by decide +kernel
theorem dX12_house_121 : decode cX12_house 121 = .ok (.iconst 0, 1) := by decide +kernel
theorem dX12_house_122 : decode cX12_house 122 = .ok (.iastore, 1) := by decide +kernel
theorem dX12_house_123 : decode cX12_house 123 = .ok (.iinc 4 1, 3) := by decide +kernel
theorem dX12_house_126 : decode cX12_house 126 = .ok (.goto (-42), 3) := by decide +kernel
theorem dX12_house_129 : decode cX12_house 129 = .ok (.aload_n 0, 1) := by decide +kernel
theorem dX12_house_130 : decode cX12_house 130 = .ok (.getfield 13, 3) := by decide +kernel
theorem dX12_house_133 : decode cX12_house 133 = .ok (.iconst 0, 1) := by decide +kernel
theorem dX12_house_134 : decode cX12_house 134 = .ok (.dup2, 1) := by decide +kernel
theorem dX12_house_135 : decode cX12_house 135 = .ok (.iaload, 1) := by decide +kernel
theorem dX12_house_136 : decode cX12_house 136 = .ok (.iconst 1, 1) := by decide +kernel
theorem dX12_house_137 : decode cX12_house 137 = .ok (.iadd, 1) := by decide +kernel
theorem dX12_house_138 : decode cX12_house 138 = .ok (.iastore, 1) := by decide +kernel
theorem dX12_house_139 : decode cX12_house 139 = .ok (.aload_n 0, 1) := by decide +kernel
theorem dX12_house_140 : decode cX12_house 140 = .ok (.iload_n 3, 1) := by decide +kernel
theorem dX12_house_141 : decode cX12_house 141 = .ok (.invokevirtual 187, 3) := by decide +kernel
theorem dX12_house_144 : decode cX12_house 144 = .ok (.ireturn, 1) := by decide +kernel
theorem dX12_rightsTo_0 : decode cX12_rightsTo 0 = .ok (.iconst 0, 1) := by decide +kernel
theorem dX12_rightsTo_1 : decode cX12_rightsTo 1 = .ok (.istore_n 2, 1) := by decide +kernel
theorem dX12_rightsTo_2 : decode cX12_rightsTo 2 = .ok (.iconst 0, 1) := by decide +kernel
theorem dX12_rightsTo_3 : decode cX12_rightsTo 3 = .ok (.istore_n 3, 1) := by decide +kernel
theorem dX12_rightsTo_4 : decode cX12_rightsTo 4 = .ok (.iload_n 3, 1) := by decide +kernel
theorem dX12_rightsTo_5 : decode cX12_rightsTo 5 = .ok (.aload_n 0, 1) := by decide +kernel
theorem dX12_rightsTo_6 : decode cX12_rightsTo 6 = .ok (.getfield 13, 3) := by decide +kernel
theorem dX12_rightsTo_9 : decode cX12_rightsTo 9 = .ok (.iconst 1, 1) := by decide +kernel
theorem dX12_rightsTo_10 : decode cX12_rightsTo 10 = .ok (.iaload, 1) := by decide +kernel
theorem dX12_rightsTo_11 : decode cX12_rightsTo 11 = .ok (.if_icmp .ge 18, 3) := by decide +kernel
theorem dX12_rightsTo_14 : decode cX12_rightsTo 14 = .ok (.iload_n 2, 1) := by decide +kernel
theorem dX12_rightsTo_15 : decode cX12_rightsTo 15 = .ok (.aload_n 0, 1) := by decide +kernel
theorem dX12_rightsTo_16 : decode cX12_rightsTo 16 = .ok (.iload_n 3, 1) := by decide +kernel
theorem dX12_rightsTo_17 : decode cX12_rightsTo 17 = .ok (.iload_n 1, 1) := by decide +kernel
theorem dX12_rightsTo_18 : decode cX12_rightsTo 18 = .ok (.invokevirtual 196, 3) := by decide +kernel
theorem dX12_rightsTo_21 : decode cX12_rightsTo 21 = .ok (.iadd, 1) := by decide +kernel
theorem dX12_rightsTo_22 : decode cX12_rightsTo 22 = .ok (.istore_n 2, 1) := by decide +kernel
theorem dX12_rightsTo_23 : decode cX12_rightsTo 23 = .ok (.iinc 3 1, 3) := by decide +kernel
theorem dX12_rightsTo_26 : decode cX12_rightsTo 26 = .ok (.goto (-22), 3) := by decide +kernel
theorem dX12_rightsTo_29 : decode cX12_rightsTo 29 = .ok (.iload_n 2, 1) := by decide +kernel
theorem dX12_rightsTo_30 : decode cX12_rightsTo 30 = .ok (.ireturn, 1) := by decide +kernel
theorem dX12_at_0 : decode cX12_at 0 = .ok (.aload_n 0, 1) := by decide +kernel
theorem dX12_at_1 : decode cX12_at 1 = .ok (.iconst 0, 1) := by decide +kernel
theorem dX12_at_2 : decode cX12_at 2 = .ok (.putfield 163, 3) := by decide +kernel
theorem dX12_at_5 : decode cX12_at 5 = .ok (.aload_n 0, 1) := by decide +kernel
theorem dX12_at_6 : decode cX12_at 6 = .ok (.iload_n 1, 1) := by decide +kernel
theorem dX12_at_7 : decode cX12_at 7 = .ok (.invokevirtual 208, 3) := by decide +kernel
theorem dX12_at_10 : decode cX12_at 10 = .ok (.ifCond .ne 5, 3) := by decide +kernel
theorem dX12_at_13 : decode cX12_at 13 = .ok (.iconst (-1), 1) := by decide +kernel
theorem dX12_at_14 : decode cX12_at 14 = .ok (.ireturn, 1) := by decide +kernel
theorem dX12_at_15 : decode cX12_at 15 = .ok (.iload_n 2, 1) := by decide +kernel
theorem dX12_at_16 : decode cX12_at 16 = .ok (.tableswitch 85 0 4 #[36, 46, 57, 67, 73], 36) := by decide +kernel
theorem dX12_at_52 : decode cX12_at 52 = .ok (.aload_n 0, 1) := by decide +kernel
theorem dX12_at_53 : decode cX12_at 53 = .ok (.getfield 13, 3) := by decide +kernel
theorem dX12_at_56 : decode cX12_at 56 = .ok (.bipush 126, 2) := by decide +kernel
theorem dX12_at_58 : decode cX12_at 58 = .ok (.iload_n 1, 1) := by decide +kernel
theorem dX12_at_59 : decode cX12_at 59 = .ok (.iadd, 1) := by decide +kernel
theorem dX12_at_60 : decode cX12_at 60 = .ok (.iaload, 1) := by decide +kernel
theorem dX12_at_61 : decode cX12_at 61 = .ok (.ireturn, 1) := by decide +kernel
theorem dX12_at_62 : decode cX12_at 62 = .ok (.aload_n 0, 1) := by decide +kernel
theorem dX12_at_63 : decode cX12_at 63 = .ok (.getfield 13, 3) := by decide +kernel
theorem dX12_at_66 : decode cX12_at 66 = .ok (.sipush 132, 3) := by decide +kernel
theorem dX12_at_69 : decode cX12_at 69 = .ok (.iload_n 1, 1) := by decide +kernel
theorem dX12_at_70 : decode cX12_at 70 = .ok (.iadd, 1) := by decide +kernel
theorem dX12_at_71 : decode cX12_at 71 = .ok (.iaload, 1) := by decide +kernel
theorem dX12_at_72 : decode cX12_at 72 = .ok (.ireturn, 1) := by decide +kernel
theorem dX12_at_73 : decode cX12_at 73 = .ok (.aload_n 0, 1) := by decide +kernel
theorem dX12_at_74 : decode cX12_at 74 = .ok (.getfield 13, 3) := by decide +kernel
theorem dX12_at_77 : decode cX12_at 77 = .ok (.bipush 8, 2) := by decide +kernel
theorem dX12_at_79 : decode cX12_at 79 = .ok (.iload_n 1, 1) := by decide +kernel
theorem dX12_at_80 : decode cX12_at 80 = .ok (.iadd, 1) := by decide +kernel
theorem dX12_at_81 : decode cX12_at 81 = .ok (.iaload, 1) := by decide +kernel
theorem dX12_at_82 : decode cX12_at 82 = .ok (.ireturn, 1) := by decide +kernel
theorem dX12_at_83 : decode cX12_at 83 = .ok (.aload_n 0, 1) := by decide +kernel
theorem dX12_at_84 : decode cX12_at 84 = .ok (.iload_n 1, 1) := by decide +kernel
theorem dX12_at_85 : decode cX12_at 85 = .ok (.invokevirtual 211, 3) := by decide +kernel
theorem dX12_at_88 : decode cX12_at 88 = .ok (.ireturn, 1) := by decide +kernel
theorem dX12_at_89 : decode cX12_at 89 = .ok (.aload_n 0, 1) := by decide +kernel
theorem dX12_at_90 : decode cX12_at 90 = .ok (.iload_n 1, 1) := by decide +kernel
theorem dX12_at_91 : decode cX12_at 91 = .ok (.aload_n 0, 1) := by decide +kernel
theorem dX12_at_92 : decode cX12_at 92 = .ok (.getfield 13, 3) := by decide +kernel
theorem dX12_at_95 : decode cX12_at 95 = .ok (.iconst 5, 1) := by decide +kernel
theorem dX12_at_96 : decode cX12_at 96 = .ok (.iaload, 1) := by decide +kernel
theorem dX12_at_97 : decode cX12_at 97 = .ok (.invokevirtual 214, 3) := by decide +kernel
theorem dX12_at_100 : decode cX12_at 100 = .ok (.ireturn, 1) := by decide +kernel
theorem dX12_at_101 : decode cX12_at 101 = .ok (.iconst (-1), 1) := by decide +kernel
theorem dX12_at_102 : decode cX12_at 102 = .ok (.ireturn, 1) := by decide +kernel
theorem dX12_come_0 : decode cX12_come 0 = .ok (.iload_n 1, 1) := by decide +kernel
theorem dX12_come_1 : decode cX12_come 1 = .ok (.invokestatic 203, 3) := by decide +kernel
theorem dX12_come_4 : decode cX12_come 4 = .ok (.ifCond .eq 27, 3) := by decide +kernel
theorem dX12_come_7 : decode cX12_come 7 = .ok (.iload_n 2, 1) := by decide +kernel
theorem dX12_come_8 : decode cX12_come 8 = .ok (.i2l, 1) := by decide +kernel
theorem dX12_come_9 : decode cX12_come 9 = .ok (.lconst 0, 1) := by decide +kernel
theorem dX12_come_10 : decode cX12_come 10 = .ok (.ldc2_w 206, 3) := by decide +kernel
theorem dX12_come_13 : decode cX12_come 13 = .ok (.invokestatic 183, 3) := by decide +kernel
theorem dX12_come_16 : decode cX12_come 16 = .ok (.ifCond .eq 15, 3) := by decide +kernel
theorem dX12_come_19 : decode cX12_come 19 = .ok (.iload_n 3, 1) := by decide +kernel
theorem dX12_come_20 : decode cX12_come 20 = .ok (.i2l, 1) := by decide +kernel
theorem dX12_come_21 : decode cX12_come 21 = .ok (.lconst 0, 1) := by decide +kernel
theorem dX12_come_22 : decode cX12_come 22 = .ok (.ldc2_w 217, 3) := by decide +kernel
theorem dX12_come_25 : decode cX12_come 25 = .ok (.invokestatic 183, 3) := by decide +kernel
theorem dX12_come_28 : decode cX12_come 28 = .ok (.ifCond .ne 5, 3) := by decide +kernel
theorem dX12_come_31 : decode cX12_come 31 = .ok (.iconst (-1), 1) := by decide +kernel
theorem dX12_come_32 : decode cX12_come 32 = .ok (.ireturn, 1) := by decide +kernel
theorem dX12_come_33 : decode cX12_come 33 = .ok (.aload_n 0, 1) := by decide +kernel
theorem dX12_come_34 : decode cX12_come 34 = .ok (.getfield 13, 3) := by decide +kernel
theorem dX12_come_37 : decode cX12_come 37 = .ok (.iconst 1, 1) := by decide +kernel
theorem dX12_come_38 : decode cX12_come 38 = .ok (.iaload, 1) := by decide +kernel
theorem dX12_come_39 : decode cX12_come 39 = .ok (.istore 4, 2) := by decide +kernel
theorem dX12_come_41 : decode cX12_come 41 = .ok (.iload 4, 2) := by decide +kernel
theorem dX12_come_43 : decode cX12_come 43 = .ok (.bipush 8, 2) := by decide +kernel
theorem dX12_come_45 : decode cX12_come 45 = .ok (.if_icmp .ne 6, 3) := by decide +kernel
theorem dX12_come_48 : decode cX12_come 48 = .ok (.bipush (-5), 2) := by decide +kernel
theorem dX12_come_50 : decode cX12_come 50 = .ok (.ireturn, 1) := by decide +kernel
theorem dX12_come_51 : decode cX12_come 51 = .ok (.aload_n 0, 1) := by decide +kernel
theorem dX12_come_52 : decode cX12_come 52 = .ok (.getfield 13, 3) := by decide +kernel
theorem dX12_come_55 : decode cX12_come 55 = .ok (.sipush 138, 3) := by decide +kernel
theorem dX12_come_58 : decode cX12_come 58 = .ok (.iload 4, 2) := by decide +kernel
theorem dX12_come_60 : decode cX12_come 60 = .ok (.iadd, 1) := by decide +kernel
theorem dX12_come_61 : decode cX12_come 61 = .ok (.iload_n 1, 1) := by decide +kernel
theorem dX12_come_62 : decode cX12_come 62 = .ok (.iastore, 1) := by decide +kernel
theorem dX12_come_63 : decode cX12_come 63 = .ok (.aload_n 0, 1) := by decide +kernel
theorem dX12_come_64 : decode cX12_come 64 = .ok (.getfield 13, 3) := by decide +kernel
theorem dX12_come_67 : decode cX12_come 67 = .ok (.sipush 146, 3) := by decide +kernel
theorem dX12_come_70 : decode cX12_come 70 = .ok (.iload 4, 2) := by decide +kernel
theorem dX12_come_72 : decode cX12_come 72 = .ok (.iadd, 1) := by decide +kernel
theorem dX12_come_73 : decode cX12_come 73 = .ok (.iload_n 2, 1) := by decide +kernel
theorem dX12_come_74 : decode cX12_come 74 = .ok (.iastore, 1) := by decide +kernel
theorem dX12_come_75 : decode cX12_come 75 = .ok (.aload_n 0, 1) := by decide +kernel
theorem dX12_come_76 : decode cX12_come 76 = .ok (.getfield 13, 3) := by decide +kernel
theorem dX12_come_79 : decode cX12_come 79 = .ok (.bipush 14, 2) := by decide +kernel
theorem dX12_come_81 : decode cX12_come 81 = .ok (.iload 4, 2) := by decide +kernel
theorem dX12_come_83 : decode cX12_come 83 = .ok (.iadd, 1) := by decide +kernel
theorem dX12_come_84 : decode cX12_come 84 = .ok (.iload_n 3, 1) := by decide +kernel
theorem dX12_come_85 : decode cX12_come 85 = .ok (.iastore, 1) := by decide +kernel
theorem dX12_come_86 : decode cX12_come 86 = .ok (.aload_n 0, 1) := by decide +kernel
theorem dX12_come_87 : decode cX12_come 87 = .ok (.getfield 13, 3) := by decide +kernel
theorem dX12_come_90 : decode cX12_come 90 = .ok (.sipush 154, 3) := by decide +kernel
theorem dX12_come_93 : decode cX12_come 93 = .ok (.iload 4, 2) := by decide +kernel
theorem dX12_come_95 : decode cX12_come 95 = .ok (.iadd, 1) := by decide +kernel
theorem dX12_come_96 : decode cX12_come 96 = .ok (.iconst (-1), 1) := by decide +kernel
theorem dX12_come_97 : decode cX12_come 97 = .ok (.iastore, 1) := by decide +kernel
theorem dX12_come_98 : decode cX12_come 98 = .ok (.aload_n 0, 1) := by decide +kernel
theorem dX12_come_99 : decode cX12_come 99 = .ok (.getfield 13, 3) := by decide +kernel
theorem dX12_come_102 : decode cX12_come 102 = .ok (.sipush 162, 3) := by decide +kernel
theorem dX12_come_105 : decode cX12_come 105 = .ok (.iload 4, 2) := by decide +kernel
theorem dX12_come_107 : decode cX12_come 107 = .ok (.iadd, 1) := by decide +kernel
theorem dX12_come_108 : decode cX12_come 108 = .ok (.iconst 0, 1) := by decide +kernel
theorem dX12_come_109 : decode cX12_come 109 = .ok (.iastore, 1) := by decide +kernel
theorem dX12_come_110 : decode cX12_come 110 = .ok (.aload_n 0, 1) := by decide +kernel
theorem dX12_come_111 : decode cX12_come 111 = .ok (.getfield 13, 3) := by decide +kernel
theorem dX12_come_114 : decode cX12_come 114 = .ok (.bipush 22, 2) := by decide +kernel
theorem dX12_come_116 : decode cX12_come 116 = .ok (.iload 4, 2) := by decide +kernel
theorem dX12_come_118 : decode cX12_come 118 = .ok (.iadd, 1) := by decide +kernel
theorem dX12_come_119 : decode cX12_come 119 = .ok (.iconst 0, 1) := by decide +kernel
theorem dX12_come_120 : decode cX12_come 120 = .ok (.iastore, 1) := by decide +kernel
theorem dX12_come_121 : decode cX12_come 121 = .ok (.iconst 0, 1) := by decide +kernel
theorem dX12_come_122 : decode cX12_come 122 = .ok (.istore 5, 2) := by decide +kernel
theorem dX12_come_124 : decode cX12_come 124 = .ok (.iload 5, 2) := by decide +kernel
theorem dX12_come_126 : decode cX12_come 126 = .ok (.bipush 6, 2) := by decide +kernel
theorem dX12_come_128 : decode cX12_come 128 = .ok (.if_icmp .ge 43, 3) := by decide +kernel
theorem dX12_come_131 : decode cX12_come 131 = .ok (.aload_n 0, 1) := by decide +kernel
theorem dX12_come_132 : decode cX12_come 132 = .ok (.getfield 13, 3) := by decide +kernel
theorem dX12_come_135 : decode cX12_come 135 = .ok (.bipush 30, 2) := by decide +kernel
theorem dX12_come_137 : decode cX12_come 137 = .ok (.bipush 6, 2) := by decide +kernel
theorem dX12_come_139 : decode cX12_come 139 = .ok (.iload 4, 2) := by decide +kernel
theorem dX12_come_141 : decode cX12_come 141 = .ok (.imul, 1) := by decide +kernel
theorem dX12_come_142 : decode cX12_come 142 = .ok (.iadd, 1) := by decide +kernel
theorem dX12_come_143 : decode cX12_come 143 = .ok (.iload 5, 2) := by decide +kernel
theorem dX12_come_145 : decode cX12_come 145 = .ok (.iadd, 1) := by decide +kernel
theorem dX12_come_146 : decode cX12_come 146 = .ok (.iconst 0, 1) := by decide +kernel
theorem dX12_come_147 : decode cX12_come 147 = .ok (.iastore, 1) := by decide +kernel
theorem dX12_come_148 : decode cX12_come 148 = .ok (.aload_n 0, 1) := by decide +kernel
theorem dX12_come_149 : decode cX12_come 149 = .ok (.getfield 13, 3) := by decide +kernel
theorem dX12_come_152 : decode cX12_come 152 = .ok (.bipush 78, 2) := by decide +kernel
theorem dX12_come_154 : decode cX12_come 154 = .ok (.bipush 6, 2) := by decide +kernel
theorem dX12_come_156 : decode cX12_come 156 = .ok (.iload 4, 2) := by decide +kernel
theorem dX12_come_158 : decode cX12_come 158 = .ok (.imul, 1) := by decide +kernel
theorem dX12_come_159 : decode cX12_come 159 = .ok (.iadd, 1) := by decide +kernel
theorem dX12_come_160 : decode cX12_come 160 = .ok (.iload 5, 2) := by decide +kernel
theorem dX12_come_162 : decode cX12_come 162 = .ok (.iadd, 1) := by decide +kernel
theorem dX12_come_163 : decode cX12_come 163 = .ok (.iconst 0, 1) := by decide +kernel
theorem dX12_come_164 : decode cX12_come 164 = .ok (.iastore, 1) := by decide +kernel
theorem dX12_come_165 : decode cX12_come 165 = .ok (.iinc 5 1, 3) := by decide +kernel
theorem dX12_come_168 : decode cX12_come 168 = .ok (.goto (-44), 3) := by decide +kernel
theorem dX12_come_171 : decode cX12_come 171 = .ok (.aload_n 0, 1) := by decide +kernel
theorem dX12_come_172 : decode cX12_come 172 = .ok (.getfield 13, 3) := by decide +kernel
theorem dX12_come_175 : decode cX12_come 175 = .ok (.iconst 1, 1) := by decide +kernel
theorem dX12_come_176 : decode cX12_come 176 = .ok (.dup2, 1) := by decide +kernel
theorem dX12_come_177 : decode cX12_come 177 = .ok (.iaload, 1) := by decide +kernel
theorem dX12_come_178 : decode cX12_come 178 = .ok (.iconst 1, 1) := by decide +kernel
theorem dX12_come_179 : decode cX12_come 179 = .ok (.iadd, 1) := by decide +kernel
theorem dX12_come_180 : decode cX12_come 180 = .ok (.iastore, 1) := by decide +kernel
theorem dX12_come_181 : decode cX12_come 181 = .ok (.iload 4, 2) := by decide +kernel
theorem dX12_come_183 : decode cX12_come 183 = .ok (.ireturn, 1) := by decide +kernel
theorem dX12_person_0 : decode cX12_person 0 = .ok (.aload_n 0, 1) := by decide +kernel
theorem dX12_person_1 : decode cX12_person 1 = .ok (.iconst 0, 1) := by decide +kernel
theorem dX12_person_2 : decode cX12_person 2 = .ok (.putfield 163, 3) := by decide +kernel
theorem dX12_person_5 : decode cX12_person 5 = .ok (.aload_n 0, 1) := by decide +kernel
theorem dX12_person_6 : decode cX12_person 6 = .ok (.aload_n 0, 1) := by decide +kernel
theorem dX12_person_7 : decode cX12_person 7 = .ok (.iload_n 1, 1) := by decide +kernel
theorem dX12_person_8 : decode cX12_person 8 = .ok (.iload_n 2, 1) := by decide +kernel
theorem dX12_person_9 : decode cX12_person 9 = .ok (.iload_n 3, 1) := by decide +kernel
theorem dX12_person_10 : decode cX12_person 10 = .ok (.invokevirtual 219, 3) := by decide +kernel
theorem dX12_person_13 : decode cX12_person 13 = .ok (.invokevirtual 187, 3) := by decide +kernel
theorem dX12_person_16 : decode cX12_person 16 = .ok (.ireturn, 1) := by decide +kernel
theorem dX12_of_0 : decode cX12_of 0 = .ok (.aload_n 0, 1) := by decide +kernel
theorem dX12_of_1 : decode cX12_of 1 = .ok (.iconst 0, 1) := by decide +kernel
theorem dX12_of_2 : decode cX12_of 2 = .ok (.putfield 163, 3) := by decide +kernel
theorem dX12_of_5 : decode cX12_of 5 = .ok (.aload_n 0, 1) := by decide +kernel
theorem dX12_of_6 : decode cX12_of 6 = .ok (.iload_n 1, 1) := by decide +kernel
theorem dX12_of_7 : decode cX12_of 7 = .ok (.invokevirtual 223, 3) := by decide +kernel
theorem dX12_of_10 : decode cX12_of 10 = .ok (.ifCond .ne 5, 3) := by decide +kernel
theorem dX12_of_13 : decode cX12_of 13 = .ok (.iconst (-1), 1) := by decide +kernel
theorem dX12_of_14 : decode cX12_of 14 = .ok (.ireturn, 1) := by decide +kernel
theorem dX12_of_15 : decode cX12_of 15 = .ok (.iload_n 2, 1) := by decide +kernel
theorem dX12_of_16 : decode cX12_of 16 = .ok (.tableswitch 108 0 5 #[40, 51, 62, 72, 83, 94], 40) := by decide +kernel
theorem dX12_of_56 : decode cX12_of 56 = .ok (.aload_n 0, 1) := by decide +kernel
theorem dX12_of_57 : decode cX12_of 57 = .ok (.getfield 13, 3) := by decide +kernel
theorem dX12_of_60 : decode cX12_of 60 = .ok (.sipush 138, 3) := by decide +kernel
theorem dX12_of_63 : decode cX12_of 63 = .ok (.iload_n 1, 1) := by decide +kernel
theorem dX12_of_64 : decode cX12_of 64 = .ok (.iadd, 1) := by decide +kernel
theorem dX12_of_65 : decode cX12_of 65 = .ok (.iaload, 1) := by decide +kernel
theorem dX12_of_66 : decode cX12_of 66 = .ok (.ireturn, 1) := by decide +kernel
theorem dX12_of_67 : decode cX12_of 67 = .ok (.aload_n 0, 1) := by decide +kernel
theorem dX12_of_68 : decode cX12_of 68 = .ok (.getfield 13, 3) := by decide +kernel
theorem dX12_of_71 : decode cX12_of 71 = .ok (.sipush 146, 3) := by decide +kernel
theorem dX12_of_74 : decode cX12_of 74 = .ok (.iload_n 1, 1) := by decide +kernel
theorem dX12_of_75 : decode cX12_of 75 = .ok (.iadd, 1) := by decide +kernel
theorem dX12_of_76 : decode cX12_of 76 = .ok (.iaload, 1) := by decide +kernel
theorem dX12_of_77 : decode cX12_of 77 = .ok (.ireturn, 1) := by decide +kernel
theorem dX12_of_78 : decode cX12_of 78 = .ok (.aload_n 0, 1) := by decide +kernel
theorem dX12_of_79 : decode cX12_of 79 = .ok (.getfield 13, 3) := by decide +kernel
theorem dX12_of_82 : decode cX12_of 82 = .ok (.bipush 14, 2) := by decide +kernel
theorem dX12_of_84 : decode cX12_of 84 = .ok (.iload_n 1, 1) := by decide +kernel
theorem dX12_of_85 : decode cX12_of 85 = .ok (.iadd, 1) := by decide +kernel
theorem dX12_of_86 : decode cX12_of 86 = .ok (.iaload, 1) := by decide +kernel
theorem dX12_of_87 : decode cX12_of 87 = .ok (.ireturn, 1) := by decide +kernel
theorem dX12_of_88 : decode cX12_of 88 = .ok (.aload_n 0, 1) := by decide +kernel
theorem dX12_of_89 : decode cX12_of 89 = .ok (.getfield 13, 3) := by decide +kernel
theorem dX12_of_92 : decode cX12_of 92 = .ok (.sipush 154, 3) := by decide +kernel
theorem dX12_of_95 : decode cX12_of 95 = .ok (.iload_n 1, 1) := by decide +kernel
theorem dX12_of_96 : decode cX12_of 96 = .ok (.iadd, 1) := by decide +kernel
theorem dX12_of_97 : decode cX12_of 97 = .ok (.iaload, 1) := by decide +kernel
theorem dX12_of_98 : decode cX12_of 98 = .ok (.ireturn, 1) := by decide +kernel
theorem dX12_of_99 : decode cX12_of 99 = .ok (.aload_n 0, 1) := by decide +kernel
theorem dX12_of_100 : decode cX12_of 100 = .ok (.getfield 13, 3) := by decide +kernel
theorem dX12_of_103 : decode cX12_of 103 = .ok (.sipush 162, 3) := by decide +kernel
theorem dX12_of_106 : decode cX12_of 106 = .ok (.iload_n 1, 1) := by decide +kernel
theorem dX12_of_107 : decode cX12_of 107 = .ok (.iadd, 1) := by decide +kernel
theorem dX12_of_108 : decode cX12_of 108 = .ok (.iaload, 1) := by decide +kernel
theorem dX12_of_109 : decode cX12_of 109 = .ok (.ireturn, 1) := by decide +kernel
theorem dX12_of_110 : decode cX12_of 110 = .ok (.aload_n 0, 1) := by decide +kernel
theorem dX12_of_111 : decode cX12_of 111 = .ok (.iload_n 1, 1) := by decide +kernel
theorem dX12_of_112 : decode cX12_of 112 = .ok (.invokevirtual 192, 3) := by decide +kernel
theorem dX12_of_115 : decode cX12_of 115 = .ok (.ifCond .eq 7, 3) := by decide +kernel
theorem dX12_of_118 : decode cX12_of 118 = .ok (.iconst 1, 1) := by decide +kernel
theorem dX12_of_119 : decode cX12_of 119 = .ok (.goto 4, 3) := by decide +kernel
theorem dX12_of_122 : decode cX12_of 122 = .ok (.iconst 0, 1) := by decide +kernel
theorem dX12_of_123 : decode cX12_of 123 = .ok (.ireturn, 1) := by decide +kernel
theorem dX12_of_124 : decode cX12_of 124 = .ok (.iconst (-1), 1) := by decide +kernel
theorem dX12_of_125 : decode cX12_of 125 = .ok (.ireturn, 1) := by decide +kernel
theorem dX12_want_0 : decode cX12_want 0 = .ok (.aload_n 0, 1) := by decide +kernel
theorem dX12_want_1 : decode cX12_want 1 = .ok (.iconst 0, 1) := by decide +kernel
theorem dX12_want_2 : decode cX12_want 2 = .ok (.putfield 163, 3) := by decide +kernel
theorem dX12_want_5 : decode cX12_want 5 = .ok (.iload_n 2, 1) := by decide +kernel
theorem dX12_want_6 : decode cX12_want 6 = .ok (.iconst (-1), 1) := by decide +kernel
theorem dX12_want_7 : decode cX12_want 7 = .ok (.if_icmp .eq 17, 3) := by decide +kernel
theorem dX12_want_10 : decode cX12_want 10 = .ok (.aload_n 0, 1) := by decide +kernel
theorem dX12_want_11 : decode cX12_want 11 = .ok (.iload_n 2, 1) := by decide +kernel
theorem dX12_want_12 : decode cX12_want 12 = .ok (.invokevirtual 208, 3) := by decide +kernel
theorem dX12_want_15 : decode cX12_want 15 = .ok (.ifCond .ne 9, 3) := by decide +kernel
theorem dX12_want_18 : decode cX12_want 18 = .ok (.aload_n 0, 1) := by decide +kernel
theorem dX12_want_19 : decode cX12_want 19 = .ok (.iconst (-1), 1) := by decide +kernel
theorem dX12_want_20 : decode cX12_want 20 = .ok (.invokevirtual 172, 3) := by decide +kernel
theorem dX12_want_23 : decode cX12_want 23 = .ok (.ireturn, 1) := by decide +kernel
theorem dX12_want_24 : decode cX12_want 24 = .ok (.aload_n 0, 1) := by decide +kernel
theorem dX12_want_25 : decode cX12_want 25 = .ok (.iload_n 1, 1) := by decide +kernel
theorem dX12_want_26 : decode cX12_want 26 = .ok (.invokevirtual 223, 3) := by decide +kernel
theorem dX12_want_29 : decode cX12_want 29 = .ok (.ifCond .ne 10, 3) := by decide +kernel
theorem dX12_want_32 : decode cX12_want 32 = .ok (.aload_n 0, 1) := by decide +kernel
theorem dX12_want_33 : decode cX12_want 33 = .ok (.bipush (-2), 2) := by decide +kernel
theorem dX12_want_35 : decode cX12_want 35 = .ok (.invokevirtual 172, 3) := by decide +kernel
theorem dX12_want_38 : decode cX12_want 38 = .ok (.ireturn, 1) := by decide +kernel
theorem dX12_want_39 : decode cX12_want 39 = .ok (.aload_n 0, 1) := by decide +kernel
theorem dX12_want_40 : decode cX12_want 40 = .ok (.getfield 13, 3) := by decide +kernel
theorem dX12_want_43 : decode cX12_want 43 = .ok (.sipush 154, 3) := by decide +kernel
theorem dX12_want_46 : decode cX12_want 46 = .ok (.iload_n 1, 1) := by decide +kernel
theorem dX12_want_47 : decode cX12_want 47 = .ok (.iadd, 1) := by decide +kernel
theorem dX12_want_48 : decode cX12_want 48 = .ok (.iload_n 2, 1) := by decide +kernel
theorem dX12_want_49 : decode cX12_want 49 = .ok (.iastore, 1) := by decide +kernel
theorem dX12_want_50 : decode cX12_want 50 = .ok (.aload_n 0, 1) := by decide +kernel
theorem dX12_want_51 : decode cX12_want 51 = .ok (.iconst 0, 1) := by decide +kernel
theorem dX12_want_52 : decode cX12_want 52 = .ok (.invokevirtual 172, 3) := by decide +kernel
theorem dX12_want_55 : decode cX12_want 55 = .ok (.ireturn, 1) := by decide +kernel
theorem dX12_will_0 : decode cX12_will 0 = .ok (.aload_n 0, 1) := by decide +kernel
theorem dX12_will_1 : decode cX12_will 1 = .ok (.iconst 0, 1) := by decide +kernel
theorem dX12_will_2 : decode cX12_will 2 = .ok (.putfield 163, 3) := by decide +kernel
theorem dX12_will_5 : decode cX12_will 5 = .ok (.iload_n 2, 1) := by decide +kernel
theorem dX12_will_6 : decode cX12_will 6 = .ok (.i2l, 1) := by decide +kernel
theorem dX12_will_7 : decode cX12_will 7 = .ok (.lconst 0, 1) := by decide +kernel
theorem dX12_will_8 : decode cX12_will 8 = .ok (.lconst 1, 1) := by decide +kernel
theorem dX12_will_9 : decode cX12_will 9 = .ok (.aload_n 0, 1) := by decide +kernel
theorem dX12_will_10 : decode cX12_will 10 = .ok (.getfield 13, 3) := by decide +kernel
theorem dX12_will_13 : decode cX12_will 13 = .ok (.iconst 1, 1) := by decide +kernel
theorem dX12_will_14 : decode cX12_will 14 = .ok (.iaload, 1) := by decide +kernel
theorem dX12_will_15 : decode cX12_will 15 = .ok (.lshl, 1) := by decide +kernel
theorem dX12_will_16 : decode cX12_will 16 = .ok (.lconst 1, 1) := by decide +kernel
theorem dX12_will_17 : decode cX12_will 17 = .ok (.lsub, 1) := by decide +kernel
theorem dX12_will_18 : decode cX12_will 18 = .ok (.invokestatic 183, 3) := by decide +kernel
theorem dX12_will_21 : decode cX12_will 21 = .ok (.ifCond .eq 23, 3) := by decide +kernel
theorem dX12_will_24 : decode cX12_will 24 = .ok (.iload_n 1, 1) := by decide +kernel
theorem dX12_will_25 : decode cX12_will 25 = .ok (.i2l, 1) := by decide +kernel
theorem dX12_will_26 : decode cX12_will 26 = .ok (.lconst 0, 1) := by decide +kernel
theorem dX12_will_27 : decode cX12_will 27 = .ok (.ldc2_w 226, 3) := by decide +kernel
theorem dX12_will_30 : decode cX12_will 30 = .ok (.invokestatic 183, 3) := by decide +kernel
theorem dX12_will_33 : decode cX12_will 33 = .ok (.ifCond .eq 17, 3) := by decide +kernel
theorem dX12_will_36 : decode cX12_will 36 = .ok (.iload_n 2, 1) := by decide +kernel
theorem dX12_will_37 : decode cX12_will 37 = .ok (.iload_n 1, 1) := by decide +kernel
theorem dX12_will_38 : decode cX12_will 38 = .ok (.invokestatic 228, 3) := by decide +kernel
theorem dX12_will_41 : decode cX12_will 41 = .ok (.ifCond .eq 9, 3) := by decide +kernel
theorem dX12_will_44 : decode cX12_will 44 = .ok (.aload_n 0, 1) := by decide +kernel
theorem dX12_will_45 : decode cX12_will 45 = .ok (.iconst (-1), 1) := by decide +kernel
theorem dX12_will_46 : decode cX12_will 46 = .ok (.invokevirtual 172, 3) := by decide +kernel
theorem dX12_will_49 : decode cX12_will 49 = .ok (.ireturn, 1) := by decide +kernel
theorem dX12_will_50 : decode cX12_will 50 = .ok (.aload_n 0, 1) := by decide +kernel
theorem dX12_will_51 : decode cX12_will 51 = .ok (.iload_n 1, 1) := by decide +kernel
theorem dX12_will_52 : decode cX12_will 52 = .ok (.invokevirtual 223, 3) := by decide +kernel
theorem dX12_will_55 : decode cX12_will 55 = .ok (.ifCond .eq 16, 3) := by decide +kernel
theorem dX12_will_58 : decode cX12_will 58 = .ok (.aload_n 0, 1) := by decide +kernel
theorem dX12_will_59 : decode cX12_will 59 = .ok (.sipush 162, 3) := by decide +kernel
theorem dX12_will_62 : decode cX12_will 62 = .ok (.iload_n 1, 1) := by decide +kernel
theorem dX12_will_63 : decode cX12_will 63 = .ok (.iadd, 1) := by decide +kernel
theorem dX12_will_64 : decode cX12_will 64 = .ok (.iload_n 2, 1) := by decide +kernel
theorem dX12_will_65 : decode cX12_will 65 = .ok (.invokevirtual 232, 3) := by decide +kernel
theorem dX12_will_68 : decode cX12_will 68 = .ok (.goto 9, 3) := by decide +kernel
theorem dX12_will_71 : decode cX12_will 71 = .ok (.aload_n 0, 1) := by decide +kernel
theorem dX12_will_72 : decode cX12_will 72 = .ok (.bipush (-2), 2) := by decide +kernel
theorem dX12_will_74 : decode cX12_will 74 = .ok (.invokevirtual 172, 3) := by decide +kernel
theorem dX12_will_77 : decode cX12_will 77 = .ok (.ireturn, 1) := by decide +kernel
theorem dX12_right_0 : decode cX12_right 0 = .ok (.aload_n 0, 1) := by decide +kernel
theorem dX12_right_1 : decode cX12_right 1 = .ok (.iconst 0, 1) := by decide +kernel
theorem dX12_right_2 : decode cX12_right 2 = .ok (.putfield 163, 3) := by decide +kernel
theorem dX12_right_5 : decode cX12_right 5 = .ok (.iload_n 3, 1) := by decide +kernel
theorem dX12_right_6 : decode cX12_right 6 = .ok (.i2l, 1) := by decide +kernel
theorem dX12_right_7 : decode cX12_right 7 = .ok (.lconst 0, 1) := by decide +kernel
theorem dX12_right_8 : decode cX12_right 8 = .ok (.ldc2_w 206, 3) := by decide +kernel
theorem dX12_right_11 : decode cX12_right 11 = .ok (.invokestatic 183, 3) := by decide +kernel
theorem dX12_right_14 : decode cX12_right 14 = .ok (.ifCond .ne 9, 3) := by decide +kernel
theorem dX12_right_17 : decode cX12_right 17 = .ok (.aload_n 0, 1) := by decide +kernel
theorem dX12_right_18 : decode cX12_right 18 = .ok (.iconst (-1), 1) := by decide +kernel
theorem dX12_right_19 : decode cX12_right 19 = .ok (.invokevirtual 172, 3) := by decide +kernel
theorem dX12_right_22 : decode cX12_right 22 = .ok (.ireturn, 1) := by decide +kernel
theorem dX12_right_23 : decode cX12_right 23 = .ok (.aload_n 0, 1) := by decide +kernel
theorem dX12_right_24 : decode cX12_right 24 = .ok (.iload_n 1, 1) := by decide +kernel
theorem dX12_right_25 : decode cX12_right 25 = .ok (.invokevirtual 223, 3) := by decide +kernel
theorem dX12_right_28 : decode cX12_right 28 = .ok (.ifCond .eq 11, 3) := by decide +kernel
theorem dX12_right_31 : decode cX12_right 31 = .ok (.aload_n 0, 1) := by decide +kernel
theorem dX12_right_32 : decode cX12_right 32 = .ok (.iload_n 2, 1) := by decide +kernel
theorem dX12_right_33 : decode cX12_right 33 = .ok (.invokevirtual 208, 3) := by decide +kernel
theorem dX12_right_36 : decode cX12_right 36 = .ok (.ifCond .ne 10, 3) := by decide +kernel
theorem dX12_right_39 : decode cX12_right 39 = .ok (.aload_n 0, 1) := by decide +kernel
theorem dX12_right_40 : decode cX12_right 40 = .ok (.bipush (-2), 2) := by decide +kernel
theorem dX12_right_42 : decode cX12_right 42 = .ok (.invokevirtual 172, 3) := by decide +kernel
theorem dX12_right_45 : decode cX12_right 45 = .ok (.ireturn, 1) := by decide +kernel
theorem dX12_right_46 : decode cX12_right 46 = .ok (.aload_n 0, 1) := by decide +kernel
theorem dX12_right_47 : decode cX12_right 47 = .ok (.iload_n 1, 1) := by decide +kernel
theorem dX12_right_48 : decode cX12_right 48 = .ok (.invokevirtual 192, 3) := by decide +kernel
theorem dX12_right_51 : decode cX12_right 51 = .ok (.ifCond .eq 21, 3) := by decide +kernel
theorem dX12_right_54 : decode cX12_right 54 = .ok (.iload_n 3, 1) := by decide +kernel
theorem dX12_right_55 : decode cX12_right 55 = .ok (.aload_n 0, 1) := by decide +kernel
theorem dX12_right_56 : decode cX12_right 56 = .ok (.getfield 13, 3) := by decide +kernel
theorem dX12_right_59 : decode cX12_right 59 = .ok (.bipush 78, 2) := by decide +kernel
theorem dX12_right_61 : decode cX12_right 61 = .ok (.bipush 6, 2) := by decide +kernel
theorem dX12_right_63 : decode cX12_right 63 = .ok (.iload_n 1, 1) := by decide +kernel
theorem dX12_right_64 : decode cX12_right 64 = .ok (.imul, 1) := by decide +kernel
theorem dX12_right_65 : decode cX12_right 65 = .ok (.iadd, 1) := by decide +kernel
theorem dX12_right_66 : decode cX12_right 66 = .ok (.iload_n 2, 1) := by decide +kernel
theorem dX12_right_67 : decode cX12_right 67 = .ok (.iadd, 1) := by decide +kernel
theorem dX12_right_68 : decode cX12_right 68 = .ok (.iaload, 1) := by decide +kernel
theorem dX12_right_69 : decode cX12_right 69 = .ok (.if_icmp .ge 10, 3) := by decide +kernel
theorem dX12_right_72 : decode cX12_right 72 = .ok (.aload_n 0, 1) := by decide +kernel
theorem dX12_right_73 : decode cX12_right 73 = .ok (.bipush (-3), 2) := by decide +kernel
theorem dX12_right_75 : decode cX12_right 75 = .ok (.invokevirtual 172, 3) := by decide +kernel
theorem dX12_right_78 : decode cX12_right 78 = .ok (.ireturn, 1) := by decide +kernel
theorem dX12_right_79 : decode cX12_right 79 = .ok (.aload_n 0, 1) := by decide +kernel
theorem dX12_right_80 : decode cX12_right 80 = .ok (.iconst 0, 1) := by decide +kernel
theorem dX12_right_81 : decode cX12_right 81 = .ok (.putfield 169, 3) := by decide +kernel
theorem dX12_right_84 : decode cX12_right 84 = .ok (.aload_n 0, 1) := by decide +kernel
theorem dX12_right_85 : decode cX12_right 85 = .ok (.bipush 30, 2) := by decide +kernel
theorem dX12_right_87 : decode cX12_right 87 = .ok (.bipush 6, 2) := by decide +kernel
theorem dX12_right_89 : decode cX12_right 89 = .ok (.iload_n 1, 1) := by decide +kernel
theorem dX12_right_90 : decode cX12_right 90 = .ok (.imul, 1) := by decide +kernel
theorem dX12_right_91 : decode cX12_right 91 = .ok (.iadd, 1) := by decide +kernel
theorem dX12_right_92 : decode cX12_right 92 = .ok (.iload_n 2, 1) := by decide +kernel
theorem dX12_right_93 : decode cX12_right 93 = .ok (.iadd, 1) := by decide +kernel
theorem dX12_right_94 : decode cX12_right 94 = .ok (.iload_n 3, 1) := by decide +kernel
theorem dX12_right_95 : decode cX12_right 95 = .ok (.invokevirtual 232, 3) := by decide +kernel
theorem dX12_right_98 : decode cX12_right 98 = .ok (.ireturn, 1) := by decide +kernel
theorem dX12_has_0 : decode cX12_has 0 = .ok (.aload_n 0, 1) := by decide +kernel
theorem dX12_has_1 : decode cX12_has 1 = .ok (.iconst 0, 1) := by decide +kernel
theorem dX12_has_2 : decode cX12_has 2 = .ok (.putfield 163, 3) := by decide +kernel
theorem dX12_has_5 : decode cX12_has 5 = .ok (.aload_n 0, 1) := by decide +kernel
theorem dX12_has_6 : decode cX12_has 6 = .ok (.iload_n 1, 1) := by decide +kernel
theorem dX12_has_7 : decode cX12_has 7 = .ok (.invokevirtual 223, 3) := by decide +kernel
theorem dX12_has_10 : decode cX12_has 10 = .ok (.ifCond .eq 11, 3) := by decide +kernel
theorem dX12_has_13 : decode cX12_has 13 = .ok (.aload_n 0, 1) := by decide +kernel
theorem dX12_has_14 : decode cX12_has 14 = .ok (.iload_n 2, 1) := by decide +kernel
theorem dX12_has_15 : decode cX12_has 15 = .ok (.invokevirtual 208, 3) := by decide +kernel
theorem dX12_has_18 : decode cX12_has 18 = .ok (.ifCond .ne 5, 3) := by decide +kernel
theorem dX12_has_21 : decode cX12_has 21 = .ok (.iconst (-1), 1) := by decide +kernel
theorem dX12_has_22 : decode cX12_has 22 = .ok (.ireturn, 1) := by decide +kernel
theorem dX12_has_23 : decode cX12_has 23 = .ok (.iload_n 3, 1) := by decide +kernel
theorem dX12_has_24 : decode cX12_has 24 = .ok (.tableswitch 87 0 4 #[36, 43, 58, 65, 80], 36) := by decide +kernel
theorem dX12_has_60 : decode cX12_has 60 = .ok (.aload_n 0, 1) := by decide +kernel
theorem dX12_has_61 : decode cX12_has 61 = .ok (.iload_n 1, 1) := by decide +kernel
theorem dX12_has_62 : decode cX12_has 62 = .ok (.iload_n 2, 1) := by decide +kernel
theorem dX12_has_63 : decode cX12_has 63 = .ok (.invokevirtual 196, 3) := by decide +kernel
theorem dX12_has_66 : decode cX12_has 66 = .ok (.ireturn, 1) := by decide +kernel
theorem dX12_has_67 : decode cX12_has 67 = .ok (.aload_n 0, 1) := by decide +kernel
theorem dX12_has_68 : decode cX12_has 68 = .ok (.getfield 13, 3) := by decide +kernel
theorem dX12_has_71 : decode cX12_has 71 = .ok (.bipush 78, 2) := by decide +kernel
theorem dX12_has_73 : decode cX12_has 73 = .ok (.bipush 6, 2) := by decide +kernel
theorem dX12_has_75 : decode cX12_has 75 = .ok (.iload_n 1, 1) := by decide +kernel
theorem dX12_has_76 : decode cX12_has 76 = .ok (.imul, 1) := by decide +kernel
theorem dX12_has_77 : decode cX12_has 77 = .ok (.iadd, 1) := by decide +kernel
theorem dX12_has_78 : decode cX12_has 78 = .ok (.iload_n 2, 1) := by decide +kernel
theorem dX12_has_79 : decode cX12_has 79 = .ok (.iadd, 1) := by decide +kernel
theorem dX12_has_80 : decode cX12_has 80 = .ok (.iaload, 1) := by decide +kernel
theorem dX12_has_81 : decode cX12_has 81 = .ok (.ireturn, 1) := by decide +kernel
theorem dX12_has_82 : decode cX12_has 82 = .ok (.aload_n 0, 1) := by decide +kernel
theorem dX12_has_83 : decode cX12_has 83 = .ok (.iload_n 1, 1) := by decide +kernel
theorem dX12_has_84 : decode cX12_has 84 = .ok (.iload_n 2, 1) := by decide +kernel
theorem dX12_has_85 : decode cX12_has 85 = .ok (.invokevirtual 200, 3) := by decide +kernel
theorem dX12_has_88 : decode cX12_has 88 = .ok (.ireturn, 1) := by decide +kernel
theorem dX12_has_89 : decode cX12_has 89 = .ok (.aload_n 0, 1) := by decide +kernel
theorem dX12_has_90 : decode cX12_has 90 = .ok (.iload_n 1, 1) := by decide +kernel
theorem dX12_has_91 : decode cX12_has 91 = .ok (.iload_n 2, 1) := by decide +kernel
theorem dX12_has_92 : decode cX12_has 92 = .ok (.invokevirtual 235, 3) := by decide +kernel
theorem dX12_has_95 : decode cX12_has 95 = .ok (.ifCond .eq 7, 3) := by decide +kernel
theorem dX12_has_98 : decode cX12_has 98 = .ok (.iconst 1, 1) := by decide +kernel
theorem dX12_has_99 : decode cX12_has 99 = .ok (.goto 4, 3) := by decide +kernel
theorem dX12_has_102 : decode cX12_has 102 = .ok (.iconst 0, 1) := by decide +kernel
theorem dX12_has_103 : decode cX12_has 103 = .ok (.ireturn, 1) := by decide +kernel
theorem dX12_has_104 : decode cX12_has 104 = .ok (.aload_n 0, 1) := by decide +kernel
theorem dX12_has_105 : decode cX12_has 105 = .ok (.iload_n 1, 1) := by decide +kernel
theorem dX12_has_106 : decode cX12_has 106 = .ok (.iload_n 2, 1) := by decide +kernel
theorem dX12_has_107 : decode cX12_has 107 = .ok (.invokevirtual 238, 3) := by decide +kernel
theorem dX12_has_110 : decode cX12_has 110 = .ok (.ireturn, 1) := by decide +kernel
theorem dX12_has_111 : decode cX12_has 111 = .ok (.iconst (-1), 1) := by decide +kernel
theorem dX12_has_112 : decode cX12_has 112 = .ok (.ireturn, 1) := by decide +kernel
theorem dX12_terms_0 : decode cX12_terms 0 = .ok (.aload_n 0, 1) := by decide +kernel
theorem dX12_terms_1 : decode cX12_terms 1 = .ok (.iconst 0, 1) := by decide +kernel
theorem dX12_terms_2 : decode cX12_terms 2 = .ok (.putfield 163, 3) := by decide +kernel
theorem dX12_terms_5 : decode cX12_terms 5 = .ok (.iload_n 1, 1) := by decide +kernel
theorem dX12_terms_6 : decode cX12_terms 6 = .ok (.ifCond .ne 15, 3) := by decide +kernel
theorem dX12_terms_9 : decode cX12_terms 9 = .ok (.iload_n 2, 1) := by decide +kernel
theorem dX12_terms_10 : decode cX12_terms 10 = .ok (.i2l, 1) := by decide +kernel
theorem dX12_terms_11 : decode cX12_terms 11 = .ok (.lconst 0, 1) := by decide +kernel
theorem dX12_terms_12 : decode cX12_terms 12 = .ok (.ldc2_w 217, 3) := by decide +kernel
theorem dX12_terms_15 : decode cX12_terms 15 = .ok (.invokestatic 183, 3) := by decide +kernel
theorem dX12_terms_18 : decode cX12_terms 18 = .ok (.goto 42, 3) := by decide +kernel
theorem dX12_terms_21 : decode cX12_terms 21 = .ok (.iload_n 1, 1) := by decide +kernel
theorem dX12_terms_22 : decode cX12_terms 22 = .ok (.iconst 1, 1) := by decide +kernel
theorem dX12_terms_23 : decode cX12_terms 23 = .ok (.if_icmp .ne 15, 3) := by decide +kernel
theorem dX12_terms_26 : decode cX12_terms 26 = .ok (.iload_n 2, 1) := by decide +kernel
theorem dX12_terms_27 : decode cX12_terms 27 = .ok (.i2l, 1) := by decide +kernel
theorem dX12_terms_28 : decode cX12_terms 28 = .ok (.lconst 0, 1) := by decide +kernel
theorem dX12_terms_29 : decode cX12_terms 29 = .ok (.ldc2_w 241, 3) := by decide +kernel
theorem dX12_terms_32 : decode cX12_terms 32 = .ok (.invokestatic 183, 3) := by decide +kernel
theorem dX12_terms_35 : decode cX12_terms 35 = .ok (.goto 25, 3) := by decide +kernel
theorem dX12_terms_38 : decode cX12_terms 38 = .ok (.iload_n 1, 1) := by decide +kernel
theorem dX12_terms_39 : decode cX12_terms 39 = .ok (.iconst 2, 1) := by decide +kernel
theorem dX12_terms_40 : decode cX12_terms 40 = .ok (.if_icmp .ne 19, 3) := by decide +kernel
theorem dX12_terms_43 : decode cX12_terms 43 = .ok (.iload_n 2, 1) := by decide +kernel
theorem dX12_terms_44 : decode cX12_terms 44 = .ok (.i2l, 1) := by decide +kernel
theorem dX12_terms_45 : decode cX12_terms 45 = .ok (.lconst 0, 1) := by decide +kernel
theorem dX12_terms_46 : decode cX12_terms 46 = .ok (.ldc2_w 243, 3) := by decide +kernel
theorem dX12_terms_49 : decode cX12_terms 49 = .ok (.invokestatic 183, 3) := by decide +kernel
theorem dX12_terms_52 : decode cX12_terms 52 = .ok (.ifCond .eq 7, 3) := by decide +kernel
theorem dX12_terms_55 : decode cX12_terms 55 = .ok (.iconst 1, 1) := by decide +kernel
theorem dX12_terms_56 : decode cX12_terms 56 = .ok (.goto 4, 3) := by decide +kernel
theorem dX12_terms_59 : decode cX12_terms 59 = .ok (.iconst 0, 1) := by decide +kernel
theorem dX12_terms_60 : decode cX12_terms 60 = .ok (.istore_n 3, 1) := by decide +kernel
theorem dX12_terms_61 : decode cX12_terms 61 = .ok (.iload_n 3, 1) := by decide +kernel
theorem dX12_terms_62 : decode cX12_terms 62 = .ok (.ifCond .ne 9, 3) := by decide +kernel
theorem dX12_terms_65 : decode cX12_terms 65 = .ok (.aload_n 0, 1) := by decide +kernel
theorem dX12_terms_66 : decode cX12_terms 66 = .ok (.iconst (-1), 1) := by decide +kernel
theorem dX12_terms_67 : decode cX12_terms 67 = .ok (.invokevirtual 172, 3) := by decide +kernel
theorem dX12_terms_70 : decode cX12_terms 70 = .ok (.ireturn, 1) := by decide +kernel
theorem dX12_terms_71 : decode cX12_terms 71 = .ok (.aload_n 0, 1) := by decide +kernel
theorem dX12_terms_72 : decode cX12_terms 72 = .ok (.iconst 0, 1) := by decide +kernel
theorem dX12_terms_73 : decode cX12_terms 73 = .ok (.putfield 169, 3) := by decide +kernel
theorem dX12_terms_76 : decode cX12_terms 76 = .ok (.aload_n 0, 1) := by decide +kernel
theorem dX12_terms_77 : decode cX12_terms 77 = .ok (.iconst 5, 1) := by decide +kernel
theorem dX12_terms_78 : decode cX12_terms 78 = .ok (.iload_n 1, 1) := by decide +kernel
theorem dX12_terms_79 : decode cX12_terms 79 = .ok (.iadd, 1) := by decide +kernel
theorem dX12_terms_80 : decode cX12_terms 80 = .ok (.iload_n 2, 1) := by decide +kernel
theorem dX12_terms_81 : decode cX12_terms 81 = .ok (.invokevirtual 232, 3) := by decide +kernel
theorem dX12_terms_84 : decode cX12_terms 84 = .ok (.ireturn, 1) := by decide +kernel
theorem dX12_row_0 : decode cX12_row 0 = .ok (.aload_n 0, 1) := by decide +kernel
theorem dX12_row_1 : decode cX12_row 1 = .ok (.iconst 0, 1) := by decide +kernel
theorem dX12_row_2 : decode cX12_row 2 = .ok (.putfield 163, 3) := by decide +kernel
theorem dX12_row_5 : decode cX12_row 5 = .ok (.aload_n 0, 1) := by decide +kernel
theorem dX12_row_6 : decode cX12_row 6 = .ok (.getfield 245, 3) := by decide +kernel
theorem dX12_row_9 : decode cX12_row 9 = .ok (.istore_n 1, 1) := by decide +kernel
theorem dX12_row_10 : decode cX12_row 10 = .ok (.aload_n 0, 1) := by decide +kernel
theorem dX12_row_11 : decode cX12_row 11 = .ok (.iconst 0, 1) := by decide +kernel
theorem dX12_row_12 : decode cX12_row 12 = .ok (.putfield 245, 3) := by decide +kernel
theorem dX12_row_15 : decode cX12_row 15 = .ok (.iload_n 1, 1) := by decide +kernel
theorem dX12_row_16 : decode cX12_row 16 = .ok (.ifCond .ne 10, 3) := by decide +kernel
theorem dX12_row_19 : decode cX12_row 19 = .ok (.aload_n 0, 1) := by decide +kernel
theorem dX12_row_20 : decode cX12_row 20 = .ok (.bipush (-6), 2) := by decide +kernel
theorem dX12_row_22 : decode cX12_row 22 = .ok (.invokevirtual 172, 3) := by decide +kernel
theorem dX12_row_25 : decode cX12_row 25 = .ok (.ireturn, 1) := by decide +kernel
theorem dX12_row_26 : decode cX12_row 26 = .ok (.aload_n 0, 1) := by decide +kernel
theorem dX12_row_27 : decode cX12_row 27 = .ok (.iconst 0, 1) := by decide +kernel
theorem dX12_row_28 : decode cX12_row 28 = .ok (.putfield 248, 3) := by decide +kernel
theorem dX12_row_31 : decode cX12_row 31 = .ok (.iconst 0, 1) := by decide +kernel
theorem dX12_row_32 : decode cX12_row 32 = .ok (.istore_n 2, 1) := by decide +kernel
theorem dX12_row_33 : decode cX12_row 33 = .ok (.iconst 0, 1) := by decide +kernel
theorem dX12_row_34 : decode cX12_row 34 = .ok (.istore_n 3, 1) := by decide +kernel
theorem dX12_row_35 : decode cX12_row 35 = .ok (.iload_n 3, 1) := by decide +kernel
theorem dX12_row_36 : decode cX12_row 36 = .ok (.iload_n 1, 1) := by decide +kernel
theorem dX12_row_37 : decode cX12_row 37 = .ok (.if_icmp .ge 86, 3) := by decide +kernel
theorem dX12_row_40 : decode cX12_row 40 = .ok (.iload_n 3, 1) := by decide +kernel
theorem dX12_row_41 : decode cX12_row 41 = .ok (.iconst 3, 1) := by decide +kernel
theorem dX12_row_42 : decode cX12_row 42 = .ok (.iadd, 1) := by decide +kernel
theorem dX12_row_43 : decode cX12_row 43 = .ok (.iload_n 1, 1) := by decide +kernel
theorem dX12_row_44 : decode cX12_row 44 = .ok (.if_icmp .ge 63, 3) := by decide +kernel
theorem dX12_row_47 : decode cX12_row 47 = .ok (.aload_n 0, 1) := by decide +kernel
theorem dX12_row_48 : decode cX12_row 48 = .ok (.getfield 35, 3) := by decide +kernel
theorem dX12_row_51 : decode cX12_row 51 = .ok (.iload_n 3, 1) := by decide +kernel
theorem dX12_row_52 : decode cX12_row 52 = .ok (.iconst 3, 1) := by decide +kernel
theorem dX12_row_53 : decode cX12_row 53 = .ok (.iadd, 1) := by decide +kernel
theorem dX12_row_54 : decode cX12_row 54 = .ok (.iaload, 1) := by decide +kernel
theorem dX12_row_55 : decode cX12_row 55 = .ok (.bipush 10, 2) := by decide +kernel
theorem dX12_row_57 : decode cX12_row 57 = .ok (.if_icmp .ge 50, 3) := by decide +kernel
theorem dX12_row_60 : decode cX12_row 60 = .ok (.aload_n 0, 1) := by decide +kernel
theorem dX12_row_61 : decode cX12_row 61 = .ok (.aload_n 0, 1) := by decide +kernel
theorem dX12_row_62 : decode cX12_row 62 = .ok (.getfield 35, 3) := by decide +kernel
theorem dX12_row_65 : decode cX12_row 65 = .ok (.iload_n 3, 1) := by decide +kernel
theorem dX12_row_66 : decode cX12_row 66 = .ok (.iaload, 1) := by decide +kernel
theorem dX12_row_67 : decode cX12_row 67 = .ok (.aload_n 0, 1) := by decide +kernel
theorem dX12_row_68 : decode cX12_row 68 = .ok (.getfield 35, 3) := by decide +kernel
theorem dX12_row_71 : decode cX12_row 71 = .ok (.iload_n 3, 1) := by decide +kernel
theorem dX12_row_72 : decode cX12_row 72 = .ok (.iconst 1, 1) := by decide +kernel
theorem dX12_row_73 : decode cX12_row 73 = .ok (.iadd, 1) := by decide +kernel
theorem dX12_row_74 : decode cX12_row 74 = .ok (.iaload, 1) := by decide +kernel
theorem dX12_row_75 : decode cX12_row 75 = .ok (.bipush 10, 2) := by decide +kernel
theorem dX12_row_77 : decode cX12_row 77 = .ok (.aload_n 0, 1) := by decide +kernel
theorem dX12_row_78 : decode cX12_row 78 = .ok (.getfield 35, 3) := by decide +kernel
theorem dX12_row_81 : decode cX12_row 81 = .ok (.iload_n 3, 1) := by decide +kernel
theorem dX12_row_82 : decode cX12_row 82 = .ok (.iconst 2, 1) := by decide +kernel
theorem dX12_row_83 : decode cX12_row 83 = .ok (.iadd, 1) := by decide +kernel
theorem dX12_row_84 : decode cX12_row 84 = .ok (.iaload, 1) := by decide +kernel
theorem dX12_row_85 : decode cX12_row 85 = .ok (.imul, 1) := by decide +kernel
theorem dX12_row_86 : decode cX12_row 86 = .ok (.aload_n 0, 1) := by decide +kernel
theorem dX12_row_87 : decode cX12_row 87 = .ok (.getfield 35, 3) := by decide +kernel
theorem dX12_row_90 : decode cX12_row 90 = .ok (.iload_n 3, 1) := by decide +kernel
theorem dX12_row_91 : decode cX12_row 91 = .ok (.iconst 3, 1) := by decide +kernel
theorem dX12_row_92 : decode cX12_row 92 = .ok (.iadd, 1) := by decide +kernel
theorem dX12_row_93 : decode cX12_row 93 = .ok (.iaload, 1) := by decide +kernel
theorem dX12_row_94 : decode cX12_row 94 = .ok (.iadd, 1) := by decide +kernel
theorem dX12_row_95 : decode cX12_row 95 = .ok (.invokevirtual 219, 3) := by decide +kernel
theorem dX12_row_98 : decode cX12_row 98 = .ok (.ifCond .lt 9, 3) := by decide +kernel
theorem dX12_row_101 : decode cX12_row 101 = .ok (.iinc 2 1, 3) := by decide +kernel
theorem dX12_row_104 : decode cX12_row 104 = .ok (.goto 13, 3) := by decide +kernel
theorem dX12_row_107 : decode cX12_row 107 = .ok (.aload_n 0, 1) := by decide +kernel
theorem dX12_row_108 : decode cX12_row 108 = .ok (.dup, 1) := by decide +kernel
theorem dX12_row_109 : decode cX12_row 109 = .ok (.getfield 248, 3) := by decide +kernel
theorem dX12_row_112 : decode cX12_row 112 = .ok (.iconst 1, 1) := by decide +kernel
theorem dX12_row_113 : decode cX12_row 113 = .ok (.iadd, 1) := by decide +kernel
theorem dX12_row_114 : decode cX12_row 114 = .ok (.putfield 248, 3) := by decide +kernel
theorem dX12_row_117 : decode cX12_row 117 = .ok (.iinc 3 4, 3) := by decide +kernel
theorem dX12_row_120 : decode cX12_row 120 = .ok (.goto (-85), 3) := by decide +kernel
theorem dX12_row_123 : decode cX12_row 123 = .ok (.aload_n 0, 1) := by decide +kernel
theorem dX12_row_124 : decode cX12_row 124 = .ok (.iload_n 2, 1) := by decide +kernel
theorem dX12_row_125 : decode cX12_row 125 = .ok (.invokevirtual 187, 3) := by decide +kernel
theorem dX12_row_128 : decode cX12_row 128 = .ok (.ireturn, 1) := by decide +kernel
theorem dX12_rust_0 : decode cX12_rust 0 = .ok (.aload_n 0, 1) := by decide +kernel
theorem dX12_rust_1 : decode cX12_rust 1 = .ok (.iconst 0, 1) := by decide +kernel
theorem dX12_rust_2 : decode cX12_rust 2 = .ok (.putfield 163, 3) := by decide +kernel
theorem dX12_rust_5 : decode cX12_rust 5 = .ok (.aload_n 0, 1) := by decide +kernel
theorem dX12_rust_6 : decode cX12_rust 6 = .ok (.getfield 248, 3) := by decide +kernel
theorem dX12_rust_9 : decode cX12_rust 9 = .ok (.ireturn, 1) := by decide +kernel
theorem dX12_four_0 : decode cX12_four 0 = .ok (.bipush 24, 2) := by decide +kernel
theorem dX12_four_2 : decode cX12_four 2 = .ok (.istore_n 2, 1) := by decide +kernel
theorem dX12_four_3 : decode cX12_four 3 = .ok (.iload_n 2, 1) := by decide +kernel
theorem dX12_four_4 : decode cX12_four 4 = .ok (.ifCond .lt 35, 3) := by decide +kernel
theorem dX12_four_7 : decode cX12_four 7 = .ok (.aload_n 0, 1) := by decide +kernel
theorem dX12_four_8 : decode cX12_four 8 = .ok (.getfield 35, 3) := by decide +kernel
theorem dX12_four_11 : decode cX12_four 11 = .ok (.aload_n 0, 1) := by decide +kernel
theorem dX12_four_12 : decode cX12_four 12 = .ok (.getfield 245, 3) := by decide +kernel
theorem dX12_four_15 : decode cX12_four 15 = .ok (.iload_n 1, 1) := by decide +kernel
theorem dX12_four_16 : decode cX12_four 16 = .ok (.iload_n 2, 1) := by decide +kernel
theorem dX12_four_17 : decode cX12_four 17 = .ok (.ishr, 1) := by decide +kernel
theorem dX12_four_18 : decode cX12_four 18 = .ok (.sipush 255, 3) := by decide +kernel
theorem dX12_four_21 : decode cX12_four 21 = .ok (.iand, 1) := by decide +kernel
theorem dX12_four_22 : decode cX12_four 22 = .ok (.iastore, 1) := by decide +kernel
theorem dX12_four_23 : decode cX12_four 23 = .ok (.aload_n 0, 1) := by decide +kernel
theorem dX12_four_24 : decode cX12_four 24 = .ok (.dup, 1) := by decide +kernel
theorem dX12_four_25 : decode cX12_four 25 = .ok (.getfield 245, 3) := by decide +kernel
theorem dX12_four_28 : decode cX12_four 28 = .ok (.iconst 1, 1) := by decide +kernel
theorem dX12_four_29 : decode cX12_four 29 = .ok (.iadd, 1) := by decide +kernel
theorem dX12_four_30 : decode cX12_four 30 = .ok (.putfield 245, 3) := by decide +kernel
theorem dX12_four_33 : decode cX12_four 33 = .ok (.iinc 2 (-8), 3) := by decide +kernel
theorem dX12_four_36 : decode cX12_four 36 = .ok (.goto (-33), 3) := by decide +kernel
theorem dX12_four_39 : decode cX12_four 39 = .ok (.return_, 1) := by decide +kernel
theorem dX12_feed_0 : decode cX12_feed 0 = .ok (.aload_n 0, 1) := by decide +kernel
theorem dX12_feed_1 : decode cX12_feed 1 = .ok (.iconst 0, 1) := by decide +kernel
theorem dX12_feed_2 : decode cX12_feed 2 = .ok (.putfield 163, 3) := by decide +kernel
theorem dX12_feed_5 : decode cX12_feed 5 = .ok (.aload_n 0, 1) := by decide +kernel
theorem dX12_feed_6 : decode cX12_feed 6 = .ok (.getfield 245, 3) := by decide +kernel
theorem dX12_feed_9 : decode cX12_feed 9 = .ok (.bipush 20, 2) := by decide +kernel
theorem dX12_feed_11 : decode cX12_feed 11 = .ok (.iadd, 1) := by decide +kernel
theorem dX12_feed_12 : decode cX12_feed 12 = .ok (.sipush 400, 3) := by decide +kernel
theorem dX12_feed_15 : decode cX12_feed 15 = .ok (.if_icmp .le 5, 3) := by decide +kernel
theorem dX12_feed_18 : decode cX12_feed 18 = .ok (.iconst (-1), 1) := by decide +kernel
theorem dX12_feed_19 : decode cX12_feed 19 = .ok (.ireturn, 1) := by decide +kernel
theorem dX12_feed_20 : decode cX12_feed 20 = .ok (.aload_n 0, 1) := by decide +kernel
theorem dX12_feed_21 : decode cX12_feed 21 = .ok (.iload_n 1, 1) := by decide +kernel
theorem dX12_feed_22 : decode cX12_feed 22 = .ok (.invokevirtual 251, 3) := by decide +kernel
theorem dX12_feed_25 : decode cX12_feed 25 = .ok (.aload_n 0, 1) := by decide +kernel
theorem dX12_feed_26 : decode cX12_feed 26 = .ok (.iload_n 2, 1) := by decide +kernel
theorem dX12_feed_27 : decode cX12_feed 27 = .ok (.invokevirtual 251, 3) := by decide +kernel
theorem dX12_feed_30 : decode cX12_feed 30 = .ok (.aload_n 0, 1) := by decide +kernel
theorem dX12_feed_31 : decode cX12_feed 31 = .ok (.iload_n 3, 1) := by decide +kernel
theorem dX12_feed_32 : decode cX12_feed 32 = .ok (.invokevirtual 251, 3) := by decide +kernel
theorem dX12_feed_35 : decode cX12_feed 35 = .ok (.aload_n 0, 1) := by decide +kernel
theorem dX12_feed_36 : decode cX12_feed 36 = .ok (.iload 4, 2) := by decide +kernel
theorem dX12_feed_38 : decode cX12_feed 38 = .ok (.invokevirtual 251, 3) := by decide +kernel
theorem dX12_feed_41 : decode cX12_feed 41 = .ok (.aload_n 0, 1) := by decide +kernel
theorem dX12_feed_42 : decode cX12_feed 42 = .ok (.iload 5, 2) := by decide +kernel
theorem dX12_feed_44 : decode cX12_feed 44 = .ok (.invokevirtual 251, 3) := by decide +kernel
theorem dX12_feed_47 : decode cX12_feed 47 = .ok (.aload_n 0, 1) := by decide +kernel
theorem dX12_feed_48 : decode cX12_feed 48 = .ok (.getfield 245, 3) := by decide +kernel
theorem dX12_feed_51 : decode cX12_feed 51 = .ok (.ireturn, 1) := by decide +kernel
theorem dX12_end_0 : decode cX12_end 0 = .ok (.aload_n 0, 1) := by decide +kernel
theorem dX12_end_1 : decode cX12_end 1 = .ok (.iconst 0, 1) := by decide +kernel
theorem dX12_end_2 : decode cX12_end 2 = .ok (.putfield 163, 3) := by decide +kernel
theorem dX12_end_5 : decode cX12_end 5 = .ok (.iload_n 1, 1) := by decide +kernel
theorem dX12_end_6 : decode cX12_end 6 = .ok (.ifCond .lt 11, 3) := by decide +kernel
theorem dX12_end_9 : decode cX12_end 9 = .ok (.iload_n 1, 1) := by decide +kernel
theorem dX12_end_10 : decode cX12_end 10 = .ok (.aload_n 0, 1) := by decide +kernel
theorem dX12_end_11 : decode cX12_end 11 = .ok (.getfield 245, 3) := by decide +kernel
theorem dX12_end_14 : decode cX12_end 14 = .ok (.if_icmp .le 5, 3) := by decide +kernel
theorem dX12_end_17 : decode cX12_end 17 = .ok (.iconst (-1), 1) := by decide +kernel
theorem dX12_end_18 : decode cX12_end 18 = .ok (.ireturn, 1) := by decide +kernel
theorem dX12_end_19 : decode cX12_end 19 = .ok (.aload_n 0, 1) := by decide +kernel
theorem dX12_end_20 : decode cX12_end 20 = .ok (.iload_n 1, 1) := by decide +kernel
theorem dX12_end_21 : decode cX12_end 21 = .ok (.putfield 245, 3) := by decide +kernel
theorem dX12_end_24 : decode cX12_end 24 = .ok (.iload_n 1, 1) := by decide +kernel
theorem dX12_end_25 : decode cX12_end 25 = .ok (.ireturn, 1) := by decide +kernel
theorem dX12_isSmall_0 : decode cX12_isSmall 0 = .ok (.iload_n 0, 1) := by decide +kernel
theorem dX12_isSmall_1 : decode cX12_isSmall 1 = .ok (.bipush 97, 2) := by decide +kernel
theorem dX12_isSmall_3 : decode cX12_isSmall 3 = .ok (.if_icmp .lt 13, 3) := by decide +kernel
theorem dX12_isSmall_6 : decode cX12_isSmall 6 = .ok (.iload_n 0, 1) := by decide +kernel
theorem dX12_isSmall_7 : decode cX12_isSmall 7 = .ok (.bipush 122, 2) := by decide +kernel
theorem dX12_isSmall_9 : decode cX12_isSmall 9 = .ok (.if_icmp .gt 7, 3) := by decide +kernel
theorem dX12_isSmall_12 : decode cX12_isSmall 12 = .ok (.iconst 1, 1) := by decide +kernel
theorem dX12_isSmall_13 : decode cX12_isSmall 13 = .ok (.goto 4, 3) := by decide +kernel
theorem dX12_isSmall_16 : decode cX12_isSmall 16 = .ok (.iconst 0, 1) := by decide +kernel
theorem dX12_isSmall_17 : decode cX12_isSmall 17 = .ok (.ireturn, 1) := by decide +kernel
theorem dX12_isDigit_0 : decode cX12_isDigit 0 = .ok (.iload_n 0, 1) := by decide +kernel
theorem dX12_isDigit_1 : decode cX12_isDigit 1 = .ok (.bipush 48, 2) := by decide +kernel
theorem dX12_isDigit_3 : decode cX12_isDigit 3 = .ok (.if_icmp .lt 13, 3) := by decide +kernel
theorem dX12_isDigit_6 : decode cX12_isDigit 6 = .ok (.iload_n 0, 1) := by decide +kernel
theorem dX12_isDigit_7 : decode cX12_isDigit 7 = .ok (.bipush 57, 2) := by decide +kernel
theorem dX12_isDigit_9 : decode cX12_isDigit 9 = .ok (.if_icmp .gt 7, 3) := by decide +kernel
theorem dX12_isDigit_12 : decode cX12_isDigit 12 = .ok (.iconst 1, 1) := by decide +kernel
theorem dX12_isDigit_13 : decode cX12_isDigit 13 = .ok (.goto 4, 3) := by decide +kernel
theorem dX12_isDigit_16 : decode cX12_isDigit 16 = .ok (.iconst 0, 1) := by decide +kernel
theorem dX12_isDigit_17 : decode cX12_isDigit 17 = .ok (.ireturn, 1) := by decide +kernel
theorem dX12_begin_0 : decode cX12_begin 0 = .ok (.aload_n 0, 1) := by decide +kernel
theorem dX12_begin_1 : decode cX12_begin 1 = .ok (.iconst 0, 1) := by decide +kernel
theorem dX12_begin_2 : decode cX12_begin 2 = .ok (.putfield 254, 3) := by decide +kernel
theorem dX12_begin_5 : decode cX12_begin 5 = .ok (.aload_n 0, 1) := by decide +kernel
theorem dX12_begin_6 : decode cX12_begin 6 = .ok (.iconst 0, 1) := by decide +kernel
theorem dX12_begin_7 : decode cX12_begin 7 = .ok (.putfield 257, 3) := by decide +kernel
theorem dX12_begin_10 : decode cX12_begin 10 = .ok (.aload_n 0, 1) := by decide +kernel
theorem dX12_begin_11 : decode cX12_begin 11 = .ok (.iconst (-1), 1) := by decide +kernel
theorem dX12_begin_12 : decode cX12_begin 12 = .ok (.putfield 38, 3) := by decide +kernel
theorem dX12_begin_15 : decode cX12_begin 15 = .ok (.aload_n 0, 1) := by decide +kernel
theorem dX12_begin_16 : decode cX12_begin 16 = .ok (.invokevirtual 261, 3) := by decide +kernel
theorem dX12_begin_19 : decode cX12_begin 19 = .ok (.return_, 1) := by decide +kernel
theorem dX12_next_0 : decode cX12_next 0 = .ok (.aload_n 0, 1) := by decide +kernel
theorem dX12_next_1 : decode cX12_next 1 = .ok (.aload_n 0, 1) := by decide +kernel
theorem dX12_next_2 : decode cX12_next 2 = .ok (.getfield 254, 3) := by decide +kernel
theorem dX12_next_5 : decode cX12_next 5 = .ok (.putfield 264, 3) := by decide +kernel
theorem dX12_next_8 : decode cX12_next 8 = .ok (.aload_n 0, 1) := by decide +kernel
theorem dX12_next_9 : decode cX12_next 9 = .ok (.getfield 264, 3) := by decide +kernel
theorem dX12_next_12 : decode cX12_next 12 = .ok (.aload_n 0, 1) := by decide +kernel
theorem dX12_next_13 : decode cX12_next 13 = .ok (.getfield 245, 3) := by decide +kernel
theorem dX12_next_16 : decode cX12_next 16 = .ok (.if_icmp .ge 30, 3) := by decide +kernel
theorem dX12_next_19 : decode cX12_next 19 = .ok (.aload_n 0, 1) := by decide +kernel
theorem dX12_next_20 : decode cX12_next 20 = .ok (.getfield 35, 3) := by decide +kernel
theorem dX12_next_23 : decode cX12_next 23 = .ok (.aload_n 0, 1) := by decide +kernel
theorem dX12_next_24 : decode cX12_next 24 = .ok (.getfield 264, 3) := by decide +kernel
theorem dX12_next_27 : decode cX12_next 27 = .ok (.iaload, 1) := by decide +kernel
theorem dX12_next_28 : decode cX12_next 28 = .ok (.bipush 32, 2) := by decide +kernel
theorem dX12_next_30 : decode cX12_next 30 = .ok (.if_icmp .ne 16, 3) := by decide +kernel
theorem dX12_next_33 : decode cX12_next 33 = .ok (.aload_n 0, 1) := by decide +kernel
theorem dX12_next_34 : decode cX12_next 34 = .ok (.dup, 1) := by decide +kernel
theorem dX12_next_35 : decode cX12_next 35 = .ok (.getfield 264, 3) := by decide +kernel
theorem dX12_next_38 : decode cX12_next 38 = .ok (.iconst 1, 1) := by decide +kernel
theorem dX12_next_39 : decode cX12_next 39 = .ok (.iadd, 1) := by decide +kernel
theorem dX12_next_40 : decode cX12_next 40 = .ok (.putfield 264, 3) := by decide +kernel
theorem dX12_next_43 : decode cX12_next 43 = .ok (.goto (-35), 3) := by decide +kernel
theorem dX12_next_46 : decode cX12_next 46 = .ok (.aload_n 0, 1) := by decide +kernel
theorem dX12_next_47 : decode cX12_next 47 = .ok (.aload_n 0, 1) := by decide +kernel
theorem dX12_next_48 : decode cX12_next 48 = .ok (.getfield 264, 3) := by decide +kernel
theorem dX12_next_51 : decode cX12_next 51 = .ok (.putfield 254, 3) := by decide +kernel
theorem dX12_next_54 : decode cX12_next 54 = .ok (.aload_n 0, 1) := by decide +kernel
theorem dX12_next_55 : decode cX12_next 55 = .ok (.lconst 0, 1) := by decide +kernel
theorem dX12_next_56 : decode cX12_next 56 = .ok (.putfield 267, 3) := by decide +kernel
theorem dX12_next_59 : decode cX12_next 59 = .ok (.aload_n 0, 1) := by decide +kernel
theorem dX12_next_60 : decode cX12_next 60 = .ok (.aload_n 0, 1) := by decide +kernel
theorem dX12_next_61 : decode cX12_next 61 = .ok (.getfield 264, 3) := by decide +kernel
theorem dX12_next_64 : decode cX12_next 64 = .ok (.aload_n 0, 1) := by decide +kernel
theorem dX12_next_65 : decode cX12_next 65 = .ok (.getfield 245, 3) := by decide +kernel
theorem dX12_next_68 : decode cX12_next 68 = .ok (.if_icmp .ne 7, 3) := by decide +kernel
theorem dX12_next_71 : decode cX12_next 71 = .ok (.iconst 0, 1) := by decide +kernel
theorem dX12_next_72 : decode cX12_next 72 = .ok (.goto 42, 3) := by decide +kernel
theorem dX12_next_75 : decode cX12_next 75 = .ok (.aload_n 0, 1) := by decide +kernel
theorem dX12_next_76 : decode cX12_next 76 = .ok (.getfield 35, 3) := by decide +kernel
theorem dX12_next_79 : decode cX12_next 79 = .ok (.aload_n 0, 1) := by decide +kernel
theorem dX12_next_80 : decode cX12_next 80 = .ok (.getfield 264, 3) := by decide +kernel
theorem dX12_next_83 : decode cX12_next 83 = .ok (.iaload, 1) := by decide +kernel
theorem dX12_next_84 : decode cX12_next 84 = .ok (.invokestatic 271, 3) := by decide +kernel
theorem dX12_next_87 : decode cX12_next 87 = .ok (.ifCond .eq 7, 3) := by decide +kernel
theorem dX12_next_90 : decode cX12_next 90 = .ok (.iconst 1, 1) := by decide +kernel
theorem dX12_next_91 : decode cX12_next 91 = .ok (.goto 23, 3) := by decide +kernel
theorem dX12_next_94 : decode cX12_next 94 = .ok (.aload_n 0, 1) := by decide +kernel
theorem dX12_next_95 : decode cX12_next 95 = .ok (.getfield 35, 3) := by decide +kernel
theorem dX12_next_98 : decode cX12_next 98 = .ok (.aload_n 0, 1) := by decide +kernel
theorem dX12_next_99 : decode cX12_next 99 = .ok (.getfield 264, 3) := by decide +kernel
theorem dX12_next_102 : decode cX12_next 102 = .ok (.iaload, 1) := by decide +kernel
theorem dX12_next_103 : decode cX12_next 103 = .ok (.invokestatic 274, 3) := by decide +kernel
theorem dX12_next_106 : decode cX12_next 106 = .ok (.ifCond .eq 7, 3) := by decide +kernel
theorem dX12_next_109 : decode cX12_next 109 = .ok (.iconst 2, 1) := by decide +kernel
theorem dX12_next_110 : decode cX12_next 110 = .ok (.goto 4, 3) := by decide +kernel
theorem dX12_next_113 : decode cX12_next 113 = .ok (.iconst 3, 1) := by decide +kernel
theorem dX12_next_114 : decode cX12_next 114 = .ok (.putfield 277, 3) := by decide +kernel
theorem dX12_next_117 : decode cX12_next 117 = .ok (.aload_n 0, 1) := by decide +kernel
theorem dX12_next_118 : decode cX12_next 118 = .ok (.getfield 277, 3) := by decide +kernel
theorem dX12_next_121 : decode cX12_next 121 = .ok (.iconst 3, 1) := by decide +kernel
theorem dX12_next_122 : decode cX12_next 122 = .ok (.if_icmp .ne 27, 3) := by decide +kernel
theorem dX12_next_125 : decode cX12_next 125 = .ok (.aload_n 0, 1) := by decide +kernel
theorem dX12_next_126 : decode cX12_next 126 = .ok (.aload_n 0, 1) := by decide +kernel
theorem dX12_next_127 : decode cX12_next 127 = .ok (.getfield 35, 3) := by decide +kernel
theorem dX12_next_130 : decode cX12_next 130 = .ok (.aload_n 0, 1) := by decide +kernel
theorem dX12_next_131 : decode cX12_next 131 = .ok (.getfield 264, 3) := by decide +kernel
theorem dX12_next_134 : decode cX12_next 134 = .ok (.iaload, 1) := by decide +kernel
theorem dX12_next_135 : decode cX12_next 135 = .ok (.i2l, 1) := by decide +kernel
theorem dX12_next_136 : decode cX12_next 136 = .ok (.putfield 267, 3) := by decide +kernel
theorem dX12_next_139 : decode cX12_next 139 = .ok (.aload_n 0, 1) := by decide +kernel
theorem dX12_next_140 : decode cX12_next 140 = .ok (.dup, 1) := by decide +kernel
theorem dX12_next_141 : decode cX12_next 141 = .ok (.getfield 254, 3) := by decide +kernel
theorem dX12_next_144 : decode cX12_next 144 = .ok (.iconst 1, 1) := by decide +kernel
theorem dX12_next_145 : decode cX12_next 145 = .ok (.iadd, 1) := by decide +kernel
theorem dX12_next_146 : decode cX12_next 146 = .ok (.putfield 254, 3) := by decide +kernel
theorem dX12_next_149 : decode cX12_next 149 = .ok (.aload_n 0, 1) := by decide +kernel
theorem dX12_next_150 : decode cX12_next 150 = .ok (.getfield 277, 3) := by decide +kernel
theorem dX12_next_153 : decode cX12_next 153 = .ok (.iconst 1, 1) := by decide +kernel
theorem dX12_next_154 : decode cX12_next 154 = .ok (.if_icmp .ne 89, 3) := by decide +kernel
theorem dX12_next_157 : decode cX12_next 157 = .ok (.aload_n 0, 1) := by decide +kernel
theorem dX12_next_158 : decode cX12_next 158 = .ok (.getfield 254, 3) := by decide +kernel
theorem dX12_next_161 : decode cX12_next 161 = .ok (.aload_n 0, 1) := by decide +kernel
theorem dX12_next_162 : decode cX12_next 162 = .ok (.getfield 245, 3) := by decide +kernel
theorem dX12_next_165 : decode cX12_next 165 = .ok (.if_icmp .ge 78, 3) := by decide +kernel
theorem dX12_next_168 : decode cX12_next 168 = .ok (.aload_n 0, 1) := by decide +kernel
theorem dX12_next_169 : decode cX12_next 169 = .ok (.getfield 35, 3) := by decide +kernel
theorem dX12_next_172 : decode cX12_next 172 = .ok (.aload_n 0, 1) := by decide +kernel
theorem dX12_next_173 : decode cX12_next 173 = .ok (.getfield 254, 3) := by decide +kernel
theorem dX12_next_176 : decode cX12_next 176 = .ok (.iaload, 1) := by decide +kernel
theorem dX12_next_177 : decode cX12_next 177 = .ok (.invokestatic 271, 3) := by decide +kernel
theorem dX12_next_180 : decode cX12_next 180 = .ok (.ifCond .eq 63, 3) := by decide +kernel
theorem dX12_next_183 : decode cX12_next 183 = .ok (.aload_n 0, 1) := by decide +kernel
theorem dX12_next_184 : decode cX12_next 184 = .ok (.aload_n 0, 1) := by decide +kernel
theorem dX12_next_185 : decode cX12_next 185 = .ok (.getfield 254, 3) := by decide +kernel
theorem dX12_next_188 : decode cX12_next 188 = .ok (.aload_n 0, 1) := by decide +kernel
theorem dX12_next_189 : decode cX12_next 189 = .ok (.getfield 264, 3) := by decide +kernel
theorem dX12_next_192 : decode cX12_next 192 = .ok (.isub, 1) := by decide +kernel
theorem dX12_next_193 : decode cX12_next 193 = .ok (.bipush 10, 2) := by decide +kernel
theorem dX12_next_195 : decode cX12_next 195 = .ok (.if_icmp .ge 29, 3) := by decide +kernel
theorem dX12_next_198 : decode cX12_next 198 = .ok (.aload_n 0, 1) := by decide +kernel
theorem dX12_next_199 : decode cX12_next 199 = .ok (.getfield 267, 3) := by decide +kernel
theorem dX12_next_202 : decode cX12_next 202 = .ok (.ldc2_w 280, 3) := by decide +kernel
theorem dX12_next_205 : decode cX12_next 205 = .ok (.lmul, 1) := by decide +kernel
theorem dX12_next_206 : decode cX12_next 206 = .ok (.aload_n 0, 1) := by decide +kernel
theorem dX12_next_207 : decode cX12_next 207 = .ok (.getfield 35, 3) := by decide +kernel
theorem dX12_next_210 : decode cX12_next 210 = .ok (.aload_n 0, 1) := by decide +kernel
theorem dX12_next_211 : decode cX12_next 211 = .ok (.getfield 254, 3) := by decide +kernel
theorem dX12_next_214 : decode cX12_next 214 = .ok (.iaload, 1) := by decide +kernel
theorem dX12_next_215 : decode cX12_next 215 = .ok (.i2l, 1) := by decide +kernel
theorem dX12_next_216 : decode cX12_next 216 = .ok (.ladd, 1) := by decide +kernel
theorem dX12_next_217 : decode cX12_next 217 = .ok (.ldc2_w 282, 3) := by decide +kernel
theorem dX12_next_220 : decode cX12_next 220 = .ok (.lsub, 1) := by decide +kernel
theorem dX12_next_221 : decode cX12_next 221 = .ok (.goto 6, 3) := by decide +kernel
theorem dX12_next_224 : decode cX12_next 224 = .ok (.ldc2_w 284, 3) := by decide +kernel
theorem dX12_next_227 : decode cX12_next 227 = .ok (.putfield 267, 3) := by decide +kernel
theorem dX12_next_230 : decode cX12_next 230 = .ok (.aload_n 0, 1) := by decide +kernel
theorem dX12_next_231 : decode cX12_next 231 = .ok (.dup, 1) := by decide +kernel
theorem dX12_next_232 : decode cX12_next 232 = .ok (.getfield 254, 3) := by decide +kernel
theorem dX12_next_235 : decode cX12_next 235 = .ok (.iconst 1, 1) := by decide +kernel
theorem dX12_next_236 : decode cX12_next 236 = .ok (.iadd, 1) := by decide +kernel
theorem dX12_next_237 : decode cX12_next 237 = .ok (.putfield 254, 3) := by decide +kernel
theorem dX12_next_240 : decode cX12_next 240 = .ok (.goto (-91), 3) := by decide +kernel
theorem dX12_next_243 : decode cX12_next 243 = .ok (.aload_n 0, 1) := by decide +kernel
theorem dX12_next_244 : decode cX12_next 244 = .ok (.getfield 277, 3) := by decide +kernel
theorem dX12_next_247 : decode cX12_next 247 = .ok (.iconst 2, 1) := by decide +kernel
theorem dX12_next_248 : decode cX12_next 248 = .ok (.if_icmp .ne 87, 3) := by decide +kernel
theorem dX12_next_251 : decode cX12_next 251 = .ok (.aload_n 0, 1) := by decide +kernel
theorem dX12_next_252 : decode cX12_next 252 = .ok (.getfield 254, 3) := by decide +kernel
theorem dX12_next_255 : decode cX12_next 255 = .ok (.aload_n 0, 1) := by decide +kernel
theorem dX12_next_256 : decode cX12_next 256 = .ok (.getfield 245, 3) := by decide +kernel
theorem dX12_next_259 : decode cX12_next 259 = .ok (.if_icmp .ge 76, 3) := by decide +kernel
theorem dX12_next_262 : decode cX12_next 262 = .ok (.aload_n 0, 1) := by decide +kernel
theorem dX12_next_263 : decode cX12_next 263 = .ok (.getfield 35, 3) := by decide +kernel
theorem dX12_next_266 : decode cX12_next 266 = .ok (.aload_n 0, 1) := by decide +kernel
theorem dX12_next_267 : decode cX12_next 267 = .ok (.getfield 254, 3) := by decide +kernel
theorem dX12_next_270 : decode cX12_next 270 = .ok (.iaload, 1) := by decide +kernel
theorem dX12_next_271 : decode cX12_next 271 = .ok (.invokestatic 274, 3) := by decide +kernel
theorem dX12_next_274 : decode cX12_next 274 = .ok (.ifCond .eq 61, 3) := by decide +kernel
theorem dX12_next_277 : decode cX12_next 277 = .ok (.aload_n 0, 1) := by decide +kernel
theorem dX12_next_278 : decode cX12_next 278 = .ok (.aload_n 0, 1) := by decide +kernel
theorem dX12_next_279 : decode cX12_next 279 = .ok (.getfield 267, 3) := by decide +kernel
theorem dX12_next_282 : decode cX12_next 282 = .ok (.ldc2_w 286, 3) := by decide +kernel
theorem dX12_next_285 : decode cX12_next 285 = .ok (.lcmp, 1) := by decide +kernel
theorem dX12_next_286 : decode cX12_next 286 = .ok (.ifCond .le 10, 3) := by decide +kernel
theorem dX12_next_289 : decode cX12_next 289 = .ok (.aload_n 0, 1) := by decide +kernel
theorem dX12_next_290 : decode cX12_next 290 = .ok (.getfield 267, 3) := by decide +kernel
theorem dX12_next_293 : decode cX12_next 293 = .ok (.goto 26, 3) := by decide +kernel
theorem dX12_next_296 : decode cX12_next 296 = .ok (.aload_n 0, 1) := by decide +kernel
theorem dX12_next_297 : decode cX12_next 297 = .ok (.getfield 267, 3) := by decide +kernel
theorem dX12_next_300 : decode cX12_next 300 = .ok (.ldc2_w 241, 3) := by decide +kernel
theorem dX12_next_303 : decode cX12_next 303 = .ok (.lmul, 1) := by decide +kernel
theorem dX12_next_304 : decode cX12_next 304 = .ok (.aload_n 0, 1) := by decide +kernel
theorem dX12_next_305 : decode cX12_next 305 = .ok (.getfield 35, 3) := by decide +kernel
theorem dX12_next_308 : decode cX12_next 308 = .ok (.aload_n 0, 1) := by decide +kernel
theorem dX12_next_309 : decode cX12_next 309 = .ok (.getfield 254, 3) := by decide +kernel
theorem dX12_next_312 : decode cX12_next 312 = .ok (.iaload, 1) := by decide +kernel
theorem dX12_next_313 : decode cX12_next 313 = .ok (.i2l, 1) := by decide +kernel
theorem dX12_next_314 : decode cX12_next 314 = .ok (.ladd, 1) := by decide +kernel
theorem dX12_next_315 : decode cX12_next 315 = .ok (.ldc2_w 288, 3) := by decide +kernel
theorem dX12_next_318 : decode cX12_next 318 = .ok (.lsub, 1) := by decide +kernel
theorem dX12_next_319 : decode cX12_next 319 = .ok (.putfield 267, 3) := by decide +kernel
theorem dX12_next_322 : decode cX12_next 322 = .ok (.aload_n 0, 1) := by decide +kernel
theorem dX12_next_323 : decode cX12_next 323 = .ok (.dup, 1) := by decide +kernel
theorem dX12_next_324 : decode cX12_next 324 = .ok (.getfield 254, 3) := by decide +kernel
theorem dX12_next_327 : decode cX12_next 327 = .ok (.iconst 1, 1) := by decide +kernel
theorem dX12_next_328 : decode cX12_next 328 = .ok (.iadd, 1) := by decide +kernel
theorem dX12_next_329 : decode cX12_next 329 = .ok (.putfield 254, 3) := by decide +kernel
theorem dX12_next_332 : decode cX12_next 332 = .ok (.goto (-89), 3) := by decide +kernel
theorem dX12_next_335 : decode cX12_next 335 = .ok (.return_, 1) := by decide +kernel
theorem dX12_isWord_0 : decode cX12_isWord 0 = .ok (.aload_n 0, 1) := by decide +kernel
theorem dX12_isWord_1 : decode cX12_isWord 1 = .ok (.getfield 277, 3) := by decide +kernel
theorem dX12_isWord_4 : decode cX12_isWord 4 = .ok (.iconst 1, 1) := by decide +kernel
theorem dX12_isWord_5 : decode cX12_isWord 5 = .ok (.if_icmp .ne 16, 3) := by decide +kernel
theorem dX12_isWord_8 : decode cX12_isWord 8 = .ok (.aload_n 0, 1) := by decide +kernel
theorem dX12_isWord_9 : decode cX12_isWord 9 = .ok (.getfield 267, 3) := by decide +kernel
theorem dX12_isWord_12 : decode cX12_isWord 12 = .ok (.lload_n 1, 1) := by decide +kernel
theorem dX12_isWord_13 : decode cX12_isWord 13 = .ok (.lcmp, 1) := by decide +kernel
theorem dX12_isWord_14 : decode cX12_isWord 14 = .ok (.ifCond .ne 7, 3) := by decide +kernel
theorem dX12_isWord_17 : decode cX12_isWord 17 = .ok (.iconst 1, 1) := by decide +kernel
theorem dX12_isWord_18 : decode cX12_isWord 18 = .ok (.goto 4, 3) := by decide +kernel
theorem dX12_isWord_21 : decode cX12_isWord 21 = .ok (.iconst 0, 1) := by decide +kernel
theorem dX12_isWord_22 : decode cX12_isWord 22 = .ok (.ireturn, 1) := by decide +kernel
theorem dX12_isSign_0 : decode cX12_isSign 0 = .ok (.aload_n 0, 1) := by decide +kernel
theorem dX12_isSign_1 : decode cX12_isSign 1 = .ok (.getfield 277, 3) := by decide +kernel
theorem dX12_isSign_4 : decode cX12_isSign 4 = .ok (.iconst 3, 1) := by decide +kernel
theorem dX12_isSign_5 : decode cX12_isSign 5 = .ok (.if_icmp .ne 17, 3) := by decide +kernel
theorem dX12_isSign_8 : decode cX12_isSign 8 = .ok (.aload_n 0, 1) := by decide +kernel
theorem dX12_isSign_9 : decode cX12_isSign 9 = .ok (.getfield 267, 3) := by decide +kernel
theorem dX12_isSign_12 : decode cX12_isSign 12 = .ok (.iload_n 1, 1) := by decide +kernel
theorem dX12_isSign_13 : decode cX12_isSign 13 = .ok (.i2l, 1) := by decide +kernel
theorem dX12_isSign_14 : decode cX12_isSign 14 = .ok (.lcmp, 1) := by decide +kernel
theorem dX12_isSign_15 : decode cX12_isSign 15 = .ok (.ifCond .ne 7, 3) := by decide +kernel
theorem dX12_isSign_18 : decode cX12_isSign 18 = .ok (.iconst 1, 1) := by decide +kernel
theorem dX12_isSign_19 : decode cX12_isSign 19 = .ok (.goto 4, 3) := by decide +kernel
theorem dX12_isSign_22 : decode cX12_isSign 22 = .ok (.iconst 0, 1) := by decide +kernel
theorem dX12_isSign_23 : decode cX12_isSign 23 = .ok (.ireturn, 1) := by decide +kernel
theorem dX12_must_0 : decode cX12_must 0 = .ok (.aload_n 0, 1) := by decide +kernel
theorem dX12_must_1 : decode cX12_must 1 = .ok (.getfield 257, 3) := by decide +kernel
theorem dX12_must_4 : decode cX12_must 4 = .ok (.ifCond .ne 20, 3) := by decide +kernel
theorem dX12_must_7 : decode cX12_must 7 = .ok (.iload_n 1, 1) := by decide +kernel
theorem dX12_must_8 : decode cX12_must 8 = .ok (.ifCond .ne 16, 3) := by decide +kernel
theorem dX12_must_11 : decode cX12_must 11 = .ok (.aload_n 0, 1) := by decide +kernel
theorem dX12_must_12 : decode cX12_must 12 = .ok (.iconst 1, 1) := by decide +kernel
theorem dX12_must_13 : decode cX12_must 13 = .ok (.putfield 257, 3) := by decide +kernel
theorem dX12_must_16 : decode cX12_must 16 = .ok (.aload_n 0, 1) := by decide +kernel
theorem dX12_must_17 : decode cX12_must 17 = .ok (.aload_n 0, 1) := by decide +kernel
theorem dX12_must_18 : decode cX12_must 18 = .ok (.getfield 264, 3) := by decide +kernel
theorem dX12_must_21 : decode cX12_must 21 = .ok (.putfield 38, 3) := by decide +kernel
theorem dX12_must_24 : decode cX12_must 24 = .ok (.aload_n 0, 1) := by decide +kernel
theorem dX12_must_25 : decode cX12_must 25 = .ok (.getfield 257, 3) := by decide +kernel
theorem dX12_must_28 : decode cX12_must 28 = .ok (.ifCond .ne 7, 3) := by decide +kernel
theorem dX12_must_31 : decode cX12_must 31 = .ok (.aload_n 0, 1) := by decide +kernel
theorem dX12_must_32 : decode cX12_must 32 = .ok (.invokevirtual 261, 3) := by decide +kernel
theorem dX12_must_35 : decode cX12_must 35 = .ok (.return_, 1) := by decide +kernel
theorem dX12_number_0 : decode cX12_number 0 = .ok (.aload_n 0, 1) := by decide +kernel
theorem dX12_number_1 : decode cX12_number 1 = .ok (.getfield 267, 3) := by decide +kernel
theorem dX12_number_4 : decode cX12_number 4 = .ok (.l2i, 1) := by decide +kernel
theorem dX12_number_5 : decode cX12_number 5 = .ok (.istore 5, 2) := by decide +kernel
theorem dX12_number_7 : decode cX12_number 7 = .ok (.aload_n 0, 1) := by decide +kernel
theorem dX12_number_8 : decode cX12_number 8 = .ok (.aload_n 0, 1) := by decide +kernel
theorem dX12_number_9 : decode cX12_number 9 = .ok (.getfield 277, 3) := by decide +kernel
theorem dX12_number_12 : decode cX12_number 12 = .ok (.iconst 2, 1) := by decide +kernel
theorem dX12_number_13 : decode cX12_number 13 = .ok (.if_icmp .ne 19, 3) := by decide +kernel
theorem dX12_number_16 : decode cX12_number 16 = .ok (.aload_n 0, 1) := by decide +kernel
theorem dX12_number_17 : decode cX12_number 17 = .ok (.getfield 267, 3) := by decide +kernel
theorem dX12_number_20 : decode cX12_number 20 = .ok (.lload_n 1, 1) := by decide +kernel
theorem dX12_number_21 : decode cX12_number 21 = .ok (.lload_n 3, 1) := by decide +kernel
theorem dX12_number_22 : decode cX12_number 22 = .ok (.invokestatic 183, 3) := by decide +kernel
theorem dX12_number_25 : decode cX12_number 25 = .ok (.ifCond .eq 7, 3) := by decide +kernel
theorem dX12_number_28 : decode cX12_number 28 = .ok (.iconst 1, 1) := by decide +kernel
theorem dX12_number_29 : decode cX12_number 29 = .ok (.goto 4, 3) := by decide +kernel
theorem dX12_number_32 : decode cX12_number 32 = .ok (.iconst 0, 1) := by decide +kernel
theorem dX12_number_33 : decode cX12_number 33 = .ok (.invokevirtual 290, 3) := by decide +kernel
theorem dX12_number_36 : decode cX12_number 36 = .ok (.iload 5, 2) := by decide +kernel
theorem dX12_number_38 : decode cX12_number 38 = .ok (.ireturn, 1) := by decide +kernel
theorem dX12_fault_0 : decode cX12_fault 0 = .ok (.aload_n 0, 1) := by decide +kernel
theorem dX12_fault_1 : decode cX12_fault 1 = .ok (.iconst 0, 1) := by decide +kernel
theorem dX12_fault_2 : decode cX12_fault 2 = .ok (.putfield 163, 3) := by decide +kernel
theorem dX12_fault_5 : decode cX12_fault 5 = .ok (.aload_n 0, 1) := by decide +kernel
theorem dX12_fault_6 : decode cX12_fault 6 = .ok (.getfield 38, 3) := by decide +kernel
theorem dX12_fault_9 : decode cX12_fault 9 = .ok (.ireturn, 1) := by decide +kernel
theorem dX12_emit_0 : decode cX12_emit 0 = .ok (.aload_n 0, 1) := by decide +kernel
theorem dX12_emit_1 : decode cX12_emit 1 = .ok (.getfield 45, 3) := by decide +kernel
theorem dX12_emit_4 : decode cX12_emit 4 = .ok (.aload_n 0, 1) := by decide +kernel
theorem dX12_emit_5 : decode cX12_emit 5 = .ok (.getfield 294, 3) := by decide +kernel
theorem dX12_emit_8 : decode cX12_emit 8 = .ok (.iload_n 1, 1) := by decide +kernel
theorem dX12_emit_9 : decode cX12_emit 9 = .ok (.iastore, 1) := by decide +kernel
theorem dX12_emit_10 : decode cX12_emit 10 = .ok (.aload_n 0, 1) := by decide +kernel
theorem dX12_emit_11 : decode cX12_emit 11 = .ok (.getfield 48, 3) := by decide +kernel
theorem dX12_emit_14 : decode cX12_emit 14 = .ok (.aload_n 0, 1) := by decide +kernel
theorem dX12_emit_15 : decode cX12_emit 15 = .ok (.getfield 294, 3) := by decide +kernel
theorem dX12_emit_18 : decode cX12_emit 18 = .ok (.iload_n 2, 1) := by decide +kernel
theorem dX12_emit_19 : decode cX12_emit 19 = .ok (.iastore, 1) := by decide +kernel
theorem dX12_emit_20 : decode cX12_emit 20 = .ok (.aload_n 0, 1) := by decide +kernel
theorem dX12_emit_21 : decode cX12_emit 21 = .ok (.dup, 1) := by decide +kernel
theorem dX12_emit_22 : decode cX12_emit 22 = .ok (.getfield 294, 3) := by decide +kernel
theorem dX12_emit_25 : decode cX12_emit 25 = .ok (.iconst 1, 1) := by decide +kernel
theorem dX12_emit_26 : decode cX12_emit 26 = .ok (.iadd, 1) := by decide +kernel
theorem dX12_emit_27 : decode cX12_emit 27 = .ok (.putfield 294, 3) := by decide +kernel
theorem dX12_emit_30 : decode cX12_emit 30 = .ok (.return_, 1) := by decide +kernel
theorem dX12_push_0 : decode cX12_push 0 = .ok (.aload_n 0, 1) := by decide +kernel
theorem dX12_push_1 : decode cX12_push 1 = .ok (.getfield 51, 3) := by decide +kernel
theorem dX12_push_4 : decode cX12_push 4 = .ok (.aload_n 0, 1) := by decide +kernel
theorem dX12_push_5 : decode cX12_push 5 = .ok (.getfield 297, 3) := by decide +kernel
theorem dX12_push_8 : decode cX12_push 8 = .ok (.iload_n 1, 1) := by decide +kernel
theorem dX12_push_9 : decode cX12_push 9 = .ok (.iastore, 1) := by decide +kernel
theorem dX12_push_10 : decode cX12_push 10 = .ok (.aload_n 0, 1) := by decide +kernel
theorem dX12_push_11 : decode cX12_push 11 = .ok (.getfield 54, 3) := by decide +kernel
theorem dX12_push_14 : decode cX12_push 14 = .ok (.aload_n 0, 1) := by decide +kernel
theorem dX12_push_15 : decode cX12_push 15 = .ok (.getfield 297, 3) := by decide +kernel
theorem dX12_push_18 : decode cX12_push 18 = .ok (.iload_n 2, 1) := by decide +kernel
theorem dX12_push_19 : decode cX12_push 19 = .ok (.iastore, 1) := by decide +kernel
theorem dX12_push_20 : decode cX12_push 20 = .ok (.aload_n 0, 1) := by decide +kernel
theorem dX12_push_21 : decode cX12_push 21 = .ok (.dup, 1) := by decide +kernel
theorem dX12_push_22 : decode cX12_push 22 = .ok (.getfield 297, 3) := by decide +kernel
theorem dX12_push_25 : decode cX12_push 25 = .ok (.iconst 1, 1) := by decide +kernel
theorem dX12_push_26 : decode cX12_push 26 = .ok (.iadd, 1) := by decide +kernel
theorem dX12_push_27 : decode cX12_push 27 = .ok (.putfield 297, 3) := by decide +kernel
theorem dX12_push_30 : decode cX12_push 30 = .ok (.return_, 1) := by decide +kernel
theorem dX12_binds_0 : decode cX12_binds 0 = .ok (.iload_n 0, 1) := by decide +kernel
theorem dX12_binds_1 : decode cX12_binds 1 = .ok (.bipush 31, 2) := by decide +kernel
theorem dX12_binds_3 : decode cX12_binds 3 = .ok (.if_icmp .lt 7, 3) := by decide +kernel
theorem dX12_binds_6 : decode cX12_binds 6 = .ok (.iconst 0, 1) := by decide +kernel
theorem dX12_binds_7 : decode cX12_binds 7 = .ok (.goto 55, 3) := by decide +kernel
theorem dX12_binds_10 : decode cX12_binds 10 = .ok (.iload_n 0, 1) := by decide +kernel
theorem dX12_binds_11 : decode cX12_binds 11 = .ok (.bipush 30, 2) := by decide +kernel
theorem dX12_binds_13 : decode cX12_binds 13 = .ok (.if_icmp .ne 7, 3) := by decide +kernel
theorem dX12_binds_16 : decode cX12_binds 16 = .ok (.iconst 1, 1) := by decide +kernel
theorem dX12_binds_17 : decode cX12_binds 17 = .ok (.goto 45, 3) := by decide +kernel
theorem dX12_binds_20 : decode cX12_binds 20 = .ok (.iload_n 0, 1) := by decide +kernel
theorem dX12_binds_21 : decode cX12_binds 21 = .ok (.bipush 29, 2) := by decide +kernel
theorem dX12_binds_23 : decode cX12_binds 23 = .ok (.if_icmp .ne 7, 3) := by decide +kernel
theorem dX12_binds_26 : decode cX12_binds 26 = .ok (.iconst 2, 1) := by decide +kernel
theorem dX12_binds_27 : decode cX12_binds 27 = .ok (.goto 35, 3) := by decide +kernel
theorem dX12_binds_30 : decode cX12_binds 30 = .ok (.iload_n 0, 1) := by decide +kernel
theorem dX12_binds_31 : decode cX12_binds 31 = .ok (.bipush 28, 2) := by decide +kernel
theorem dX12_binds_33 : decode cX12_binds 33 = .ok (.if_icmp .ne 7, 3) := by decide +kernel
theorem dX12_binds_36 : decode cX12_binds 36 = .ok (.iconst 3, 1) := by decide +kernel
theorem dX12_binds_37 : decode cX12_binds 37 = .ok (.goto 25, 3) := by decide +kernel
theorem dX12_binds_40 : decode cX12_binds 40 = .ok (.iload_n 0, 1) := by decide +kernel
theorem dX12_binds_41 : decode cX12_binds 41 = .ok (.bipush 25, 2) := by decide +kernel
theorem dX12_binds_43 : decode cX12_binds 43 = .ok (.if_icmp .lt 7, 3) := by decide +kernel
theorem dX12_binds_46 : decode cX12_binds 46 = .ok (.iconst 4, 1) := by decide +kernel
theorem dX12_binds_47 : decode cX12_binds 47 = .ok (.goto 15, 3) := by decide +kernel
theorem dX12_binds_50 : decode cX12_binds 50 = .ok (.iload_n 0, 1) := by decide +kernel
theorem dX12_binds_51 : decode cX12_binds 51 = .ok (.bipush 22, 2) := by decide +kernel
theorem dX12_binds_53 : decode cX12_binds 53 = .ok (.if_icmp .lt 8, 3) := by decide +kernel
theorem dX12_binds_56 : decode cX12_binds 56 = .ok (.bipush 6, 2) := by decide +kernel
theorem dX12_binds_58 : decode cX12_binds 58 = .ok (.goto 4, 3) := by decide +kernel
theorem dX12_binds_61 : decode cX12_binds 61 = .ok (.iconst 5, 1) := by decide +kernel
theorem dX12_binds_62 : decode cX12_binds 62 = .ok (.ireturn, 1) := by decide +kernel
theorem dX12_settle_0 : decode cX12_settle 0 = .ok (.aload_n 0, 1) := by decide +kernel
theorem dX12_settle_1 : decode cX12_settle 1 = .ok (.getfield 297, 3) := by decide +kernel
theorem dX12_settle_4 : decode cX12_settle 4 = .ok (.ifCond .le 97, 3) := by decide +kernel
theorem dX12_settle_7 : decode cX12_settle 7 = .ok (.aload_n 0, 1) := by decide +kernel
theorem dX12_settle_8 : decode cX12_settle 8 = .ok (.getfield 51, 3) := by decide +kernel
theorem dX12_settle_11 : decode cX12_settle 11 = .ok (.aload_n 0, 1) := by decide +kernel
theorem dX12_settle_12 : decode cX12_settle 12 = .ok (.getfield 297, 3) := by decide +kernel
theorem dX12_settle_15 : decode cX12_settle 15 = .ok (.iconst 1, 1) := by decide +kernel
theorem dX12_settle_16 : decode cX12_settle 16 = .ok (.isub, 1) := by decide +kernel
theorem dX12_settle_17 : decode cX12_settle 17 = .ok (.iaload, 1) := by decide +kernel
theorem dX12_settle_18 : decode cX12_settle 18 = .ok (.invokestatic 300, 3) := by decide +kernel
theorem dX12_settle_21 : decode cX12_settle 21 = .ok (.iload_n 1, 1) := by decide +kernel
theorem dX12_settle_22 : decode cX12_settle 22 = .ok (.if_icmp .lt 79, 3) := by decide +kernel
theorem dX12_settle_25 : decode cX12_settle 25 = .ok (.aload_n 0, 1) := by decide +kernel
theorem dX12_settle_26 : decode cX12_settle 26 = .ok (.dup, 1) := by decide +kernel
theorem dX12_settle_27 : decode cX12_settle 27 = .ok (.getfield 297, 3) := by decide +kernel
theorem dX12_settle_30 : decode cX12_settle 30 = .ok (.iconst 1, 1) := by decide +kernel
theorem dX12_settle_31 : decode cX12_settle 31 = .ok (.isub, 1) := by decide +kernel
theorem dX12_settle_32 : decode cX12_settle 32 = .ok (.putfield 297, 3) := by decide +kernel
theorem dX12_settle_35 : decode cX12_settle 35 = .ok (.aload_n 0, 1) := by decide +kernel
theorem dX12_settle_36 : decode cX12_settle 36 = .ok (.getfield 51, 3) := by decide +kernel
theorem dX12_settle_39 : decode cX12_settle 39 = .ok (.aload_n 0, 1) := by decide +kernel
theorem dX12_settle_40 : decode cX12_settle 40 = .ok (.getfield 297, 3) := by decide +kernel
theorem dX12_settle_43 : decode cX12_settle 43 = .ok (.iaload, 1) := by decide +kernel
theorem dX12_settle_44 : decode cX12_settle 44 = .ok (.bipush 29, 2) := by decide +kernel
theorem dX12_settle_46 : decode cX12_settle 46 = .ok (.if_icmp .eq 17, 3) := by decide +kernel
theorem dX12_settle_49 : decode cX12_settle 49 = .ok (.aload_n 0, 1) := by decide +kernel
theorem dX12_settle_50 : decode cX12_settle 50 = .ok (.getfield 51, 3) := by decide +kernel
theorem dX12_settle_53 : decode cX12_settle 53 = .ok (.aload_n 0, 1) := by decide +kernel
theorem dX12_settle_54 : decode cX12_settle 54 = .ok (.getfield 297, 3) := by decide +kernel
theorem dX12_settle_57 : decode cX12_settle 57 = .ok (.iaload, 1) := by decide +kernel
theorem dX12_settle_58 : decode cX12_settle 58 = .ok (.bipush 30, 2) := by decide +kernel
theorem dX12_settle_60 : decode cX12_settle 60 = .ok (.if_icmp .ne 24, 3) := by decide +kernel
theorem dX12_settle_63 : decode cX12_settle 63 = .ok (.aload_n 0, 1) := by decide +kernel
theorem dX12_settle_64 : decode cX12_settle 64 = .ok (.getfield 48, 3) := by decide +kernel
theorem dX12_settle_67 : decode cX12_settle 67 = .ok (.aload_n 0, 1) := by decide +kernel
theorem dX12_settle_68 : decode cX12_settle 68 = .ok (.getfield 54, 3) := by decide +kernel
theorem dX12_settle_71 : decode cX12_settle 71 = .ok (.aload_n 0, 1) := by decide +kernel
theorem dX12_settle_72 : decode cX12_settle 72 = .ok (.getfield 297, 3) := by decide +kernel
theorem dX12_settle_75 : decode cX12_settle 75 = .ok (.iaload, 1) := by decide +kernel
theorem dX12_settle_76 : decode cX12_settle 76 = .ok (.aload_n 0, 1) := by decide +kernel
theorem dX12_settle_77 : decode cX12_settle 77 = .ok (.getfield 294, 3) := by decide +kernel
theorem dX12_settle_80 : decode cX12_settle 80 = .ok (.iastore, 1) := by decide +kernel
theorem dX12_settle_81 : decode cX12_settle 81 = .ok (.goto (-81), 3) := by decide +kernel
theorem dX12_settle_84 : decode cX12_settle 84 = .ok (.aload_n 0, 1) := by decide +kernel
theorem dX12_settle_85 : decode cX12_settle 85 = .ok (.aload_n 0, 1) := by decide +kernel
theorem dX12_settle_86 : decode cX12_settle 86 = .ok (.getfield 51, 3) := by decide +kernel
theorem dX12_settle_89 : decode cX12_settle 89 = .ok (.aload_n 0, 1) := by decide +kernel
theorem dX12_settle_90 : decode cX12_settle 90 = .ok (.getfield 297, 3) := by decide +kernel
theorem dX12_settle_93 : decode cX12_settle 93 = .ok (.iaload, 1) := by decide +kernel
theorem dX12_settle_94 : decode cX12_settle 94 = .ok (.iconst 0, 1) := by decide +kernel
theorem dX12_settle_95 : decode cX12_settle 95 = .ok (.invokevirtual 303, 3) := by decide +kernel
theorem dX12_settle_98 : decode cX12_settle 98 = .ok (.goto (-98), 3) := by decide +kernel
theorem dX12_settle_101 : decode cX12_settle 101 = .ok (.return_, 1) := by decide +kernel
theorem dX12_inner_0 : decode cX12_inner 0 = .ok (.iconst (-1), 1) := by decide +kernel
theorem dX12_inner_1 : decode cX12_inner 1 = .ok (.istore_n 1, 1) := by decide +kernel
theorem dX12_inner_2 : decode cX12_inner 2 = .ok (.iconst 0, 1) := by decide +kernel
theorem dX12_inner_3 : decode cX12_inner 3 = .ok (.istore_n 2, 1) := by decide +kernel
theorem dX12_inner_4 : decode cX12_inner 4 = .ok (.iload_n 2, 1) := by decide +kernel
theorem dX12_inner_5 : decode cX12_inner 5 = .ok (.aload_n 0, 1) := by decide +kernel
theorem dX12_inner_6 : decode cX12_inner 6 = .ok (.getfield 297, 3) := by decide +kernel
theorem dX12_inner_9 : decode cX12_inner 9 = .ok (.if_icmp .ge 31, 3) := by decide +kernel
theorem dX12_inner_12 : decode cX12_inner 12 = .ok (.aload_n 0, 1) := by decide +kernel
theorem dX12_inner_13 : decode cX12_inner 13 = .ok (.getfield 51, 3) := by decide +kernel
theorem dX12_inner_16 : decode cX12_inner 16 = .ok (.iload_n 2, 1) := by decide +kernel
theorem dX12_inner_17 : decode cX12_inner 17 = .ok (.iaload, 1) := by decide +kernel
theorem dX12_inner_18 : decode cX12_inner 18 = .ok (.bipush 31, 2) := by decide +kernel
theorem dX12_inner_20 : decode cX12_inner 20 = .ok (.if_icmp .lt 12, 3) := by decide +kernel
theorem dX12_inner_23 : decode cX12_inner 23 = .ok (.aload_n 0, 1) := by decide +kernel
theorem dX12_inner_24 : decode cX12_inner 24 = .ok (.getfield 51, 3) := by decide +kernel
theorem dX12_inner_27 : decode cX12_inner 27 = .ok (.iload_n 2, 1) := by decide +kernel
theorem dX12_inner_28 : decode cX12_inner 28 = .ok (.iaload, 1) := by decide +kernel
theorem dX12_inner_29 : decode cX12_inner 29 = .ok (.goto 4, 3) := by decide +kernel
theorem dX12_inner_32 : decode cX12_inner 32 = .ok (.iload_n 1, 1) := by decide +kernel
theorem dX12_inner_33 : decode cX12_inner 33 = .ok (.istore_n 1, 1) := by decide +kernel
theorem dX12_inner_34 : decode cX12_inner 34 = .ok (.iinc 2 1, 3) := by decide +kernel
theorem dX12_inner_37 : decode cX12_inner 37 = .ok (.goto (-33), 3) := by decide +kernel
theorem dX12_inner_40 : decode cX12_inner 40 = .ok (.iload_n 1, 1) := by decide +kernel
theorem dX12_inner_41 : decode cX12_inner 41 = .ok (.ireturn, 1) := by decide +kernel
theorem dX12_isCompared_0 : decode cX12_isCompared 0 = .ok (.aload_n 0, 1) := by decide +kernel
theorem dX12_isCompared_1 : decode cX12_isCompared 1 = .ok (.getfield 297, 3) := by decide +kernel
theorem dX12_isCompared_4 : decode cX12_isCompared 4 = .ok (.iconst 1, 1) := by decide +kernel
theorem dX12_isCompared_5 : decode cX12_isCompared 5 = .ok (.isub, 1) := by decide +kernel
theorem dX12_isCompared_6 : decode cX12_isCompared 6 = .ok (.istore_n 1, 1) := by decide +kernel
theorem dX12_isCompared_7 : decode cX12_isCompared 7 = .ok (.iload_n 1, 1) := by decide +kernel
theorem dX12_isCompared_8 : decode cX12_isCompared 8 = .ok (.ifCond .lt 28, 3) := by decide +kernel
theorem dX12_isCompared_11 : decode cX12_isCompared 11 = .ok (.aload_n 0, 1) := by decide +kernel
theorem dX12_isCompared_12 : decode cX12_isCompared 12 = .ok (.getfield 51, 3) := by decide +kernel
theorem dX12_isCompared_15 : decode cX12_isCompared 15 = .ok (.iload_n 1, 1) := by decide +kernel
theorem dX12_isCompared_16 : decode cX12_isCompared 16 = .ok (.iaload, 1) := by decide +kernel
theorem dX12_isCompared_17 : decode cX12_isCompared 17 = .ok (.i2l, 1) := by decide +kernel
theorem dX12_isCompared_18 : decode cX12_isCompared 18 = .ok (.ldc2_w 307, 3) := by decide +kernel
theorem dX12_isCompared_21 : decode cX12_isCompared 21 = .ok (.ldc2_w 190, 3) := by decide +kernel
theorem dX12_isCompared_24 : decode cX12_isCompared 24 = .ok (.invokestatic 183, 3) := by decide +kernel
theorem dX12_isCompared_27 : decode cX12_isCompared 27 = .ok (.ifCond .eq 9, 3) := by decide +kernel
theorem dX12_isCompared_30 : decode cX12_isCompared 30 = .ok (.iinc 1 (-1), 3) := by decide +kernel
theorem dX12_isCompared_33 : decode cX12_isCompared 33 = .ok (.goto (-26), 3) := by decide +kernel
theorem dX12_isCompared_36 : decode cX12_isCompared 36 = .ok (.iload_n 1, 1) := by decide +kernel
theorem dX12_isCompared_37 : decode cX12_isCompared 37 = .ok (.ifCond .lt 26, 3) := by decide +kernel
theorem dX12_isCompared_40 : decode cX12_isCompared 40 = .ok (.aload_n 0, 1) := by decide +kernel
theorem dX12_isCompared_41 : decode cX12_isCompared 41 = .ok (.getfield 51, 3) := by decide +kernel
theorem dX12_isCompared_44 : decode cX12_isCompared 44 = .ok (.iload_n 1, 1) := by decide +kernel
theorem dX12_isCompared_45 : decode cX12_isCompared 45 = .ok (.iaload, 1) := by decide +kernel
theorem dX12_isCompared_46 : decode cX12_isCompared 46 = .ok (.i2l, 1) := by decide +kernel
theorem dX12_isCompared_47 : decode cX12_isCompared 47 = .ok (.ldc2_w 309, 3) := by decide +kernel
theorem dX12_isCompared_50 : decode cX12_isCompared 50 = .ok (.ldc2_w 311, 3) := by decide +kernel
theorem dX12_isCompared_53 : decode cX12_isCompared 53 = .ok (.invokestatic 183, 3) := by decide +kernel
theorem dX12_isCompared_56 : decode cX12_isCompared 56 = .ok (.ifCond .eq 7, 3) := by decide +kernel
theorem dX12_isCompared_59 : decode cX12_isCompared 59 = .ok (.iconst 1, 1) := by decide +kernel
theorem dX12_isCompared_60 : decode cX12_isCompared 60 = .ok (.goto 4, 3) := by decide +kernel
theorem dX12_isCompared_63 : decode cX12_isCompared 63 = .ok (.iconst 0, 1) := by decide +kernel
theorem dX12_isCompared_64 : decode cX12_isCompared 64 = .ok (.ireturn, 1) := by decide +kernel
theorem dX12_partAt_0 : decode cX12_partAt 0 = .ok (.iconst (-1), 1) := by decide +kernel
theorem dX12_partAt_1 : decode cX12_partAt 1 = .ok (.istore_n 1, 1) := by decide +kernel
theorem dX12_partAt_2 : decode cX12_partAt 2 = .ok (.iconst 0, 1) := by decide +kernel
theorem dX12_partAt_3 : decode cX12_partAt 3 = .ok (.istore_n 2, 1) := by decide +kernel
theorem dX12_partAt_4 : decode cX12_partAt 4 = .ok (.iload_n 2, 1) := by decide +kernel
theorem dX12_partAt_5 : decode cX12_partAt 5 = .ok (.bipush 9, 2) := by decide +kernel
theorem dX12_partAt_7 : decode cX12_partAt 7 = .ok (.if_icmp .ge 30, 3) := by decide +kernel
theorem dX12_partAt_10 : decode cX12_partAt 10 = .ok (.aload_n 0, 1) := by decide +kernel
theorem dX12_partAt_11 : decode cX12_partAt 11 = .ok (.aload_n 0, 1) := by decide +kernel
theorem dX12_partAt_12 : decode cX12_partAt 12 = .ok (.getfield 75, 3) := by decide +kernel
theorem dX12_partAt_15 : decode cX12_partAt 15 = .ok (.iload_n 2, 1) := by decide +kernel
theorem dX12_partAt_16 : decode cX12_partAt 16 = .ok (.laload, 1) := by decide +kernel
theorem dX12_partAt_17 : decode cX12_partAt 17 = .ok (.invokevirtual 313, 3) := by decide +kernel
theorem dX12_partAt_20 : decode cX12_partAt 20 = .ok (.ifCond .eq 9, 3) := by decide +kernel
theorem dX12_partAt_23 : decode cX12_partAt 23 = .ok (.iload_n 2, 1) := by decide +kernel
theorem dX12_partAt_24 : decode cX12_partAt 24 = .ok (.iconst 1, 1) := by decide +kernel
theorem dX12_partAt_25 : decode cX12_partAt 25 = .ok (.iadd, 1) := by decide +kernel
theorem dX12_partAt_26 : decode cX12_partAt 26 = .ok (.goto 4, 3) := by decide +kernel
theorem dX12_partAt_29 : decode cX12_partAt 29 = .ok (.iload_n 1, 1) := by decide +kernel
theorem dX12_partAt_30 : decode cX12_partAt 30 = .ok (.istore_n 1, 1) := by decide +kernel
theorem dX12_partAt_31 : decode cX12_partAt 31 = .ok (.iinc 2 1, 3) := by decide +kernel
theorem dX12_partAt_34 : decode cX12_partAt 34 = .ok (.goto (-30), 3) := by decide +kernel
theorem dX12_partAt_37 : decode cX12_partAt 37 = .ok (.iload_n 1, 1) := by decide +kernel
theorem dX12_partAt_38 : decode cX12_partAt 38 = .ok (.ireturn, 1) := by decide +kernel
theorem dX12_orderPartAt_0 : decode cX12_orderPartAt 0 = .ok (.iconst (-1), 1) := by decide +kernel
theorem dX12_orderPartAt_1 : decode cX12_orderPartAt 1 = .ok (.istore_n 1, 1) := by decide +kernel
theorem dX12_orderPartAt_2 : decode cX12_orderPartAt 2 = .ok (.iconst 0, 1) := by decide +kernel
theorem dX12_orderPartAt_3 : decode cX12_orderPartAt 3 = .ok (.istore_n 2, 1) := by decide +kernel
theorem dX12_orderPartAt_4 : decode cX12_orderPartAt 4 = .ok (.iload_n 2, 1) := by decide +kernel
theorem dX12_orderPartAt_5 : decode cX12_orderPartAt 5 = .ok (.bipush 7, 2) := by decide +kernel
theorem dX12_orderPartAt_7 : decode cX12_orderPartAt 7 = .ok (.if_icmp .ge 30, 3) := by decide +kernel
theorem dX12_orderPartAt_10 : decode cX12_orderPartAt 10 = .ok (.aload_n 0, 1) := by decide +kernel
theorem dX12_orderPartAt_11 : decode cX12_orderPartAt 11 = .ok (.aload_n 0, 1) := by decide +kernel
theorem dX12_orderPartAt_12 : decode cX12_orderPartAt 12 = .ok (.getfield 85, 3) := by decide +kernel
theorem dX12_orderPartAt_15 : decode cX12_orderPartAt 15 = .ok (.iload_n 2, 1) := by decide +kernel
theorem dX12_orderPartAt_16 : decode cX12_orderPartAt 16 = .ok (.laload, 1) := by decide +kernel
theorem dX12_orderPartAt_17 : decode cX12_orderPartAt 17 = .ok (.invokevirtual 313, 3) := by decide +kernel
theorem dX12_orderPartAt_20 : decode cX12_orderPartAt 20 = .ok (.ifCond .eq 9, 3) := by decide +kernel
theorem dX12_orderPartAt_23 : decode cX12_orderPartAt 23 = .ok (.iload_n 2, 1) := by decide +kernel
theorem dX12_orderPartAt_24 : decode cX12_orderPartAt 24 = .ok (.iconst 1, 1) := by decide +kernel
theorem dX12_orderPartAt_25 : decode cX12_orderPartAt 25 = .ok (.iadd, 1) := by decide +kernel
theorem dX12_orderPartAt_26 : decode cX12_orderPartAt 26 = .ok (.goto 4, 3) := by decide +kernel
theorem dX12_orderPartAt_29 : decode cX12_orderPartAt 29 = .ok (.iload_n 1, 1) := by decide +kernel
theorem dX12_orderPartAt_30 : decode cX12_orderPartAt 30 = .ok (.istore_n 1, 1) := by decide +kernel
theorem dX12_orderPartAt_31 : decode cX12_orderPartAt 31 = .ok (.iinc 2 1, 3) := by decide +kernel
theorem dX12_orderPartAt_34 : decode cX12_orderPartAt 34 = .ok (.goto (-30), 3) := by decide +kernel
theorem dX12_orderPartAt_37 : decode cX12_orderPartAt 37 = .ok (.iload_n 1, 1) := by decide +kernel
theorem dX12_orderPartAt_38 : decode cX12_orderPartAt 38 = .ok (.ireturn, 1) := by decide +kernel
theorem dX12_openBracket_0 : decode cX12_openBracket 0 = .ok (.aload_n 0, 1) := by decide +kernel
theorem dX12_openBracket_1 : decode cX12_openBracket 1 = .ok (.aload_n 0, 1) := by decide +kernel
theorem dX12_openBracket_2 : decode cX12_openBracket 2 = .ok (.getfield 317, 3) := by decide +kernel
theorem dX12_openBracket_5 : decode cX12_openBracket 5 = .ok (.bipush 8, 2) := by decide +kernel
theorem dX12_openBracket_7 : decode cX12_openBracket 7 = .ok (.if_icmp .ge 7, 3) := by decide +kernel
theorem dX12_openBracket_10 : decode cX12_openBracket 10 = .ok (.iconst 1, 1) := by decide +kernel
theorem dX12_openBracket_11 : decode cX12_openBracket 11 = .ok (.goto 4, 3) := by decide +kernel
theorem dX12_openBracket_14 : decode cX12_openBracket 14 = .ok (.iconst 0, 1) := by decide +kernel
theorem dX12_openBracket_15 : decode cX12_openBracket 15 = .ok (.invokevirtual 290, 3) := by decide +kernel
theorem dX12_openBracket_18 : decode cX12_openBracket 18 = .ok (.aload_n 0, 1) := by decide +kernel
theorem dX12_openBracket_19 : decode cX12_openBracket 19 = .ok (.getfield 257, 3) := by decide +kernel
theorem dX12_openBracket_22 : decode cX12_openBracket 22 = .ok (.ifCond .ne 19, 3) := by decide +kernel
theorem dX12_openBracket_25 : decode cX12_openBracket 25 = .ok (.aload_n 0, 1) := by decide +kernel
theorem dX12_openBracket_26 : decode cX12_openBracket 26 = .ok (.dup, 1) := by decide +kernel
theorem dX12_openBracket_27 : decode cX12_openBracket 27 = .ok (.getfield 317, 3) := by decide +kernel
theorem dX12_openBracket_30 : decode cX12_openBracket 30 = .ok (.iconst 1, 1) := by decide +kernel
theorem dX12_openBracket_31 : decode cX12_openBracket 31 = .ok (.iadd, 1) := by decide +kernel
theorem dX12_openBracket_32 : decode cX12_openBracket 32 = .ok (.putfield 317, 3) := by decide +kernel
theorem dX12_openBracket_35 : decode cX12_openBracket 35 = .ok (.aload_n 0, 1) := by decide +kernel
theorem dX12_openBracket_36 : decode cX12_openBracket 36 = .ok (.iload_n 1, 1) := by decide +kernel
theorem dX12_openBracket_37 : decode cX12_openBracket 37 = .ok (.iconst 0, 1) := by decide +kernel
theorem dX12_openBracket_38 : decode cX12_openBracket 38 = .ok (.invokevirtual 320, 3) := by decide +kernel
theorem dX12_openBracket_41 : decode cX12_openBracket 41 = .ok (.return_, 1) := by decide +kernel
theorem dX12_leaf_0 : decode cX12_leaf 0 = .ok (.aload_n 0, 1) := by decide +kernel
theorem dX12_leaf_1 : decode cX12_leaf 1 = .ok (.iload_n 1, 1) := by decide +kernel
theorem dX12_leaf_2 : decode cX12_leaf 2 = .ok (.ifCond .eq 16, 3) := by decide +kernel
theorem dX12_leaf_5 : decode cX12_leaf 5 = .ok (.aload_n 0, 1) := by decide +kernel
theorem dX12_leaf_6 : decode cX12_leaf 6 = .ok (.getfield 323, 3) := by decide +kernel
theorem dX12_leaf_9 : decode cX12_leaf 9 = .ok (.bipush 50, 2) := by decide +kernel
theorem dX12_leaf_11 : decode cX12_leaf 11 = .ok (.if_icmp .ge 7, 3) := by decide +kernel
theorem dX12_leaf_14 : decode cX12_leaf 14 = .ok (.iconst 1, 1) := by decide +kernel
theorem dX12_leaf_15 : decode cX12_leaf 15 = .ok (.goto 4, 3) := by decide +kernel
theorem dX12_leaf_18 : decode cX12_leaf 18 = .ok (.iconst 0, 1) := by decide +kernel
theorem dX12_leaf_19 : decode cX12_leaf 19 = .ok (.invokevirtual 290, 3) := by decide +kernel
theorem dX12_leaf_22 : decode cX12_leaf 22 = .ok (.aload_n 0, 1) := by decide +kernel
theorem dX12_leaf_23 : decode cX12_leaf 23 = .ok (.getfield 257, 3) := by decide +kernel
theorem dX12_leaf_26 : decode cX12_leaf 26 = .ok (.ifCond .ne 19, 3) := by decide +kernel
theorem dX12_leaf_29 : decode cX12_leaf 29 = .ok (.aload_n 0, 1) := by decide +kernel
theorem dX12_leaf_30 : decode cX12_leaf 30 = .ok (.iload_n 2, 1) := by decide +kernel
theorem dX12_leaf_31 : decode cX12_leaf 31 = .ok (.iload_n 3, 1) := by decide +kernel
theorem dX12_leaf_32 : decode cX12_leaf 32 = .ok (.invokevirtual 303, 3) := by decide +kernel
theorem dX12_leaf_35 : decode cX12_leaf 35 = .ok (.aload_n 0, 1) := by decide +kernel
theorem dX12_leaf_36 : decode cX12_leaf 36 = .ok (.dup, 1) := by decide +kernel
theorem dX12_leaf_37 : decode cX12_leaf 37 = .ok (.getfield 323, 3) := by decide +kernel
theorem dX12_leaf_40 : decode cX12_leaf 40 = .ok (.iconst 1, 1) := by decide +kernel
theorem dX12_leaf_41 : decode cX12_leaf 41 = .ok (.iadd, 1) := by decide +kernel
theorem dX12_leaf_42 : decode cX12_leaf 42 = .ok (.putfield 323, 3) := by decide +kernel
theorem dX12_leaf_45 : decode cX12_leaf 45 = .ok (.return_, 1) := by decide +kernel
theorem dX12_readPart_0 : decode cX12_readPart 0 = .ok (.aload_n 0, 1) := by decide +kernel
theorem dX12_readPart_1 : decode cX12_readPart 1 = .ok (.bipush 91, 2) := by decide +kernel
theorem dX12_readPart_3 : decode cX12_readPart 3 = .ok (.invokevirtual 326, 3) := by decide +kernel
theorem dX12_readPart_6 : decode cX12_readPart 6 = .ok (.ifCond .eq 11, 3) := by decide +kernel
theorem dX12_readPart_9 : decode cX12_readPart 9 = .ok (.aload_n 0, 1) := by decide +kernel
theorem dX12_readPart_10 : decode cX12_readPart 10 = .ok (.bipush 32, 2) := by decide +kernel
theorem dX12_readPart_12 : decode cX12_readPart 12 = .ok (.invokevirtual 329, 3) := by decide +kernel
theorem dX12_readPart_15 : decode cX12_readPart 15 = .ok (.iconst 1, 1) := by decide +kernel
theorem dX12_readPart_16 : decode cX12_readPart 16 = .ok (.ireturn, 1) := by decide +kernel
theorem dX12_readPart_17 : decode cX12_readPart 17 = .ok (.aload_n 0, 1) := by decide +kernel
theorem dX12_readPart_18 : decode cX12_readPart 18 = .ok (.getfield 332, 3) := by decide +kernel
theorem dX12_readPart_21 : decode cX12_readPart 21 = .ok (.ifCond .eq 10, 3) := by decide +kernel
theorem dX12_readPart_24 : decode cX12_readPart 24 = .ok (.aload_n 0, 1) := by decide +kernel
theorem dX12_readPart_25 : decode cX12_readPart 25 = .ok (.invokevirtual 335, 3) := by decide +kernel
theorem dX12_readPart_28 : decode cX12_readPart 28 = .ok (.goto 7, 3) := by decide +kernel
theorem dX12_readPart_31 : decode cX12_readPart 31 = .ok (.aload_n 0, 1) := by decide +kernel
theorem dX12_readPart_32 : decode cX12_readPart 32 = .ok (.invokevirtual 339, 3) := by decide +kernel
theorem dX12_readPart_35 : decode cX12_readPart 35 = .ok (.istore_n 1, 1) := by decide +kernel
theorem dX12_readPart_36 : decode cX12_readPart 36 = .ok (.aload_n 0, 1) := by decide +kernel
theorem dX12_readPart_37 : decode cX12_readPart 37 = .ok (.getfield 277, 3) := by decide +kernel
theorem dX12_readPart_40 : decode cX12_readPart 40 = .ok (.iconst 2, 1) := by decide +kernel
theorem dX12_readPart_41 : decode cX12_readPart 41 = .ok (.if_icmp .ne 18, 3) := by decide +kernel
theorem dX12_readPart_44 : decode cX12_readPart 44 = .ok (.aload_n 0, 1) := by decide +kernel
theorem dX12_readPart_45 : decode cX12_readPart 45 = .ok (.getfield 267, 3) := by decide +kernel
theorem dX12_readPart_48 : decode cX12_readPart 48 = .ok (.ldc2_w 342, 3) := by decide +kernel
theorem dX12_readPart_51 : decode cX12_readPart 51 = .ok (.lcmp, 1) := by decide +kernel
theorem dX12_readPart_52 : decode cX12_readPart 52 = .ok (.ifCond .gt 7, 3) := by decide +kernel
theorem dX12_readPart_55 : decode cX12_readPart 55 = .ok (.iconst 1, 1) := by decide +kernel
theorem dX12_readPart_56 : decode cX12_readPart 56 = .ok (.goto 4, 3) := by decide +kernel
theorem dX12_readPart_59 : decode cX12_readPart 59 = .ok (.iconst 0, 1) := by decide +kernel
theorem dX12_readPart_60 : decode cX12_readPart 60 = .ok (.istore_n 2, 1) := by decide +kernel
theorem dX12_readPart_61 : decode cX12_readPart 61 = .ok (.aload_n 0, 1) := by decide +kernel
theorem dX12_readPart_62 : decode cX12_readPart 62 = .ok (.iload_n 1, 1) := by decide +kernel
theorem dX12_readPart_63 : decode cX12_readPart 63 = .ok (.iconst (-1), 1) := by decide +kernel
theorem dX12_readPart_64 : decode cX12_readPart 64 = .ok (.if_icmp .ne 7, 3) := by decide +kernel
theorem dX12_readPart_67 : decode cX12_readPart 67 = .ok (.iload_n 2, 1) := by decide +kernel
theorem dX12_readPart_68 : decode cX12_readPart 68 = .ok (.ifCond .eq 7, 3) := by decide +kernel
theorem dX12_readPart_71 : decode cX12_readPart 71 = .ok (.iconst 1, 1) := by decide +kernel
theorem dX12_readPart_72 : decode cX12_readPart 72 = .ok (.goto 4, 3) := by decide +kernel
theorem dX12_readPart_75 : decode cX12_readPart 75 = .ok (.iconst 0, 1) := by decide +kernel
theorem dX12_readPart_76 : decode cX12_readPart 76 = .ok (.iload_n 1, 1) := by decide +kernel
theorem dX12_readPart_77 : decode cX12_readPart 77 = .ok (.iconst (-1), 1) := by decide +kernel
theorem dX12_readPart_78 : decode cX12_readPart 78 = .ok (.if_icmp .ne 7, 3) := by decide +kernel
theorem dX12_readPart_81 : decode cX12_readPart 81 = .ok (.iconst 0, 1) := by decide +kernel
theorem dX12_readPart_82 : decode cX12_readPart 82 = .ok (.goto 4, 3) := by decide +kernel
theorem dX12_readPart_85 : decode cX12_readPart 85 = .ok (.iload_n 1, 1) := by decide +kernel
theorem dX12_readPart_86 : decode cX12_readPart 86 = .ok (.iload_n 2, 1) := by decide +kernel
theorem dX12_readPart_87 : decode cX12_readPart 87 = .ok (.ifCond .eq 11, 3) := by decide +kernel
theorem dX12_readPart_90 : decode cX12_readPart 90 = .ok (.aload_n 0, 1) := by decide +kernel
theorem dX12_readPart_91 : decode cX12_readPart 91 = .ok (.getfield 267, 3) := by decide +kernel
theorem dX12_readPart_94 : decode cX12_readPart 94 = .ok (.l2i, 1) := by decide +kernel
theorem dX12_readPart_95 : decode cX12_readPart 95 = .ok (.goto 4, 3) := by decide +kernel
theorem dX12_readPart_98 : decode cX12_readPart 98 = .ok (.iconst 0, 1) := by decide +kernel
theorem dX12_readPart_99 : decode cX12_readPart 99 = .ok (.invokevirtual 344, 3) := by decide +kernel
theorem dX12_readPart_102 : decode cX12_readPart 102 = .ok (.aload_n 0, 1) := by decide +kernel
theorem dX12_readPart_103 : decode cX12_readPart 103 = .ok (.getfield 332, 3) := by decide +kernel
theorem dX12_readPart_106 : decode cX12_readPart 106 = .ok (.ifCond .eq 48, 3) := by decide +kernel
theorem dX12_readPart_109 : decode cX12_readPart 109 = .ok (.iload_n 1, 1) := by decide +kernel
theorem dX12_readPart_110 : decode cX12_readPart 110 = .ok (.iconst 5, 1) := by decide +kernel
theorem dX12_readPart_111 : decode cX12_readPart 111 = .ok (.if_icmp .lt 43, 3) := by decide +kernel
theorem dX12_readPart_114 : decode cX12_readPart 114 = .ok (.aload_n 0, 1) := by decide +kernel
theorem dX12_readPart_115 : decode cX12_readPart 115 = .ok (.getfield 257, 3) := by decide +kernel
theorem dX12_readPart_118 : decode cX12_readPart 118 = .ok (.ifCond .ne 36, 3) := by decide +kernel
theorem dX12_readPart_121 : decode cX12_readPart 121 = .ok (.aload_n 0, 1) := by decide +kernel
theorem dX12_readPart_122 : decode cX12_readPart 122 = .ok (.getfield 294, 3) := by decide +kernel
theorem dX12_readPart_125 : decode cX12_readPart 125 = .ok (.iconst 1, 1) := by decide +kernel
theorem dX12_readPart_126 : decode cX12_readPart 126 = .ok (.isub, 1) := by decide +kernel
theorem dX12_readPart_127 : decode cX12_readPart 127 = .ok (.istore_n 3, 1) := by decide +kernel
theorem dX12_readPart_128 : decode cX12_readPart 128 = .ok (.aload_n 0, 1) := by decide +kernel
theorem dX12_readPart_129 : decode cX12_readPart 129 = .ok (.getfield 48, 3) := by decide +kernel
theorem dX12_readPart_132 : decode cX12_readPart 132 = .ok (.iload_n 3, 1) := by decide +kernel
theorem dX12_readPart_133 : decode cX12_readPart 133 = .ok (.aload_n 0, 1) := by decide +kernel
theorem dX12_readPart_134 : decode cX12_readPart 134 = .ok (.lconst 0, 1) := by decide +kernel
theorem dX12_readPart_135 : decode cX12_readPart 135 = .ok (.iload_n 1, 1) := by decide +kernel
theorem dX12_readPart_136 : decode cX12_readPart 136 = .ok (.bipush 7, 2) := by decide +kernel
theorem dX12_readPart_138 : decode cX12_readPart 138 = .ok (.if_icmp .ne 9, 3) := by decide +kernel
theorem dX12_readPart_141 : decode cX12_readPart 141 = .ok (.ldc2_w 348, 3) := by decide +kernel
theorem dX12_readPart_144 : decode cX12_readPart 144 = .ok (.goto 6, 3) := by decide +kernel
theorem dX12_readPart_147 : decode cX12_readPart 147 = .ok (.ldc2_w 226, 3) := by decide +kernel
theorem dX12_readPart_150 : decode cX12_readPart 150 = .ok (.invokevirtual 350, 3) := by decide +kernel
theorem dX12_readPart_153 : decode cX12_readPart 153 = .ok (.iastore, 1) := by decide +kernel
theorem dX12_readPart_154 : decode cX12_readPart 154 = .ok (.iconst 3, 1) := by decide +kernel
theorem dX12_readPart_155 : decode cX12_readPart 155 = .ok (.ireturn, 1) := by decide +kernel
theorem dX12_readPlain_0 : decode cX12_readPlain 0 = .ok (.aload_n 0, 1) := by decide +kernel
theorem dX12_readPlain_1 : decode cX12_readPlain 1 = .ok (.ldc2_w 354, 3) := by decide +kernel
theorem dX12_readPlain_4 : decode cX12_readPlain 4 = .ok (.invokevirtual 313, 3) := by decide +kernel
theorem dX12_readPlain_7 : decode cX12_readPlain 7 = .ok (.ifCond .eq 16, 3) := by decide +kernel
theorem dX12_readPlain_10 : decode cX12_readPlain 10 = .ok (.aload_n 0, 1) := by decide +kernel
theorem dX12_readPlain_11 : decode cX12_readPlain 11 = .ok (.bipush 28, 2) := by decide +kernel
theorem dX12_readPlain_13 : decode cX12_readPlain 13 = .ok (.iconst 0, 1) := by decide +kernel
theorem dX12_readPlain_14 : decode cX12_readPlain 14 = .ok (.invokevirtual 320, 3) := by decide +kernel
theorem dX12_readPlain_17 : decode cX12_readPlain 17 = .ok (.aload_n 0, 1) := by decide +kernel
theorem dX12_readPlain_18 : decode cX12_readPlain 18 = .ok (.invokevirtual 261, 3) := by decide +kernel
theorem dX12_readPlain_21 : decode cX12_readPlain 21 = .ok (.iconst 0, 1) := by decide +kernel
theorem dX12_readPlain_22 : decode cX12_readPlain 22 = .ok (.ireturn, 1) := by decide +kernel
theorem dX12_readPlain_23 : decode cX12_readPlain 23 = .ok (.aload_n 0, 1) := by decide +kernel
theorem dX12_readPlain_24 : decode cX12_readPlain 24 = .ok (.bipush 40, 2) := by decide +kernel
theorem dX12_readPlain_26 : decode cX12_readPlain 26 = .ok (.invokevirtual 326, 3) := by decide +kernel
theorem dX12_readPlain_29 : decode cX12_readPlain 29 = .ok (.ifCond .eq 11, 3) := by decide +kernel
theorem dX12_readPlain_32 : decode cX12_readPlain 32 = .ok (.aload_n 0, 1) := by decide +kernel
theorem dX12_readPlain_33 : decode cX12_readPlain 33 = .ok (.bipush 31, 2) := by decide +kernel
theorem dX12_readPlain_35 : decode cX12_readPlain 35 = .ok (.invokevirtual 329, 3) := by decide +kernel
theorem dX12_readPlain_38 : decode cX12_readPlain 38 = .ok (.iconst 0, 1) := by decide +kernel
theorem dX12_readPlain_39 : decode cX12_readPlain 39 = .ok (.ireturn, 1) := by decide +kernel
theorem dX12_readPlain_40 : decode cX12_readPlain 40 = .ok (.aload_n 0, 1) := by decide +kernel
theorem dX12_readPlain_41 : decode cX12_readPlain 41 = .ok (.invokevirtual 356, 3) := by decide +kernel
theorem dX12_readPlain_44 : decode cX12_readPlain 44 = .ok (.ireturn, 1) := by decide +kernel
theorem dX12_behindSum_0 : decode cX12_behindSum 0 = .ok (.aload_n 0, 1) := by decide +kernel
theorem dX12_behindSum_1 : decode cX12_behindSum 1 = .ok (.bipush 43, 2) := by decide +kernel
theorem dX12_behindSum_3 : decode cX12_behindSum 3 = .ok (.invokevirtual 326, 3) := by decide +kernel
theorem dX12_behindSum_6 : decode cX12_behindSum 6 = .ok (.ifCond .eq 8, 3) := by decide +kernel
theorem dX12_behindSum_9 : decode cX12_behindSum 9 = .ok (.bipush 20, 2) := by decide +kernel
theorem dX12_behindSum_11 : decode cX12_behindSum 11 = .ok (.goto 60, 3) := by decide +kernel
theorem dX12_behindSum_14 : decode cX12_behindSum 14 = .ok (.aload_n 0, 1) := by decide +kernel
theorem dX12_behindSum_15 : decode cX12_behindSum 15 = .ok (.bipush 45, 2) := by decide +kernel
theorem dX12_behindSum_17 : decode cX12_behindSum 17 = .ok (.invokevirtual 326, 3) := by decide +kernel
theorem dX12_behindSum_20 : decode cX12_behindSum 20 = .ok (.ifCond .eq 8, 3) := by decide +kernel
theorem dX12_behindSum_23 : decode cX12_behindSum 23 = .ok (.bipush 21, 2) := by decide +kernel
theorem dX12_behindSum_25 : decode cX12_behindSum 25 = .ok (.goto 46, 3) := by decide +kernel
theorem dX12_behindSum_28 : decode cX12_behindSum 28 = .ok (.aload_n 0, 1) := by decide +kernel
theorem dX12_behindSum_29 : decode cX12_behindSum 29 = .ok (.bipush 42, 2) := by decide +kernel
theorem dX12_behindSum_31 : decode cX12_behindSum 31 = .ok (.invokevirtual 326, 3) := by decide +kernel
theorem dX12_behindSum_34 : decode cX12_behindSum 34 = .ok (.ifCond .eq 8, 3) := by decide +kernel
theorem dX12_behindSum_37 : decode cX12_behindSum 37 = .ok (.bipush 22, 2) := by decide +kernel
theorem dX12_behindSum_39 : decode cX12_behindSum 39 = .ok (.goto 32, 3) := by decide +kernel
theorem dX12_behindSum_42 : decode cX12_behindSum 42 = .ok (.aload_n 0, 1) := by decide +kernel
theorem dX12_behindSum_43 : decode cX12_behindSum 43 = .ok (.bipush 47, 2) := by decide +kernel
theorem dX12_behindSum_45 : decode cX12_behindSum 45 = .ok (.invokevirtual 326, 3) := by decide +kernel
theorem dX12_behindSum_48 : decode cX12_behindSum 48 = .ok (.ifCond .eq 8, 3) := by decide +kernel
theorem dX12_behindSum_51 : decode cX12_behindSum 51 = .ok (.bipush 23, 2) := by decide +kernel
theorem dX12_behindSum_53 : decode cX12_behindSum 53 = .ok (.goto 18, 3) := by decide +kernel
theorem dX12_behindSum_56 : decode cX12_behindSum 56 = .ok (.aload_n 0, 1) := by decide +kernel
theorem dX12_behindSum_57 : decode cX12_behindSum 57 = .ok (.bipush 37, 2) := by decide +kernel
theorem dX12_behindSum_59 : decode cX12_behindSum 59 = .ok (.invokevirtual 326, 3) := by decide +kernel
theorem dX12_behindSum_62 : decode cX12_behindSum 62 = .ok (.ifCond .eq 8, 3) := by decide +kernel
theorem dX12_behindSum_65 : decode cX12_behindSum 65 = .ok (.bipush 24, 2) := by decide +kernel
theorem dX12_behindSum_67 : decode cX12_behindSum 67 = .ok (.goto 4, 3) := by decide +kernel
theorem dX12_behindSum_70 : decode cX12_behindSum 70 = .ok (.iconst (-1), 1) := by decide +kernel
theorem dX12_behindSum_71 : decode cX12_behindSum 71 = .ok (.istore_n 2, 1) := by decide +kernel
theorem dX12_behindSum_72 : decode cX12_behindSum 72 = .ok (.iload_n 2, 1) := by decide +kernel
theorem dX12_behindSum_73 : decode cX12_behindSum 73 = .ok (.iconst (-1), 1) := by decide +kernel
theorem dX12_behindSum_74 : decode cX12_behindSum 74 = .ok (.if_icmp .eq 23, 3) := by decide +kernel
theorem dX12_behindSum_77 : decode cX12_behindSum 77 = .ok (.aload_n 0, 1) := by decide +kernel
theorem dX12_behindSum_78 : decode cX12_behindSum 78 = .ok (.iload_n 2, 1) := by decide +kernel
theorem dX12_behindSum_79 : decode cX12_behindSum 79 = .ok (.invokestatic 300, 3) := by decide +kernel
theorem dX12_behindSum_82 : decode cX12_behindSum 82 = .ok (.invokevirtual 359, 3) := by decide +kernel
theorem dX12_behindSum_85 : decode cX12_behindSum 85 = .ok (.aload_n 0, 1) := by decide +kernel
theorem dX12_behindSum_86 : decode cX12_behindSum 86 = .ok (.iload_n 2, 1) := by decide +kernel
theorem dX12_behindSum_87 : decode cX12_behindSum 87 = .ok (.iconst 0, 1) := by decide +kernel
theorem dX12_behindSum_88 : decode cX12_behindSum 88 = .ok (.invokevirtual 320, 3) := by decide +kernel
theorem dX12_behindSum_91 : decode cX12_behindSum 91 = .ok (.aload_n 0, 1) := by decide +kernel
theorem dX12_behindSum_92 : decode cX12_behindSum 92 = .ok (.invokevirtual 261, 3) := by decide +kernel
theorem dX12_behindSum_95 : decode cX12_behindSum 95 = .ok (.iconst 1, 1) := by decide +kernel
theorem dX12_behindSum_96 : decode cX12_behindSum 96 = .ok (.ireturn, 1) := by decide +kernel
theorem dX12_behindSum_97 : decode cX12_behindSum 97 = .ok (.aload_n 0, 1) := by decide +kernel
theorem dX12_behindSum_98 : decode cX12_behindSum 98 = .ok (.invokevirtual 362, 3) := by decide +kernel
theorem dX12_behindSum_101 : decode cX12_behindSum 101 = .ok (.istore_n 3, 1) := by decide +kernel
theorem dX12_behindSum_102 : decode cX12_behindSum 102 = .ok (.iload_n 3, 1) := by decide +kernel
theorem dX12_behindSum_103 : decode cX12_behindSum 103 = .ok (.bipush 32, 2) := by decide +kernel
theorem dX12_behindSum_105 : decode cX12_behindSum 105 = .ok (.if_icmp .ne 47, 3) := by decide +kernel
theorem dX12_behindSum_108 : decode cX12_behindSum 108 = .ok (.aload_n 0, 1) := by decide +kernel
theorem dX12_behindSum_109 : decode cX12_behindSum 109 = .ok (.aload_n 0, 1) := by decide +kernel
theorem dX12_behindSum_110 : decode cX12_behindSum 110 = .ok (.bipush 93, 2) := by decide +kernel
theorem dX12_behindSum_112 : decode cX12_behindSum 112 = .ok (.invokevirtual 326, 3) := by decide +kernel
theorem dX12_behindSum_115 : decode cX12_behindSum 115 = .ok (.invokevirtual 290, 3) := by decide +kernel
theorem dX12_behindSum_118 : decode cX12_behindSum 118 = .ok (.aload_n 0, 1) := by decide +kernel
theorem dX12_behindSum_119 : decode cX12_behindSum 119 = .ok (.getfield 257, 3) := by decide +kernel
theorem dX12_behindSum_122 : decode cX12_behindSum 122 = .ok (.ifCond .ne 28, 3) := by decide +kernel
theorem dX12_behindSum_125 : decode cX12_behindSum 125 = .ok (.aload_n 0, 1) := by decide +kernel
theorem dX12_behindSum_126 : decode cX12_behindSum 126 = .ok (.iconst 5, 1) := by decide +kernel
theorem dX12_behindSum_127 : decode cX12_behindSum 127 = .ok (.invokevirtual 359, 3) := by decide +kernel
theorem dX12_behindSum_130 : decode cX12_behindSum 130 = .ok (.aload_n 0, 1) := by decide +kernel
theorem dX12_behindSum_131 : decode cX12_behindSum 131 = .ok (.dup, 1) := by decide +kernel
theorem dX12_behindSum_132 : decode cX12_behindSum 132 = .ok (.getfield 297, 3) := by decide +kernel
theorem dX12_behindSum_135 : decode cX12_behindSum 135 = .ok (.iconst 1, 1) := by decide +kernel
theorem dX12_behindSum_136 : decode cX12_behindSum 136 = .ok (.isub, 1) := by decide +kernel
theorem dX12_behindSum_137 : decode cX12_behindSum 137 = .ok (.putfield 297, 3) := by decide +kernel
theorem dX12_behindSum_140 : decode cX12_behindSum 140 = .ok (.aload_n 0, 1) := by decide +kernel
theorem dX12_behindSum_141 : decode cX12_behindSum 141 = .ok (.dup, 1) := by decide +kernel
theorem dX12_behindSum_142 : decode cX12_behindSum 142 = .ok (.getfield 317, 3) := by decide +kernel
theorem dX12_behindSum_145 : decode cX12_behindSum 145 = .ok (.iconst 1, 1) := by decide +kernel
theorem dX12_behindSum_146 : decode cX12_behindSum 146 = .ok (.isub, 1) := by decide +kernel
theorem dX12_behindSum_147 : decode cX12_behindSum 147 = .ok (.putfield 317, 3) := by decide +kernel
theorem dX12_behindSum_150 : decode cX12_behindSum 150 = .ok (.iconst 3, 1) := by decide +kernel
theorem dX12_behindSum_151 : decode cX12_behindSum 151 = .ok (.ireturn, 1) := by decide +kernel
theorem dX12_behindSum_152 : decode cX12_behindSum 152 = .ok (.iload_n 3, 1) := by decide +kernel
theorem dX12_behindSum_153 : decode cX12_behindSum 153 = .ok (.iconst (-1), 1) := by decide +kernel
theorem dX12_behindSum_154 : decode cX12_behindSum 154 = .ok (.if_icmp .ne 9, 3) := by decide +kernel
theorem dX12_behindSum_157 : decode cX12_behindSum 157 = .ok (.iload_n 1, 1) := by decide +kernel
theorem dX12_behindSum_158 : decode cX12_behindSum 158 = .ok (.ifCond .ne 5, 3) := by decide +kernel
theorem dX12_behindSum_161 : decode cX12_behindSum 161 = .ok (.iconst 4, 1) := by decide +kernel
theorem dX12_behindSum_162 : decode cX12_behindSum 162 = .ok (.ireturn, 1) := by decide +kernel
theorem dX12_behindSum_163 : decode cX12_behindSum 163 = .ok (.aload_n 0, 1) := by decide +kernel
theorem dX12_behindSum_164 : decode cX12_behindSum 164 = .ok (.invokevirtual 365, 3) := by decide +kernel
theorem dX12_behindSum_167 : decode cX12_behindSum 167 = .ok (.ifCond .eq 5, 3) := by decide +kernel
theorem dX12_behindSum_170 : decode cX12_behindSum 170 = .ok (.iconst 2, 1) := by decide +kernel
theorem dX12_behindSum_171 : decode cX12_behindSum 171 = .ok (.ireturn, 1) := by decide +kernel
theorem dX12_behindSum_172 : decode cX12_behindSum 172 = .ok (.aload_n 0, 1) := by decide +kernel
theorem dX12_behindSum_173 : decode cX12_behindSum 173 = .ok (.bipush 60, 2) := by decide +kernel
theorem dX12_behindSum_175 : decode cX12_behindSum 175 = .ok (.invokevirtual 326, 3) := by decide +kernel
theorem dX12_behindSum_178 : decode cX12_behindSum 178 = .ok (.ifCond .eq 8, 3) := by decide +kernel
theorem dX12_behindSum_181 : decode cX12_behindSum 181 = .ok (.bipush 25, 2) := by decide +kernel
theorem dX12_behindSum_183 : decode cX12_behindSum 183 = .ok (.goto 19, 3) := by decide +kernel
theorem dX12_behindSum_186 : decode cX12_behindSum 186 = .ok (.aload_n 0, 1) := by decide +kernel
theorem dX12_behindSum_187 : decode cX12_behindSum 187 = .ok (.bipush 62, 2) := by decide +kernel
theorem dX12_behindSum_189 : decode cX12_behindSum 189 = .ok (.invokevirtual 326, 3) := by decide +kernel
theorem dX12_behindSum_192 : decode cX12_behindSum 192 = .ok (.ifCond .eq 8, 3) := by decide +kernel
theorem dX12_behindSum_195 : decode cX12_behindSum 195 = .ok (.bipush 26, 2) := by decide +kernel
theorem dX12_behindSum_197 : decode cX12_behindSum 197 = .ok (.goto 5, 3) := by decide +kernel
theorem dX12_behindSum_200 : decode cX12_behindSum 200 = .ok (.bipush 27, 2) := by decide +kernel
theorem dX12_behindSum_202 : decode cX12_behindSum 202 = .ok (.istore_n 2, 1) := by decide +kernel
theorem dX12_behindSum_203 : decode cX12_behindSum 203 = .ok (.aload_n 0, 1) := by decide +kernel
theorem dX12_behindSum_204 : decode cX12_behindSum 204 = .ok (.iload_n 2, 1) := by decide +kernel
theorem dX12_behindSum_205 : decode cX12_behindSum 205 = .ok (.bipush 27, 2) := by decide +kernel
theorem dX12_behindSum_207 : decode cX12_behindSum 207 = .ok (.if_icmp .ne 12, 3) := by decide +kernel
theorem dX12_behindSum_210 : decode cX12_behindSum 210 = .ok (.aload_n 0, 1) := by decide +kernel
theorem dX12_behindSum_211 : decode cX12_behindSum 211 = .ok (.bipush 61, 2) := by decide +kernel
theorem dX12_behindSum_213 : decode cX12_behindSum 213 = .ok (.invokevirtual 326, 3) := by decide +kernel
theorem dX12_behindSum_216 : decode cX12_behindSum 216 = .ok (.ifCond .eq 7, 3) := by decide +kernel
theorem dX12_behindSum_219 : decode cX12_behindSum 219 = .ok (.iconst 1, 1) := by decide +kernel
theorem dX12_behindSum_220 : decode cX12_behindSum 220 = .ok (.goto 4, 3) := by decide +kernel
theorem dX12_behindSum_223 : decode cX12_behindSum 223 = .ok (.iconst 0, 1) := by decide +kernel
theorem dX12_behindSum_224 : decode cX12_behindSum 224 = .ok (.invokevirtual 290, 3) := by decide +kernel
theorem dX12_behindSum_227 : decode cX12_behindSum 227 = .ok (.aload_n 0, 1) := by decide +kernel
theorem dX12_behindSum_228 : decode cX12_behindSum 228 = .ok (.getfield 257, 3) := by decide +kernel
theorem dX12_behindSum_231 : decode cX12_behindSum 231 = .ok (.ifCond .ne 14, 3) := by decide +kernel
theorem dX12_behindSum_234 : decode cX12_behindSum 234 = .ok (.aload_n 0, 1) := by decide +kernel
theorem dX12_behindSum_235 : decode cX12_behindSum 235 = .ok (.iconst 5, 1) := by decide +kernel
theorem dX12_behindSum_236 : decode cX12_behindSum 236 = .ok (.invokevirtual 359, 3) := by decide +kernel
theorem dX12_behindSum_239 : decode cX12_behindSum 239 = .ok (.aload_n 0, 1) := by decide +kernel
theorem dX12_behindSum_240 : decode cX12_behindSum 240 = .ok (.iload_n 2, 1) := by decide +kernel
theorem dX12_behindSum_241 : decode cX12_behindSum 241 = .ok (.iconst 0, 1) := by decide +kernel
theorem dX12_behindSum_242 : decode cX12_behindSum 242 = .ok (.invokevirtual 320, 3) := by decide +kernel
theorem dX12_behindSum_245 : decode cX12_behindSum 245 = .ok (.iconst 1, 1) := by decide +kernel
theorem dX12_behindSum_246 : decode cX12_behindSum 246 = .ok (.ireturn, 1) := by decide +kernel
theorem dX12_behindTest_0 : decode cX12_behindTest 0 = .ok (.aload_n 0, 1) := by decide +kernel
theorem dX12_behindTest_1 : decode cX12_behindTest 1 = .ok (.ldc2_w 369, 3) := by decide +kernel
theorem dX12_behindTest_4 : decode cX12_behindTest 4 = .ok (.invokevirtual 313, 3) := by decide +kernel
theorem dX12_behindTest_7 : decode cX12_behindTest 7 = .ok (.istore_n 1, 1) := by decide +kernel
theorem dX12_behindTest_8 : decode cX12_behindTest 8 = .ok (.iload_n 1, 1) := by decide +kernel
theorem dX12_behindTest_9 : decode cX12_behindTest 9 = .ok (.ifCond .ne 13, 3) := by decide +kernel
theorem dX12_behindTest_12 : decode cX12_behindTest 12 = .ok (.aload_n 0, 1) := by decide +kernel
theorem dX12_behindTest_13 : decode cX12_behindTest 13 = .ok (.ldc2_w 371, 3) := by decide +kernel
theorem dX12_behindTest_16 : decode cX12_behindTest 16 = .ok (.invokevirtual 313, 3) := by decide +kernel
theorem dX12_behindTest_19 : decode cX12_behindTest 19 = .ok (.ifCond .eq 57, 3) := by decide +kernel
theorem dX12_behindTest_22 : decode cX12_behindTest 22 = .ok (.aload_n 0, 1) := by decide +kernel
theorem dX12_behindTest_23 : decode cX12_behindTest 23 = .ok (.iload_n 1, 1) := by decide +kernel
theorem dX12_behindTest_24 : decode cX12_behindTest 24 = .ok (.ifCond .eq 7, 3) := by decide +kernel
theorem dX12_behindTest_27 : decode cX12_behindTest 27 = .ok (.iconst 2, 1) := by decide +kernel
theorem dX12_behindTest_28 : decode cX12_behindTest 28 = .ok (.goto 4, 3) := by decide +kernel
theorem dX12_behindTest_31 : decode cX12_behindTest 31 = .ok (.iconst 1, 1) := by decide +kernel
theorem dX12_behindTest_32 : decode cX12_behindTest 32 = .ok (.invokevirtual 359, 3) := by decide +kernel
theorem dX12_behindTest_35 : decode cX12_behindTest 35 = .ok (.aload_n 0, 1) := by decide +kernel
theorem dX12_behindTest_36 : decode cX12_behindTest 36 = .ok (.iload_n 1, 1) := by decide +kernel
theorem dX12_behindTest_37 : decode cX12_behindTest 37 = .ok (.ifCond .eq 8, 3) := by decide +kernel
theorem dX12_behindTest_40 : decode cX12_behindTest 40 = .ok (.bipush 29, 2) := by decide +kernel
theorem dX12_behindTest_42 : decode cX12_behindTest 42 = .ok (.goto 5, 3) := by decide +kernel
theorem dX12_behindTest_45 : decode cX12_behindTest 45 = .ok (.bipush 30, 2) := by decide +kernel
theorem dX12_behindTest_47 : decode cX12_behindTest 47 = .ok (.aload_n 0, 1) := by decide +kernel
theorem dX12_behindTest_48 : decode cX12_behindTest 48 = .ok (.getfield 294, 3) := by decide +kernel
theorem dX12_behindTest_51 : decode cX12_behindTest 51 = .ok (.invokevirtual 320, 3) := by decide +kernel
theorem dX12_behindTest_54 : decode cX12_behindTest 54 = .ok (.aload_n 0, 1) := by decide +kernel
theorem dX12_behindTest_55 : decode cX12_behindTest 55 = .ok (.iload_n 1, 1) := by decide +kernel
theorem dX12_behindTest_56 : decode cX12_behindTest 56 = .ok (.ifCond .eq 8, 3) := by decide +kernel
theorem dX12_behindTest_59 : decode cX12_behindTest 59 = .ok (.bipush 29, 2) := by decide +kernel
theorem dX12_behindTest_61 : decode cX12_behindTest 61 = .ok (.goto 5, 3) := by decide +kernel
theorem dX12_behindTest_64 : decode cX12_behindTest 64 = .ok (.bipush 30, 2) := by decide +kernel
theorem dX12_behindTest_66 : decode cX12_behindTest 66 = .ok (.iconst 0, 1) := by decide +kernel
theorem dX12_behindTest_67 : decode cX12_behindTest 67 = .ok (.invokevirtual 303, 3) := by decide +kernel
theorem dX12_behindTest_70 : decode cX12_behindTest 70 = .ok (.aload_n 0, 1) := by decide +kernel
theorem dX12_behindTest_71 : decode cX12_behindTest 71 = .ok (.invokevirtual 261, 3) := by decide +kernel
theorem dX12_behindTest_74 : decode cX12_behindTest 74 = .ok (.iconst 0, 1) := by decide +kernel
theorem dX12_behindTest_75 : decode cX12_behindTest 75 = .ok (.ireturn, 1) := by decide +kernel
theorem dX12_behindTest_76 : decode cX12_behindTest 76 = .ok (.aload_n 0, 1) := by decide +kernel
theorem dX12_behindTest_77 : decode cX12_behindTest 77 = .ok (.invokevirtual 362, 3) := by decide +kernel
theorem dX12_behindTest_80 : decode cX12_behindTest 80 = .ok (.iconst (-1), 1) := by decide +kernel
theorem dX12_behindTest_81 : decode cX12_behindTest 81 = .ok (.if_icmp .ne 5, 3) := by decide +kernel
theorem dX12_behindTest_84 : decode cX12_behindTest 84 = .ok (.iconst 4, 1) := by decide +kernel
theorem dX12_behindTest_85 : decode cX12_behindTest 85 = .ok (.ireturn, 1) := by decide +kernel
theorem dX12_behindTest_86 : decode cX12_behindTest 86 = .ok (.aload_n 0, 1) := by decide +kernel
theorem dX12_behindTest_87 : decode cX12_behindTest 87 = .ok (.aload_n 0, 1) := by decide +kernel
theorem dX12_behindTest_88 : decode cX12_behindTest 88 = .ok (.bipush 41, 2) := by decide +kernel
theorem dX12_behindTest_90 : decode cX12_behindTest 90 = .ok (.invokevirtual 326, 3) := by decide +kernel
theorem dX12_behindTest_93 : decode cX12_behindTest 93 = .ok (.invokevirtual 290, 3) := by decide +kernel
theorem dX12_behindTest_96 : decode cX12_behindTest 96 = .ok (.aload_n 0, 1) := by decide +kernel
theorem dX12_behindTest_97 : decode cX12_behindTest 97 = .ok (.getfield 257, 3) := by decide +kernel
theorem dX12_behindTest_100 : decode cX12_behindTest 100 = .ok (.ifCond .ne 28, 3) := by decide +kernel
theorem dX12_behindTest_103 : decode cX12_behindTest 103 = .ok (.aload_n 0, 1) := by decide +kernel
theorem dX12_behindTest_104 : decode cX12_behindTest 104 = .ok (.iconst 1, 1) := by decide +kernel
theorem dX12_behindTest_105 : decode cX12_behindTest 105 = .ok (.invokevirtual 359, 3) := by decide +kernel
theorem dX12_behindTest_108 : decode cX12_behindTest 108 = .ok (.aload_n 0, 1) := by decide +kernel
theorem dX12_behindTest_109 : decode cX12_behindTest 109 = .ok (.dup, 1) := by decide +kernel
theorem dX12_behindTest_110 : decode cX12_behindTest 110 = .ok (.getfield 297, 3) := by decide +kernel
theorem dX12_behindTest_113 : decode cX12_behindTest 113 = .ok (.iconst 1, 1) := by decide +kernel
theorem dX12_behindTest_114 : decode cX12_behindTest 114 = .ok (.isub, 1) := by decide +kernel
theorem dX12_behindTest_115 : decode cX12_behindTest 115 = .ok (.putfield 297, 3) := by decide +kernel
theorem dX12_behindTest_118 : decode cX12_behindTest 118 = .ok (.aload_n 0, 1) := by decide +kernel
theorem dX12_behindTest_119 : decode cX12_behindTest 119 = .ok (.dup, 1) := by decide +kernel
theorem dX12_behindTest_120 : decode cX12_behindTest 120 = .ok (.getfield 317, 3) := by decide +kernel
theorem dX12_behindTest_123 : decode cX12_behindTest 123 = .ok (.iconst 1, 1) := by decide +kernel
theorem dX12_behindTest_124 : decode cX12_behindTest 124 = .ok (.isub, 1) := by decide +kernel
theorem dX12_behindTest_125 : decode cX12_behindTest 125 = .ok (.putfield 317, 3) := by decide +kernel
theorem dX12_behindTest_128 : decode cX12_behindTest 128 = .ok (.iconst 2, 1) := by decide +kernel
theorem dX12_behindTest_129 : decode cX12_behindTest 129 = .ok (.ireturn, 1) := by decide +kernel
theorem dX12_readExpression_0 : decode cX12_readExpression 0 = .ok (.aload_n 0, 1) := by decide +kernel
theorem dX12_readExpression_1 : decode cX12_readExpression 1 = .ok (.iconst 0, 1) := by decide +kernel
theorem dX12_readExpression_2 : decode cX12_readExpression 2 = .ok (.putfield 297, 3) := by decide +kernel
theorem dX12_readExpression_5 : decode cX12_readExpression 5 = .ok (.aload_n 0, 1) := by decide +kernel
theorem dX12_readExpression_6 : decode cX12_readExpression 6 = .ok (.iconst 0, 1) := by decide +kernel
theorem dX12_readExpression_7 : decode cX12_readExpression 7 = .ok (.putfield 317, 3) := by decide +kernel
theorem dX12_readExpression_10 : decode cX12_readExpression 10 = .ok (.iload_n 1, 1) := by decide +kernel
theorem dX12_readExpression_11 : decode cX12_readExpression 11 = .ok (.ifCond .eq 7, 3) := by decide +kernel
theorem dX12_readExpression_14 : decode cX12_readExpression 14 = .ok (.iconst 0, 1) := by decide +kernel
theorem dX12_readExpression_15 : decode cX12_readExpression 15 = .ok (.goto 4, 3) := by decide +kernel
theorem dX12_readExpression_18 : decode cX12_readExpression 18 = .ok (.iconst 1, 1) := by decide +kernel
theorem dX12_readExpression_19 : decode cX12_readExpression 19 = .ok (.istore_n 2, 1) := by decide +kernel
theorem dX12_readExpression_20 : decode cX12_readExpression 20 = .ok (.aload_n 0, 1) := by decide +kernel
theorem dX12_readExpression_21 : decode cX12_readExpression 21 = .ok (.getfield 257, 3) := by decide +kernel
theorem dX12_readExpression_24 : decode cX12_readExpression 24 = .ok (.ifCond .ne 52, 3) := by decide +kernel
theorem dX12_readExpression_27 : decode cX12_readExpression 27 = .ok (.iload_n 2, 1) := by decide +kernel
theorem dX12_readExpression_28 : decode cX12_readExpression 28 = .ok (.iconst 4, 1) := by decide +kernel
theorem dX12_readExpression_29 : decode cX12_readExpression 29 = .ok (.if_icmp .eq 47, 3) := by decide +kernel
theorem dX12_readExpression_32 : decode cX12_readExpression 32 = .ok (.iload_n 2, 1) := by decide +kernel
theorem dX12_readExpression_33 : decode cX12_readExpression 33 = .ok (.ifCond .ne 10, 3) := by decide +kernel
theorem dX12_readExpression_36 : decode cX12_readExpression 36 = .ok (.aload_n 0, 1) := by decide +kernel
theorem dX12_readExpression_37 : decode cX12_readExpression 37 = .ok (.invokevirtual 373, 3) := by decide +kernel
theorem dX12_readExpression_40 : decode cX12_readExpression 40 = .ok (.goto 32, 3) := by decide +kernel
theorem dX12_readExpression_43 : decode cX12_readExpression 43 = .ok (.iload_n 2, 1) := by decide +kernel
theorem dX12_readExpression_44 : decode cX12_readExpression 44 = .ok (.iconst 1, 1) := by decide +kernel
theorem dX12_readExpression_45 : decode cX12_readExpression 45 = .ok (.if_icmp .ne 10, 3) := by decide +kernel
theorem dX12_readExpression_48 : decode cX12_readExpression 48 = .ok (.aload_n 0, 1) := by decide +kernel
theorem dX12_readExpression_49 : decode cX12_readExpression 49 = .ok (.invokevirtual 356, 3) := by decide +kernel
theorem dX12_readExpression_52 : decode cX12_readExpression 52 = .ok (.goto 20, 3) := by decide +kernel
theorem dX12_readExpression_55 : decode cX12_readExpression 55 = .ok (.iload_n 2, 1) := by decide +kernel
theorem dX12_readExpression_56 : decode cX12_readExpression 56 = .ok (.iconst 3, 1) := by decide +kernel
theorem dX12_readExpression_57 : decode cX12_readExpression 57 = .ok (.if_icmp .ne 11, 3) := by decide +kernel
theorem dX12_readExpression_60 : decode cX12_readExpression 60 = .ok (.aload_n 0, 1) := by decide +kernel
theorem dX12_readExpression_61 : decode cX12_readExpression 61 = .ok (.iload_n 1, 1) := by decide +kernel
theorem dX12_readExpression_62 : decode cX12_readExpression 62 = .ok (.invokevirtual 376, 3) := by decide +kernel
theorem dX12_readExpression_65 : decode cX12_readExpression 65 = .ok (.goto 7, 3) := by decide +kernel
theorem dX12_readExpression_68 : decode cX12_readExpression 68 = .ok (.aload_n 0, 1) := by decide +kernel
theorem dX12_readExpression_69 : decode cX12_readExpression 69 = .ok (.invokevirtual 380, 3) := by decide +kernel
theorem dX12_readExpression_72 : decode cX12_readExpression 72 = .ok (.istore_n 2, 1) := by decide +kernel
theorem dX12_readExpression_73 : decode cX12_readExpression 73 = .ok (.goto (-53), 3) := by decide +kernel
theorem dX12_readExpression_76 : decode cX12_readExpression 76 = .ok (.aload_n 0, 1) := by decide +kernel
theorem dX12_readExpression_77 : decode cX12_readExpression 77 = .ok (.iconst 1, 1) := by decide +kernel
theorem dX12_readExpression_78 : decode cX12_readExpression 78 = .ok (.invokevirtual 359, 3) := by decide +kernel
theorem dX12_readExpression_81 : decode cX12_readExpression 81 = .ok (.return_, 1) := by decide +kernel
theorem dX12_beginText_0 : decode cX12_beginText 0 = .ok (.aload_n 0, 1) := by decide +kernel
theorem dX12_beginText_1 : decode cX12_beginText 1 = .ok (.iload_n 1, 1) := by decide +kernel
theorem dX12_beginText_2 : decode cX12_beginText 2 = .ok (.putfield 332, 3) := by decide +kernel
theorem dX12_beginText_5 : decode cX12_beginText 5 = .ok (.aload_n 0, 1) := by decide +kernel
theorem dX12_beginText_6 : decode cX12_beginText 6 = .ok (.invokevirtual 383, 3) := by decide +kernel
theorem dX12_beginText_9 : decode cX12_beginText 9 = .ok (.aload_n 0, 1) := by decide +kernel
theorem dX12_beginText_10 : decode cX12_beginText 10 = .ok (.iconst 0, 1) := by decide +kernel
theorem dX12_beginText_11 : decode cX12_beginText 11 = .ok (.putfield 386, 3) := by decide +kernel
theorem dX12_beginText_14 : decode cX12_beginText 14 = .ok (.aload_n 0, 1) := by decide +kernel
theorem dX12_beginText_15 : decode cX12_beginText 15 = .ok (.iconst 0, 1) := by decide +kernel
theorem dX12_beginText_16 : decode cX12_beginText 16 = .ok (.putfield 294, 3) := by decide +kernel
theorem dX12_beginText_19 : decode cX12_beginText 19 = .ok (.aload_n 0, 1) := by decide +kernel
theorem dX12_beginText_20 : decode cX12_beginText 20 = .ok (.iconst 0, 1) := by decide +kernel
theorem dX12_beginText_21 : decode cX12_beginText 21 = .ok (.putfield 323, 3) := by decide +kernel
theorem dX12_beginText_24 : decode cX12_beginText 24 = .ok (.return_, 1) := by decide +kernel
theorem dX12_endText_0 : decode cX12_endText 0 = .ok (.aload_n 0, 1) := by decide +kernel
theorem dX12_endText_1 : decode cX12_endText 1 = .ok (.getfield 257, 3) := by decide +kernel
theorem dX12_endText_4 : decode cX12_endText 4 = .ok (.ifCond .ne 15, 3) := by decide +kernel
theorem dX12_endText_7 : decode cX12_endText 7 = .ok (.aload_n 0, 1) := by decide +kernel
theorem dX12_endText_8 : decode cX12_endText 8 = .ok (.getfield 277, 3) := by decide +kernel
theorem dX12_endText_11 : decode cX12_endText 11 = .ok (.ifCond .eq 8, 3) := by decide +kernel
theorem dX12_endText_14 : decode cX12_endText 14 = .ok (.aload_n 0, 1) := by decide +kernel
theorem dX12_endText_15 : decode cX12_endText 15 = .ok (.iconst 0, 1) := by decide +kernel
theorem dX12_endText_16 : decode cX12_endText 16 = .ok (.invokevirtual 290, 3) := by decide +kernel
theorem dX12_endText_19 : decode cX12_endText 19 = .ok (.aload_n 0, 1) := by decide +kernel
theorem dX12_endText_20 : decode cX12_endText 20 = .ok (.iconst 0, 1) := by decide +kernel
theorem dX12_endText_21 : decode cX12_endText 21 = .ok (.putfield 332, 3) := by decide +kernel
theorem dX12_endText_24 : decode cX12_endText 24 = .ok (.aload_n 0, 1) := by decide +kernel
theorem dX12_endText_25 : decode cX12_endText 25 = .ok (.iconst 0, 1) := by decide +kernel
theorem dX12_endText_26 : decode cX12_endText 26 = .ok (.putfield 245, 3) := by decide +kernel
theorem dX12_endText_29 : decode cX12_endText 29 = .ok (.return_, 1) := by decide +kernel
theorem dX12_readLaw_0 : decode cX12_readLaw 0 = .ok (.iconst (-1), 1) := by decide +kernel
theorem dX12_readLaw_1 : decode cX12_readLaw 1 = .ok (.istore_n 1, 1) := by decide +kernel
theorem dX12_readLaw_2 : decode cX12_readLaw 2 = .ok (.iconst 0, 1) := by decide +kernel
theorem dX12_readLaw_3 : decode cX12_readLaw 3 = .ok (.istore_n 2, 1) := by decide +kernel
theorem dX12_readLaw_4 : decode cX12_readLaw 4 = .ok (.iload_n 2, 1) := by decide +kernel
theorem dX12_readLaw_5 : decode cX12_readLaw 5 = .ok (.iconst 5, 1) := by decide +kernel
theorem dX12_readLaw_6 : decode cX12_readLaw 6 = .ok (.if_icmp .ge 28, 3) := by decide +kernel
theorem dX12_readLaw_9 : decode cX12_readLaw 9 = .ok (.aload_n 0, 1) := by decide +kernel
theorem dX12_readLaw_10 : decode cX12_readLaw 10 = .ok (.aload_n 0, 1) := by decide +kernel
theorem dX12_readLaw_11 : decode cX12_readLaw 11 = .ok (.getfield 98, 3) := by decide +kernel
theorem dX12_readLaw_14 : decode cX12_readLaw 14 = .ok (.iload_n 2, 1) := by decide +kernel
theorem dX12_readLaw_15 : decode cX12_readLaw 15 = .ok (.laload, 1) := by decide +kernel
theorem dX12_readLaw_16 : decode cX12_readLaw 16 = .ok (.invokevirtual 313, 3) := by decide +kernel
theorem dX12_readLaw_19 : decode cX12_readLaw 19 = .ok (.ifCond .eq 7, 3) := by decide +kernel
theorem dX12_readLaw_22 : decode cX12_readLaw 22 = .ok (.iload_n 2, 1) := by decide +kernel
theorem dX12_readLaw_23 : decode cX12_readLaw 23 = .ok (.goto 4, 3) := by decide +kernel
theorem dX12_readLaw_26 : decode cX12_readLaw 26 = .ok (.iload_n 1, 1) := by decide +kernel
theorem dX12_readLaw_27 : decode cX12_readLaw 27 = .ok (.istore_n 1, 1) := by decide +kernel
theorem dX12_readLaw_28 : decode cX12_readLaw 28 = .ok (.iinc 2 1, 3) := by decide +kernel
theorem dX12_readLaw_31 : decode cX12_readLaw 31 = .ok (.goto (-27), 3) := by decide +kernel
theorem dX12_readLaw_34 : decode cX12_readLaw 34 = .ok (.aload_n 0, 1) := by decide +kernel
theorem dX12_readLaw_35 : decode cX12_readLaw 35 = .ok (.iload_n 1, 1) := by decide +kernel
theorem dX12_readLaw_36 : decode cX12_readLaw 36 = .ok (.iconst (-1), 1) := by decide +kernel
theorem dX12_readLaw_37 : decode cX12_readLaw 37 = .ok (.if_icmp .eq 16, 3) := by decide +kernel
theorem dX12_readLaw_40 : decode cX12_readLaw 40 = .ok (.aload_n 0, 1) := by decide +kernel
theorem dX12_readLaw_41 : decode cX12_readLaw 41 = .ok (.getfield 386, 3) := by decide +kernel
theorem dX12_readLaw_44 : decode cX12_readLaw 44 = .ok (.bipush 12, 2) := by decide +kernel
theorem dX12_readLaw_46 : decode cX12_readLaw 46 = .ok (.if_icmp .ge 7, 3) := by decide +kernel
theorem dX12_readLaw_49 : decode cX12_readLaw 49 = .ok (.iconst 1, 1) := by decide +kernel
theorem dX12_readLaw_50 : decode cX12_readLaw 50 = .ok (.goto 4, 3) := by decide +kernel
theorem dX12_readLaw_53 : decode cX12_readLaw 53 = .ok (.iconst 0, 1) := by decide +kernel
theorem dX12_readLaw_54 : decode cX12_readLaw 54 = .ok (.invokevirtual 290, 3) := by decide +kernel
theorem dX12_readLaw_57 : decode cX12_readLaw 57 = .ok (.aload_n 0, 1) := by decide +kernel
theorem dX12_readLaw_58 : decode cX12_readLaw 58 = .ok (.getfield 257, 3) := by decide +kernel
theorem dX12_readLaw_61 : decode cX12_readLaw 61 = .ok (.ifCond .eq 4, 3) := by decide +kernel
theorem dX12_readLaw_64 : decode cX12_readLaw 64 = .ok (.return_, 1) := by decide +kernel
theorem dX12_readLaw_65 : decode cX12_readLaw 65 = .ok (.bipush 8, 2) := by decide +kernel
theorem dX12_readLaw_67 : decode cX12_readLaw 67 = .ok (.aload_n 0, 1) := by decide +kernel
theorem dX12_readLaw_68 : decode cX12_readLaw 68 = .ok (.getfield 386, 3) := by decide +kernel
theorem dX12_readLaw_71 : decode cX12_readLaw 71 = .ok (.imul, 1) := by decide +kernel
theorem dX12_readLaw_72 : decode cX12_readLaw 72 = .ok (.istore_n 2, 1) := by decide +kernel
theorem dX12_readLaw_73 : decode cX12_readLaw 73 = .ok (.iconst 0, 1) := by decide +kernel
theorem dX12_readLaw_74 : decode cX12_readLaw 74 = .ok (.istore_n 3, 1) := by decide +kernel
theorem dX12_readLaw_75 : decode cX12_readLaw 75 = .ok (.iload_n 3, 1) := by decide +kernel
theorem dX12_readLaw_76 : decode cX12_readLaw 76 = .ok (.bipush 8, 2) := by decide +kernel
theorem dX12_readLaw_78 : decode cX12_readLaw 78 = .ok (.if_icmp .ge 18, 3) := by decide +kernel
theorem dX12_readLaw_81 : decode cX12_readLaw 81 = .ok (.aload_n 0, 1) := by decide +kernel
theorem dX12_readLaw_82 : decode cX12_readLaw 82 = .ok (.getfield 42, 3) := by decide +kernel
theorem dX12_readLaw_85 : decode cX12_readLaw 85 = .ok (.iload_n 2, 1) := by decide +kernel
theorem dX12_readLaw_86 : decode cX12_readLaw 86 = .ok (.iload_n 3, 1) := by decide +kernel
theorem dX12_readLaw_87 : decode cX12_readLaw 87 = .ok (.iadd, 1) := by decide +kernel
theorem dX12_readLaw_88 : decode cX12_readLaw 88 = .ok (.iconst 0, 1) := by decide +kernel
theorem dX12_readLaw_89 : decode cX12_readLaw 89 = .ok (.iastore, 1) := by decide +kernel
theorem dX12_readLaw_90 : decode cX12_readLaw 90 = .ok (.iinc 3 1, 3) := by decide +kernel
theorem dX12_readLaw_93 : decode cX12_readLaw 93 = .ok (.goto (-18), 3) := by decide +kernel
theorem dX12_readLaw_96 : decode cX12_readLaw 96 = .ok (.aload_n 0, 1) := by decide +kernel
theorem dX12_readLaw_97 : decode cX12_readLaw 97 = .ok (.getfield 42, 3) := by decide +kernel
theorem dX12_readLaw_100 : decode cX12_readLaw 100 = .ok (.iload_n 2, 1) := by decide +kernel
theorem dX12_readLaw_101 : decode cX12_readLaw 101 = .ok (.iload_n 1, 1) := by decide +kernel
theorem dX12_readLaw_102 : decode cX12_readLaw 102 = .ok (.iastore, 1) := by decide +kernel
theorem dX12_readLaw_103 : decode cX12_readLaw 103 = .ok (.aload_n 0, 1) := by decide +kernel
theorem dX12_readLaw_104 : decode cX12_readLaw 104 = .ok (.dup, 1) := by decide +kernel
theorem dX12_readLaw_105 : decode cX12_readLaw 105 = .ok (.getfield 386, 3) := by decide +kernel
theorem dX12_readLaw_108 : decode cX12_readLaw 108 = .ok (.iconst 1, 1) := by decide +kernel
theorem dX12_readLaw_109 : decode cX12_readLaw 109 = .ok (.iadd, 1) := by decide +kernel
theorem dX12_readLaw_110 : decode cX12_readLaw 110 = .ok (.putfield 386, 3) := by decide +kernel
theorem dX12_readLaw_113 : decode cX12_readLaw 113 = .ok (.aload_n 0, 1) := by decide +kernel
theorem dX12_readLaw_114 : decode cX12_readLaw 114 = .ok (.getfield 42, 3) := by decide +kernel
theorem dX12_readLaw_117 : decode cX12_readLaw 117 = .ok (.iload_n 2, 1) := by decide +kernel
theorem dX12_readLaw_118 : decode cX12_readLaw 118 = .ok (.iconst 3, 1) := by decide +kernel
theorem dX12_readLaw_119 : decode cX12_readLaw 119 = .ok (.iadd, 1) := by decide +kernel
theorem dX12_readLaw_120 : decode cX12_readLaw 120 = .ok (.aload_n 0, 1) := by decide +kernel
theorem dX12_readLaw_121 : decode cX12_readLaw 121 = .ok (.getfield 294, 3) := by decide +kernel
theorem dX12_readLaw_124 : decode cX12_readLaw 124 = .ok (.iastore, 1) := by decide +kernel
theorem dX12_readLaw_125 : decode cX12_readLaw 125 = .ok (.iload_n 1, 1) := by decide +kernel
theorem dX12_readLaw_126 : decode cX12_readLaw 126 = .ok (.iconst 3, 1) := by decide +kernel
theorem dX12_readLaw_127 : decode cX12_readLaw 127 = .ok (.if_icmp .ge 8, 3) := by decide +kernel
theorem dX12_readLaw_130 : decode cX12_readLaw 130 = .ok (.aload_n 0, 1) := by decide +kernel
theorem dX12_readLaw_131 : decode cX12_readLaw 131 = .ok (.iconst 0, 1) := by decide +kernel
theorem dX12_readLaw_132 : decode cX12_readLaw 132 = .ok (.invokevirtual 389, 3) := by decide +kernel
theorem dX12_readLaw_135 : decode cX12_readLaw 135 = .ok (.aload_n 0, 1) := by decide +kernel
theorem dX12_readLaw_136 : decode cX12_readLaw 136 = .ok (.getfield 42, 3) := by decide +kernel
theorem dX12_readLaw_139 : decode cX12_readLaw 139 = .ok (.iload_n 2, 1) := by decide +kernel
theorem dX12_readLaw_140 : decode cX12_readLaw 140 = .ok (.iconst 4, 1) := by decide +kernel
theorem dX12_readLaw_141 : decode cX12_readLaw 141 = .ok (.iadd, 1) := by decide +kernel
theorem dX12_readLaw_142 : decode cX12_readLaw 142 = .ok (.aload_n 0, 1) := by decide +kernel
theorem dX12_readLaw_143 : decode cX12_readLaw 143 = .ok (.getfield 294, 3) := by decide +kernel
theorem dX12_readLaw_146 : decode cX12_readLaw 146 = .ok (.iastore, 1) := by decide +kernel
theorem dX12_readLaw_147 : decode cX12_readLaw 147 = .ok (.aload_n 0, 1) := by decide +kernel
theorem dX12_readLaw_148 : decode cX12_readLaw 148 = .ok (.getfield 42, 3) := by decide +kernel
theorem dX12_readLaw_151 : decode cX12_readLaw 151 = .ok (.iload_n 2, 1) := by decide +kernel
theorem dX12_readLaw_152 : decode cX12_readLaw 152 = .ok (.iconst 5, 1) := by decide +kernel
theorem dX12_readLaw_153 : decode cX12_readLaw 153 = .ok (.iadd, 1) := by decide +kernel
theorem dX12_readLaw_154 : decode cX12_readLaw 154 = .ok (.aload_n 0, 1) := by decide +kernel
theorem dX12_readLaw_155 : decode cX12_readLaw 155 = .ok (.getfield 294, 3) := by decide +kernel
theorem dX12_readLaw_158 : decode cX12_readLaw 158 = .ok (.iastore, 1) := by decide +kernel
theorem dX12_readLaw_159 : decode cX12_readLaw 159 = .ok (.aload_n 0, 1) := by decide +kernel
theorem dX12_readLaw_160 : decode cX12_readLaw 160 = .ok (.getfield 257, 3) := by decide +kernel
theorem dX12_readLaw_163 : decode cX12_readLaw 163 = .ok (.ifCond .ne 22, 3) := by decide +kernel
theorem dX12_readLaw_166 : decode cX12_readLaw 166 = .ok (.aload_n 0, 1) := by decide +kernel
theorem dX12_readLaw_167 : decode cX12_readLaw 167 = .ok (.ldc2_w 392, 3) := by decide +kernel
theorem dX12_readLaw_170 : decode cX12_readLaw 170 = .ok (.invokevirtual 313, 3) := by decide +kernel
theorem dX12_readLaw_173 : decode cX12_readLaw 173 = .ok (.ifCond .eq 12, 3) := by decide +kernel
theorem dX12_readLaw_176 : decode cX12_readLaw 176 = .ok (.aload_n 0, 1) := by decide +kernel
theorem dX12_readLaw_177 : decode cX12_readLaw 177 = .ok (.invokevirtual 261, 3) := by decide +kernel
theorem dX12_readLaw_180 : decode cX12_readLaw 180 = .ok (.aload_n 0, 1) := by decide +kernel
theorem dX12_readLaw_181 : decode cX12_readLaw 181 = .ok (.iconst 1, 1) := by decide +kernel
theorem dX12_readLaw_182 : decode cX12_readLaw 182 = .ok (.invokevirtual 389, 3) := by decide +kernel
theorem dX12_readLaw_185 : decode cX12_readLaw 185 = .ok (.aload_n 0, 1) := by decide +kernel
theorem dX12_readLaw_186 : decode cX12_readLaw 186 = .ok (.getfield 42, 3) := by decide +kernel
theorem dX12_readLaw_189 : decode cX12_readLaw 189 = .ok (.iload_n 2, 1) := by decide +kernel
theorem dX12_readLaw_190 : decode cX12_readLaw 190 = .ok (.bipush 6, 2) := by decide +kernel
theorem dX12_readLaw_192 : decode cX12_readLaw 192 = .ok (.iadd, 1) := by decide +kernel
theorem dX12_readLaw_193 : decode cX12_readLaw 193 = .ok (.aload_n 0, 1) := by decide +kernel
theorem dX12_readLaw_194 : decode cX12_readLaw 194 = .ok (.getfield 294, 3) := by decide +kernel
theorem dX12_readLaw_197 : decode cX12_readLaw 197 = .ok (.iastore, 1) := by decide +kernel
theorem dX12_readLaw_198 : decode cX12_readLaw 198 = .ok (.return_, 1) := by decide +kernel
theorem dX12_law_0 : decode cX12_law 0 = .ok (.aload_n 0, 1) := by decide +kernel
theorem dX12_law_1 : decode cX12_law 1 = .ok (.iconst 0, 1) := by decide +kernel
theorem dX12_law_2 : decode cX12_law 2 = .ok (.putfield 163, 3) := by decide +kernel
theorem dX12_law_5 : decode cX12_law 5 = .ok (.aload_n 0, 1) := by decide +kernel
theorem dX12_law_6 : decode cX12_law 6 = .ok (.getfield 13, 3) := by decide +kernel
theorem dX12_law_9 : decode cX12_law 9 = .ok (.iconst 3, 1) := by decide +kernel
theorem dX12_law_10 : decode cX12_law 10 = .ok (.iaload, 1) := by decide +kernel
theorem dX12_law_11 : decode cX12_law 11 = .ok (.bipush 6, 2) := by decide +kernel
theorem dX12_law_13 : decode cX12_law 13 = .ok (.if_icmp .ne 15, 3) := by decide +kernel
theorem dX12_law_16 : decode cX12_law 16 = .ok (.aload_n 0, 1) := by decide +kernel
theorem dX12_law_17 : decode cX12_law 17 = .ok (.iconst 0, 1) := by decide +kernel
theorem dX12_law_18 : decode cX12_law 18 = .ok (.putfield 245, 3) := by decide +kernel
theorem dX12_law_21 : decode cX12_law 21 = .ok (.aload_n 0, 1) := by decide +kernel
theorem dX12_law_22 : decode cX12_law 22 = .ok (.bipush (-5), 2) := by decide +kernel
theorem dX12_law_24 : decode cX12_law 24 = .ok (.invokevirtual 172, 3) := by decide +kernel
theorem dX12_law_27 : decode cX12_law 27 = .ok (.ireturn, 1) := by decide +kernel
theorem dX12_law_28 : decode cX12_law 28 = .ok (.aload_n 0, 1) := by decide +kernel
theorem dX12_law_29 : decode cX12_law 29 = .ok (.iconst 0, 1) := by decide +kernel
theorem dX12_law_30 : decode cX12_law 30 = .ok (.invokevirtual 394, 3) := by decide +kernel
theorem dX12_law_33 : decode cX12_law 33 = .ok (.aload_n 0, 1) := by decide +kernel
theorem dX12_law_34 : decode cX12_law 34 = .ok (.invokevirtual 397, 3) := by decide +kernel
theorem dX12_law_37 : decode cX12_law 37 = .ok (.aload_n 0, 1) := by decide +kernel
theorem dX12_law_38 : decode cX12_law 38 = .ok (.getfield 257, 3) := by decide +kernel
theorem dX12_law_41 : decode cX12_law 41 = .ok (.ifCond .ne 23, 3) := by decide +kernel
theorem dX12_law_44 : decode cX12_law 44 = .ok (.aload_n 0, 1) := by decide +kernel
theorem dX12_law_45 : decode cX12_law 45 = .ok (.bipush 59, 2) := by decide +kernel
theorem dX12_law_47 : decode cX12_law 47 = .ok (.invokevirtual 326, 3) := by decide +kernel
theorem dX12_law_50 : decode cX12_law 50 = .ok (.ifCond .eq 14, 3) := by decide +kernel
theorem dX12_law_53 : decode cX12_law 53 = .ok (.aload_n 0, 1) := by decide +kernel
theorem dX12_law_54 : decode cX12_law 54 = .ok (.invokevirtual 261, 3) := by decide +kernel
theorem dX12_law_57 : decode cX12_law 57 = .ok (.aload_n 0, 1) := by decide +kernel
theorem dX12_law_58 : decode cX12_law 58 = .ok (.invokevirtual 397, 3) := by decide +kernel
theorem dX12_law_61 : decode cX12_law 61 = .ok (.goto (-24), 3) := by decide +kernel
theorem dX12_law_64 : decode cX12_law 64 = .ok (.aload_n 0, 1) := by decide +kernel
theorem dX12_law_65 : decode cX12_law 65 = .ok (.invokevirtual 400, 3) := by decide +kernel
theorem dX12_law_68 : decode cX12_law 68 = .ok (.aload_n 0, 1) := by decide +kernel
theorem dX12_law_69 : decode cX12_law 69 = .ok (.getfield 257, 3) := by decide +kernel
theorem dX12_law_72 : decode cX12_law 72 = .ok (.ifCond .eq 10, 3) := by decide +kernel
theorem dX12_law_75 : decode cX12_law 75 = .ok (.aload_n 0, 1) := by decide +kernel
theorem dX12_law_76 : decode cX12_law 76 = .ok (.bipush (-6), 2) := by decide +kernel
theorem dX12_law_78 : decode cX12_law 78 = .ok (.invokevirtual 172, 3) := by decide +kernel
theorem dX12_law_81 : decode cX12_law 81 = .ok (.ireturn, 1) := by decide +kernel
theorem dX12_law_82 : decode cX12_law 82 = .ok (.sipush 185, 3) := by decide +kernel
theorem dX12_law_85 : decode cX12_law 85 = .ok (.sipush 900, 3) := by decide +kernel
theorem dX12_law_88 : decode cX12_law 88 = .ok (.aload_n 0, 1) := by decide +kernel
theorem dX12_law_89 : decode cX12_law 89 = .ok (.getfield 13, 3) := by decide +kernel
theorem dX12_law_92 : decode cX12_law 92 = .ok (.iconst 3, 1) := by decide +kernel
theorem dX12_law_93 : decode cX12_law 93 = .ok (.iaload, 1) := by decide +kernel
theorem dX12_law_94 : decode cX12_law 94 = .ok (.imul, 1) := by decide +kernel
theorem dX12_law_95 : decode cX12_law 95 = .ok (.iadd, 1) := by decide +kernel
theorem dX12_law_96 : decode cX12_law 96 = .ok (.istore_n 1, 1) := by decide +kernel
theorem dX12_law_97 : decode cX12_law 97 = .ok (.aload_n 0, 1) := by decide +kernel
theorem dX12_law_98 : decode cX12_law 98 = .ok (.getfield 13, 3) := by decide +kernel
theorem dX12_law_101 : decode cX12_law 101 = .ok (.iload_n 1, 1) := by decide +kernel
theorem dX12_law_102 : decode cX12_law 102 = .ok (.iconst 1, 1) := by decide +kernel
theorem dX12_law_103 : decode cX12_law 103 = .ok (.iadd, 1) := by decide +kernel
theorem dX12_law_104 : decode cX12_law 104 = .ok (.aload_n 0, 1) := by decide +kernel
theorem dX12_law_105 : decode cX12_law 105 = .ok (.getfield 386, 3) := by decide +kernel
theorem dX12_law_108 : decode cX12_law 108 = .ok (.iastore, 1) := by decide +kernel
theorem dX12_law_109 : decode cX12_law 109 = .ok (.iconst 0, 1) := by decide +kernel
theorem dX12_law_110 : decode cX12_law 110 = .ok (.istore_n 2, 1) := by decide +kernel
theorem dX12_law_111 : decode cX12_law 111 = .ok (.iload_n 2, 1) := by decide +kernel
theorem dX12_law_112 : decode cX12_law 112 = .ok (.bipush 8, 2) := by decide +kernel
theorem dX12_law_114 : decode cX12_law 114 = .ok (.aload_n 0, 1) := by decide +kernel
theorem dX12_law_115 : decode cX12_law 115 = .ok (.getfield 386, 3) := by decide +kernel
theorem dX12_law_118 : decode cX12_law 118 = .ok (.imul, 1) := by decide +kernel
theorem dX12_law_119 : decode cX12_law 119 = .ok (.if_icmp .ge 25, 3) := by decide +kernel
theorem dX12_law_122 : decode cX12_law 122 = .ok (.aload_n 0, 1) := by decide +kernel
theorem dX12_law_123 : decode cX12_law 123 = .ok (.getfield 13, 3) := by decide +kernel
theorem dX12_law_126 : decode cX12_law 126 = .ok (.iload_n 1, 1) := by decide +kernel
theorem dX12_law_127 : decode cX12_law 127 = .ok (.iconst 2, 1) := by decide +kernel
theorem dX12_law_128 : decode cX12_law 128 = .ok (.iadd, 1) := by decide +kernel
theorem dX12_law_129 : decode cX12_law 129 = .ok (.iload_n 2, 1) := by decide +kernel
theorem dX12_law_130 : decode cX12_law 130 = .ok (.iadd, 1) := by decide +kernel
theorem dX12_law_131 : decode cX12_law 131 = .ok (.aload_n 0, 1) := by decide +kernel
theorem dX12_law_132 : decode cX12_law 132 = .ok (.getfield 42, 3) := by decide +kernel
theorem dX12_law_135 : decode cX12_law 135 = .ok (.iload_n 2, 1) := by decide +kernel
theorem dX12_law_136 : decode cX12_law 136 = .ok (.iaload, 1) := by decide +kernel
theorem dX12_law_137 : decode cX12_law 137 = .ok (.iastore, 1) := by decide +kernel
theorem dX12_law_138 : decode cX12_law 138 = .ok (.iinc 2 1, 3) := by decide +kernel
theorem dX12_law_141 : decode cX12_law 141 = .ok (.goto (-30), 3) := by decide +kernel
theorem dX12_law_144 : decode cX12_law 144 = .ok (.iconst 0, 1) := by decide +kernel
theorem dX12_law_145 : decode cX12_law 145 = .ok (.istore_n 2, 1) := by decide +kernel
theorem dX12_law_146 : decode cX12_law 146 = .ok (.iload_n 2, 1) := by decide +kernel
theorem dX12_law_147 : decode cX12_law 147 = .ok (.aload_n 0, 1) := by decide +kernel
theorem dX12_law_148 : decode cX12_law 148 = .ok (.getfield 294, 3) := by decide +kernel
theorem dX12_law_151 : decode cX12_law 151 = .ok (.if_icmp .ge 49, 3) := by decide +kernel
theorem dX12_law_154 : decode cX12_law 154 = .ok (.aload_n 0, 1) := by decide +kernel
theorem dX12_law_155 : decode cX12_law 155 = .ok (.getfield 13, 3) := by decide +kernel
theorem dX12_law_158 : decode cX12_law 158 = .ok (.iload_n 1, 1) := by decide +kernel
theorem dX12_law_159 : decode cX12_law 159 = .ok (.bipush 98, 2) := by decide +kernel
theorem dX12_law_161 : decode cX12_law 161 = .ok (.iadd, 1) := by decide +kernel
theorem dX12_law_162 : decode cX12_law 162 = .ok (.iconst 2, 1) := by decide +kernel
theorem dX12_law_163 : decode cX12_law 163 = .ok (.iload_n 2, 1) := by decide +kernel
theorem dX12_law_164 : decode cX12_law 164 = .ok (.imul, 1) := by decide +kernel
theorem dX12_law_165 : decode cX12_law 165 = .ok (.iadd, 1) := by decide +kernel
theorem dX12_law_166 : decode cX12_law 166 = .ok (.aload_n 0, 1) := by decide +kernel
theorem dX12_law_167 : decode cX12_law 167 = .ok (.getfield 45, 3) := by decide +kernel
theorem dX12_law_170 : decode cX12_law 170 = .ok (.iload_n 2, 1) := by decide +kernel
theorem dX12_law_171 : decode cX12_law 171 = .ok (.iaload, 1) := by decide +kernel
theorem dX12_law_172 : decode cX12_law 172 = .ok (.iastore, 1) := by decide +kernel
theorem dX12_law_173 : decode cX12_law 173 = .ok (.aload_n 0, 1) := by decide +kernel
theorem dX12_law_174 : decode cX12_law 174 = .ok (.getfield 13, 3) := by decide +kernel
theorem dX12_law_177 : decode cX12_law 177 = .ok (.iload_n 1, 1) := by decide +kernel
theorem dX12_law_178 : decode cX12_law 178 = .ok (.bipush 98, 2) := by decide +kernel
theorem dX12_law_180 : decode cX12_law 180 = .ok (.iadd, 1) := by decide +kernel
theorem dX12_law_181 : decode cX12_law 181 = .ok (.iconst 2, 1) := by decide +kernel
theorem dX12_law_182 : decode cX12_law 182 = .ok (.iload_n 2, 1) := by decide +kernel
theorem dX12_law_183 : decode cX12_law 183 = .ok (.imul, 1) := by decide +kernel
theorem dX12_law_184 : decode cX12_law 184 = .ok (.iadd, 1) := by decide +kernel
theorem dX12_law_185 : decode cX12_law 185 = .ok (.iconst 1, 1) := by decide +kernel
theorem dX12_law_186 : decode cX12_law 186 = .ok (.iadd, 1) := by decide +kernel
theorem dX12_law_187 : decode cX12_law 187 = .ok (.aload_n 0, 1) := by decide +kernel
theorem dX12_law_188 : decode cX12_law 188 = .ok (.getfield 48, 3) := by decide +kernel
theorem dX12_law_191 : decode cX12_law 191 = .ok (.iload_n 2, 1) := by decide +kernel
theorem dX12_law_192 : decode cX12_law 192 = .ok (.iaload, 1) := by decide +kernel
theorem dX12_law_193 : decode cX12_law 193 = .ok (.iastore, 1) := by decide +kernel
theorem dX12_law_194 : decode cX12_law 194 = .ok (.iinc 2 1, 3) := by decide +kernel
theorem dX12_law_197 : decode cX12_law 197 = .ok (.goto (-51), 3) := by decide +kernel
theorem dX12_law_200 : decode cX12_law 200 = .ok (.aload_n 0, 1) := by decide +kernel
theorem dX12_law_201 : decode cX12_law 201 = .ok (.getfield 13, 3) := by decide +kernel
theorem dX12_law_204 : decode cX12_law 204 = .ok (.iconst 3, 1) := by decide +kernel
theorem dX12_law_205 : decode cX12_law 205 = .ok (.dup2, 1) := by decide +kernel
theorem dX12_law_206 : decode cX12_law 206 = .ok (.iaload, 1) := by decide +kernel
theorem dX12_law_207 : decode cX12_law 207 = .ok (.iconst 1, 1) := by decide +kernel
theorem dX12_law_208 : decode cX12_law 208 = .ok (.iadd, 1) := by decide +kernel
theorem dX12_law_209 : decode cX12_law 209 = .ok (.iastore, 1) := by decide +kernel
theorem dX12_law_210 : decode cX12_law 210 = .ok (.aload_n 0, 1) := by decide +kernel
theorem dX12_law_211 : decode cX12_law 211 = .ok (.aload_n 0, 1) := by decide +kernel
theorem dX12_law_212 : decode cX12_law 212 = .ok (.getfield 13, 3) := by decide +kernel
theorem dX12_law_215 : decode cX12_law 215 = .ok (.iconst 3, 1) := by decide +kernel
theorem dX12_law_216 : decode cX12_law 216 = .ok (.iaload, 1) := by decide +kernel
theorem dX12_law_217 : decode cX12_law 217 = .ok (.iconst 1, 1) := by decide +kernel
theorem dX12_law_218 : decode cX12_law 218 = .ok (.isub, 1) := by decide +kernel
theorem dX12_law_219 : decode cX12_law 219 = .ok (.invokevirtual 172, 3) := by decide +kernel
theorem dX12_law_222 : decode cX12_law 222 = .ok (.ireturn, 1) := by decide +kernel
theorem dX12_force_0 : decode cX12_force 0 = .ok (.aload_n 0, 1) := by decide +kernel
theorem dX12_force_1 : decode cX12_force 1 = .ok (.iconst 0, 1) := by decide +kernel
theorem dX12_force_2 : decode cX12_force 2 = .ok (.putfield 163, 3) := by decide +kernel
theorem dX12_force_5 : decode cX12_force 5 = .ok (.iload_n 1, 1) := by decide +kernel
theorem dX12_force_6 : decode cX12_force 6 = .ok (.iconst (-1), 1) := by decide +kernel
theorem dX12_force_7 : decode cX12_force 7 = .ok (.if_icmp .eq 21, 3) := by decide +kernel
theorem dX12_force_10 : decode cX12_force 10 = .ok (.iload_n 1, 1) := by decide +kernel
theorem dX12_force_11 : decode cX12_force 11 = .ok (.i2l, 1) := by decide +kernel
theorem dX12_force_12 : decode cX12_force 12 = .ok (.lconst 0, 1) := by decide +kernel
theorem dX12_force_13 : decode cX12_force 13 = .ok (.aload_n 0, 1) := by decide +kernel
theorem dX12_force_14 : decode cX12_force 14 = .ok (.getfield 13, 3) := by decide +kernel
theorem dX12_force_17 : decode cX12_force 17 = .ok (.iconst 3, 1) := by decide +kernel
theorem dX12_force_18 : decode cX12_force 18 = .ok (.iaload, 1) := by decide +kernel
theorem dX12_force_19 : decode cX12_force 19 = .ok (.i2l, 1) := by decide +kernel
theorem dX12_force_20 : decode cX12_force 20 = .ok (.lconst 1, 1) := by decide +kernel
theorem dX12_force_21 : decode cX12_force 21 = .ok (.lsub, 1) := by decide +kernel
theorem dX12_force_22 : decode cX12_force 22 = .ok (.invokestatic 183, 3) := by decide +kernel
theorem dX12_force_25 : decode cX12_force 25 = .ok (.ifCond .eq 12, 3) := by decide +kernel
theorem dX12_force_28 : decode cX12_force 28 = .ok (.aload_n 0, 1) := by decide +kernel
theorem dX12_force_29 : decode cX12_force 29 = .ok (.iconst 4, 1) := by decide +kernel
theorem dX12_force_30 : decode cX12_force 30 = .ok (.iload_n 1, 1) := by decide +kernel
theorem dX12_force_31 : decode cX12_force 31 = .ok (.invokevirtual 232, 3) := by decide +kernel
theorem dX12_force_34 : decode cX12_force 34 = .ok (.goto 9, 3) := by decide +kernel
theorem dX12_force_37 : decode cX12_force 37 = .ok (.aload_n 0, 1) := by decide +kernel
theorem dX12_force_38 : decode cX12_force 38 = .ok (.bipush (-2), 2) := by decide +kernel
theorem dX12_force_40 : decode cX12_force 40 = .ok (.invokevirtual 172, 3) := by decide +kernel
theorem dX12_force_43 : decode cX12_force 43 = .ok (.ireturn, 1) := by decide +kernel
theorem dX12_reckon_0 : decode cX12_reckon 0 = .ok (.iload_n 1, 1) := by decide +kernel
theorem dX12_reckon_1 : decode cX12_reckon 1 = .ok (.tableswitch 148 20 26 #[43, 48, 53, 58, 90, 122, 135], 43) := by decide +kernel
theorem dX12_reckon_44 : decode cX12_reckon 44 = .ok (.lload_n 2, 1) := by decide +kernel
theorem dX12_reckon_45 : decode cX12_reckon 45 = .ok (.lload 4, 2) := by decide +kernel
theorem dX12_reckon_47 : decode cX12_reckon 47 = .ok (.ladd, 1) := by decide +kernel
theorem dX12_reckon_48 : decode cX12_reckon 48 = .ok (.lreturn, 1) := by decide +kernel
theorem dX12_reckon_49 : decode cX12_reckon 49 = .ok (.lload_n 2, 1) := by decide +kernel
theorem dX12_reckon_50 : decode cX12_reckon 50 = .ok (.lload 4, 2) := by decide +kernel
theorem dX12_reckon_52 : decode cX12_reckon 52 = .ok (.lsub, 1) := by decide +kernel
theorem dX12_reckon_53 : decode cX12_reckon 53 = .ok (.lreturn, 1) := by decide +kernel
theorem dX12_reckon_54 : decode cX12_reckon 54 = .ok (.lload_n 2, 1) := by decide +kernel
theorem dX12_reckon_55 : decode cX12_reckon 55 = .ok (.lload 4, 2) := by decide +kernel
theorem dX12_reckon_57 : decode cX12_reckon 57 = .ok (.lmul, 1) := by decide +kernel
theorem dX12_reckon_58 : decode cX12_reckon 58 = .ok (.lreturn, 1) := by decide +kernel
theorem dX12_reckon_59 : decode cX12_reckon 59 = .ok (.aload_n 0, 1) := by decide +kernel
theorem dX12_reckon_60 : decode cX12_reckon 60 = .ok (.lload 4, 2) := by decide +kernel
theorem dX12_reckon_62 : decode cX12_reckon 62 = .ok (.lconst 0, 1) := by decide +kernel
theorem dX12_reckon_63 : decode cX12_reckon 63 = .ok (.lcmp, 1) := by decide +kernel
theorem dX12_reckon_64 : decode cX12_reckon 64 = .ok (.ifCond .ne 7, 3) := by decide +kernel
theorem dX12_reckon_67 : decode cX12_reckon 67 = .ok (.iconst 1, 1) := by decide +kernel
theorem dX12_reckon_68 : decode cX12_reckon 68 = .ok (.goto 4, 3) := by decide +kernel
theorem dX12_reckon_71 : decode cX12_reckon 71 = .ok (.iconst 0, 1) := by decide +kernel
theorem dX12_reckon_72 : decode cX12_reckon 72 = .ok (.putfield 403, 3) := by decide +kernel
theorem dX12_reckon_75 : decode cX12_reckon 75 = .ok (.aload_n 0, 1) := by decide +kernel
theorem dX12_reckon_76 : decode cX12_reckon 76 = .ok (.getfield 403, 3) := by decide +kernel
theorem dX12_reckon_79 : decode cX12_reckon 79 = .ok (.ifCond .eq 7, 3) := by decide +kernel
theorem dX12_reckon_82 : decode cX12_reckon 82 = .ok (.lconst 0, 1) := by decide +kernel
theorem dX12_reckon_83 : decode cX12_reckon 83 = .ok (.goto 7, 3) := by decide +kernel
theorem dX12_reckon_86 : decode cX12_reckon 86 = .ok (.lload_n 2, 1) := by decide +kernel
theorem dX12_reckon_87 : decode cX12_reckon 87 = .ok (.lload 4, 2) := by decide +kernel
theorem dX12_reckon_89 : decode cX12_reckon 89 = .ok (.ldiv, 1) := by decide +kernel
theorem dX12_reckon_90 : decode cX12_reckon 90 = .ok (.lreturn, 1) := by decide +kernel
theorem dX12_reckon_91 : decode cX12_reckon 91 = .ok (.aload_n 0, 1) := by decide +kernel
theorem dX12_reckon_92 : decode cX12_reckon 92 = .ok (.lload 4, 2) := by decide +kernel
theorem dX12_reckon_94 : decode cX12_reckon 94 = .ok (.lconst 0, 1) := by decide +kernel
theorem dX12_reckon_95 : decode cX12_reckon 95 = .ok (.lcmp, 1) := by decide +kernel
theorem dX12_reckon_96 : decode cX12_reckon 96 = .ok (.ifCond .ne 7, 3) := by decide +kernel
theorem dX12_reckon_99 : decode cX12_reckon 99 = .ok (.iconst 1, 1) := by decide +kernel
theorem dX12_reckon_100 : decode cX12_reckon 100 = .ok (.goto 4, 3) := by decide +kernel
theorem dX12_reckon_103 : decode cX12_reckon 103 = .ok (.iconst 0, 1) := by decide +kernel
theorem dX12_reckon_104 : decode cX12_reckon 104 = .ok (.putfield 403, 3) := by decide +kernel
theorem dX12_reckon_107 : decode cX12_reckon 107 = .ok (.aload_n 0, 1) := by decide +kernel
theorem dX12_reckon_108 : decode cX12_reckon 108 = .ok (.getfield 403, 3) := by decide +kernel
theorem dX12_reckon_111 : decode cX12_reckon 111 = .ok (.ifCond .eq 7, 3) := by decide +kernel
theorem dX12_reckon_114 : decode cX12_reckon 114 = .ok (.lconst 0, 1) := by decide +kernel
theorem dX12_reckon_115 : decode cX12_reckon 115 = .ok (.goto 7, 3) := by decide +kernel
theorem dX12_reckon_118 : decode cX12_reckon 118 = .ok (.lload_n 2, 1) := by decide +kernel
theorem dX12_reckon_119 : decode cX12_reckon 119 = .ok (.lload 4, 2) := by decide +kernel
theorem dX12_reckon_121 : decode cX12_reckon 121 = .ok (.lrem, 1) := by decide +kernel
theorem dX12_reckon_122 : decode cX12_reckon 122 = .ok (.lreturn, 1) := by decide +kernel
theorem dX12_reckon_123 : decode cX12_reckon 123 = .ok (.lload_n 2, 1) := by decide +kernel
theorem dX12_reckon_124 : decode cX12_reckon 124 = .ok (.lload 4, 2) := by decide +kernel
theorem dX12_reckon_126 : decode cX12_reckon 126 = .ok (.lcmp, 1) := by decide +kernel
theorem dX12_reckon_127 : decode cX12_reckon 127 = .ok (.ifCond .ge 7, 3) := by decide +kernel
theorem dX12_reckon_130 : decode cX12_reckon 130 = .ok (.lconst 1, 1) := by decide +kernel
theorem dX12_reckon_131 : decode cX12_reckon 131 = .ok (.goto 4, 3) := by decide +kernel
theorem dX12_reckon_134 : decode cX12_reckon 134 = .ok (.lconst 0, 1) := by decide +kernel
theorem dX12_reckon_135 : decode cX12_reckon 135 = .ok (.lreturn, 1) := by decide +kernel
theorem dX12_reckon_136 : decode cX12_reckon 136 = .ok (.lload_n 2, 1) := by decide +kernel
theorem dX12_reckon_137 : decode cX12_reckon 137 = .ok (.lload 4, 2) := by decide +kernel
theorem dX12_reckon_139 : decode cX12_reckon 139 = .ok (.lcmp, 1) := by decide +kernel
theorem dX12_reckon_140 : decode cX12_reckon 140 = .ok (.ifCond .le 7, 3) := by decide +kernel
theorem dX12_reckon_143 : decode cX12_reckon 143 = .ok (.lconst 1, 1) := by decide +kernel
theorem dX12_reckon_144 : decode cX12_reckon 144 = .ok (.goto 4, 3) := by decide +kernel
theorem dX12_reckon_147 : decode cX12_reckon 147 = .ok (.lconst 0, 1) := by decide +kernel
theorem dX12_reckon_148 : decode cX12_reckon 148 = .ok (.lreturn, 1) := by decide +kernel
theorem dX12_reckon_149 : decode cX12_reckon 149 = .ok (.lload_n 2, 1) := by decide +kernel
theorem dX12_reckon_150 : decode cX12_reckon 150 = .ok (.lload 4, 2) := by decide +kernel
theorem dX12_reckon_152 : decode cX12_reckon 152 = .ok (.lcmp, 1) := by decide +kernel
theorem dX12_reckon_153 : decode cX12_reckon 153 = .ok (.ifCond .ne 7, 3) := by decide +kernel
theorem dX12_reckon_156 : decode cX12_reckon 156 = .ok (.lconst 1, 1) := by decide +kernel
theorem dX12_reckon_157 : decode cX12_reckon 157 = .ok (.goto 4, 3) := by decide +kernel
theorem dX12_reckon_160 : decode cX12_reckon 160 = .ok (.lconst 0, 1) := by decide +kernel
theorem dX12_reckon_161 : decode cX12_reckon 161 = .ok (.lreturn, 1) := by decide +kernel
theorem dX12_reckonAll_0 : decode cX12_reckonAll 0 = .ok (.aload_n 0, 1) := by decide +kernel
theorem dX12_reckonAll_1 : decode cX12_reckonAll 1 = .ok (.iconst 0, 1) := by decide +kernel
theorem dX12_reckonAll_2 : decode cX12_reckonAll 2 = .ok (.putfield 403, 3) := by decide +kernel
theorem dX12_reckonAll_5 : decode cX12_reckonAll 5 = .ok (.iconst 0, 1) := by decide +kernel
theorem dX12_reckonAll_6 : decode cX12_reckonAll 6 = .ok (.istore_n 3, 1) := by decide +kernel
theorem dX12_reckonAll_7 : decode cX12_reckonAll 7 = .ok (.iload_n 1, 1) := by decide +kernel
theorem dX12_reckonAll_8 : decode cX12_reckonAll 8 = .ok (.istore 4, 2) := by decide +kernel
theorem dX12_reckonAll_10 : decode cX12_reckonAll 10 = .ok (.iload 4, 2) := by decide +kernel
theorem dX12_reckonAll_12 : decode cX12_reckonAll 12 = .ok (.iload_n 2, 1) := by decide +kernel
theorem dX12_reckonAll_13 : decode cX12_reckonAll 13 = .ok (.if_icmp .ge 368, 3) := by decide +kernel
theorem dX12_reckonAll_16 : decode cX12_reckonAll 16 = .ok (.aload_n 0, 1) := by decide +kernel
theorem dX12_reckonAll_17 : decode cX12_reckonAll 17 = .ok (.getfield 403, 3) := by decide +kernel
theorem dX12_reckonAll_20 : decode cX12_reckonAll 20 = .ok (.ifCond .ne 361, 3) := by decide +kernel
theorem dX12_reckonAll_23 : decode cX12_reckonAll 23 = .ok (.aload_n 0, 1) := by decide +kernel
theorem dX12_reckonAll_24 : decode cX12_reckonAll 24 = .ok (.getfield 332, 3) := by decide +kernel
theorem dX12_reckonAll_27 : decode cX12_reckonAll 27 = .ok (.ifCond .eq 13, 3) := by decide +kernel
theorem dX12_reckonAll_30 : decode cX12_reckonAll 30 = .ok (.aload_n 0, 1) := by decide +kernel
theorem dX12_reckonAll_31 : decode cX12_reckonAll 31 = .ok (.getfield 45, 3) := by decide +kernel
theorem dX12_reckonAll_34 : decode cX12_reckonAll 34 = .ok (.iload 4, 2) := by decide +kernel
theorem dX12_reckonAll_36 : decode cX12_reckonAll 36 = .ok (.iaload, 1) := by decide +kernel
theorem dX12_reckonAll_37 : decode cX12_reckonAll 37 = .ok (.goto 20, 3) := by decide +kernel
theorem dX12_reckonAll_40 : decode cX12_reckonAll 40 = .ok (.aload_n 0, 1) := by decide +kernel
theorem dX12_reckonAll_41 : decode cX12_reckonAll 41 = .ok (.getfield 13, 3) := by decide +kernel
theorem dX12_reckonAll_44 : decode cX12_reckonAll 44 = .ok (.aload_n 0, 1) := by decide +kernel
theorem dX12_reckonAll_45 : decode cX12_reckonAll 45 = .ok (.getfield 406, 3) := by decide +kernel
theorem dX12_reckonAll_48 : decode cX12_reckonAll 48 = .ok (.bipush 98, 2) := by decide +kernel
theorem dX12_reckonAll_50 : decode cX12_reckonAll 50 = .ok (.iadd, 1) := by decide +kernel
theorem dX12_reckonAll_51 : decode cX12_reckonAll 51 = .ok (.iconst 2, 1) := by decide +kernel
theorem dX12_reckonAll_52 : decode cX12_reckonAll 52 = .ok (.iload 4, 2) := by decide +kernel
theorem dX12_reckonAll_54 : decode cX12_reckonAll 54 = .ok (.imul, 1) := by decide +kernel
theorem dX12_reckonAll_55 : decode cX12_reckonAll 55 = .ok (.iadd, 1) := by decide +kernel
theorem dX12_reckonAll_56 : decode cX12_reckonAll 56 = .ok (.iaload, 1) := by decide +kernel
theorem dX12_reckonAll_57 : decode cX12_reckonAll 57 = .ok (.istore 5, 2) := by decide +kernel
theorem dX12_reckonAll_59 : decode cX12_reckonAll 59 = .ok (.aload_n 0, 1) := by decide +kernel
theorem dX12_reckonAll_60 : decode cX12_reckonAll 60 = .ok (.getfield 332, 3) := by decide +kernel
theorem dX12_reckonAll_63 : decode cX12_reckonAll 63 = .ok (.ifCond .eq 13, 3) := by decide +kernel
theorem dX12_reckonAll_66 : decode cX12_reckonAll 66 = .ok (.aload_n 0, 1) := by decide +kernel
theorem dX12_reckonAll_67 : decode cX12_reckonAll 67 = .ok (.getfield 48, 3) := by decide +kernel
theorem dX12_reckonAll_70 : decode cX12_reckonAll 70 = .ok (.iload 4, 2) := by decide +kernel
theorem dX12_reckonAll_72 : decode cX12_reckonAll 72 = .ok (.iaload, 1) := by decide +kernel
theorem dX12_reckonAll_73 : decode cX12_reckonAll 73 = .ok (.goto 22, 3) := by decide +kernel
theorem dX12_reckonAll_76 : decode cX12_reckonAll 76 = .ok (.aload_n 0, 1) := by decide +kernel
theorem dX12_reckonAll_77 : decode cX12_reckonAll 77 = .ok (.getfield 13, 3) := by decide +kernel
theorem dX12_reckonAll_80 : decode cX12_reckonAll 80 = .ok (.aload_n 0, 1) := by decide +kernel
theorem dX12_reckonAll_81 : decode cX12_reckonAll 81 = .ok (.getfield 406, 3) := by decide +kernel
theorem dX12_reckonAll_84 : decode cX12_reckonAll 84 = .ok (.bipush 98, 2) := by decide +kernel
theorem dX12_reckonAll_86 : decode cX12_reckonAll 86 = .ok (.iadd, 1) := by decide +kernel
theorem dX12_reckonAll_87 : decode cX12_reckonAll 87 = .ok (.iconst 2, 1) := by decide +kernel
theorem dX12_reckonAll_88 : decode cX12_reckonAll 88 = .ok (.iload 4, 2) := by decide +kernel
theorem dX12_reckonAll_90 : decode cX12_reckonAll 90 = .ok (.imul, 1) := by decide +kernel
theorem dX12_reckonAll_91 : decode cX12_reckonAll 91 = .ok (.iadd, 1) := by decide +kernel
theorem dX12_reckonAll_92 : decode cX12_reckonAll 92 = .ok (.iconst 1, 1) := by decide +kernel
theorem dX12_reckonAll_93 : decode cX12_reckonAll 93 = .ok (.iadd, 1) := by decide +kernel
theorem dX12_reckonAll_94 : decode cX12_reckonAll 94 = .ok (.iaload, 1) := by decide +kernel
theorem dX12_reckonAll_95 : decode cX12_reckonAll 95 = .ok (.istore 6, 2) := by decide +kernel
theorem dX12_reckonAll_97 : decode cX12_reckonAll 97 = .ok (.iinc 4 1, 3) := by decide +kernel
theorem dX12_reckonAll_100 : decode cX12_reckonAll 100 = .ok (.iload 5, 2) := by decide +kernel
theorem dX12_reckonAll_102 : decode cX12_reckonAll 102 = .ok (.bipush 20, 2) := by decide +kernel
theorem dX12_reckonAll_104 : decode cX12_reckonAll 104 = .ok (.if_icmp .ge 135, 3) := by decide +kernel
theorem dX12_reckonAll_107 : decode cX12_reckonAll 107 = .ok (.aload_n 0, 1) := by decide +kernel
theorem dX12_reckonAll_108 : decode cX12_reckonAll 108 = .ok (.getfield 107, 3) := by decide +kernel
theorem dX12_reckonAll_111 : decode cX12_reckonAll 111 = .ok (.iload_n 3, 1) := by decide +kernel
theorem dX12_reckonAll_112 : decode cX12_reckonAll 112 = .ok (.iload 5, 2) := by decide +kernel
theorem dX12_reckonAll_114 : decode cX12_reckonAll 114 = .ok (.ifCond .ne 9, 3) := by decide +kernel
theorem dX12_reckonAll_117 : decode cX12_reckonAll 117 = .ok (.iload 6, 2) := by decide +kernel
theorem dX12_reckonAll_119 : decode cX12_reckonAll 119 = .ok (.i2l, 1) := by decide +kernel
theorem dX12_reckonAll_120 : decode cX12_reckonAll 120 = .ok (.goto 112, 3) := by decide +kernel
theorem dX12_reckonAll_123 : decode cX12_reckonAll 123 = .ok (.aload_n 0, 1) := by decide +kernel
theorem dX12_reckonAll_124 : decode cX12_reckonAll 124 = .ok (.getfield 332, 3) := by decide +kernel
theorem dX12_reckonAll_127 : decode cX12_reckonAll 127 = .ok (.ifCond .ne 13, 3) := by decide +kernel
theorem dX12_reckonAll_130 : decode cX12_reckonAll 130 = .ok (.aload_n 0, 1) := by decide +kernel
theorem dX12_reckonAll_131 : decode cX12_reckonAll 131 = .ok (.getfield 101, 3) := by decide +kernel
theorem dX12_reckonAll_134 : decode cX12_reckonAll 134 = .ok (.iload 5, 2) := by decide +kernel
theorem dX12_reckonAll_136 : decode cX12_reckonAll 136 = .ok (.laload, 1) := by decide +kernel
theorem dX12_reckonAll_137 : decode cX12_reckonAll 137 = .ok (.goto 95, 3) := by decide +kernel
theorem dX12_reckonAll_140 : decode cX12_reckonAll 140 = .ok (.iload 5, 2) := by decide +kernel
theorem dX12_reckonAll_142 : decode cX12_reckonAll 142 = .ok (.iconst 5, 1) := by decide +kernel
theorem dX12_reckonAll_143 : decode cX12_reckonAll 143 = .ok (.if_icmp .ge 13, 3) := by decide +kernel
theorem dX12_reckonAll_146 : decode cX12_reckonAll 146 = .ok (.aload_n 0, 1) := by decide +kernel
theorem dX12_reckonAll_147 : decode cX12_reckonAll 147 = .ok (.getfield 104, 3) := by decide +kernel
theorem dX12_reckonAll_150 : decode cX12_reckonAll 150 = .ok (.iload 5, 2) := by decide +kernel
theorem dX12_reckonAll_152 : decode cX12_reckonAll 152 = .ok (.laload, 1) := by decide +kernel
theorem dX12_reckonAll_153 : decode cX12_reckonAll 153 = .ok (.goto 79, 3) := by decide +kernel
theorem dX12_reckonAll_156 : decode cX12_reckonAll 156 = .ok (.iload 5, 2) := by decide +kernel
theorem dX12_reckonAll_158 : decode cX12_reckonAll 158 = .ok (.bipush 7, 2) := by decide +kernel
theorem dX12_reckonAll_160 : decode cX12_reckonAll 160 = .ok (.if_icmp .ne 30, 3) := by decide +kernel
theorem dX12_reckonAll_163 : decode cX12_reckonAll 163 = .ok (.aload_n 0, 1) := by decide +kernel
theorem dX12_reckonAll_164 : decode cX12_reckonAll 164 = .ok (.iload 6, 2) := by decide +kernel
theorem dX12_reckonAll_166 : decode cX12_reckonAll 166 = .ok (.invokevirtual 208, 3) := by decide +kernel
theorem dX12_reckonAll_169 : decode cX12_reckonAll 169 = .ok (.ifCond .eq 16, 3) := by decide +kernel
theorem dX12_reckonAll_172 : decode cX12_reckonAll 172 = .ok (.aload_n 0, 1) := by decide +kernel
theorem dX12_reckonAll_173 : decode cX12_reckonAll 173 = .ok (.getfield 13, 3) := by decide +kernel
theorem dX12_reckonAll_176 : decode cX12_reckonAll 176 = .ok (.bipush 8, 2) := by decide +kernel
theorem dX12_reckonAll_178 : decode cX12_reckonAll 178 = .ok (.iload 6, 2) := by decide +kernel
theorem dX12_reckonAll_180 : decode cX12_reckonAll 180 = .ok (.iadd, 1) := by decide +kernel
theorem dX12_reckonAll_181 : decode cX12_reckonAll 181 = .ok (.iaload, 1) := by decide +kernel
theorem dX12_reckonAll_182 : decode cX12_reckonAll 182 = .ok (.goto 4, 3) := by decide +kernel
theorem dX12_reckonAll_185 : decode cX12_reckonAll 185 = .ok (.iconst (-1), 1) := by decide +kernel
theorem dX12_reckonAll_186 : decode cX12_reckonAll 186 = .ok (.i2l, 1) := by decide +kernel
theorem dX12_reckonAll_187 : decode cX12_reckonAll 187 = .ok (.goto 45, 3) := by decide +kernel
theorem dX12_reckonAll_190 : decode cX12_reckonAll 190 = .ok (.aload_n 0, 1) := by decide +kernel
theorem dX12_reckonAll_191 : decode cX12_reckonAll 191 = .ok (.iload 6, 2) := by decide +kernel
theorem dX12_reckonAll_193 : decode cX12_reckonAll 193 = .ok (.invokevirtual 223, 3) := by decide +kernel
theorem dX12_reckonAll_196 : decode cX12_reckonAll 196 = .ok (.ifCond .ne 9, 3) := by decide +kernel
theorem dX12_reckonAll_199 : decode cX12_reckonAll 199 = .ok (.ldc2_w 284, 3) := by decide +kernel
theorem dX12_reckonAll_202 : decode cX12_reckonAll 202 = .ok (.goto 30, 3) := by decide +kernel
theorem dX12_reckonAll_205 : decode cX12_reckonAll 205 = .ok (.iload 5, 2) := by decide +kernel
theorem dX12_reckonAll_207 : decode cX12_reckonAll 207 = .ok (.iconst 5, 1) := by decide +kernel
theorem dX12_reckonAll_208 : decode cX12_reckonAll 208 = .ok (.if_icmp .ne 17, 3) := by decide +kernel
theorem dX12_reckonAll_211 : decode cX12_reckonAll 211 = .ok (.aload_n 0, 1) := by decide +kernel
theorem dX12_reckonAll_212 : decode cX12_reckonAll 212 = .ok (.getfield 13, 3) := by decide +kernel
theorem dX12_reckonAll_215 : decode cX12_reckonAll 215 = .ok (.bipush 14, 2) := by decide +kernel
theorem dX12_reckonAll_217 : decode cX12_reckonAll 217 = .ok (.iload 6, 2) := by decide +kernel
theorem dX12_reckonAll_219 : decode cX12_reckonAll 219 = .ok (.iadd, 1) := by decide +kernel
theorem dX12_reckonAll_220 : decode cX12_reckonAll 220 = .ok (.iaload, 1) := by decide +kernel
theorem dX12_reckonAll_221 : decode cX12_reckonAll 221 = .ok (.i2l, 1) := by decide +kernel
theorem dX12_reckonAll_222 : decode cX12_reckonAll 222 = .ok (.goto 10, 3) := by decide +kernel
theorem dX12_reckonAll_225 : decode cX12_reckonAll 225 = .ok (.aload_n 0, 1) := by decide +kernel
theorem dX12_reckonAll_226 : decode cX12_reckonAll 226 = .ok (.iload 6, 2) := by decide +kernel
theorem dX12_reckonAll_228 : decode cX12_reckonAll 228 = .ok (.invokevirtual 409, 3) := by decide +kernel
theorem dX12_reckonAll_231 : decode cX12_reckonAll 231 = .ok (.i2l, 1) := by decide +kernel
theorem dX12_reckonAll_232 : decode cX12_reckonAll 232 = .ok (.lastore, 1) := by decide +kernel
theorem dX12_reckonAll_233 : decode cX12_reckonAll 233 = .ok (.iinc 3 1, 3) := by decide +kernel
theorem dX12_reckonAll_236 : decode cX12_reckonAll 236 = .ok (.goto 142, 3) := by decide +kernel
theorem dX12_reckonAll_239 : decode cX12_reckonAll 239 = .ok (.iload 5, 2) := by decide +kernel
theorem dX12_reckonAll_241 : decode cX12_reckonAll 241 = .ok (.bipush 28, 2) := by decide +kernel
theorem dX12_reckonAll_243 : decode cX12_reckonAll 243 = .ok (.if_icmp .ge 73, 3) := by decide +kernel
theorem dX12_reckonAll_246 : decode cX12_reckonAll 246 = .ok (.iinc 3 (-1), 3) := by decide +kernel
theorem dX12_reckonAll_249 : decode cX12_reckonAll 249 = .ok (.aload_n 0, 1) := by decide +kernel
theorem dX12_reckonAll_250 : decode cX12_reckonAll 250 = .ok (.getfield 107, 3) := by decide +kernel
theorem dX12_reckonAll_253 : decode cX12_reckonAll 253 = .ok (.iload_n 3, 1) := by decide +kernel
theorem dX12_reckonAll_254 : decode cX12_reckonAll 254 = .ok (.iconst 1, 1) := by decide +kernel
theorem dX12_reckonAll_255 : decode cX12_reckonAll 255 = .ok (.isub, 1) := by decide +kernel
theorem dX12_reckonAll_256 : decode cX12_reckonAll 256 = .ok (.aload_n 0, 1) := by decide +kernel
theorem dX12_reckonAll_257 : decode cX12_reckonAll 257 = .ok (.iload 5, 2) := by decide +kernel
theorem dX12_reckonAll_259 : decode cX12_reckonAll 259 = .ok (.aload_n 0, 1) := by decide +kernel
theorem dX12_reckonAll_260 : decode cX12_reckonAll 260 = .ok (.getfield 107, 3) := by decide +kernel
theorem dX12_reckonAll_263 : decode cX12_reckonAll 263 = .ok (.iload_n 3, 1) := by decide +kernel
theorem dX12_reckonAll_264 : decode cX12_reckonAll 264 = .ok (.iconst 1, 1) := by decide +kernel
theorem dX12_reckonAll_265 : decode cX12_reckonAll 265 = .ok (.isub, 1) := by decide +kernel
theorem dX12_reckonAll_266 : decode cX12_reckonAll 266 = .ok (.laload, 1) := by decide +kernel
theorem dX12_reckonAll_267 : decode cX12_reckonAll 267 = .ok (.aload_n 0, 1) := by decide +kernel
theorem dX12_reckonAll_268 : decode cX12_reckonAll 268 = .ok (.getfield 107, 3) := by decide +kernel
theorem dX12_reckonAll_271 : decode cX12_reckonAll 271 = .ok (.iload_n 3, 1) := by decide +kernel
theorem dX12_reckonAll_272 : decode cX12_reckonAll 272 = .ok (.laload, 1) := by decide +kernel
theorem dX12_reckonAll_273 : decode cX12_reckonAll 273 = .ok (.invokevirtual 412, 3) := by decide +kernel
theorem dX12_reckonAll_276 : decode cX12_reckonAll 276 = .ok (.lastore, 1) := by decide +kernel
theorem dX12_reckonAll_277 : decode cX12_reckonAll 277 = .ok (.aload_n 0, 1) := by decide +kernel
theorem dX12_reckonAll_278 : decode cX12_reckonAll 278 = .ok (.aload_n 0, 1) := by decide +kernel
theorem dX12_reckonAll_279 : decode cX12_reckonAll 279 = .ok (.getfield 403, 3) := by decide +kernel
theorem dX12_reckonAll_282 : decode cX12_reckonAll 282 = .ok (.ifCond .ne 23, 3) := by decide +kernel
theorem dX12_reckonAll_285 : decode cX12_reckonAll 285 = .ok (.aload_n 0, 1) := by decide +kernel
theorem dX12_reckonAll_286 : decode cX12_reckonAll 286 = .ok (.getfield 107, 3) := by decide +kernel
theorem dX12_reckonAll_289 : decode cX12_reckonAll 289 = .ok (.iload_n 3, 1) := by decide +kernel
theorem dX12_reckonAll_290 : decode cX12_reckonAll 290 = .ok (.iconst 1, 1) := by decide +kernel
theorem dX12_reckonAll_291 : decode cX12_reckonAll 291 = .ok (.isub, 1) := by decide +kernel
theorem dX12_reckonAll_292 : decode cX12_reckonAll 292 = .ok (.laload, 1) := by decide +kernel
theorem dX12_reckonAll_293 : decode cX12_reckonAll 293 = .ok (.ldc2_w 416, 3) := by decide +kernel
theorem dX12_reckonAll_296 : decode cX12_reckonAll 296 = .ok (.ldc2_w 418, 3) := by decide +kernel
theorem dX12_reckonAll_299 : decode cX12_reckonAll 299 = .ok (.invokestatic 183, 3) := by decide +kernel
theorem dX12_reckonAll_302 : decode cX12_reckonAll 302 = .ok (.ifCond .ne 7, 3) := by decide +kernel
theorem dX12_reckonAll_305 : decode cX12_reckonAll 305 = .ok (.iconst 1, 1) := by decide +kernel
theorem dX12_reckonAll_306 : decode cX12_reckonAll 306 = .ok (.goto 4, 3) := by decide +kernel
theorem dX12_reckonAll_309 : decode cX12_reckonAll 309 = .ok (.iconst 0, 1) := by decide +kernel
theorem dX12_reckonAll_310 : decode cX12_reckonAll 310 = .ok (.putfield 403, 3) := by decide +kernel
theorem dX12_reckonAll_313 : decode cX12_reckonAll 313 = .ok (.goto 65, 3) := by decide +kernel
theorem dX12_reckonAll_316 : decode cX12_reckonAll 316 = .ok (.iload 5, 2) := by decide +kernel
theorem dX12_reckonAll_318 : decode cX12_reckonAll 318 = .ok (.bipush 28, 2) := by decide +kernel
theorem dX12_reckonAll_320 : decode cX12_reckonAll 320 = .ok (.if_icmp .ne 24, 3) := by decide +kernel
theorem dX12_reckonAll_323 : decode cX12_reckonAll 323 = .ok (.aload_n 0, 1) := by decide +kernel
theorem dX12_reckonAll_324 : decode cX12_reckonAll 324 = .ok (.getfield 107, 3) := by decide +kernel
theorem dX12_reckonAll_327 : decode cX12_reckonAll 327 = .ok (.iload_n 3, 1) := by decide +kernel
theorem dX12_reckonAll_328 : decode cX12_reckonAll 328 = .ok (.iconst 1, 1) := by decide +kernel
theorem dX12_reckonAll_329 : decode cX12_reckonAll 329 = .ok (.isub, 1) := by decide +kernel
theorem dX12_reckonAll_330 : decode cX12_reckonAll 330 = .ok (.lconst 1, 1) := by decide +kernel
theorem dX12_reckonAll_331 : decode cX12_reckonAll 331 = .ok (.aload_n 0, 1) := by decide +kernel
theorem dX12_reckonAll_332 : decode cX12_reckonAll 332 = .ok (.getfield 107, 3) := by decide +kernel
theorem dX12_reckonAll_335 : decode cX12_reckonAll 335 = .ok (.iload_n 3, 1) := by decide +kernel
theorem dX12_reckonAll_336 : decode cX12_reckonAll 336 = .ok (.iconst 1, 1) := by decide +kernel
theorem dX12_reckonAll_337 : decode cX12_reckonAll 337 = .ok (.isub, 1) := by decide +kernel
theorem dX12_reckonAll_338 : decode cX12_reckonAll 338 = .ok (.laload, 1) := by decide +kernel
theorem dX12_reckonAll_339 : decode cX12_reckonAll 339 = .ok (.lsub, 1) := by decide +kernel
theorem dX12_reckonAll_340 : decode cX12_reckonAll 340 = .ok (.lastore, 1) := by decide +kernel
theorem dX12_reckonAll_341 : decode cX12_reckonAll 341 = .ok (.goto 37, 3) := by decide +kernel
theorem dX12_reckonAll_344 : decode cX12_reckonAll 344 = .ok (.aload_n 0, 1) := by decide +kernel
theorem dX12_reckonAll_345 : decode cX12_reckonAll 345 = .ok (.getfield 107, 3) := by decide +kernel
theorem dX12_reckonAll_348 : decode cX12_reckonAll 348 = .ok (.iload_n 3, 1) := by decide +kernel
theorem dX12_reckonAll_349 : decode cX12_reckonAll 349 = .ok (.iconst 1, 1) := by decide +kernel
theorem dX12_reckonAll_350 : decode cX12_reckonAll 350 = .ok (.isub, 1) := by decide +kernel
theorem dX12_reckonAll_351 : decode cX12_reckonAll 351 = .ok (.laload, 1) := by decide +kernel
theorem dX12_reckonAll_352 : decode cX12_reckonAll 352 = .ok (.iload 5, 2) := by decide +kernel
theorem dX12_reckonAll_354 : decode cX12_reckonAll 354 = .ok (.bipush 29, 2) := by decide +kernel
theorem dX12_reckonAll_356 : decode cX12_reckonAll 356 = .ok (.if_icmp .ne 7, 3) := by decide +kernel
theorem dX12_reckonAll_359 : decode cX12_reckonAll 359 = .ok (.lconst 0, 1) := by decide +kernel
theorem dX12_reckonAll_360 : decode cX12_reckonAll 360 = .ok (.goto 4, 3) := by decide +kernel
theorem dX12_reckonAll_363 : decode cX12_reckonAll 363 = .ok (.lconst 1, 1) := by decide +kernel
theorem dX12_reckonAll_364 : decode cX12_reckonAll 364 = .ok (.lcmp, 1) := by decide +kernel
theorem dX12_reckonAll_365 : decode cX12_reckonAll 365 = .ok (.ifCond .ne 10, 3) := by decide +kernel
theorem dX12_reckonAll_368 : decode cX12_reckonAll 368 = .ok (.iload 6, 2) := by decide +kernel
theorem dX12_reckonAll_370 : decode cX12_reckonAll 370 = .ok (.istore 4, 2) := by decide +kernel
theorem dX12_reckonAll_372 : decode cX12_reckonAll 372 = .ok (.goto 6, 3) := by decide +kernel
theorem dX12_reckonAll_375 : decode cX12_reckonAll 375 = .ok (.iinc 3 (-1), 3) := by decide +kernel
theorem dX12_reckonAll_378 : decode cX12_reckonAll 378 = .ok (.goto (-368), 3) := by decide +kernel
theorem dX12_reckonAll_381 : decode cX12_reckonAll 381 = .ok (.aload_n 0, 1) := by decide +kernel
theorem dX12_reckonAll_382 : decode cX12_reckonAll 382 = .ok (.iload_n 3, 1) := by decide +kernel
theorem dX12_reckonAll_383 : decode cX12_reckonAll 383 = .ok (.ifCond .le 12, 3) := by decide +kernel
theorem dX12_reckonAll_386 : decode cX12_reckonAll 386 = .ok (.aload_n 0, 1) := by decide +kernel
theorem dX12_reckonAll_387 : decode cX12_reckonAll 387 = .ok (.getfield 107, 3) := by decide +kernel
theorem dX12_reckonAll_390 : decode cX12_reckonAll 390 = .ok (.iconst 0, 1) := by decide +kernel
theorem dX12_reckonAll_391 : decode cX12_reckonAll 391 = .ok (.laload, 1) := by decide +kernel
theorem dX12_reckonAll_392 : decode cX12_reckonAll 392 = .ok (.goto 4, 3) := by decide +kernel
theorem dX12_reckonAll_395 : decode cX12_reckonAll 395 = .ok (.lconst 0, 1) := by decide +kernel
theorem dX12_reckonAll_396 : decode cX12_reckonAll 396 = .ok (.putfield 420, 3) := by decide +kernel
theorem dX12_reckonAll_399 : decode cX12_reckonAll 399 = .ok (.return_, 1) := by decide +kernel
theorem dX12_isSo_0 : decode cX12_isSo 0 = .ok (.aload_n 0, 1) := by decide +kernel
theorem dX12_isSo_1 : decode cX12_isSo 1 = .ok (.getfield 13, 3) := by decide +kernel
theorem dX12_isSo_4 : decode cX12_isSo 4 = .ok (.iload_n 1, 1) := by decide +kernel
theorem dX12_isSo_5 : decode cX12_isSo 5 = .ok (.iconst 5, 1) := by decide +kernel
theorem dX12_isSo_6 : decode cX12_isSo 6 = .ok (.iadd, 1) := by decide +kernel
theorem dX12_isSo_7 : decode cX12_isSo 7 = .ok (.iaload, 1) := by decide +kernel
theorem dX12_isSo_8 : decode cX12_isSo 8 = .ok (.aload_n 0, 1) := by decide +kernel
theorem dX12_isSo_9 : decode cX12_isSo 9 = .ok (.getfield 13, 3) := by decide +kernel
theorem dX12_isSo_12 : decode cX12_isSo 12 = .ok (.iload_n 1, 1) := by decide +kernel
theorem dX12_isSo_13 : decode cX12_isSo 13 = .ok (.bipush 6, 2) := by decide +kernel
theorem dX12_isSo_15 : decode cX12_isSo 15 = .ok (.iadd, 1) := by decide +kernel
theorem dX12_isSo_16 : decode cX12_isSo 16 = .ok (.iaload, 1) := by decide +kernel
theorem dX12_isSo_17 : decode cX12_isSo 17 = .ok (.if_icmp .ge 42, 3) := by decide +kernel
theorem dX12_isSo_20 : decode cX12_isSo 20 = .ok (.aload_n 0, 1) := by decide +kernel
theorem dX12_isSo_21 : decode cX12_isSo 21 = .ok (.aload_n 0, 1) := by decide +kernel
theorem dX12_isSo_22 : decode cX12_isSo 22 = .ok (.getfield 13, 3) := by decide +kernel
theorem dX12_isSo_25 : decode cX12_isSo 25 = .ok (.iload_n 1, 1) := by decide +kernel
theorem dX12_isSo_26 : decode cX12_isSo 26 = .ok (.iconst 5, 1) := by decide +kernel
theorem dX12_isSo_27 : decode cX12_isSo 27 = .ok (.iadd, 1) := by decide +kernel
theorem dX12_isSo_28 : decode cX12_isSo 28 = .ok (.iaload, 1) := by decide +kernel
theorem dX12_isSo_29 : decode cX12_isSo 29 = .ok (.aload_n 0, 1) := by decide +kernel
theorem dX12_isSo_30 : decode cX12_isSo 30 = .ok (.getfield 13, 3) := by decide +kernel
theorem dX12_isSo_33 : decode cX12_isSo 33 = .ok (.iload_n 1, 1) := by decide +kernel
theorem dX12_isSo_34 : decode cX12_isSo 34 = .ok (.bipush 6, 2) := by decide +kernel
theorem dX12_isSo_36 : decode cX12_isSo 36 = .ok (.iadd, 1) := by decide +kernel
theorem dX12_isSo_37 : decode cX12_isSo 37 = .ok (.iaload, 1) := by decide +kernel
theorem dX12_isSo_38 : decode cX12_isSo 38 = .ok (.invokevirtual 423, 3) := by decide +kernel
theorem dX12_isSo_41 : decode cX12_isSo 41 = .ok (.aload_n 0, 1) := by decide +kernel
theorem dX12_isSo_42 : decode cX12_isSo 42 = .ok (.getfield 403, 3) := by decide +kernel
theorem dX12_isSo_45 : decode cX12_isSo 45 = .ok (.ifCond .ne 12, 3) := by decide +kernel
theorem dX12_isSo_48 : decode cX12_isSo 48 = .ok (.aload_n 0, 1) := by decide +kernel
theorem dX12_isSo_49 : decode cX12_isSo 49 = .ok (.getfield 420, 3) := by decide +kernel
theorem dX12_isSo_52 : decode cX12_isSo 52 = .ok (.lconst 0, 1) := by decide +kernel
theorem dX12_isSo_53 : decode cX12_isSo 53 = .ok (.lcmp, 1) := by decide +kernel
theorem dX12_isSo_54 : decode cX12_isSo 54 = .ok (.ifCond .ne 5, 3) := by decide +kernel
theorem dX12_isSo_57 : decode cX12_isSo 57 = .ok (.iconst 0, 1) := by decide +kernel
theorem dX12_isSo_58 : decode cX12_isSo 58 = .ok (.ireturn, 1) := by decide +kernel
theorem dX12_isSo_59 : decode cX12_isSo 59 = .ok (.aload_n 0, 1) := by decide +kernel
theorem dX12_isSo_60 : decode cX12_isSo 60 = .ok (.getfield 13, 3) := by decide +kernel
theorem dX12_isSo_63 : decode cX12_isSo 63 = .ok (.iload_n 1, 1) := by decide +kernel
theorem dX12_isSo_64 : decode cX12_isSo 64 = .ok (.iaload, 1) := by decide +kernel
theorem dX12_isSo_65 : decode cX12_isSo 65 = .ok (.iconst 3, 1) := by decide +kernel
theorem dX12_isSo_66 : decode cX12_isSo 66 = .ok (.if_icmp .ge 44, 3) := by decide +kernel
theorem dX12_isSo_69 : decode cX12_isSo 69 = .ok (.aload_n 0, 1) := by decide +kernel
theorem dX12_isSo_70 : decode cX12_isSo 70 = .ok (.aload_n 0, 1) := by decide +kernel
theorem dX12_isSo_71 : decode cX12_isSo 71 = .ok (.getfield 13, 3) := by decide +kernel
theorem dX12_isSo_74 : decode cX12_isSo 74 = .ok (.iload_n 1, 1) := by decide +kernel
theorem dX12_isSo_75 : decode cX12_isSo 75 = .ok (.iconst 3, 1) := by decide +kernel
theorem dX12_isSo_76 : decode cX12_isSo 76 = .ok (.iadd, 1) := by decide +kernel
theorem dX12_isSo_77 : decode cX12_isSo 77 = .ok (.iaload, 1) := by decide +kernel
theorem dX12_isSo_78 : decode cX12_isSo 78 = .ok (.aload_n 0, 1) := by decide +kernel
theorem dX12_isSo_79 : decode cX12_isSo 79 = .ok (.getfield 13, 3) := by decide +kernel
theorem dX12_isSo_82 : decode cX12_isSo 82 = .ok (.iload_n 1, 1) := by decide +kernel
theorem dX12_isSo_83 : decode cX12_isSo 83 = .ok (.iconst 4, 1) := by decide +kernel
theorem dX12_isSo_84 : decode cX12_isSo 84 = .ok (.iadd, 1) := by decide +kernel
theorem dX12_isSo_85 : decode cX12_isSo 85 = .ok (.iaload, 1) := by decide +kernel
theorem dX12_isSo_86 : decode cX12_isSo 86 = .ok (.invokevirtual 423, 3) := by decide +kernel
theorem dX12_isSo_89 : decode cX12_isSo 89 = .ok (.aload_n 0, 1) := by decide +kernel
theorem dX12_isSo_90 : decode cX12_isSo 90 = .ok (.aload_n 0, 1) := by decide +kernel
theorem dX12_isSo_91 : decode cX12_isSo 91 = .ok (.getfield 420, 3) := by decide +kernel
theorem dX12_isSo_94 : decode cX12_isSo 94 = .ok (.putfield 426, 3) := by decide +kernel
theorem dX12_isSo_97 : decode cX12_isSo 97 = .ok (.aload_n 0, 1) := by decide +kernel
theorem dX12_isSo_98 : decode cX12_isSo 98 = .ok (.getfield 403, 3) := by decide +kernel
theorem dX12_isSo_101 : decode cX12_isSo 101 = .ok (.ifCond .ne 7, 3) := by decide +kernel
theorem dX12_isSo_104 : decode cX12_isSo 104 = .ok (.iconst 1, 1) := by decide +kernel
theorem dX12_isSo_105 : decode cX12_isSo 105 = .ok (.goto 4, 3) := by decide +kernel
theorem dX12_isSo_108 : decode cX12_isSo 108 = .ok (.iconst 0, 1) := by decide +kernel
theorem dX12_isSo_109 : decode cX12_isSo 109 = .ok (.ireturn, 1) := by decide +kernel
theorem dX12_isSo_110 : decode cX12_isSo 110 = .ok (.iconst 1, 1) := by decide +kernel
theorem dX12_isSo_111 : decode cX12_isSo 111 = .ok (.ireturn, 1) := by decide +kernel
theorem dX12_tells_0 : decode cX12_tells 0 = .ok (.aload_n 0, 1) := by decide +kernel
theorem dX12_tells_1 : decode cX12_tells 1 = .ok (.getfield 13, 3) := by decide +kernel
theorem dX12_tells_4 : decode cX12_tells 4 = .ok (.iconst 4, 1) := by decide +kernel
theorem dX12_tells_5 : decode cX12_tells 5 = .ok (.iaload, 1) := by decide +kernel
theorem dX12_tells_6 : decode cX12_tells 6 = .ok (.iconst (-1), 1) := by decide +kernel
theorem dX12_tells_7 : decode cX12_tells 7 = .ok (.if_icmp .ne 6, 3) := by decide +kernel
theorem dX12_tells_10 : decode cX12_tells 10 = .ok (.lload 6, 2) := by decide +kernel
theorem dX12_tells_12 : decode cX12_tells 12 = .ok (.lreturn, 1) := by decide +kernel
theorem dX12_tells_13 : decode cX12_tells 13 = .ok (.aload_n 0, 1) := by decide +kernel
theorem dX12_tells_14 : decode cX12_tells 14 = .ok (.sipush 185, 3) := by decide +kernel
theorem dX12_tells_17 : decode cX12_tells 17 = .ok (.sipush 900, 3) := by decide +kernel
theorem dX12_tells_20 : decode cX12_tells 20 = .ok (.aload_n 0, 1) := by decide +kernel
theorem dX12_tells_21 : decode cX12_tells 21 = .ok (.getfield 13, 3) := by decide +kernel
theorem dX12_tells_24 : decode cX12_tells 24 = .ok (.iconst 4, 1) := by decide +kernel
theorem dX12_tells_25 : decode cX12_tells 25 = .ok (.iaload, 1) := by decide +kernel
theorem dX12_tells_26 : decode cX12_tells 26 = .ok (.imul, 1) := by decide +kernel
theorem dX12_tells_27 : decode cX12_tells 27 = .ok (.iadd, 1) := by decide +kernel
theorem dX12_tells_28 : decode cX12_tells 28 = .ok (.putfield 406, 3) := by decide +kernel
theorem dX12_tells_31 : decode cX12_tells 31 = .ok (.aload_n 0, 1) := by decide +kernel
theorem dX12_tells_32 : decode cX12_tells 32 = .ok (.getfield 101, 3) := by decide +kernel
theorem dX12_tells_35 : decode cX12_tells 35 = .ok (.iconst 1, 1) := by decide +kernel
theorem dX12_tells_36 : decode cX12_tells 36 = .ok (.iload_n 2, 1) := by decide +kernel
theorem dX12_tells_37 : decode cX12_tells 37 = .ok (.i2l, 1) := by decide +kernel
theorem dX12_tells_38 : decode cX12_tells 38 = .ok (.lastore, 1) := by decide +kernel
theorem dX12_tells_39 : decode cX12_tells 39 = .ok (.aload_n 0, 1) := by decide +kernel
theorem dX12_tells_40 : decode cX12_tells 40 = .ok (.getfield 101, 3) := by decide +kernel
theorem dX12_tells_43 : decode cX12_tells 43 = .ok (.iconst 2, 1) := by decide +kernel
theorem dX12_tells_44 : decode cX12_tells 44 = .ok (.iload_n 2, 1) := by decide +kernel
theorem dX12_tells_45 : decode cX12_tells 45 = .ok (.iconst (-1), 1) := by decide +kernel
theorem dX12_tells_46 : decode cX12_tells 46 = .ok (.if_icmp .ne 9, 3) := by decide +kernel
theorem dX12_tells_49 : decode cX12_tells 49 = .ok (.ldc2_w 284, 3) := by decide +kernel
theorem dX12_tells_52 : decode cX12_tells 52 = .ok (.goto 14, 3) := by decide +kernel
theorem dX12_tells_55 : decode cX12_tells 55 = .ok (.aload_n 0, 1) := by decide +kernel
theorem dX12_tells_56 : decode cX12_tells 56 = .ok (.getfield 13, 3) := by decide +kernel
theorem dX12_tells_59 : decode cX12_tells 59 = .ok (.sipush 146, 3) := by decide +kernel
theorem dX12_tells_62 : decode cX12_tells 62 = .ok (.iload_n 2, 1) := by decide +kernel
theorem dX12_tells_63 : decode cX12_tells 63 = .ok (.iadd, 1) := by decide +kernel
theorem dX12_tells_64 : decode cX12_tells 64 = .ok (.iaload, 1) := by decide +kernel
theorem dX12_tells_65 : decode cX12_tells 65 = .ok (.i2l, 1) := by decide +kernel
theorem dX12_tells_66 : decode cX12_tells 66 = .ok (.lastore, 1) := by decide +kernel
theorem dX12_tells_67 : decode cX12_tells 67 = .ok (.aload_n 0, 1) := by decide +kernel
theorem dX12_tells_68 : decode cX12_tells 68 = .ok (.getfield 101, 3) := by decide +kernel
theorem dX12_tells_71 : decode cX12_tells 71 = .ok (.iconst 3, 1) := by decide +kernel
theorem dX12_tells_72 : decode cX12_tells 72 = .ok (.iload_n 2, 1) := by decide +kernel
theorem dX12_tells_73 : decode cX12_tells 73 = .ok (.iconst (-1), 1) := by decide +kernel
theorem dX12_tells_74 : decode cX12_tells 74 = .ok (.if_icmp .ne 9, 3) := by decide +kernel
theorem dX12_tells_77 : decode cX12_tells 77 = .ok (.ldc2_w 284, 3) := by decide +kernel
theorem dX12_tells_80 : decode cX12_tells 80 = .ok (.goto 13, 3) := by decide +kernel
theorem dX12_tells_83 : decode cX12_tells 83 = .ok (.aload_n 0, 1) := by decide +kernel
theorem dX12_tells_84 : decode cX12_tells 84 = .ok (.getfield 13, 3) := by decide +kernel
theorem dX12_tells_87 : decode cX12_tells 87 = .ok (.bipush 14, 2) := by decide +kernel
theorem dX12_tells_89 : decode cX12_tells 89 = .ok (.iload_n 2, 1) := by decide +kernel
theorem dX12_tells_90 : decode cX12_tells 90 = .ok (.iadd, 1) := by decide +kernel
theorem dX12_tells_91 : decode cX12_tells 91 = .ok (.iaload, 1) := by decide +kernel
theorem dX12_tells_92 : decode cX12_tells 92 = .ok (.i2l, 1) := by decide +kernel
theorem dX12_tells_93 : decode cX12_tells 93 = .ok (.lastore, 1) := by decide +kernel
theorem dX12_tells_94 : decode cX12_tells 94 = .ok (.aload_n 0, 1) := by decide +kernel
theorem dX12_tells_95 : decode cX12_tells 95 = .ok (.getfield 101, 3) := by decide +kernel
theorem dX12_tells_98 : decode cX12_tells 98 = .ok (.iconst 4, 1) := by decide +kernel
theorem dX12_tells_99 : decode cX12_tells 99 = .ok (.iload_n 3, 1) := by decide +kernel
theorem dX12_tells_100 : decode cX12_tells 100 = .ok (.i2l, 1) := by decide +kernel
theorem dX12_tells_101 : decode cX12_tells 101 = .ok (.lastore, 1) := by decide +kernel
theorem dX12_tells_102 : decode cX12_tells 102 = .ok (.aload_n 0, 1) := by decide +kernel
theorem dX12_tells_103 : decode cX12_tells 103 = .ok (.getfield 101, 3) := by decide +kernel
theorem dX12_tells_106 : decode cX12_tells 106 = .ok (.iconst 5, 1) := by decide +kernel
theorem dX12_tells_107 : decode cX12_tells 107 = .ok (.aload_n 0, 1) := by decide +kernel
theorem dX12_tells_108 : decode cX12_tells 108 = .ok (.getfield 13, 3) := by decide +kernel
theorem dX12_tells_111 : decode cX12_tells 111 = .ok (.bipush 8, 2) := by decide +kernel
theorem dX12_tells_113 : decode cX12_tells 113 = .ok (.iload_n 3, 1) := by decide +kernel
theorem dX12_tells_114 : decode cX12_tells 114 = .ok (.iadd, 1) := by decide +kernel
theorem dX12_tells_115 : decode cX12_tells 115 = .ok (.iaload, 1) := by decide +kernel
theorem dX12_tells_116 : decode cX12_tells 116 = .ok (.i2l, 1) := by decide +kernel
theorem dX12_tells_117 : decode cX12_tells 117 = .ok (.lastore, 1) := by decide +kernel
theorem dX12_tells_118 : decode cX12_tells 118 = .ok (.aload_n 0, 1) := by decide +kernel
theorem dX12_tells_119 : decode cX12_tells 119 = .ok (.getfield 101, 3) := by decide +kernel
theorem dX12_tells_122 : decode cX12_tells 122 = .ok (.bipush 6, 2) := by decide +kernel
theorem dX12_tells_124 : decode cX12_tells 124 = .ok (.iload_n 2, 1) := by decide +kernel
theorem dX12_tells_125 : decode cX12_tells 125 = .ok (.iconst (-1), 1) := by decide +kernel
theorem dX12_tells_126 : decode cX12_tells 126 = .ok (.if_icmp .ne 9, 3) := by decide +kernel
theorem dX12_tells_129 : decode cX12_tells 129 = .ok (.ldc2_w 284, 3) := by decide +kernel
theorem dX12_tells_132 : decode cX12_tells 132 = .ok (.goto 10, 3) := by decide +kernel
theorem dX12_tells_135 : decode cX12_tells 135 = .ok (.aload_n 0, 1) := by decide +kernel
theorem dX12_tells_136 : decode cX12_tells 136 = .ok (.iload_n 2, 1) := by decide +kernel
theorem dX12_tells_137 : decode cX12_tells 137 = .ok (.iload_n 3, 1) := by decide +kernel
theorem dX12_tells_138 : decode cX12_tells 138 = .ok (.invokevirtual 200, 3) := by decide +kernel
theorem dX12_tells_141 : decode cX12_tells 141 = .ok (.i2l, 1) := by decide +kernel
theorem dX12_tells_142 : decode cX12_tells 142 = .ok (.lastore, 1) := by decide +kernel
theorem dX12_tells_143 : decode cX12_tells 143 = .ok (.aload_n 0, 1) := by decide +kernel
theorem dX12_tells_144 : decode cX12_tells 144 = .ok (.getfield 101, 3) := by decide +kernel
theorem dX12_tells_147 : decode cX12_tells 147 = .ok (.bipush 7, 2) := by decide +kernel
theorem dX12_tells_149 : decode cX12_tells 149 = .ok (.iload 4, 2) := by decide +kernel
theorem dX12_tells_151 : decode cX12_tells 151 = .ok (.i2l, 1) := by decide +kernel
theorem dX12_tells_152 : decode cX12_tells 152 = .ok (.lastore, 1) := by decide +kernel
theorem dX12_tells_153 : decode cX12_tells 153 = .ok (.aload_n 0, 1) := by decide +kernel
theorem dX12_tells_154 : decode cX12_tells 154 = .ok (.getfield 101, 3) := by decide +kernel
theorem dX12_tells_157 : decode cX12_tells 157 = .ok (.bipush 8, 2) := by decide +kernel
theorem dX12_tells_159 : decode cX12_tells 159 = .ok (.iload 5, 2) := by decide +kernel
theorem dX12_tells_161 : decode cX12_tells 161 = .ok (.i2l, 1) := by decide +kernel
theorem dX12_tells_162 : decode cX12_tells 162 = .ok (.lastore, 1) := by decide +kernel
theorem dX12_tells_163 : decode cX12_tells 163 = .ok (.aload_n 0, 1) := by decide +kernel
theorem dX12_tells_164 : decode cX12_tells 164 = .ok (.getfield 101, 3) := by decide +kernel
theorem dX12_tells_167 : decode cX12_tells 167 = .ok (.bipush 9, 2) := by decide +kernel
theorem dX12_tells_169 : decode cX12_tells 169 = .ok (.aload_n 0, 1) := by decide +kernel
theorem dX12_tells_170 : decode cX12_tells 170 = .ok (.getfield 13, 3) := by decide +kernel
theorem dX12_tells_173 : decode cX12_tells 173 = .ok (.bipush 7, 2) := by decide +kernel
theorem dX12_tells_175 : decode cX12_tells 175 = .ok (.iaload, 1) := by decide +kernel
theorem dX12_tells_176 : decode cX12_tells 176 = .ok (.i2l, 1) := by decide +kernel
theorem dX12_tells_177 : decode cX12_tells 177 = .ok (.lastore, 1) := by decide +kernel
theorem dX12_tells_178 : decode cX12_tells 178 = .ok (.lload 6, 2) := by decide +kernel
theorem dX12_tells_180 : decode cX12_tells 180 = .ok (.lstore 8, 2) := by decide +kernel
theorem dX12_tells_182 : decode cX12_tells 182 = .ok (.iconst 0, 1) := by decide +kernel
theorem dX12_tells_183 : decode cX12_tells 183 = .ok (.istore 10, 2) := by decide +kernel
theorem dX12_tells_185 : decode cX12_tells 185 = .ok (.iload 10, 2) := by decide +kernel
theorem dX12_tells_187 : decode cX12_tells 187 = .ok (.aload_n 0, 1) := by decide +kernel
theorem dX12_tells_188 : decode cX12_tells 188 = .ok (.getfield 13, 3) := by decide +kernel
theorem dX12_tells_191 : decode cX12_tells 191 = .ok (.aload_n 0, 1) := by decide +kernel
theorem dX12_tells_192 : decode cX12_tells 192 = .ok (.getfield 406, 3) := by decide +kernel
theorem dX12_tells_195 : decode cX12_tells 195 = .ok (.iconst 1, 1) := by decide +kernel
theorem dX12_tells_196 : decode cX12_tells 196 = .ok (.iadd, 1) := by decide +kernel
theorem dX12_tells_197 : decode cX12_tells 197 = .ok (.iaload, 1) := by decide +kernel
theorem dX12_tells_198 : decode cX12_tells 198 = .ok (.if_icmp .ge 58, 3) := by decide +kernel
theorem dX12_tells_201 : decode cX12_tells 201 = .ok (.aload_n 0, 1) := by decide +kernel
theorem dX12_tells_202 : decode cX12_tells 202 = .ok (.getfield 406, 3) := by decide +kernel
theorem dX12_tells_205 : decode cX12_tells 205 = .ok (.iconst 2, 1) := by decide +kernel
theorem dX12_tells_206 : decode cX12_tells 206 = .ok (.iadd, 1) := by decide +kernel
theorem dX12_tells_207 : decode cX12_tells 207 = .ok (.bipush 8, 2) := by decide +kernel
theorem dX12_tells_209 : decode cX12_tells 209 = .ok (.iload 10, 2) := by decide +kernel
theorem dX12_tells_211 : decode cX12_tells 211 = .ok (.imul, 1) := by decide +kernel
theorem dX12_tells_212 : decode cX12_tells 212 = .ok (.iadd, 1) := by decide +kernel
theorem dX12_tells_213 : decode cX12_tells 213 = .ok (.istore 11, 2) := by decide +kernel
theorem dX12_tells_215 : decode cX12_tells 215 = .ok (.aload_n 0, 1) := by decide +kernel
theorem dX12_tells_216 : decode cX12_tells 216 = .ok (.getfield 13, 3) := by decide +kernel
theorem dX12_tells_219 : decode cX12_tells 219 = .ok (.iload 11, 2) := by decide +kernel
theorem dX12_tells_221 : decode cX12_tells 221 = .ok (.iaload, 1) := by decide +kernel
theorem dX12_tells_222 : decode cX12_tells 222 = .ok (.iload_n 1, 1) := by decide +kernel
theorem dX12_tells_223 : decode cX12_tells 223 = .ok (.if_icmp .ne 27, 3) := by decide +kernel
theorem dX12_tells_226 : decode cX12_tells 226 = .ok (.aload_n 0, 1) := by decide +kernel
theorem dX12_tells_227 : decode cX12_tells 227 = .ok (.iload 11, 2) := by decide +kernel
theorem dX12_tells_229 : decode cX12_tells 229 = .ok (.invokevirtual 429, 3) := by decide +kernel
theorem dX12_tells_232 : decode cX12_tells 232 = .ok (.ifCond .eq 18, 3) := by decide +kernel
theorem dX12_tells_235 : decode cX12_tells 235 = .ok (.iload_n 1, 1) := by decide +kernel
theorem dX12_tells_236 : decode cX12_tells 236 = .ok (.iconst 3, 1) := by decide +kernel
theorem dX12_tells_237 : decode cX12_tells 237 = .ok (.if_icmp .ge 10, 3) := by decide +kernel
theorem dX12_tells_240 : decode cX12_tells 240 = .ok (.aload_n 0, 1) := by decide +kernel
theorem dX12_tells_241 : decode cX12_tells 241 = .ok (.getfield 426, 3) := by decide +kernel
theorem dX12_tells_244 : decode cX12_tells 244 = .ok (.goto 4, 3) := by decide +kernel
theorem dX12_tells_247 : decode cX12_tells 247 = .ok (.lconst 1, 1) := by decide +kernel
theorem dX12_tells_248 : decode cX12_tells 248 = .ok (.lstore 8, 2) := by decide +kernel
theorem dX12_tells_250 : decode cX12_tells 250 = .ok (.iinc 10 1, 3) := by decide +kernel
theorem dX12_tells_253 : decode cX12_tells 253 = .ok (.goto (-68), 3) := by decide +kernel
theorem dX12_tells_256 : decode cX12_tells 256 = .ok (.lload 8, 2) := by decide +kernel
theorem dX12_tells_258 : decode cX12_tells 258 = .ok (.lreturn, 1) := by decide +kernel
theorem dX12_yearNow_0 : decode cX12_yearNow 0 = .ok (.aload_n 0, 1) := by decide +kernel
theorem dX12_yearNow_1 : decode cX12_yearNow 1 = .ok (.getfield 13, 3) := by decide +kernel
theorem dX12_yearNow_4 : decode cX12_yearNow 4 = .ok (.iconst 5, 1) := by decide +kernel
theorem dX12_yearNow_5 : decode cX12_yearNow 5 = .ok (.iaload, 1) := by decide +kernel
theorem dX12_yearNow_6 : decode cX12_yearNow 6 = .ok (.ireturn, 1) := by decide +kernel
theorem dX12_tellsOpening_0 : decode cX12_tellsOpening 0 = .ok (.iconst 0, 1) := by decide +kernel
theorem dX12_tellsOpening_1 : decode cX12_tellsOpening 1 = .ok (.istore_n 1, 1) := by decide +kernel
theorem dX12_tellsOpening_2 : decode cX12_tellsOpening 2 = .ok (.iconst 0, 1) := by decide +kernel
theorem dX12_tellsOpening_3 : decode cX12_tellsOpening 3 = .ok (.istore_n 2, 1) := by decide +kernel
theorem dX12_tellsOpening_4 : decode cX12_tellsOpening 4 = .ok (.aload_n 0, 1) := by decide +kernel
theorem dX12_tellsOpening_5 : decode cX12_tellsOpening 5 = .ok (.getfield 13, 3) := by decide +kernel
theorem dX12_tellsOpening_8 : decode cX12_tellsOpening 8 = .ok (.iconst 4, 1) := by decide +kernel
theorem dX12_tellsOpening_9 : decode cX12_tellsOpening 9 = .ok (.iaload, 1) := by decide +kernel
theorem dX12_tellsOpening_10 : decode cX12_tellsOpening 10 = .ok (.iconst (-1), 1) := by decide +kernel
theorem dX12_tellsOpening_11 : decode cX12_tellsOpening 11 = .ok (.if_icmp .eq 74, 3) := by decide +kernel
theorem dX12_tellsOpening_14 : decode cX12_tellsOpening 14 = .ok (.iload_n 2, 1) := by decide +kernel
theorem dX12_tellsOpening_15 : decode cX12_tellsOpening 15 = .ok (.aload_n 0, 1) := by decide +kernel
theorem dX12_tellsOpening_16 : decode cX12_tellsOpening 16 = .ok (.getfield 13, 3) := by decide +kernel
theorem dX12_tellsOpening_19 : decode cX12_tellsOpening 19 = .ok (.sipush 185, 3) := by decide +kernel
theorem dX12_tellsOpening_22 : decode cX12_tellsOpening 22 = .ok (.sipush 900, 3) := by decide +kernel
theorem dX12_tellsOpening_25 : decode cX12_tellsOpening 25 = .ok (.aload_n 0, 1) := by decide +kernel
theorem dX12_tellsOpening_26 : decode cX12_tellsOpening 26 = .ok (.getfield 13, 3) := by decide +kernel
theorem dX12_tellsOpening_29 : decode cX12_tellsOpening 29 = .ok (.iconst 4, 1) := by decide +kernel
theorem dX12_tellsOpening_30 : decode cX12_tellsOpening 30 = .ok (.iaload, 1) := by decide +kernel
theorem dX12_tellsOpening_31 : decode cX12_tellsOpening 31 = .ok (.imul, 1) := by decide +kernel
theorem dX12_tellsOpening_32 : decode cX12_tellsOpening 32 = .ok (.iadd, 1) := by decide +kernel
theorem dX12_tellsOpening_33 : decode cX12_tellsOpening 33 = .ok (.iconst 1, 1) := by decide +kernel
theorem dX12_tellsOpening_34 : decode cX12_tellsOpening 34 = .ok (.iadd, 1) := by decide +kernel
theorem dX12_tellsOpening_35 : decode cX12_tellsOpening 35 = .ok (.iaload, 1) := by decide +kernel
theorem dX12_tellsOpening_36 : decode cX12_tellsOpening 36 = .ok (.if_icmp .ge 49, 3) := by decide +kernel
theorem dX12_tellsOpening_39 : decode cX12_tellsOpening 39 = .ok (.iload_n 1, 1) := by decide +kernel
theorem dX12_tellsOpening_40 : decode cX12_tellsOpening 40 = .ok (.ifCond .ne 33, 3) := by decide +kernel
theorem dX12_tellsOpening_43 : decode cX12_tellsOpening 43 = .ok (.aload_n 0, 1) := by decide +kernel
theorem dX12_tellsOpening_44 : decode cX12_tellsOpening 44 = .ok (.getfield 13, 3) := by decide +kernel
theorem dX12_tellsOpening_47 : decode cX12_tellsOpening 47 = .ok (.sipush 185, 3) := by decide +kernel
theorem dX12_tellsOpening_50 : decode cX12_tellsOpening 50 = .ok (.sipush 900, 3) := by decide +kernel
theorem dX12_tellsOpening_53 : decode cX12_tellsOpening 53 = .ok (.aload_n 0, 1) := by decide +kernel
theorem dX12_tellsOpening_54 : decode cX12_tellsOpening 54 = .ok (.getfield 13, 3) := by decide +kernel
theorem dX12_tellsOpening_57 : decode cX12_tellsOpening 57 = .ok (.iconst 4, 1) := by decide +kernel
theorem dX12_tellsOpening_58 : decode cX12_tellsOpening 58 = .ok (.iaload, 1) := by decide +kernel
theorem dX12_tellsOpening_59 : decode cX12_tellsOpening 59 = .ok (.imul, 1) := by decide +kernel
theorem dX12_tellsOpening_60 : decode cX12_tellsOpening 60 = .ok (.iadd, 1) := by decide +kernel
theorem dX12_tellsOpening_61 : decode cX12_tellsOpening 61 = .ok (.iconst 2, 1) := by decide +kernel
theorem dX12_tellsOpening_62 : decode cX12_tellsOpening 62 = .ok (.iadd, 1) := by decide +kernel
theorem dX12_tellsOpening_63 : decode cX12_tellsOpening 63 = .ok (.bipush 8, 2) := by decide +kernel
theorem dX12_tellsOpening_65 : decode cX12_tellsOpening 65 = .ok (.iload_n 2, 1) := by decide +kernel
theorem dX12_tellsOpening_66 : decode cX12_tellsOpening 66 = .ok (.imul, 1) := by decide +kernel
theorem dX12_tellsOpening_67 : decode cX12_tellsOpening 67 = .ok (.iadd, 1) := by decide +kernel
theorem dX12_tellsOpening_68 : decode cX12_tellsOpening 68 = .ok (.iaload, 1) := by decide +kernel
theorem dX12_tellsOpening_69 : decode cX12_tellsOpening 69 = .ok (.iconst 3, 1) := by decide +kernel
theorem dX12_tellsOpening_70 : decode cX12_tellsOpening 70 = .ok (.if_icmp .ne 7, 3) := by decide +kernel
theorem dX12_tellsOpening_73 : decode cX12_tellsOpening 73 = .ok (.iconst 1, 1) := by decide +kernel
theorem dX12_tellsOpening_74 : decode cX12_tellsOpening 74 = .ok (.goto 4, 3) := by decide +kernel
theorem dX12_tellsOpening_77 : decode cX12_tellsOpening 77 = .ok (.iconst 0, 1) := by decide +kernel
theorem dX12_tellsOpening_78 : decode cX12_tellsOpening 78 = .ok (.istore_n 1, 1) := by decide +kernel
theorem dX12_tellsOpening_79 : decode cX12_tellsOpening 79 = .ok (.iinc 2 1, 3) := by decide +kernel
theorem dX12_tellsOpening_82 : decode cX12_tellsOpening 82 = .ok (.goto (-78), 3) := by decide +kernel
theorem dX12_tellsOpening_85 : decode cX12_tellsOpening 85 = .ok (.iload_n 1, 1) := by decide +kernel
theorem dX12_tellsOpening_86 : decode cX12_tellsOpening 86 = .ok (.ireturn, 1) := by decide +kernel
theorem dX12_isOpen_0 : decode cX12_isOpen 0 = .ok (.aload_n 0, 1) := by decide +kernel
theorem dX12_isOpen_1 : decode cX12_isOpen 1 = .ok (.invokevirtual 432, 3) := by decide +kernel
theorem dX12_isOpen_4 : decode cX12_isOpen 4 = .ok (.ifCond .eq 29, 3) := by decide +kernel
theorem dX12_isOpen_7 : decode cX12_isOpen 7 = .ok (.aload_n 0, 1) := by decide +kernel
theorem dX12_isOpen_8 : decode cX12_isOpen 8 = .ok (.iconst 3, 1) := by decide +kernel
theorem dX12_isOpen_9 : decode cX12_isOpen 9 = .ok (.iload_n 1, 1) := by decide +kernel
theorem dX12_isOpen_10 : decode cX12_isOpen 10 = .ok (.iload_n 2, 1) := by decide +kernel
theorem dX12_isOpen_11 : decode cX12_isOpen 11 = .ok (.aload_n 0, 1) := by decide +kernel
theorem dX12_isOpen_12 : decode cX12_isOpen 12 = .ok (.invokevirtual 435, 3) := by decide +kernel
theorem dX12_isOpen_15 : decode cX12_isOpen 15 = .ok (.iconst (-1), 1) := by decide +kernel
theorem dX12_isOpen_16 : decode cX12_isOpen 16 = .ok (.lconst 0, 1) := by decide +kernel
theorem dX12_isOpen_17 : decode cX12_isOpen 17 = .ok (.invokevirtual 438, 3) := by decide +kernel
theorem dX12_isOpen_20 : decode cX12_isOpen 20 = .ok (.lconst 1, 1) := by decide +kernel
theorem dX12_isOpen_21 : decode cX12_isOpen 21 = .ok (.lcmp, 1) := by decide +kernel
theorem dX12_isOpen_22 : decode cX12_isOpen 22 = .ok (.ifCond .ne 7, 3) := by decide +kernel
theorem dX12_isOpen_25 : decode cX12_isOpen 25 = .ok (.iconst 1, 1) := by decide +kernel
theorem dX12_isOpen_26 : decode cX12_isOpen 26 = .ok (.goto 26, 3) := by decide +kernel
theorem dX12_isOpen_29 : decode cX12_isOpen 29 = .ok (.iconst 0, 1) := by decide +kernel
theorem dX12_isOpen_30 : decode cX12_isOpen 30 = .ok (.goto 22, 3) := by decide +kernel
theorem dX12_isOpen_33 : decode cX12_isOpen 33 = .ok (.aload_n 0, 1) := by decide +kernel
theorem dX12_isOpen_34 : decode cX12_isOpen 34 = .ok (.getfield 13, 3) := by decide +kernel
theorem dX12_isOpen_37 : decode cX12_isOpen 37 = .ok (.bipush 8, 2) := by decide +kernel
theorem dX12_isOpen_39 : decode cX12_isOpen 39 = .ok (.iload_n 2, 1) := by decide +kernel
theorem dX12_isOpen_40 : decode cX12_isOpen 40 = .ok (.iadd, 1) := by decide +kernel
theorem dX12_isOpen_41 : decode cX12_isOpen 41 = .ok (.iaload, 1) := by decide +kernel
theorem dX12_isOpen_42 : decode cX12_isOpen 42 = .ok (.bipush 10, 2) := by decide +kernel
theorem dX12_isOpen_44 : decode cX12_isOpen 44 = .ok (.if_icmp .ge 7, 3) := by decide +kernel
theorem dX12_isOpen_47 : decode cX12_isOpen 47 = .ok (.iconst 1, 1) := by decide +kernel
theorem dX12_isOpen_48 : decode cX12_isOpen 48 = .ok (.goto 4, 3) := by decide +kernel
theorem dX12_isOpen_51 : decode cX12_isOpen 51 = .ok (.iconst 0, 1) := by decide +kernel
theorem dX12_isOpen_52 : decode cX12_isOpen 52 = .ok (.ireturn, 1) := by decide +kernel
theorem dX12_tiresOf_0 : decode cX12_tiresOf 0 = .ok (.aload_n 0, 1) := by decide +kernel
theorem dX12_tiresOf_1 : decode cX12_tiresOf 1 = .ok (.iconst 0, 1) := by decide +kernel
theorem dX12_tiresOf_2 : decode cX12_tiresOf 2 = .ok (.iload_n 1, 1) := by decide +kernel
theorem dX12_tiresOf_3 : decode cX12_tiresOf 3 = .ok (.iload_n 2, 1) := by decide +kernel
theorem dX12_tiresOf_4 : decode cX12_tiresOf 4 = .ok (.aload_n 0, 1) := by decide +kernel
theorem dX12_tiresOf_5 : decode cX12_tiresOf 5 = .ok (.invokevirtual 435, 3) := by decide +kernel
theorem dX12_tiresOf_8 : decode cX12_tiresOf 8 = .ok (.iconst (-1), 1) := by decide +kernel
theorem dX12_tiresOf_9 : decode cX12_tiresOf 9 = .ok (.lconst 1, 1) := by decide +kernel
theorem dX12_tiresOf_10 : decode cX12_tiresOf 10 = .ok (.invokevirtual 438, 3) := by decide +kernel
theorem dX12_tiresOf_13 : decode cX12_tiresOf 13 = .ok (.iconst 0, 1) := by decide +kernel
theorem dX12_tiresOf_14 : decode cX12_tiresOf 14 = .ok (.bipush 20, 2) := by decide +kernel
theorem dX12_tiresOf_16 : decode cX12_tiresOf 16 = .ok (.invokestatic 442, 3) := by decide +kernel
theorem dX12_tiresOf_19 : decode cX12_tiresOf 19 = .ok (.ireturn, 1) := by decide +kernel
theorem dX12_worthOf_0 : decode cX12_worthOf 0 = .ok (.aload_n 0, 1) := by decide +kernel
theorem dX12_worthOf_1 : decode cX12_worthOf 1 = .ok (.iconst 2, 1) := by decide +kernel
theorem dX12_worthOf_2 : decode cX12_worthOf 2 = .ok (.iconst (-1), 1) := by decide +kernel
theorem dX12_worthOf_3 : decode cX12_worthOf 3 = .ok (.iload_n 1, 1) := by decide +kernel
theorem dX12_worthOf_4 : decode cX12_worthOf 4 = .ok (.iload_n 2, 1) := by decide +kernel
theorem dX12_worthOf_5 : decode cX12_worthOf 5 = .ok (.iconst (-1), 1) := by decide +kernel
theorem dX12_worthOf_6 : decode cX12_worthOf 6 = .ok (.ldc2_w 241, 3) := by decide +kernel
theorem dX12_worthOf_9 : decode cX12_worthOf 9 = .ok (.invokevirtual 438, 3) := by decide +kernel
theorem dX12_worthOf_12 : decode cX12_worthOf 12 = .ok (.iconst 0, 1) := by decide +kernel
theorem dX12_worthOf_13 : decode cX12_worthOf 13 = .ok (.bipush 99, 2) := by decide +kernel
theorem dX12_worthOf_15 : decode cX12_worthOf 15 = .ok (.invokestatic 442, 3) := by decide +kernel
theorem dX12_worthOf_18 : decode cX12_worthOf 18 = .ok (.ireturn, 1) := by decide +kernel
theorem dX12_costsOf_0 : decode cX12_costsOf 0 = .ok (.aload_n 0, 1) := by decide +kernel
theorem dX12_costsOf_1 : decode cX12_costsOf 1 = .ok (.iconst 1, 1) := by decide +kernel
theorem dX12_costsOf_2 : decode cX12_costsOf 2 = .ok (.iload_n 1, 1) := by decide +kernel
theorem dX12_costsOf_3 : decode cX12_costsOf 3 = .ok (.iload_n 3, 1) := by decide +kernel
theorem dX12_costsOf_4 : decode cX12_costsOf 4 = .ok (.aload_n 0, 1) := by decide +kernel
theorem dX12_costsOf_5 : decode cX12_costsOf 5 = .ok (.invokevirtual 435, 3) := by decide +kernel
theorem dX12_costsOf_8 : decode cX12_costsOf 8 = .ok (.iload_n 2, 1) := by decide +kernel
theorem dX12_costsOf_9 : decode cX12_costsOf 9 = .ok (.ldc2_w 348, 3) := by decide +kernel
theorem dX12_costsOf_12 : decode cX12_costsOf 12 = .ok (.invokevirtual 438, 3) := by decide +kernel
theorem dX12_costsOf_15 : decode cX12_costsOf 15 = .ok (.iconst 0, 1) := by decide +kernel
theorem dX12_costsOf_16 : decode cX12_costsOf 16 = .ok (.sipush 999, 3) := by decide +kernel
theorem dX12_costsOf_19 : decode cX12_costsOf 19 = .ok (.invokestatic 442, 3) := by decide +kernel
theorem dX12_costsOf_22 : decode cX12_costsOf 22 = .ok (.ireturn, 1) := by decide +kernel
theorem dX12_isBarred_0 : decode cX12_isBarred 0 = .ok (.aload_n 0, 1) := by decide +kernel
theorem dX12_isBarred_1 : decode cX12_isBarred 1 = .ok (.iconst 4, 1) := by decide +kernel
theorem dX12_isBarred_2 : decode cX12_isBarred 2 = .ok (.iload_n 1, 1) := by decide +kernel
theorem dX12_isBarred_3 : decode cX12_isBarred 3 = .ok (.iload_n 3, 1) := by decide +kernel
theorem dX12_isBarred_4 : decode cX12_isBarred 4 = .ok (.aload_n 0, 1) := by decide +kernel
theorem dX12_isBarred_5 : decode cX12_isBarred 5 = .ok (.invokevirtual 435, 3) := by decide +kernel
theorem dX12_isBarred_8 : decode cX12_isBarred 8 = .ok (.iload_n 2, 1) := by decide +kernel
theorem dX12_isBarred_9 : decode cX12_isBarred 9 = .ok (.lconst 0, 1) := by decide +kernel
theorem dX12_isBarred_10 : decode cX12_isBarred 10 = .ok (.invokevirtual 438, 3) := by decide +kernel
theorem dX12_isBarred_13 : decode cX12_isBarred 13 = .ok (.lconst 1, 1) := by decide +kernel
theorem dX12_isBarred_14 : decode cX12_isBarred 14 = .ok (.lcmp, 1) := by decide +kernel
theorem dX12_isBarred_15 : decode cX12_isBarred 15 = .ok (.ifCond .ne 7, 3) := by decide +kernel
theorem dX12_isBarred_18 : decode cX12_isBarred 18 = .ok (.iconst 1, 1) := by decide +kernel
theorem dX12_isBarred_19 : decode cX12_isBarred 19 = .ok (.goto 4, 3) := by decide +kernel
theorem dX12_isBarred_22 : decode cX12_isBarred 22 = .ok (.iconst 0, 1) := by decide +kernel
theorem dX12_isBarred_23 : decode cX12_isBarred 23 = .ok (.ireturn, 1) := by decide +kernel
theorem dX12_canBuy_0 : decode cX12_canBuy 0 = .ok (.iload_n 1, 1) := by decide +kernel
theorem dX12_canBuy_1 : decode cX12_canBuy 1 = .ok (.iload_n 2, 1) := by decide +kernel
theorem dX12_canBuy_2 : decode cX12_canBuy 2 = .ok (.if_icmp .eq 63, 3) := by decide +kernel
theorem dX12_canBuy_5 : decode cX12_canBuy 5 = .ok (.aload_n 0, 1) := by decide +kernel
theorem dX12_canBuy_6 : decode cX12_canBuy 6 = .ok (.iload_n 1, 1) := by decide +kernel
theorem dX12_canBuy_7 : decode cX12_canBuy 7 = .ok (.invokevirtual 192, 3) := by decide +kernel
theorem dX12_canBuy_10 : decode cX12_canBuy 10 = .ok (.ifCond .eq 55, 3) := by decide +kernel
theorem dX12_canBuy_13 : decode cX12_canBuy 13 = .ok (.aload_n 0, 1) := by decide +kernel
theorem dX12_canBuy_14 : decode cX12_canBuy 14 = .ok (.iload_n 2, 1) := by decide +kernel
theorem dX12_canBuy_15 : decode cX12_canBuy 15 = .ok (.invokevirtual 192, 3) := by decide +kernel
theorem dX12_canBuy_18 : decode cX12_canBuy 18 = .ok (.ifCond .eq 47, 3) := by decide +kernel
theorem dX12_canBuy_21 : decode cX12_canBuy 21 = .ok (.aload_n 0, 1) := by decide +kernel
theorem dX12_canBuy_22 : decode cX12_canBuy 22 = .ok (.iload_n 1, 1) := by decide +kernel
theorem dX12_canBuy_23 : decode cX12_canBuy 23 = .ok (.iload_n 2, 1) := by decide +kernel
theorem dX12_canBuy_24 : decode cX12_canBuy 24 = .ok (.iload_n 3, 1) := by decide +kernel
theorem dX12_canBuy_25 : decode cX12_canBuy 25 = .ok (.invokevirtual 446, 3) := by decide +kernel
theorem dX12_canBuy_28 : decode cX12_canBuy 28 = .ok (.ifCond .ne 37, 3) := by decide +kernel
theorem dX12_canBuy_31 : decode cX12_canBuy 31 = .ok (.aload_n 0, 1) := by decide +kernel
theorem dX12_canBuy_32 : decode cX12_canBuy 32 = .ok (.iload_n 2, 1) := by decide +kernel
theorem dX12_canBuy_33 : decode cX12_canBuy 33 = .ok (.iload_n 3, 1) := by decide +kernel
theorem dX12_canBuy_34 : decode cX12_canBuy 34 = .ok (.invokevirtual 196, 3) := by decide +kernel
theorem dX12_canBuy_37 : decode cX12_canBuy 37 = .ok (.bipush 99, 2) := by decide +kernel
theorem dX12_canBuy_39 : decode cX12_canBuy 39 = .ok (.if_icmp .ge 26, 3) := by decide +kernel
theorem dX12_canBuy_42 : decode cX12_canBuy 42 = .ok (.aload_n 0, 1) := by decide +kernel
theorem dX12_canBuy_43 : decode cX12_canBuy 43 = .ok (.getfield 13, 3) := by decide +kernel
theorem dX12_canBuy_46 : decode cX12_canBuy 46 = .ok (.bipush 14, 2) := by decide +kernel
theorem dX12_canBuy_48 : decode cX12_canBuy 48 = .ok (.iload_n 2, 1) := by decide +kernel
theorem dX12_canBuy_49 : decode cX12_canBuy 49 = .ok (.iadd, 1) := by decide +kernel
theorem dX12_canBuy_50 : decode cX12_canBuy 50 = .ok (.iaload, 1) := by decide +kernel
theorem dX12_canBuy_51 : decode cX12_canBuy 51 = .ok (.aload_n 0, 1) := by decide +kernel
theorem dX12_canBuy_52 : decode cX12_canBuy 52 = .ok (.iload_n 1, 1) := by decide +kernel
theorem dX12_canBuy_53 : decode cX12_canBuy 53 = .ok (.iload_n 2, 1) := by decide +kernel
theorem dX12_canBuy_54 : decode cX12_canBuy 54 = .ok (.iload_n 3, 1) := by decide +kernel
theorem dX12_canBuy_55 : decode cX12_canBuy 55 = .ok (.invokevirtual 450, 3) := by decide +kernel
theorem dX12_canBuy_58 : decode cX12_canBuy 58 = .ok (.if_icmp .lt 7, 3) := by decide +kernel
theorem dX12_canBuy_61 : decode cX12_canBuy 61 = .ok (.iconst 1, 1) := by decide +kernel
theorem dX12_canBuy_62 : decode cX12_canBuy 62 = .ok (.goto 4, 3) := by decide +kernel
theorem dX12_canBuy_65 : decode cX12_canBuy 65 = .ok (.iconst 0, 1) := by decide +kernel
theorem dX12_canBuy_66 : decode cX12_canBuy 66 = .ok (.ireturn, 1) := by decide +kernel
theorem dX12_canSell_0 : decode cX12_canSell 0 = .ok (.aload_n 0, 1) := by decide +kernel
theorem dX12_canSell_1 : decode cX12_canSell 1 = .ok (.iload_n 1, 1) := by decide +kernel
theorem dX12_canSell_2 : decode cX12_canSell 2 = .ok (.iload_n 3, 1) := by decide +kernel
theorem dX12_canSell_3 : decode cX12_canSell 3 = .ok (.invokevirtual 200, 3) := by decide +kernel
theorem dX12_canSell_6 : decode cX12_canSell 6 = .ok (.ifCond .le 17, 3) := by decide +kernel
theorem dX12_canSell_9 : decode cX12_canSell 9 = .ok (.aload_n 0, 1) := by decide +kernel
theorem dX12_canSell_10 : decode cX12_canSell 10 = .ok (.iload_n 1, 1) := by decide +kernel
theorem dX12_canSell_11 : decode cX12_canSell 11 = .ok (.iload_n 2, 1) := by decide +kernel
theorem dX12_canSell_12 : decode cX12_canSell 12 = .ok (.iload_n 3, 1) := by decide +kernel
theorem dX12_canSell_13 : decode cX12_canSell 13 = .ok (.invokevirtual 453, 3) := by decide +kernel
theorem dX12_canSell_16 : decode cX12_canSell 16 = .ok (.ifCond .eq 7, 3) := by decide +kernel
theorem dX12_canSell_19 : decode cX12_canSell 19 = .ok (.iconst 1, 1) := by decide +kernel
theorem dX12_canSell_20 : decode cX12_canSell 20 = .ok (.goto 4, 3) := by decide +kernel
theorem dX12_canSell_23 : decode cX12_canSell 23 = .ok (.iconst 0, 1) := by decide +kernel
theorem dX12_canSell_24 : decode cX12_canSell 24 = .ok (.ireturn, 1) := by decide +kernel
theorem dX12_asks_0 : decode cX12_asks 0 = .ok (.aload_n 0, 1) := by decide +kernel
theorem dX12_asks_1 : decode cX12_asks 1 = .ok (.iconst 0, 1) := by decide +kernel
theorem dX12_asks_2 : decode cX12_asks 2 = .ok (.putfield 163, 3) := by decide +kernel
theorem dX12_asks_5 : decode cX12_asks 5 = .ok (.iload_n 1, 1) := by decide +kernel
theorem dX12_asks_6 : decode cX12_asks 6 = .ok (.iload_n 2, 1) := by decide +kernel
theorem dX12_asks_7 : decode cX12_asks 7 = .ok (.if_icmp .eq 40, 3) := by decide +kernel
theorem dX12_asks_10 : decode cX12_asks 10 = .ok (.aload_n 0, 1) := by decide +kernel
theorem dX12_asks_11 : decode cX12_asks 11 = .ok (.iload_n 1, 1) := by decide +kernel
theorem dX12_asks_12 : decode cX12_asks 12 = .ok (.invokevirtual 223, 3) := by decide +kernel
theorem dX12_asks_15 : decode cX12_asks 15 = .ok (.ifCond .eq 32, 3) := by decide +kernel
theorem dX12_asks_18 : decode cX12_asks 18 = .ok (.aload_n 0, 1) := by decide +kernel
theorem dX12_asks_19 : decode cX12_asks 19 = .ok (.iload_n 2, 1) := by decide +kernel
theorem dX12_asks_20 : decode cX12_asks 20 = .ok (.invokevirtual 223, 3) := by decide +kernel
theorem dX12_asks_23 : decode cX12_asks 23 = .ok (.ifCond .eq 24, 3) := by decide +kernel
theorem dX12_asks_26 : decode cX12_asks 26 = .ok (.aload_n 0, 1) := by decide +kernel
theorem dX12_asks_27 : decode cX12_asks 27 = .ok (.iload_n 3, 1) := by decide +kernel
theorem dX12_asks_28 : decode cX12_asks 28 = .ok (.invokevirtual 208, 3) := by decide +kernel
theorem dX12_asks_31 : decode cX12_asks 31 = .ok (.ifCond .eq 16, 3) := by decide +kernel
theorem dX12_asks_34 : decode cX12_asks 34 = .ok (.iload 4, 2) := by decide +kernel
theorem dX12_asks_36 : decode cX12_asks 36 = .ok (.i2l, 1) := by decide +kernel
theorem dX12_asks_37 : decode cX12_asks 37 = .ok (.lconst 0, 1) := by decide +kernel
theorem dX12_asks_38 : decode cX12_asks 38 = .ok (.ldc2_w 456, 3) := by decide +kernel
theorem dX12_asks_41 : decode cX12_asks 41 = .ok (.invokestatic 183, 3) := by decide +kernel
theorem dX12_asks_44 : decode cX12_asks 44 = .ok (.ifCond .ne 5, 3) := by decide +kernel
theorem dX12_asks_47 : decode cX12_asks 47 = .ok (.iconst (-1), 1) := by decide +kernel
theorem dX12_asks_48 : decode cX12_asks 48 = .ok (.ireturn, 1) := by decide +kernel
theorem dX12_asks_49 : decode cX12_asks 49 = .ok (.iload 4, 2) := by decide +kernel
theorem dX12_asks_51 : decode cX12_asks 51 = .ok (.iconst 1, 1) := by decide +kernel
theorem dX12_asks_52 : decode cX12_asks 52 = .ok (.if_icmp .ne 13, 3) := by decide +kernel
theorem dX12_asks_55 : decode cX12_asks 55 = .ok (.aload_n 0, 1) := by decide +kernel
theorem dX12_asks_56 : decode cX12_asks 56 = .ok (.iload_n 1, 1) := by decide +kernel
theorem dX12_asks_57 : decode cX12_asks 57 = .ok (.iload_n 2, 1) := by decide +kernel
theorem dX12_asks_58 : decode cX12_asks 58 = .ok (.iload_n 3, 1) := by decide +kernel
theorem dX12_asks_59 : decode cX12_asks 59 = .ok (.invokevirtual 446, 3) := by decide +kernel
theorem dX12_asks_62 : decode cX12_asks 62 = .ok (.goto 10, 3) := by decide +kernel
theorem dX12_asks_65 : decode cX12_asks 65 = .ok (.aload_n 0, 1) := by decide +kernel
theorem dX12_asks_66 : decode cX12_asks 66 = .ok (.iload_n 1, 1) := by decide +kernel
theorem dX12_asks_67 : decode cX12_asks 67 = .ok (.iload_n 2, 1) := by decide +kernel
theorem dX12_asks_68 : decode cX12_asks 68 = .ok (.iload_n 3, 1) := by decide +kernel
theorem dX12_asks_69 : decode cX12_asks 69 = .ok (.invokevirtual 458, 3) := by decide +kernel
theorem dX12_asks_72 : decode cX12_asks 72 = .ok (.istore 5, 2) := by decide +kernel
theorem dX12_asks_74 : decode cX12_asks 74 = .ok (.iload 4, 2) := by decide +kernel
theorem dX12_asks_76 : decode cX12_asks 76 = .ok (.ifCond .ne 13, 3) := by decide +kernel
theorem dX12_asks_79 : decode cX12_asks 79 = .ok (.aload_n 0, 1) := by decide +kernel
theorem dX12_asks_80 : decode cX12_asks 80 = .ok (.iload_n 1, 1) := by decide +kernel
theorem dX12_asks_81 : decode cX12_asks 81 = .ok (.iload_n 2, 1) := by decide +kernel
theorem dX12_asks_82 : decode cX12_asks 82 = .ok (.iload_n 3, 1) := by decide +kernel
theorem dX12_asks_83 : decode cX12_asks 83 = .ok (.invokevirtual 450, 3) := by decide +kernel
theorem dX12_asks_86 : decode cX12_asks 86 = .ok (.goto 13, 3) := by decide +kernel
theorem dX12_asks_89 : decode cX12_asks 89 = .ok (.iload 5, 2) := by decide +kernel
theorem dX12_asks_91 : decode cX12_asks 91 = .ok (.ifCond .eq 7, 3) := by decide +kernel
theorem dX12_asks_94 : decode cX12_asks 94 = .ok (.iconst 1, 1) := by decide +kernel
theorem dX12_asks_95 : decode cX12_asks 95 = .ok (.goto 4, 3) := by decide +kernel
theorem dX12_asks_98 : decode cX12_asks 98 = .ok (.iconst 0, 1) := by decide +kernel
theorem dX12_asks_99 : decode cX12_asks 99 = .ok (.ireturn, 1) := by decide +kernel
theorem dX12_canRing_0 : decode cX12_canRing 0 = .ok (.aload_n 0, 1) := by decide +kernel
theorem dX12_canRing_1 : decode cX12_canRing 1 = .ok (.iload_n 1, 1) := by decide +kernel
theorem dX12_canRing_2 : decode cX12_canRing 2 = .ok (.invokevirtual 192, 3) := by decide +kernel
theorem dX12_canRing_5 : decode cX12_canRing 5 = .ok (.ifCond .eq 16, 3) := by decide +kernel
theorem dX12_canRing_8 : decode cX12_canRing 8 = .ok (.aload_n 0, 1) := by decide +kernel
theorem dX12_canRing_9 : decode cX12_canRing 9 = .ok (.iload_n 1, 1) := by decide +kernel
theorem dX12_canRing_10 : decode cX12_canRing 10 = .ok (.iload_n 2, 1) := by decide +kernel
theorem dX12_canRing_11 : decode cX12_canRing 11 = .ok (.invokevirtual 200, 3) := by decide +kernel
theorem dX12_canRing_14 : decode cX12_canRing 14 = .ok (.ifCond .le 7, 3) := by decide +kernel
theorem dX12_canRing_17 : decode cX12_canRing 17 = .ok (.iconst 1, 1) := by decide +kernel
theorem dX12_canRing_18 : decode cX12_canRing 18 = .ok (.goto 4, 3) := by decide +kernel
theorem dX12_canRing_21 : decode cX12_canRing 21 = .ok (.iconst 0, 1) := by decide +kernel
theorem dX12_canRing_22 : decode cX12_canRing 22 = .ok (.ireturn, 1) := by decide +kernel
theorem dX12_ringIt_0 : decode cX12_ringIt 0 = .ok (.aload_n 0, 1) := by decide +kernel
theorem dX12_ringIt_1 : decode cX12_ringIt 1 = .ok (.iload_n 1, 1) := by decide +kernel
theorem dX12_ringIt_2 : decode cX12_ringIt 2 = .ok (.iload_n 2, 1) := by decide +kernel
theorem dX12_ringIt_3 : decode cX12_ringIt 3 = .ok (.invokevirtual 235, 3) := by decide +kernel
theorem dX12_ringIt_6 : decode cX12_ringIt 6 = .ok (.istore_n 3, 1) := by decide +kernel
theorem dX12_ringIt_7 : decode cX12_ringIt 7 = .ok (.aload_n 0, 1) := by decide +kernel
theorem dX12_ringIt_8 : decode cX12_ringIt 8 = .ok (.iload_n 1, 1) := by decide +kernel
theorem dX12_ringIt_9 : decode cX12_ringIt 9 = .ok (.iload_n 2, 1) := by decide +kernel
theorem dX12_ringIt_10 : decode cX12_ringIt 10 = .ok (.invokevirtual 238, 3) := by decide +kernel
theorem dX12_ringIt_13 : decode cX12_ringIt 13 = .ok (.istore 4, 2) := by decide +kernel
theorem dX12_ringIt_15 : decode cX12_ringIt 15 = .ok (.aload_n 0, 1) := by decide +kernel
theorem dX12_ringIt_16 : decode cX12_ringIt 16 = .ok (.getfield 13, 3) := by decide +kernel
theorem dX12_ringIt_19 : decode cX12_ringIt 19 = .ok (.bipush 78, 2) := by decide +kernel
theorem dX12_ringIt_21 : decode cX12_ringIt 21 = .ok (.bipush 6, 2) := by decide +kernel
theorem dX12_ringIt_23 : decode cX12_ringIt 23 = .ok (.iload_n 1, 1) := by decide +kernel
theorem dX12_ringIt_24 : decode cX12_ringIt 24 = .ok (.imul, 1) := by decide +kernel
theorem dX12_ringIt_25 : decode cX12_ringIt 25 = .ok (.iadd, 1) := by decide +kernel
theorem dX12_ringIt_26 : decode cX12_ringIt 26 = .ok (.iload_n 2, 1) := by decide +kernel
theorem dX12_ringIt_27 : decode cX12_ringIt 27 = .ok (.iadd, 1) := by decide +kernel
theorem dX12_ringIt_28 : decode cX12_ringIt 28 = .ok (.dup2, 1) := by decide +kernel
theorem dX12_ringIt_29 : decode cX12_ringIt 29 = .ok (.iaload, 1) := by decide +kernel
theorem dX12_ringIt_30 : decode cX12_ringIt 30 = .ok (.iconst 1, 1) := by decide +kernel
theorem dX12_ringIt_31 : decode cX12_ringIt 31 = .ok (.iadd, 1) := by decide +kernel
theorem dX12_ringIt_32 : decode cX12_ringIt 32 = .ok (.iastore, 1) := by decide +kernel
theorem dX12_ringIt_33 : decode cX12_ringIt 33 = .ok (.aload_n 0, 1) := by decide +kernel
theorem dX12_ringIt_34 : decode cX12_ringIt 34 = .ok (.getfield 13, 3) := by decide +kernel
theorem dX12_ringIt_37 : decode cX12_ringIt 37 = .ok (.bipush 8, 2) := by decide +kernel
theorem dX12_ringIt_39 : decode cX12_ringIt 39 = .ok (.iload_n 2, 1) := by decide +kernel
theorem dX12_ringIt_40 : decode cX12_ringIt 40 = .ok (.iadd, 1) := by decide +kernel
theorem dX12_ringIt_41 : decode cX12_ringIt 41 = .ok (.aload_n 0, 1) := by decide +kernel
theorem dX12_ringIt_42 : decode cX12_ringIt 42 = .ok (.getfield 13, 3) := by decide +kernel
theorem dX12_ringIt_45 : decode cX12_ringIt 45 = .ok (.bipush 8, 2) := by decide +kernel
theorem dX12_ringIt_47 : decode cX12_ringIt 47 = .ok (.iload_n 2, 1) := by decide +kernel
theorem dX12_ringIt_48 : decode cX12_ringIt 48 = .ok (.iadd, 1) := by decide +kernel
theorem dX12_ringIt_49 : decode cX12_ringIt 49 = .ok (.iaload, 1) := by decide +kernel
theorem dX12_ringIt_50 : decode cX12_ringIt 50 = .ok (.iload 4, 2) := by decide +kernel
theorem dX12_ringIt_52 : decode cX12_ringIt 52 = .ok (.iadd, 1) := by decide +kernel
theorem dX12_ringIt_53 : decode cX12_ringIt 53 = .ok (.i2l, 1) := by decide +kernel
theorem dX12_ringIt_54 : decode cX12_ringIt 54 = .ok (.iconst 0, 1) := by decide +kernel
theorem dX12_ringIt_55 : decode cX12_ringIt 55 = .ok (.bipush 99, 2) := by decide +kernel
theorem dX12_ringIt_57 : decode cX12_ringIt 57 = .ok (.invokestatic 442, 3) := by decide +kernel
theorem dX12_ringIt_60 : decode cX12_ringIt 60 = .ok (.iastore, 1) := by decide +kernel
theorem dX12_ringIt_61 : decode cX12_ringIt 61 = .ok (.iload_n 3, 1) := by decide +kernel
theorem dX12_ringIt_62 : decode cX12_ringIt 62 = .ok (.ifCond .eq 7, 3) := by decide +kernel
theorem dX12_ringIt_65 : decode cX12_ringIt 65 = .ok (.iconst 1, 1) := by decide +kernel
theorem dX12_ringIt_66 : decode cX12_ringIt 66 = .ok (.goto 4, 3) := by decide +kernel
theorem dX12_ringIt_69 : decode cX12_ringIt 69 = .ok (.iconst 0, 1) := by decide +kernel
theorem dX12_ringIt_70 : decode cX12_ringIt 70 = .ok (.ireturn, 1) := by decide +kernel
theorem dX12_ringNow_0 : decode cX12_ringNow 0 = .ok (.aload_n 0, 1) := by decide +kernel
theorem dX12_ringNow_1 : decode cX12_ringNow 1 = .ok (.iload_n 1, 1) := by decide +kernel
theorem dX12_ringNow_2 : decode cX12_ringNow 2 = .ok (.invokevirtual 223, 3) := by decide +kernel
theorem dX12_ringNow_5 : decode cX12_ringNow 5 = .ok (.ifCond .eq 11, 3) := by decide +kernel
theorem dX12_ringNow_8 : decode cX12_ringNow 8 = .ok (.aload_n 0, 1) := by decide +kernel
theorem dX12_ringNow_9 : decode cX12_ringNow 9 = .ok (.iload_n 2, 1) := by decide +kernel
theorem dX12_ringNow_10 : decode cX12_ringNow 10 = .ok (.invokevirtual 208, 3) := by decide +kernel
theorem dX12_ringNow_13 : decode cX12_ringNow 13 = .ok (.ifCond .ne 6, 3) := by decide +kernel
theorem dX12_ringNow_16 : decode cX12_ringNow 16 = .ok (.bipush (-2), 2) := by decide +kernel
theorem dX12_ringNow_18 : decode cX12_ringNow 18 = .ok (.ireturn, 1) := by decide +kernel
theorem dX12_ringNow_19 : decode cX12_ringNow 19 = .ok (.aload_n 0, 1) := by decide +kernel
theorem dX12_ringNow_20 : decode cX12_ringNow 20 = .ok (.iload_n 1, 1) := by decide +kernel
theorem dX12_ringNow_21 : decode cX12_ringNow 21 = .ok (.iload_n 2, 1) := by decide +kernel
theorem dX12_ringNow_22 : decode cX12_ringNow 22 = .ok (.invokevirtual 461, 3) := by decide +kernel
theorem dX12_ringNow_25 : decode cX12_ringNow 25 = .ok (.ifCond .ne 6, 3) := by decide +kernel
theorem dX12_ringNow_28 : decode cX12_ringNow 28 = .ok (.bipush (-3), 2) := by decide +kernel
theorem dX12_ringNow_30 : decode cX12_ringNow 30 = .ok (.ireturn, 1) := by decide +kernel
theorem dX12_ringNow_31 : decode cX12_ringNow 31 = .ok (.aload_n 0, 1) := by decide +kernel
theorem dX12_ringNow_32 : decode cX12_ringNow 32 = .ok (.iconst 0, 1) := by decide +kernel
theorem dX12_ringNow_33 : decode cX12_ringNow 33 = .ok (.invokevirtual 464, 3) := by decide +kernel
theorem dX12_ringNow_36 : decode cX12_ringNow 36 = .ok (.aload_n 0, 1) := by decide +kernel
theorem dX12_ringNow_37 : decode cX12_ringNow 37 = .ok (.iload_n 1, 1) := by decide +kernel
theorem dX12_ringNow_38 : decode cX12_ringNow 38 = .ok (.iload_n 2, 1) := by decide +kernel
theorem dX12_ringNow_39 : decode cX12_ringNow 39 = .ok (.invokevirtual 467, 3) := by decide +kernel
theorem dX12_ringNow_42 : decode cX12_ringNow 42 = .ok (.ireturn, 1) := by decide +kernel
theorem dX12_ring_0 : decode cX12_ring 0 = .ok (.aload_n 0, 1) := by decide +kernel
theorem dX12_ring_1 : decode cX12_ring 1 = .ok (.iconst 0, 1) := by decide +kernel
theorem dX12_ring_2 : decode cX12_ring 2 = .ok (.putfield 163, 3) := by decide +kernel
theorem dX12_ring_5 : decode cX12_ring 5 = .ok (.aload_n 0, 1) := by decide +kernel
theorem dX12_ring_6 : decode cX12_ring 6 = .ok (.aload_n 0, 1) := by decide +kernel
theorem dX12_ring_7 : decode cX12_ring 7 = .ok (.iload_n 1, 1) := by decide +kernel
theorem dX12_ring_8 : decode cX12_ring 8 = .ok (.iload_n 2, 1) := by decide +kernel
theorem dX12_ring_9 : decode cX12_ring 9 = .ok (.invokevirtual 470, 3) := by decide +kernel
theorem dX12_ring_12 : decode cX12_ring 12 = .ok (.invokevirtual 172, 3) := by decide +kernel
theorem dX12_ring_15 : decode cX12_ring 15 = .ok (.ireturn, 1) := by decide +kernel
theorem dX12_sellNow_0 : decode cX12_sellNow 0 = .ok (.iload_n 1, 1) := by decide +kernel
theorem dX12_sellNow_1 : decode cX12_sellNow 1 = .ok (.iload_n 2, 1) := by decide +kernel
theorem dX12_sellNow_2 : decode cX12_sellNow 2 = .ok (.if_icmp .ne 5, 3) := by decide +kernel
theorem dX12_sellNow_5 : decode cX12_sellNow 5 = .ok (.iconst (-1), 1) := by decide +kernel
theorem dX12_sellNow_6 : decode cX12_sellNow 6 = .ok (.ireturn, 1) := by decide +kernel
theorem dX12_sellNow_7 : decode cX12_sellNow 7 = .ok (.aload_n 0, 1) := by decide +kernel
theorem dX12_sellNow_8 : decode cX12_sellNow 8 = .ok (.iload_n 1, 1) := by decide +kernel
theorem dX12_sellNow_9 : decode cX12_sellNow 9 = .ok (.invokevirtual 223, 3) := by decide +kernel
theorem dX12_sellNow_12 : decode cX12_sellNow 12 = .ok (.ifCond .eq 19, 3) := by decide +kernel
theorem dX12_sellNow_15 : decode cX12_sellNow 15 = .ok (.aload_n 0, 1) := by decide +kernel
theorem dX12_sellNow_16 : decode cX12_sellNow 16 = .ok (.iload_n 2, 1) := by decide +kernel
theorem dX12_sellNow_17 : decode cX12_sellNow 17 = .ok (.invokevirtual 223, 3) := by decide +kernel
theorem dX12_sellNow_20 : decode cX12_sellNow 20 = .ok (.ifCond .eq 11, 3) := by decide +kernel
theorem dX12_sellNow_23 : decode cX12_sellNow 23 = .ok (.aload_n 0, 1) := by decide +kernel
theorem dX12_sellNow_24 : decode cX12_sellNow 24 = .ok (.iload_n 3, 1) := by decide +kernel
theorem dX12_sellNow_25 : decode cX12_sellNow 25 = .ok (.invokevirtual 208, 3) := by decide +kernel
theorem dX12_sellNow_28 : decode cX12_sellNow 28 = .ok (.ifCond .ne 6, 3) := by decide +kernel
theorem dX12_sellNow_31 : decode cX12_sellNow 31 = .ok (.bipush (-2), 2) := by decide +kernel
theorem dX12_sellNow_33 : decode cX12_sellNow 33 = .ok (.ireturn, 1) := by decide +kernel
theorem dX12_sellNow_34 : decode cX12_sellNow 34 = .ok (.aload_n 0, 1) := by decide +kernel
theorem dX12_sellNow_35 : decode cX12_sellNow 35 = .ok (.iload_n 1, 1) := by decide +kernel
theorem dX12_sellNow_36 : decode cX12_sellNow 36 = .ok (.iload_n 2, 1) := by decide +kernel
theorem dX12_sellNow_37 : decode cX12_sellNow 37 = .ok (.iload_n 3, 1) := by decide +kernel
theorem dX12_sellNow_38 : decode cX12_sellNow 38 = .ok (.invokevirtual 458, 3) := by decide +kernel
theorem dX12_sellNow_41 : decode cX12_sellNow 41 = .ok (.ifCond .ne 6, 3) := by decide +kernel
theorem dX12_sellNow_44 : decode cX12_sellNow 44 = .ok (.bipush (-3), 2) := by decide +kernel
theorem dX12_sellNow_46 : decode cX12_sellNow 46 = .ok (.ireturn, 1) := by decide +kernel
theorem dX12_sellNow_47 : decode cX12_sellNow 47 = .ok (.aload_n 0, 1) := by decide +kernel
theorem dX12_sellNow_48 : decode cX12_sellNow 48 = .ok (.iconst 1, 1) := by decide +kernel
theorem dX12_sellNow_49 : decode cX12_sellNow 49 = .ok (.invokevirtual 464, 3) := by decide +kernel
theorem dX12_sellNow_52 : decode cX12_sellNow 52 = .ok (.aload_n 0, 1) := by decide +kernel
theorem dX12_sellNow_53 : decode cX12_sellNow 53 = .ok (.iload_n 1, 1) := by decide +kernel
theorem dX12_sellNow_54 : decode cX12_sellNow 54 = .ok (.iload_n 2, 1) := by decide +kernel
theorem dX12_sellNow_55 : decode cX12_sellNow 55 = .ok (.iload_n 3, 1) := by decide +kernel
theorem dX12_sellNow_56 : decode cX12_sellNow 56 = .ok (.invokevirtual 450, 3) := by decide +kernel
theorem dX12_sellNow_59 : decode cX12_sellNow 59 = .ok (.istore 4, 2) := by decide +kernel
theorem dX12_sellNow_61 : decode cX12_sellNow 61 = .ok (.aload_n 0, 1) := by decide +kernel
theorem dX12_sellNow_62 : decode cX12_sellNow 62 = .ok (.getfield 13, 3) := by decide +kernel
theorem dX12_sellNow_65 : decode cX12_sellNow 65 = .ok (.bipush 30, 2) := by decide +kernel
theorem dX12_sellNow_67 : decode cX12_sellNow 67 = .ok (.bipush 6, 2) := by decide +kernel
theorem dX12_sellNow_69 : decode cX12_sellNow 69 = .ok (.iload_n 1, 1) := by decide +kernel
theorem dX12_sellNow_70 : decode cX12_sellNow 70 = .ok (.imul, 1) := by decide +kernel
theorem dX12_sellNow_71 : decode cX12_sellNow 71 = .ok (.iadd, 1) := by decide +kernel
theorem dX12_sellNow_72 : decode cX12_sellNow 72 = .ok (.iload_n 3, 1) := by decide +kernel
theorem dX12_sellNow_73 : decode cX12_sellNow 73 = .ok (.iadd, 1) := by decide +kernel
theorem dX12_sellNow_74 : decode cX12_sellNow 74 = .ok (.dup2, 1) := by decide +kernel
theorem dX12_sellNow_75 : decode cX12_sellNow 75 = .ok (.iaload, 1) := by decide +kernel
theorem dX12_sellNow_76 : decode cX12_sellNow 76 = .ok (.iconst 1, 1) := by decide +kernel
theorem dX12_sellNow_77 : decode cX12_sellNow 77 = .ok (.isub, 1) := by decide +kernel
theorem dX12_sellNow_78 : decode cX12_sellNow 78 = .ok (.iastore, 1) := by decide +kernel
theorem dX12_sellNow_79 : decode cX12_sellNow 79 = .ok (.aload_n 0, 1) := by decide +kernel
theorem dX12_sellNow_80 : decode cX12_sellNow 80 = .ok (.getfield 13, 3) := by decide +kernel
theorem dX12_sellNow_83 : decode cX12_sellNow 83 = .ok (.bipush 30, 2) := by decide +kernel
theorem dX12_sellNow_85 : decode cX12_sellNow 85 = .ok (.bipush 6, 2) := by decide +kernel
theorem dX12_sellNow_87 : decode cX12_sellNow 87 = .ok (.iload_n 2, 1) := by decide +kernel
theorem dX12_sellNow_88 : decode cX12_sellNow 88 = .ok (.imul, 1) := by decide +kernel
theorem dX12_sellNow_89 : decode cX12_sellNow 89 = .ok (.iadd, 1) := by decide +kernel
theorem dX12_sellNow_90 : decode cX12_sellNow 90 = .ok (.iload_n 3, 1) := by decide +kernel
theorem dX12_sellNow_91 : decode cX12_sellNow 91 = .ok (.iadd, 1) := by decide +kernel
theorem dX12_sellNow_92 : decode cX12_sellNow 92 = .ok (.dup2, 1) := by decide +kernel
theorem dX12_sellNow_93 : decode cX12_sellNow 93 = .ok (.iaload, 1) := by decide +kernel
theorem dX12_sellNow_94 : decode cX12_sellNow 94 = .ok (.iconst 1, 1) := by decide +kernel
theorem dX12_sellNow_95 : decode cX12_sellNow 95 = .ok (.iadd, 1) := by decide +kernel
theorem dX12_sellNow_96 : decode cX12_sellNow 96 = .ok (.iastore, 1) := by decide +kernel
theorem dX12_sellNow_97 : decode cX12_sellNow 97 = .ok (.aload_n 0, 1) := by decide +kernel
theorem dX12_sellNow_98 : decode cX12_sellNow 98 = .ok (.getfield 13, 3) := by decide +kernel
theorem dX12_sellNow_101 : decode cX12_sellNow 101 = .ok (.bipush 14, 2) := by decide +kernel
theorem dX12_sellNow_103 : decode cX12_sellNow 103 = .ok (.iload_n 2, 1) := by decide +kernel
theorem dX12_sellNow_104 : decode cX12_sellNow 104 = .ok (.iadd, 1) := by decide +kernel
theorem dX12_sellNow_105 : decode cX12_sellNow 105 = .ok (.dup2, 1) := by decide +kernel
theorem dX12_sellNow_106 : decode cX12_sellNow 106 = .ok (.iaload, 1) := by decide +kernel
theorem dX12_sellNow_107 : decode cX12_sellNow 107 = .ok (.iload 4, 2) := by decide +kernel
theorem dX12_sellNow_109 : decode cX12_sellNow 109 = .ok (.isub, 1) := by decide +kernel
theorem dX12_sellNow_110 : decode cX12_sellNow 110 = .ok (.iastore, 1) := by decide +kernel
theorem dX12_sellNow_111 : decode cX12_sellNow 111 = .ok (.aload_n 0, 1) := by decide +kernel
theorem dX12_sellNow_112 : decode cX12_sellNow 112 = .ok (.getfield 13, 3) := by decide +kernel
theorem dX12_sellNow_115 : decode cX12_sellNow 115 = .ok (.bipush 14, 2) := by decide +kernel
theorem dX12_sellNow_117 : decode cX12_sellNow 117 = .ok (.iload_n 1, 1) := by decide +kernel
theorem dX12_sellNow_118 : decode cX12_sellNow 118 = .ok (.iadd, 1) := by decide +kernel
theorem dX12_sellNow_119 : decode cX12_sellNow 119 = .ok (.aload_n 0, 1) := by decide +kernel
theorem dX12_sellNow_120 : decode cX12_sellNow 120 = .ok (.getfield 13, 3) := by decide +kernel
theorem dX12_sellNow_123 : decode cX12_sellNow 123 = .ok (.bipush 14, 2) := by decide +kernel
theorem dX12_sellNow_125 : decode cX12_sellNow 125 = .ok (.iload_n 1, 1) := by decide +kernel
theorem dX12_sellNow_126 : decode cX12_sellNow 126 = .ok (.iadd, 1) := by decide +kernel
theorem dX12_sellNow_127 : decode cX12_sellNow 127 = .ok (.iaload, 1) := by decide +kernel
theorem dX12_sellNow_128 : decode cX12_sellNow 128 = .ok (.iload 4, 2) := by decide +kernel
theorem dX12_sellNow_130 : decode cX12_sellNow 130 = .ok (.iadd, 1) := by decide +kernel
theorem dX12_sellNow_131 : decode cX12_sellNow 131 = .ok (.i2l, 1) := by decide +kernel
theorem dX12_sellNow_132 : decode cX12_sellNow 132 = .ok (.iconst 0, 1) := by decide +kernel
theorem dX12_sellNow_133 : decode cX12_sellNow 133 = .ok (.sipush 999, 3) := by decide +kernel
theorem dX12_sellNow_136 : decode cX12_sellNow 136 = .ok (.invokestatic 442, 3) := by decide +kernel
theorem dX12_sellNow_139 : decode cX12_sellNow 139 = .ok (.iastore, 1) := by decide +kernel
theorem dX12_sellNow_140 : decode cX12_sellNow 140 = .ok (.iload 4, 2) := by decide +kernel
theorem dX12_sellNow_142 : decode cX12_sellNow 142 = .ok (.ireturn, 1) := by decide +kernel
theorem dX12_sell_0 : decode cX12_sell 0 = .ok (.aload_n 0, 1) := by decide +kernel
theorem dX12_sell_1 : decode cX12_sell 1 = .ok (.iconst 0, 1) := by decide +kernel
theorem dX12_sell_2 : decode cX12_sell 2 = .ok (.putfield 163, 3) := by decide +kernel
theorem dX12_sell_5 : decode cX12_sell 5 = .ok (.aload_n 0, 1) := by decide +kernel
theorem dX12_sell_6 : decode cX12_sell 6 = .ok (.aload_n 0, 1) := by decide +kernel
theorem dX12_sell_7 : decode cX12_sell 7 = .ok (.iload_n 1, 1) := by decide +kernel
theorem dX12_sell_8 : decode cX12_sell 8 = .ok (.iload_n 2, 1) := by decide +kernel
theorem dX12_sell_9 : decode cX12_sell 9 = .ok (.iload_n 3, 1) := by decide +kernel
theorem dX12_sell_10 : decode cX12_sell 10 = .ok (.invokevirtual 473, 3) := by decide +kernel
theorem dX12_sell_13 : decode cX12_sell 13 = .ok (.invokevirtual 172, 3) := by decide +kernel
theorem dX12_sell_16 : decode cX12_sell 16 = .ok (.ireturn, 1) := by decide +kernel
theorem dX12_dieIt_0 : decode cX12_dieIt 0 = .ok (.aload_n 0, 1) := by decide +kernel
theorem dX12_dieIt_1 : decode cX12_dieIt 1 = .ok (.getfield 13, 3) := by decide +kernel
theorem dX12_dieIt_4 : decode cX12_dieIt 4 = .ok (.bipush 22, 2) := by decide +kernel
theorem dX12_dieIt_6 : decode cX12_dieIt 6 = .ok (.iload_n 1, 1) := by decide +kernel
theorem dX12_dieIt_7 : decode cX12_dieIt 7 = .ok (.iadd, 1) := by decide +kernel
theorem dX12_dieIt_8 : decode cX12_dieIt 8 = .ok (.iconst 1, 1) := by decide +kernel
theorem dX12_dieIt_9 : decode cX12_dieIt 9 = .ok (.iastore, 1) := by decide +kernel
theorem dX12_dieIt_10 : decode cX12_dieIt 10 = .ok (.aload_n 0, 1) := by decide +kernel
theorem dX12_dieIt_11 : decode cX12_dieIt 11 = .ok (.getfield 13, 3) := by decide +kernel
theorem dX12_dieIt_14 : decode cX12_dieIt 14 = .ok (.sipush 162, 3) := by decide +kernel
theorem dX12_dieIt_17 : decode cX12_dieIt 17 = .ok (.iload_n 1, 1) := by decide +kernel
theorem dX12_dieIt_18 : decode cX12_dieIt 18 = .ok (.iadd, 1) := by decide +kernel
theorem dX12_dieIt_19 : decode cX12_dieIt 19 = .ok (.iaload, 1) := by decide +kernel
theorem dX12_dieIt_20 : decode cX12_dieIt 20 = .ok (.aload_n 0, 1) := by decide +kernel
theorem dX12_dieIt_21 : decode cX12_dieIt 21 = .ok (.invokevirtual 476, 3) := by decide +kernel
theorem dX12_dieIt_24 : decode cX12_dieIt 24 = .ok (.iand, 1) := by decide +kernel
theorem dX12_dieIt_25 : decode cX12_dieIt 25 = .ok (.istore_n 2, 1) := by decide +kernel
theorem dX12_dieIt_26 : decode cX12_dieIt 26 = .ok (.iload_n 2, 1) := by decide +kernel
theorem dX12_dieIt_27 : decode cX12_dieIt 27 = .ok (.invokestatic 479, 3) := by decide +kernel
theorem dX12_dieIt_30 : decode cX12_dieIt 30 = .ok (.istore_n 3, 1) := by decide +kernel
theorem dX12_dieIt_31 : decode cX12_dieIt 31 = .ok (.iconst 0, 1) := by decide +kernel
theorem dX12_dieIt_32 : decode cX12_dieIt 32 = .ok (.istore 4, 2) := by decide +kernel
theorem dX12_dieIt_34 : decode cX12_dieIt 34 = .ok (.iload 4, 2) := by decide +kernel
theorem dX12_dieIt_36 : decode cX12_dieIt 36 = .ok (.aload_n 0, 1) := by decide +kernel
theorem dX12_dieIt_37 : decode cX12_dieIt 37 = .ok (.getfield 13, 3) := by decide +kernel
theorem dX12_dieIt_40 : decode cX12_dieIt 40 = .ok (.iconst 0, 1) := by decide +kernel
theorem dX12_dieIt_41 : decode cX12_dieIt 41 = .ok (.iaload, 1) := by decide +kernel
theorem dX12_dieIt_42 : decode cX12_dieIt 42 = .ok (.if_icmp .ge 156, 3) := by decide +kernel
theorem dX12_dieIt_45 : decode cX12_dieIt 45 = .ok (.iload_n 3, 1) := by decide +kernel
theorem dX12_dieIt_46 : decode cX12_dieIt 46 = .ok (.ifCond .ne 7, 3) := by decide +kernel
theorem dX12_dieIt_49 : decode cX12_dieIt 49 = .ok (.iconst 0, 1) := by decide +kernel
theorem dX12_dieIt_50 : decode cX12_dieIt 50 = .ok (.goto 12, 3) := by decide +kernel
theorem dX12_dieIt_53 : decode cX12_dieIt 53 = .ok (.aload_n 0, 1) := by decide +kernel
theorem dX12_dieIt_54 : decode cX12_dieIt 54 = .ok (.iload_n 1, 1) := by decide +kernel
theorem dX12_dieIt_55 : decode cX12_dieIt 55 = .ok (.iload 4, 2) := by decide +kernel
theorem dX12_dieIt_57 : decode cX12_dieIt 57 = .ok (.invokevirtual 196, 3) := by decide +kernel
theorem dX12_dieIt_60 : decode cX12_dieIt 60 = .ok (.iload_n 3, 1) := by decide +kernel
theorem dX12_dieIt_61 : decode cX12_dieIt 61 = .ok (.idiv, 1) := by decide +kernel
theorem dX12_dieIt_62 : decode cX12_dieIt 62 = .ok (.istore 5, 2) := by decide +kernel
theorem dX12_dieIt_64 : decode cX12_dieIt 64 = .ok (.iload_n 3, 1) := by decide +kernel
theorem dX12_dieIt_65 : decode cX12_dieIt 65 = .ok (.ifCond .ne 7, 3) := by decide +kernel
theorem dX12_dieIt_68 : decode cX12_dieIt 68 = .ok (.iconst 0, 1) := by decide +kernel
theorem dX12_dieIt_69 : decode cX12_dieIt 69 = .ok (.goto 12, 3) := by decide +kernel
theorem dX12_dieIt_72 : decode cX12_dieIt 72 = .ok (.aload_n 0, 1) := by decide +kernel
theorem dX12_dieIt_73 : decode cX12_dieIt 73 = .ok (.iload_n 1, 1) := by decide +kernel
theorem dX12_dieIt_74 : decode cX12_dieIt 74 = .ok (.iload 4, 2) := by decide +kernel
theorem dX12_dieIt_76 : decode cX12_dieIt 76 = .ok (.invokevirtual 196, 3) := by decide +kernel
theorem dX12_dieIt_79 : decode cX12_dieIt 79 = .ok (.iload_n 3, 1) := by decide +kernel
theorem dX12_dieIt_80 : decode cX12_dieIt 80 = .ok (.irem, 1) := by decide +kernel
theorem dX12_dieIt_81 : decode cX12_dieIt 81 = .ok (.istore 6, 2) := by decide +kernel
theorem dX12_dieIt_83 : decode cX12_dieIt 83 = .ok (.iconst 0, 1) := by decide +kernel
theorem dX12_dieIt_84 : decode cX12_dieIt 84 = .ok (.istore 7, 2) := by decide +kernel
theorem dX12_dieIt_86 : decode cX12_dieIt 86 = .ok (.iload 7, 2) := by decide +kernel
theorem dX12_dieIt_88 : decode cX12_dieIt 88 = .ok (.aload_n 0, 1) := by decide +kernel
theorem dX12_dieIt_89 : decode cX12_dieIt 89 = .ok (.getfield 13, 3) := by decide +kernel
theorem dX12_dieIt_92 : decode cX12_dieIt 92 = .ok (.iconst 1, 1) := by decide +kernel
theorem dX12_dieIt_93 : decode cX12_dieIt 93 = .ok (.iaload, 1) := by decide +kernel
theorem dX12_dieIt_94 : decode cX12_dieIt 94 = .ok (.if_icmp .ge 66, 3) := by decide +kernel
theorem dX12_dieIt_97 : decode cX12_dieIt 97 = .ok (.iload_n 2, 1) := by decide +kernel
theorem dX12_dieIt_98 : decode cX12_dieIt 98 = .ok (.iload 7, 2) := by decide +kernel
theorem dX12_dieIt_100 : decode cX12_dieIt 100 = .ok (.invokestatic 228, 3) := by decide +kernel
theorem dX12_dieIt_103 : decode cX12_dieIt 103 = .ok (.ifCond .eq 51, 3) := by decide +kernel
theorem dX12_dieIt_106 : decode cX12_dieIt 106 = .ok (.aload_n 0, 1) := by decide +kernel
theorem dX12_dieIt_107 : decode cX12_dieIt 107 = .ok (.getfield 13, 3) := by decide +kernel
theorem dX12_dieIt_110 : decode cX12_dieIt 110 = .ok (.bipush 30, 2) := by decide +kernel
theorem dX12_dieIt_112 : decode cX12_dieIt 112 = .ok (.bipush 6, 2) := by decide +kernel
theorem dX12_dieIt_114 : decode cX12_dieIt 114 = .ok (.iload 7, 2) := by decide +kernel
theorem dX12_dieIt_116 : decode cX12_dieIt 116 = .ok (.imul, 1) := by decide +kernel
theorem dX12_dieIt_117 : decode cX12_dieIt 117 = .ok (.iadd, 1) := by decide +kernel
theorem dX12_dieIt_118 : decode cX12_dieIt 118 = .ok (.iload 4, 2) := by decide +kernel
theorem dX12_dieIt_120 : decode cX12_dieIt 120 = .ok (.iadd, 1) := by decide +kernel
theorem dX12_dieIt_121 : decode cX12_dieIt 121 = .ok (.aload_n 0, 1) := by decide +kernel
theorem dX12_dieIt_122 : decode cX12_dieIt 122 = .ok (.iload 7, 2) := by decide +kernel
theorem dX12_dieIt_124 : decode cX12_dieIt 124 = .ok (.iload 4, 2) := by decide +kernel
theorem dX12_dieIt_126 : decode cX12_dieIt 126 = .ok (.invokevirtual 196, 3) := by decide +kernel
theorem dX12_dieIt_129 : decode cX12_dieIt 129 = .ok (.iload 5, 2) := by decide +kernel
theorem dX12_dieIt_131 : decode cX12_dieIt 131 = .ok (.iadd, 1) := by decide +kernel
theorem dX12_dieIt_132 : decode cX12_dieIt 132 = .ok (.iload 6, 2) := by decide +kernel
theorem dX12_dieIt_134 : decode cX12_dieIt 134 = .ok (.ifCond .le 7, 3) := by decide +kernel
theorem dX12_dieIt_137 : decode cX12_dieIt 137 = .ok (.iconst 1, 1) := by decide +kernel
theorem dX12_dieIt_138 : decode cX12_dieIt 138 = .ok (.goto 4, 3) := by decide +kernel
theorem dX12_dieIt_141 : decode cX12_dieIt 141 = .ok (.iconst 0, 1) := by decide +kernel
theorem dX12_dieIt_142 : decode cX12_dieIt 142 = .ok (.iadd, 1) := by decide +kernel
theorem dX12_dieIt_143 : decode cX12_dieIt 143 = .ok (.i2l, 1) := by decide +kernel
theorem dX12_dieIt_144 : decode cX12_dieIt 144 = .ok (.iconst 0, 1) := by decide +kernel
theorem dX12_dieIt_145 : decode cX12_dieIt 145 = .ok (.bipush 99, 2) := by decide +kernel
theorem dX12_dieIt_147 : decode cX12_dieIt 147 = .ok (.invokestatic 442, 3) := by decide +kernel
theorem dX12_dieIt_150 : decode cX12_dieIt 150 = .ok (.iastore, 1) := by decide +kernel
theorem dX12_dieIt_151 : decode cX12_dieIt 151 = .ok (.iinc 6 (-1), 3) := by decide +kernel
theorem dX12_dieIt_154 : decode cX12_dieIt 154 = .ok (.iinc 7 1, 3) := by decide +kernel
theorem dX12_dieIt_157 : decode cX12_dieIt 157 = .ok (.goto (-71), 3) := by decide +kernel
theorem dX12_dieIt_160 : decode cX12_dieIt 160 = .ok (.aload_n 0, 1) := by decide +kernel
theorem dX12_dieIt_161 : decode cX12_dieIt 161 = .ok (.getfield 13, 3) := by decide +kernel
theorem dX12_dieIt_164 : decode cX12_dieIt 164 = .ok (.bipush 30, 2) := by decide +kernel
theorem dX12_dieIt_166 : decode cX12_dieIt 166 = .ok (.bipush 6, 2) := by decide +kernel
theorem dX12_dieIt_168 : decode cX12_dieIt 168 = .ok (.iload_n 1, 1) := by decide +kernel
theorem dX12_dieIt_169 : decode cX12_dieIt 169 = .ok (.imul, 1) := by decide +kernel
theorem dX12_dieIt_170 : decode cX12_dieIt 170 = .ok (.iadd, 1) := by decide +kernel
theorem dX12_dieIt_171 : decode cX12_dieIt 171 = .ok (.iload 4, 2) := by decide +kernel
theorem dX12_dieIt_173 : decode cX12_dieIt 173 = .ok (.iadd, 1) := by decide +kernel
theorem dX12_dieIt_174 : decode cX12_dieIt 174 = .ok (.iconst 0, 1) := by decide +kernel
theorem dX12_dieIt_175 : decode cX12_dieIt 175 = .ok (.iastore, 1) := by decide +kernel
theorem dX12_dieIt_176 : decode cX12_dieIt 176 = .ok (.aload_n 0, 1) := by decide +kernel
theorem dX12_dieIt_177 : decode cX12_dieIt 177 = .ok (.getfield 13, 3) := by decide +kernel
theorem dX12_dieIt_180 : decode cX12_dieIt 180 = .ok (.bipush 78, 2) := by decide +kernel
theorem dX12_dieIt_182 : decode cX12_dieIt 182 = .ok (.bipush 6, 2) := by decide +kernel
theorem dX12_dieIt_184 : decode cX12_dieIt 184 = .ok (.iload_n 1, 1) := by decide +kernel
theorem dX12_dieIt_185 : decode cX12_dieIt 185 = .ok (.imul, 1) := by decide +kernel
theorem dX12_dieIt_186 : decode cX12_dieIt 186 = .ok (.iadd, 1) := by decide +kernel
theorem dX12_dieIt_187 : decode cX12_dieIt 187 = .ok (.iload 4, 2) := by decide +kernel
theorem dX12_dieIt_189 : decode cX12_dieIt 189 = .ok (.iadd, 1) := by decide +kernel
theorem dX12_dieIt_190 : decode cX12_dieIt 190 = .ok (.iconst 0, 1) := by decide +kernel
theorem dX12_dieIt_191 : decode cX12_dieIt 191 = .ok (.iastore, 1) := by decide +kernel
theorem dX12_dieIt_192 : decode cX12_dieIt 192 = .ok (.iinc 4 1, 3) := by decide +kernel
theorem dX12_dieIt_195 : decode cX12_dieIt 195 = .ok (.goto (-161), 3) := by decide +kernel
theorem dX12_dieIt_198 : decode cX12_dieIt 198 = .ok (.iload_n 3, 1) := by decide +kernel
theorem dX12_dieIt_199 : decode cX12_dieIt 199 = .ok (.ireturn, 1) := by decide +kernel
theorem dX12_dieNow_0 : decode cX12_dieNow 0 = .ok (.aload_n 0, 1) := by decide +kernel
theorem dX12_dieNow_1 : decode cX12_dieNow 1 = .ok (.iload_n 1, 1) := by decide +kernel
theorem dX12_dieNow_2 : decode cX12_dieNow 2 = .ok (.invokevirtual 223, 3) := by decide +kernel
theorem dX12_dieNow_5 : decode cX12_dieNow 5 = .ok (.ifCond .ne 6, 3) := by decide +kernel
theorem dX12_dieNow_8 : decode cX12_dieNow 8 = .ok (.bipush (-2), 2) := by decide +kernel
theorem dX12_dieNow_10 : decode cX12_dieNow 10 = .ok (.ireturn, 1) := by decide +kernel
theorem dX12_dieNow_11 : decode cX12_dieNow 11 = .ok (.aload_n 0, 1) := by decide +kernel
theorem dX12_dieNow_12 : decode cX12_dieNow 12 = .ok (.iload_n 1, 1) := by decide +kernel
theorem dX12_dieNow_13 : decode cX12_dieNow 13 = .ok (.invokevirtual 192, 3) := by decide +kernel
theorem dX12_dieNow_16 : decode cX12_dieNow 16 = .ok (.ifCond .ne 6, 3) := by decide +kernel
theorem dX12_dieNow_19 : decode cX12_dieNow 19 = .ok (.bipush (-3), 2) := by decide +kernel
theorem dX12_dieNow_21 : decode cX12_dieNow 21 = .ok (.ireturn, 1) := by decide +kernel
theorem dX12_dieNow_22 : decode cX12_dieNow 22 = .ok (.aload_n 0, 1) := by decide +kernel
theorem dX12_dieNow_23 : decode cX12_dieNow 23 = .ok (.iconst 2, 1) := by decide +kernel
theorem dX12_dieNow_24 : decode cX12_dieNow 24 = .ok (.invokevirtual 464, 3) := by decide +kernel
theorem dX12_dieNow_27 : decode cX12_dieNow 27 = .ok (.aload_n 0, 1) := by decide +kernel
theorem dX12_dieNow_28 : decode cX12_dieNow 28 = .ok (.iload_n 1, 1) := by decide +kernel
theorem dX12_dieNow_29 : decode cX12_dieNow 29 = .ok (.invokevirtual 482, 3) := by decide +kernel
theorem dX12_dieNow_32 : decode cX12_dieNow 32 = .ok (.ireturn, 1) := by decide +kernel
theorem dX12_die_0 : decode cX12_die 0 = .ok (.aload_n 0, 1) := by decide +kernel
theorem dX12_die_1 : decode cX12_die 1 = .ok (.iconst 0, 1) := by decide +kernel
theorem dX12_die_2 : decode cX12_die 2 = .ok (.putfield 163, 3) := by decide +kernel
theorem dX12_die_5 : decode cX12_die 5 = .ok (.aload_n 0, 1) := by decide +kernel
theorem dX12_die_6 : decode cX12_die 6 = .ok (.aload_n 0, 1) := by decide +kernel
theorem dX12_die_7 : decode cX12_die 7 = .ok (.iload_n 1, 1) := by decide +kernel
theorem dX12_die_8 : decode cX12_die 8 = .ok (.invokevirtual 485, 3) := by decide +kernel
theorem dX12_die_11 : decode cX12_die 11 = .ok (.invokevirtual 172, 3) := by decide +kernel
theorem dX12_die_14 : decode cX12_die 14 = .ok (.ireturn, 1) := by decide +kernel
theorem dX12_passIt_0 : decode cX12_passIt 0 = .ok (.iconst 0, 1) := by decide +kernel
theorem dX12_passIt_1 : decode cX12_passIt 1 = .ok (.istore_n 1, 1) := by decide +kernel
theorem dX12_passIt_2 : decode cX12_passIt 2 = .ok (.iload_n 1, 1) := by decide +kernel
theorem dX12_passIt_3 : decode cX12_passIt 3 = .ok (.bipush 48, 2) := by decide +kernel
theorem dX12_passIt_5 : decode cX12_passIt 5 = .ok (.if_icmp .ge 19, 3) := by decide +kernel
theorem dX12_passIt_8 : decode cX12_passIt 8 = .ok (.aload_n 0, 1) := by decide +kernel
theorem dX12_passIt_9 : decode cX12_passIt 9 = .ok (.getfield 13, 3) := by decide +kernel
theorem dX12_passIt_12 : decode cX12_passIt 12 = .ok (.bipush 78, 2) := by decide +kernel
theorem dX12_passIt_14 : decode cX12_passIt 14 = .ok (.iload_n 1, 1) := by decide +kernel
theorem dX12_passIt_15 : decode cX12_passIt 15 = .ok (.iadd, 1) := by decide +kernel
theorem dX12_passIt_16 : decode cX12_passIt 16 = .ok (.iconst 0, 1) := by decide +kernel
theorem dX12_passIt_17 : decode cX12_passIt 17 = .ok (.iastore, 1) := by decide +kernel
theorem dX12_passIt_18 : decode cX12_passIt 18 = .ok (.iinc 1 1, 3) := by decide +kernel
theorem dX12_passIt_21 : decode cX12_passIt 21 = .ok (.goto (-19), 3) := by decide +kernel
theorem dX12_passIt_24 : decode cX12_passIt 24 = .ok (.iconst 0, 1) := by decide +kernel
theorem dX12_passIt_25 : decode cX12_passIt 25 = .ok (.istore_n 1, 1) := by decide +kernel
theorem dX12_passIt_26 : decode cX12_passIt 26 = .ok (.iload_n 1, 1) := by decide +kernel
theorem dX12_passIt_27 : decode cX12_passIt 27 = .ok (.bipush 6, 2) := by decide +kernel
theorem dX12_passIt_29 : decode cX12_passIt 29 = .ok (.if_icmp .ge 19, 3) := by decide +kernel
theorem dX12_passIt_32 : decode cX12_passIt 32 = .ok (.aload_n 0, 1) := by decide +kernel
theorem dX12_passIt_33 : decode cX12_passIt 33 = .ok (.getfield 13, 3) := by decide +kernel
theorem dX12_passIt_36 : decode cX12_passIt 36 = .ok (.bipush 8, 2) := by decide +kernel
theorem dX12_passIt_38 : decode cX12_passIt 38 = .ok (.iload_n 1, 1) := by decide +kernel
theorem dX12_passIt_39 : decode cX12_passIt 39 = .ok (.iadd, 1) := by decide +kernel
theorem dX12_passIt_40 : decode cX12_passIt 40 = .ok (.iconst 0, 1) := by decide +kernel
theorem dX12_passIt_41 : decode cX12_passIt 41 = .ok (.iastore, 1) := by decide +kernel
theorem dX12_passIt_42 : decode cX12_passIt 42 = .ok (.iinc 1 1, 3) := by decide +kernel
theorem dX12_passIt_45 : decode cX12_passIt 45 = .ok (.goto (-19), 3) := by decide +kernel
theorem dX12_passIt_48 : decode cX12_passIt 48 = .ok (.aload_n 0, 1) := by decide +kernel
theorem dX12_passIt_49 : decode cX12_passIt 49 = .ok (.getfield 13, 3) := by decide +kernel
theorem dX12_passIt_52 : decode cX12_passIt 52 = .ok (.iconst 5, 1) := by decide +kernel
theorem dX12_passIt_53 : decode cX12_passIt 53 = .ok (.dup2, 1) := by decide +kernel
theorem dX12_passIt_54 : decode cX12_passIt 54 = .ok (.iaload, 1) := by decide +kernel
theorem dX12_passIt_55 : decode cX12_passIt 55 = .ok (.iconst 1, 1) := by decide +kernel
theorem dX12_passIt_56 : decode cX12_passIt 56 = .ok (.iadd, 1) := by decide +kernel
theorem dX12_passIt_57 : decode cX12_passIt 57 = .ok (.iastore, 1) := by decide +kernel
theorem dX12_passIt_58 : decode cX12_passIt 58 = .ok (.return_, 1) := by decide +kernel
theorem dX12_passNow_0 : decode cX12_passNow 0 = .ok (.aload_n 0, 1) := by decide +kernel
theorem dX12_passNow_1 : decode cX12_passNow 1 = .ok (.invokevirtual 435, 3) := by decide +kernel
theorem dX12_passNow_4 : decode cX12_passNow 4 = .ok (.sipush 999, 3) := by decide +kernel
theorem dX12_passNow_7 : decode cX12_passNow 7 = .ok (.if_icmp .ne 6, 3) := by decide +kernel
theorem dX12_passNow_10 : decode cX12_passNow 10 = .ok (.bipush (-3), 2) := by decide +kernel
theorem dX12_passNow_12 : decode cX12_passNow 12 = .ok (.ireturn, 1) := by decide +kernel
theorem dX12_passNow_13 : decode cX12_passNow 13 = .ok (.aload_n 0, 1) := by decide +kernel
theorem dX12_passNow_14 : decode cX12_passNow 14 = .ok (.iconst 3, 1) := by decide +kernel
theorem dX12_passNow_15 : decode cX12_passNow 15 = .ok (.invokevirtual 464, 3) := by decide +kernel
theorem dX12_passNow_18 : decode cX12_passNow 18 = .ok (.aload_n 0, 1) := by decide +kernel
theorem dX12_passNow_19 : decode cX12_passNow 19 = .ok (.invokevirtual 488, 3) := by decide +kernel
theorem dX12_passNow_22 : decode cX12_passNow 22 = .ok (.aload_n 0, 1) := by decide +kernel
theorem dX12_passNow_23 : decode cX12_passNow 23 = .ok (.invokevirtual 435, 3) := by decide +kernel
theorem dX12_passNow_26 : decode cX12_passNow 26 = .ok (.ireturn, 1) := by decide +kernel
theorem dX12_pass_0 : decode cX12_pass 0 = .ok (.aload_n 0, 1) := by decide +kernel
theorem dX12_pass_1 : decode cX12_pass 1 = .ok (.iconst 0, 1) := by decide +kernel
theorem dX12_pass_2 : decode cX12_pass 2 = .ok (.putfield 163, 3) := by decide +kernel
theorem dX12_pass_5 : decode cX12_pass 5 = .ok (.aload_n 0, 1) := by decide +kernel
theorem dX12_pass_6 : decode cX12_pass 6 = .ok (.aload_n 0, 1) := by decide +kernel
theorem dX12_pass_7 : decode cX12_pass 7 = .ok (.invokevirtual 491, 3) := by decide +kernel
theorem dX12_pass_10 : decode cX12_pass 10 = .ok (.invokevirtual 172, 3) := by decide +kernel
theorem dX12_pass_13 : decode cX12_pass 13 = .ok (.ireturn, 1) := by decide +kernel
theorem dX12_isNew_0 : decode cX12_isNew 0 = .ok (.iconst 1, 1) := by decide +kernel
theorem dX12_isNew_1 : decode cX12_isNew 1 = .ok (.istore_n 2, 1) := by decide +kernel
theorem dX12_isNew_2 : decode cX12_isNew 2 = .ok (.iconst 0, 1) := by decide +kernel
theorem dX12_isNew_3 : decode cX12_isNew 3 = .ok (.istore_n 3, 1) := by decide +kernel
theorem dX12_isNew_4 : decode cX12_isNew 4 = .ok (.iload_n 3, 1) := by decide +kernel
theorem dX12_isNew_5 : decode cX12_isNew 5 = .ok (.iload_n 1, 1) := by decide +kernel
theorem dX12_isNew_6 : decode cX12_isNew 6 = .ok (.if_icmp .ge 34, 3) := by decide +kernel
theorem dX12_isNew_9 : decode cX12_isNew 9 = .ok (.iload_n 2, 1) := by decide +kernel
theorem dX12_isNew_10 : decode cX12_isNew 10 = .ok (.ifCond .eq 22, 3) := by decide +kernel
theorem dX12_isNew_13 : decode cX12_isNew 13 = .ok (.aload_n 0, 1) := by decide +kernel
theorem dX12_isNew_14 : decode cX12_isNew 14 = .ok (.getfield 110, 3) := by decide +kernel
theorem dX12_isNew_17 : decode cX12_isNew 17 = .ok (.iload_n 3, 1) := by decide +kernel
theorem dX12_isNew_18 : decode cX12_isNew 18 = .ok (.iaload, 1) := by decide +kernel
