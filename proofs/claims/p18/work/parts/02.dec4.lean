theorem dX12_isNew_19 : decode cX12_isNew 19 = .ok (.aload_n 0, 1) := by decide +kernel
theorem dX12_isNew_20 : decode cX12_isNew 20 = .ok (.getfield 110, 3) := by decide +kernel
theorem dX12_isNew_23 : decode cX12_isNew 23 = .ok (.iload_n 1, 1) := by decide +kernel
theorem dX12_isNew_24 : decode cX12_isNew 24 = .ok (.iaload, 1) := by decide +kernel
theorem dX12_isNew_25 : decode cX12_isNew 25 = .ok (.if_icmp .eq 7, 3) := by decide +kernel
theorem dX12_isNew_28 : decode cX12_isNew 28 = .ok (.iconst 1, 1) := by decide +kernel
theorem dX12_isNew_29 : decode cX12_isNew 29 = .ok (.goto 4, 3) := by decide +kernel
theorem dX12_isNew_32 : decode cX12_isNew 32 = .ok (.iconst 0, 1) := by decide +kernel
theorem dX12_isNew_33 : decode cX12_isNew 33 = .ok (.istore_n 2, 1) := by decide +kernel
theorem dX12_isNew_34 : decode cX12_isNew 34 = .ok (.iinc 3 1, 3) := by decide +kernel
theorem dX12_isNew_37 : decode cX12_isNew 37 = .ok (.goto (-33), 3) := by decide +kernel
theorem dX12_isNew_40 : decode cX12_isNew 40 = .ok (.iload_n 2, 1) := by decide +kernel
theorem dX12_isNew_41 : decode cX12_isNew 41 = .ok (.ireturn, 1) := by decide +kernel
theorem dX12_findVisits_0 : decode cX12_findVisits 0 = .ok (.aload_n 0, 1) := by decide +kernel
theorem dX12_findVisits_1 : decode cX12_findVisits 1 = .ok (.iconst 0, 1) := by decide +kernel
theorem dX12_findVisits_2 : decode cX12_findVisits 2 = .ok (.putfield 494, 3) := by decide +kernel
theorem dX12_findVisits_5 : decode cX12_findVisits 5 = .ok (.iconst 0, 1) := by decide +kernel
theorem dX12_findVisits_6 : decode cX12_findVisits 6 = .ok (.istore_n 3, 1) := by decide +kernel
theorem dX12_findVisits_7 : decode cX12_findVisits 7 = .ok (.iconst 0, 1) := by decide +kernel
theorem dX12_findVisits_8 : decode cX12_findVisits 8 = .ok (.istore 4, 2) := by decide +kernel
theorem dX12_findVisits_10 : decode cX12_findVisits 10 = .ok (.aload_n 0, 1) := by decide +kernel
theorem dX12_findVisits_11 : decode cX12_findVisits 11 = .ok (.getfield 110, 3) := by decide +kernel
theorem dX12_findVisits_14 : decode cX12_findVisits 14 = .ok (.iconst 0, 1) := by decide +kernel
theorem dX12_findVisits_15 : decode cX12_findVisits 15 = .ok (.iconst (-1), 1) := by decide +kernel
theorem dX12_findVisits_16 : decode cX12_findVisits 16 = .ok (.iastore, 1) := by decide +kernel
theorem dX12_findVisits_17 : decode cX12_findVisits 17 = .ok (.aload_n 0, 1) := by decide +kernel
theorem dX12_findVisits_18 : decode cX12_findVisits 18 = .ok (.getfield 113, 3) := by decide +kernel
theorem dX12_findVisits_21 : decode cX12_findVisits 21 = .ok (.iconst 0, 1) := by decide +kernel
theorem dX12_findVisits_22 : decode cX12_findVisits 22 = .ok (.iconst 0, 1) := by decide +kernel
theorem dX12_findVisits_23 : decode cX12_findVisits 23 = .ok (.iastore, 1) := by decide +kernel
theorem dX12_findVisits_24 : decode cX12_findVisits 24 = .ok (.iload 4, 2) := by decide +kernel
theorem dX12_findVisits_26 : decode cX12_findVisits 26 = .ok (.ifCond .lt 225, 3) := by decide +kernel
theorem dX12_findVisits_29 : decode cX12_findVisits 29 = .ok (.aload_n 0, 1) := by decide +kernel
theorem dX12_findVisits_30 : decode cX12_findVisits 30 = .ok (.getfield 110, 3) := by decide +kernel
theorem dX12_findVisits_33 : decode cX12_findVisits 33 = .ok (.iload 4, 2) := by decide +kernel
theorem dX12_findVisits_35 : decode cX12_findVisits 35 = .ok (.dup2, 1) := by decide +kernel
theorem dX12_findVisits_36 : decode cX12_findVisits 36 = .ok (.iaload, 1) := by decide +kernel
theorem dX12_findVisits_37 : decode cX12_findVisits 37 = .ok (.iconst 1, 1) := by decide +kernel
theorem dX12_findVisits_38 : decode cX12_findVisits 38 = .ok (.iadd, 1) := by decide +kernel
theorem dX12_findVisits_39 : decode cX12_findVisits 39 = .ok (.iastore, 1) := by decide +kernel
theorem dX12_findVisits_40 : decode cX12_findVisits 40 = .ok (.aload_n 0, 1) := by decide +kernel
theorem dX12_findVisits_41 : decode cX12_findVisits 41 = .ok (.getfield 110, 3) := by decide +kernel
theorem dX12_findVisits_44 : decode cX12_findVisits 44 = .ok (.iload 4, 2) := by decide +kernel
theorem dX12_findVisits_46 : decode cX12_findVisits 46 = .ok (.iaload, 1) := by decide +kernel
theorem dX12_findVisits_47 : decode cX12_findVisits 47 = .ok (.aload_n 0, 1) := by decide +kernel
theorem dX12_findVisits_48 : decode cX12_findVisits 48 = .ok (.getfield 13, 3) := by decide +kernel
theorem dX12_findVisits_51 : decode cX12_findVisits 51 = .ok (.iconst 0, 1) := by decide +kernel
theorem dX12_findVisits_52 : decode cX12_findVisits 52 = .ok (.iaload, 1) := by decide +kernel
theorem dX12_findVisits_53 : decode cX12_findVisits 53 = .ok (.if_icmp .lt 9, 3) := by decide +kernel
theorem dX12_findVisits_56 : decode cX12_findVisits 56 = .ok (.iinc 4 (-1), 3) := by decide +kernel
theorem dX12_findVisits_59 : decode cX12_findVisits 59 = .ok (.goto (-35), 3) := by decide +kernel
theorem dX12_findVisits_62 : decode cX12_findVisits 62 = .ok (.aload_n 0, 1) := by decide +kernel
theorem dX12_findVisits_63 : decode cX12_findVisits 63 = .ok (.iload 4, 2) := by decide +kernel
theorem dX12_findVisits_65 : decode cX12_findVisits 65 = .ok (.invokevirtual 497, 3) := by decide +kernel
theorem dX12_findVisits_68 : decode cX12_findVisits 68 = .ok (.ifCond .eq (-44), 3) := by decide +kernel
theorem dX12_findVisits_71 : decode cX12_findVisits 71 = .ok (.aload_n 0, 1) := by decide +kernel
theorem dX12_findVisits_72 : decode cX12_findVisits 72 = .ok (.iload_n 1, 1) := by decide +kernel
theorem dX12_findVisits_73 : decode cX12_findVisits 73 = .ok (.aload_n 0, 1) := by decide +kernel
theorem dX12_findVisits_74 : decode cX12_findVisits 74 = .ok (.getfield 110, 3) := by decide +kernel
theorem dX12_findVisits_77 : decode cX12_findVisits 77 = .ok (.iload 4, 2) := by decide +kernel
theorem dX12_findVisits_79 : decode cX12_findVisits 79 = .ok (.iaload, 1) := by decide +kernel
theorem dX12_findVisits_80 : decode cX12_findVisits 80 = .ok (.invokevirtual 200, 3) := by decide +kernel
theorem dX12_findVisits_83 : decode cX12_findVisits 83 = .ok (.ifCond .le (-59), 3) := by decide +kernel
theorem dX12_findVisits_86 : decode cX12_findVisits 86 = .ok (.iload 4, 2) := by decide +kernel
theorem dX12_findVisits_88 : decode cX12_findVisits 88 = .ok (.ifCond .ne 16, 3) := by decide +kernel
theorem dX12_findVisits_91 : decode cX12_findVisits 91 = .ok (.aload_n 0, 1) := by decide +kernel
theorem dX12_findVisits_92 : decode cX12_findVisits 92 = .ok (.getfield 13, 3) := by decide +kernel
theorem dX12_findVisits_95 : decode cX12_findVisits 95 = .ok (.sipush 138, 3) := by decide +kernel
theorem dX12_findVisits_98 : decode cX12_findVisits 98 = .ok (.iload_n 1, 1) := by decide +kernel
theorem dX12_findVisits_99 : decode cX12_findVisits 99 = .ok (.iadd, 1) := by decide +kernel
theorem dX12_findVisits_100 : decode cX12_findVisits 100 = .ok (.iaload, 1) := by decide +kernel
theorem dX12_findVisits_101 : decode cX12_findVisits 101 = .ok (.goto 20, 3) := by decide +kernel
theorem dX12_findVisits_104 : decode cX12_findVisits 104 = .ok (.aload_n 0, 1) := by decide +kernel
theorem dX12_findVisits_105 : decode cX12_findVisits 105 = .ok (.getfield 13, 3) := by decide +kernel
theorem dX12_findVisits_108 : decode cX12_findVisits 108 = .ok (.bipush 126, 2) := by decide +kernel
theorem dX12_findVisits_110 : decode cX12_findVisits 110 = .ok (.aload_n 0, 1) := by decide +kernel
theorem dX12_findVisits_111 : decode cX12_findVisits 111 = .ok (.getfield 110, 3) := by decide +kernel
theorem dX12_findVisits_114 : decode cX12_findVisits 114 = .ok (.iload 4, 2) := by decide +kernel
theorem dX12_findVisits_116 : decode cX12_findVisits 116 = .ok (.iconst 1, 1) := by decide +kernel
theorem dX12_findVisits_117 : decode cX12_findVisits 117 = .ok (.isub, 1) := by decide +kernel
theorem dX12_findVisits_118 : decode cX12_findVisits 118 = .ok (.iaload, 1) := by decide +kernel
theorem dX12_findVisits_119 : decode cX12_findVisits 119 = .ok (.iadd, 1) := by decide +kernel
theorem dX12_findVisits_120 : decode cX12_findVisits 120 = .ok (.iaload, 1) := by decide +kernel
theorem dX12_findVisits_121 : decode cX12_findVisits 121 = .ok (.istore 5, 2) := by decide +kernel
theorem dX12_findVisits_123 : decode cX12_findVisits 123 = .ok (.aload_n 0, 1) := by decide +kernel
theorem dX12_findVisits_124 : decode cX12_findVisits 124 = .ok (.getfield 113, 3) := by decide +kernel
theorem dX12_findVisits_127 : decode cX12_findVisits 127 = .ok (.iload 4, 2) := by decide +kernel
theorem dX12_findVisits_129 : decode cX12_findVisits 129 = .ok (.iaload, 1) := by decide +kernel
theorem dX12_findVisits_130 : decode cX12_findVisits 130 = .ok (.iload 5, 2) := by decide +kernel
theorem dX12_findVisits_132 : decode cX12_findVisits 132 = .ok (.aload_n 0, 1) := by decide +kernel
theorem dX12_findVisits_133 : decode cX12_findVisits 133 = .ok (.getfield 13, 3) := by decide +kernel
theorem dX12_findVisits_136 : decode cX12_findVisits 136 = .ok (.bipush 126, 2) := by decide +kernel
theorem dX12_findVisits_138 : decode cX12_findVisits 138 = .ok (.aload_n 0, 1) := by decide +kernel
theorem dX12_findVisits_139 : decode cX12_findVisits 139 = .ok (.getfield 110, 3) := by decide +kernel
theorem dX12_findVisits_142 : decode cX12_findVisits 142 = .ok (.iload 4, 2) := by decide +kernel
theorem dX12_findVisits_144 : decode cX12_findVisits 144 = .ok (.iaload, 1) := by decide +kernel
theorem dX12_findVisits_145 : decode cX12_findVisits 145 = .ok (.iadd, 1) := by decide +kernel
theorem dX12_findVisits_146 : decode cX12_findVisits 146 = .ok (.iaload, 1) := by decide +kernel
theorem dX12_findVisits_147 : decode cX12_findVisits 147 = .ok (.invokestatic 500, 3) := by decide +kernel
theorem dX12_findVisits_150 : decode cX12_findVisits 150 = .ok (.iadd, 1) := by decide +kernel
theorem dX12_findVisits_151 : decode cX12_findVisits 151 = .ok (.istore 6, 2) := by decide +kernel
theorem dX12_findVisits_153 : decode cX12_findVisits 153 = .ok (.iload 6, 2) := by decide +kernel
theorem dX12_findVisits_155 : decode cX12_findVisits 155 = .ok (.iload_n 2, 1) := by decide +kernel
theorem dX12_findVisits_156 : decode cX12_findVisits 156 = .ok (.if_icmp .gt 92, 3) := by decide +kernel
theorem dX12_findVisits_159 : decode cX12_findVisits 159 = .ok (.iload 4, 2) := by decide +kernel
theorem dX12_findVisits_161 : decode cX12_findVisits 161 = .ok (.iconst 1, 1) := by decide +kernel
theorem dX12_findVisits_162 : decode cX12_findVisits 162 = .ok (.iadd, 1) := by decide +kernel
theorem dX12_findVisits_163 : decode cX12_findVisits 163 = .ok (.aload_n 0, 1) := by decide +kernel
theorem dX12_findVisits_164 : decode cX12_findVisits 164 = .ok (.getfield 494, 3) := by decide +kernel
theorem dX12_findVisits_167 : decode cX12_findVisits 167 = .ok (.if_icmp .gt 20, 3) := by decide +kernel
theorem dX12_findVisits_170 : decode cX12_findVisits 170 = .ok (.iload 4, 2) := by decide +kernel
theorem dX12_findVisits_172 : decode cX12_findVisits 172 = .ok (.iconst 1, 1) := by decide +kernel
theorem dX12_findVisits_173 : decode cX12_findVisits 173 = .ok (.iadd, 1) := by decide +kernel
theorem dX12_findVisits_174 : decode cX12_findVisits 174 = .ok (.aload_n 0, 1) := by decide +kernel
theorem dX12_findVisits_175 : decode cX12_findVisits 175 = .ok (.getfield 494, 3) := by decide +kernel
theorem dX12_findVisits_178 : decode cX12_findVisits 178 = .ok (.if_icmp .ne 50, 3) := by decide +kernel
theorem dX12_findVisits_181 : decode cX12_findVisits 181 = .ok (.iload 6, 2) := by decide +kernel
theorem dX12_findVisits_183 : decode cX12_findVisits 183 = .ok (.iload_n 3, 1) := by decide +kernel
theorem dX12_findVisits_184 : decode cX12_findVisits 184 = .ok (.if_icmp .ge 44, 3) := by decide +kernel
theorem dX12_findVisits_187 : decode cX12_findVisits 187 = .ok (.aload_n 0, 1) := by decide +kernel
theorem dX12_findVisits_188 : decode cX12_findVisits 188 = .ok (.iload 4, 2) := by decide +kernel
theorem dX12_findVisits_190 : decode cX12_findVisits 190 = .ok (.iconst 1, 1) := by decide +kernel
theorem dX12_findVisits_191 : decode cX12_findVisits 191 = .ok (.iadd, 1) := by decide +kernel
theorem dX12_findVisits_192 : decode cX12_findVisits 192 = .ok (.putfield 494, 3) := by decide +kernel
theorem dX12_findVisits_195 : decode cX12_findVisits 195 = .ok (.iload 6, 2) := by decide +kernel
theorem dX12_findVisits_197 : decode cX12_findVisits 197 = .ok (.istore_n 3, 1) := by decide +kernel
theorem dX12_findVisits_198 : decode cX12_findVisits 198 = .ok (.iconst 0, 1) := by decide +kernel
theorem dX12_findVisits_199 : decode cX12_findVisits 199 = .ok (.istore 7, 2) := by decide +kernel
theorem dX12_findVisits_201 : decode cX12_findVisits 201 = .ok (.iload 7, 2) := by decide +kernel
theorem dX12_findVisits_203 : decode cX12_findVisits 203 = .ok (.iload 4, 2) := by decide +kernel
theorem dX12_findVisits_205 : decode cX12_findVisits 205 = .ok (.if_icmp .gt 23, 3) := by decide +kernel
theorem dX12_findVisits_208 : decode cX12_findVisits 208 = .ok (.aload_n 0, 1) := by decide +kernel
theorem dX12_findVisits_209 : decode cX12_findVisits 209 = .ok (.getfield 116, 3) := by decide +kernel
theorem dX12_findVisits_212 : decode cX12_findVisits 212 = .ok (.iload 7, 2) := by decide +kernel
theorem dX12_findVisits_214 : decode cX12_findVisits 214 = .ok (.aload_n 0, 1) := by decide +kernel
theorem dX12_findVisits_215 : decode cX12_findVisits 215 = .ok (.getfield 110, 3) := by decide +kernel
theorem dX12_findVisits_218 : decode cX12_findVisits 218 = .ok (.iload 7, 2) := by decide +kernel
theorem dX12_findVisits_220 : decode cX12_findVisits 220 = .ok (.iaload, 1) := by decide +kernel
theorem dX12_findVisits_221 : decode cX12_findVisits 221 = .ok (.iastore, 1) := by decide +kernel
theorem dX12_findVisits_222 : decode cX12_findVisits 222 = .ok (.iinc 7 1, 3) := by decide +kernel
theorem dX12_findVisits_225 : decode cX12_findVisits 225 = .ok (.goto (-24), 3) := by decide +kernel
theorem dX12_findVisits_228 : decode cX12_findVisits 228 = .ok (.iinc 4 1, 3) := by decide +kernel
theorem dX12_findVisits_231 : decode cX12_findVisits 231 = .ok (.aload_n 0, 1) := by decide +kernel
theorem dX12_findVisits_232 : decode cX12_findVisits 232 = .ok (.getfield 113, 3) := by decide +kernel
theorem dX12_findVisits_235 : decode cX12_findVisits 235 = .ok (.iload 4, 2) := by decide +kernel
theorem dX12_findVisits_237 : decode cX12_findVisits 237 = .ok (.iload 6, 2) := by decide +kernel
theorem dX12_findVisits_239 : decode cX12_findVisits 239 = .ok (.iastore, 1) := by decide +kernel
theorem dX12_findVisits_240 : decode cX12_findVisits 240 = .ok (.aload_n 0, 1) := by decide +kernel
theorem dX12_findVisits_241 : decode cX12_findVisits 241 = .ok (.getfield 110, 3) := by decide +kernel
theorem dX12_findVisits_244 : decode cX12_findVisits 244 = .ok (.iload 4, 2) := by decide +kernel
theorem dX12_findVisits_246 : decode cX12_findVisits 246 = .ok (.iconst (-1), 1) := by decide +kernel
theorem dX12_findVisits_247 : decode cX12_findVisits 247 = .ok (.iastore, 1) := by decide +kernel
theorem dX12_findVisits_248 : decode cX12_findVisits 248 = .ok (.goto (-224), 3) := by decide +kernel
theorem dX12_findVisits_251 : decode cX12_findVisits 251 = .ok (.return_, 1) := by decide +kernel
theorem dX12_visits_0 : decode cX12_visits 0 = .ok (.aload_n 0, 1) := by decide +kernel
theorem dX12_visits_1 : decode cX12_visits 1 = .ok (.iconst 0, 1) := by decide +kernel
theorem dX12_visits_2 : decode cX12_visits 2 = .ok (.putfield 163, 3) := by decide +kernel
theorem dX12_visits_5 : decode cX12_visits 5 = .ok (.aload_n 0, 1) := by decide +kernel
theorem dX12_visits_6 : decode cX12_visits 6 = .ok (.iload_n 1, 1) := by decide +kernel
theorem dX12_visits_7 : decode cX12_visits 7 = .ok (.invokevirtual 223, 3) := by decide +kernel
theorem dX12_visits_10 : decode cX12_visits 10 = .ok (.ifCond .eq 28, 3) := by decide +kernel
theorem dX12_visits_13 : decode cX12_visits 13 = .ok (.aload_n 0, 1) := by decide +kernel
theorem dX12_visits_14 : decode cX12_visits 14 = .ok (.iload_n 1, 1) := by decide +kernel
theorem dX12_visits_15 : decode cX12_visits 15 = .ok (.invokevirtual 192, 3) := by decide +kernel
theorem dX12_visits_18 : decode cX12_visits 18 = .ok (.ifCond .eq 20, 3) := by decide +kernel
theorem dX12_visits_21 : decode cX12_visits 21 = .ok (.iload_n 2, 1) := by decide +kernel
theorem dX12_visits_22 : decode cX12_visits 22 = .ok (.i2l, 1) := by decide +kernel
theorem dX12_visits_23 : decode cX12_visits 23 = .ok (.lconst 0, 1) := by decide +kernel
theorem dX12_visits_24 : decode cX12_visits 24 = .ok (.ldc2_w 206, 3) := by decide +kernel
theorem dX12_visits_27 : decode cX12_visits 27 = .ok (.invokestatic 183, 3) := by decide +kernel
theorem dX12_visits_30 : decode cX12_visits 30 = .ok (.ifCond .eq 8, 3) := by decide +kernel
theorem dX12_visits_33 : decode cX12_visits 33 = .ok (.iload_n 3, 1) := by decide +kernel
theorem dX12_visits_34 : decode cX12_visits 34 = .ok (.iconst (-1), 1) := by decide +kernel
theorem dX12_visits_35 : decode cX12_visits 35 = .ok (.if_icmp .ge 5, 3) := by decide +kernel
theorem dX12_visits_38 : decode cX12_visits 38 = .ok (.iconst (-1), 1) := by decide +kernel
theorem dX12_visits_39 : decode cX12_visits 39 = .ok (.ireturn, 1) := by decide +kernel
theorem dX12_visits_40 : decode cX12_visits 40 = .ok (.aload_n 0, 1) := by decide +kernel
theorem dX12_visits_41 : decode cX12_visits 41 = .ok (.iload_n 1, 1) := by decide +kernel
theorem dX12_visits_42 : decode cX12_visits 42 = .ok (.iload_n 2, 1) := by decide +kernel
theorem dX12_visits_43 : decode cX12_visits 43 = .ok (.invokevirtual 503, 3) := by decide +kernel
theorem dX12_visits_46 : decode cX12_visits 46 = .ok (.iload_n 3, 1) := by decide +kernel
theorem dX12_visits_47 : decode cX12_visits 47 = .ok (.iconst (-1), 1) := by decide +kernel
theorem dX12_visits_48 : decode cX12_visits 48 = .ok (.if_icmp .ne 10, 3) := by decide +kernel
theorem dX12_visits_51 : decode cX12_visits 51 = .ok (.aload_n 0, 1) := by decide +kernel
theorem dX12_visits_52 : decode cX12_visits 52 = .ok (.getfield 494, 3) := by decide +kernel
theorem dX12_visits_55 : decode cX12_visits 55 = .ok (.goto 21, 3) := by decide +kernel
theorem dX12_visits_58 : decode cX12_visits 58 = .ok (.iload_n 3, 1) := by decide +kernel
theorem dX12_visits_59 : decode cX12_visits 59 = .ok (.aload_n 0, 1) := by decide +kernel
theorem dX12_visits_60 : decode cX12_visits 60 = .ok (.getfield 494, 3) := by decide +kernel
theorem dX12_visits_63 : decode cX12_visits 63 = .ok (.if_icmp .ge 12, 3) := by decide +kernel
theorem dX12_visits_66 : decode cX12_visits 66 = .ok (.aload_n 0, 1) := by decide +kernel
theorem dX12_visits_67 : decode cX12_visits 67 = .ok (.getfield 116, 3) := by decide +kernel
theorem dX12_visits_70 : decode cX12_visits 70 = .ok (.iload_n 3, 1) := by decide +kernel
theorem dX12_visits_71 : decode cX12_visits 71 = .ok (.iaload, 1) := by decide +kernel
theorem dX12_visits_72 : decode cX12_visits 72 = .ok (.goto 4, 3) := by decide +kernel
theorem dX12_visits_75 : decode cX12_visits 75 = .ok (.iconst (-1), 1) := by decide +kernel
theorem dX12_visits_76 : decode cX12_visits 76 = .ok (.ireturn, 1) := by decide +kernel
theorem dX12_canGive_0 : decode cX12_canGive 0 = .ok (.aload_n 0, 1) := by decide +kernel
theorem dX12_canGive_1 : decode cX12_canGive 1 = .ok (.getfield 119, 3) := by decide +kernel
theorem dX12_canGive_4 : decode cX12_canGive 4 = .ok (.iload_n 1, 1) := by decide +kernel
theorem dX12_canGive_5 : decode cX12_canGive 5 = .ok (.iaload, 1) := by decide +kernel
theorem dX12_canGive_6 : decode cX12_canGive 6 = .ok (.istore_n 2, 1) := by decide +kernel
theorem dX12_canGive_7 : decode cX12_canGive 7 = .ok (.iload_n 2, 1) := by decide +kernel
theorem dX12_canGive_8 : decode cX12_canGive 8 = .ok (.iload_n 1, 1) := by decide +kernel
theorem dX12_canGive_9 : decode cX12_canGive 9 = .ok (.if_icmp .eq 61, 3) := by decide +kernel
theorem dX12_canGive_12 : decode cX12_canGive 12 = .ok (.aload_n 0, 1) := by decide +kernel
theorem dX12_canGive_13 : decode cX12_canGive 13 = .ok (.iload_n 2, 1) := by decide +kernel
theorem dX12_canGive_14 : decode cX12_canGive 14 = .ok (.invokevirtual 192, 3) := by decide +kernel
theorem dX12_canGive_17 : decode cX12_canGive 17 = .ok (.ifCond .eq 53, 3) := by decide +kernel
theorem dX12_canGive_20 : decode cX12_canGive 20 = .ok (.aload_n 0, 1) := by decide +kernel
theorem dX12_canGive_21 : decode cX12_canGive 21 = .ok (.getfield 13, 3) := by decide +kernel
theorem dX12_canGive_24 : decode cX12_canGive 24 = .ok (.sipush 154, 3) := by decide +kernel
theorem dX12_canGive_27 : decode cX12_canGive 27 = .ok (.iload_n 1, 1) := by decide +kernel
theorem dX12_canGive_28 : decode cX12_canGive 28 = .ok (.iadd, 1) := by decide +kernel
theorem dX12_canGive_29 : decode cX12_canGive 29 = .ok (.iaload, 1) := by decide +kernel
theorem dX12_canGive_30 : decode cX12_canGive 30 = .ok (.iconst (-1), 1) := by decide +kernel
theorem dX12_canGive_31 : decode cX12_canGive 31 = .ok (.if_icmp .eq 39, 3) := by decide +kernel
theorem dX12_canGive_34 : decode cX12_canGive 34 = .ok (.aload_n 0, 1) := by decide +kernel
theorem dX12_canGive_35 : decode cX12_canGive 35 = .ok (.getfield 13, 3) := by decide +kernel
theorem dX12_canGive_38 : decode cX12_canGive 38 = .ok (.sipush 154, 3) := by decide +kernel
theorem dX12_canGive_41 : decode cX12_canGive 41 = .ok (.iload_n 2, 1) := by decide +kernel
theorem dX12_canGive_42 : decode cX12_canGive 42 = .ok (.iadd, 1) := by decide +kernel
theorem dX12_canGive_43 : decode cX12_canGive 43 = .ok (.iaload, 1) := by decide +kernel
theorem dX12_canGive_44 : decode cX12_canGive 44 = .ok (.iconst (-1), 1) := by decide +kernel
theorem dX12_canGive_45 : decode cX12_canGive 45 = .ok (.if_icmp .eq 25, 3) := by decide +kernel
theorem dX12_canGive_48 : decode cX12_canGive 48 = .ok (.aload_n 0, 1) := by decide +kernel
theorem dX12_canGive_49 : decode cX12_canGive 49 = .ok (.iload_n 2, 1) := by decide +kernel
theorem dX12_canGive_50 : decode cX12_canGive 50 = .ok (.aload_n 0, 1) := by decide +kernel
theorem dX12_canGive_51 : decode cX12_canGive 51 = .ok (.getfield 13, 3) := by decide +kernel
theorem dX12_canGive_54 : decode cX12_canGive 54 = .ok (.sipush 154, 3) := by decide +kernel
theorem dX12_canGive_57 : decode cX12_canGive 57 = .ok (.iload_n 1, 1) := by decide +kernel
theorem dX12_canGive_58 : decode cX12_canGive 58 = .ok (.iadd, 1) := by decide +kernel
theorem dX12_canGive_59 : decode cX12_canGive 59 = .ok (.iaload, 1) := by decide +kernel
theorem dX12_canGive_60 : decode cX12_canGive 60 = .ok (.invokevirtual 200, 3) := by decide +kernel
theorem dX12_canGive_63 : decode cX12_canGive 63 = .ok (.ifCond .le 7, 3) := by decide +kernel
theorem dX12_canGive_66 : decode cX12_canGive 66 = .ok (.iconst 1, 1) := by decide +kernel
theorem dX12_canGive_67 : decode cX12_canGive 67 = .ok (.goto 4, 3) := by decide +kernel
theorem dX12_canGive_70 : decode cX12_canGive 70 = .ok (.iconst 0, 1) := by decide +kernel
theorem dX12_canGive_71 : decode cX12_canGive 71 = .ok (.istore_n 3, 1) := by decide +kernel
theorem dX12_canGive_72 : decode cX12_canGive 72 = .ok (.iconst 0, 1) := by decide +kernel
theorem dX12_canGive_73 : decode cX12_canGive 73 = .ok (.istore 4, 2) := by decide +kernel
theorem dX12_canGive_75 : decode cX12_canGive 75 = .ok (.iload 4, 2) := by decide +kernel
theorem dX12_canGive_77 : decode cX12_canGive 77 = .ok (.iload_n 1, 1) := by decide +kernel
theorem dX12_canGive_78 : decode cX12_canGive 78 = .ok (.if_icmp .ge 30, 3) := by decide +kernel
theorem dX12_canGive_81 : decode cX12_canGive 81 = .ok (.iload_n 3, 1) := by decide +kernel
theorem dX12_canGive_82 : decode cX12_canGive 82 = .ok (.ifCond .eq 18, 3) := by decide +kernel
theorem dX12_canGive_85 : decode cX12_canGive 85 = .ok (.aload_n 0, 1) := by decide +kernel
theorem dX12_canGive_86 : decode cX12_canGive 86 = .ok (.getfield 119, 3) := by decide +kernel
theorem dX12_canGive_89 : decode cX12_canGive 89 = .ok (.iload 4, 2) := by decide +kernel
theorem dX12_canGive_91 : decode cX12_canGive 91 = .ok (.iaload, 1) := by decide +kernel
theorem dX12_canGive_92 : decode cX12_canGive 92 = .ok (.iload_n 2, 1) := by decide +kernel
theorem dX12_canGive_93 : decode cX12_canGive 93 = .ok (.if_icmp .eq 7, 3) := by decide +kernel
theorem dX12_canGive_96 : decode cX12_canGive 96 = .ok (.iconst 1, 1) := by decide +kernel
theorem dX12_canGive_97 : decode cX12_canGive 97 = .ok (.goto 4, 3) := by decide +kernel
theorem dX12_canGive_100 : decode cX12_canGive 100 = .ok (.iconst 0, 1) := by decide +kernel
theorem dX12_canGive_101 : decode cX12_canGive 101 = .ok (.istore_n 3, 1) := by decide +kernel
theorem dX12_canGive_102 : decode cX12_canGive 102 = .ok (.iinc 4 1, 3) := by decide +kernel
theorem dX12_canGive_105 : decode cX12_canGive 105 = .ok (.goto (-30), 3) := by decide +kernel
theorem dX12_canGive_108 : decode cX12_canGive 108 = .ok (.iload_n 3, 1) := by decide +kernel
theorem dX12_canGive_109 : decode cX12_canGive 109 = .ok (.ifCond .eq 27, 3) := by decide +kernel
theorem dX12_canGive_112 : decode cX12_canGive 112 = .ok (.iload_n 2, 1) := by decide +kernel
theorem dX12_canGive_113 : decode cX12_canGive 113 = .ok (.iload_n 1, 1) := by decide +kernel
theorem dX12_canGive_114 : decode cX12_canGive 114 = .ok (.if_icmp .ge 18, 3) := by decide +kernel
theorem dX12_canGive_117 : decode cX12_canGive 117 = .ok (.aload_n 0, 1) := by decide +kernel
theorem dX12_canGive_118 : decode cX12_canGive 118 = .ok (.getfield 119, 3) := by decide +kernel
theorem dX12_canGive_121 : decode cX12_canGive 121 = .ok (.iload_n 2, 1) := by decide +kernel
theorem dX12_canGive_122 : decode cX12_canGive 122 = .ok (.iaload, 1) := by decide +kernel
theorem dX12_canGive_123 : decode cX12_canGive 123 = .ok (.aload_n 0, 1) := by decide +kernel
theorem dX12_canGive_124 : decode cX12_canGive 124 = .ok (.getfield 13, 3) := by decide +kernel
theorem dX12_canGive_127 : decode cX12_canGive 127 = .ok (.iconst 1, 1) := by decide +kernel
theorem dX12_canGive_128 : decode cX12_canGive 128 = .ok (.iaload, 1) := by decide +kernel
theorem dX12_canGive_129 : decode cX12_canGive 129 = .ok (.if_icmp .eq 7, 3) := by decide +kernel
theorem dX12_canGive_132 : decode cX12_canGive 132 = .ok (.iconst 1, 1) := by decide +kernel
theorem dX12_canGive_133 : decode cX12_canGive 133 = .ok (.goto 4, 3) := by decide +kernel
theorem dX12_canGive_136 : decode cX12_canGive 136 = .ok (.iconst 0, 1) := by decide +kernel
theorem dX12_canGive_137 : decode cX12_canGive 137 = .ok (.ireturn, 1) := by decide +kernel
theorem dX12_gets_0 : decode cX12_gets 0 = .ok (.aload_n 0, 1) := by decide +kernel
theorem dX12_gets_1 : decode cX12_gets 1 = .ok (.getfield 13, 3) := by decide +kernel
theorem dX12_gets_4 : decode cX12_gets 4 = .ok (.iconst 1, 1) := by decide +kernel
theorem dX12_gets_5 : decode cX12_gets 5 = .ok (.iaload, 1) := by decide +kernel
theorem dX12_gets_6 : decode cX12_gets 6 = .ok (.istore_n 1, 1) := by decide +kernel
theorem dX12_gets_7 : decode cX12_gets 7 = .ok (.iconst 0, 1) := by decide +kernel
theorem dX12_gets_8 : decode cX12_gets 8 = .ok (.istore_n 2, 1) := by decide +kernel
theorem dX12_gets_9 : decode cX12_gets 9 = .ok (.iconst 0, 1) := by decide +kernel
theorem dX12_gets_10 : decode cX12_gets 10 = .ok (.istore_n 3, 1) := by decide +kernel
theorem dX12_gets_11 : decode cX12_gets 11 = .ok (.iconst 0, 1) := by decide +kernel
theorem dX12_gets_12 : decode cX12_gets 12 = .ok (.istore 4, 2) := by decide +kernel
theorem dX12_gets_14 : decode cX12_gets 14 = .ok (.iload 4, 2) := by decide +kernel
theorem dX12_gets_16 : decode cX12_gets 16 = .ok (.iload_n 1, 1) := by decide +kernel
theorem dX12_gets_17 : decode cX12_gets 17 = .ok (.if_icmp .ge 58, 3) := by decide +kernel
theorem dX12_gets_20 : decode cX12_gets 20 = .ok (.iload_n 3, 1) := by decide +kernel
theorem dX12_gets_21 : decode cX12_gets 21 = .ok (.aload_n 0, 1) := by decide +kernel
theorem dX12_gets_22 : decode cX12_gets 22 = .ok (.getfield 119, 3) := by decide +kernel
theorem dX12_gets_25 : decode cX12_gets 25 = .ok (.iload 4, 2) := by decide +kernel
theorem dX12_gets_27 : decode cX12_gets 27 = .ok (.iaload, 1) := by decide +kernel
theorem dX12_gets_28 : decode cX12_gets 28 = .ok (.iload_n 1, 1) := by decide +kernel
theorem dX12_gets_29 : decode cX12_gets 29 = .ok (.if_icmp .ne 7, 3) := by decide +kernel
theorem dX12_gets_32 : decode cX12_gets 32 = .ok (.iconst 0, 1) := by decide +kernel
theorem dX12_gets_33 : decode cX12_gets 33 = .ok (.goto 7, 3) := by decide +kernel
theorem dX12_gets_36 : decode cX12_gets 36 = .ok (.iconst 1, 1) := by decide +kernel
theorem dX12_gets_37 : decode cX12_gets 37 = .ok (.iload 4, 2) := by decide +kernel
theorem dX12_gets_39 : decode cX12_gets 39 = .ok (.ishl, 1) := by decide +kernel
theorem dX12_gets_40 : decode cX12_gets 40 = .ok (.ior, 1) := by decide +kernel
theorem dX12_gets_41 : decode cX12_gets 41 = .ok (.istore_n 3, 1) := by decide +kernel
theorem dX12_gets_42 : decode cX12_gets 42 = .ok (.iload_n 2, 1) := by decide +kernel
theorem dX12_gets_43 : decode cX12_gets 43 = .ok (.aload_n 0, 1) := by decide +kernel
theorem dX12_gets_44 : decode cX12_gets 44 = .ok (.getfield 119, 3) := by decide +kernel
theorem dX12_gets_47 : decode cX12_gets 47 = .ok (.iload 4, 2) := by decide +kernel
theorem dX12_gets_49 : decode cX12_gets 49 = .ok (.iaload, 1) := by decide +kernel
theorem dX12_gets_50 : decode cX12_gets 50 = .ok (.iload_n 1, 1) := by decide +kernel
theorem dX12_gets_51 : decode cX12_gets 51 = .ok (.if_icmp .ne 7, 3) := by decide +kernel
theorem dX12_gets_54 : decode cX12_gets 54 = .ok (.iconst 0, 1) := by decide +kernel
theorem dX12_gets_55 : decode cX12_gets 55 = .ok (.goto 12, 3) := by decide +kernel
theorem dX12_gets_58 : decode cX12_gets 58 = .ok (.iconst 1, 1) := by decide +kernel
theorem dX12_gets_59 : decode cX12_gets 59 = .ok (.aload_n 0, 1) := by decide +kernel
theorem dX12_gets_60 : decode cX12_gets 60 = .ok (.getfield 119, 3) := by decide +kernel
theorem dX12_gets_63 : decode cX12_gets 63 = .ok (.iload 4, 2) := by decide +kernel
theorem dX12_gets_65 : decode cX12_gets 65 = .ok (.iaload, 1) := by decide +kernel
theorem dX12_gets_66 : decode cX12_gets 66 = .ok (.ishl, 1) := by decide +kernel
theorem dX12_gets_67 : decode cX12_gets 67 = .ok (.ior, 1) := by decide +kernel
theorem dX12_gets_68 : decode cX12_gets 68 = .ok (.istore_n 2, 1) := by decide +kernel
theorem dX12_gets_69 : decode cX12_gets 69 = .ok (.iinc 4 1, 3) := by decide +kernel
theorem dX12_gets_72 : decode cX12_gets 72 = .ok (.goto (-58), 3) := by decide +kernel
theorem dX12_gets_75 : decode cX12_gets 75 = .ok (.iload_n 2, 1) := by decide +kernel
theorem dX12_gets_76 : decode cX12_gets 76 = .ok (.iload_n 3, 1) := by decide +kernel
theorem dX12_gets_77 : decode cX12_gets 77 = .ok (.if_icmp .ne 10, 3) := by decide +kernel
theorem dX12_gets_80 : decode cX12_gets 80 = .ok (.iload_n 3, 1) := by decide +kernel
theorem dX12_gets_81 : decode cX12_gets 81 = .ok (.invokestatic 479, 3) := by decide +kernel
theorem dX12_gets_84 : decode cX12_gets 84 = .ok (.goto 4, 3) := by decide +kernel
theorem dX12_gets_87 : decode cX12_gets 87 = .ok (.iconst (-1), 1) := by decide +kernel
theorem dX12_gets_88 : decode cX12_gets 88 = .ok (.ireturn, 1) := by decide +kernel
theorem dX12_findExchange_0 : decode cX12_findExchange 0 = .ok (.aload_n 0, 1) := by decide +kernel
theorem dX12_findExchange_1 : decode cX12_findExchange 1 = .ok (.getfield 13, 3) := by decide +kernel
theorem dX12_findExchange_4 : decode cX12_findExchange 4 = .ok (.iconst 1, 1) := by decide +kernel
theorem dX12_findExchange_5 : decode cX12_findExchange 5 = .ok (.iaload, 1) := by decide +kernel
theorem dX12_findExchange_6 : decode cX12_findExchange 6 = .ok (.istore_n 1, 1) := by decide +kernel
theorem dX12_findExchange_7 : decode cX12_findExchange 7 = .ok (.iconst (-1), 1) := by decide +kernel
theorem dX12_findExchange_8 : decode cX12_findExchange 8 = .ok (.istore_n 2, 1) := by decide +kernel
theorem dX12_findExchange_9 : decode cX12_findExchange 9 = .ok (.iconst 0, 1) := by decide +kernel
theorem dX12_findExchange_10 : decode cX12_findExchange 10 = .ok (.istore_n 3, 1) := by decide +kernel
theorem dX12_findExchange_11 : decode cX12_findExchange 11 = .ok (.aload_n 0, 1) := by decide +kernel
theorem dX12_findExchange_12 : decode cX12_findExchange 12 = .ok (.getfield 119, 3) := by decide +kernel
theorem dX12_findExchange_15 : decode cX12_findExchange 15 = .ok (.iconst 0, 1) := by decide +kernel
theorem dX12_findExchange_16 : decode cX12_findExchange 16 = .ok (.iconst (-1), 1) := by decide +kernel
theorem dX12_findExchange_17 : decode cX12_findExchange 17 = .ok (.iastore, 1) := by decide +kernel
theorem dX12_findExchange_18 : decode cX12_findExchange 18 = .ok (.iload_n 3, 1) := by decide +kernel
theorem dX12_findExchange_19 : decode cX12_findExchange 19 = .ok (.ifCond .lt 149, 3) := by decide +kernel
theorem dX12_findExchange_22 : decode cX12_findExchange 22 = .ok (.iload_n 3, 1) := by decide +kernel
theorem dX12_findExchange_23 : decode cX12_findExchange 23 = .ok (.iload_n 1, 1) := by decide +kernel
theorem dX12_findExchange_24 : decode cX12_findExchange 24 = .ok (.if_icmp .ne 79, 3) := by decide +kernel
theorem dX12_findExchange_27 : decode cX12_findExchange 27 = .ok (.aload_n 0, 1) := by decide +kernel
theorem dX12_findExchange_28 : decode cX12_findExchange 28 = .ok (.invokevirtual 506, 3) := by decide +kernel
theorem dX12_findExchange_31 : decode cX12_findExchange 31 = .ok (.istore 4, 2) := by decide +kernel
theorem dX12_findExchange_33 : decode cX12_findExchange 33 = .ok (.iconst 0, 1) := by decide +kernel
theorem dX12_findExchange_34 : decode cX12_findExchange 34 = .ok (.istore 5, 2) := by decide +kernel
theorem dX12_findExchange_36 : decode cX12_findExchange 36 = .ok (.iload 5, 2) := by decide +kernel
theorem dX12_findExchange_38 : decode cX12_findExchange 38 = .ok (.iload_n 1, 1) := by decide +kernel
theorem dX12_findExchange_39 : decode cX12_findExchange 39 = .ok (.if_icmp .ge 45, 3) := by decide +kernel
theorem dX12_findExchange_42 : decode cX12_findExchange 42 = .ok (.iload 4, 2) := by decide +kernel
theorem dX12_findExchange_44 : decode cX12_findExchange 44 = .ok (.iload_n 2, 1) := by decide +kernel
theorem dX12_findExchange_45 : decode cX12_findExchange 45 = .ok (.if_icmp .le 39, 3) := by decide +kernel
theorem dX12_findExchange_48 : decode cX12_findExchange 48 = .ok (.aload_n 0, 1) := by decide +kernel
theorem dX12_findExchange_49 : decode cX12_findExchange 49 = .ok (.getfield 122, 3) := by decide +kernel
theorem dX12_findExchange_52 : decode cX12_findExchange 52 = .ok (.iload 5, 2) := by decide +kernel
theorem dX12_findExchange_54 : decode cX12_findExchange 54 = .ok (.aload_n 0, 1) := by decide +kernel
theorem dX12_findExchange_55 : decode cX12_findExchange 55 = .ok (.getfield 119, 3) := by decide +kernel
theorem dX12_findExchange_58 : decode cX12_findExchange 58 = .ok (.iload 5, 2) := by decide +kernel
theorem dX12_findExchange_60 : decode cX12_findExchange 60 = .ok (.iaload, 1) := by decide +kernel
theorem dX12_findExchange_61 : decode cX12_findExchange 61 = .ok (.iload_n 1, 1) := by decide +kernel
theorem dX12_findExchange_62 : decode cX12_findExchange 62 = .ok (.if_icmp .ne 8, 3) := by decide +kernel
theorem dX12_findExchange_65 : decode cX12_findExchange 65 = .ok (.bipush 100, 2) := by decide +kernel
theorem dX12_findExchange_67 : decode cX12_findExchange 67 = .ok (.goto 10, 3) := by decide +kernel
theorem dX12_findExchange_70 : decode cX12_findExchange 70 = .ok (.aload_n 0, 1) := by decide +kernel
theorem dX12_findExchange_71 : decode cX12_findExchange 71 = .ok (.getfield 119, 3) := by decide +kernel
theorem dX12_findExchange_74 : decode cX12_findExchange 74 = .ok (.iload 5, 2) := by decide +kernel
theorem dX12_findExchange_76 : decode cX12_findExchange 76 = .ok (.iaload, 1) := by decide +kernel
theorem dX12_findExchange_77 : decode cX12_findExchange 77 = .ok (.iastore, 1) := by decide +kernel
theorem dX12_findExchange_78 : decode cX12_findExchange 78 = .ok (.iinc 5 1, 3) := by decide +kernel
theorem dX12_findExchange_81 : decode cX12_findExchange 81 = .ok (.goto (-45), 3) := by decide +kernel
theorem dX12_findExchange_84 : decode cX12_findExchange 84 = .ok (.iload 4, 2) := by decide +kernel
theorem dX12_findExchange_86 : decode cX12_findExchange 86 = .ok (.iload_n 2, 1) := by decide +kernel
theorem dX12_findExchange_87 : decode cX12_findExchange 87 = .ok (.if_icmp .le 8, 3) := by decide +kernel
theorem dX12_findExchange_90 : decode cX12_findExchange 90 = .ok (.iload 4, 2) := by decide +kernel
theorem dX12_findExchange_92 : decode cX12_findExchange 92 = .ok (.goto 4, 3) := by decide +kernel
theorem dX12_findExchange_95 : decode cX12_findExchange 95 = .ok (.iload_n 2, 1) := by decide +kernel
theorem dX12_findExchange_96 : decode cX12_findExchange 96 = .ok (.istore_n 2, 1) := by decide +kernel
theorem dX12_findExchange_97 : decode cX12_findExchange 97 = .ok (.iinc 3 (-1), 3) := by decide +kernel
theorem dX12_findExchange_100 : decode cX12_findExchange 100 = .ok (.goto (-82), 3) := by decide +kernel
theorem dX12_findExchange_103 : decode cX12_findExchange 103 = .ok (.aload_n 0, 1) := by decide +kernel
theorem dX12_findExchange_104 : decode cX12_findExchange 104 = .ok (.getfield 119, 3) := by decide +kernel
theorem dX12_findExchange_107 : decode cX12_findExchange 107 = .ok (.iload_n 3, 1) := by decide +kernel
theorem dX12_findExchange_108 : decode cX12_findExchange 108 = .ok (.dup2, 1) := by decide +kernel
theorem dX12_findExchange_109 : decode cX12_findExchange 109 = .ok (.iaload, 1) := by decide +kernel
theorem dX12_findExchange_110 : decode cX12_findExchange 110 = .ok (.iconst 1, 1) := by decide +kernel
theorem dX12_findExchange_111 : decode cX12_findExchange 111 = .ok (.iadd, 1) := by decide +kernel
theorem dX12_findExchange_112 : decode cX12_findExchange 112 = .ok (.iastore, 1) := by decide +kernel
theorem dX12_findExchange_113 : decode cX12_findExchange 113 = .ok (.aload_n 0, 1) := by decide +kernel
theorem dX12_findExchange_114 : decode cX12_findExchange 114 = .ok (.getfield 119, 3) := by decide +kernel
theorem dX12_findExchange_117 : decode cX12_findExchange 117 = .ok (.iload_n 3, 1) := by decide +kernel
theorem dX12_findExchange_118 : decode cX12_findExchange 118 = .ok (.iaload, 1) := by decide +kernel
theorem dX12_findExchange_119 : decode cX12_findExchange 119 = .ok (.iload_n 1, 1) := by decide +kernel
theorem dX12_findExchange_120 : decode cX12_findExchange 120 = .ok (.if_icmp .le 9, 3) := by decide +kernel
theorem dX12_findExchange_123 : decode cX12_findExchange 123 = .ok (.iinc 3 (-1), 3) := by decide +kernel
theorem dX12_findExchange_126 : decode cX12_findExchange 126 = .ok (.goto (-108), 3) := by decide +kernel
theorem dX12_findExchange_129 : decode cX12_findExchange 129 = .ok (.aload_n 0, 1) := by decide +kernel
theorem dX12_findExchange_130 : decode cX12_findExchange 130 = .ok (.getfield 119, 3) := by decide +kernel
theorem dX12_findExchange_133 : decode cX12_findExchange 133 = .ok (.iload_n 3, 1) := by decide +kernel
theorem dX12_findExchange_134 : decode cX12_findExchange 134 = .ok (.iaload, 1) := by decide +kernel
theorem dX12_findExchange_135 : decode cX12_findExchange 135 = .ok (.iload_n 1, 1) := by decide +kernel
theorem dX12_findExchange_136 : decode cX12_findExchange 136 = .ok (.if_icmp .eq 19, 3) := by decide +kernel
theorem dX12_findExchange_139 : decode cX12_findExchange 139 = .ok (.aload_n 0, 1) := by decide +kernel
theorem dX12_findExchange_140 : decode cX12_findExchange 140 = .ok (.iload_n 3, 1) := by decide +kernel
theorem dX12_findExchange_141 : decode cX12_findExchange 141 = .ok (.invokevirtual 192, 3) := by decide +kernel
theorem dX12_findExchange_144 : decode cX12_findExchange 144 = .ok (.ifCond .eq (-126), 3) := by decide +kernel
theorem dX12_findExchange_147 : decode cX12_findExchange 147 = .ok (.aload_n 0, 1) := by decide +kernel
theorem dX12_findExchange_148 : decode cX12_findExchange 148 = .ok (.iload_n 3, 1) := by decide +kernel
theorem dX12_findExchange_149 : decode cX12_findExchange 149 = .ok (.invokevirtual 509, 3) := by decide +kernel
theorem dX12_findExchange_152 : decode cX12_findExchange 152 = .ok (.ifCond .eq (-134), 3) := by decide +kernel
theorem dX12_findExchange_155 : decode cX12_findExchange 155 = .ok (.iinc 3 1, 3) := by decide +kernel
theorem dX12_findExchange_158 : decode cX12_findExchange 158 = .ok (.aload_n 0, 1) := by decide +kernel
theorem dX12_findExchange_159 : decode cX12_findExchange 159 = .ok (.getfield 119, 3) := by decide +kernel
theorem dX12_findExchange_162 : decode cX12_findExchange 162 = .ok (.iload_n 3, 1) := by decide +kernel
theorem dX12_findExchange_163 : decode cX12_findExchange 163 = .ok (.iconst (-1), 1) := by decide +kernel
theorem dX12_findExchange_164 : decode cX12_findExchange 164 = .ok (.iastore, 1) := by decide +kernel
theorem dX12_findExchange_165 : decode cX12_findExchange 165 = .ok (.goto (-147), 3) := by decide +kernel
theorem dX12_findExchange_168 : decode cX12_findExchange 168 = .ok (.iload_n 2, 1) := by decide +kernel
theorem dX12_findExchange_169 : decode cX12_findExchange 169 = .ok (.ireturn, 1) := by decide +kernel
theorem dX12_exchange_0 : decode cX12_exchange 0 = .ok (.aload_n 0, 1) := by decide +kernel
theorem dX12_exchange_1 : decode cX12_exchange 1 = .ok (.iconst 0, 1) := by decide +kernel
theorem dX12_exchange_2 : decode cX12_exchange 2 = .ok (.putfield 163, 3) := by decide +kernel
theorem dX12_exchange_5 : decode cX12_exchange 5 = .ok (.iload_n 1, 1) := by decide +kernel
theorem dX12_exchange_6 : decode cX12_exchange 6 = .ok (.i2l, 1) := by decide +kernel
theorem dX12_exchange_7 : decode cX12_exchange 7 = .ok (.lconst 0, 1) := by decide +kernel
theorem dX12_exchange_8 : decode cX12_exchange 8 = .ok (.aload_n 0, 1) := by decide +kernel
theorem dX12_exchange_9 : decode cX12_exchange 9 = .ok (.getfield 13, 3) := by decide +kernel
theorem dX12_exchange_12 : decode cX12_exchange 12 = .ok (.iconst 1, 1) := by decide +kernel
theorem dX12_exchange_13 : decode cX12_exchange 13 = .ok (.iaload, 1) := by decide +kernel
theorem dX12_exchange_14 : decode cX12_exchange 14 = .ok (.i2l, 1) := by decide +kernel
theorem dX12_exchange_15 : decode cX12_exchange 15 = .ok (.invokestatic 183, 3) := by decide +kernel
theorem dX12_exchange_18 : decode cX12_exchange 18 = .ok (.ifCond .ne 5, 3) := by decide +kernel
theorem dX12_exchange_21 : decode cX12_exchange 21 = .ok (.iconst (-1), 1) := by decide +kernel
theorem dX12_exchange_22 : decode cX12_exchange 22 = .ok (.ireturn, 1) := by decide +kernel
theorem dX12_exchange_23 : decode cX12_exchange 23 = .ok (.aload_n 0, 1) := by decide +kernel
theorem dX12_exchange_24 : decode cX12_exchange 24 = .ok (.invokevirtual 512, 3) := by decide +kernel
theorem dX12_exchange_27 : decode cX12_exchange 27 = .ok (.istore_n 2, 1) := by decide +kernel
theorem dX12_exchange_28 : decode cX12_exchange 28 = .ok (.iload_n 1, 1) := by decide +kernel
theorem dX12_exchange_29 : decode cX12_exchange 29 = .ok (.ifCond .ne 7, 3) := by decide +kernel
theorem dX12_exchange_32 : decode cX12_exchange 32 = .ok (.iload_n 2, 1) := by decide +kernel
theorem dX12_exchange_33 : decode cX12_exchange 33 = .ok (.goto 11, 3) := by decide +kernel
theorem dX12_exchange_36 : decode cX12_exchange 36 = .ok (.aload_n 0, 1) := by decide +kernel
theorem dX12_exchange_37 : decode cX12_exchange 37 = .ok (.getfield 122, 3) := by decide +kernel
theorem dX12_exchange_40 : decode cX12_exchange 40 = .ok (.iload_n 1, 1) := by decide +kernel
theorem dX12_exchange_41 : decode cX12_exchange 41 = .ok (.iconst 1, 1) := by decide +kernel
theorem dX12_exchange_42 : decode cX12_exchange 42 = .ok (.isub, 1) := by decide +kernel
theorem dX12_exchange_43 : decode cX12_exchange 43 = .ok (.iaload, 1) := by decide +kernel
theorem dX12_exchange_44 : decode cX12_exchange 44 = .ok (.ireturn, 1) := by decide +kernel
theorem dX12_clue_0 : decode cX12_clue 0 = .ok (.aload_n 0, 1) := by decide +kernel
theorem dX12_clue_1 : decode cX12_clue 1 = .ok (.iconst 0, 1) := by decide +kernel
theorem dX12_clue_2 : decode cX12_clue 2 = .ok (.putfield 163, 3) := by decide +kernel
theorem dX12_clue_5 : decode cX12_clue 5 = .ok (.iload_n 2, 1) := by decide +kernel
theorem dX12_clue_6 : decode cX12_clue 6 = .ok (.i2l, 1) := by decide +kernel
theorem dX12_clue_7 : decode cX12_clue 7 = .ok (.lconst 0, 1) := by decide +kernel
theorem dX12_clue_8 : decode cX12_clue 8 = .ok (.ldc2_w 206, 3) := by decide +kernel
theorem dX12_clue_11 : decode cX12_clue 11 = .ok (.invokestatic 183, 3) := by decide +kernel
theorem dX12_clue_14 : decode cX12_clue 14 = .ok (.ifCond .ne 9, 3) := by decide +kernel
theorem dX12_clue_17 : decode cX12_clue 17 = .ok (.aload_n 0, 1) := by decide +kernel
theorem dX12_clue_18 : decode cX12_clue 18 = .ok (.iconst (-1), 1) := by decide +kernel
theorem dX12_clue_19 : decode cX12_clue 19 = .ok (.invokevirtual 172, 3) := by decide +kernel
theorem dX12_clue_22 : decode cX12_clue 22 = .ok (.ireturn, 1) := by decide +kernel
theorem dX12_clue_23 : decode cX12_clue 23 = .ok (.aload_n 0, 1) := by decide +kernel
theorem dX12_clue_24 : decode cX12_clue 24 = .ok (.iload_n 1, 1) := by decide +kernel
theorem dX12_clue_25 : decode cX12_clue 25 = .ok (.invokevirtual 208, 3) := by decide +kernel
theorem dX12_clue_28 : decode cX12_clue 28 = .ok (.ifCond .ne 10, 3) := by decide +kernel
theorem dX12_clue_31 : decode cX12_clue 31 = .ok (.aload_n 0, 1) := by decide +kernel
theorem dX12_clue_32 : decode cX12_clue 32 = .ok (.bipush (-2), 2) := by decide +kernel
theorem dX12_clue_34 : decode cX12_clue 34 = .ok (.invokevirtual 172, 3) := by decide +kernel
theorem dX12_clue_37 : decode cX12_clue 37 = .ok (.ireturn, 1) := by decide +kernel
theorem dX12_clue_38 : decode cX12_clue 38 = .ok (.aload_n 0, 1) := by decide +kernel
theorem dX12_clue_39 : decode cX12_clue 39 = .ok (.getfield 13, 3) := by decide +kernel
theorem dX12_clue_42 : decode cX12_clue 42 = .ok (.iconst 2, 1) := by decide +kernel
theorem dX12_clue_43 : decode cX12_clue 43 = .ok (.iaload, 1) := by decide +kernel
theorem dX12_clue_44 : decode cX12_clue 44 = .ok (.istore_n 3, 1) := by decide +kernel
theorem dX12_clue_45 : decode cX12_clue 45 = .ok (.iload_n 3, 1) := by decide +kernel
theorem dX12_clue_46 : decode cX12_clue 46 = .ok (.bipush 6, 2) := by decide +kernel
theorem dX12_clue_48 : decode cX12_clue 48 = .ok (.if_icmp .ne 10, 3) := by decide +kernel
theorem dX12_clue_51 : decode cX12_clue 51 = .ok (.aload_n 0, 1) := by decide +kernel
theorem dX12_clue_52 : decode cX12_clue 52 = .ok (.bipush (-5), 2) := by decide +kernel
theorem dX12_clue_54 : decode cX12_clue 54 = .ok (.invokevirtual 172, 3) := by decide +kernel
theorem dX12_clue_57 : decode cX12_clue 57 = .ok (.ireturn, 1) := by decide +kernel
theorem dX12_clue_58 : decode cX12_clue 58 = .ok (.aload_n 0, 1) := by decide +kernel
theorem dX12_clue_59 : decode cX12_clue 59 = .ok (.getfield 13, 3) := by decide +kernel
theorem dX12_clue_62 : decode cX12_clue 62 = .ok (.sipush 170, 3) := by decide +kernel
theorem dX12_clue_65 : decode cX12_clue 65 = .ok (.iconst 2, 1) := by decide +kernel
theorem dX12_clue_66 : decode cX12_clue 66 = .ok (.iload_n 3, 1) := by decide +kernel
theorem dX12_clue_67 : decode cX12_clue 67 = .ok (.imul, 1) := by decide +kernel
theorem dX12_clue_68 : decode cX12_clue 68 = .ok (.iadd, 1) := by decide +kernel
theorem dX12_clue_69 : decode cX12_clue 69 = .ok (.iload_n 1, 1) := by decide +kernel
theorem dX12_clue_70 : decode cX12_clue 70 = .ok (.iastore, 1) := by decide +kernel
theorem dX12_clue_71 : decode cX12_clue 71 = .ok (.aload_n 0, 1) := by decide +kernel
theorem dX12_clue_72 : decode cX12_clue 72 = .ok (.getfield 13, 3) := by decide +kernel
theorem dX12_clue_75 : decode cX12_clue 75 = .ok (.sipush 170, 3) := by decide +kernel
theorem dX12_clue_78 : decode cX12_clue 78 = .ok (.iconst 2, 1) := by decide +kernel
theorem dX12_clue_79 : decode cX12_clue 79 = .ok (.iload_n 3, 1) := by decide +kernel
theorem dX12_clue_80 : decode cX12_clue 80 = .ok (.imul, 1) := by decide +kernel
theorem dX12_clue_81 : decode cX12_clue 81 = .ok (.iadd, 1) := by decide +kernel
theorem dX12_clue_82 : decode cX12_clue 82 = .ok (.iconst 1, 1) := by decide +kernel
theorem dX12_clue_83 : decode cX12_clue 83 = .ok (.iadd, 1) := by decide +kernel
theorem dX12_clue_84 : decode cX12_clue 84 = .ok (.iload_n 2, 1) := by decide +kernel
theorem dX12_clue_85 : decode cX12_clue 85 = .ok (.iastore, 1) := by decide +kernel
theorem dX12_clue_86 : decode cX12_clue 86 = .ok (.aload_n 0, 1) := by decide +kernel
theorem dX12_clue_87 : decode cX12_clue 87 = .ok (.getfield 13, 3) := by decide +kernel
theorem dX12_clue_90 : decode cX12_clue 90 = .ok (.iconst 2, 1) := by decide +kernel
theorem dX12_clue_91 : decode cX12_clue 91 = .ok (.dup2, 1) := by decide +kernel
theorem dX12_clue_92 : decode cX12_clue 92 = .ok (.iaload, 1) := by decide +kernel
theorem dX12_clue_93 : decode cX12_clue 93 = .ok (.iconst 1, 1) := by decide +kernel
theorem dX12_clue_94 : decode cX12_clue 94 = .ok (.iadd, 1) := by decide +kernel
theorem dX12_clue_95 : decode cX12_clue 95 = .ok (.iastore, 1) := by decide +kernel
theorem dX12_clue_96 : decode cX12_clue 96 = .ok (.aload_n 0, 1) := by decide +kernel
theorem dX12_clue_97 : decode cX12_clue 97 = .ok (.iload_n 3, 1) := by decide +kernel
theorem dX12_clue_98 : decode cX12_clue 98 = .ok (.iconst 1, 1) := by decide +kernel
theorem dX12_clue_99 : decode cX12_clue 99 = .ok (.iadd, 1) := by decide +kernel
theorem dX12_clue_100 : decode cX12_clue 100 = .ok (.invokevirtual 172, 3) := by decide +kernel
theorem dX12_clue_103 : decode cX12_clue 103 = .ok (.ireturn, 1) := by decide +kernel
theorem dX12_forget_0 : decode cX12_forget 0 = .ok (.aload_n 0, 1) := by decide +kernel
theorem dX12_forget_1 : decode cX12_forget 1 = .ok (.iconst 0, 1) := by decide +kernel
theorem dX12_forget_2 : decode cX12_forget 2 = .ok (.putfield 163, 3) := by decide +kernel
theorem dX12_forget_5 : decode cX12_forget 5 = .ok (.aload_n 0, 1) := by decide +kernel
theorem dX12_forget_6 : decode cX12_forget 6 = .ok (.getfield 13, 3) := by decide +kernel
theorem dX12_forget_9 : decode cX12_forget 9 = .ok (.iconst 2, 1) := by decide +kernel
theorem dX12_forget_10 : decode cX12_forget 10 = .ok (.iaload, 1) := by decide +kernel
theorem dX12_forget_11 : decode cX12_forget 11 = .ok (.istore_n 1, 1) := by decide +kernel
theorem dX12_forget_12 : decode cX12_forget 12 = .ok (.aload_n 0, 1) := by decide +kernel
theorem dX12_forget_13 : decode cX12_forget 13 = .ok (.getfield 13, 3) := by decide +kernel
theorem dX12_forget_16 : decode cX12_forget 16 = .ok (.iconst 2, 1) := by decide +kernel
theorem dX12_forget_17 : decode cX12_forget 17 = .ok (.iconst 0, 1) := by decide +kernel
theorem dX12_forget_18 : decode cX12_forget 18 = .ok (.iastore, 1) := by decide +kernel
theorem dX12_forget_19 : decode cX12_forget 19 = .ok (.iload_n 1, 1) := by decide +kernel
theorem dX12_forget_20 : decode cX12_forget 20 = .ok (.ireturn, 1) := by decide +kernel
theorem dX12_timesTold_0 : decode cX12_timesTold 0 = .ok (.iconst 0, 1) := by decide +kernel
theorem dX12_timesTold_1 : decode cX12_timesTold 1 = .ok (.istore_n 2, 1) := by decide +kernel
theorem dX12_timesTold_2 : decode cX12_timesTold 2 = .ok (.iconst 0, 1) := by decide +kernel
theorem dX12_timesTold_3 : decode cX12_timesTold 3 = .ok (.istore_n 3, 1) := by decide +kernel
theorem dX12_timesTold_4 : decode cX12_timesTold 4 = .ok (.iload_n 3, 1) := by decide +kernel
theorem dX12_timesTold_5 : decode cX12_timesTold 5 = .ok (.aload_n 0, 1) := by decide +kernel
theorem dX12_timesTold_6 : decode cX12_timesTold 6 = .ok (.getfield 13, 3) := by decide +kernel
theorem dX12_timesTold_9 : decode cX12_timesTold 9 = .ok (.iconst 2, 1) := by decide +kernel
theorem dX12_timesTold_10 : decode cX12_timesTold 10 = .ok (.iaload, 1) := by decide +kernel
theorem dX12_timesTold_11 : decode cX12_timesTold 11 = .ok (.if_icmp .ge 33, 3) := by decide +kernel
theorem dX12_timesTold_14 : decode cX12_timesTold 14 = .ok (.iload_n 2, 1) := by decide +kernel
theorem dX12_timesTold_15 : decode cX12_timesTold 15 = .ok (.aload_n 0, 1) := by decide +kernel
theorem dX12_timesTold_16 : decode cX12_timesTold 16 = .ok (.getfield 13, 3) := by decide +kernel
theorem dX12_timesTold_19 : decode cX12_timesTold 19 = .ok (.sipush 170, 3) := by decide +kernel
theorem dX12_timesTold_22 : decode cX12_timesTold 22 = .ok (.iconst 2, 1) := by decide +kernel
theorem dX12_timesTold_23 : decode cX12_timesTold 23 = .ok (.iload_n 3, 1) := by decide +kernel
theorem dX12_timesTold_24 : decode cX12_timesTold 24 = .ok (.imul, 1) := by decide +kernel
theorem dX12_timesTold_25 : decode cX12_timesTold 25 = .ok (.iadd, 1) := by decide +kernel
theorem dX12_timesTold_26 : decode cX12_timesTold 26 = .ok (.iaload, 1) := by decide +kernel
theorem dX12_timesTold_27 : decode cX12_timesTold 27 = .ok (.iload_n 1, 1) := by decide +kernel
theorem dX12_timesTold_28 : decode cX12_timesTold 28 = .ok (.if_icmp .ne 7, 3) := by decide +kernel
theorem dX12_timesTold_31 : decode cX12_timesTold 31 = .ok (.iconst 1, 1) := by decide +kernel
theorem dX12_timesTold_32 : decode cX12_timesTold 32 = .ok (.goto 4, 3) := by decide +kernel
theorem dX12_timesTold_35 : decode cX12_timesTold 35 = .ok (.iconst 0, 1) := by decide +kernel
theorem dX12_timesTold_36 : decode cX12_timesTold 36 = .ok (.iadd, 1) := by decide +kernel
theorem dX12_timesTold_37 : decode cX12_timesTold 37 = .ok (.istore_n 2, 1) := by decide +kernel
theorem dX12_timesTold_38 : decode cX12_timesTold 38 = .ok (.iinc 3 1, 3) := by decide +kernel
theorem dX12_timesTold_41 : decode cX12_timesTold 41 = .ok (.goto (-37), 3) := by decide +kernel
theorem dX12_timesTold_44 : decode cX12_timesTold 44 = .ok (.iload_n 2, 1) := by decide +kernel
theorem dX12_timesTold_45 : decode cX12_timesTold 45 = .ok (.ireturn, 1) := by decide +kernel
theorem dX12_canHaveRung_0 : decode cX12_canHaveRung 0 = .ok (.aload_n 0, 1) := by decide +kernel
theorem dX12_canHaveRung_1 : decode cX12_canHaveRung 1 = .ok (.iload_n 1, 1) := by decide +kernel
theorem dX12_canHaveRung_2 : decode cX12_canHaveRung 2 = .ok (.invokevirtual 192, 3) := by decide +kernel
theorem dX12_canHaveRung_5 : decode cX12_canHaveRung 5 = .ok (.istore_n 2, 1) := by decide +kernel
theorem dX12_canHaveRung_6 : decode cX12_canHaveRung 6 = .ok (.aload_n 0, 1) := by decide +kernel
theorem dX12_canHaveRung_7 : decode cX12_canHaveRung 7 = .ok (.getfield 13, 3) := by decide +kernel
theorem dX12_canHaveRung_10 : decode cX12_canHaveRung 10 = .ok (.sipush 138, 3) := by decide +kernel
theorem dX12_canHaveRung_13 : decode cX12_canHaveRung 13 = .ok (.iload_n 1, 1) := by decide +kernel
theorem dX12_canHaveRung_14 : decode cX12_canHaveRung 14 = .ok (.iadd, 1) := by decide +kernel
theorem dX12_canHaveRung_15 : decode cX12_canHaveRung 15 = .ok (.iaload, 1) := by decide +kernel
theorem dX12_canHaveRung_16 : decode cX12_canHaveRung 16 = .ok (.istore_n 3, 1) := by decide +kernel
theorem dX12_canHaveRung_17 : decode cX12_canHaveRung 17 = .ok (.iconst 0, 1) := by decide +kernel
theorem dX12_canHaveRung_18 : decode cX12_canHaveRung 18 = .ok (.istore 4, 2) := by decide +kernel
theorem dX12_canHaveRung_20 : decode cX12_canHaveRung 20 = .ok (.iload 4, 2) := by decide +kernel
theorem dX12_canHaveRung_22 : decode cX12_canHaveRung 22 = .ok (.aload_n 0, 1) := by decide +kernel
theorem dX12_canHaveRung_23 : decode cX12_canHaveRung 23 = .ok (.getfield 13, 3) := by decide +kernel
theorem dX12_canHaveRung_26 : decode cX12_canHaveRung 26 = .ok (.iconst 2, 1) := by decide +kernel
theorem dX12_canHaveRung_27 : decode cX12_canHaveRung 27 = .ok (.iaload, 1) := by decide +kernel
theorem dX12_canHaveRung_28 : decode cX12_canHaveRung 28 = .ok (.if_icmp .ge 93, 3) := by decide +kernel
theorem dX12_canHaveRung_31 : decode cX12_canHaveRung 31 = .ok (.aload_n 0, 1) := by decide +kernel
theorem dX12_canHaveRung_32 : decode cX12_canHaveRung 32 = .ok (.getfield 13, 3) := by decide +kernel
theorem dX12_canHaveRung_35 : decode cX12_canHaveRung 35 = .ok (.sipush 170, 3) := by decide +kernel
theorem dX12_canHaveRung_38 : decode cX12_canHaveRung 38 = .ok (.iconst 2, 1) := by decide +kernel
theorem dX12_canHaveRung_39 : decode cX12_canHaveRung 39 = .ok (.iload 4, 2) := by decide +kernel
theorem dX12_canHaveRung_41 : decode cX12_canHaveRung 41 = .ok (.imul, 1) := by decide +kernel
theorem dX12_canHaveRung_42 : decode cX12_canHaveRung 42 = .ok (.iadd, 1) := by decide +kernel
theorem dX12_canHaveRung_43 : decode cX12_canHaveRung 43 = .ok (.iaload, 1) := by decide +kernel
theorem dX12_canHaveRung_44 : decode cX12_canHaveRung 44 = .ok (.istore 5, 2) := by decide +kernel
theorem dX12_canHaveRung_46 : decode cX12_canHaveRung 46 = .ok (.iload_n 2, 1) := by decide +kernel
theorem dX12_canHaveRung_47 : decode cX12_canHaveRung 47 = .ok (.ifCond .eq 55, 3) := by decide +kernel
theorem dX12_canHaveRung_50 : decode cX12_canHaveRung 50 = .ok (.iload_n 3, 1) := by decide +kernel
theorem dX12_canHaveRung_51 : decode cX12_canHaveRung 51 = .ok (.aload_n 0, 1) := by decide +kernel
theorem dX12_canHaveRung_52 : decode cX12_canHaveRung 52 = .ok (.getfield 13, 3) := by decide +kernel
theorem dX12_canHaveRung_55 : decode cX12_canHaveRung 55 = .ok (.bipush 126, 2) := by decide +kernel
theorem dX12_canHaveRung_57 : decode cX12_canHaveRung 57 = .ok (.iload 5, 2) := by decide +kernel
theorem dX12_canHaveRung_59 : decode cX12_canHaveRung 59 = .ok (.iadd, 1) := by decide +kernel
theorem dX12_canHaveRung_60 : decode cX12_canHaveRung 60 = .ok (.iaload, 1) := by decide +kernel
theorem dX12_canHaveRung_61 : decode cX12_canHaveRung 61 = .ok (.invokestatic 500, 3) := by decide +kernel
theorem dX12_canHaveRung_64 : decode cX12_canHaveRung 64 = .ok (.aload_n 0, 1) := by decide +kernel
theorem dX12_canHaveRung_65 : decode cX12_canHaveRung 65 = .ok (.getfield 13, 3) := by decide +kernel
theorem dX12_canHaveRung_68 : decode cX12_canHaveRung 68 = .ok (.sipush 170, 3) := by decide +kernel
theorem dX12_canHaveRung_71 : decode cX12_canHaveRung 71 = .ok (.iconst 2, 1) := by decide +kernel
theorem dX12_canHaveRung_72 : decode cX12_canHaveRung 72 = .ok (.iload 4, 2) := by decide +kernel
theorem dX12_canHaveRung_74 : decode cX12_canHaveRung 74 = .ok (.imul, 1) := by decide +kernel
theorem dX12_canHaveRung_75 : decode cX12_canHaveRung 75 = .ok (.iadd, 1) := by decide +kernel
theorem dX12_canHaveRung_76 : decode cX12_canHaveRung 76 = .ok (.iconst 1, 1) := by decide +kernel
theorem dX12_canHaveRung_77 : decode cX12_canHaveRung 77 = .ok (.iadd, 1) := by decide +kernel
theorem dX12_canHaveRung_78 : decode cX12_canHaveRung 78 = .ok (.iaload, 1) := by decide +kernel
theorem dX12_canHaveRung_79 : decode cX12_canHaveRung 79 = .ok (.if_icmp .gt 23, 3) := by decide +kernel
theorem dX12_canHaveRung_82 : decode cX12_canHaveRung 82 = .ok (.aload_n 0, 1) := by decide +kernel
theorem dX12_canHaveRung_83 : decode cX12_canHaveRung 83 = .ok (.iload_n 1, 1) := by decide +kernel
theorem dX12_canHaveRung_84 : decode cX12_canHaveRung 84 = .ok (.iload 5, 2) := by decide +kernel
theorem dX12_canHaveRung_86 : decode cX12_canHaveRung 86 = .ok (.invokevirtual 200, 3) := by decide +kernel
theorem dX12_canHaveRung_89 : decode cX12_canHaveRung 89 = .ok (.aload_n 0, 1) := by decide +kernel
theorem dX12_canHaveRung_90 : decode cX12_canHaveRung 90 = .ok (.iload 5, 2) := by decide +kernel
theorem dX12_canHaveRung_92 : decode cX12_canHaveRung 92 = .ok (.invokevirtual 515, 3) := by decide +kernel
theorem dX12_canHaveRung_95 : decode cX12_canHaveRung 95 = .ok (.if_icmp .lt 7, 3) := by decide +kernel
theorem dX12_canHaveRung_98 : decode cX12_canHaveRung 98 = .ok (.iconst 1, 1) := by decide +kernel
theorem dX12_canHaveRung_99 : decode cX12_canHaveRung 99 = .ok (.goto 4, 3) := by decide +kernel
theorem dX12_canHaveRung_102 : decode cX12_canHaveRung 102 = .ok (.iconst 0, 1) := by decide +kernel
theorem dX12_canHaveRung_103 : decode cX12_canHaveRung 103 = .ok (.istore_n 2, 1) := by decide +kernel
theorem dX12_canHaveRung_104 : decode cX12_canHaveRung 104 = .ok (.aload_n 0, 1) := by decide +kernel
theorem dX12_canHaveRung_105 : decode cX12_canHaveRung 105 = .ok (.getfield 13, 3) := by decide +kernel
theorem dX12_canHaveRung_108 : decode cX12_canHaveRung 108 = .ok (.bipush 126, 2) := by decide +kernel
theorem dX12_canHaveRung_110 : decode cX12_canHaveRung 110 = .ok (.iload 5, 2) := by decide +kernel
theorem dX12_canHaveRung_112 : decode cX12_canHaveRung 112 = .ok (.iadd, 1) := by decide +kernel
theorem dX12_canHaveRung_113 : decode cX12_canHaveRung 113 = .ok (.iaload, 1) := by decide +kernel
theorem dX12_canHaveRung_114 : decode cX12_canHaveRung 114 = .ok (.istore_n 3, 1) := by decide +kernel
theorem dX12_canHaveRung_115 : decode cX12_canHaveRung 115 = .ok (.iinc 4 1, 3) := by decide +kernel
theorem dX12_canHaveRung_118 : decode cX12_canHaveRung 118 = .ok (.goto (-98), 3) := by decide +kernel
theorem dX12_canHaveRung_121 : decode cX12_canHaveRung 121 = .ok (.iload_n 2, 1) := by decide +kernel
theorem dX12_canHaveRung_122 : decode cX12_canHaveRung 122 = .ok (.ireturn, 1) := by decide +kernel
theorem dX12_whoCan_0 : decode cX12_whoCan 0 = .ok (.iconst 0, 1) := by decide +kernel
theorem dX12_whoCan_1 : decode cX12_whoCan 1 = .ok (.istore_n 1, 1) := by decide +kernel
theorem dX12_whoCan_2 : decode cX12_whoCan 2 = .ok (.iconst 0, 1) := by decide +kernel
theorem dX12_whoCan_3 : decode cX12_whoCan 3 = .ok (.istore_n 2, 1) := by decide +kernel
theorem dX12_whoCan_4 : decode cX12_whoCan 4 = .ok (.iload_n 2, 1) := by decide +kernel
theorem dX12_whoCan_5 : decode cX12_whoCan 5 = .ok (.aload_n 0, 1) := by decide +kernel
theorem dX12_whoCan_6 : decode cX12_whoCan 6 = .ok (.getfield 13, 3) := by decide +kernel
theorem dX12_whoCan_9 : decode cX12_whoCan 9 = .ok (.iconst 1, 1) := by decide +kernel
theorem dX12_whoCan_10 : decode cX12_whoCan 10 = .ok (.iaload, 1) := by decide +kernel
theorem dX12_whoCan_11 : decode cX12_whoCan 11 = .ok (.if_icmp .ge 27, 3) := by decide +kernel
theorem dX12_whoCan_14 : decode cX12_whoCan 14 = .ok (.iload_n 1, 1) := by decide +kernel
theorem dX12_whoCan_15 : decode cX12_whoCan 15 = .ok (.aload_n 0, 1) := by decide +kernel
theorem dX12_whoCan_16 : decode cX12_whoCan 16 = .ok (.iload_n 2, 1) := by decide +kernel
theorem dX12_whoCan_17 : decode cX12_whoCan 17 = .ok (.invokevirtual 518, 3) := by decide +kernel
theorem dX12_whoCan_20 : decode cX12_whoCan 20 = .ok (.ifCond .eq 9, 3) := by decide +kernel
theorem dX12_whoCan_23 : decode cX12_whoCan 23 = .ok (.iconst 1, 1) := by decide +kernel
theorem dX12_whoCan_24 : decode cX12_whoCan 24 = .ok (.iload_n 2, 1) := by decide +kernel
theorem dX12_whoCan_25 : decode cX12_whoCan 25 = .ok (.ishl, 1) := by decide +kernel
theorem dX12_whoCan_26 : decode cX12_whoCan 26 = .ok (.goto 4, 3) := by decide +kernel
theorem dX12_whoCan_29 : decode cX12_whoCan 29 = .ok (.iconst 0, 1) := by decide +kernel
theorem dX12_whoCan_30 : decode cX12_whoCan 30 = .ok (.ior, 1) := by decide +kernel
theorem dX12_whoCan_31 : decode cX12_whoCan 31 = .ok (.istore_n 1, 1) := by decide +kernel
theorem dX12_whoCan_32 : decode cX12_whoCan 32 = .ok (.iinc 2 1, 3) := by decide +kernel
theorem dX12_whoCan_35 : decode cX12_whoCan 35 = .ok (.goto (-31), 3) := by decide +kernel
theorem dX12_whoCan_38 : decode cX12_whoCan 38 = .ok (.iload_n 1, 1) := by decide +kernel
theorem dX12_whoCan_39 : decode cX12_whoCan 39 = .ok (.ireturn, 1) := by decide +kernel
theorem dX12_who_0 : decode cX12_who 0 = .ok (.aload_n 0, 1) := by decide +kernel
theorem dX12_who_1 : decode cX12_who 1 = .ok (.iconst 0, 1) := by decide +kernel
theorem dX12_who_2 : decode cX12_who 2 = .ok (.putfield 163, 3) := by decide +kernel
theorem dX12_who_5 : decode cX12_who 5 = .ok (.aload_n 0, 1) := by decide +kernel
theorem dX12_who_6 : decode cX12_who 6 = .ok (.invokevirtual 521, 3) := by decide +kernel
theorem dX12_who_9 : decode cX12_who 9 = .ok (.ireturn, 1) := by decide +kernel
theorem dX12_look_0 : decode cX12_look 0 = .ok (.aload_n 0, 1) := by decide +kernel
theorem dX12_look_1 : decode cX12_look 1 = .ok (.iconst 0, 1) := by decide +kernel
theorem dX12_look_2 : decode cX12_look 2 = .ok (.putfield 163, 3) := by decide +kernel
theorem dX12_look_5 : decode cX12_look 5 = .ok (.aload_n 0, 1) := by decide +kernel
theorem dX12_look_6 : decode cX12_look 6 = .ok (.invokevirtual 521, 3) := by decide +kernel
theorem dX12_look_9 : decode cX12_look 9 = .ok (.istore_n 2, 1) := by decide +kernel
theorem dX12_look_10 : decode cX12_look 10 = .ok (.iload_n 1, 1) := by decide +kernel
theorem dX12_look_11 : decode cX12_look 11 = .ok (.i2l, 1) := by decide +kernel
theorem dX12_look_12 : decode cX12_look 12 = .ok (.lconst 0, 1) := by decide +kernel
theorem dX12_look_13 : decode cX12_look 13 = .ok (.lconst 1, 1) := by decide +kernel
theorem dX12_look_14 : decode cX12_look 14 = .ok (.invokestatic 183, 3) := by decide +kernel
theorem dX12_look_17 : decode cX12_look 17 = .ok (.ifCond .eq 7, 3) := by decide +kernel
theorem dX12_look_20 : decode cX12_look 20 = .ok (.iload_n 2, 1) := by decide +kernel
theorem dX12_look_21 : decode cX12_look 21 = .ok (.ifCond .ne 5, 3) := by decide +kernel
theorem dX12_look_24 : decode cX12_look 24 = .ok (.iconst (-1), 1) := by decide +kernel
theorem dX12_look_25 : decode cX12_look 25 = .ok (.ireturn, 1) := by decide +kernel
theorem dX12_look_26 : decode cX12_look 26 = .ok (.ldc_w 524, 3) := by decide +kernel
theorem dX12_look_29 : decode cX12_look 29 = .ok (.istore_n 3, 1) := by decide +kernel
theorem dX12_look_30 : decode cX12_look 30 = .ok (.iconst (-1), 1) := by decide +kernel
theorem dX12_look_31 : decode cX12_look 31 = .ok (.istore 4, 2) := by decide +kernel
theorem dX12_look_33 : decode cX12_look 33 = .ok (.iconst 0, 1) := by decide +kernel
theorem dX12_look_34 : decode cX12_look 34 = .ok (.istore 5, 2) := by decide +kernel
theorem dX12_look_36 : decode cX12_look 36 = .ok (.iload 5, 2) := by decide +kernel
theorem dX12_look_38 : decode cX12_look 38 = .ok (.aload_n 0, 1) := by decide +kernel
theorem dX12_look_39 : decode cX12_look 39 = .ok (.getfield 13, 3) := by decide +kernel
theorem dX12_look_42 : decode cX12_look 42 = .ok (.iconst 0, 1) := by decide +kernel
theorem dX12_look_43 : decode cX12_look 43 = .ok (.iaload, 1) := by decide +kernel
theorem dX12_look_44 : decode cX12_look 44 = .ok (.if_icmp .ge 116, 3) := by decide +kernel
theorem dX12_look_47 : decode cX12_look 47 = .ok (.iconst 0, 1) := by decide +kernel
theorem dX12_look_48 : decode cX12_look 48 = .ok (.istore 6, 2) := by decide +kernel
theorem dX12_look_50 : decode cX12_look 50 = .ok (.iconst 0, 1) := by decide +kernel
theorem dX12_look_51 : decode cX12_look 51 = .ok (.istore 7, 2) := by decide +kernel
theorem dX12_look_53 : decode cX12_look 53 = .ok (.iload 7, 2) := by decide +kernel
theorem dX12_look_55 : decode cX12_look 55 = .ok (.aload_n 0, 1) := by decide +kernel
theorem dX12_look_56 : decode cX12_look 56 = .ok (.getfield 13, 3) := by decide +kernel
theorem dX12_look_59 : decode cX12_look 59 = .ok (.iconst 1, 1) := by decide +kernel
theorem dX12_look_60 : decode cX12_look 60 = .ok (.iaload, 1) := by decide +kernel
theorem dX12_look_61 : decode cX12_look 61 = .ok (.if_icmp .ge 39, 3) := by decide +kernel
theorem dX12_look_64 : decode cX12_look 64 = .ok (.iload 6, 2) := by decide +kernel
theorem dX12_look_66 : decode cX12_look 66 = .ok (.iload_n 2, 1) := by decide +kernel
theorem dX12_look_67 : decode cX12_look 67 = .ok (.iload 7, 2) := by decide +kernel
theorem dX12_look_69 : decode cX12_look 69 = .ok (.invokestatic 228, 3) := by decide +kernel
theorem dX12_look_72 : decode cX12_look 72 = .ok (.ifCond .eq 18, 3) := by decide +kernel
theorem dX12_look_75 : decode cX12_look 75 = .ok (.aload_n 0, 1) := by decide +kernel
theorem dX12_look_76 : decode cX12_look 76 = .ok (.iload 7, 2) := by decide +kernel
theorem dX12_look_78 : decode cX12_look 78 = .ok (.iload 5, 2) := by decide +kernel
theorem dX12_look_80 : decode cX12_look 80 = .ok (.invokevirtual 200, 3) := by decide +kernel
theorem dX12_look_83 : decode cX12_look 83 = .ok (.ifCond .le 7, 3) := by decide +kernel
theorem dX12_look_86 : decode cX12_look 86 = .ok (.iconst 1, 1) := by decide +kernel
theorem dX12_look_87 : decode cX12_look 87 = .ok (.goto 4, 3) := by decide +kernel
theorem dX12_look_90 : decode cX12_look 90 = .ok (.iconst 0, 1) := by decide +kernel
theorem dX12_look_91 : decode cX12_look 91 = .ok (.iadd, 1) := by decide +kernel
theorem dX12_look_92 : decode cX12_look 92 = .ok (.istore 6, 2) := by decide +kernel
theorem dX12_look_94 : decode cX12_look 94 = .ok (.iinc 7 1, 3) := by decide +kernel
theorem dX12_look_97 : decode cX12_look 97 = .ok (.goto (-44), 3) := by decide +kernel
theorem dX12_look_100 : decode cX12_look 100 = .ok (.iload 6, 2) := by decide +kernel
theorem dX12_look_102 : decode cX12_look 102 = .ok (.iload_n 2, 1) := by decide +kernel
theorem dX12_look_103 : decode cX12_look 103 = .ok (.invokestatic 479, 3) := by decide +kernel
theorem dX12_look_106 : decode cX12_look 106 = .ok (.iload 6, 2) := by decide +kernel
theorem dX12_look_108 : decode cX12_look 108 = .ok (.isub, 1) := by decide +kernel
theorem dX12_look_109 : decode cX12_look 109 = .ok (.if_icmp .le 8, 3) := by decide +kernel
theorem dX12_look_112 : decode cX12_look 112 = .ok (.iload 6, 2) := by decide +kernel
theorem dX12_look_114 : decode cX12_look 114 = .ok (.goto 10, 3) := by decide +kernel
theorem dX12_look_117 : decode cX12_look 117 = .ok (.iload_n 2, 1) := by decide +kernel
theorem dX12_look_118 : decode cX12_look 118 = .ok (.invokestatic 479, 3) := by decide +kernel
theorem dX12_look_121 : decode cX12_look 121 = .ok (.iload 6, 2) := by decide +kernel
theorem dX12_look_123 : decode cX12_look 123 = .ok (.isub, 1) := by decide +kernel
theorem dX12_look_124 : decode cX12_look 124 = .ok (.istore 7, 2) := by decide +kernel
theorem dX12_look_126 : decode cX12_look 126 = .ok (.iload 7, 2) := by decide +kernel
theorem dX12_look_128 : decode cX12_look 128 = .ok (.iload_n 3, 1) := by decide +kernel
theorem dX12_look_129 : decode cX12_look 129 = .ok (.if_icmp .ge 8, 3) := by decide +kernel
theorem dX12_look_132 : decode cX12_look 132 = .ok (.iload 5, 2) := by decide +kernel
theorem dX12_look_134 : decode cX12_look 134 = .ok (.goto 5, 3) := by decide +kernel
theorem dX12_look_137 : decode cX12_look 137 = .ok (.iload 4, 2) := by decide +kernel
theorem dX12_look_139 : decode cX12_look 139 = .ok (.istore 4, 2) := by decide +kernel
theorem dX12_look_141 : decode cX12_look 141 = .ok (.iload 7, 2) := by decide +kernel
theorem dX12_look_143 : decode cX12_look 143 = .ok (.iload_n 3, 1) := by decide +kernel
theorem dX12_look_144 : decode cX12_look 144 = .ok (.if_icmp .ge 8, 3) := by decide +kernel
theorem dX12_look_147 : decode cX12_look 147 = .ok (.iload 7, 2) := by decide +kernel
theorem dX12_look_149 : decode cX12_look 149 = .ok (.goto 4, 3) := by decide +kernel
theorem dX12_look_152 : decode cX12_look 152 = .ok (.iload_n 3, 1) := by decide +kernel
theorem dX12_look_153 : decode cX12_look 153 = .ok (.istore_n 3, 1) := by decide +kernel
theorem dX12_look_154 : decode cX12_look 154 = .ok (.iinc 5 1, 3) := by decide +kernel
theorem dX12_look_157 : decode cX12_look 157 = .ok (.goto (-121), 3) := by decide +kernel
theorem dX12_look_160 : decode cX12_look 160 = .ok (.iload 4, 2) := by decide +kernel
theorem dX12_look_162 : decode cX12_look 162 = .ok (.iconst (-1), 1) := by decide +kernel
theorem dX12_look_163 : decode cX12_look 163 = .ok (.if_icmp .eq 7, 3) := by decide +kernel
theorem dX12_look_166 : decode cX12_look 166 = .ok (.iload_n 1, 1) := by decide +kernel
theorem dX12_look_167 : decode cX12_look 167 = .ok (.ifCond .ne 8, 3) := by decide +kernel
theorem dX12_look_170 : decode cX12_look 170 = .ok (.iload 4, 2) := by decide +kernel
theorem dX12_look_172 : decode cX12_look 172 = .ok (.goto 4, 3) := by decide +kernel
theorem dX12_look_175 : decode cX12_look 175 = .ok (.iload_n 3, 1) := by decide +kernel
theorem dX12_look_176 : decode cX12_look 176 = .ok (.ireturn, 1) := by decide +kernel
theorem dX12_amend_0 : decode cX12_amend 0 = .ok (.aload_n 0, 1) := by decide +kernel
theorem dX12_amend_1 : decode cX12_amend 1 = .ok (.iconst 0, 1) := by decide +kernel
theorem dX12_amend_2 : decode cX12_amend 2 = .ok (.putfield 163, 3) := by decide +kernel
theorem dX12_amend_5 : decode cX12_amend 5 = .ok (.aload_n 0, 1) := by decide +kernel
theorem dX12_amend_6 : decode cX12_amend 6 = .ok (.iload_n 1, 1) := by decide +kernel
theorem dX12_amend_7 : decode cX12_amend 7 = .ok (.invokevirtual 208, 3) := by decide +kernel
theorem dX12_amend_10 : decode cX12_amend 10 = .ok (.ifCond .eq 13, 3) := by decide +kernel
theorem dX12_amend_13 : decode cX12_amend 13 = .ok (.iload_n 2, 1) := by decide +kernel
theorem dX12_amend_14 : decode cX12_amend 14 = .ok (.i2l, 1) := by decide +kernel
theorem dX12_amend_15 : decode cX12_amend 15 = .ok (.lconst 0, 1) := by decide +kernel
theorem dX12_amend_16 : decode cX12_amend 16 = .ok (.lconst 1, 1) := by decide +kernel
theorem dX12_amend_17 : decode cX12_amend 17 = .ok (.invokestatic 183, 3) := by decide +kernel
theorem dX12_amend_20 : decode cX12_amend 20 = .ok (.ifCond .ne 5, 3) := by decide +kernel
theorem dX12_amend_23 : decode cX12_amend 23 = .ok (.iconst (-1), 1) := by decide +kernel
theorem dX12_amend_24 : decode cX12_amend 24 = .ok (.ireturn, 1) := by decide +kernel
theorem dX12_amend_25 : decode cX12_amend 25 = .ok (.ldc_w 524, 3) := by decide +kernel
theorem dX12_amend_28 : decode cX12_amend 28 = .ok (.istore_n 3, 1) := by decide +kernel
theorem dX12_amend_29 : decode cX12_amend 29 = .ok (.iconst 0, 1) := by decide +kernel
theorem dX12_amend_30 : decode cX12_amend 30 = .ok (.istore 4, 2) := by decide +kernel
theorem dX12_amend_32 : decode cX12_amend 32 = .ok (.iconst 0, 1) := by decide +kernel
theorem dX12_amend_33 : decode cX12_amend 33 = .ok (.istore 5, 2) := by decide +kernel
theorem dX12_amend_35 : decode cX12_amend 35 = .ok (.iload 5, 2) := by decide +kernel
theorem dX12_amend_37 : decode cX12_amend 37 = .ok (.iconst 1, 1) := by decide +kernel
theorem dX12_amend_38 : decode cX12_amend 38 = .ok (.aload_n 0, 1) := by decide +kernel
theorem dX12_amend_39 : decode cX12_amend 39 = .ok (.getfield 13, 3) := by decide +kernel
theorem dX12_amend_42 : decode cX12_amend 42 = .ok (.iconst 1, 1) := by decide +kernel
theorem dX12_amend_43 : decode cX12_amend 43 = .ok (.iaload, 1) := by decide +kernel
theorem dX12_amend_44 : decode cX12_amend 44 = .ok (.ishl, 1) := by decide +kernel
theorem dX12_amend_45 : decode cX12_amend 45 = .ok (.if_icmp .ge 118, 3) := by decide +kernel
theorem dX12_amend_48 : decode cX12_amend 48 = .ok (.iconst 0, 1) := by decide +kernel
theorem dX12_amend_49 : decode cX12_amend 49 = .ok (.istore 6, 2) := by decide +kernel
theorem dX12_amend_51 : decode cX12_amend 51 = .ok (.iconst 0, 1) := by decide +kernel
theorem dX12_amend_52 : decode cX12_amend 52 = .ok (.istore 7, 2) := by decide +kernel
theorem dX12_amend_54 : decode cX12_amend 54 = .ok (.iload 7, 2) := by decide +kernel
theorem dX12_amend_56 : decode cX12_amend 56 = .ok (.aload_n 0, 1) := by decide +kernel
theorem dX12_amend_57 : decode cX12_amend 57 = .ok (.getfield 13, 3) := by decide +kernel
theorem dX12_amend_60 : decode cX12_amend 60 = .ok (.iconst 1, 1) := by decide +kernel
theorem dX12_amend_61 : decode cX12_amend 61 = .ok (.iaload, 1) := by decide +kernel
theorem dX12_amend_62 : decode cX12_amend 62 = .ok (.if_icmp .ge 35, 3) := by decide +kernel
theorem dX12_amend_65 : decode cX12_amend 65 = .ok (.iload 6, 2) := by decide +kernel
theorem dX12_amend_67 : decode cX12_amend 67 = .ok (.iload 5, 2) := by decide +kernel
theorem dX12_amend_69 : decode cX12_amend 69 = .ok (.iload 7, 2) := by decide +kernel
theorem dX12_amend_71 : decode cX12_amend 71 = .ok (.invokestatic 228, 3) := by decide +kernel
theorem dX12_amend_74 : decode cX12_amend 74 = .ok (.ifCond .eq 7, 3) := by decide +kernel
theorem dX12_amend_77 : decode cX12_amend 77 = .ok (.iconst 0, 1) := by decide +kernel
theorem dX12_amend_78 : decode cX12_amend 78 = .ok (.goto 10, 3) := by decide +kernel
theorem dX12_amend_81 : decode cX12_amend 81 = .ok (.aload_n 0, 1) := by decide +kernel
theorem dX12_amend_82 : decode cX12_amend 82 = .ok (.iload 7, 2) := by decide +kernel
theorem dX12_amend_84 : decode cX12_amend 84 = .ok (.iload_n 1, 1) := by decide +kernel
theorem dX12_amend_85 : decode cX12_amend 85 = .ok (.invokevirtual 196, 3) := by decide +kernel
theorem dX12_amend_88 : decode cX12_amend 88 = .ok (.iadd, 1) := by decide +kernel
theorem dX12_amend_89 : decode cX12_amend 89 = .ok (.istore 6, 2) := by decide +kernel
theorem dX12_amend_91 : decode cX12_amend 91 = .ok (.iinc 7 1, 3) := by decide +kernel
theorem dX12_amend_94 : decode cX12_amend 94 = .ok (.goto (-40), 3) := by decide +kernel
theorem dX12_amend_97 : decode cX12_amend 97 = .ok (.iload 6, 2) := by decide +kernel
theorem dX12_amend_99 : decode cX12_amend 99 = .ok (.aload_n 0, 1) := by decide +kernel
theorem dX12_amend_100 : decode cX12_amend 100 = .ok (.getfield 13, 3) := by decide +kernel
theorem dX12_amend_103 : decode cX12_amend 103 = .ok (.sipush 132, 3) := by decide +kernel
theorem dX12_amend_106 : decode cX12_amend 106 = .ok (.iload_n 1, 1) := by decide +kernel
theorem dX12_amend_107 : decode cX12_amend 107 = .ok (.iadd, 1) := by decide +kernel
theorem dX12_amend_108 : decode cX12_amend 108 = .ok (.iaload, 1) := by decide +kernel
theorem dX12_amend_109 : decode cX12_amend 109 = .ok (.if_icmp .gt 16, 3) := by decide +kernel
theorem dX12_amend_112 : decode cX12_amend 112 = .ok (.iload 5, 2) := by decide +kernel
theorem dX12_amend_114 : decode cX12_amend 114 = .ok (.invokestatic 479, 3) := by decide +kernel
theorem dX12_amend_117 : decode cX12_amend 117 = .ok (.iload_n 3, 1) := by decide +kernel
theorem dX12_amend_118 : decode cX12_amend 118 = .ok (.if_icmp .ge 7, 3) := by decide +kernel
theorem dX12_amend_121 : decode cX12_amend 121 = .ok (.iconst 1, 1) := by decide +kernel
theorem dX12_amend_122 : decode cX12_amend 122 = .ok (.goto 4, 3) := by decide +kernel
theorem dX12_amend_125 : decode cX12_amend 125 = .ok (.iconst 0, 1) := by decide +kernel
theorem dX12_amend_126 : decode cX12_amend 126 = .ok (.istore 7, 2) := by decide +kernel
theorem dX12_amend_128 : decode cX12_amend 128 = .ok (.iload 7, 2) := by decide +kernel
theorem dX12_amend_130 : decode cX12_amend 130 = .ok (.ifCond .eq 8, 3) := by decide +kernel
theorem dX12_amend_133 : decode cX12_amend 133 = .ok (.iload 5, 2) := by decide +kernel
theorem dX12_amend_135 : decode cX12_amend 135 = .ok (.goto 5, 3) := by decide +kernel
theorem dX12_amend_138 : decode cX12_amend 138 = .ok (.iload 4, 2) := by decide +kernel
theorem dX12_amend_140 : decode cX12_amend 140 = .ok (.istore 4, 2) := by decide +kernel
theorem dX12_amend_142 : decode cX12_amend 142 = .ok (.iload 7, 2) := by decide +kernel
theorem dX12_amend_144 : decode cX12_amend 144 = .ok (.ifCond .eq 11, 3) := by decide +kernel
theorem dX12_amend_147 : decode cX12_amend 147 = .ok (.iload 5, 2) := by decide +kernel
theorem dX12_amend_149 : decode cX12_amend 149 = .ok (.invokestatic 479, 3) := by decide +kernel
theorem dX12_amend_152 : decode cX12_amend 152 = .ok (.goto 4, 3) := by decide +kernel
theorem dX12_amend_155 : decode cX12_amend 155 = .ok (.iload_n 3, 1) := by decide +kernel
theorem dX12_amend_156 : decode cX12_amend 156 = .ok (.istore_n 3, 1) := by decide +kernel
theorem dX12_amend_157 : decode cX12_amend 157 = .ok (.iinc 5 1, 3) := by decide +kernel
theorem dX12_amend_160 : decode cX12_amend 160 = .ok (.goto (-125), 3) := by decide +kernel
theorem dX12_amend_163 : decode cX12_amend 163 = .ok (.iload_n 2, 1) := by decide +kernel
theorem dX12_amend_164 : decode cX12_amend 164 = .ok (.ifCond .ne 7, 3) := by decide +kernel
theorem dX12_amend_167 : decode cX12_amend 167 = .ok (.iload_n 3, 1) := by decide +kernel
theorem dX12_amend_168 : decode cX12_amend 168 = .ok (.goto 5, 3) := by decide +kernel
theorem dX12_amend_171 : decode cX12_amend 171 = .ok (.iload 4, 2) := by decide +kernel
theorem dX12_amend_173 : decode cX12_amend 173 = .ok (.ireturn, 1) := by decide +kernel
theorem dX12_given_0 : decode cX12_given 0 = .ok (.aload_n 0, 1) := by decide +kernel
theorem dX12_given_1 : decode cX12_given 1 = .ok (.iconst 0, 1) := by decide +kernel
theorem dX12_given_2 : decode cX12_given 2 = .ok (.putfield 163, 3) := by decide +kernel
theorem dX12_given_5 : decode cX12_given 5 = .ok (.aload_n 0, 1) := by decide +kernel
theorem dX12_given_6 : decode cX12_given 6 = .ok (.iload_n 1, 1) := by decide +kernel
theorem dX12_given_7 : decode cX12_given 7 = .ok (.invokevirtual 208, 3) := by decide +kernel
theorem dX12_given_10 : decode cX12_given 10 = .ok (.ifCond .eq 23, 3) := by decide +kernel
theorem dX12_given_13 : decode cX12_given 13 = .ok (.iload_n 2, 1) := by decide +kernel
theorem dX12_given_14 : decode cX12_given 14 = .ok (.i2l, 1) := by decide +kernel
theorem dX12_given_15 : decode cX12_given 15 = .ok (.lconst 0, 1) := by decide +kernel
theorem dX12_given_16 : decode cX12_given 16 = .ok (.ldc2_w 206, 3) := by decide +kernel
theorem dX12_given_19 : decode cX12_given 19 = .ok (.invokestatic 183, 3) := by decide +kernel
theorem dX12_given_22 : decode cX12_given 22 = .ok (.ifCond .eq 11, 3) := by decide +kernel
theorem dX12_given_25 : decode cX12_given 25 = .ok (.aload_n 0, 1) := by decide +kernel
theorem dX12_given_26 : decode cX12_given 26 = .ok (.iload_n 3, 1) := by decide +kernel
theorem dX12_given_27 : decode cX12_given 27 = .ok (.invokevirtual 223, 3) := by decide +kernel
theorem dX12_given_30 : decode cX12_given 30 = .ok (.ifCond .ne 5, 3) := by decide +kernel
theorem dX12_given_33 : decode cX12_given 33 = .ok (.iconst (-1), 1) := by decide +kernel
theorem dX12_given_34 : decode cX12_given 34 = .ok (.ireturn, 1) := by decide +kernel
theorem dX12_given_35 : decode cX12_given 35 = .ok (.iconst 0, 1) := by decide +kernel
theorem dX12_given_36 : decode cX12_given 36 = .ok (.istore 4, 2) := by decide +kernel
theorem dX12_given_38 : decode cX12_given 38 = .ok (.iload 4, 2) := by decide +kernel
theorem dX12_given_40 : decode cX12_given 40 = .ok (.bipush 8, 2) := by decide +kernel
theorem dX12_given_42 : decode cX12_given 42 = .ok (.if_icmp .ge 17, 3) := by decide +kernel
theorem dX12_given_45 : decode cX12_given 45 = .ok (.aload_n 0, 1) := by decide +kernel
theorem dX12_given_46 : decode cX12_given 46 = .ok (.getfield 125, 3) := by decide +kernel
theorem dX12_given_49 : decode cX12_given 49 = .ok (.iload 4, 2) := by decide +kernel
theorem dX12_given_51 : decode cX12_given 51 = .ok (.iconst 0, 1) := by decide +kernel
theorem dX12_given_52 : decode cX12_given 52 = .ok (.iastore, 1) := by decide +kernel
theorem dX12_given_53 : decode cX12_given 53 = .ok (.iinc 4 1, 3) := by decide +kernel
theorem dX12_given_56 : decode cX12_given 56 = .ok (.goto (-18), 3) := by decide +kernel
theorem dX12_given_59 : decode cX12_given 59 = .ok (.iconst 0, 1) := by decide +kernel
theorem dX12_given_60 : decode cX12_given 60 = .ok (.istore 4, 2) := by decide +kernel
theorem dX12_given_62 : decode cX12_given 62 = .ok (.iload 4, 2) := by decide +kernel
theorem dX12_given_64 : decode cX12_given 64 = .ok (.iload_n 2, 1) := by decide +kernel
theorem dX12_given_65 : decode cX12_given 65 = .ok (.if_icmp .ge 106, 3) := by decide +kernel
theorem dX12_given_68 : decode cX12_given 68 = .ok (.iconst (-1), 1) := by decide +kernel
theorem dX12_given_69 : decode cX12_given 69 = .ok (.istore 5, 2) := by decide +kernel
theorem dX12_given_71 : decode cX12_given 71 = .ok (.iconst 0, 1) := by decide +kernel
theorem dX12_given_72 : decode cX12_given 72 = .ok (.istore 6, 2) := by decide +kernel
theorem dX12_given_74 : decode cX12_given 74 = .ok (.iload 6, 2) := by decide +kernel
theorem dX12_given_76 : decode cX12_given 76 = .ok (.aload_n 0, 1) := by decide +kernel
theorem dX12_given_77 : decode cX12_given 77 = .ok (.getfield 13, 3) := by decide +kernel
theorem dX12_given_80 : decode cX12_given 80 = .ok (.iconst 1, 1) := by decide +kernel
theorem dX12_given_81 : decode cX12_given 81 = .ok (.iaload, 1) := by decide +kernel
theorem dX12_given_82 : decode cX12_given 82 = .ok (.if_icmp .ge 66, 3) := by decide +kernel
theorem dX12_given_85 : decode cX12_given 85 = .ok (.aload_n 0, 1) := by decide +kernel
theorem dX12_given_86 : decode cX12_given 86 = .ok (.iload 6, 2) := by decide +kernel
theorem dX12_given_88 : decode cX12_given 88 = .ok (.iload_n 1, 1) := by decide +kernel
theorem dX12_given_89 : decode cX12_given 89 = .ok (.invokevirtual 196, 3) := by decide +kernel
theorem dX12_given_92 : decode cX12_given 92 = .ok (.ifCond .le 50, 3) := by decide +kernel
theorem dX12_given_95 : decode cX12_given 95 = .ok (.iload 5, 2) := by decide +kernel
theorem dX12_given_97 : decode cX12_given 97 = .ok (.iconst (-1), 1) := by decide +kernel
theorem dX12_given_98 : decode cX12_given 98 = .ok (.if_icmp .eq 40, 3) := by decide +kernel
theorem dX12_given_101 : decode cX12_given 101 = .ok (.aload_n 0, 1) := by decide +kernel
theorem dX12_given_102 : decode cX12_given 102 = .ok (.iload 6, 2) := by decide +kernel
theorem dX12_given_104 : decode cX12_given 104 = .ok (.iload_n 1, 1) := by decide +kernel
theorem dX12_given_105 : decode cX12_given 105 = .ok (.invokevirtual 196, 3) := by decide +kernel
theorem dX12_given_108 : decode cX12_given 108 = .ok (.aload_n 0, 1) := by decide +kernel
theorem dX12_given_109 : decode cX12_given 109 = .ok (.getfield 125, 3) := by decide +kernel
theorem dX12_given_112 : decode cX12_given 112 = .ok (.iload 5, 2) := by decide +kernel
theorem dX12_given_114 : decode cX12_given 114 = .ok (.iaload, 1) := by decide +kernel
theorem dX12_given_115 : decode cX12_given 115 = .ok (.iconst 1, 1) := by decide +kernel
theorem dX12_given_116 : decode cX12_given 116 = .ok (.iadd, 1) := by decide +kernel
theorem dX12_given_117 : decode cX12_given 117 = .ok (.imul, 1) := by decide +kernel
theorem dX12_given_118 : decode cX12_given 118 = .ok (.aload_n 0, 1) := by decide +kernel
theorem dX12_given_119 : decode cX12_given 119 = .ok (.iload 5, 2) := by decide +kernel
theorem dX12_given_121 : decode cX12_given 121 = .ok (.iload_n 1, 1) := by decide +kernel
theorem dX12_given_122 : decode cX12_given 122 = .ok (.invokevirtual 196, 3) := by decide +kernel
theorem dX12_given_125 : decode cX12_given 125 = .ok (.aload_n 0, 1) := by decide +kernel
theorem dX12_given_126 : decode cX12_given 126 = .ok (.getfield 125, 3) := by decide +kernel
theorem dX12_given_129 : decode cX12_given 129 = .ok (.iload 6, 2) := by decide +kernel
theorem dX12_given_131 : decode cX12_given 131 = .ok (.iaload, 1) := by decide +kernel
theorem dX12_given_132 : decode cX12_given 132 = .ok (.iconst 1, 1) := by decide +kernel
theorem dX12_given_133 : decode cX12_given 133 = .ok (.iadd, 1) := by decide +kernel
theorem dX12_given_134 : decode cX12_given 134 = .ok (.imul, 1) := by decide +kernel
theorem dX12_given_135 : decode cX12_given 135 = .ok (.if_icmp .le 7, 3) := by decide +kernel
theorem dX12_given_138 : decode cX12_given 138 = .ok (.iload 6, 2) := by decide +kernel
theorem dX12_given_140 : decode cX12_given 140 = .ok (.istore 5, 2) := by decide +kernel
theorem dX12_given_142 : decode cX12_given 142 = .ok (.iinc 6 1, 3) := by decide +kernel
theorem dX12_given_145 : decode cX12_given 145 = .ok (.goto (-71), 3) := by decide +kernel
theorem dX12_given_148 : decode cX12_given 148 = .ok (.iload 5, 2) := by decide +kernel
theorem dX12_given_150 : decode cX12_given 150 = .ok (.iconst (-1), 1) := by decide +kernel
theorem dX12_given_151 : decode cX12_given 151 = .ok (.if_icmp .eq 14, 3) := by decide +kernel
theorem dX12_given_154 : decode cX12_given 154 = .ok (.aload_n 0, 1) := by decide +kernel
theorem dX12_given_155 : decode cX12_given 155 = .ok (.getfield 125, 3) := by decide +kernel
theorem dX12_given_158 : decode cX12_given 158 = .ok (.iload 5, 2) := by decide +kernel
theorem dX12_given_160 : decode cX12_given 160 = .ok (.dup2, 1) := by decide +kernel
theorem dX12_given_161 : decode cX12_given 161 = .ok (.iaload, 1) := by decide +kernel
theorem dX12_given_162 : decode cX12_given 162 = .ok (.iconst 1, 1) := by decide +kernel
theorem dX12_given_163 : decode cX12_given 163 = .ok (.iadd, 1) := by decide +kernel
theorem dX12_given_164 : decode cX12_given 164 = .ok (.iastore, 1) := by decide +kernel
theorem dX12_given_165 : decode cX12_given 165 = .ok (.iinc 4 1, 3) := by decide +kernel
theorem dX12_given_168 : decode cX12_given 168 = .ok (.goto (-106), 3) := by decide +kernel
theorem dX12_given_171 : decode cX12_given 171 = .ok (.aload_n 0, 1) := by decide +kernel
theorem dX12_given_172 : decode cX12_given 172 = .ok (.getfield 125, 3) := by decide +kernel
theorem dX12_given_175 : decode cX12_given 175 = .ok (.iload_n 3, 1) := by decide +kernel
theorem dX12_given_176 : decode cX12_given 176 = .ok (.iaload, 1) := by decide +kernel
theorem dX12_given_177 : decode cX12_given 177 = .ok (.ireturn, 1) := by decide +kernel
theorem dX12_worthOfAll_0 : decode cX12_worthOfAll 0 = .ok (.iconst 0, 1) := by decide +kernel
theorem dX12_worthOfAll_1 : decode cX12_worthOfAll 1 = .ok (.istore 4, 2) := by decide +kernel
theorem dX12_worthOfAll_3 : decode cX12_worthOfAll 3 = .ok (.aload_n 0, 1) := by decide +kernel
theorem dX12_worthOfAll_4 : decode cX12_worthOfAll 4 = .ok (.iload_n 1, 1) := by decide +kernel
theorem dX12_worthOfAll_5 : decode cX12_worthOfAll 5 = .ok (.iload_n 2, 1) := by decide +kernel
theorem dX12_worthOfAll_6 : decode cX12_worthOfAll 6 = .ok (.invokevirtual 214, 3) := by decide +kernel
theorem dX12_worthOfAll_9 : decode cX12_worthOfAll 9 = .ok (.istore 5, 2) := by decide +kernel
theorem dX12_worthOfAll_11 : decode cX12_worthOfAll 11 = .ok (.iconst 0, 1) := by decide +kernel
theorem dX12_worthOfAll_12 : decode cX12_worthOfAll 12 = .ok (.istore 6, 2) := by decide +kernel
theorem dX12_worthOfAll_14 : decode cX12_worthOfAll 14 = .ok (.iload 6, 2) := by decide +kernel
theorem dX12_worthOfAll_16 : decode cX12_worthOfAll 16 = .ok (.iload_n 3, 1) := by decide +kernel
theorem dX12_worthOfAll_17 : decode cX12_worthOfAll 17 = .ok (.if_icmp .ge 26, 3) := by decide +kernel
theorem dX12_worthOfAll_20 : decode cX12_worthOfAll 20 = .ok (.iload 5, 2) := by decide +kernel
theorem dX12_worthOfAll_22 : decode cX12_worthOfAll 22 = .ok (.iload 6, 2) := by decide +kernel
theorem dX12_worthOfAll_24 : decode cX12_worthOfAll 24 = .ok (.if_icmp .le 19, 3) := by decide +kernel
theorem dX12_worthOfAll_27 : decode cX12_worthOfAll 27 = .ok (.iload 4, 2) := by decide +kernel
theorem dX12_worthOfAll_29 : decode cX12_worthOfAll 29 = .ok (.iload 5, 2) := by decide +kernel
theorem dX12_worthOfAll_31 : decode cX12_worthOfAll 31 = .ok (.iload 6, 2) := by decide +kernel
theorem dX12_worthOfAll_33 : decode cX12_worthOfAll 33 = .ok (.isub, 1) := by decide +kernel
theorem dX12_worthOfAll_34 : decode cX12_worthOfAll 34 = .ok (.iadd, 1) := by decide +kernel
theorem dX12_worthOfAll_35 : decode cX12_worthOfAll 35 = .ok (.istore 4, 2) := by decide +kernel
theorem dX12_worthOfAll_37 : decode cX12_worthOfAll 37 = .ok (.iinc 6 1, 3) := by decide +kernel
theorem dX12_worthOfAll_40 : decode cX12_worthOfAll 40 = .ok (.goto (-26), 3) := by decide +kernel
theorem dX12_worthOfAll_43 : decode cX12_worthOfAll 43 = .ok (.iload 4, 2) := by decide +kernel
theorem dX12_worthOfAll_45 : decode cX12_worthOfAll 45 = .ok (.ireturn, 1) := by decide +kernel
theorem dX12_keptBy_0 : decode cX12_keptBy 0 = .ok (.aload_n 0, 1) := by decide +kernel
theorem dX12_keptBy_1 : decode cX12_keptBy 1 = .ok (.iload_n 1, 1) := by decide +kernel
theorem dX12_keptBy_2 : decode cX12_keptBy 2 = .ok (.aload_n 0, 1) := by decide +kernel
theorem dX12_keptBy_3 : decode cX12_keptBy 3 = .ok (.invokevirtual 435, 3) := by decide +kernel
theorem dX12_keptBy_6 : decode cX12_keptBy 6 = .ok (.iload_n 2, 1) := by decide +kernel
theorem dX12_keptBy_7 : decode cX12_keptBy 7 = .ok (.iadd, 1) := by decide +kernel
theorem dX12_keptBy_8 : decode cX12_keptBy 8 = .ok (.iload 4, 2) := by decide +kernel
theorem dX12_keptBy_10 : decode cX12_keptBy 10 = .ok (.invokevirtual 525, 3) := by decide +kernel
theorem dX12_keptBy_13 : decode cX12_keptBy 13 = .ok (.aload_n 0, 1) := by decide +kernel
theorem dX12_keptBy_14 : decode cX12_keptBy 14 = .ok (.getfield 128, 3) := by decide +kernel
theorem dX12_keptBy_17 : decode cX12_keptBy 17 = .ok (.bipush 21, 2) := by decide +kernel
theorem dX12_keptBy_19 : decode cX12_keptBy 19 = .ok (.iload_n 2, 1) := by decide +kernel
theorem dX12_keptBy_20 : decode cX12_keptBy 20 = .ok (.imul, 1) := by decide +kernel
theorem dX12_keptBy_21 : decode cX12_keptBy 21 = .ok (.bipush 21, 2) := by decide +kernel
theorem dX12_keptBy_23 : decode cX12_keptBy 23 = .ok (.iadd, 1) := by decide +kernel
theorem dX12_keptBy_24 : decode cX12_keptBy 24 = .ok (.iload_n 3, 1) := by decide +kernel
theorem dX12_keptBy_25 : decode cX12_keptBy 25 = .ok (.iadd, 1) := by decide +kernel
theorem dX12_keptBy_26 : decode cX12_keptBy 26 = .ok (.iload 4, 2) := by decide +kernel
theorem dX12_keptBy_28 : decode cX12_keptBy 28 = .ok (.isub, 1) := by decide +kernel
theorem dX12_keptBy_29 : decode cX12_keptBy 29 = .ok (.iaload, 1) := by decide +kernel
theorem dX12_keptBy_30 : decode cX12_keptBy 30 = .ok (.iadd, 1) := by decide +kernel
theorem dX12_keptBy_31 : decode cX12_keptBy 31 = .ok (.ireturn, 1) := by decide +kernel
theorem dX12_keep_0 : decode cX12_keep 0 = .ok (.aload_n 0, 1) := by decide +kernel
theorem dX12_keep_1 : decode cX12_keep 1 = .ok (.iconst 0, 1) := by decide +kernel
theorem dX12_keep_2 : decode cX12_keep 2 = .ok (.putfield 163, 3) := by decide +kernel
theorem dX12_keep_5 : decode cX12_keep 5 = .ok (.aload_n 0, 1) := by decide +kernel
theorem dX12_keep_6 : decode cX12_keep 6 = .ok (.iload_n 1, 1) := by decide +kernel
theorem dX12_keep_7 : decode cX12_keep 7 = .ok (.invokevirtual 208, 3) := by decide +kernel
theorem dX12_keep_10 : decode cX12_keep 10 = .ok (.ifCond .eq 43, 3) := by decide +kernel
theorem dX12_keep_13 : decode cX12_keep 13 = .ok (.iload_n 2, 1) := by decide +kernel
theorem dX12_keep_14 : decode cX12_keep 14 = .ok (.i2l, 1) := by decide +kernel
theorem dX12_keep_15 : decode cX12_keep 15 = .ok (.lconst 0, 1) := by decide +kernel
theorem dX12_keep_16 : decode cX12_keep 16 = .ok (.ldc2_w 307, 3) := by decide +kernel
theorem dX12_keep_19 : decode cX12_keep 19 = .ok (.invokestatic 183, 3) := by decide +kernel
theorem dX12_keep_22 : decode cX12_keep 22 = .ok (.ifCond .eq 31, 3) := by decide +kernel
theorem dX12_keep_25 : decode cX12_keep 25 = .ok (.iload_n 3, 1) := by decide +kernel
theorem dX12_keep_26 : decode cX12_keep 26 = .ok (.i2l, 1) := by decide +kernel
theorem dX12_keep_27 : decode cX12_keep 27 = .ok (.lconst 1, 1) := by decide +kernel
theorem dX12_keep_28 : decode cX12_keep 28 = .ok (.ldc2_w 528, 3) := by decide +kernel
theorem dX12_keep_31 : decode cX12_keep 31 = .ok (.invokestatic 183, 3) := by decide +kernel
theorem dX12_keep_34 : decode cX12_keep 34 = .ok (.ifCond .eq 19, 3) := by decide +kernel
theorem dX12_keep_37 : decode cX12_keep 37 = .ok (.iload 4, 2) := by decide +kernel
theorem dX12_keep_39 : decode cX12_keep 39 = .ok (.i2l, 1) := by decide +kernel
theorem dX12_keep_40 : decode cX12_keep 40 = .ok (.ldc2_w 284, 3) := by decide +kernel
theorem dX12_keep_43 : decode cX12_keep 43 = .ok (.iload_n 3, 1) := by decide +kernel
theorem dX12_keep_44 : decode cX12_keep 44 = .ok (.i2l, 1) := by decide +kernel
theorem dX12_keep_45 : decode cX12_keep 45 = .ok (.lconst 1, 1) := by decide +kernel
theorem dX12_keep_46 : decode cX12_keep 46 = .ok (.lsub, 1) := by decide +kernel
theorem dX12_keep_47 : decode cX12_keep 47 = .ok (.invokestatic 183, 3) := by decide +kernel
theorem dX12_keep_50 : decode cX12_keep 50 = .ok (.ifCond .ne 5, 3) := by decide +kernel
theorem dX12_keep_53 : decode cX12_keep 53 = .ok (.iconst (-1), 1) := by decide +kernel
theorem dX12_keep_54 : decode cX12_keep 54 = .ok (.ireturn, 1) := by decide +kernel
theorem dX12_keep_55 : decode cX12_keep 55 = .ok (.iconst 0, 1) := by decide +kernel
theorem dX12_keep_56 : decode cX12_keep 56 = .ok (.istore 5, 2) := by decide +kernel
theorem dX12_keep_58 : decode cX12_keep 58 = .ok (.iload 5, 2) := by decide +kernel
theorem dX12_keep_60 : decode cX12_keep 60 = .ok (.bipush 21, 2) := by decide +kernel
theorem dX12_keep_62 : decode cX12_keep 62 = .ok (.if_icmp .ge 22, 3) := by decide +kernel
theorem dX12_keep_65 : decode cX12_keep 65 = .ok (.aload_n 0, 1) := by decide +kernel
theorem dX12_keep_66 : decode cX12_keep 66 = .ok (.getfield 128, 3) := by decide +kernel
theorem dX12_keep_69 : decode cX12_keep 69 = .ok (.bipush 21, 2) := by decide +kernel
theorem dX12_keep_71 : decode cX12_keep 71 = .ok (.iload_n 3, 1) := by decide +kernel
theorem dX12_keep_72 : decode cX12_keep 72 = .ok (.imul, 1) := by decide +kernel
theorem dX12_keep_73 : decode cX12_keep 73 = .ok (.iload 5, 2) := by decide +kernel
theorem dX12_keep_75 : decode cX12_keep 75 = .ok (.iadd, 1) := by decide +kernel
theorem dX12_keep_76 : decode cX12_keep 76 = .ok (.iconst 0, 1) := by decide +kernel
theorem dX12_keep_77 : decode cX12_keep 77 = .ok (.iastore, 1) := by decide +kernel
theorem dX12_keep_78 : decode cX12_keep 78 = .ok (.iinc 5 1, 3) := by decide +kernel
theorem dX12_keep_81 : decode cX12_keep 81 = .ok (.goto (-23), 3) := by decide +kernel
theorem dX12_keep_84 : decode cX12_keep 84 = .ok (.iload_n 3, 1) := by decide +kernel
theorem dX12_keep_85 : decode cX12_keep 85 = .ok (.iconst 1, 1) := by decide +kernel
theorem dX12_keep_86 : decode cX12_keep 86 = .ok (.isub, 1) := by decide +kernel
theorem dX12_keep_87 : decode cX12_keep 87 = .ok (.istore 5, 2) := by decide +kernel
theorem dX12_keep_89 : decode cX12_keep 89 = .ok (.iload 5, 2) := by decide +kernel
theorem dX12_keep_91 : decode cX12_keep 91 = .ok (.ifCond .lt 87, 3) := by decide +kernel
theorem dX12_keep_94 : decode cX12_keep 94 = .ok (.iconst 0, 1) := by decide +kernel
theorem dX12_keep_95 : decode cX12_keep 95 = .ok (.istore 6, 2) := by decide +kernel
theorem dX12_keep_97 : decode cX12_keep 97 = .ok (.iload 6, 2) := by decide +kernel
theorem dX12_keep_99 : decode cX12_keep 99 = .ok (.iload_n 2, 1) := by decide +kernel
theorem dX12_keep_100 : decode cX12_keep 100 = .ok (.if_icmp .gt 72, 3) := by decide +kernel
theorem dX12_keep_103 : decode cX12_keep 103 = .ok (.iconst 0, 1) := by decide +kernel
theorem dX12_keep_104 : decode cX12_keep 104 = .ok (.istore 7, 2) := by decide +kernel
theorem dX12_keep_106 : decode cX12_keep 106 = .ok (.iconst 0, 1) := by decide +kernel
theorem dX12_keep_107 : decode cX12_keep 107 = .ok (.istore 8, 2) := by decide +kernel
theorem dX12_keep_109 : decode cX12_keep 109 = .ok (.iload 8, 2) := by decide +kernel
theorem dX12_keep_111 : decode cX12_keep 111 = .ok (.iload 6, 2) := by decide +kernel
theorem dX12_keep_113 : decode cX12_keep 113 = .ok (.if_icmp .gt 38, 3) := by decide +kernel
theorem dX12_keep_116 : decode cX12_keep 116 = .ok (.aload_n 0, 1) := by decide +kernel
theorem dX12_keep_117 : decode cX12_keep 117 = .ok (.iload_n 1, 1) := by decide +kernel
theorem dX12_keep_118 : decode cX12_keep 118 = .ok (.iload 5, 2) := by decide +kernel
theorem dX12_keep_120 : decode cX12_keep 120 = .ok (.iload 6, 2) := by decide +kernel
theorem dX12_keep_122 : decode cX12_keep 122 = .ok (.iload 8, 2) := by decide +kernel
theorem dX12_keep_124 : decode cX12_keep 124 = .ok (.invokevirtual 530, 3) := by decide +kernel
theorem dX12_keep_127 : decode cX12_keep 127 = .ok (.istore 9, 2) := by decide +kernel
theorem dX12_keep_129 : decode cX12_keep 129 = .ok (.iload 9, 2) := by decide +kernel
theorem dX12_keep_131 : decode cX12_keep 131 = .ok (.iload 7, 2) := by decide +kernel
theorem dX12_keep_133 : decode cX12_keep 133 = .ok (.if_icmp .le 8, 3) := by decide +kernel
theorem dX12_keep_136 : decode cX12_keep 136 = .ok (.iload 9, 2) := by decide +kernel
theorem dX12_keep_138 : decode cX12_keep 138 = .ok (.goto 5, 3) := by decide +kernel
theorem dX12_keep_141 : decode cX12_keep 141 = .ok (.iload 7, 2) := by decide +kernel
theorem dX12_keep_143 : decode cX12_keep 143 = .ok (.istore 7, 2) := by decide +kernel
theorem dX12_keep_145 : decode cX12_keep 145 = .ok (.iinc 8 1, 3) := by decide +kernel
theorem dX12_keep_148 : decode cX12_keep 148 = .ok (.goto (-39), 3) := by decide +kernel
theorem dX12_keep_151 : decode cX12_keep 151 = .ok (.aload_n 0, 1) := by decide +kernel
theorem dX12_keep_152 : decode cX12_keep 152 = .ok (.getfield 128, 3) := by decide +kernel
theorem dX12_keep_155 : decode cX12_keep 155 = .ok (.bipush 21, 2) := by decide +kernel
theorem dX12_keep_157 : decode cX12_keep 157 = .ok (.iload 5, 2) := by decide +kernel
theorem dX12_keep_159 : decode cX12_keep 159 = .ok (.imul, 1) := by decide +kernel
theorem dX12_keep_160 : decode cX12_keep 160 = .ok (.iload 6, 2) := by decide +kernel
theorem dX12_keep_162 : decode cX12_keep 162 = .ok (.iadd, 1) := by decide +kernel
theorem dX12_keep_163 : decode cX12_keep 163 = .ok (.iload 7, 2) := by decide +kernel
theorem dX12_keep_165 : decode cX12_keep 165 = .ok (.iastore, 1) := by decide +kernel
theorem dX12_keep_166 : decode cX12_keep 166 = .ok (.iinc 6 1, 3) := by decide +kernel
theorem dX12_keep_169 : decode cX12_keep 169 = .ok (.goto (-72), 3) := by decide +kernel
theorem dX12_keep_172 : decode cX12_keep 172 = .ok (.iinc 5 (-1), 3) := by decide +kernel
theorem dX12_keep_175 : decode cX12_keep 175 = .ok (.goto (-86), 3) := by decide +kernel
theorem dX12_keep_178 : decode cX12_keep 178 = .ok (.iload_n 2, 1) := by decide +kernel
theorem dX12_keep_179 : decode cX12_keep 179 = .ok (.istore 5, 2) := by decide +kernel
theorem dX12_keep_181 : decode cX12_keep 181 = .ok (.iconst 0, 1) := by decide +kernel
theorem dX12_keep_182 : decode cX12_keep 182 = .ok (.istore 6, 2) := by decide +kernel
theorem dX12_keep_184 : decode cX12_keep 184 = .ok (.iconst 0, 1) := by decide +kernel
theorem dX12_keep_185 : decode cX12_keep 185 = .ok (.istore 7, 2) := by decide +kernel
theorem dX12_keep_187 : decode cX12_keep 187 = .ok (.iload 7, 2) := by decide +kernel
theorem dX12_keep_189 : decode cX12_keep 189 = .ok (.iload 4, 2) := by decide +kernel
theorem dX12_keep_191 : decode cX12_keep 191 = .ok (.if_icmp .gt 52, 3) := by decide +kernel
theorem dX12_keep_194 : decode cX12_keep 194 = .ok (.iconst 0, 1) := by decide +kernel
theorem dX12_keep_195 : decode cX12_keep 195 = .ok (.istore 6, 2) := by decide +kernel
theorem dX12_keep_197 : decode cX12_keep 197 = .ok (.aload_n 0, 1) := by decide +kernel
theorem dX12_keep_198 : decode cX12_keep 198 = .ok (.iload_n 1, 1) := by decide +kernel
theorem dX12_keep_199 : decode cX12_keep 199 = .ok (.iload 7, 2) := by decide +kernel
theorem dX12_keep_201 : decode cX12_keep 201 = .ok (.iload 5, 2) := by decide +kernel
theorem dX12_keep_203 : decode cX12_keep 203 = .ok (.iload 6, 2) := by decide +kernel
theorem dX12_keep_205 : decode cX12_keep 205 = .ok (.invokevirtual 530, 3) := by decide +kernel
theorem dX12_keep_208 : decode cX12_keep 208 = .ok (.aload_n 0, 1) := by decide +kernel
theorem dX12_keep_209 : decode cX12_keep 209 = .ok (.getfield 128, 3) := by decide +kernel
theorem dX12_keep_212 : decode cX12_keep 212 = .ok (.bipush 21, 2) := by decide +kernel
theorem dX12_keep_214 : decode cX12_keep 214 = .ok (.iload 7, 2) := by decide +kernel
theorem dX12_keep_216 : decode cX12_keep 216 = .ok (.imul, 1) := by decide +kernel
theorem dX12_keep_217 : decode cX12_keep 217 = .ok (.iload 5, 2) := by decide +kernel
theorem dX12_keep_219 : decode cX12_keep 219 = .ok (.iadd, 1) := by decide +kernel
theorem dX12_keep_220 : decode cX12_keep 220 = .ok (.iaload, 1) := by decide +kernel
theorem dX12_keep_221 : decode cX12_keep 221 = .ok (.if_icmp .eq 9, 3) := by decide +kernel
theorem dX12_keep_224 : decode cX12_keep 224 = .ok (.iinc 6 1, 3) := by decide +kernel
theorem dX12_keep_227 : decode cX12_keep 227 = .ok (.goto (-30), 3) := by decide +kernel
theorem dX12_keep_230 : decode cX12_keep 230 = .ok (.iload 5, 2) := by decide +kernel
theorem dX12_keep_232 : decode cX12_keep 232 = .ok (.iload 6, 2) := by decide +kernel
theorem dX12_keep_234 : decode cX12_keep 234 = .ok (.isub, 1) := by decide +kernel
theorem dX12_keep_235 : decode cX12_keep 235 = .ok (.istore 5, 2) := by decide +kernel
theorem dX12_keep_237 : decode cX12_keep 237 = .ok (.iinc 7 1, 3) := by decide +kernel
theorem dX12_keep_240 : decode cX12_keep 240 = .ok (.goto (-53), 3) := by decide +kernel
theorem dX12_keep_243 : decode cX12_keep 243 = .ok (.iload 4, 2) := by decide +kernel
theorem dX12_keep_245 : decode cX12_keep 245 = .ok (.iconst (-1), 1) := by decide +kernel
theorem dX12_keep_246 : decode cX12_keep 246 = .ok (.if_icmp .ne 12, 3) := by decide +kernel
theorem dX12_keep_249 : decode cX12_keep 249 = .ok (.aload_n 0, 1) := by decide +kernel
theorem dX12_keep_250 : decode cX12_keep 250 = .ok (.getfield 128, 3) := by decide +kernel
theorem dX12_keep_253 : decode cX12_keep 253 = .ok (.iload_n 2, 1) := by decide +kernel
theorem dX12_keep_254 : decode cX12_keep 254 = .ok (.iaload, 1) := by decide +kernel
theorem dX12_keep_255 : decode cX12_keep 255 = .ok (.goto 5, 3) := by decide +kernel
theorem dX12_keep_258 : decode cX12_keep 258 = .ok (.iload 6, 2) := by decide +kernel
theorem dX12_keep_260 : decode cX12_keep 260 = .ok (.ireturn, 1) := by decide +kernel
theorem dX12_chainBy_0 : decode cX12_chainBy 0 = .ok (.aload_n 0, 1) := by decide +kernel
theorem dX12_chainBy_1 : decode cX12_chainBy 1 = .ok (.getfield 131, 3) := by decide +kernel
theorem dX12_chainBy_4 : decode cX12_chainBy 4 = .ok (.iload_n 2, 1) := by decide +kernel
theorem dX12_chainBy_5 : decode cX12_chainBy 5 = .ok (.iaload, 1) := by decide +kernel
theorem dX12_chainBy_6 : decode cX12_chainBy 6 = .ok (.ldc_w 524, 3) := by decide +kernel
theorem dX12_chainBy_9 : decode cX12_chainBy 9 = .ok (.if_icmp .eq 13, 3) := by decide +kernel
theorem dX12_chainBy_12 : decode cX12_chainBy 12 = .ok (.aload_n 0, 1) := by decide +kernel
theorem dX12_chainBy_13 : decode cX12_chainBy 13 = .ok (.iload_n 1, 1) := by decide +kernel
theorem dX12_chainBy_14 : decode cX12_chainBy 14 = .ok (.iload_n 2, 1) := by decide +kernel
theorem dX12_chainBy_15 : decode cX12_chainBy 15 = .ok (.iload_n 3, 1) := by decide +kernel
theorem dX12_chainBy_16 : decode cX12_chainBy 16 = .ok (.invokevirtual 453, 3) := by decide +kernel
theorem dX12_chainBy_19 : decode cX12_chainBy 19 = .ok (.ifCond .ne 9, 3) := by decide +kernel
theorem dX12_chainBy_22 : decode cX12_chainBy 22 = .ok (.ldc_w 524, 3) := by decide +kernel
theorem dX12_chainBy_25 : decode cX12_chainBy 25 = .ok (.goto 22, 3) := by decide +kernel
theorem dX12_chainBy_28 : decode cX12_chainBy 28 = .ok (.bipush 100, 2) := by decide +kernel
theorem dX12_chainBy_30 : decode cX12_chainBy 30 = .ok (.aload_n 0, 1) := by decide +kernel
theorem dX12_chainBy_31 : decode cX12_chainBy 31 = .ok (.iload_n 1, 1) := by decide +kernel
theorem dX12_chainBy_32 : decode cX12_chainBy 32 = .ok (.iload_n 2, 1) := by decide +kernel
theorem dX12_chainBy_33 : decode cX12_chainBy 33 = .ok (.iload_n 3, 1) := by decide +kernel
theorem dX12_chainBy_34 : decode cX12_chainBy 34 = .ok (.invokevirtual 450, 3) := by decide +kernel
theorem dX12_chainBy_37 : decode cX12_chainBy 37 = .ok (.imul, 1) := by decide +kernel
theorem dX12_chainBy_38 : decode cX12_chainBy 38 = .ok (.iconst 1, 1) := by decide +kernel
theorem dX12_chainBy_39 : decode cX12_chainBy 39 = .ok (.iadd, 1) := by decide +kernel
theorem dX12_chainBy_40 : decode cX12_chainBy 40 = .ok (.aload_n 0, 1) := by decide +kernel
theorem dX12_chainBy_41 : decode cX12_chainBy 41 = .ok (.getfield 131, 3) := by decide +kernel
theorem dX12_chainBy_44 : decode cX12_chainBy 44 = .ok (.iload_n 2, 1) := by decide +kernel
theorem dX12_chainBy_45 : decode cX12_chainBy 45 = .ok (.iaload, 1) := by decide +kernel
theorem dX12_chainBy_46 : decode cX12_chainBy 46 = .ok (.iadd, 1) := by decide +kernel
theorem dX12_chainBy_47 : decode cX12_chainBy 47 = .ok (.ireturn, 1) := by decide +kernel
theorem dX12_chain_0 : decode cX12_chain 0 = .ok (.aload_n 0, 1) := by decide +kernel
theorem dX12_chain_1 : decode cX12_chain 1 = .ok (.iconst 0, 1) := by decide +kernel
theorem dX12_chain_2 : decode cX12_chain 2 = .ok (.putfield 163, 3) := by decide +kernel
theorem dX12_chain_5 : decode cX12_chain 5 = .ok (.iload_n 1, 1) := by decide +kernel
theorem dX12_chain_6 : decode cX12_chain 6 = .ok (.iload_n 2, 1) := by decide +kernel
theorem dX12_chain_7 : decode cX12_chain 7 = .ok (.if_icmp .eq 42, 3) := by decide +kernel
theorem dX12_chain_10 : decode cX12_chain 10 = .ok (.aload_n 0, 1) := by decide +kernel
theorem dX12_chain_11 : decode cX12_chain 11 = .ok (.iload_n 1, 1) := by decide +kernel
theorem dX12_chain_12 : decode cX12_chain 12 = .ok (.invokevirtual 223, 3) := by decide +kernel
theorem dX12_chain_15 : decode cX12_chain 15 = .ok (.ifCond .eq 34, 3) := by decide +kernel
theorem dX12_chain_18 : decode cX12_chain 18 = .ok (.aload_n 0, 1) := by decide +kernel
theorem dX12_chain_19 : decode cX12_chain 19 = .ok (.iload_n 2, 1) := by decide +kernel
theorem dX12_chain_20 : decode cX12_chain 20 = .ok (.invokevirtual 223, 3) := by decide +kernel
theorem dX12_chain_23 : decode cX12_chain 23 = .ok (.ifCond .eq 26, 3) := by decide +kernel
theorem dX12_chain_26 : decode cX12_chain 26 = .ok (.aload_n 0, 1) := by decide +kernel
theorem dX12_chain_27 : decode cX12_chain 27 = .ok (.iload_n 3, 1) := by decide +kernel
theorem dX12_chain_28 : decode cX12_chain 28 = .ok (.invokevirtual 208, 3) := by decide +kernel
theorem dX12_chain_31 : decode cX12_chain 31 = .ok (.ifCond .eq 18, 3) := by decide +kernel
theorem dX12_chain_34 : decode cX12_chain 34 = .ok (.iload 4, 2) := by decide +kernel
theorem dX12_chain_36 : decode cX12_chain 36 = .ok (.iconst (-1), 1) := by decide +kernel
theorem dX12_chain_37 : decode cX12_chain 37 = .ok (.if_icmp .lt 12, 3) := by decide +kernel
theorem dX12_chain_40 : decode cX12_chain 40 = .ok (.aload_n 0, 1) := by decide +kernel
theorem dX12_chain_41 : decode cX12_chain 41 = .ok (.iload_n 1, 1) := by decide +kernel
theorem dX12_chain_42 : decode cX12_chain 42 = .ok (.iload_n 3, 1) := by decide +kernel
theorem dX12_chain_43 : decode cX12_chain 43 = .ok (.invokevirtual 200, 3) := by decide +kernel
theorem dX12_chain_46 : decode cX12_chain 46 = .ok (.ifCond .ne 5, 3) := by decide +kernel
theorem dX12_chain_49 : decode cX12_chain 49 = .ok (.iconst (-1), 1) := by decide +kernel
theorem dX12_chain_50 : decode cX12_chain 50 = .ok (.ireturn, 1) := by decide +kernel
theorem dX12_chain_51 : decode cX12_chain 51 = .ok (.aload_n 0, 1) := by decide +kernel
theorem dX12_chain_52 : decode cX12_chain 52 = .ok (.getfield 13, 3) := by decide +kernel
theorem dX12_chain_55 : decode cX12_chain 55 = .ok (.iconst 1, 1) := by decide +kernel
theorem dX12_chain_56 : decode cX12_chain 56 = .ok (.iaload, 1) := by decide +kernel
theorem dX12_chain_57 : decode cX12_chain 57 = .ok (.istore 5, 2) := by decide +kernel
theorem dX12_chain_59 : decode cX12_chain 59 = .ok (.iconst 0, 1) := by decide +kernel
theorem dX12_chain_60 : decode cX12_chain 60 = .ok (.istore 6, 2) := by decide +kernel
theorem dX12_chain_62 : decode cX12_chain 62 = .ok (.iload 6, 2) := by decide +kernel
theorem dX12_chain_64 : decode cX12_chain 64 = .ok (.iload 5, 2) := by decide +kernel
theorem dX12_chain_66 : decode cX12_chain 66 = .ok (.if_icmp .ge 29, 3) := by decide +kernel
theorem dX12_chain_69 : decode cX12_chain 69 = .ok (.aload_n 0, 1) := by decide +kernel
theorem dX12_chain_70 : decode cX12_chain 70 = .ok (.getfield 131, 3) := by decide +kernel
theorem dX12_chain_73 : decode cX12_chain 73 = .ok (.iload 6, 2) := by decide +kernel
theorem dX12_chain_75 : decode cX12_chain 75 = .ok (.iload 6, 2) := by decide +kernel
theorem dX12_chain_77 : decode cX12_chain 77 = .ok (.iload_n 2, 1) := by decide +kernel
theorem dX12_chain_78 : decode cX12_chain 78 = .ok (.if_icmp .ne 7, 3) := by decide +kernel
theorem dX12_chain_81 : decode cX12_chain 81 = .ok (.iconst 0, 1) := by decide +kernel
theorem dX12_chain_82 : decode cX12_chain 82 = .ok (.goto 6, 3) := by decide +kernel
theorem dX12_chain_85 : decode cX12_chain 85 = .ok (.ldc_w 524, 3) := by decide +kernel
theorem dX12_chain_88 : decode cX12_chain 88 = .ok (.iastore, 1) := by decide +kernel
theorem dX12_chain_89 : decode cX12_chain 89 = .ok (.iinc 6 1, 3) := by decide +kernel
theorem dX12_chain_92 : decode cX12_chain 92 = .ok (.goto (-30), 3) := by decide +kernel
theorem dX12_chain_95 : decode cX12_chain 95 = .ok (.iconst 0, 1) := by decide +kernel
theorem dX12_chain_96 : decode cX12_chain 96 = .ok (.istore 6, 2) := by decide +kernel
theorem dX12_chain_98 : decode cX12_chain 98 = .ok (.iload 6, 2) := by decide +kernel
theorem dX12_chain_100 : decode cX12_chain 100 = .ok (.iload 5, 2) := by decide +kernel
theorem dX12_chain_102 : decode cX12_chain 102 = .ok (.if_icmp .ge 89, 3) := by decide +kernel
theorem dX12_chain_105 : decode cX12_chain 105 = .ok (.iconst 0, 1) := by decide +kernel
theorem dX12_chain_106 : decode cX12_chain 106 = .ok (.istore 7, 2) := by decide +kernel
theorem dX12_chain_108 : decode cX12_chain 108 = .ok (.iload 7, 2) := by decide +kernel
theorem dX12_chain_110 : decode cX12_chain 110 = .ok (.iload 5, 2) := by decide +kernel
theorem dX12_chain_112 : decode cX12_chain 112 = .ok (.if_icmp .ge 73, 3) := by decide +kernel
theorem dX12_chain_115 : decode cX12_chain 115 = .ok (.iconst 0, 1) := by decide +kernel
theorem dX12_chain_116 : decode cX12_chain 116 = .ok (.istore 8, 2) := by decide +kernel
theorem dX12_chain_118 : decode cX12_chain 118 = .ok (.iload 8, 2) := by decide +kernel
theorem dX12_chain_120 : decode cX12_chain 120 = .ok (.iload 5, 2) := by decide +kernel
theorem dX12_chain_122 : decode cX12_chain 122 = .ok (.if_icmp .ge 57, 3) := by decide +kernel
theorem dX12_chain_125 : decode cX12_chain 125 = .ok (.iload 7, 2) := by decide +kernel
theorem dX12_chain_127 : decode cX12_chain 127 = .ok (.iload_n 2, 1) := by decide +kernel
theorem dX12_chain_128 : decode cX12_chain 128 = .ok (.if_icmp .eq 51, 3) := by decide +kernel
theorem dX12_chain_131 : decode cX12_chain 131 = .ok (.aload_n 0, 1) := by decide +kernel
theorem dX12_chain_132 : decode cX12_chain 132 = .ok (.iload 7, 2) := by decide +kernel
theorem dX12_chain_134 : decode cX12_chain 134 = .ok (.iload 8, 2) := by decide +kernel
theorem dX12_chain_136 : decode cX12_chain 136 = .ok (.iload_n 3, 1) := by decide +kernel
theorem dX12_chain_137 : decode cX12_chain 137 = .ok (.invokevirtual 534, 3) := by decide +kernel
theorem dX12_chain_140 : decode cX12_chain 140 = .ok (.istore 9, 2) := by decide +kernel
theorem dX12_chain_142 : decode cX12_chain 142 = .ok (.aload_n 0, 1) := by decide +kernel
theorem dX12_chain_143 : decode cX12_chain 143 = .ok (.getfield 131, 3) := by decide +kernel
theorem dX12_chain_146 : decode cX12_chain 146 = .ok (.iload 7, 2) := by decide +kernel
theorem dX12_chain_148 : decode cX12_chain 148 = .ok (.iload 9, 2) := by decide +kernel
theorem dX12_chain_150 : decode cX12_chain 150 = .ok (.aload_n 0, 1) := by decide +kernel
theorem dX12_chain_151 : decode cX12_chain 151 = .ok (.getfield 131, 3) := by decide +kernel
theorem dX12_chain_154 : decode cX12_chain 154 = .ok (.iload 7, 2) := by decide +kernel
theorem dX12_chain_156 : decode cX12_chain 156 = .ok (.iaload, 1) := by decide +kernel
theorem dX12_chain_157 : decode cX12_chain 157 = .ok (.if_icmp .ge 8, 3) := by decide +kernel
theorem dX12_chain_160 : decode cX12_chain 160 = .ok (.iload 9, 2) := by decide +kernel
theorem dX12_chain_162 : decode cX12_chain 162 = .ok (.goto 10, 3) := by decide +kernel
theorem dX12_chain_165 : decode cX12_chain 165 = .ok (.aload_n 0, 1) := by decide +kernel
theorem dX12_chain_166 : decode cX12_chain 166 = .ok (.getfield 131, 3) := by decide +kernel
theorem dX12_chain_169 : decode cX12_chain 169 = .ok (.iload 7, 2) := by decide +kernel
theorem dX12_chain_171 : decode cX12_chain 171 = .ok (.iaload, 1) := by decide +kernel
theorem dX12_chain_172 : decode cX12_chain 172 = .ok (.iastore, 1) := by decide +kernel
theorem dX12_chain_173 : decode cX12_chain 173 = .ok (.iinc 8 1, 3) := by decide +kernel
theorem dX12_chain_176 : decode cX12_chain 176 = .ok (.goto (-58), 3) := by decide +kernel
theorem dX12_chain_179 : decode cX12_chain 179 = .ok (.iinc 7 1, 3) := by decide +kernel
theorem dX12_chain_182 : decode cX12_chain 182 = .ok (.goto (-74), 3) := by decide +kernel
theorem dX12_chain_185 : decode cX12_chain 185 = .ok (.iinc 6 1, 3) := by decide +kernel
theorem dX12_chain_188 : decode cX12_chain 188 = .ok (.goto (-90), 3) := by decide +kernel
theorem dX12_chain_191 : decode cX12_chain 191 = .ok (.aload_n 0, 1) := by decide +kernel
theorem dX12_chain_192 : decode cX12_chain 192 = .ok (.getfield 131, 3) := by decide +kernel
theorem dX12_chain_195 : decode cX12_chain 195 = .ok (.iload_n 1, 1) := by decide +kernel
theorem dX12_chain_196 : decode cX12_chain 196 = .ok (.iaload, 1) := by decide +kernel
theorem dX12_chain_197 : decode cX12_chain 197 = .ok (.ldc_w 524, 3) := by decide +kernel
theorem dX12_chain_200 : decode cX12_chain 200 = .ok (.if_icmp .eq 9, 3) := by decide +kernel
theorem dX12_chain_203 : decode cX12_chain 203 = .ok (.iload 4, 2) := by decide +kernel
theorem dX12_chain_205 : decode cX12_chain 205 = .ok (.iconst (-1), 1) := by decide +kernel
theorem dX12_chain_206 : decode cX12_chain 206 = .ok (.if_icmp .ne 29, 3) := by decide +kernel
theorem dX12_chain_209 : decode cX12_chain 209 = .ok (.aload_n 0, 1) := by decide +kernel
theorem dX12_chain_210 : decode cX12_chain 210 = .ok (.getfield 131, 3) := by decide +kernel
theorem dX12_chain_213 : decode cX12_chain 213 = .ok (.iload_n 1, 1) := by decide +kernel
theorem dX12_chain_214 : decode cX12_chain 214 = .ok (.iaload, 1) := by decide +kernel
theorem dX12_chain_215 : decode cX12_chain 215 = .ok (.ldc_w 524, 3) := by decide +kernel
theorem dX12_chain_218 : decode cX12_chain 218 = .ok (.if_icmp .ne 7, 3) := by decide +kernel
theorem dX12_chain_221 : decode cX12_chain 221 = .ok (.iconst (-1), 1) := by decide +kernel
theorem dX12_chain_222 : decode cX12_chain 222 = .ok (.goto 12, 3) := by decide +kernel
theorem dX12_chain_225 : decode cX12_chain 225 = .ok (.aload_n 0, 1) := by decide +kernel
theorem dX12_chain_226 : decode cX12_chain 226 = .ok (.getfield 131, 3) := by decide +kernel
theorem dX12_chain_229 : decode cX12_chain 229 = .ok (.iload_n 1, 1) := by decide +kernel
theorem dX12_chain_230 : decode cX12_chain 230 = .ok (.iaload, 1) := by decide +kernel
theorem dX12_chain_231 : decode cX12_chain 231 = .ok (.bipush 100, 2) := by decide +kernel
theorem dX12_chain_233 : decode cX12_chain 233 = .ok (.idiv, 1) := by decide +kernel
theorem dX12_chain_234 : decode cX12_chain 234 = .ok (.ireturn, 1) := by decide +kernel
theorem dX12_chain_235 : decode cX12_chain 235 = .ok (.iload_n 1, 1) := by decide +kernel
theorem dX12_chain_236 : decode cX12_chain 236 = .ok (.istore 6, 2) := by decide +kernel
theorem dX12_chain_238 : decode cX12_chain 238 = .ok (.iconst 0, 1) := by decide +kernel
theorem dX12_chain_239 : decode cX12_chain 239 = .ok (.istore 7, 2) := by decide +kernel
theorem dX12_chain_241 : decode cX12_chain 241 = .ok (.iload 7, 2) := by decide +kernel
theorem dX12_chain_243 : decode cX12_chain 243 = .ok (.iload 4, 2) := by decide +kernel
theorem dX12_chain_245 : decode cX12_chain 245 = .ok (.if_icmp .gt 49, 3) := by decide +kernel
theorem dX12_chain_248 : decode cX12_chain 248 = .ok (.iload 6, 2) := by decide +kernel
theorem dX12_chain_250 : decode cX12_chain 250 = .ok (.iload_n 2, 1) := by decide +kernel
theorem dX12_chain_251 : decode cX12_chain 251 = .ok (.if_icmp .ne 5, 3) := by decide +kernel
theorem dX12_chain_254 : decode cX12_chain 254 = .ok (.iconst (-1), 1) := by decide +kernel
theorem dX12_chain_255 : decode cX12_chain 255 = .ok (.ireturn, 1) := by decide +kernel
theorem dX12_chain_256 : decode cX12_chain 256 = .ok (.iconst 0, 1) := by decide +kernel
theorem dX12_chain_257 : decode cX12_chain 257 = .ok (.istore 8, 2) := by decide +kernel
theorem dX12_chain_259 : decode cX12_chain 259 = .ok (.aload_n 0, 1) := by decide +kernel
theorem dX12_chain_260 : decode cX12_chain 260 = .ok (.iload 6, 2) := by decide +kernel
theorem dX12_chain_262 : decode cX12_chain 262 = .ok (.iload 8, 2) := by decide +kernel
theorem dX12_chain_264 : decode cX12_chain 264 = .ok (.iload_n 3, 1) := by decide +kernel
theorem dX12_chain_265 : decode cX12_chain 265 = .ok (.invokevirtual 534, 3) := by decide +kernel
theorem dX12_chain_268 : decode cX12_chain 268 = .ok (.aload_n 0, 1) := by decide +kernel
theorem dX12_chain_269 : decode cX12_chain 269 = .ok (.getfield 131, 3) := by decide +kernel
theorem dX12_chain_272 : decode cX12_chain 272 = .ok (.iload 6, 2) := by decide +kernel
theorem dX12_chain_274 : decode cX12_chain 274 = .ok (.iaload, 1) := by decide +kernel
theorem dX12_chain_275 : decode cX12_chain 275 = .ok (.if_icmp .eq 9, 3) := by decide +kernel
theorem dX12_chain_278 : decode cX12_chain 278 = .ok (.iinc 8 1, 3) := by decide +kernel
theorem dX12_chain_281 : decode cX12_chain 281 = .ok (.goto (-22), 3) := by decide +kernel
theorem dX12_chain_284 : decode cX12_chain 284 = .ok (.iload 8, 2) := by decide +kernel
theorem dX12_chain_286 : decode cX12_chain 286 = .ok (.istore 6, 2) := by decide +kernel
theorem dX12_chain_288 : decode cX12_chain 288 = .ok (.iinc 7 1, 3) := by decide +kernel
theorem dX12_chain_291 : decode cX12_chain 291 = .ok (.goto (-50), 3) := by decide +kernel
theorem dX12_chain_294 : decode cX12_chain 294 = .ok (.iload 6, 2) := by decide +kernel
theorem dX12_chain_296 : decode cX12_chain 296 = .ok (.ireturn, 1) := by decide +kernel
theorem dX12_likely_0 : decode cX12_likely 0 = .ok (.aload_n 0, 1) := by decide +kernel
theorem dX12_likely_1 : decode cX12_likely 1 = .ok (.iconst 0, 1) := by decide +kernel
theorem dX12_likely_2 : decode cX12_likely 2 = .ok (.putfield 163, 3) := by decide +kernel
theorem dX12_likely_5 : decode cX12_likely 5 = .ok (.iload_n 1, 1) := by decide +kernel
theorem dX12_likely_6 : decode cX12_likely 6 = .ok (.i2l, 1) := by decide +kernel
theorem dX12_likely_7 : decode cX12_likely 7 = .ok (.lconst 0, 1) := by decide +kernel
theorem dX12_likely_8 : decode cX12_likely 8 = .ok (.ldc2_w 307, 3) := by decide +kernel
theorem dX12_likely_11 : decode cX12_likely 11 = .ok (.invokestatic 183, 3) := by decide +kernel
theorem dX12_likely_14 : decode cX12_likely 14 = .ok (.ifCond .eq 15, 3) := by decide +kernel
theorem dX12_likely_17 : decode cX12_likely 17 = .ok (.iload_n 2, 1) := by decide +kernel
theorem dX12_likely_18 : decode cX12_likely 18 = .ok (.i2l, 1) := by decide +kernel
theorem dX12_likely_19 : decode cX12_likely 19 = .ok (.lconst 0, 1) := by decide +kernel
theorem dX12_likely_20 : decode cX12_likely 20 = .ok (.ldc2_w 537, 3) := by decide +kernel
theorem dX12_likely_23 : decode cX12_likely 23 = .ok (.invokestatic 183, 3) := by decide +kernel
theorem dX12_likely_26 : decode cX12_likely 26 = .ok (.ifCond .ne 7, 3) := by decide +kernel
theorem dX12_likely_29 : decode cX12_likely 29 = .ok (.ldc2_w 284, 3) := by decide +kernel
theorem dX12_likely_32 : decode cX12_likely 32 = .ok (.lreturn, 1) := by decide +kernel
theorem dX12_likely_33 : decode cX12_likely 33 = .ok (.iconst 0, 1) := by decide +kernel
theorem dX12_likely_34 : decode cX12_likely 34 = .ok (.istore_n 3, 1) := by decide +kernel
theorem dX12_likely_35 : decode cX12_likely 35 = .ok (.iload_n 3, 1) := by decide +kernel
theorem dX12_likely_36 : decode cX12_likely 36 = .ok (.bipush 22, 2) := by decide +kernel
theorem dX12_likely_38 : decode cX12_likely 38 = .ok (.if_icmp .ge 16, 3) := by decide +kernel
theorem dX12_likely_41 : decode cX12_likely 41 = .ok (.aload_n 0, 1) := by decide +kernel
theorem dX12_likely_42 : decode cX12_likely 42 = .ok (.getfield 134, 3) := by decide +kernel
theorem dX12_likely_45 : decode cX12_likely 45 = .ok (.iload_n 3, 1) := by decide +kernel
theorem dX12_likely_46 : decode cX12_likely 46 = .ok (.lconst 0, 1) := by decide +kernel
theorem dX12_likely_47 : decode cX12_likely 47 = .ok (.lastore, 1) := by decide +kernel
theorem dX12_likely_48 : decode cX12_likely 48 = .ok (.iinc 3 1, 3) := by decide +kernel
theorem dX12_likely_51 : decode cX12_likely 51 = .ok (.goto (-16), 3) := by decide +kernel
theorem dX12_likely_54 : decode cX12_likely 54 = .ok (.aload_n 0, 1) := by decide +kernel
theorem dX12_likely_55 : decode cX12_likely 55 = .ok (.getfield 134, 3) := by decide +kernel
theorem dX12_likely_58 : decode cX12_likely 58 = .ok (.iconst 0, 1) := by decide +kernel
theorem dX12_likely_59 : decode cX12_likely 59 = .ok (.ldc2_w 539, 3) := by decide +kernel
theorem dX12_likely_62 : decode cX12_likely 62 = .ok (.lastore, 1) := by decide +kernel
theorem dX12_likely_63 : decode cX12_likely 63 = .ok (.aload_n 0, 1) := by decide +kernel
theorem dX12_likely_64 : decode cX12_likely 64 = .ok (.getfield 13, 3) := by decide +kernel
theorem dX12_likely_67 : decode cX12_likely 67 = .ok (.bipush 6, 2) := by decide +kernel
theorem dX12_likely_69 : decode cX12_likely 69 = .ok (.iaload, 1) := by decide +kernel
theorem dX12_likely_70 : decode cX12_likely 70 = .ok (.istore_n 3, 1) := by decide +kernel
theorem dX12_likely_71 : decode cX12_likely 71 = .ok (.iconst 0, 1) := by decide +kernel
theorem dX12_likely_72 : decode cX12_likely 72 = .ok (.istore 4, 2) := by decide +kernel
theorem dX12_likely_74 : decode cX12_likely 74 = .ok (.iload 4, 2) := by decide +kernel
theorem dX12_likely_76 : decode cX12_likely 76 = .ok (.iload_n 2, 1) := by decide +kernel
theorem dX12_likely_77 : decode cX12_likely 77 = .ok (.if_icmp .ge 74, 3) := by decide +kernel
theorem dX12_likely_80 : decode cX12_likely 80 = .ok (.iload_n 1, 1) := by decide +kernel
theorem dX12_likely_81 : decode cX12_likely 81 = .ok (.iconst 1, 1) := by decide +kernel
theorem dX12_likely_82 : decode cX12_likely 82 = .ok (.isub, 1) := by decide +kernel
theorem dX12_likely_83 : decode cX12_likely 83 = .ok (.istore 5, 2) := by decide +kernel
theorem dX12_likely_85 : decode cX12_likely 85 = .ok (.iload 5, 2) := by decide +kernel
theorem dX12_likely_87 : decode cX12_likely 87 = .ok (.ifCond .lt 58, 3) := by decide +kernel
theorem dX12_likely_90 : decode cX12_likely 90 = .ok (.aload_n 0, 1) := by decide +kernel
theorem dX12_likely_91 : decode cX12_likely 91 = .ok (.getfield 134, 3) := by decide +kernel
theorem dX12_likely_94 : decode cX12_likely 94 = .ok (.iload 5, 2) := by decide +kernel
theorem dX12_likely_96 : decode cX12_likely 96 = .ok (.laload, 1) := by decide +kernel
theorem dX12_likely_97 : decode cX12_likely 97 = .ok (.lstore 6, 2) := by decide +kernel
theorem dX12_likely_99 : decode cX12_likely 99 = .ok (.aload_n 0, 1) := by decide +kernel
theorem dX12_likely_100 : decode cX12_likely 100 = .ok (.getfield 134, 3) := by decide +kernel
theorem dX12_likely_103 : decode cX12_likely 103 = .ok (.iload 5, 2) := by decide +kernel
theorem dX12_likely_105 : decode cX12_likely 105 = .ok (.lload 6, 2) := by decide +kernel
theorem dX12_likely_107 : decode cX12_likely 107 = .ok (.iload_n 3, 1) := by decide +kernel
theorem dX12_likely_108 : decode cX12_likely 108 = .ok (.i2l, 1) := by decide +kernel
theorem dX12_likely_109 : decode cX12_likely 109 = .ok (.lmul, 1) := by decide +kernel
theorem dX12_likely_110 : decode cX12_likely 110 = .ok (.ldc2_w 241, 3) := by decide +kernel
theorem dX12_likely_113 : decode cX12_likely 113 = .ok (.ldiv, 1) := by decide +kernel
theorem dX12_likely_114 : decode cX12_likely 114 = .ok (.lastore, 1) := by decide +kernel
theorem dX12_likely_115 : decode cX12_likely 115 = .ok (.aload_n 0, 1) := by decide +kernel
theorem dX12_likely_116 : decode cX12_likely 116 = .ok (.getfield 134, 3) := by decide +kernel
theorem dX12_likely_119 : decode cX12_likely 119 = .ok (.iload 5, 2) := by decide +kernel
theorem dX12_likely_121 : decode cX12_likely 121 = .ok (.iconst 1, 1) := by decide +kernel
theorem dX12_likely_122 : decode cX12_likely 122 = .ok (.iadd, 1) := by decide +kernel
theorem dX12_likely_123 : decode cX12_likely 123 = .ok (.dup2, 1) := by decide +kernel
theorem dX12_likely_124 : decode cX12_likely 124 = .ok (.laload, 1) := by decide +kernel
theorem dX12_likely_125 : decode cX12_likely 125 = .ok (.lload 6, 2) := by decide +kernel
theorem dX12_likely_127 : decode cX12_likely 127 = .ok (.bipush 10, 2) := by decide +kernel
theorem dX12_likely_129 : decode cX12_likely 129 = .ok (.iload_n 3, 1) := by decide +kernel
theorem dX12_likely_130 : decode cX12_likely 130 = .ok (.isub, 1) := by decide +kernel
theorem dX12_likely_131 : decode cX12_likely 131 = .ok (.i2l, 1) := by decide +kernel
theorem dX12_likely_132 : decode cX12_likely 132 = .ok (.lmul, 1) := by decide +kernel
theorem dX12_likely_133 : decode cX12_likely 133 = .ok (.ldc2_w 241, 3) := by decide +kernel
theorem dX12_likely_136 : decode cX12_likely 136 = .ok (.ldiv, 1) := by decide +kernel
theorem dX12_likely_137 : decode cX12_likely 137 = .ok (.ladd, 1) := by decide +kernel
theorem dX12_likely_138 : decode cX12_likely 138 = .ok (.lastore, 1) := by decide +kernel
theorem dX12_likely_139 : decode cX12_likely 139 = .ok (.iinc 5 (-1), 3) := by decide +kernel
theorem dX12_likely_142 : decode cX12_likely 142 = .ok (.goto (-57), 3) := by decide +kernel
theorem dX12_likely_145 : decode cX12_likely 145 = .ok (.iinc 4 1, 3) := by decide +kernel
theorem dX12_likely_148 : decode cX12_likely 148 = .ok (.goto (-74), 3) := by decide +kernel
theorem dX12_likely_151 : decode cX12_likely 151 = .ok (.aload_n 0, 1) := by decide +kernel
theorem dX12_likely_152 : decode cX12_likely 152 = .ok (.getfield 134, 3) := by decide +kernel
theorem dX12_likely_155 : decode cX12_likely 155 = .ok (.iload_n 1, 1) := by decide +kernel
theorem dX12_likely_156 : decode cX12_likely 156 = .ok (.laload, 1) := by decide +kernel
theorem dX12_likely_157 : decode cX12_likely 157 = .ok (.lreturn, 1) := by decide +kernel
theorem dX12_readSum_0 : decode cX12_readSum 0 = .ok (.aload_n 0, 1) := by decide +kernel
theorem dX12_readSum_1 : decode cX12_readSum 1 = .ok (.getfield 148, 3) := by decide +kernel
theorem dX12_readSum_4 : decode cX12_readSum 4 = .ok (.iload_n 1, 1) := by decide +kernel
theorem dX12_readSum_5 : decode cX12_readSum 5 = .ok (.aload_n 0, 1) := by decide +kernel
theorem dX12_readSum_6 : decode cX12_readSum 6 = .ok (.getfield 294, 3) := by decide +kernel
theorem dX12_readSum_9 : decode cX12_readSum 9 = .ok (.iastore, 1) := by decide +kernel
theorem dX12_readSum_10 : decode cX12_readSum 10 = .ok (.aload_n 0, 1) := by decide +kernel
theorem dX12_readSum_11 : decode cX12_readSum 11 = .ok (.getfield 257, 3) := by decide +kernel
theorem dX12_readSum_14 : decode cX12_readSum 14 = .ok (.ifCond .ne 8, 3) := by decide +kernel
theorem dX12_readSum_17 : decode cX12_readSum 17 = .ok (.aload_n 0, 1) := by decide +kernel
theorem dX12_readSum_18 : decode cX12_readSum 18 = .ok (.iconst 0, 1) := by decide +kernel
theorem dX12_readSum_19 : decode cX12_readSum 19 = .ok (.invokevirtual 389, 3) := by decide +kernel
theorem dX12_readSum_22 : decode cX12_readSum 22 = .ok (.aload_n 0, 1) := by decide +kernel
theorem dX12_readSum_23 : decode cX12_readSum 23 = .ok (.getfield 148, 3) := by decide +kernel
theorem dX12_readSum_26 : decode cX12_readSum 26 = .ok (.iload_n 1, 1) := by decide +kernel
theorem dX12_readSum_27 : decode cX12_readSum 27 = .ok (.iconst 1, 1) := by decide +kernel
theorem dX12_readSum_28 : decode cX12_readSum 28 = .ok (.iadd, 1) := by decide +kernel
theorem dX12_readSum_29 : decode cX12_readSum 29 = .ok (.aload_n 0, 1) := by decide +kernel
theorem dX12_readSum_30 : decode cX12_readSum 30 = .ok (.getfield 294, 3) := by decide +kernel
theorem dX12_readSum_33 : decode cX12_readSum 33 = .ok (.iastore, 1) := by decide +kernel
theorem dX12_readSum_34 : decode cX12_readSum 34 = .ok (.return_, 1) := by decide +kernel
theorem dX12_behind_0 : decode cX12_behind 0 = .ok (.aload_n 0, 1) := by decide +kernel
theorem dX12_behind_1 : decode cX12_behind 1 = .ok (.getfield 257, 3) := by decide +kernel
theorem dX12_behind_4 : decode cX12_behind 4 = .ok (.ifCond .ne 12, 3) := by decide +kernel
theorem dX12_behind_7 : decode cX12_behind 7 = .ok (.aload_n 0, 1) := by decide +kernel
theorem dX12_behind_8 : decode cX12_behind 8 = .ok (.aload_n 0, 1) := by decide +kernel
theorem dX12_behind_9 : decode cX12_behind 9 = .ok (.lload_n 1, 1) := by decide +kernel
theorem dX12_behind_10 : decode cX12_behind 10 = .ok (.invokevirtual 313, 3) := by decide +kernel
theorem dX12_behind_13 : decode cX12_behind 13 = .ok (.invokevirtual 290, 3) := by decide +kernel
theorem dX12_behind_16 : decode cX12_behind 16 = .ok (.aload_n 0, 1) := by decide +kernel
theorem dX12_behind_17 : decode cX12_behind 17 = .ok (.iload_n 3, 1) := by decide +kernel
theorem dX12_behind_18 : decode cX12_behind 18 = .ok (.invokevirtual 541, 3) := by decide +kernel
theorem dX12_behind_21 : decode cX12_behind 21 = .ok (.return_, 1) := by decide +kernel
theorem dX12_readOrder_0 : decode cX12_readOrder 0 = .ok (.iconst (-1), 1) := by decide +kernel
theorem dX12_readOrder_1 : decode cX12_readOrder 1 = .ok (.istore_n 1, 1) := by decide +kernel
theorem dX12_readOrder_2 : decode cX12_readOrder 2 = .ok (.iconst 0, 1) := by decide +kernel
theorem dX12_readOrder_3 : decode cX12_readOrder 3 = .ok (.istore_n 2, 1) := by decide +kernel
theorem dX12_readOrder_4 : decode cX12_readOrder 4 = .ok (.iload_n 2, 1) := by decide +kernel
theorem dX12_readOrder_5 : decode cX12_readOrder 5 = .ok (.iconst 4, 1) := by decide +kernel
theorem dX12_readOrder_6 : decode cX12_readOrder 6 = .ok (.if_icmp .ge 28, 3) := by decide +kernel
theorem dX12_readOrder_9 : decode cX12_readOrder 9 = .ok (.aload_n 0, 1) := by decide +kernel
theorem dX12_readOrder_10 : decode cX12_readOrder 10 = .ok (.aload_n 0, 1) := by decide +kernel
theorem dX12_readOrder_11 : decode cX12_readOrder 11 = .ok (.getfield 145, 3) := by decide +kernel
theorem dX12_readOrder_14 : decode cX12_readOrder 14 = .ok (.iload_n 2, 1) := by decide +kernel
theorem dX12_readOrder_15 : decode cX12_readOrder 15 = .ok (.laload, 1) := by decide +kernel
theorem dX12_readOrder_16 : decode cX12_readOrder 16 = .ok (.invokevirtual 313, 3) := by decide +kernel
theorem dX12_readOrder_19 : decode cX12_readOrder 19 = .ok (.ifCond .eq 7, 3) := by decide +kernel
theorem dX12_readOrder_22 : decode cX12_readOrder 22 = .ok (.iload_n 2, 1) := by decide +kernel
theorem dX12_readOrder_23 : decode cX12_readOrder 23 = .ok (.goto 4, 3) := by decide +kernel
theorem dX12_readOrder_26 : decode cX12_readOrder 26 = .ok (.iload_n 1, 1) := by decide +kernel
theorem dX12_readOrder_27 : decode cX12_readOrder 27 = .ok (.istore_n 1, 1) := by decide +kernel
theorem dX12_readOrder_28 : decode cX12_readOrder 28 = .ok (.iinc 2 1, 3) := by decide +kernel
theorem dX12_readOrder_31 : decode cX12_readOrder 31 = .ok (.goto (-27), 3) := by decide +kernel
theorem dX12_readOrder_34 : decode cX12_readOrder 34 = .ok (.aload_n 0, 1) := by decide +kernel
theorem dX12_readOrder_35 : decode cX12_readOrder 35 = .ok (.iload_n 1, 1) := by decide +kernel
theorem dX12_readOrder_36 : decode cX12_readOrder 36 = .ok (.iconst (-1), 1) := by decide +kernel
theorem dX12_readOrder_37 : decode cX12_readOrder 37 = .ok (.if_icmp .eq 16, 3) := by decide +kernel
theorem dX12_readOrder_40 : decode cX12_readOrder 40 = .ok (.aload_n 0, 1) := by decide +kernel
theorem dX12_readOrder_41 : decode cX12_readOrder 41 = .ok (.getfield 386, 3) := by decide +kernel
theorem dX12_readOrder_44 : decode cX12_readOrder 44 = .ok (.bipush 12, 2) := by decide +kernel
theorem dX12_readOrder_46 : decode cX12_readOrder 46 = .ok (.if_icmp .ge 7, 3) := by decide +kernel
theorem dX12_readOrder_49 : decode cX12_readOrder 49 = .ok (.iconst 1, 1) := by decide +kernel
theorem dX12_readOrder_50 : decode cX12_readOrder 50 = .ok (.goto 4, 3) := by decide +kernel
theorem dX12_readOrder_53 : decode cX12_readOrder 53 = .ok (.iconst 0, 1) := by decide +kernel
theorem dX12_readOrder_54 : decode cX12_readOrder 54 = .ok (.invokevirtual 290, 3) := by decide +kernel
theorem dX12_readOrder_57 : decode cX12_readOrder 57 = .ok (.aload_n 0, 1) := by decide +kernel
theorem dX12_readOrder_58 : decode cX12_readOrder 58 = .ok (.getfield 257, 3) := by decide +kernel
theorem dX12_readOrder_61 : decode cX12_readOrder 61 = .ok (.ifCond .eq 4, 3) := by decide +kernel
theorem dX12_readOrder_64 : decode cX12_readOrder 64 = .ok (.return_, 1) := by decide +kernel
theorem dX12_readOrder_65 : decode cX12_readOrder 65 = .ok (.bipush 10, 2) := by decide +kernel
theorem dX12_readOrder_67 : decode cX12_readOrder 67 = .ok (.aload_n 0, 1) := by decide +kernel
theorem dX12_readOrder_68 : decode cX12_readOrder 68 = .ok (.getfield 386, 3) := by decide +kernel
theorem dX12_readOrder_71 : decode cX12_readOrder 71 = .ok (.imul, 1) := by decide +kernel
theorem dX12_readOrder_72 : decode cX12_readOrder 72 = .ok (.istore_n 2, 1) := by decide +kernel
theorem dX12_readOrder_73 : decode cX12_readOrder 73 = .ok (.aload_n 0, 1) := by decide +kernel
theorem dX12_readOrder_74 : decode cX12_readOrder 74 = .ok (.dup, 1) := by decide +kernel
theorem dX12_readOrder_75 : decode cX12_readOrder 75 = .ok (.getfield 386, 3) := by decide +kernel
theorem dX12_readOrder_78 : decode cX12_readOrder 78 = .ok (.iconst 1, 1) := by decide +kernel
theorem dX12_readOrder_79 : decode cX12_readOrder 79 = .ok (.iadd, 1) := by decide +kernel
theorem dX12_readOrder_80 : decode cX12_readOrder 80 = .ok (.putfield 386, 3) := by decide +kernel
theorem dX12_readOrder_83 : decode cX12_readOrder 83 = .ok (.iconst 0, 1) := by decide +kernel
theorem dX12_readOrder_84 : decode cX12_readOrder 84 = .ok (.istore_n 3, 1) := by decide +kernel
theorem dX12_readOrder_85 : decode cX12_readOrder 85 = .ok (.iload_n 3, 1) := by decide +kernel
theorem dX12_readOrder_86 : decode cX12_readOrder 86 = .ok (.bipush 10, 2) := by decide +kernel
theorem dX12_readOrder_88 : decode cX12_readOrder 88 = .ok (.if_icmp .ge 18, 3) := by decide +kernel
theorem dX12_readOrder_91 : decode cX12_readOrder 91 = .ok (.aload_n 0, 1) := by decide +kernel
theorem dX12_readOrder_92 : decode cX12_readOrder 92 = .ok (.getfield 148, 3) := by decide +kernel
theorem dX12_readOrder_95 : decode cX12_readOrder 95 = .ok (.iload_n 2, 1) := by decide +kernel
theorem dX12_readOrder_96 : decode cX12_readOrder 96 = .ok (.iload_n 3, 1) := by decide +kernel
theorem dX12_readOrder_97 : decode cX12_readOrder 97 = .ok (.iadd, 1) := by decide +kernel
theorem dX12_readOrder_98 : decode cX12_readOrder 98 = .ok (.iconst 0, 1) := by decide +kernel
theorem dX12_readOrder_99 : decode cX12_readOrder 99 = .ok (.iastore, 1) := by decide +kernel
theorem dX12_readOrder_100 : decode cX12_readOrder 100 = .ok (.iinc 3 1, 3) := by decide +kernel
theorem dX12_readOrder_103 : decode cX12_readOrder 103 = .ok (.goto (-18), 3) := by decide +kernel
theorem dX12_readOrder_106 : decode cX12_readOrder 106 = .ok (.aload_n 0, 1) := by decide +kernel
theorem dX12_readOrder_107 : decode cX12_readOrder 107 = .ok (.getfield 148, 3) := by decide +kernel
theorem dX12_readOrder_110 : decode cX12_readOrder 110 = .ok (.iload_n 2, 1) := by decide +kernel
theorem dX12_readOrder_111 : decode cX12_readOrder 111 = .ok (.iload_n 1, 1) := by decide +kernel
theorem dX12_readOrder_112 : decode cX12_readOrder 112 = .ok (.iastore, 1) := by decide +kernel
theorem dX12_readOrder_113 : decode cX12_readOrder 113 = .ok (.iload_n 1, 1) := by decide +kernel
theorem dX12_readOrder_114 : decode cX12_readOrder 114 = .ok (.iconst 3, 1) := by decide +kernel
theorem dX12_readOrder_115 : decode cX12_readOrder 115 = .ok (.if_icmp .eq 10, 3) := by decide +kernel
theorem dX12_readOrder_118 : decode cX12_readOrder 118 = .ok (.aload_n 0, 1) := by decide +kernel
theorem dX12_readOrder_119 : decode cX12_readOrder 119 = .ok (.iload_n 2, 1) := by decide +kernel
theorem dX12_readOrder_120 : decode cX12_readOrder 120 = .ok (.iconst 1, 1) := by decide +kernel
theorem dX12_readOrder_121 : decode cX12_readOrder 121 = .ok (.iadd, 1) := by decide +kernel
theorem dX12_readOrder_122 : decode cX12_readOrder 122 = .ok (.invokevirtual 541, 3) := by decide +kernel
theorem dX12_readOrder_125 : decode cX12_readOrder 125 = .ok (.iload_n 1, 1) := by decide +kernel
theorem dX12_readOrder_126 : decode cX12_readOrder 126 = .ok (.ifCond .ne 13, 3) := by decide +kernel
theorem dX12_readOrder_129 : decode cX12_readOrder 129 = .ok (.aload_n 0, 1) := by decide +kernel
theorem dX12_readOrder_130 : decode cX12_readOrder 130 = .ok (.ldc2_w 544, 3) := by decide +kernel
theorem dX12_readOrder_133 : decode cX12_readOrder 133 = .ok (.iload_n 2, 1) := by decide +kernel
theorem dX12_readOrder_134 : decode cX12_readOrder 134 = .ok (.iconst 3, 1) := by decide +kernel
theorem dX12_readOrder_135 : decode cX12_readOrder 135 = .ok (.iadd, 1) := by decide +kernel
theorem dX12_readOrder_136 : decode cX12_readOrder 136 = .ok (.invokevirtual 546, 3) := by decide +kernel
theorem dX12_readOrder_139 : decode cX12_readOrder 139 = .ok (.iload_n 1, 1) := by decide +kernel
theorem dX12_readOrder_140 : decode cX12_readOrder 140 = .ok (.iconst 1, 1) := by decide +kernel
theorem dX12_readOrder_141 : decode cX12_readOrder 141 = .ok (.if_icmp .ne 23, 3) := by decide +kernel
theorem dX12_readOrder_144 : decode cX12_readOrder 144 = .ok (.aload_n 0, 1) := by decide +kernel
theorem dX12_readOrder_145 : decode cX12_readOrder 145 = .ok (.ldc2_w 71, 3) := by decide +kernel
theorem dX12_readOrder_148 : decode cX12_readOrder 148 = .ok (.iload_n 2, 1) := by decide +kernel
theorem dX12_readOrder_149 : decode cX12_readOrder 149 = .ok (.iconst 3, 1) := by decide +kernel
theorem dX12_readOrder_150 : decode cX12_readOrder 150 = .ok (.iadd, 1) := by decide +kernel
theorem dX12_readOrder_151 : decode cX12_readOrder 151 = .ok (.invokevirtual 546, 3) := by decide +kernel
theorem dX12_readOrder_154 : decode cX12_readOrder 154 = .ok (.aload_n 0, 1) := by decide +kernel
theorem dX12_readOrder_155 : decode cX12_readOrder 155 = .ok (.ldc2_w 550, 3) := by decide +kernel
theorem dX12_readOrder_158 : decode cX12_readOrder 158 = .ok (.iload_n 2, 1) := by decide +kernel
theorem dX12_readOrder_159 : decode cX12_readOrder 159 = .ok (.iconst 5, 1) := by decide +kernel
theorem dX12_readOrder_160 : decode cX12_readOrder 160 = .ok (.iadd, 1) := by decide +kernel
theorem dX12_readOrder_161 : decode cX12_readOrder 161 = .ok (.invokevirtual 546, 3) := by decide +kernel
theorem dX12_readOrder_164 : decode cX12_readOrder 164 = .ok (.aload_n 0, 1) := by decide +kernel
theorem dX12_readOrder_165 : decode cX12_readOrder 165 = .ok (.getfield 148, 3) := by decide +kernel
theorem dX12_readOrder_168 : decode cX12_readOrder 168 = .ok (.iload_n 2, 1) := by decide +kernel
theorem dX12_readOrder_169 : decode cX12_readOrder 169 = .ok (.bipush 9, 2) := by decide +kernel
theorem dX12_readOrder_171 : decode cX12_readOrder 171 = .ok (.iadd, 1) := by decide +kernel
theorem dX12_readOrder_172 : decode cX12_readOrder 172 = .ok (.iconst 1, 1) := by decide +kernel
theorem dX12_readOrder_173 : decode cX12_readOrder 173 = .ok (.iastore, 1) := by decide +kernel
theorem dX12_readOrder_174 : decode cX12_readOrder 174 = .ok (.aload_n 0, 1) := by decide +kernel
theorem dX12_readOrder_175 : decode cX12_readOrder 175 = .ok (.getfield 257, 3) := by decide +kernel
theorem dX12_readOrder_178 : decode cX12_readOrder 178 = .ok (.ifCond .ne 34, 3) := by decide +kernel
theorem dX12_readOrder_181 : decode cX12_readOrder 181 = .ok (.aload_n 0, 1) := by decide +kernel
theorem dX12_readOrder_182 : decode cX12_readOrder 182 = .ok (.ldc2_w 552, 3) := by decide +kernel
theorem dX12_readOrder_185 : decode cX12_readOrder 185 = .ok (.invokevirtual 313, 3) := by decide +kernel
theorem dX12_readOrder_188 : decode cX12_readOrder 188 = .ok (.ifCond .eq 24, 3) := by decide +kernel
theorem dX12_readOrder_191 : decode cX12_readOrder 191 = .ok (.aload_n 0, 1) := by decide +kernel
theorem dX12_readOrder_192 : decode cX12_readOrder 192 = .ok (.invokevirtual 261, 3) := by decide +kernel
theorem dX12_readOrder_195 : decode cX12_readOrder 195 = .ok (.aload_n 0, 1) := by decide +kernel
theorem dX12_readOrder_196 : decode cX12_readOrder 196 = .ok (.getfield 148, 3) := by decide +kernel
theorem dX12_readOrder_199 : decode cX12_readOrder 199 = .ok (.iload_n 2, 1) := by decide +kernel
theorem dX12_readOrder_200 : decode cX12_readOrder 200 = .ok (.bipush 9, 2) := by decide +kernel
theorem dX12_readOrder_202 : decode cX12_readOrder 202 = .ok (.iadd, 1) := by decide +kernel
theorem dX12_readOrder_203 : decode cX12_readOrder 203 = .ok (.aload_n 0, 1) := by decide +kernel
theorem dX12_readOrder_204 : decode cX12_readOrder 204 = .ok (.lconst 1, 1) := by decide +kernel
theorem dX12_readOrder_205 : decode cX12_readOrder 205 = .ok (.ldc2_w 307, 3) := by decide +kernel
theorem dX12_readOrder_208 : decode cX12_readOrder 208 = .ok (.invokevirtual 350, 3) := by decide +kernel
theorem dX12_readOrder_211 : decode cX12_readOrder 211 = .ok (.iastore, 1) := by decide +kernel
theorem dX12_readOrder_212 : decode cX12_readOrder 212 = .ok (.aload_n 0, 1) := by decide +kernel
theorem dX12_readOrder_213 : decode cX12_readOrder 213 = .ok (.getfield 148, 3) := by decide +kernel
theorem dX12_readOrder_216 : decode cX12_readOrder 216 = .ok (.iload_n 2, 1) := by decide +kernel
theorem dX12_readOrder_217 : decode cX12_readOrder 217 = .ok (.bipush 7, 2) := by decide +kernel
theorem dX12_readOrder_219 : decode cX12_readOrder 219 = .ok (.iadd, 1) := by decide +kernel
theorem dX12_readOrder_220 : decode cX12_readOrder 220 = .ok (.aload_n 0, 1) := by decide +kernel
theorem dX12_readOrder_221 : decode cX12_readOrder 221 = .ok (.getfield 294, 3) := by decide +kernel
theorem dX12_readOrder_224 : decode cX12_readOrder 224 = .ok (.iastore, 1) := by decide +kernel
theorem dX12_readOrder_225 : decode cX12_readOrder 225 = .ok (.aload_n 0, 1) := by decide +kernel
theorem dX12_readOrder_226 : decode cX12_readOrder 226 = .ok (.getfield 257, 3) := by decide +kernel
theorem dX12_readOrder_229 : decode cX12_readOrder 229 = .ok (.ifCond .ne 22, 3) := by decide +kernel
theorem dX12_readOrder_232 : decode cX12_readOrder 232 = .ok (.aload_n 0, 1) := by decide +kernel
theorem dX12_readOrder_233 : decode cX12_readOrder 233 = .ok (.ldc2_w 392, 3) := by decide +kernel
theorem dX12_readOrder_236 : decode cX12_readOrder 236 = .ok (.invokevirtual 313, 3) := by decide +kernel
theorem dX12_readOrder_239 : decode cX12_readOrder 239 = .ok (.ifCond .eq 12, 3) := by decide +kernel
theorem dX12_readOrder_242 : decode cX12_readOrder 242 = .ok (.aload_n 0, 1) := by decide +kernel
theorem dX12_readOrder_243 : decode cX12_readOrder 243 = .ok (.invokevirtual 261, 3) := by decide +kernel
theorem dX12_readOrder_246 : decode cX12_readOrder 246 = .ok (.aload_n 0, 1) := by decide +kernel
theorem dX12_readOrder_247 : decode cX12_readOrder 247 = .ok (.iconst 1, 1) := by decide +kernel
theorem dX12_readOrder_248 : decode cX12_readOrder 248 = .ok (.invokevirtual 389, 3) := by decide +kernel
theorem dX12_readOrder_251 : decode cX12_readOrder 251 = .ok (.aload_n 0, 1) := by decide +kernel
theorem dX12_readOrder_252 : decode cX12_readOrder 252 = .ok (.getfield 148, 3) := by decide +kernel
theorem dX12_readOrder_255 : decode cX12_readOrder 255 = .ok (.iload_n 2, 1) := by decide +kernel
theorem dX12_readOrder_256 : decode cX12_readOrder 256 = .ok (.bipush 7, 2) := by decide +kernel
theorem dX12_readOrder_258 : decode cX12_readOrder 258 = .ok (.iadd, 1) := by decide +kernel
theorem dX12_readOrder_259 : decode cX12_readOrder 259 = .ok (.iconst 1, 1) := by decide +kernel
theorem dX12_readOrder_260 : decode cX12_readOrder 260 = .ok (.iadd, 1) := by decide +kernel
theorem dX12_readOrder_261 : decode cX12_readOrder 261 = .ok (.aload_n 0, 1) := by decide +kernel
theorem dX12_readOrder_262 : decode cX12_readOrder 262 = .ok (.getfield 294, 3) := by decide +kernel
theorem dX12_readOrder_265 : decode cX12_readOrder 265 = .ok (.iastore, 1) := by decide +kernel
theorem dX12_readOrder_266 : decode cX12_readOrder 266 = .ok (.return_, 1) := by decide +kernel
theorem dX12_sumOf_0 : decode cX12_sumOf 0 = .ok (.aload_n 0, 1) := by decide +kernel
theorem dX12_sumOf_1 : decode cX12_sumOf 1 = .ok (.getfield 554, 3) := by decide +kernel
theorem dX12_sumOf_4 : decode cX12_sumOf 4 = .ok (.ifCond .ne 20, 3) := by decide +kernel
theorem dX12_sumOf_7 : decode cX12_sumOf 7 = .ok (.aload_n 0, 1) := by decide +kernel
theorem dX12_sumOf_8 : decode cX12_sumOf 8 = .ok (.getfield 148, 3) := by decide +kernel
theorem dX12_sumOf_11 : decode cX12_sumOf 11 = .ok (.iload_n 1, 1) := by decide +kernel
theorem dX12_sumOf_12 : decode cX12_sumOf 12 = .ok (.iaload, 1) := by decide +kernel
theorem dX12_sumOf_13 : decode cX12_sumOf 13 = .ok (.aload_n 0, 1) := by decide +kernel
theorem dX12_sumOf_14 : decode cX12_sumOf 14 = .ok (.getfield 148, 3) := by decide +kernel
theorem dX12_sumOf_17 : decode cX12_sumOf 17 = .ok (.iload_n 1, 1) := by decide +kernel
theorem dX12_sumOf_18 : decode cX12_sumOf 18 = .ok (.iconst 1, 1) := by decide +kernel
theorem dX12_sumOf_19 : decode cX12_sumOf 19 = .ok (.iadd, 1) := by decide +kernel
theorem dX12_sumOf_20 : decode cX12_sumOf 20 = .ok (.iaload, 1) := by decide +kernel
theorem dX12_sumOf_21 : decode cX12_sumOf 21 = .ok (.if_icmp .ne 5, 3) := by decide +kernel
theorem dX12_sumOf_24 : decode cX12_sumOf 24 = .ok (.iconst (-1), 1) := by decide +kernel
theorem dX12_sumOf_25 : decode cX12_sumOf 25 = .ok (.ireturn, 1) := by decide +kernel
theorem dX12_sumOf_26 : decode cX12_sumOf 26 = .ok (.aload_n 0, 1) := by decide +kernel
theorem dX12_sumOf_27 : decode cX12_sumOf 27 = .ok (.iconst 1, 1) := by decide +kernel
theorem dX12_sumOf_28 : decode cX12_sumOf 28 = .ok (.putfield 332, 3) := by decide +kernel
theorem dX12_sumOf_31 : decode cX12_sumOf 31 = .ok (.aload_n 0, 1) := by decide +kernel
theorem dX12_sumOf_32 : decode cX12_sumOf 32 = .ok (.aload_n 0, 1) := by decide +kernel
theorem dX12_sumOf_33 : decode cX12_sumOf 33 = .ok (.getfield 148, 3) := by decide +kernel
theorem dX12_sumOf_36 : decode cX12_sumOf 36 = .ok (.iload_n 1, 1) := by decide +kernel
theorem dX12_sumOf_37 : decode cX12_sumOf 37 = .ok (.iaload, 1) := by decide +kernel
theorem dX12_sumOf_38 : decode cX12_sumOf 38 = .ok (.aload_n 0, 1) := by decide +kernel
theorem dX12_sumOf_39 : decode cX12_sumOf 39 = .ok (.getfield 148, 3) := by decide +kernel
theorem dX12_sumOf_42 : decode cX12_sumOf 42 = .ok (.iload_n 1, 1) := by decide +kernel
theorem dX12_sumOf_43 : decode cX12_sumOf 43 = .ok (.iconst 1, 1) := by decide +kernel
theorem dX12_sumOf_44 : decode cX12_sumOf 44 = .ok (.iadd, 1) := by decide +kernel
theorem dX12_sumOf_45 : decode cX12_sumOf 45 = .ok (.iaload, 1) := by decide +kernel
theorem dX12_sumOf_46 : decode cX12_sumOf 46 = .ok (.invokevirtual 423, 3) := by decide +kernel
theorem dX12_sumOf_49 : decode cX12_sumOf 49 = .ok (.aload_n 0, 1) := by decide +kernel
theorem dX12_sumOf_50 : decode cX12_sumOf 50 = .ok (.iconst 0, 1) := by decide +kernel
theorem dX12_sumOf_51 : decode cX12_sumOf 51 = .ok (.putfield 332, 3) := by decide +kernel
theorem dX12_sumOf_54 : decode cX12_sumOf 54 = .ok (.aload_n 0, 1) := by decide +kernel
theorem dX12_sumOf_55 : decode cX12_sumOf 55 = .ok (.aload_n 0, 1) := by decide +kernel
theorem dX12_sumOf_56 : decode cX12_sumOf 56 = .ok (.getfield 403, 3) := by decide +kernel
theorem dX12_sumOf_59 : decode cX12_sumOf 59 = .ok (.putfield 554, 3) := by decide +kernel
theorem dX12_sumOf_62 : decode cX12_sumOf 62 = .ok (.aload_n 0, 1) := by decide +kernel
theorem dX12_sumOf_63 : decode cX12_sumOf 63 = .ok (.getfield 420, 3) := by decide +kernel
theorem dX12_sumOf_66 : decode cX12_sumOf 66 = .ok (.l2i, 1) := by decide +kernel
theorem dX12_sumOf_67 : decode cX12_sumOf 67 = .ok (.ireturn, 1) := by decide +kernel
theorem dX12_act_0 : decode cX12_act 0 = .ok (.iload_n 1, 1) := by decide +kernel
theorem dX12_act_1 : decode cX12_act 1 = .ok (.tableswitch 49 0 2 #[27, 34, 43], 27) := by decide +kernel
theorem dX12_act_28 : decode cX12_act 28 = .ok (.aload_n 0, 1) := by decide +kernel
theorem dX12_act_29 : decode cX12_act 29 = .ok (.iload_n 2, 1) := by decide +kernel
theorem dX12_act_30 : decode cX12_act 30 = .ok (.iload_n 3, 1) := by decide +kernel
theorem dX12_act_31 : decode cX12_act 31 = .ok (.invokevirtual 470, 3) := by decide +kernel
theorem dX12_act_34 : decode cX12_act 34 = .ok (.ireturn, 1) := by decide +kernel
theorem dX12_act_35 : decode cX12_act 35 = .ok (.aload_n 0, 1) := by decide +kernel
theorem dX12_act_36 : decode cX12_act 36 = .ok (.iload_n 2, 1) := by decide +kernel
theorem dX12_act_37 : decode cX12_act 37 = .ok (.iload_n 3, 1) := by decide +kernel
theorem dX12_act_38 : decode cX12_act 38 = .ok (.iload 4, 2) := by decide +kernel
theorem dX12_act_40 : decode cX12_act 40 = .ok (.invokevirtual 473, 3) := by decide +kernel
theorem dX12_act_43 : decode cX12_act 43 = .ok (.ireturn, 1) := by decide +kernel
theorem dX12_act_44 : decode cX12_act 44 = .ok (.aload_n 0, 1) := by decide +kernel
theorem dX12_act_45 : decode cX12_act 45 = .ok (.iload_n 2, 1) := by decide +kernel
theorem dX12_act_46 : decode cX12_act 46 = .ok (.invokevirtual 485, 3) := by decide +kernel
theorem dX12_act_49 : decode cX12_act 49 = .ok (.ireturn, 1) := by decide +kernel
theorem dX12_act_50 : decode cX12_act 50 = .ok (.aload_n 0, 1) := by decide +kernel
theorem dX12_act_51 : decode cX12_act 51 = .ok (.invokevirtual 491, 3) := by decide +kernel
theorem dX12_act_54 : decode cX12_act 54 = .ok (.ireturn, 1) := by decide +kernel
theorem dX12_run_0 : decode cX12_run 0 = .ok (.aload_n 0, 1) := by decide +kernel
theorem dX12_run_1 : decode cX12_run 1 = .ok (.getfield 104, 3) := by decide +kernel
theorem dX12_run_4 : decode cX12_run 4 = .ok (.iconst 1, 1) := by decide +kernel
theorem dX12_run_5 : decode cX12_run 5 = .ok (.aload_n 0, 1) := by decide +kernel
theorem dX12_run_6 : decode cX12_run 6 = .ok (.invokevirtual 435, 3) := by decide +kernel
theorem dX12_run_9 : decode cX12_run 9 = .ok (.i2l, 1) := by decide +kernel
theorem dX12_run_10 : decode cX12_run 10 = .ok (.lastore, 1) := by decide +kernel
theorem dX12_run_11 : decode cX12_run 11 = .ok (.aload_n 0, 1) := by decide +kernel
theorem dX12_run_12 : decode cX12_run 12 = .ok (.getfield 104, 3) := by decide +kernel
theorem dX12_run_15 : decode cX12_run 15 = .ok (.iconst 2, 1) := by decide +kernel
theorem dX12_run_16 : decode cX12_run 16 = .ok (.aload_n 0, 1) := by decide +kernel
theorem dX12_run_17 : decode cX12_run 17 = .ok (.getfield 557, 3) := by decide +kernel
theorem dX12_run_20 : decode cX12_run 20 = .ok (.i2l, 1) := by decide +kernel
theorem dX12_run_21 : decode cX12_run 21 = .ok (.lastore, 1) := by decide +kernel
theorem dX12_run_22 : decode cX12_run 22 = .ok (.aload_n 0, 1) := by decide +kernel
theorem dX12_run_23 : decode cX12_run 23 = .ok (.getfield 104, 3) := by decide +kernel
theorem dX12_run_26 : decode cX12_run 26 = .ok (.iconst 3, 1) := by decide +kernel
theorem dX12_run_27 : decode cX12_run 27 = .ok (.aload_n 0, 1) := by decide +kernel
theorem dX12_run_28 : decode cX12_run 28 = .ok (.getfield 560, 3) := by decide +kernel
theorem dX12_run_31 : decode cX12_run 31 = .ok (.i2l, 1) := by decide +kernel
theorem dX12_run_32 : decode cX12_run 32 = .ok (.lastore, 1) := by decide +kernel
theorem dX12_run_33 : decode cX12_run 33 = .ok (.aload_n 0, 1) := by decide +kernel
theorem dX12_run_34 : decode cX12_run 34 = .ok (.getfield 104, 3) := by decide +kernel
theorem dX12_run_37 : decode cX12_run 37 = .ok (.iconst 4, 1) := by decide +kernel
theorem dX12_run_38 : decode cX12_run 38 = .ok (.aload_n 0, 1) := by decide +kernel
theorem dX12_run_39 : decode cX12_run 39 = .ok (.invokevirtual 476, 3) := by decide +kernel
theorem dX12_run_42 : decode cX12_run 42 = .ok (.invokestatic 479, 3) := by decide +kernel
theorem dX12_run_45 : decode cX12_run 45 = .ok (.i2l, 1) := by decide +kernel
theorem dX12_run_46 : decode cX12_run 46 = .ok (.lastore, 1) := by decide +kernel
theorem dX12_run_47 : decode cX12_run 47 = .ok (.aload_n 0, 1) := by decide +kernel
theorem dX12_run_48 : decode cX12_run 48 = .ok (.iconst 0, 1) := by decide +kernel
theorem dX12_run_49 : decode cX12_run 49 = .ok (.putfield 554, 3) := by decide +kernel
theorem dX12_run_52 : decode cX12_run 52 = .ok (.aload_n 0, 1) := by decide +kernel
theorem dX12_run_53 : decode cX12_run 53 = .ok (.getfield 148, 3) := by decide +kernel
theorem dX12_run_56 : decode cX12_run 56 = .ok (.iload_n 1, 1) := by decide +kernel
theorem dX12_run_57 : decode cX12_run 57 = .ok (.bipush 7, 2) := by decide +kernel
theorem dX12_run_59 : decode cX12_run 59 = .ok (.iadd, 1) := by decide +kernel
theorem dX12_run_60 : decode cX12_run 60 = .ok (.iaload, 1) := by decide +kernel
theorem dX12_run_61 : decode cX12_run 61 = .ok (.aload_n 0, 1) := by decide +kernel
theorem dX12_run_62 : decode cX12_run 62 = .ok (.getfield 148, 3) := by decide +kernel
theorem dX12_run_65 : decode cX12_run 65 = .ok (.iload_n 1, 1) := by decide +kernel
theorem dX12_run_66 : decode cX12_run 66 = .ok (.bipush 7, 2) := by decide +kernel
theorem dX12_run_68 : decode cX12_run 68 = .ok (.iadd, 1) := by decide +kernel
theorem dX12_run_69 : decode cX12_run 69 = .ok (.iconst 1, 1) := by decide +kernel
theorem dX12_run_70 : decode cX12_run 70 = .ok (.iadd, 1) := by decide +kernel
theorem dX12_run_71 : decode cX12_run 71 = .ok (.iaload, 1) := by decide +kernel
theorem dX12_run_72 : decode cX12_run 72 = .ok (.if_icmp .ge 25, 3) := by decide +kernel
theorem dX12_run_75 : decode cX12_run 75 = .ok (.aload_n 0, 1) := by decide +kernel
theorem dX12_run_76 : decode cX12_run 76 = .ok (.iload_n 1, 1) := by decide +kernel
theorem dX12_run_77 : decode cX12_run 77 = .ok (.bipush 7, 2) := by decide +kernel
theorem dX12_run_79 : decode cX12_run 79 = .ok (.iadd, 1) := by decide +kernel
theorem dX12_run_80 : decode cX12_run 80 = .ok (.invokevirtual 563, 3) := by decide +kernel
theorem dX12_run_83 : decode cX12_run 83 = .ok (.istore_n 2, 1) := by decide +kernel
theorem dX12_run_84 : decode cX12_run 84 = .ok (.aload_n 0, 1) := by decide +kernel
theorem dX12_run_85 : decode cX12_run 85 = .ok (.getfield 554, 3) := by decide +kernel
theorem dX12_run_88 : decode cX12_run 88 = .ok (.ifCond .ne 7, 3) := by decide +kernel
theorem dX12_run_91 : decode cX12_run 91 = .ok (.iload_n 2, 1) := by decide +kernel
theorem dX12_run_92 : decode cX12_run 92 = .ok (.ifCond .ne 5, 3) := by decide +kernel
theorem dX12_run_95 : decode cX12_run 95 = .ok (.iconst 0, 1) := by decide +kernel
theorem dX12_run_96 : decode cX12_run 96 = .ok (.ireturn, 1) := by decide +kernel
theorem dX12_run_97 : decode cX12_run 97 = .ok (.aload_n 0, 1) := by decide +kernel
theorem dX12_run_98 : decode cX12_run 98 = .ok (.iload_n 1, 1) := by decide +kernel
theorem dX12_run_99 : decode cX12_run 99 = .ok (.iconst 1, 1) := by decide +kernel
theorem dX12_run_100 : decode cX12_run 100 = .ok (.iadd, 1) := by decide +kernel
theorem dX12_run_101 : decode cX12_run 101 = .ok (.invokevirtual 563, 3) := by decide +kernel
theorem dX12_run_104 : decode cX12_run 104 = .ok (.istore_n 2, 1) := by decide +kernel
theorem dX12_run_105 : decode cX12_run 105 = .ok (.aload_n 0, 1) := by decide +kernel
theorem dX12_run_106 : decode cX12_run 106 = .ok (.iload_n 1, 1) := by decide +kernel
theorem dX12_run_107 : decode cX12_run 107 = .ok (.iconst 3, 1) := by decide +kernel
theorem dX12_run_108 : decode cX12_run 108 = .ok (.iadd, 1) := by decide +kernel
theorem dX12_run_109 : decode cX12_run 109 = .ok (.invokevirtual 563, 3) := by decide +kernel
theorem dX12_run_112 : decode cX12_run 112 = .ok (.istore_n 3, 1) := by decide +kernel
theorem dX12_run_113 : decode cX12_run 113 = .ok (.aload_n 0, 1) := by decide +kernel
theorem dX12_run_114 : decode cX12_run 114 = .ok (.iload_n 1, 1) := by decide +kernel
theorem dX12_run_115 : decode cX12_run 115 = .ok (.iconst 5, 1) := by decide +kernel
theorem dX12_run_116 : decode cX12_run 116 = .ok (.iadd, 1) := by decide +kernel
theorem dX12_run_117 : decode cX12_run 117 = .ok (.invokevirtual 563, 3) := by decide +kernel
theorem dX12_run_120 : decode cX12_run 120 = .ok (.istore 4, 2) := by decide +kernel
theorem dX12_run_122 : decode cX12_run 122 = .ok (.aload_n 0, 1) := by decide +kernel
theorem dX12_run_123 : decode cX12_run 123 = .ok (.getfield 554, 3) := by decide +kernel
theorem dX12_run_126 : decode cX12_run 126 = .ok (.ifCond .eq 6, 3) := by decide +kernel
theorem dX12_run_129 : decode cX12_run 129 = .ok (.bipush (-3), 2) := by decide +kernel
theorem dX12_run_131 : decode cX12_run 131 = .ok (.ireturn, 1) := by decide +kernel
theorem dX12_run_132 : decode cX12_run 132 = .ok (.aload_n 0, 1) := by decide +kernel
theorem dX12_run_133 : decode cX12_run 133 = .ok (.aload_n 0, 1) := by decide +kernel
theorem dX12_run_134 : decode cX12_run 134 = .ok (.getfield 148, 3) := by decide +kernel
theorem dX12_run_137 : decode cX12_run 137 = .ok (.iload_n 1, 1) := by decide +kernel
theorem dX12_run_138 : decode cX12_run 138 = .ok (.iaload, 1) := by decide +kernel
theorem dX12_run_139 : decode cX12_run 139 = .ok (.iload_n 2, 1) := by decide +kernel
theorem dX12_run_140 : decode cX12_run 140 = .ok (.iload_n 3, 1) := by decide +kernel
theorem dX12_run_141 : decode cX12_run 141 = .ok (.iload 4, 2) := by decide +kernel
theorem dX12_run_143 : decode cX12_run 143 = .ok (.invokevirtual 566, 3) := by decide +kernel
theorem dX12_run_146 : decode cX12_run 146 = .ok (.istore 5, 2) := by decide +kernel
theorem dX12_run_148 : decode cX12_run 148 = .ok (.iload 5, 2) := by decide +kernel
theorem dX12_run_150 : decode cX12_run 150 = .ok (.ifCond .ge 6, 3) := by decide +kernel
theorem dX12_run_153 : decode cX12_run 153 = .ok (.bipush (-3), 2) := by decide +kernel
theorem dX12_run_155 : decode cX12_run 155 = .ok (.ireturn, 1) := by decide +kernel
theorem dX12_run_156 : decode cX12_run 156 = .ok (.aload_n 0, 1) := by decide +kernel
theorem dX12_run_157 : decode cX12_run 157 = .ok (.aload_n 0, 1) := by decide +kernel
theorem dX12_run_158 : decode cX12_run 158 = .ok (.getfield 148, 3) := by decide +kernel
theorem dX12_run_161 : decode cX12_run 161 = .ok (.iload_n 1, 1) := by decide +kernel
theorem dX12_run_162 : decode cX12_run 162 = .ok (.iaload, 1) := by decide +kernel
theorem dX12_run_163 : decode cX12_run 163 = .ok (.ifCond .ne 8, 3) := by decide +kernel
theorem dX12_run_166 : decode cX12_run 166 = .ok (.iload 5, 2) := by decide +kernel
theorem dX12_run_168 : decode cX12_run 168 = .ok (.goto 7, 3) := by decide +kernel
theorem dX12_run_171 : decode cX12_run 171 = .ok (.aload_n 0, 1) := by decide +kernel
theorem dX12_run_172 : decode cX12_run 172 = .ok (.getfield 560, 3) := by decide +kernel
theorem dX12_run_175 : decode cX12_run 175 = .ok (.putfield 560, 3) := by decide +kernel
theorem dX12_run_178 : decode cX12_run 178 = .ok (.aload_n 0, 1) := by decide +kernel
theorem dX12_run_179 : decode cX12_run 179 = .ok (.dup, 1) := by decide +kernel
theorem dX12_run_180 : decode cX12_run 180 = .ok (.getfield 557, 3) := by decide +kernel
theorem dX12_run_183 : decode cX12_run 183 = .ok (.iconst 1, 1) := by decide +kernel
theorem dX12_run_184 : decode cX12_run 184 = .ok (.iadd, 1) := by decide +kernel
theorem dX12_run_185 : decode cX12_run 185 = .ok (.putfield 557, 3) := by decide +kernel
theorem dX12_run_188 : decode cX12_run 188 = .ok (.iconst 0, 1) := by decide +kernel
theorem dX12_run_189 : decode cX12_run 189 = .ok (.ireturn, 1) := by decide +kernel
theorem dX12_orders_0 : decode cX12_orders 0 = .ok (.aload_n 0, 1) := by decide +kernel
theorem dX12_orders_1 : decode cX12_orders 1 = .ok (.iconst 0, 1) := by decide +kernel
theorem dX12_orders_2 : decode cX12_orders 2 = .ok (.putfield 163, 3) := by decide +kernel
theorem dX12_orders_5 : decode cX12_orders 5 = .ok (.aload_n 0, 1) := by decide +kernel
theorem dX12_orders_6 : decode cX12_orders 6 = .ok (.iconst (-1), 1) := by decide +kernel
theorem dX12_orders_7 : decode cX12_orders 7 = .ok (.putfield 151, 3) := by decide +kernel
theorem dX12_orders_10 : decode cX12_orders 10 = .ok (.aload_n 0, 1) := by decide +kernel
theorem dX12_orders_11 : decode cX12_orders 11 = .ok (.iconst 1, 1) := by decide +kernel
theorem dX12_orders_12 : decode cX12_orders 12 = .ok (.invokevirtual 394, 3) := by decide +kernel
theorem dX12_orders_15 : decode cX12_orders 15 = .ok (.aload_n 0, 1) := by decide +kernel
theorem dX12_orders_16 : decode cX12_orders 16 = .ok (.invokevirtual 569, 3) := by decide +kernel
theorem dX12_orders_19 : decode cX12_orders 19 = .ok (.aload_n 0, 1) := by decide +kernel
theorem dX12_orders_20 : decode cX12_orders 20 = .ok (.getfield 257, 3) := by decide +kernel
theorem dX12_orders_23 : decode cX12_orders 23 = .ok (.ifCond .ne 23, 3) := by decide +kernel
theorem dX12_orders_26 : decode cX12_orders 26 = .ok (.aload_n 0, 1) := by decide +kernel
theorem dX12_orders_27 : decode cX12_orders 27 = .ok (.bipush 59, 2) := by decide +kernel
theorem dX12_orders_29 : decode cX12_orders 29 = .ok (.invokevirtual 326, 3) := by decide +kernel
theorem dX12_orders_32 : decode cX12_orders 32 = .ok (.ifCond .eq 14, 3) := by decide +kernel
theorem dX12_orders_35 : decode cX12_orders 35 = .ok (.aload_n 0, 1) := by decide +kernel
theorem dX12_orders_36 : decode cX12_orders 36 = .ok (.invokevirtual 261, 3) := by decide +kernel
theorem dX12_orders_39 : decode cX12_orders 39 = .ok (.aload_n 0, 1) := by decide +kernel
theorem dX12_orders_40 : decode cX12_orders 40 = .ok (.invokevirtual 569, 3) := by decide +kernel
theorem dX12_orders_43 : decode cX12_orders 43 = .ok (.goto (-24), 3) := by decide +kernel
theorem dX12_orders_46 : decode cX12_orders 46 = .ok (.aload_n 0, 1) := by decide +kernel
theorem dX12_orders_47 : decode cX12_orders 47 = .ok (.invokevirtual 400, 3) := by decide +kernel
theorem dX12_orders_50 : decode cX12_orders 50 = .ok (.aload_n 0, 1) := by decide +kernel
theorem dX12_orders_51 : decode cX12_orders 51 = .ok (.getfield 257, 3) := by decide +kernel
theorem dX12_orders_54 : decode cX12_orders 54 = .ok (.ifCond .eq 10, 3) := by decide +kernel
theorem dX12_orders_57 : decode cX12_orders 57 = .ok (.aload_n 0, 1) := by decide +kernel
theorem dX12_orders_58 : decode cX12_orders 58 = .ok (.bipush (-6), 2) := by decide +kernel
theorem dX12_orders_60 : decode cX12_orders 60 = .ok (.invokevirtual 172, 3) := by decide +kernel
theorem dX12_orders_63 : decode cX12_orders 63 = .ok (.ireturn, 1) := by decide +kernel
theorem dX12_orders_64 : decode cX12_orders 64 = .ok (.aload_n 0, 1) := by decide +kernel
theorem dX12_orders_65 : decode cX12_orders 65 = .ok (.bipush 17, 2) := by decide +kernel
theorem dX12_orders_67 : decode cX12_orders 67 = .ok (.invokevirtual 176, 3) := by decide +kernel
theorem dX12_orders_70 : decode cX12_orders 70 = .ok (.aload_n 0, 1) := by decide +kernel
theorem dX12_orders_71 : decode cX12_orders 71 = .ok (.getfield 169, 3) := by decide +kernel
theorem dX12_orders_74 : decode cX12_orders 74 = .ok (.istore_n 1, 1) := by decide +kernel
theorem dX12_orders_75 : decode cX12_orders 75 = .ok (.iconst 0, 1) := by decide +kernel
theorem dX12_orders_76 : decode cX12_orders 76 = .ok (.istore_n 2, 1) := by decide +kernel
theorem dX12_orders_77 : decode cX12_orders 77 = .ok (.iload_n 2, 1) := by decide +kernel
theorem dX12_orders_78 : decode cX12_orders 78 = .ok (.sipush 1936, 3) := by decide +kernel
theorem dX12_orders_81 : decode cX12_orders 81 = .ok (.if_icmp .ge 21, 3) := by decide +kernel
theorem dX12_orders_84 : decode cX12_orders 84 = .ok (.aload_n 0, 1) := by decide +kernel
theorem dX12_orders_85 : decode cX12_orders 85 = .ok (.getfield 29, 3) := by decide +kernel
theorem dX12_orders_88 : decode cX12_orders 88 = .ok (.iload_n 2, 1) := by decide +kernel
theorem dX12_orders_89 : decode cX12_orders 89 = .ok (.aload_n 0, 1) := by decide +kernel
theorem dX12_orders_90 : decode cX12_orders 90 = .ok (.getfield 23, 3) := by decide +kernel
theorem dX12_orders_93 : decode cX12_orders 93 = .ok (.iload_n 2, 1) := by decide +kernel
theorem dX12_orders_94 : decode cX12_orders 94 = .ok (.iaload, 1) := by decide +kernel
theorem dX12_orders_95 : decode cX12_orders 95 = .ok (.iastore, 1) := by decide +kernel
theorem dX12_orders_96 : decode cX12_orders 96 = .ok (.iinc 2 1, 3) := by decide +kernel
theorem dX12_orders_99 : decode cX12_orders 99 = .ok (.goto (-22), 3) := by decide +kernel
theorem dX12_orders_102 : decode cX12_orders 102 = .ok (.iconst 0, 1) := by decide +kernel
theorem dX12_orders_103 : decode cX12_orders 103 = .ok (.istore_n 2, 1) := by decide +kernel
theorem dX12_orders_104 : decode cX12_orders 104 = .ok (.iload_n 2, 1) := by decide +kernel
theorem dX12_orders_105 : decode cX12_orders 105 = .ok (.bipush 16, 2) := by decide +kernel
theorem dX12_orders_107 : decode cX12_orders 107 = .ok (.if_icmp .ge 21, 3) := by decide +kernel
theorem dX12_orders_110 : decode cX12_orders 110 = .ok (.aload_n 0, 1) := by decide +kernel
theorem dX12_orders_111 : decode cX12_orders 111 = .ok (.getfield 32, 3) := by decide +kernel
theorem dX12_orders_114 : decode cX12_orders 114 = .ok (.iload_n 2, 1) := by decide +kernel
theorem dX12_orders_115 : decode cX12_orders 115 = .ok (.aload_n 0, 1) := by decide +kernel
theorem dX12_orders_116 : decode cX12_orders 116 = .ok (.getfield 26, 3) := by decide +kernel
theorem dX12_orders_119 : decode cX12_orders 119 = .ok (.iload_n 2, 1) := by decide +kernel
theorem dX12_orders_120 : decode cX12_orders 120 = .ok (.iaload, 1) := by decide +kernel
theorem dX12_orders_121 : decode cX12_orders 121 = .ok (.iastore, 1) := by decide +kernel
theorem dX12_orders_122 : decode cX12_orders 122 = .ok (.iinc 2 1, 3) := by decide +kernel
theorem dX12_orders_125 : decode cX12_orders 125 = .ok (.goto (-21), 3) := by decide +kernel
theorem dX12_orders_128 : decode cX12_orders 128 = .ok (.aload_n 0, 1) := by decide +kernel
theorem dX12_orders_129 : decode cX12_orders 129 = .ok (.iconst 0, 1) := by decide +kernel
theorem dX12_orders_130 : decode cX12_orders 130 = .ok (.putfield 557, 3) := by decide +kernel
theorem dX12_orders_133 : decode cX12_orders 133 = .ok (.aload_n 0, 1) := by decide +kernel
theorem dX12_orders_134 : decode cX12_orders 134 = .ok (.iconst (-1), 1) := by decide +kernel
theorem dX12_orders_135 : decode cX12_orders 135 = .ok (.putfield 560, 3) := by decide +kernel
theorem dX12_orders_138 : decode cX12_orders 138 = .ok (.iconst 0, 1) := by decide +kernel
theorem dX12_orders_139 : decode cX12_orders 139 = .ok (.istore_n 2, 1) := by decide +kernel
theorem dX12_orders_140 : decode cX12_orders 140 = .ok (.iload_n 2, 1) := by decide +kernel
theorem dX12_orders_141 : decode cX12_orders 141 = .ok (.aload_n 0, 1) := by decide +kernel
theorem dX12_orders_142 : decode cX12_orders 142 = .ok (.getfield 386, 3) := by decide +kernel
theorem dX12_orders_145 : decode cX12_orders 145 = .ok (.if_icmp .ge 61, 3) := by decide +kernel
theorem dX12_orders_148 : decode cX12_orders 148 = .ok (.iconst 0, 1) := by decide +kernel
theorem dX12_orders_149 : decode cX12_orders 149 = .ok (.istore_n 3, 1) := by decide +kernel
theorem dX12_orders_150 : decode cX12_orders 150 = .ok (.iload_n 3, 1) := by decide +kernel
theorem dX12_orders_151 : decode cX12_orders 151 = .ok (.aload_n 0, 1) := by decide +kernel
theorem dX12_orders_152 : decode cX12_orders 152 = .ok (.getfield 148, 3) := by decide +kernel
theorem dX12_orders_155 : decode cX12_orders 155 = .ok (.bipush 10, 2) := by decide +kernel
theorem dX12_orders_157 : decode cX12_orders 157 = .ok (.iload_n 2, 1) := by decide +kernel
theorem dX12_orders_158 : decode cX12_orders 158 = .ok (.imul, 1) := by decide +kernel
theorem dX12_orders_159 : decode cX12_orders 159 = .ok (.bipush 9, 2) := by decide +kernel
theorem dX12_orders_161 : decode cX12_orders 161 = .ok (.iadd, 1) := by decide +kernel
theorem dX12_orders_162 : decode cX12_orders 162 = .ok (.iaload, 1) := by decide +kernel
theorem dX12_orders_163 : decode cX12_orders 163 = .ok (.if_icmp .ge 37, 3) := by decide +kernel
theorem dX12_orders_166 : decode cX12_orders 166 = .ok (.aload_n 0, 1) := by decide +kernel
theorem dX12_orders_167 : decode cX12_orders 167 = .ok (.bipush 10, 2) := by decide +kernel
theorem dX12_orders_169 : decode cX12_orders 169 = .ok (.iload_n 2, 1) := by decide +kernel
theorem dX12_orders_170 : decode cX12_orders 170 = .ok (.imul, 1) := by decide +kernel
theorem dX12_orders_171 : decode cX12_orders 171 = .ok (.invokevirtual 572, 3) := by decide +kernel
theorem dX12_orders_174 : decode cX12_orders 174 = .ok (.ifCond .ge 20, 3) := by decide +kernel
theorem dX12_orders_177 : decode cX12_orders 177 = .ok (.aload_n 0, 1) := by decide +kernel
theorem dX12_orders_178 : decode cX12_orders 178 = .ok (.iload_n 1, 1) := by decide +kernel
theorem dX12_orders_179 : decode cX12_orders 179 = .ok (.invokevirtual 575, 3) := by decide +kernel
theorem dX12_orders_182 : decode cX12_orders 182 = .ok (.aload_n 0, 1) := by decide +kernel
theorem dX12_orders_183 : decode cX12_orders 183 = .ok (.iload_n 2, 1) := by decide +kernel
theorem dX12_orders_184 : decode cX12_orders 184 = .ok (.putfield 151, 3) := by decide +kernel
theorem dX12_orders_187 : decode cX12_orders 187 = .ok (.aload_n 0, 1) := by decide +kernel
theorem dX12_orders_188 : decode cX12_orders 188 = .ok (.bipush (-3), 2) := by decide +kernel
theorem dX12_orders_190 : decode cX12_orders 190 = .ok (.invokevirtual 172, 3) := by decide +kernel
theorem dX12_orders_193 : decode cX12_orders 193 = .ok (.ireturn, 1) := by decide +kernel
theorem dX12_orders_194 : decode cX12_orders 194 = .ok (.iinc 3 1, 3) := by decide +kernel
theorem dX12_orders_197 : decode cX12_orders 197 = .ok (.goto (-47), 3) := by decide +kernel
theorem dX12_orders_200 : decode cX12_orders 200 = .ok (.iinc 2 1, 3) := by decide +kernel
theorem dX12_orders_203 : decode cX12_orders 203 = .ok (.goto (-63), 3) := by decide +kernel
theorem dX12_orders_206 : decode cX12_orders 206 = .ok (.aload_n 0, 1) := by decide +kernel
theorem dX12_orders_207 : decode cX12_orders 207 = .ok (.aload_n 0, 1) := by decide +kernel
theorem dX12_orders_208 : decode cX12_orders 208 = .ok (.getfield 557, 3) := by decide +kernel
theorem dX12_orders_211 : decode cX12_orders 211 = .ok (.invokevirtual 172, 3) := by decide +kernel
theorem dX12_orders_214 : decode cX12_orders 214 = .ok (.ireturn, 1) := by decide +kernel
theorem dX12_giveBack_0 : decode cX12_giveBack 0 = .ok (.aload_n 0, 1) := by decide +kernel
theorem dX12_giveBack_1 : decode cX12_giveBack 1 = .ok (.bipush 17, 2) := by decide +kernel
theorem dX12_giveBack_3 : decode cX12_giveBack 3 = .ok (.invokevirtual 180, 3) := by decide +kernel
theorem dX12_giveBack_6 : decode cX12_giveBack 6 = .ok (.iconst 0, 1) := by decide +kernel
theorem dX12_giveBack_7 : decode cX12_giveBack 7 = .ok (.istore_n 2, 1) := by decide +kernel
theorem dX12_giveBack_8 : decode cX12_giveBack 8 = .ok (.iload_n 2, 1) := by decide +kernel
theorem dX12_giveBack_9 : decode cX12_giveBack 9 = .ok (.sipush 1936, 3) := by decide +kernel
theorem dX12_giveBack_12 : decode cX12_giveBack 12 = .ok (.if_icmp .ge 21, 3) := by decide +kernel
theorem dX12_giveBack_15 : decode cX12_giveBack 15 = .ok (.aload_n 0, 1) := by decide +kernel
theorem dX12_giveBack_16 : decode cX12_giveBack 16 = .ok (.getfield 23, 3) := by decide +kernel
theorem dX12_giveBack_19 : decode cX12_giveBack 19 = .ok (.iload_n 2, 1) := by decide +kernel
theorem dX12_giveBack_20 : decode cX12_giveBack 20 = .ok (.aload_n 0, 1) := by decide +kernel
theorem dX12_giveBack_21 : decode cX12_giveBack 21 = .ok (.getfield 29, 3) := by decide +kernel
theorem dX12_giveBack_24 : decode cX12_giveBack 24 = .ok (.iload_n 2, 1) := by decide +kernel
theorem dX12_giveBack_25 : decode cX12_giveBack 25 = .ok (.iaload, 1) := by decide +kernel
theorem dX12_giveBack_26 : decode cX12_giveBack 26 = .ok (.iastore, 1) := by decide +kernel
theorem dX12_giveBack_27 : decode cX12_giveBack 27 = .ok (.iinc 2 1, 3) := by decide +kernel
theorem dX12_giveBack_30 : decode cX12_giveBack 30 = .ok (.goto (-22), 3) := by decide +kernel
theorem dX12_giveBack_33 : decode cX12_giveBack 33 = .ok (.iconst 0, 1) := by decide +kernel
theorem dX12_giveBack_34 : decode cX12_giveBack 34 = .ok (.istore_n 2, 1) := by decide +kernel
theorem dX12_giveBack_35 : decode cX12_giveBack 35 = .ok (.iload_n 2, 1) := by decide +kernel
theorem dX12_giveBack_36 : decode cX12_giveBack 36 = .ok (.bipush 16, 2) := by decide +kernel
theorem dX12_giveBack_38 : decode cX12_giveBack 38 = .ok (.if_icmp .ge 21, 3) := by decide +kernel
theorem dX12_giveBack_41 : decode cX12_giveBack 41 = .ok (.aload_n 0, 1) := by decide +kernel
theorem dX12_giveBack_42 : decode cX12_giveBack 42 = .ok (.getfield 26, 3) := by decide +kernel
theorem dX12_giveBack_45 : decode cX12_giveBack 45 = .ok (.iload_n 2, 1) := by decide +kernel
theorem dX12_giveBack_46 : decode cX12_giveBack 46 = .ok (.aload_n 0, 1) := by decide +kernel
theorem dX12_giveBack_47 : decode cX12_giveBack 47 = .ok (.getfield 32, 3) := by decide +kernel
theorem dX12_giveBack_50 : decode cX12_giveBack 50 = .ok (.iload_n 2, 1) := by decide +kernel
theorem dX12_giveBack_51 : decode cX12_giveBack 51 = .ok (.iaload, 1) := by decide +kernel
theorem dX12_giveBack_52 : decode cX12_giveBack 52 = .ok (.iastore, 1) := by decide +kernel
theorem dX12_giveBack_53 : decode cX12_giveBack 53 = .ok (.iinc 2 1, 3) := by decide +kernel
theorem dX12_giveBack_56 : decode cX12_giveBack 56 = .ok (.goto (-21), 3) := by decide +kernel
theorem dX12_giveBack_59 : decode cX12_giveBack 59 = .ok (.aload_n 0, 1) := by decide +kernel
theorem dX12_giveBack_60 : decode cX12_giveBack 60 = .ok (.iload_n 1, 1) := by decide +kernel
theorem dX12_giveBack_61 : decode cX12_giveBack 61 = .ok (.putfield 169, 3) := by decide +kernel
theorem dX12_giveBack_64 : decode cX12_giveBack 64 = .ok (.return_, 1) := by decide +kernel
theorem dX12_stopped_0 : decode cX12_stopped 0 = .ok (.aload_n 0, 1) := by decide +kernel
theorem dX12_stopped_1 : decode cX12_stopped 1 = .ok (.iconst 0, 1) := by decide +kernel
theorem dX12_stopped_2 : decode cX12_stopped 2 = .ok (.putfield 163, 3) := by decide +kernel
theorem dX12_stopped_5 : decode cX12_stopped 5 = .ok (.aload_n 0, 1) := by decide +kernel
theorem dX12_stopped_6 : decode cX12_stopped 6 = .ok (.getfield 151, 3) := by decide +kernel
theorem dX12_stopped_9 : decode cX12_stopped 9 = .ok (.ireturn, 1) := by decide +kernel
theorem dX12_draw_0 : decode cX12_draw 0 = .ok (.aload_n 0, 1) := by decide +kernel
theorem dX12_draw_1 : decode cX12_draw 1 = .ok (.aload_n 0, 1) := by decide +kernel
theorem dX12_draw_2 : decode cX12_draw 2 = .ok (.getfield 578, 3) := by decide +kernel
theorem dX12_draw_5 : decode cX12_draw 5 = .ok (.ldc2_w 581, 3) := by decide +kernel
theorem dX12_draw_8 : decode cX12_draw 8 = .ok (.lmul, 1) := by decide +kernel
theorem dX12_draw_9 : decode cX12_draw 9 = .ok (.ldc2_w 583, 3) := by decide +kernel
theorem dX12_draw_12 : decode cX12_draw 12 = .ok (.ladd, 1) := by decide +kernel
theorem dX12_draw_13 : decode cX12_draw 13 = .ok (.ldc2_w 585, 3) := by decide +kernel
theorem dX12_draw_16 : decode cX12_draw 16 = .ok (.lrem, 1) := by decide +kernel
theorem dX12_draw_17 : decode cX12_draw 17 = .ok (.putfield 578, 3) := by decide +kernel
theorem dX12_draw_20 : decode cX12_draw 20 = .ok (.aload_n 0, 1) := by decide +kernel
theorem dX12_draw_21 : decode cX12_draw 21 = .ok (.getfield 578, 3) := by decide +kernel
theorem dX12_draw_24 : decode cX12_draw 24 = .ok (.iload_n 1, 1) := by decide +kernel
theorem dX12_draw_25 : decode cX12_draw 25 = .ok (.i2l, 1) := by decide +kernel
theorem dX12_draw_26 : decode cX12_draw 26 = .ok (.lrem, 1) := by decide +kernel
theorem dX12_draw_27 : decode cX12_draw 27 = .ok (.l2i, 1) := by decide +kernel
theorem dX12_draw_28 : decode cX12_draw 28 = .ok (.ireturn, 1) := by decide +kernel
theorem dX12_generations_0 : decode cX12_generations 0 = .ok (.aload_n 0, 1) := by decide +kernel
theorem dX12_generations_1 : decode cX12_generations 1 = .ok (.iconst 0, 1) := by decide +kernel
theorem dX12_generations_2 : decode cX12_generations 2 = .ok (.putfield 163, 3) := by decide +kernel
theorem dX12_generations_5 : decode cX12_generations 5 = .ok (.iload_n 1, 1) := by decide +kernel
theorem dX12_generations_6 : decode cX12_generations 6 = .ok (.i2l, 1) := by decide +kernel
theorem dX12_generations_7 : decode cX12_generations 7 = .ok (.lconst 0, 1) := by decide +kernel
theorem dX12_generations_8 : decode cX12_generations 8 = .ok (.ldc2_w 286, 3) := by decide +kernel
theorem dX12_generations_11 : decode cX12_generations 11 = .ok (.invokestatic 183, 3) := by decide +kernel
theorem dX12_generations_14 : decode cX12_generations 14 = .ok (.ifCond .eq 15, 3) := by decide +kernel
theorem dX12_generations_17 : decode cX12_generations 17 = .ok (.iload_n 2, 1) := by decide +kernel
theorem dX12_generations_18 : decode cX12_generations 18 = .ok (.i2l, 1) := by decide +kernel
theorem dX12_generations_19 : decode cX12_generations 19 = .ok (.lconst 1, 1) := by decide +kernel
theorem dX12_generations_20 : decode cX12_generations 20 = .ok (.ldc2_w 537, 3) := by decide +kernel
theorem dX12_generations_23 : decode cX12_generations 23 = .ok (.invokestatic 183, 3) := by decide +kernel
theorem dX12_generations_26 : decode cX12_generations 26 = .ok (.ifCond .ne 9, 3) := by decide +kernel
theorem dX12_generations_29 : decode cX12_generations 29 = .ok (.aload_n 0, 1) := by decide +kernel
theorem dX12_generations_30 : decode cX12_generations 30 = .ok (.iconst (-1), 1) := by decide +kernel
theorem dX12_generations_31 : decode cX12_generations 31 = .ok (.invokevirtual 172, 3) := by decide +kernel
theorem dX12_generations_34 : decode cX12_generations 34 = .ok (.ireturn, 1) := by decide +kernel
theorem dX12_generations_35 : decode cX12_generations 35 = .ok (.aload_n 0, 1) := by decide +kernel
theorem dX12_generations_36 : decode cX12_generations 36 = .ok (.getfield 13, 3) := by decide +kernel
theorem dX12_generations_39 : decode cX12_generations 39 = .ok (.iconst 1, 1) := by decide +kernel
theorem dX12_generations_40 : decode cX12_generations 40 = .ok (.iaload, 1) := by decide +kernel
theorem dX12_generations_41 : decode cX12_generations 41 = .ok (.ifCond .eq 12, 3) := by decide +kernel
theorem dX12_generations_44 : decode cX12_generations 44 = .ok (.aload_n 0, 1) := by decide +kernel
theorem dX12_generations_45 : decode cX12_generations 45 = .ok (.getfield 13, 3) := by decide +kernel
theorem dX12_generations_48 : decode cX12_generations 48 = .ok (.iconst 0, 1) := by decide +kernel
theorem dX12_generations_49 : decode cX12_generations 49 = .ok (.iaload, 1) := by decide +kernel
theorem dX12_generations_50 : decode cX12_generations 50 = .ok (.ifCond .ne 10, 3) := by decide +kernel
theorem dX12_generations_53 : decode cX12_generations 53 = .ok (.aload_n 0, 1) := by decide +kernel
theorem dX12_generations_54 : decode cX12_generations 54 = .ok (.bipush (-3), 2) := by decide +kernel
theorem dX12_generations_56 : decode cX12_generations 56 = .ok (.invokevirtual 172, 3) := by decide +kernel
theorem dX12_generations_59 : decode cX12_generations 59 = .ok (.ireturn, 1) := by decide +kernel
theorem dX12_generations_60 : decode cX12_generations 60 = .ok (.aload_n 0, 1) := by decide +kernel
theorem dX12_generations_61 : decode cX12_generations 61 = .ok (.bipush 16, 2) := by decide +kernel
theorem dX12_generations_63 : decode cX12_generations 63 = .ok (.invokevirtual 176, 3) := by decide +kernel
theorem dX12_generations_66 : decode cX12_generations 66 = .ok (.aload_n 0, 1) := by decide +kernel
theorem dX12_generations_67 : decode cX12_generations 67 = .ok (.iload_n 1, 1) := by decide +kernel
theorem dX12_generations_68 : decode cX12_generations 68 = .ok (.i2l, 1) := by decide +kernel
theorem dX12_generations_69 : decode cX12_generations 69 = .ok (.putfield 578, 3) := by decide +kernel
theorem dX12_generations_72 : decode cX12_generations 72 = .ok (.iconst 0, 1) := by decide +kernel
theorem dX12_generations_73 : decode cX12_generations 73 = .ok (.istore_n 3, 1) := by decide +kernel
theorem dX12_generations_74 : decode cX12_generations 74 = .ok (.iconst 0, 1) := by decide +kernel
theorem dX12_generations_75 : decode cX12_generations 75 = .ok (.istore 4, 2) := by decide +kernel
theorem dX12_generations_77 : decode cX12_generations 77 = .ok (.iload 4, 2) := by decide +kernel
theorem dX12_generations_79 : decode cX12_generations 79 = .ok (.iload_n 2, 1) := by decide +kernel
theorem dX12_generations_80 : decode cX12_generations 80 = .ok (.if_icmp .ge 108, 3) := by decide +kernel
theorem dX12_generations_83 : decode cX12_generations 83 = .ok (.aload_n 0, 1) := by decide +kernel
theorem dX12_generations_84 : decode cX12_generations 84 = .ok (.invokevirtual 435, 3) := by decide +kernel
theorem dX12_generations_87 : decode cX12_generations 87 = .ok (.sipush 999, 3) := by decide +kernel
theorem dX12_generations_90 : decode cX12_generations 90 = .ok (.if_icmp .ge 98, 3) := by decide +kernel
theorem dX12_generations_93 : decode cX12_generations 93 = .ok (.aload_n 0, 1) := by decide +kernel
theorem dX12_generations_94 : decode cX12_generations 94 = .ok (.aload_n 0, 1) := by decide +kernel
theorem dX12_generations_95 : decode cX12_generations 95 = .ok (.getfield 13, 3) := by decide +kernel
theorem dX12_generations_98 : decode cX12_generations 98 = .ok (.iconst 1, 1) := by decide +kernel
theorem dX12_generations_99 : decode cX12_generations 99 = .ok (.iaload, 1) := by decide +kernel
theorem dX12_generations_100 : decode cX12_generations 100 = .ok (.invokevirtual 587, 3) := by decide +kernel
theorem dX12_generations_103 : decode cX12_generations 103 = .ok (.istore 5, 2) := by decide +kernel
theorem dX12_generations_105 : decode cX12_generations 105 = .ok (.aload_n 0, 1) := by decide +kernel
theorem dX12_generations_106 : decode cX12_generations 106 = .ok (.aload_n 0, 1) := by decide +kernel
theorem dX12_generations_107 : decode cX12_generations 107 = .ok (.getfield 13, 3) := by decide +kernel
theorem dX12_generations_110 : decode cX12_generations 110 = .ok (.iconst 0, 1) := by decide +kernel
theorem dX12_generations_111 : decode cX12_generations 111 = .ok (.iaload, 1) := by decide +kernel
theorem dX12_generations_112 : decode cX12_generations 112 = .ok (.invokevirtual 587, 3) := by decide +kernel
theorem dX12_generations_115 : decode cX12_generations 115 = .ok (.istore 6, 2) := by decide +kernel
theorem dX12_generations_117 : decode cX12_generations 117 = .ok (.aload_n 0, 1) := by decide +kernel
theorem dX12_generations_118 : decode cX12_generations 118 = .ok (.bipush 8, 2) := by decide +kernel
theorem dX12_generations_120 : decode cX12_generations 120 = .ok (.invokevirtual 587, 3) := by decide +kernel
theorem dX12_generations_123 : decode cX12_generations 123 = .ok (.istore 7, 2) := by decide +kernel
theorem dX12_generations_125 : decode cX12_generations 125 = .ok (.iload_n 3, 1) := by decide +kernel
theorem dX12_generations_126 : decode cX12_generations 126 = .ok (.aload_n 0, 1) := by decide +kernel
theorem dX12_generations_127 : decode cX12_generations 127 = .ok (.iload 5, 2) := by decide +kernel
theorem dX12_generations_129 : decode cX12_generations 129 = .ok (.iload 6, 2) := by decide +kernel
theorem dX12_generations_131 : decode cX12_generations 131 = .ok (.invokevirtual 461, 3) := by decide +kernel
theorem dX12_generations_134 : decode cX12_generations 134 = .ok (.ifCond .eq 14, 3) := by decide +kernel
theorem dX12_generations_137 : decode cX12_generations 137 = .ok (.aload_n 0, 1) := by decide +kernel
theorem dX12_generations_138 : decode cX12_generations 138 = .ok (.iload 5, 2) := by decide +kernel
theorem dX12_generations_140 : decode cX12_generations 140 = .ok (.iload 6, 2) := by decide +kernel
theorem dX12_generations_142 : decode cX12_generations 142 = .ok (.invokevirtual 467, 3) := by decide +kernel
theorem dX12_generations_145 : decode cX12_generations 145 = .ok (.goto 4, 3) := by decide +kernel
theorem dX12_generations_148 : decode cX12_generations 148 = .ok (.iconst 0, 1) := by decide +kernel
theorem dX12_generations_149 : decode cX12_generations 149 = .ok (.iadd, 1) := by decide +kernel
theorem dX12_generations_150 : decode cX12_generations 150 = .ok (.istore_n 3, 1) := by decide +kernel
theorem dX12_generations_151 : decode cX12_generations 151 = .ok (.iload 7, 2) := by decide +kernel
theorem dX12_generations_153 : decode cX12_generations 153 = .ok (.ifCond .ne 19, 3) := by decide +kernel
theorem dX12_generations_156 : decode cX12_generations 156 = .ok (.aload_n 0, 1) := by decide +kernel
theorem dX12_generations_157 : decode cX12_generations 157 = .ok (.iload 5, 2) := by decide +kernel
theorem dX12_generations_159 : decode cX12_generations 159 = .ok (.invokevirtual 192, 3) := by decide +kernel
theorem dX12_generations_162 : decode cX12_generations 162 = .ok (.ifCond .eq 10, 3) := by decide +kernel
theorem dX12_generations_165 : decode cX12_generations 165 = .ok (.aload_n 0, 1) := by decide +kernel
theorem dX12_generations_166 : decode cX12_generations 166 = .ok (.iload 5, 2) := by decide +kernel
theorem dX12_generations_168 : decode cX12_generations 168 = .ok (.invokevirtual 482, 3) := by decide +kernel
theorem dX12_generations_171 : decode cX12_generations 171 = .ok (.pop, 1) := by decide +kernel
theorem dX12_generations_172 : decode cX12_generations 172 = .ok (.iload 7, 2) := by decide +kernel
theorem dX12_generations_174 : decode cX12_generations 174 = .ok (.iconst 1, 1) := by decide +kernel
theorem dX12_generations_175 : decode cX12_generations 175 = .ok (.if_icmp .ne 7, 3) := by decide +kernel
theorem dX12_generations_178 : decode cX12_generations 178 = .ok (.aload_n 0, 1) := by decide +kernel
theorem dX12_generations_179 : decode cX12_generations 179 = .ok (.invokevirtual 488, 3) := by decide +kernel
theorem dX12_generations_182 : decode cX12_generations 182 = .ok (.iinc 4 1, 3) := by decide +kernel
theorem dX12_generations_185 : decode cX12_generations 185 = .ok (.goto (-108), 3) := by decide +kernel
theorem dX12_generations_188 : decode cX12_generations 188 = .ok (.aload_n 0, 1) := by decide +kernel
theorem dX12_generations_189 : decode cX12_generations 189 = .ok (.aload_n 0, 1) := by decide +kernel
theorem dX12_generations_190 : decode cX12_generations 190 = .ok (.getfield 13, 3) := by decide +kernel
theorem dX12_generations_193 : decode cX12_generations 193 = .ok (.iconst 1, 1) := by decide +kernel
theorem dX12_generations_194 : decode cX12_generations 194 = .ok (.iaload, 1) := by decide +kernel
theorem dX12_generations_195 : decode cX12_generations 195 = .ok (.putfield 157, 3) := by decide +kernel
theorem dX12_generations_198 : decode cX12_generations 198 = .ok (.aload_n 0, 1) := by decide +kernel
theorem dX12_generations_199 : decode cX12_generations 199 = .ok (.aload_n 0, 1) := by decide +kernel
theorem dX12_generations_200 : decode cX12_generations 200 = .ok (.getfield 13, 3) := by decide +kernel
theorem dX12_generations_203 : decode cX12_generations 203 = .ok (.iconst 0, 1) := by decide +kernel
theorem dX12_generations_204 : decode cX12_generations 204 = .ok (.iaload, 1) := by decide +kernel
theorem dX12_generations_205 : decode cX12_generations 205 = .ok (.putfield 160, 3) := by decide +kernel
theorem dX12_generations_208 : decode cX12_generations 208 = .ok (.iconst 0, 1) := by decide +kernel
theorem dX12_generations_209 : decode cX12_generations 209 = .ok (.istore 4, 2) := by decide +kernel
theorem dX12_generations_211 : decode cX12_generations 211 = .ok (.iload 4, 2) := by decide +kernel
theorem dX12_generations_213 : decode cX12_generations 213 = .ok (.bipush 48, 2) := by decide +kernel
theorem dX12_generations_215 : decode cX12_generations 215 = .ok (.if_icmp .ge 26, 3) := by decide +kernel
theorem dX12_generations_218 : decode cX12_generations 218 = .ok (.aload_n 0, 1) := by decide +kernel
theorem dX12_generations_219 : decode cX12_generations 219 = .ok (.getfield 154, 3) := by decide +kernel
theorem dX12_generations_222 : decode cX12_generations 222 = .ok (.iload 4, 2) := by decide +kernel
theorem dX12_generations_224 : decode cX12_generations 224 = .ok (.aload_n 0, 1) := by decide +kernel
theorem dX12_generations_225 : decode cX12_generations 225 = .ok (.getfield 13, 3) := by decide +kernel
theorem dX12_generations_228 : decode cX12_generations 228 = .ok (.bipush 30, 2) := by decide +kernel
theorem dX12_generations_230 : decode cX12_generations 230 = .ok (.iload 4, 2) := by decide +kernel
theorem dX12_generations_232 : decode cX12_generations 232 = .ok (.iadd, 1) := by decide +kernel
theorem dX12_generations_233 : decode cX12_generations 233 = .ok (.iaload, 1) := by decide +kernel
theorem dX12_generations_234 : decode cX12_generations 234 = .ok (.iastore, 1) := by decide +kernel
theorem dX12_generations_235 : decode cX12_generations 235 = .ok (.iinc 4 1, 3) := by decide +kernel
theorem dX12_generations_238 : decode cX12_generations 238 = .ok (.goto (-27), 3) := by decide +kernel
theorem dX12_generations_241 : decode cX12_generations 241 = .ok (.aload_n 0, 1) := by decide +kernel
theorem dX12_generations_242 : decode cX12_generations 242 = .ok (.bipush 16, 2) := by decide +kernel
theorem dX12_generations_244 : decode cX12_generations 244 = .ok (.invokevirtual 180, 3) := by decide +kernel
theorem dX12_generations_247 : decode cX12_generations 247 = .ok (.aload_n 0, 1) := by decide +kernel
theorem dX12_generations_248 : decode cX12_generations 248 = .ok (.iload_n 3, 1) := by decide +kernel
theorem dX12_generations_249 : decode cX12_generations 249 = .ok (.invokevirtual 172, 3) := by decide +kernel
theorem dX12_generations_252 : decode cX12_generations 252 = .ok (.ireturn, 1) := by decide +kernel
theorem dX12_drawn_0 : decode cX12_drawn 0 = .ok (.aload_n 0, 1) := by decide +kernel
theorem dX12_drawn_1 : decode cX12_drawn 1 = .ok (.iconst 0, 1) := by decide +kernel
theorem dX12_drawn_2 : decode cX12_drawn 2 = .ok (.putfield 163, 3) := by decide +kernel
theorem dX12_drawn_5 : decode cX12_drawn 5 = .ok (.iload_n 1, 1) := by decide +kernel
theorem dX12_drawn_6 : decode cX12_drawn 6 = .ok (.i2l, 1) := by decide +kernel
theorem dX12_drawn_7 : decode cX12_drawn 7 = .ok (.lconst 0, 1) := by decide +kernel
theorem dX12_drawn_8 : decode cX12_drawn 8 = .ok (.aload_n 0, 1) := by decide +kernel
theorem dX12_drawn_9 : decode cX12_drawn 9 = .ok (.getfield 157, 3) := by decide +kernel
theorem dX12_drawn_12 : decode cX12_drawn 12 = .ok (.i2l, 1) := by decide +kernel
theorem dX12_drawn_13 : decode cX12_drawn 13 = .ok (.lconst 1, 1) := by decide +kernel
theorem dX12_drawn_14 : decode cX12_drawn 14 = .ok (.lsub, 1) := by decide +kernel
theorem dX12_drawn_15 : decode cX12_drawn 15 = .ok (.invokestatic 183, 3) := by decide +kernel
theorem dX12_drawn_18 : decode cX12_drawn 18 = .ok (.ifCond .eq 33, 3) := by decide +kernel
theorem dX12_drawn_21 : decode cX12_drawn 21 = .ok (.iload_n 2, 1) := by decide +kernel
theorem dX12_drawn_22 : decode cX12_drawn 22 = .ok (.i2l, 1) := by decide +kernel
theorem dX12_drawn_23 : decode cX12_drawn 23 = .ok (.lconst 0, 1) := by decide +kernel
theorem dX12_drawn_24 : decode cX12_drawn 24 = .ok (.aload_n 0, 1) := by decide +kernel
theorem dX12_drawn_25 : decode cX12_drawn 25 = .ok (.getfield 160, 3) := by decide +kernel
theorem dX12_drawn_28 : decode cX12_drawn 28 = .ok (.i2l, 1) := by decide +kernel
theorem dX12_drawn_29 : decode cX12_drawn 29 = .ok (.lconst 1, 1) := by decide +kernel
theorem dX12_drawn_30 : decode cX12_drawn 30 = .ok (.lsub, 1) := by decide +kernel
theorem dX12_drawn_31 : decode cX12_drawn 31 = .ok (.invokestatic 183, 3) := by decide +kernel
theorem dX12_drawn_34 : decode cX12_drawn 34 = .ok (.ifCond .eq 17, 3) := by decide +kernel
theorem dX12_drawn_37 : decode cX12_drawn 37 = .ok (.aload_n 0, 1) := by decide +kernel
theorem dX12_drawn_38 : decode cX12_drawn 38 = .ok (.getfield 154, 3) := by decide +kernel
theorem dX12_drawn_41 : decode cX12_drawn 41 = .ok (.bipush 6, 2) := by decide +kernel
theorem dX12_drawn_43 : decode cX12_drawn 43 = .ok (.iload_n 1, 1) := by decide +kernel
theorem dX12_drawn_44 : decode cX12_drawn 44 = .ok (.imul, 1) := by decide +kernel
theorem dX12_drawn_45 : decode cX12_drawn 45 = .ok (.iload_n 2, 1) := by decide +kernel
theorem dX12_drawn_46 : decode cX12_drawn 46 = .ok (.iadd, 1) := by decide +kernel
theorem dX12_drawn_47 : decode cX12_drawn 47 = .ok (.iaload, 1) := by decide +kernel
theorem dX12_drawn_48 : decode cX12_drawn 48 = .ok (.goto 4, 3) := by decide +kernel
theorem dX12_drawn_51 : decode cX12_drawn 51 = .ok (.iconst (-1), 1) := by decide +kernel
theorem dX12_drawn_52 : decode cX12_drawn 52 = .ok (.ireturn, 1) := by decide +kernel
theorem dX12_count_0 : decode cX12_count 0 = .ok (.aload_n 0, 1) := by decide +kernel
theorem dX12_count_1 : decode cX12_count 1 = .ok (.iconst 0, 1) := by decide +kernel
theorem dX12_count_2 : decode cX12_count 2 = .ok (.putfield 163, 3) := by decide +kernel
theorem dX12_count_5 : decode cX12_count 5 = .ok (.iload_n 1, 1) := by decide +kernel
theorem dX12_count_6 : decode cX12_count 6 = .ok (.tableswitch 155 0 12 #[66, 73, 80, 88, 95, 102, 107, 112, 119, 126, 133, 140, 148], 66) := by decide +kernel
theorem dX12_count_72 : decode cX12_count 72 = .ok (.aload_n 0, 1) := by decide +kernel
theorem dX12_count_73 : decode cX12_count 73 = .ok (.getfield 13, 3) := by decide +kernel
theorem dX12_count_76 : decode cX12_count 76 = .ok (.iconst 0, 1) := by decide +kernel
theorem dX12_count_77 : decode cX12_count 77 = .ok (.iaload, 1) := by decide +kernel
theorem dX12_count_78 : decode cX12_count 78 = .ok (.ireturn, 1) := by decide +kernel
theorem dX12_count_79 : decode cX12_count 79 = .ok (.aload_n 0, 1) := by decide +kernel
theorem dX12_count_80 : decode cX12_count 80 = .ok (.getfield 13, 3) := by decide +kernel
theorem dX12_count_83 : decode cX12_count 83 = .ok (.iconst 1, 1) := by decide +kernel
theorem dX12_count_84 : decode cX12_count 84 = .ok (.iaload, 1) := by decide +kernel
theorem dX12_count_85 : decode cX12_count 85 = .ok (.ireturn, 1) := by decide +kernel
theorem dX12_count_86 : decode cX12_count 86 = .ok (.aload_n 0, 1) := by decide +kernel
theorem dX12_count_87 : decode cX12_count 87 = .ok (.invokevirtual 476, 3) := by decide +kernel
theorem dX12_count_90 : decode cX12_count 90 = .ok (.invokestatic 479, 3) := by decide +kernel
theorem dX12_count_93 : decode cX12_count 93 = .ok (.ireturn, 1) := by decide +kernel
theorem dX12_count_94 : decode cX12_count 94 = .ok (.aload_n 0, 1) := by decide +kernel
theorem dX12_count_95 : decode cX12_count 95 = .ok (.getfield 13, 3) := by decide +kernel
theorem dX12_count_98 : decode cX12_count 98 = .ok (.iconst 2, 1) := by decide +kernel
theorem dX12_count_99 : decode cX12_count 99 = .ok (.iaload, 1) := by decide +kernel
theorem dX12_count_100 : decode cX12_count 100 = .ok (.ireturn, 1) := by decide +kernel
theorem dX12_count_101 : decode cX12_count 101 = .ok (.aload_n 0, 1) := by decide +kernel
theorem dX12_count_102 : decode cX12_count 102 = .ok (.getfield 13, 3) := by decide +kernel
theorem dX12_count_105 : decode cX12_count 105 = .ok (.iconst 3, 1) := by decide +kernel
theorem dX12_count_106 : decode cX12_count 106 = .ok (.iaload, 1) := by decide +kernel
theorem dX12_count_107 : decode cX12_count 107 = .ok (.ireturn, 1) := by decide +kernel
theorem dX12_count_108 : decode cX12_count 108 = .ok (.aload_n 0, 1) := by decide +kernel
theorem dX12_count_109 : decode cX12_count 109 = .ok (.getfield 169, 3) := by decide +kernel
theorem dX12_count_112 : decode cX12_count 112 = .ok (.ireturn, 1) := by decide +kernel
theorem dX12_count_113 : decode cX12_count 113 = .ok (.aload_n 0, 1) := by decide +kernel
theorem dX12_count_114 : decode cX12_count 114 = .ok (.getfield 245, 3) := by decide +kernel
theorem dX12_count_117 : decode cX12_count 117 = .ok (.ireturn, 1) := by decide +kernel
theorem dX12_count_118 : decode cX12_count 118 = .ok (.aload_n 0, 1) := by decide +kernel
theorem dX12_count_119 : decode cX12_count 119 = .ok (.getfield 7, 3) := by decide +kernel
theorem dX12_count_122 : decode cX12_count 122 = .ok (.iconst 1, 1) := by decide +kernel
theorem dX12_count_123 : decode cX12_count 123 = .ok (.iaload, 1) := by decide +kernel
theorem dX12_count_124 : decode cX12_count 124 = .ok (.ireturn, 1) := by decide +kernel
theorem dX12_count_125 : decode cX12_count 125 = .ok (.aload_n 0, 1) := by decide +kernel
theorem dX12_count_126 : decode cX12_count 126 = .ok (.getfield 7, 3) := by decide +kernel
theorem dX12_count_129 : decode cX12_count 129 = .ok (.iconst 2, 1) := by decide +kernel
theorem dX12_count_130 : decode cX12_count 130 = .ok (.iaload, 1) := by decide +kernel
theorem dX12_count_131 : decode cX12_count 131 = .ok (.ireturn, 1) := by decide +kernel
theorem dX12_count_132 : decode cX12_count 132 = .ok (.aload_n 0, 1) := by decide +kernel
theorem dX12_count_133 : decode cX12_count 133 = .ok (.getfield 7, 3) := by decide +kernel
theorem dX12_count_136 : decode cX12_count 136 = .ok (.iconst 3, 1) := by decide +kernel
theorem dX12_count_137 : decode cX12_count 137 = .ok (.iaload, 1) := by decide +kernel
theorem dX12_count_138 : decode cX12_count 138 = .ok (.ireturn, 1) := by decide +kernel
theorem dX12_count_139 : decode cX12_count 139 = .ok (.aload_n 0, 1) := by decide +kernel
theorem dX12_count_140 : decode cX12_count 140 = .ok (.getfield 7, 3) := by decide +kernel
theorem dX12_count_143 : decode cX12_count 143 = .ok (.iconst 5, 1) := by decide +kernel
theorem dX12_count_144 : decode cX12_count 144 = .ok (.iaload, 1) := by decide +kernel
theorem dX12_count_145 : decode cX12_count 145 = .ok (.ireturn, 1) := by decide +kernel
theorem dX12_count_146 : decode cX12_count 146 = .ok (.aload_n 0, 1) := by decide +kernel
theorem dX12_count_147 : decode cX12_count 147 = .ok (.getfield 7, 3) := by decide +kernel
theorem dX12_count_150 : decode cX12_count 150 = .ok (.bipush 6, 2) := by decide +kernel
theorem dX12_count_152 : decode cX12_count 152 = .ok (.iaload, 1) := by decide +kernel
theorem dX12_count_153 : decode cX12_count 153 = .ok (.ireturn, 1) := by decide +kernel
theorem dX12_count_154 : decode cX12_count 154 = .ok (.aload_n 0, 1) := by decide +kernel
theorem dX12_count_155 : decode cX12_count 155 = .ok (.getfield 13, 3) := by decide +kernel
theorem dX12_count_158 : decode cX12_count 158 = .ok (.iconst 4, 1) := by decide +kernel
theorem dX12_count_159 : decode cX12_count 159 = .ok (.iaload, 1) := by decide +kernel
theorem dX12_count_160 : decode cX12_count 160 = .ok (.ireturn, 1) := by decide +kernel
theorem dX12_count_161 : decode cX12_count 161 = .ok (.iload_n 1, 1) := by decide +kernel
theorem dX12_count_162 : decode cX12_count 162 = .ok (.i2l, 1) := by decide +kernel
theorem dX12_count_163 : decode cX12_count 163 = .ok (.ldc2_w 590, 3) := by decide +kernel
theorem dX12_count_166 : decode cX12_count 166 = .ok (.ldc2_w 592, 3) := by decide +kernel
theorem dX12_count_169 : decode cX12_count 169 = .ok (.invokestatic 183, 3) := by decide +kernel
theorem dX12_count_172 : decode cX12_count 172 = .ok (.ifCond .eq 17, 3) := by decide +kernel
theorem dX12_count_175 : decode cX12_count 175 = .ok (.aload_n 0, 1) := by decide +kernel
theorem dX12_count_176 : decode cX12_count 176 = .ok (.getfield 13, 3) := by decide +kernel
theorem dX12_count_179 : decode cX12_count 179 = .ok (.iconst 5, 1) := by decide +kernel
theorem dX12_count_180 : decode cX12_count 180 = .ok (.iload_n 1, 1) := by decide +kernel
theorem dX12_count_181 : decode cX12_count 181 = .ok (.iadd, 1) := by decide +kernel
theorem dX12_count_182 : decode cX12_count 182 = .ok (.bipush 13, 2) := by decide +kernel
theorem dX12_count_184 : decode cX12_count 184 = .ok (.isub, 1) := by decide +kernel
theorem dX12_count_185 : decode cX12_count 185 = .ok (.iaload, 1) := by decide +kernel
theorem dX12_count_186 : decode cX12_count 186 = .ok (.goto 4, 3) := by decide +kernel
theorem dX12_count_189 : decode cX12_count 189 = .ok (.iconst (-1), 1) := by decide +kernel
theorem dX12_count_190 : decode cX12_count 190 = .ok (.ireturn, 1) := by decide +kernel
theorem dX12_status_0 : decode cX12_status 0 = .ok (.aload_n 0, 1) := by decide +kernel
theorem dX12_status_1 : decode cX12_status 1 = .ok (.iconst 0, 1) := by decide +kernel
theorem dX12_status_2 : decode cX12_status 2 = .ok (.putfield 163, 3) := by decide +kernel
theorem dX12_status_5 : decode cX12_status 5 = .ok (.aload_n 0, 1) := by decide +kernel
theorem dX12_status_6 : decode cX12_status 6 = .ok (.getfield 166, 3) := by decide +kernel
theorem dX12_status_9 : decode cX12_status 9 = .ok (.ireturn, 1) := by decide +kernel
theorem dJ6_bitCount_0f7a4_0 : decode cJ6_bitCount_0f7a4 0 = .ok (.iload_n 0, 1) := by decide +kernel
theorem dJ6_bitCount_0f7a4_1 : decode cJ6_bitCount_0f7a4 1 = .ok (.iload_n 0, 1) := by decide +kernel
theorem dJ6_bitCount_0f7a4_2 : decode cJ6_bitCount_0f7a4 2 = .ok (.iconst 1, 1) := by decide +kernel
theorem dJ6_bitCount_0f7a4_3 : decode cJ6_bitCount_0f7a4 3 = .ok (.iushr, 1) := by decide +kernel
theorem dJ6_bitCount_0f7a4_4 : decode cJ6_bitCount_0f7a4 4 = .ok (.ldc_w 265, 3) := by decide +kernel
theorem dJ6_bitCount_0f7a4_7 : decode cJ6_bitCount_0f7a4 7 = .ok (.iand, 1) := by decide +kernel
theorem dJ6_bitCount_0f7a4_8 : decode cJ6_bitCount_0f7a4 8 = .ok (.isub, 1) := by decide +kernel
theorem dJ6_bitCount_0f7a4_9 : decode cJ6_bitCount_0f7a4 9 = .ok (.istore_n 0, 1) := by decide +kernel
theorem dJ6_bitCount_0f7a4_10 : decode cJ6_bitCount_0f7a4 10 = .ok (.iload_n 0, 1) := by decide +kernel
theorem dJ6_bitCount_0f7a4_11 : decode cJ6_bitCount_0f7a4 11 = .ok (.ldc_w 266, 3) := by decide +kernel
theorem dJ6_bitCount_0f7a4_14 : decode cJ6_bitCount_0f7a4 14 = .ok (.iand, 1) := by decide +kernel
theorem dJ6_bitCount_0f7a4_15 : decode cJ6_bitCount_0f7a4 15 = .ok (.iload_n 0, 1) := by decide +kernel
theorem dJ6_bitCount_0f7a4_16 : decode cJ6_bitCount_0f7a4 16 = .ok (.iconst 2, 1) := by decide +kernel
theorem dJ6_bitCount_0f7a4_17 : decode cJ6_bitCount_0f7a4 17 = .ok (.iushr, 1) := by decide +kernel
theorem dJ6_bitCount_0f7a4_18 : decode cJ6_bitCount_0f7a4 18 = .ok (.ldc_w 266, 3) := by decide +kernel
theorem dJ6_bitCount_0f7a4_21 : decode cJ6_bitCount_0f7a4 21 = .ok (.iand, 1) := by decide +kernel
theorem dJ6_bitCount_0f7a4_22 : decode cJ6_bitCount_0f7a4 22 = .ok (.iadd, 1) := by decide +kernel
theorem dJ6_bitCount_0f7a4_23 : decode cJ6_bitCount_0f7a4 23 = .ok (.istore_n 0, 1) := by decide +kernel
theorem dJ6_bitCount_0f7a4_24 : decode cJ6_bitCount_0f7a4 24 = .ok (.iload_n 0, 1) := by decide +kernel
theorem dJ6_bitCount_0f7a4_25 : decode cJ6_bitCount_0f7a4 25 = .ok (.iload_n 0, 1) := by decide +kernel
theorem dJ6_bitCount_0f7a4_26 : decode cJ6_bitCount_0f7a4 26 = .ok (.iconst 4, 1) := by decide +kernel
theorem dJ6_bitCount_0f7a4_27 : decode cJ6_bitCount_0f7a4 27 = .ok (.iushr, 1) := by decide +kernel
theorem dJ6_bitCount_0f7a4_28 : decode cJ6_bitCount_0f7a4 28 = .ok (.iadd, 1) := by decide +kernel
theorem dJ6_bitCount_0f7a4_29 : decode cJ6_bitCount_0f7a4 29 = .ok (.ldc_w 267, 3) := by decide +kernel
theorem dJ6_bitCount_0f7a4_32 : decode cJ6_bitCount_0f7a4 32 = .ok (.iand, 1) := by decide +kernel
theorem dJ6_bitCount_0f7a4_33 : decode cJ6_bitCount_0f7a4 33 = .ok (.istore_n 0, 1) := by decide +kernel
theorem dJ6_bitCount_0f7a4_34 : decode cJ6_bitCount_0f7a4 34 = .ok (.iload_n 0, 1) := by decide +kernel
theorem dJ6_bitCount_0f7a4_35 : decode cJ6_bitCount_0f7a4 35 = .ok (.iload_n 0, 1) := by decide +kernel
theorem dJ6_bitCount_0f7a4_36 : decode cJ6_bitCount_0f7a4 36 = .ok (.bipush 8, 2) := by decide +kernel
theorem dJ6_bitCount_0f7a4_38 : decode cJ6_bitCount_0f7a4 38 = .ok (.iushr, 1) := by decide +kernel
theorem dJ6_bitCount_0f7a4_39 : decode cJ6_bitCount_0f7a4 39 = .ok (.iadd, 1) := by decide +kernel
theorem dJ6_bitCount_0f7a4_40 : decode cJ6_bitCount_0f7a4 40 = .ok (.istore_n 0, 1) := by decide +kernel
theorem dJ6_bitCount_0f7a4_41 : decode cJ6_bitCount_0f7a4 41 = .ok (.iload_n 0, 1) := by decide +kernel
theorem dJ6_bitCount_0f7a4_42 : decode cJ6_bitCount_0f7a4 42 = .ok (.iload_n 0, 1) := by decide +kernel
theorem dJ6_bitCount_0f7a4_43 : decode cJ6_bitCount_0f7a4 43 = .ok (.bipush 16, 2) := by decide +kernel
theorem dJ6_bitCount_0f7a4_45 : decode cJ6_bitCount_0f7a4 45 = .ok (.iushr, 1) := by decide +kernel
theorem dJ6_bitCount_0f7a4_46 : decode cJ6_bitCount_0f7a4 46 = .ok (.iadd, 1) := by decide +kernel
theorem dJ6_bitCount_0f7a4_47 : decode cJ6_bitCount_0f7a4 47 = .ok (.istore_n 0, 1) := by decide +kernel
theorem dJ6_bitCount_0f7a4_48 : decode cJ6_bitCount_0f7a4 48 = .ok (.iload_n 0, 1) := by decide +kernel
theorem dJ6_bitCount_0f7a4_49 : decode cJ6_bitCount_0f7a4 49 = .ok (.bipush 63, 2) := by decide +kernel
theorem dJ6_bitCount_0f7a4_51 : decode cJ6_bitCount_0f7a4 51 = .ok (.iand, 1) := by decide +kernel
theorem dJ6_bitCount_0f7a4_52 : decode cJ6_bitCount_0f7a4 52 = .ok (.ireturn, 1) := by decide +kernel
theorem dJ9_abs_0f7a4_0 : decode cJ9_abs_0f7a4 0 = .ok (.iload_n 0, 1) := by decide +kernel
theorem dJ9_abs_0f7a4_1 : decode cJ9_abs_0f7a4 1 = .ok (.ifCond .ge 8, 3) := by decide +kernel
theorem dJ9_abs_0f7a4_4 : decode cJ9_abs_0f7a4 4 = .ok (.iload_n 0, 1) := by decide +kernel
theorem dJ9_abs_0f7a4_5 : decode cJ9_abs_0f7a4 5 = .ok (.ineg, 1) := by decide +kernel
theorem dJ9_abs_0f7a4_6 : decode cJ9_abs_0f7a4 6 = .ok (.goto 4, 3) := by decide +kernel
theorem dJ9_abs_0f7a4_9 : decode cJ9_abs_0f7a4 9 = .ok (.iload_n 0, 1) := by decide +kernel
theorem dJ9_abs_0f7a4_10 : decode cJ9_abs_0f7a4 10 = .ok (.ireturn, 1) := by decide +kernel
theorem dJ9_max_7cf53_0 : decode cJ9_max_7cf53 0 = .ok (.iload_n 0, 1) := by decide +kernel
theorem dJ9_max_7cf53_1 : decode cJ9_max_7cf53 1 = .ok (.iload_n 1, 1) := by decide +kernel
theorem dJ9_max_7cf53_2 : decode cJ9_max_7cf53 2 = .ok (.if_icmp .lt 7, 3) := by decide +kernel
theorem dJ9_max_7cf53_5 : decode cJ9_max_7cf53 5 = .ok (.iload_n 0, 1) := by decide +kernel
theorem dJ9_max_7cf53_6 : decode cJ9_max_7cf53 6 = .ok (.goto 4, 3) := by decide +kernel
theorem dJ9_max_7cf53_9 : decode cJ9_max_7cf53 9 = .ok (.iload_n 1, 1) := by decide +kernel
theorem dJ9_max_7cf53_10 : decode cJ9_max_7cf53 10 = .ok (.ireturn, 1) := by decide +kernel
theorem dJ9_min_7cf53_0 : decode cJ9_min_7cf53 0 = .ok (.iload_n 0, 1) := by decide +kernel
theorem dJ9_min_7cf53_1 : decode cJ9_min_7cf53 1 = .ok (.iload_n 1, 1) := by decide +kernel
theorem dJ9_min_7cf53_2 : decode cJ9_min_7cf53 2 = .ok (.if_icmp .gt 7, 3) := by decide +kernel
theorem dJ9_min_7cf53_5 : decode cJ9_min_7cf53 5 = .ok (.iload_n 0, 1) := by decide +kernel
theorem dJ9_min_7cf53_6 : decode cJ9_min_7cf53 6 = .ok (.goto 4, 3) := by decide +kernel
theorem dJ9_min_7cf53_9 : decode cJ9_min_7cf53 9 = .ok (.iload_n 1, 1) := by decide +kernel
theorem dJ9_min_7cf53_10 : decode cJ9_min_7cf53 10 = .ok (.ireturn, 1) := by decide +kernel
theorem dJ0_length_8abf5_0 : decode cJ0_length_8abf5 0 = .ok (.aload_n 0, 1) := by decide +kernel
theorem dJ0_length_8abf5_1 : decode cJ0_length_8abf5 1 = .ok (.getfield 9, 3) := by decide +kernel
theorem dJ0_length_8abf5_4 : decode cJ0_length_8abf5 4 = .ok (.arraylength, 1) := by decide +kernel
theorem dJ0_length_8abf5_5 : decode cJ0_length_8abf5 5 = .ok (.aload_n 0, 1) := by decide +kernel
theorem dJ0_length_8abf5_6 : decode cJ0_length_8abf5 6 = .ok (.invokevirtual 335, 3) := by decide +kernel
theorem dJ0_length_8abf5_9 : decode cJ0_length_8abf5 9 = .ok (.ishr, 1) := by decide +kernel
theorem dJ0_length_8abf5_10 : decode cJ0_length_8abf5 10 = .ok (.ireturn, 1) := by decide +kernel
theorem dJ0_charAt_5068e_0 : decode cJ0_charAt_5068e 0 = .ok (.aload_n 0, 1) := by decide +kernel
theorem dJ0_charAt_5068e_1 : decode cJ0_charAt_5068e 1 = .ok (.invokevirtual 492, 3) := by decide +kernel
theorem dJ0_charAt_5068e_4 : decode cJ0_charAt_5068e 4 = .ok (.ifCond .eq 12, 3) := by decide +kernel
theorem dJ0_charAt_5068e_7 : decode cJ0_charAt_5068e 7 = .ok (.aload_n 0, 1) := by decide +kernel
theorem dJ0_charAt_5068e_8 : decode cJ0_charAt_5068e 8 = .ok (.getfield 9, 3) := by decide +kernel
theorem dJ0_charAt_5068e_11 : decode cJ0_charAt_5068e 11 = .ok (.iload_n 1, 1) := by decide +kernel
theorem dJ0_charAt_5068e_12 : decode cJ0_charAt_5068e 12 = .ok (.invokestatic 495, 3) := by decide +kernel
theorem dJ0_charAt_5068e_15 : decode cJ0_charAt_5068e 15 = .ok (.ireturn, 1) := by decide +kernel
theorem dJ0_charAt_5068e_16 : decode cJ0_charAt_5068e 16 = .ok (.aload_n 0, 1) := by decide +kernel
theorem dJ0_charAt_5068e_17 : decode cJ0_charAt_5068e 17 = .ok (.getfield 9, 3) := by decide +kernel
theorem dJ0_charAt_5068e_20 : decode cJ0_charAt_5068e 20 = .ok (.iload_n 1, 1) := by decide +kernel
theorem dJ0_charAt_5068e_21 : decode cJ0_charAt_5068e 21 = .ok (.invokestatic 498, 3) := by decide +kernel
theorem dJ0_charAt_5068e_24 : decode cJ0_charAt_5068e 24 = .ok (.ireturn, 1) := by decide +kernel
theorem dJ0_coder_7d493_0 : decode cJ0_coder_7d493 0 = .ok (.getstatic 38, 3) := by decide +kernel
theorem dJ0_coder_7d493_3 : decode cJ0_coder_7d493 3 = .ok (.ifCond .eq 10, 3) := by decide +kernel
theorem dJ0_coder_7d493_6 : decode cJ0_coder_7d493 6 = .ok (.aload_n 0, 1) := by decide +kernel
theorem dJ0_coder_7d493_7 : decode cJ0_coder_7d493 7 = .ok (.getfield 15, 3) := by decide +kernel
theorem dJ0_coder_7d493_10 : decode cJ0_coder_7d493 10 = .ok (.goto 4, 3) := by decide +kernel
theorem dJ0_coder_7d493_13 : decode cJ0_coder_7d493 13 = .ok (.iconst 1, 1) := by decide +kernel
theorem dJ0_coder_7d493_14 : decode cJ0_coder_7d493 14 = .ok (.ireturn, 1) := by decide +kernel
theorem dJ0_isLatin1_aae02_0 : decode cJ0_isLatin1_aae02 0 = .ok (.getstatic 38, 3) := by decide +kernel
theorem dJ0_isLatin1_aae02_3 : decode cJ0_isLatin1_aae02 3 = .ok (.ifCond .eq 14, 3) := by decide +kernel
theorem dJ0_isLatin1_aae02_6 : decode cJ0_isLatin1_aae02 6 = .ok (.aload_n 0, 1) := by decide +kernel
theorem dJ0_isLatin1_aae02_7 : decode cJ0_isLatin1_aae02 7 = .ok (.getfield 15, 3) := by decide +kernel
theorem dJ0_isLatin1_aae02_10 : decode cJ0_isLatin1_aae02 10 = .ok (.ifCond .ne 7, 3) := by decide +kernel
theorem dJ0_isLatin1_aae02_13 : decode cJ0_isLatin1_aae02 13 = .ok (.iconst 1, 1) := by decide +kernel
theorem dJ0_isLatin1_aae02_14 : decode cJ0_isLatin1_aae02 14 = .ok (.goto 4, 3) := by decide +kernel
theorem dJ0_isLatin1_aae02_17 : decode cJ0_isLatin1_aae02 17 = .ok (.iconst 0, 1) := by decide +kernel
theorem dJ0_isLatin1_aae02_18 : decode cJ0_isLatin1_aae02 18 = .ok (.ireturn, 1) := by decide +kernel
theorem dJ0_checkIndex_df160_0 : decode cJ0_checkIndex_df160 0 = .ok (.iload_n 0, 1) := by decide +kernel
theorem dJ0_checkIndex_df160_1 : decode cJ0_checkIndex_df160 1 = .ok (.iload_n 1, 1) := by decide +kernel
theorem dJ0_checkIndex_df160_2 : decode cJ0_checkIndex_df160 2 = .ok (.getstatic 1053, 3) := by decide +kernel
theorem dJ0_checkIndex_df160_5 : decode cJ0_checkIndex_df160 5 = .ok (.invokestatic 1059, 3) := by decide +kernel
theorem dJ0_checkIndex_df160_8 : decode cJ0_checkIndex_df160 8 = .ok (.pop, 1) := by decide +kernel
theorem dJ0_checkIndex_df160_9 : decode cJ0_checkIndex_df160 9 = .ok (.return_, 1) := by decide +kernel
theorem dJ1_charAt_3b067_0 : decode cJ1_charAt_3b067 0 = .ok (.iload_n 1, 1) := by decide +kernel
theorem dJ1_charAt_3b067_1 : decode cJ1_charAt_3b067 1 = .ok (.aload_n 0, 1) := by decide +kernel
theorem dJ1_charAt_3b067_2 : decode cJ1_charAt_3b067 2 = .ok (.arraylength, 1) := by decide +kernel
theorem dJ1_charAt_3b067_3 : decode cJ1_charAt_3b067 3 = .ok (.invokestatic 9, 3) := by decide +kernel
theorem dJ1_charAt_3b067_6 : decode cJ1_charAt_3b067 6 = .ok (.aload_n 0, 1) := by decide +kernel
theorem dJ1_charAt_3b067_7 : decode cJ1_charAt_3b067 7 = .ok (.iload_n 1, 1) := by decide +kernel
theorem dJ1_charAt_3b067_8 : decode cJ1_charAt_3b067 8 = .ok (.baload, 1) := by decide +kernel
theorem dJ1_charAt_3b067_9 : decode cJ1_charAt_3b067 9 = .ok (.sipush 255, 3) := by decide +kernel
theorem dJ1_charAt_3b067_12 : decode cJ1_charAt_3b067 12 = .ok (.iand, 1) := by decide +kernel
theorem dJ1_charAt_3b067_13 : decode cJ1_charAt_3b067 13 = .ok (.i2c, 1) := by decide +kernel
theorem dJ1_charAt_3b067_14 : decode cJ1_charAt_3b067 14 = .ok (.ireturn, 1) := by decide +kernel
theorem dJ2_getChar_3b067_0 : decode cJ2_getChar_3b067 0 = .ok (.getstatic 44, 3) := by decide +kernel
theorem dJ2_getChar_3b067_3 : decode cJ2_getChar_3b067 3 = .ok (.ifCond .ne 25, 3) := by decide +kernel
theorem dJ2_getChar_3b067_6 : decode cJ2_getChar_3b067 6 = .ok (.iload_n 1, 1) := by decide +kernel
theorem dJ2_getChar_3b067_7 : decode cJ2_getChar_3b067 7 = .ok (.ifCond .lt 11, 3) := by decide +kernel
theorem dJ2_getChar_3b067_10 : decode cJ2_getChar_3b067 10 = .ok (.iload_n 1, 1) := by decide +kernel
theorem dJ2_getChar_3b067_11 : decode cJ2_getChar_3b067 11 = .ok (.aload_n 0, 1) := by decide +kernel
theorem dJ2_getChar_3b067_12 : decode cJ2_getChar_3b067 12 = .ok (.invokestatic 48, 3) := by decide +kernel
theorem dJ2_getChar_3b067_15 : decode cJ2_getChar_3b067 15 = .ok (.if_icmp .lt 13, 3) := by decide +kernel
theorem dJ2_getChar_3b067_18 : decode cJ2_getChar_3b067 18 = .ok (.new 52, 3) := by decide +kernel
theorem dJ2_getChar_3b067_21 : decode cJ2_getChar_3b067 21 = .ok (.dup, 1) := by decide +kernel
theorem dJ2_getChar_3b067_22 : decode cJ2_getChar_3b067 22 = .ok (.ldc 54, 2) := by decide +kernel
theorem dJ2_getChar_3b067_24 : decode cJ2_getChar_3b067 24 = .ok (.invokespecial 56, 3) := by decide +kernel
theorem dJ2_getChar_3b067_27 : decode cJ2_getChar_3b067 27 = .ok (.athrow, 1) := by decide +kernel
theorem dJ2_getChar_3b067_28 : decode cJ2_getChar_3b067 28 = .ok (.iload_n 1, 1) := by decide +kernel
theorem dJ2_getChar_3b067_29 : decode cJ2_getChar_3b067 29 = .ok (.iconst 1, 1) := by decide +kernel
theorem dJ2_getChar_3b067_30 : decode cJ2_getChar_3b067 30 = .ok (.ishl, 1) := by decide +kernel
theorem dJ2_getChar_3b067_31 : decode cJ2_getChar_3b067 31 = .ok (.istore_n 1, 1) := by decide +kernel
theorem dJ2_getChar_3b067_32 : decode cJ2_getChar_3b067 32 = .ok (.aload_n 0, 1) := by decide +kernel
theorem dJ2_getChar_3b067_33 : decode cJ2_getChar_3b067 33 = .ok (.iload_n 1, 1) := by decide +kernel
theorem dJ2_getChar_3b067_34 : decode cJ2_getChar_3b067 34 = .ok (.iinc 1 1, 3) := by decide +kernel
theorem dJ2_getChar_3b067_37 : decode cJ2_getChar_3b067 37 = .ok (.baload, 1) := by decide +kernel
theorem dJ2_getChar_3b067_38 : decode cJ2_getChar_3b067 38 = .ok (.sipush 255, 3) := by decide +kernel
theorem dJ2_getChar_3b067_41 : decode cJ2_getChar_3b067 41 = .ok (.iand, 1) := by decide +kernel
theorem dJ2_getChar_3b067_42 : decode cJ2_getChar_3b067 42 = .ok (.getstatic 59, 3) := by decide +kernel
theorem dJ2_getChar_3b067_45 : decode cJ2_getChar_3b067 45 = .ok (.ishl, 1) := by decide +kernel
theorem dJ2_getChar_3b067_46 : decode cJ2_getChar_3b067 46 = .ok (.aload_n 0, 1) := by decide +kernel
theorem dJ2_getChar_3b067_47 : decode cJ2_getChar_3b067 47 = .ok (.iload_n 1, 1) := by decide +kernel
theorem dJ2_getChar_3b067_48 : decode cJ2_getChar_3b067 48 = .ok (.baload, 1) := by decide +kernel
theorem dJ2_getChar_3b067_49 : decode cJ2_getChar_3b067 49 = .ok (.sipush 255, 3) := by decide +kernel
theorem dJ2_getChar_3b067_52 : decode cJ2_getChar_3b067 52 = .ok (.iand, 1) := by decide +kernel
theorem dJ2_getChar_3b067_53 : decode cJ2_getChar_3b067 53 = .ok (.getstatic 63, 3) := by decide +kernel
theorem dJ2_getChar_3b067_56 : decode cJ2_getChar_3b067 56 = .ok (.ishl, 1) := by decide +kernel
theorem dJ2_getChar_3b067_57 : decode cJ2_getChar_3b067 57 = .ok (.ior, 1) := by decide +kernel
theorem dJ2_getChar_3b067_58 : decode cJ2_getChar_3b067 58 = .ok (.i2c, 1) := by decide +kernel
theorem dJ2_getChar_3b067_59 : decode cJ2_getChar_3b067 59 = .ok (.ireturn, 1) := by decide +kernel
theorem dJ2_length_9d52b_0 : decode cJ2_length_9d52b 0 = .ok (.aload_n 0, 1) := by decide +kernel
theorem dJ2_length_9d52b_1 : decode cJ2_length_9d52b 1 = .ok (.arraylength, 1) := by decide +kernel
theorem dJ2_length_9d52b_2 : decode cJ2_length_9d52b 2 = .ok (.iconst 1, 1) := by decide +kernel
theorem dJ2_length_9d52b_3 : decode cJ2_length_9d52b 3 = .ok (.ishr, 1) := by decide +kernel
theorem dJ2_length_9d52b_4 : decode cJ2_length_9d52b 4 = .ok (.ireturn, 1) := by decide +kernel
theorem dJ2_charAt_3b067_0 : decode cJ2_charAt_3b067 0 = .ok (.iload_n 1, 1) := by decide +kernel
theorem dJ2_charAt_3b067_1 : decode cJ2_charAt_3b067 1 = .ok (.aload_n 0, 1) := by decide +kernel
theorem dJ2_charAt_3b067_2 : decode cJ2_charAt_3b067 2 = .ok (.invokestatic 67, 3) := by decide +kernel
theorem dJ2_charAt_3b067_5 : decode cJ2_charAt_3b067 5 = .ok (.aload_n 0, 1) := by decide +kernel
theorem dJ2_charAt_3b067_6 : decode cJ2_charAt_3b067 6 = .ok (.iload_n 1, 1) := by decide +kernel
theorem dJ2_charAt_3b067_7 : decode cJ2_charAt_3b067 7 = .ok (.invokestatic 71, 3) := by decide +kernel
theorem dJ2_charAt_3b067_10 : decode cJ2_charAt_3b067 10 = .ok (.ireturn, 1) := by decide +kernel
theorem dJ2_checkIndex_2214a_0 : decode cJ2_checkIndex_2214a 0 = .ok (.iload_n 0, 1) := by decide +kernel
theorem dJ2_checkIndex_2214a_1 : decode cJ2_checkIndex_2214a 1 = .ok (.aload_n 1, 1) := by decide +kernel
theorem dJ2_checkIndex_2214a_2 : decode cJ2_checkIndex_2214a 2 = .ok (.invokestatic 48, 3) := by decide +kernel
theorem dJ2_checkIndex_2214a_5 : decode cJ2_checkIndex_2214a 5 = .ok (.invokestatic 414, 3) := by decide +kernel
theorem dJ2_checkIndex_2214a_8 : decode cJ2_checkIndex_2214a 8 = .ok (.return_, 1) := by decide +kernel
theorem dJ3_checkIndex_8e157_0 : decode cJ3_checkIndex_8e157 0 = .ok (.iload_n 0, 1) := by decide +kernel
theorem dJ3_checkIndex_8e157_1 : decode cJ3_checkIndex_8e157 1 = .ok (.ifCond .lt 8, 3) := by decide +kernel
theorem dJ3_checkIndex_8e157_4 : decode cJ3_checkIndex_8e157 4 = .ok (.iload_n 0, 1) := by decide +kernel
theorem dJ3_checkIndex_8e157_5 : decode cJ3_checkIndex_8e157 5 = .ok (.iload_n 1, 1) := by decide +kernel
theorem dJ3_checkIndex_8e157_6 : decode cJ3_checkIndex_8e157 6 = .ok (.if_icmp .lt 10, 3) := by decide +kernel
theorem dJ3_checkIndex_8e157_9 : decode cJ3_checkIndex_8e157 9 = .ok (.aload_n 2, 1) := by decide +kernel
theorem dJ3_checkIndex_8e157_10 : decode cJ3_checkIndex_8e157 10 = .ok (.iload_n 0, 1) := by decide +kernel
theorem dJ3_checkIndex_8e157_11 : decode cJ3_checkIndex_8e157 11 = .ok (.iload_n 1, 1) := by decide +kernel
theorem dJ3_checkIndex_8e157_12 : decode cJ3_checkIndex_8e157 12 = .ok (.invokestatic 95, 3) := by decide +kernel
theorem dJ3_checkIndex_8e157_15 : decode cJ3_checkIndex_8e157 15 = .ok (.athrow, 1) := by decide +kernel
theorem dJ3_checkIndex_8e157_16 : decode cJ3_checkIndex_8e157 16 = .ok (.iload_n 0, 1) := by decide +kernel
theorem dJ3_checkIndex_8e157_17 : decode cJ3_checkIndex_8e157 17 = .ok (.ireturn, 1) := by decide +kernel
theorem dL_law_0 : decode cL_law 0 = .ok (.new 7, 3) := by decide +kernel
theorem dL_law_3 : decode cL_law 3 = .ok (.dup, 1) := by decide +kernel
theorem dL_law_4 : decode cL_law 4 = .ok (.invokespecial 9, 3) := by decide +kernel
theorem dL_law_7 : decode cL_law 7 = .ok (.astore_n 1, 1) := by decide +kernel
theorem dL_law_8 : decode cL_law 8 = .ok (.new 10, 3) := by decide +kernel
theorem dL_law_11 : decode cL_law 11 = .ok (.dup, 1) := by decide +kernel
theorem dL_law_12 : decode cL_law 12 = .ok (.invokespecial 12, 3) := by decide +kernel
theorem dL_law_15 : decode cL_law 15 = .ok (.astore_n 2, 1) := by decide +kernel
theorem dL_law_16 : decode cL_law 16 = .ok (.iconst 0, 1) := by decide +kernel
theorem dL_law_17 : decode cL_law 17 = .ok (.istore_n 3, 1) := by decide +kernel
theorem dL_law_18 : decode cL_law 18 = .ok (.iload_n 3, 1) := by decide +kernel
theorem dL_law_19 : decode cL_law 19 = .ok (.aload_n 0, 1) := by decide +kernel
theorem dL_law_20 : decode cL_law 20 = .ok (.arraylength, 1) := by decide +kernel
theorem dL_law_21 : decode cL_law 21 = .ok (.bipush 6, 2) := by decide +kernel
theorem dL_law_23 : decode cL_law 23 = .ok (.isub, 1) := by decide +kernel
theorem dL_law_24 : decode cL_law 24 = .ok (.if_icmp .gt 1397, 3) := by decide +kernel
theorem dL_law_27 : decode cL_law 27 = .ok (.aload_n 0, 1) := by decide +kernel
theorem dL_law_28 : decode cL_law 28 = .ok (.iload_n 3, 1) := by decide +kernel
theorem dL_law_29 : decode cL_law 29 = .ok (.iaload, 1) := by decide +kernel
theorem dL_law_30 : decode cL_law 30 = .ok (.bipush 63, 2) := by decide +kernel
theorem dL_law_32 : decode cL_law 32 = .ok (.iand, 1) := by decide +kernel
theorem dL_law_33 : decode cL_law 33 = .ok (.tableswitch 1382 0 40 #[179, 212, 245, 288, 321, 354, 387, 430, 473, 526, 559, 622, 645, 658, 671, 684, 697, 710, 723, 746, 779, 822, 845, 858, 871, 914, 937, 970, 983, 996, 1019, 1052, 1095, 1148, 1201, 1234, 1267, 1300, 1323, 1346, 1369], 179) := by decide +kernel
theorem dL_law_212 : decode cL_law 212 = .ok (.aload_n 1, 1) := by decide +kernel
theorem dL_law_213 : decode cL_law 213 = .ok (.aload_n 0, 1) := by decide +kernel
theorem dL_law_214 : decode cL_law 214 = .ok (.iload_n 3, 1) := by decide +kernel
theorem dL_law_215 : decode cL_law 215 = .ok (.iconst 1, 1) := by decide +kernel
theorem dL_law_216 : decode cL_law 216 = .ok (.iadd, 1) := by decide +kernel
theorem dL_law_217 : decode cL_law 217 = .ok (.iaload, 1) := by decide +kernel
theorem dL_law_218 : decode cL_law 218 = .ok (.aload_n 0, 1) := by decide +kernel
theorem dL_law_219 : decode cL_law 219 = .ok (.iload_n 3, 1) := by decide +kernel
theorem dL_law_220 : decode cL_law 220 = .ok (.iconst 2, 1) := by decide +kernel
theorem dL_law_221 : decode cL_law 221 = .ok (.iadd, 1) := by decide +kernel
theorem dL_law_222 : decode cL_law 222 = .ok (.iaload, 1) := by decide +kernel
theorem dL_law_223 : decode cL_law 223 = .ok (.invokevirtual 13, 3) := by decide +kernel
theorem dL_law_226 : decode cL_law 226 = .ok (.pop, 1) := by decide +kernel
theorem dL_law_227 : decode cL_law 227 = .ok (.aload_n 2, 1) := by decide +kernel
theorem dL_law_228 : decode cL_law 228 = .ok (.aload_n 0, 1) := by decide +kernel
theorem dL_law_229 : decode cL_law 229 = .ok (.iload_n 3, 1) := by decide +kernel
theorem dL_law_230 : decode cL_law 230 = .ok (.iconst 1, 1) := by decide +kernel
theorem dL_law_231 : decode cL_law 231 = .ok (.iadd, 1) := by decide +kernel
theorem dL_law_232 : decode cL_law 232 = .ok (.iaload, 1) := by decide +kernel
theorem dL_law_233 : decode cL_law 233 = .ok (.aload_n 0, 1) := by decide +kernel
theorem dL_law_234 : decode cL_law 234 = .ok (.iload_n 3, 1) := by decide +kernel
theorem dL_law_235 : decode cL_law 235 = .ok (.iconst 2, 1) := by decide +kernel
theorem dL_law_236 : decode cL_law 236 = .ok (.iadd, 1) := by decide +kernel
theorem dL_law_237 : decode cL_law 237 = .ok (.iaload, 1) := by decide +kernel
theorem dL_law_238 : decode cL_law 238 = .ok (.invokevirtual 17, 3) := by decide +kernel
theorem dL_law_241 : decode cL_law 241 = .ok (.pop, 1) := by decide +kernel
theorem dL_law_242 : decode cL_law 242 = .ok (.goto 1173, 3) := by decide +kernel
theorem dL_law_245 : decode cL_law 245 = .ok (.aload_n 1, 1) := by decide +kernel
theorem dL_law_246 : decode cL_law 246 = .ok (.aload_n 0, 1) := by decide +kernel
theorem dL_law_247 : decode cL_law 247 = .ok (.iload_n 3, 1) := by decide +kernel
theorem dL_law_248 : decode cL_law 248 = .ok (.iconst 1, 1) := by decide +kernel
theorem dL_law_249 : decode cL_law 249 = .ok (.iadd, 1) := by decide +kernel
theorem dL_law_250 : decode cL_law 250 = .ok (.iaload, 1) := by decide +kernel
theorem dL_law_251 : decode cL_law 251 = .ok (.aload_n 0, 1) := by decide +kernel
theorem dL_law_252 : decode cL_law 252 = .ok (.iload_n 3, 1) := by decide +kernel
theorem dL_law_253 : decode cL_law 253 = .ok (.iconst 2, 1) := by decide +kernel
theorem dL_law_254 : decode cL_law 254 = .ok (.iadd, 1) := by decide +kernel
theorem dL_law_255 : decode cL_law 255 = .ok (.iaload, 1) := by decide +kernel
theorem dL_law_256 : decode cL_law 256 = .ok (.invokevirtual 18, 3) := by decide +kernel
theorem dL_law_259 : decode cL_law 259 = .ok (.pop, 1) := by decide +kernel
theorem dL_law_260 : decode cL_law 260 = .ok (.aload_n 2, 1) := by decide +kernel
theorem dL_law_261 : decode cL_law 261 = .ok (.aload_n 0, 1) := by decide +kernel
theorem dL_law_262 : decode cL_law 262 = .ok (.iload_n 3, 1) := by decide +kernel
theorem dL_law_263 : decode cL_law 263 = .ok (.iconst 1, 1) := by decide +kernel
theorem dL_law_264 : decode cL_law 264 = .ok (.iadd, 1) := by decide +kernel
theorem dL_law_265 : decode cL_law 265 = .ok (.iaload, 1) := by decide +kernel
theorem dL_law_266 : decode cL_law 266 = .ok (.aload_n 0, 1) := by decide +kernel
theorem dL_law_267 : decode cL_law 267 = .ok (.iload_n 3, 1) := by decide +kernel
theorem dL_law_268 : decode cL_law 268 = .ok (.iconst 2, 1) := by decide +kernel
theorem dL_law_269 : decode cL_law 269 = .ok (.iadd, 1) := by decide +kernel
theorem dL_law_270 : decode cL_law 270 = .ok (.iaload, 1) := by decide +kernel
theorem dL_law_271 : decode cL_law 271 = .ok (.invokevirtual 21, 3) := by decide +kernel
theorem dL_law_274 : decode cL_law 274 = .ok (.pop, 1) := by decide +kernel
theorem dL_law_275 : decode cL_law 275 = .ok (.goto 1140, 3) := by decide +kernel
theorem dL_law_278 : decode cL_law 278 = .ok (.aload_n 1, 1) := by decide +kernel
theorem dL_law_279 : decode cL_law 279 = .ok (.aload_n 0, 1) := by decide +kernel
theorem dL_law_280 : decode cL_law 280 = .ok (.iload_n 3, 1) := by decide +kernel
theorem dL_law_281 : decode cL_law 281 = .ok (.iconst 1, 1) := by decide +kernel
theorem dL_law_282 : decode cL_law 282 = .ok (.iadd, 1) := by decide +kernel
theorem dL_law_283 : decode cL_law 283 = .ok (.iaload, 1) := by decide +kernel
theorem dL_law_284 : decode cL_law 284 = .ok (.aload_n 0, 1) := by decide +kernel
theorem dL_law_285 : decode cL_law 285 = .ok (.iload_n 3, 1) := by decide +kernel
theorem dL_law_286 : decode cL_law 286 = .ok (.iconst 2, 1) := by decide +kernel
theorem dL_law_287 : decode cL_law 287 = .ok (.iadd, 1) := by decide +kernel
theorem dL_law_288 : decode cL_law 288 = .ok (.iaload, 1) := by decide +kernel
theorem dL_law_289 : decode cL_law 289 = .ok (.aload_n 0, 1) := by decide +kernel
theorem dL_law_290 : decode cL_law 290 = .ok (.iload_n 3, 1) := by decide +kernel
theorem dL_law_291 : decode cL_law 291 = .ok (.iconst 3, 1) := by decide +kernel
theorem dL_law_292 : decode cL_law 292 = .ok (.iadd, 1) := by decide +kernel
theorem dL_law_293 : decode cL_law 293 = .ok (.iaload, 1) := by decide +kernel
theorem dL_law_294 : decode cL_law 294 = .ok (.invokevirtual 22, 3) := by decide +kernel
theorem dL_law_297 : decode cL_law 297 = .ok (.pop, 1) := by decide +kernel
theorem dL_law_298 : decode cL_law 298 = .ok (.aload_n 2, 1) := by decide +kernel
theorem dL_law_299 : decode cL_law 299 = .ok (.aload_n 0, 1) := by decide +kernel
theorem dL_law_300 : decode cL_law 300 = .ok (.iload_n 3, 1) := by decide +kernel
theorem dL_law_301 : decode cL_law 301 = .ok (.iconst 1, 1) := by decide +kernel
theorem dL_law_302 : decode cL_law 302 = .ok (.iadd, 1) := by decide +kernel
theorem dL_law_303 : decode cL_law 303 = .ok (.iaload, 1) := by decide +kernel
theorem dL_law_304 : decode cL_law 304 = .ok (.aload_n 0, 1) := by decide +kernel
theorem dL_law_305 : decode cL_law 305 = .ok (.iload_n 3, 1) := by decide +kernel
theorem dL_law_306 : decode cL_law 306 = .ok (.iconst 2, 1) := by decide +kernel
theorem dL_law_307 : decode cL_law 307 = .ok (.iadd, 1) := by decide +kernel
theorem dL_law_308 : decode cL_law 308 = .ok (.iaload, 1) := by decide +kernel
theorem dL_law_309 : decode cL_law 309 = .ok (.aload_n 0, 1) := by decide +kernel
theorem dL_law_310 : decode cL_law 310 = .ok (.iload_n 3, 1) := by decide +kernel
theorem dL_law_311 : decode cL_law 311 = .ok (.iconst 3, 1) := by decide +kernel
theorem dL_law_312 : decode cL_law 312 = .ok (.iadd, 1) := by decide +kernel
theorem dL_law_313 : decode cL_law 313 = .ok (.iaload, 1) := by decide +kernel
theorem dL_law_314 : decode cL_law 314 = .ok (.invokevirtual 26, 3) := by decide +kernel
theorem dL_law_317 : decode cL_law 317 = .ok (.pop, 1) := by decide +kernel
theorem dL_law_318 : decode cL_law 318 = .ok (.goto 1097, 3) := by decide +kernel
theorem dL_law_321 : decode cL_law 321 = .ok (.aload_n 1, 1) := by decide +kernel
theorem dL_law_322 : decode cL_law 322 = .ok (.aload_n 0, 1) := by decide +kernel
theorem dL_law_323 : decode cL_law 323 = .ok (.iload_n 3, 1) := by decide +kernel
theorem dL_law_324 : decode cL_law 324 = .ok (.iconst 1, 1) := by decide +kernel
theorem dL_law_325 : decode cL_law 325 = .ok (.iadd, 1) := by decide +kernel
theorem dL_law_326 : decode cL_law 326 = .ok (.iaload, 1) := by decide +kernel
theorem dL_law_327 : decode cL_law 327 = .ok (.aload_n 0, 1) := by decide +kernel
theorem dL_law_328 : decode cL_law 328 = .ok (.iload_n 3, 1) := by decide +kernel
theorem dL_law_329 : decode cL_law 329 = .ok (.iconst 2, 1) := by decide +kernel
theorem dL_law_330 : decode cL_law 330 = .ok (.iadd, 1) := by decide +kernel
theorem dL_law_331 : decode cL_law 331 = .ok (.iaload, 1) := by decide +kernel
theorem dL_law_332 : decode cL_law 332 = .ok (.invokevirtual 27, 3) := by decide +kernel
theorem dL_law_335 : decode cL_law 335 = .ok (.pop, 1) := by decide +kernel
theorem dL_law_336 : decode cL_law 336 = .ok (.aload_n 2, 1) := by decide +kernel
theorem dL_law_337 : decode cL_law 337 = .ok (.aload_n 0, 1) := by decide +kernel
theorem dL_law_338 : decode cL_law 338 = .ok (.iload_n 3, 1) := by decide +kernel
theorem dL_law_339 : decode cL_law 339 = .ok (.iconst 1, 1) := by decide +kernel
theorem dL_law_340 : decode cL_law 340 = .ok (.iadd, 1) := by decide +kernel
theorem dL_law_341 : decode cL_law 341 = .ok (.iaload, 1) := by decide +kernel
theorem dL_law_342 : decode cL_law 342 = .ok (.aload_n 0, 1) := by decide +kernel
theorem dL_law_343 : decode cL_law 343 = .ok (.iload_n 3, 1) := by decide +kernel
theorem dL_law_344 : decode cL_law 344 = .ok (.iconst 2, 1) := by decide +kernel
theorem dL_law_345 : decode cL_law 345 = .ok (.iadd, 1) := by decide +kernel
theorem dL_law_346 : decode cL_law 346 = .ok (.iaload, 1) := by decide +kernel
theorem dL_law_347 : decode cL_law 347 = .ok (.invokevirtual 30, 3) := by decide +kernel
theorem dL_law_350 : decode cL_law 350 = .ok (.pop, 1) := by decide +kernel
theorem dL_law_351 : decode cL_law 351 = .ok (.goto 1064, 3) := by decide +kernel
theorem dL_law_354 : decode cL_law 354 = .ok (.aload_n 1, 1) := by decide +kernel
theorem dL_law_355 : decode cL_law 355 = .ok (.aload_n 0, 1) := by decide +kernel
theorem dL_law_356 : decode cL_law 356 = .ok (.iload_n 3, 1) := by decide +kernel
theorem dL_law_357 : decode cL_law 357 = .ok (.iconst 1, 1) := by decide +kernel
theorem dL_law_358 : decode cL_law 358 = .ok (.iadd, 1) := by decide +kernel
theorem dL_law_359 : decode cL_law 359 = .ok (.iaload, 1) := by decide +kernel
theorem dL_law_360 : decode cL_law 360 = .ok (.aload_n 0, 1) := by decide +kernel
theorem dL_law_361 : decode cL_law 361 = .ok (.iload_n 3, 1) := by decide +kernel
theorem dL_law_362 : decode cL_law 362 = .ok (.iconst 2, 1) := by decide +kernel
theorem dL_law_363 : decode cL_law 363 = .ok (.iadd, 1) := by decide +kernel
theorem dL_law_364 : decode cL_law 364 = .ok (.iaload, 1) := by decide +kernel
theorem dL_law_365 : decode cL_law 365 = .ok (.invokevirtual 31, 3) := by decide +kernel
theorem dL_law_368 : decode cL_law 368 = .ok (.pop, 1) := by decide +kernel
theorem dL_law_369 : decode cL_law 369 = .ok (.aload_n 2, 1) := by decide +kernel
theorem dL_law_370 : decode cL_law 370 = .ok (.aload_n 0, 1) := by decide +kernel
theorem dL_law_371 : decode cL_law 371 = .ok (.iload_n 3, 1) := by decide +kernel
theorem dL_law_372 : decode cL_law 372 = .ok (.iconst 1, 1) := by decide +kernel
theorem dL_law_373 : decode cL_law 373 = .ok (.iadd, 1) := by decide +kernel
theorem dL_law_374 : decode cL_law 374 = .ok (.iaload, 1) := by decide +kernel
theorem dL_law_375 : decode cL_law 375 = .ok (.aload_n 0, 1) := by decide +kernel
theorem dL_law_376 : decode cL_law 376 = .ok (.iload_n 3, 1) := by decide +kernel
theorem dL_law_377 : decode cL_law 377 = .ok (.iconst 2, 1) := by decide +kernel
theorem dL_law_378 : decode cL_law 378 = .ok (.iadd, 1) := by decide +kernel
theorem dL_law_379 : decode cL_law 379 = .ok (.iaload, 1) := by decide +kernel
theorem dL_law_380 : decode cL_law 380 = .ok (.invokevirtual 34, 3) := by decide +kernel
theorem dL_law_383 : decode cL_law 383 = .ok (.pop, 1) := by decide +kernel
theorem dL_law_384 : decode cL_law 384 = .ok (.goto 1031, 3) := by decide +kernel
theorem dL_law_387 : decode cL_law 387 = .ok (.aload_n 1, 1) := by decide +kernel
theorem dL_law_388 : decode cL_law 388 = .ok (.aload_n 0, 1) := by decide +kernel
theorem dL_law_389 : decode cL_law 389 = .ok (.iload_n 3, 1) := by decide +kernel
theorem dL_law_390 : decode cL_law 390 = .ok (.iconst 1, 1) := by decide +kernel
theorem dL_law_391 : decode cL_law 391 = .ok (.iadd, 1) := by decide +kernel
theorem dL_law_392 : decode cL_law 392 = .ok (.iaload, 1) := by decide +kernel
theorem dL_law_393 : decode cL_law 393 = .ok (.aload_n 0, 1) := by decide +kernel
theorem dL_law_394 : decode cL_law 394 = .ok (.iload_n 3, 1) := by decide +kernel
theorem dL_law_395 : decode cL_law 395 = .ok (.iconst 2, 1) := by decide +kernel
theorem dL_law_396 : decode cL_law 396 = .ok (.iadd, 1) := by decide +kernel
theorem dL_law_397 : decode cL_law 397 = .ok (.iaload, 1) := by decide +kernel
theorem dL_law_398 : decode cL_law 398 = .ok (.invokevirtual 35, 3) := by decide +kernel
theorem dL_law_401 : decode cL_law 401 = .ok (.pop, 1) := by decide +kernel
theorem dL_law_402 : decode cL_law 402 = .ok (.aload_n 2, 1) := by decide +kernel
theorem dL_law_403 : decode cL_law 403 = .ok (.aload_n 0, 1) := by decide +kernel
theorem dL_law_404 : decode cL_law 404 = .ok (.iload_n 3, 1) := by decide +kernel
theorem dL_law_405 : decode cL_law 405 = .ok (.iconst 1, 1) := by decide +kernel
theorem dL_law_406 : decode cL_law 406 = .ok (.iadd, 1) := by decide +kernel
theorem dL_law_407 : decode cL_law 407 = .ok (.iaload, 1) := by decide +kernel
theorem dL_law_408 : decode cL_law 408 = .ok (.aload_n 0, 1) := by decide +kernel
theorem dL_law_409 : decode cL_law 409 = .ok (.iload_n 3, 1) := by decide +kernel
theorem dL_law_410 : decode cL_law 410 = .ok (.iconst 2, 1) := by decide +kernel
theorem dL_law_411 : decode cL_law 411 = .ok (.iadd, 1) := by decide +kernel
theorem dL_law_412 : decode cL_law 412 = .ok (.iaload, 1) := by decide +kernel
theorem dL_law_413 : decode cL_law 413 = .ok (.invokevirtual 38, 3) := by decide +kernel
theorem dL_law_416 : decode cL_law 416 = .ok (.pop, 1) := by decide +kernel
theorem dL_law_417 : decode cL_law 417 = .ok (.goto 998, 3) := by decide +kernel
theorem dL_law_420 : decode cL_law 420 = .ok (.aload_n 1, 1) := by decide +kernel
theorem dL_law_421 : decode cL_law 421 = .ok (.aload_n 0, 1) := by decide +kernel
theorem dL_law_422 : decode cL_law 422 = .ok (.iload_n 3, 1) := by decide +kernel
theorem dL_law_423 : decode cL_law 423 = .ok (.iconst 1, 1) := by decide +kernel
theorem dL_law_424 : decode cL_law 424 = .ok (.iadd, 1) := by decide +kernel
theorem dL_law_425 : decode cL_law 425 = .ok (.iaload, 1) := by decide +kernel
theorem dL_law_426 : decode cL_law 426 = .ok (.aload_n 0, 1) := by decide +kernel
theorem dL_law_427 : decode cL_law 427 = .ok (.iload_n 3, 1) := by decide +kernel
theorem dL_law_428 : decode cL_law 428 = .ok (.iconst 2, 1) := by decide +kernel
theorem dL_law_429 : decode cL_law 429 = .ok (.iadd, 1) := by decide +kernel
theorem dL_law_430 : decode cL_law 430 = .ok (.iaload, 1) := by decide +kernel
theorem dL_law_431 : decode cL_law 431 = .ok (.aload_n 0, 1) := by decide +kernel
theorem dL_law_432 : decode cL_law 432 = .ok (.iload_n 3, 1) := by decide +kernel
theorem dL_law_433 : decode cL_law 433 = .ok (.iconst 3, 1) := by decide +kernel
theorem dL_law_434 : decode cL_law 434 = .ok (.iadd, 1) := by decide +kernel
theorem dL_law_435 : decode cL_law 435 = .ok (.iaload, 1) := by decide +kernel
theorem dL_law_436 : decode cL_law 436 = .ok (.invokevirtual 39, 3) := by decide +kernel
theorem dL_law_439 : decode cL_law 439 = .ok (.pop, 1) := by decide +kernel
theorem dL_law_440 : decode cL_law 440 = .ok (.aload_n 2, 1) := by decide +kernel
theorem dL_law_441 : decode cL_law 441 = .ok (.aload_n 0, 1) := by decide +kernel
theorem dL_law_442 : decode cL_law 442 = .ok (.iload_n 3, 1) := by decide +kernel
theorem dL_law_443 : decode cL_law 443 = .ok (.iconst 1, 1) := by decide +kernel
theorem dL_law_444 : decode cL_law 444 = .ok (.iadd, 1) := by decide +kernel
theorem dL_law_445 : decode cL_law 445 = .ok (.iaload, 1) := by decide +kernel
theorem dL_law_446 : decode cL_law 446 = .ok (.aload_n 0, 1) := by decide +kernel
theorem dL_law_447 : decode cL_law 447 = .ok (.iload_n 3, 1) := by decide +kernel
theorem dL_law_448 : decode cL_law 448 = .ok (.iconst 2, 1) := by decide +kernel
theorem dL_law_449 : decode cL_law 449 = .ok (.iadd, 1) := by decide +kernel
theorem dL_law_450 : decode cL_law 450 = .ok (.iaload, 1) := by decide +kernel
theorem dL_law_451 : decode cL_law 451 = .ok (.aload_n 0, 1) := by decide +kernel
theorem dL_law_452 : decode cL_law 452 = .ok (.iload_n 3, 1) := by decide +kernel
theorem dL_law_453 : decode cL_law 453 = .ok (.iconst 3, 1) := by decide +kernel
theorem dL_law_454 : decode cL_law 454 = .ok (.iadd, 1) := by decide +kernel
theorem dL_law_455 : decode cL_law 455 = .ok (.iaload, 1) := by decide +kernel
theorem dL_law_456 : decode cL_law 456 = .ok (.invokevirtual 42, 3) := by decide +kernel
theorem dL_law_459 : decode cL_law 459 = .ok (.pop, 1) := by decide +kernel
theorem dL_law_460 : decode cL_law 460 = .ok (.goto 955, 3) := by decide +kernel
theorem dL_law_463 : decode cL_law 463 = .ok (.aload_n 1, 1) := by decide +kernel
theorem dL_law_464 : decode cL_law 464 = .ok (.aload_n 0, 1) := by decide +kernel
theorem dL_law_465 : decode cL_law 465 = .ok (.iload_n 3, 1) := by decide +kernel
theorem dL_law_466 : decode cL_law 466 = .ok (.iconst 1, 1) := by decide +kernel
theorem dL_law_467 : decode cL_law 467 = .ok (.iadd, 1) := by decide +kernel
theorem dL_law_468 : decode cL_law 468 = .ok (.iaload, 1) := by decide +kernel
theorem dL_law_469 : decode cL_law 469 = .ok (.aload_n 0, 1) := by decide +kernel
theorem dL_law_470 : decode cL_law 470 = .ok (.iload_n 3, 1) := by decide +kernel
theorem dL_law_471 : decode cL_law 471 = .ok (.iconst 2, 1) := by decide +kernel
theorem dL_law_472 : decode cL_law 472 = .ok (.iadd, 1) := by decide +kernel
theorem dL_law_473 : decode cL_law 473 = .ok (.iaload, 1) := by decide +kernel
theorem dL_law_474 : decode cL_law 474 = .ok (.aload_n 0, 1) := by decide +kernel
theorem dL_law_475 : decode cL_law 475 = .ok (.iload_n 3, 1) := by decide +kernel
theorem dL_law_476 : decode cL_law 476 = .ok (.iconst 3, 1) := by decide +kernel
theorem dL_law_477 : decode cL_law 477 = .ok (.iadd, 1) := by decide +kernel
theorem dL_law_478 : decode cL_law 478 = .ok (.iaload, 1) := by decide +kernel
theorem dL_law_479 : decode cL_law 479 = .ok (.invokevirtual 43, 3) := by decide +kernel
theorem dL_law_482 : decode cL_law 482 = .ok (.pop, 1) := by decide +kernel
theorem dL_law_483 : decode cL_law 483 = .ok (.aload_n 2, 1) := by decide +kernel
theorem dL_law_484 : decode cL_law 484 = .ok (.aload_n 0, 1) := by decide +kernel
theorem dL_law_485 : decode cL_law 485 = .ok (.iload_n 3, 1) := by decide +kernel
theorem dL_law_486 : decode cL_law 486 = .ok (.iconst 1, 1) := by decide +kernel
theorem dL_law_487 : decode cL_law 487 = .ok (.iadd, 1) := by decide +kernel
theorem dL_law_488 : decode cL_law 488 = .ok (.iaload, 1) := by decide +kernel
theorem dL_law_489 : decode cL_law 489 = .ok (.aload_n 0, 1) := by decide +kernel
theorem dL_law_490 : decode cL_law 490 = .ok (.iload_n 3, 1) := by decide +kernel
theorem dL_law_491 : decode cL_law 491 = .ok (.iconst 2, 1) := by decide +kernel
theorem dL_law_492 : decode cL_law 492 = .ok (.iadd, 1) := by decide +kernel
theorem dL_law_493 : decode cL_law 493 = .ok (.iaload, 1) := by decide +kernel
theorem dL_law_494 : decode cL_law 494 = .ok (.aload_n 0, 1) := by decide +kernel
theorem dL_law_495 : decode cL_law 495 = .ok (.iload_n 3, 1) := by decide +kernel
theorem dL_law_496 : decode cL_law 496 = .ok (.iconst 3, 1) := by decide +kernel
theorem dL_law_497 : decode cL_law 497 = .ok (.iadd, 1) := by decide +kernel
theorem dL_law_498 : decode cL_law 498 = .ok (.iaload, 1) := by decide +kernel
theorem dL_law_499 : decode cL_law 499 = .ok (.invokevirtual 46, 3) := by decide +kernel
theorem dL_law_502 : decode cL_law 502 = .ok (.pop, 1) := by decide +kernel
theorem dL_law_503 : decode cL_law 503 = .ok (.goto 912, 3) := by decide +kernel
theorem dL_law_506 : decode cL_law 506 = .ok (.aload_n 1, 1) := by decide +kernel
theorem dL_law_507 : decode cL_law 507 = .ok (.aload_n 0, 1) := by decide +kernel
theorem dL_law_508 : decode cL_law 508 = .ok (.iload_n 3, 1) := by decide +kernel
theorem dL_law_509 : decode cL_law 509 = .ok (.iconst 1, 1) := by decide +kernel
theorem dL_law_510 : decode cL_law 510 = .ok (.iadd, 1) := by decide +kernel
theorem dL_law_511 : decode cL_law 511 = .ok (.iaload, 1) := by decide +kernel
theorem dL_law_512 : decode cL_law 512 = .ok (.aload_n 0, 1) := by decide +kernel
theorem dL_law_513 : decode cL_law 513 = .ok (.iload_n 3, 1) := by decide +kernel
theorem dL_law_514 : decode cL_law 514 = .ok (.iconst 2, 1) := by decide +kernel
theorem dL_law_515 : decode cL_law 515 = .ok (.iadd, 1) := by decide +kernel
theorem dL_law_516 : decode cL_law 516 = .ok (.iaload, 1) := by decide +kernel
theorem dL_law_517 : decode cL_law 517 = .ok (.aload_n 0, 1) := by decide +kernel
theorem dL_law_518 : decode cL_law 518 = .ok (.iload_n 3, 1) := by decide +kernel
theorem dL_law_519 : decode cL_law 519 = .ok (.iconst 3, 1) := by decide +kernel
theorem dL_law_520 : decode cL_law 520 = .ok (.iadd, 1) := by decide +kernel
theorem dL_law_521 : decode cL_law 521 = .ok (.iaload, 1) := by decide +kernel
theorem dL_law_522 : decode cL_law 522 = .ok (.aload_n 0, 1) := by decide +kernel
theorem dL_law_523 : decode cL_law 523 = .ok (.iload_n 3, 1) := by decide +kernel
theorem dL_law_524 : decode cL_law 524 = .ok (.iconst 4, 1) := by decide +kernel
theorem dL_law_525 : decode cL_law 525 = .ok (.iadd, 1) := by decide +kernel
theorem dL_law_526 : decode cL_law 526 = .ok (.iaload, 1) := by decide +kernel
theorem dL_law_527 : decode cL_law 527 = .ok (.invokevirtual 47, 3) := by decide +kernel
theorem dL_law_530 : decode cL_law 530 = .ok (.pop, 1) := by decide +kernel
theorem dL_law_531 : decode cL_law 531 = .ok (.aload_n 2, 1) := by decide +kernel
theorem dL_law_532 : decode cL_law 532 = .ok (.aload_n 0, 1) := by decide +kernel
theorem dL_law_533 : decode cL_law 533 = .ok (.iload_n 3, 1) := by decide +kernel
theorem dL_law_534 : decode cL_law 534 = .ok (.iconst 1, 1) := by decide +kernel
theorem dL_law_535 : decode cL_law 535 = .ok (.iadd, 1) := by decide +kernel
theorem dL_law_536 : decode cL_law 536 = .ok (.iaload, 1) := by decide +kernel
theorem dL_law_537 : decode cL_law 537 = .ok (.aload_n 0, 1) := by decide +kernel
theorem dL_law_538 : decode cL_law 538 = .ok (.iload_n 3, 1) := by decide +kernel
theorem dL_law_539 : decode cL_law 539 = .ok (.iconst 2, 1) := by decide +kernel
theorem dL_law_540 : decode cL_law 540 = .ok (.iadd, 1) := by decide +kernel
theorem dL_law_541 : decode cL_law 541 = .ok (.iaload, 1) := by decide +kernel
theorem dL_law_542 : decode cL_law 542 = .ok (.aload_n 0, 1) := by decide +kernel
theorem dL_law_543 : decode cL_law 543 = .ok (.iload_n 3, 1) := by decide +kernel
theorem dL_law_544 : decode cL_law 544 = .ok (.iconst 3, 1) := by decide +kernel
theorem dL_law_545 : decode cL_law 545 = .ok (.iadd, 1) := by decide +kernel
theorem dL_law_546 : decode cL_law 546 = .ok (.iaload, 1) := by decide +kernel
theorem dL_law_547 : decode cL_law 547 = .ok (.aload_n 0, 1) := by decide +kernel
theorem dL_law_548 : decode cL_law 548 = .ok (.iload_n 3, 1) := by decide +kernel
theorem dL_law_549 : decode cL_law 549 = .ok (.iconst 4, 1) := by decide +kernel
theorem dL_law_550 : decode cL_law 550 = .ok (.iadd, 1) := by decide +kernel
theorem dL_law_551 : decode cL_law 551 = .ok (.iaload, 1) := by decide +kernel
theorem dL_law_552 : decode cL_law 552 = .ok (.invokevirtual 51, 3) := by decide +kernel
theorem dL_law_555 : decode cL_law 555 = .ok (.pop, 1) := by decide +kernel
theorem dL_law_556 : decode cL_law 556 = .ok (.goto 859, 3) := by decide +kernel
theorem dL_law_559 : decode cL_law 559 = .ok (.aload_n 1, 1) := by decide +kernel
theorem dL_law_560 : decode cL_law 560 = .ok (.aload_n 0, 1) := by decide +kernel
theorem dL_law_561 : decode cL_law 561 = .ok (.iload_n 3, 1) := by decide +kernel
theorem dL_law_562 : decode cL_law 562 = .ok (.iconst 1, 1) := by decide +kernel
theorem dL_law_563 : decode cL_law 563 = .ok (.iadd, 1) := by decide +kernel
theorem dL_law_564 : decode cL_law 564 = .ok (.iaload, 1) := by decide +kernel
theorem dL_law_565 : decode cL_law 565 = .ok (.aload_n 0, 1) := by decide +kernel
theorem dL_law_566 : decode cL_law 566 = .ok (.iload_n 3, 1) := by decide +kernel
theorem dL_law_567 : decode cL_law 567 = .ok (.iconst 2, 1) := by decide +kernel
theorem dL_law_568 : decode cL_law 568 = .ok (.iadd, 1) := by decide +kernel
theorem dL_law_569 : decode cL_law 569 = .ok (.iaload, 1) := by decide +kernel
theorem dL_law_570 : decode cL_law 570 = .ok (.invokevirtual 52, 3) := by decide +kernel
theorem dL_law_573 : decode cL_law 573 = .ok (.pop, 1) := by decide +kernel
theorem dL_law_574 : decode cL_law 574 = .ok (.aload_n 2, 1) := by decide +kernel
theorem dL_law_575 : decode cL_law 575 = .ok (.aload_n 0, 1) := by decide +kernel
theorem dL_law_576 : decode cL_law 576 = .ok (.iload_n 3, 1) := by decide +kernel
theorem dL_law_577 : decode cL_law 577 = .ok (.iconst 1, 1) := by decide +kernel
theorem dL_law_578 : decode cL_law 578 = .ok (.iadd, 1) := by decide +kernel
theorem dL_law_579 : decode cL_law 579 = .ok (.iaload, 1) := by decide +kernel
theorem dL_law_580 : decode cL_law 580 = .ok (.aload_n 0, 1) := by decide +kernel
theorem dL_law_581 : decode cL_law 581 = .ok (.iload_n 3, 1) := by decide +kernel
theorem dL_law_582 : decode cL_law 582 = .ok (.iconst 2, 1) := by decide +kernel
theorem dL_law_583 : decode cL_law 583 = .ok (.iadd, 1) := by decide +kernel
theorem dL_law_584 : decode cL_law 584 = .ok (.iaload, 1) := by decide +kernel
theorem dL_law_585 : decode cL_law 585 = .ok (.invokevirtual 55, 3) := by decide +kernel
theorem dL_law_588 : decode cL_law 588 = .ok (.pop, 1) := by decide +kernel
theorem dL_law_589 : decode cL_law 589 = .ok (.goto 826, 3) := by decide +kernel
theorem dL_law_592 : decode cL_law 592 = .ok (.aload_n 1, 1) := by decide +kernel
theorem dL_law_593 : decode cL_law 593 = .ok (.aload_n 0, 1) := by decide +kernel
theorem dL_law_594 : decode cL_law 594 = .ok (.iload_n 3, 1) := by decide +kernel
theorem dL_law_595 : decode cL_law 595 = .ok (.iconst 1, 1) := by decide +kernel
theorem dL_law_596 : decode cL_law 596 = .ok (.iadd, 1) := by decide +kernel
theorem dL_law_597 : decode cL_law 597 = .ok (.iaload, 1) := by decide +kernel
theorem dL_law_598 : decode cL_law 598 = .ok (.aload_n 0, 1) := by decide +kernel
theorem dL_law_599 : decode cL_law 599 = .ok (.iload_n 3, 1) := by decide +kernel
theorem dL_law_600 : decode cL_law 600 = .ok (.iconst 2, 1) := by decide +kernel
theorem dL_law_601 : decode cL_law 601 = .ok (.iadd, 1) := by decide +kernel
theorem dL_law_602 : decode cL_law 602 = .ok (.iaload, 1) := by decide +kernel
theorem dL_law_603 : decode cL_law 603 = .ok (.aload_n 0, 1) := by decide +kernel
theorem dL_law_604 : decode cL_law 604 = .ok (.iload_n 3, 1) := by decide +kernel
theorem dL_law_605 : decode cL_law 605 = .ok (.iconst 3, 1) := by decide +kernel
theorem dL_law_606 : decode cL_law 606 = .ok (.iadd, 1) := by decide +kernel
theorem dL_law_607 : decode cL_law 607 = .ok (.iaload, 1) := by decide +kernel
theorem dL_law_608 : decode cL_law 608 = .ok (.aload_n 0, 1) := by decide +kernel
theorem dL_law_609 : decode cL_law 609 = .ok (.iload_n 3, 1) := by decide +kernel
theorem dL_law_610 : decode cL_law 610 = .ok (.iconst 4, 1) := by decide +kernel
theorem dL_law_611 : decode cL_law 611 = .ok (.iadd, 1) := by decide +kernel
theorem dL_law_612 : decode cL_law 612 = .ok (.iaload, 1) := by decide +kernel
theorem dL_law_613 : decode cL_law 613 = .ok (.aload_n 0, 1) := by decide +kernel
theorem dL_law_614 : decode cL_law 614 = .ok (.iload_n 3, 1) := by decide +kernel
theorem dL_law_615 : decode cL_law 615 = .ok (.iconst 5, 1) := by decide +kernel
theorem dL_law_616 : decode cL_law 616 = .ok (.iadd, 1) := by decide +kernel
theorem dL_law_617 : decode cL_law 617 = .ok (.iaload, 1) := by decide +kernel
theorem dL_law_618 : decode cL_law 618 = .ok (.invokevirtual 56, 3) := by decide +kernel
theorem dL_law_621 : decode cL_law 621 = .ok (.pop, 1) := by decide +kernel
theorem dL_law_622 : decode cL_law 622 = .ok (.aload_n 2, 1) := by decide +kernel
theorem dL_law_623 : decode cL_law 623 = .ok (.aload_n 0, 1) := by decide +kernel
theorem dL_law_624 : decode cL_law 624 = .ok (.iload_n 3, 1) := by decide +kernel
theorem dL_law_625 : decode cL_law 625 = .ok (.iconst 1, 1) := by decide +kernel
theorem dL_law_626 : decode cL_law 626 = .ok (.iadd, 1) := by decide +kernel
theorem dL_law_627 : decode cL_law 627 = .ok (.iaload, 1) := by decide +kernel
theorem dL_law_628 : decode cL_law 628 = .ok (.aload_n 0, 1) := by decide +kernel
theorem dL_law_629 : decode cL_law 629 = .ok (.iload_n 3, 1) := by decide +kernel
theorem dL_law_630 : decode cL_law 630 = .ok (.iconst 2, 1) := by decide +kernel
theorem dL_law_631 : decode cL_law 631 = .ok (.iadd, 1) := by decide +kernel
theorem dL_law_632 : decode cL_law 632 = .ok (.iaload, 1) := by decide +kernel
theorem dL_law_633 : decode cL_law 633 = .ok (.aload_n 0, 1) := by decide +kernel
theorem dL_law_634 : decode cL_law 634 = .ok (.iload_n 3, 1) := by decide +kernel
theorem dL_law_635 : decode cL_law 635 = .ok (.iconst 3, 1) := by decide +kernel
theorem dL_law_636 : decode cL_law 636 = .ok (.iadd, 1) := by decide +kernel
theorem dL_law_637 : decode cL_law 637 = .ok (.iaload, 1) := by decide +kernel
theorem dL_law_638 : decode cL_law 638 = .ok (.aload_n 0, 1) := by decide +kernel
theorem dL_law_639 : decode cL_law 639 = .ok (.iload_n 3, 1) := by decide +kernel
theorem dL_law_640 : decode cL_law 640 = .ok (.iconst 4, 1) := by decide +kernel
theorem dL_law_641 : decode cL_law 641 = .ok (.iadd, 1) := by decide +kernel
theorem dL_law_642 : decode cL_law 642 = .ok (.iaload, 1) := by decide +kernel
theorem dL_law_643 : decode cL_law 643 = .ok (.aload_n 0, 1) := by decide +kernel
theorem dL_law_644 : decode cL_law 644 = .ok (.iload_n 3, 1) := by decide +kernel
theorem dL_law_645 : decode cL_law 645 = .ok (.iconst 5, 1) := by decide +kernel
theorem dL_law_646 : decode cL_law 646 = .ok (.iadd, 1) := by decide +kernel
theorem dL_law_647 : decode cL_law 647 = .ok (.iaload, 1) := by decide +kernel
theorem dL_law_648 : decode cL_law 648 = .ok (.invokevirtual 60, 3) := by decide +kernel
theorem dL_law_651 : decode cL_law 651 = .ok (.pop, 1) := by decide +kernel
theorem dL_law_652 : decode cL_law 652 = .ok (.goto 763, 3) := by decide +kernel
theorem dL_law_655 : decode cL_law 655 = .ok (.aload_n 1, 1) := by decide +kernel
theorem dL_law_656 : decode cL_law 656 = .ok (.aload_n 0, 1) := by decide +kernel
theorem dL_law_657 : decode cL_law 657 = .ok (.iload_n 3, 1) := by decide +kernel
theorem dL_law_658 : decode cL_law 658 = .ok (.iconst 1, 1) := by decide +kernel
theorem dL_law_659 : decode cL_law 659 = .ok (.iadd, 1) := by decide +kernel
theorem dL_law_660 : decode cL_law 660 = .ok (.iaload, 1) := by decide +kernel
theorem dL_law_661 : decode cL_law 661 = .ok (.invokevirtual 61, 3) := by decide +kernel
theorem dL_law_664 : decode cL_law 664 = .ok (.pop, 1) := by decide +kernel
theorem dL_law_665 : decode cL_law 665 = .ok (.aload_n 2, 1) := by decide +kernel
theorem dL_law_666 : decode cL_law 666 = .ok (.aload_n 0, 1) := by decide +kernel
theorem dL_law_667 : decode cL_law 667 = .ok (.iload_n 3, 1) := by decide +kernel
theorem dL_law_668 : decode cL_law 668 = .ok (.iconst 1, 1) := by decide +kernel
theorem dL_law_669 : decode cL_law 669 = .ok (.iadd, 1) := by decide +kernel
theorem dL_law_670 : decode cL_law 670 = .ok (.iaload, 1) := by decide +kernel
theorem dL_law_671 : decode cL_law 671 = .ok (.invokevirtual 65, 3) := by decide +kernel
theorem dL_law_674 : decode cL_law 674 = .ok (.pop, 1) := by decide +kernel
theorem dL_law_675 : decode cL_law 675 = .ok (.goto 740, 3) := by decide +kernel
theorem dL_law_678 : decode cL_law 678 = .ok (.aload_n 1, 1) := by decide +kernel
theorem dL_law_679 : decode cL_law 679 = .ok (.invokevirtual 66, 3) := by decide +kernel
theorem dL_law_682 : decode cL_law 682 = .ok (.pop, 1) := by decide +kernel
theorem dL_law_683 : decode cL_law 683 = .ok (.aload_n 2, 1) := by decide +kernel
theorem dL_law_684 : decode cL_law 684 = .ok (.invokevirtual 70, 3) := by decide +kernel
theorem dL_law_687 : decode cL_law 687 = .ok (.pop, 1) := by decide +kernel
theorem dL_law_688 : decode cL_law 688 = .ok (.goto 727, 3) := by decide +kernel
theorem dL_law_691 : decode cL_law 691 = .ok (.aload_n 1, 1) := by decide +kernel
theorem dL_law_692 : decode cL_law 692 = .ok (.invokevirtual 71, 3) := by decide +kernel
theorem dL_law_695 : decode cL_law 695 = .ok (.pop, 1) := by decide +kernel
theorem dL_law_696 : decode cL_law 696 = .ok (.aload_n 2, 1) := by decide +kernel
theorem dL_law_697 : decode cL_law 697 = .ok (.invokevirtual 74, 3) := by decide +kernel
theorem dL_law_700 : decode cL_law 700 = .ok (.pop, 1) := by decide +kernel
theorem dL_law_701 : decode cL_law 701 = .ok (.goto 714, 3) := by decide +kernel
theorem dL_law_704 : decode cL_law 704 = .ok (.aload_n 1, 1) := by decide +kernel
theorem dL_law_705 : decode cL_law 705 = .ok (.invokevirtual 75, 3) := by decide +kernel
theorem dL_law_708 : decode cL_law 708 = .ok (.pop, 1) := by decide +kernel
theorem dL_law_709 : decode cL_law 709 = .ok (.aload_n 2, 1) := by decide +kernel
theorem dL_law_710 : decode cL_law 710 = .ok (.invokevirtual 78, 3) := by decide +kernel
theorem dL_law_713 : decode cL_law 713 = .ok (.pop, 1) := by decide +kernel
theorem dL_law_714 : decode cL_law 714 = .ok (.goto 701, 3) := by decide +kernel
theorem dL_law_717 : decode cL_law 717 = .ok (.aload_n 1, 1) := by decide +kernel
theorem dL_law_718 : decode cL_law 718 = .ok (.invokevirtual 79, 3) := by decide +kernel
theorem dL_law_721 : decode cL_law 721 = .ok (.pop, 1) := by decide +kernel
theorem dL_law_722 : decode cL_law 722 = .ok (.aload_n 2, 1) := by decide +kernel
theorem dL_law_723 : decode cL_law 723 = .ok (.invokevirtual 82, 3) := by decide +kernel
theorem dL_law_726 : decode cL_law 726 = .ok (.pop, 1) := by decide +kernel
theorem dL_law_727 : decode cL_law 727 = .ok (.goto 688, 3) := by decide +kernel
theorem dL_law_730 : decode cL_law 730 = .ok (.aload_n 1, 1) := by decide +kernel
theorem dL_law_731 : decode cL_law 731 = .ok (.invokevirtual 83, 3) := by decide +kernel
theorem dL_law_734 : decode cL_law 734 = .ok (.aload_n 2, 1) := by decide +kernel
theorem dL_law_735 : decode cL_law 735 = .ok (.invokevirtual 86, 3) := by decide +kernel
theorem dL_law_738 : decode cL_law 738 = .ok (.if_icmp .eq 677, 3) := by decide +kernel
theorem dL_law_741 : decode cL_law 741 = .ok (.iconst 0, 1) := by decide +kernel
theorem dL_law_742 : decode cL_law 742 = .ok (.ireturn, 1) := by decide +kernel
theorem dL_law_743 : decode cL_law 743 = .ok (.aload_n 1, 1) := by decide +kernel
theorem dL_law_744 : decode cL_law 744 = .ok (.invokevirtual 87, 3) := by decide +kernel
theorem dL_law_747 : decode cL_law 747 = .ok (.pop, 1) := by decide +kernel
theorem dL_law_748 : decode cL_law 748 = .ok (.aload_n 2, 1) := by decide +kernel
theorem dL_law_749 : decode cL_law 749 = .ok (.invokevirtual 90, 3) := by decide +kernel
theorem dL_law_752 : decode cL_law 752 = .ok (.pop, 1) := by decide +kernel
theorem dL_law_753 : decode cL_law 753 = .ok (.goto 662, 3) := by decide +kernel
theorem dL_law_756 : decode cL_law 756 = .ok (.aload_n 1, 1) := by decide +kernel
theorem dL_law_757 : decode cL_law 757 = .ok (.aload_n 0, 1) := by decide +kernel
theorem dL_law_758 : decode cL_law 758 = .ok (.iload_n 3, 1) := by decide +kernel
theorem dL_law_759 : decode cL_law 759 = .ok (.iconst 1, 1) := by decide +kernel
theorem dL_law_760 : decode cL_law 760 = .ok (.iadd, 1) := by decide +kernel
theorem dL_law_761 : decode cL_law 761 = .ok (.iaload, 1) := by decide +kernel
theorem dL_law_762 : decode cL_law 762 = .ok (.invokevirtual 91, 3) := by decide +kernel
theorem dL_law_765 : decode cL_law 765 = .ok (.pop, 1) := by decide +kernel
theorem dL_law_766 : decode cL_law 766 = .ok (.aload_n 2, 1) := by decide +kernel
theorem dL_law_767 : decode cL_law 767 = .ok (.aload_n 0, 1) := by decide +kernel
theorem dL_law_768 : decode cL_law 768 = .ok (.iload_n 3, 1) := by decide +kernel
theorem dL_law_769 : decode cL_law 769 = .ok (.iconst 1, 1) := by decide +kernel
theorem dL_law_770 : decode cL_law 770 = .ok (.iadd, 1) := by decide +kernel
theorem dL_law_771 : decode cL_law 771 = .ok (.iaload, 1) := by decide +kernel
theorem dL_law_772 : decode cL_law 772 = .ok (.invokevirtual 94, 3) := by decide +kernel
theorem dL_law_775 : decode cL_law 775 = .ok (.pop, 1) := by decide +kernel
theorem dL_law_776 : decode cL_law 776 = .ok (.goto 639, 3) := by decide +kernel
theorem dL_law_779 : decode cL_law 779 = .ok (.aload_n 1, 1) := by decide +kernel
theorem dL_law_780 : decode cL_law 780 = .ok (.aload_n 0, 1) := by decide +kernel
theorem dL_law_781 : decode cL_law 781 = .ok (.iload_n 3, 1) := by decide +kernel
theorem dL_law_782 : decode cL_law 782 = .ok (.iconst 1, 1) := by decide +kernel
theorem dL_law_783 : decode cL_law 783 = .ok (.iadd, 1) := by decide +kernel
theorem dL_law_784 : decode cL_law 784 = .ok (.iaload, 1) := by decide +kernel
theorem dL_law_785 : decode cL_law 785 = .ok (.aload_n 0, 1) := by decide +kernel
theorem dL_law_786 : decode cL_law 786 = .ok (.iload_n 3, 1) := by decide +kernel
theorem dL_law_787 : decode cL_law 787 = .ok (.iconst 2, 1) := by decide +kernel
theorem dL_law_788 : decode cL_law 788 = .ok (.iadd, 1) := by decide +kernel
theorem dL_law_789 : decode cL_law 789 = .ok (.iaload, 1) := by decide +kernel
theorem dL_law_790 : decode cL_law 790 = .ok (.invokevirtual 95, 3) := by decide +kernel
theorem dL_law_793 : decode cL_law 793 = .ok (.pop, 1) := by decide +kernel
theorem dL_law_794 : decode cL_law 794 = .ok (.aload_n 2, 1) := by decide +kernel
theorem dL_law_795 : decode cL_law 795 = .ok (.aload_n 0, 1) := by decide +kernel
theorem dL_law_796 : decode cL_law 796 = .ok (.iload_n 3, 1) := by decide +kernel
theorem dL_law_797 : decode cL_law 797 = .ok (.iconst 1, 1) := by decide +kernel
theorem dL_law_798 : decode cL_law 798 = .ok (.iadd, 1) := by decide +kernel
theorem dL_law_799 : decode cL_law 799 = .ok (.iaload, 1) := by decide +kernel
theorem dL_law_800 : decode cL_law 800 = .ok (.aload_n 0, 1) := by decide +kernel
theorem dL_law_801 : decode cL_law 801 = .ok (.iload_n 3, 1) := by decide +kernel
theorem dL_law_802 : decode cL_law 802 = .ok (.iconst 2, 1) := by decide +kernel
theorem dL_law_803 : decode cL_law 803 = .ok (.iadd, 1) := by decide +kernel
theorem dL_law_804 : decode cL_law 804 = .ok (.iaload, 1) := by decide +kernel
theorem dL_law_805 : decode cL_law 805 = .ok (.invokevirtual 98, 3) := by decide +kernel
theorem dL_law_808 : decode cL_law 808 = .ok (.pop, 1) := by decide +kernel
theorem dL_law_809 : decode cL_law 809 = .ok (.goto 606, 3) := by decide +kernel
theorem dL_law_812 : decode cL_law 812 = .ok (.aload_n 1, 1) := by decide +kernel
theorem dL_law_813 : decode cL_law 813 = .ok (.aload_n 0, 1) := by decide +kernel
theorem dL_law_814 : decode cL_law 814 = .ok (.iload_n 3, 1) := by decide +kernel
theorem dL_law_815 : decode cL_law 815 = .ok (.iconst 1, 1) := by decide +kernel
theorem dL_law_816 : decode cL_law 816 = .ok (.iadd, 1) := by decide +kernel
theorem dL_law_817 : decode cL_law 817 = .ok (.iaload, 1) := by decide +kernel
theorem dL_law_818 : decode cL_law 818 = .ok (.aload_n 0, 1) := by decide +kernel
theorem dL_law_819 : decode cL_law 819 = .ok (.iload_n 3, 1) := by decide +kernel
theorem dL_law_820 : decode cL_law 820 = .ok (.iconst 2, 1) := by decide +kernel
theorem dL_law_821 : decode cL_law 821 = .ok (.iadd, 1) := by decide +kernel
theorem dL_law_822 : decode cL_law 822 = .ok (.iaload, 1) := by decide +kernel
theorem dL_law_823 : decode cL_law 823 = .ok (.aload_n 0, 1) := by decide +kernel
theorem dL_law_824 : decode cL_law 824 = .ok (.iload_n 3, 1) := by decide +kernel
theorem dL_law_825 : decode cL_law 825 = .ok (.iconst 3, 1) := by decide +kernel
theorem dL_law_826 : decode cL_law 826 = .ok (.iadd, 1) := by decide +kernel
theorem dL_law_827 : decode cL_law 827 = .ok (.iaload, 1) := by decide +kernel
theorem dL_law_828 : decode cL_law 828 = .ok (.invokevirtual 99, 3) := by decide +kernel
theorem dL_law_831 : decode cL_law 831 = .ok (.pop, 1) := by decide +kernel
theorem dL_law_832 : decode cL_law 832 = .ok (.aload_n 2, 1) := by decide +kernel
theorem dL_law_833 : decode cL_law 833 = .ok (.aload_n 0, 1) := by decide +kernel
theorem dL_law_834 : decode cL_law 834 = .ok (.iload_n 3, 1) := by decide +kernel
theorem dL_law_835 : decode cL_law 835 = .ok (.iconst 1, 1) := by decide +kernel
theorem dL_law_836 : decode cL_law 836 = .ok (.iadd, 1) := by decide +kernel
theorem dL_law_837 : decode cL_law 837 = .ok (.iaload, 1) := by decide +kernel
theorem dL_law_838 : decode cL_law 838 = .ok (.aload_n 0, 1) := by decide +kernel
theorem dL_law_839 : decode cL_law 839 = .ok (.iload_n 3, 1) := by decide +kernel
theorem dL_law_840 : decode cL_law 840 = .ok (.iconst 2, 1) := by decide +kernel
theorem dL_law_841 : decode cL_law 841 = .ok (.iadd, 1) := by decide +kernel
theorem dL_law_842 : decode cL_law 842 = .ok (.iaload, 1) := by decide +kernel
theorem dL_law_843 : decode cL_law 843 = .ok (.aload_n 0, 1) := by decide +kernel
theorem dL_law_844 : decode cL_law 844 = .ok (.iload_n 3, 1) := by decide +kernel
theorem dL_law_845 : decode cL_law 845 = .ok (.iconst 3, 1) := by decide +kernel
theorem dL_law_846 : decode cL_law 846 = .ok (.iadd, 1) := by decide +kernel
theorem dL_law_847 : decode cL_law 847 = .ok (.iaload, 1) := by decide +kernel
theorem dL_law_848 : decode cL_law 848 = .ok (.invokevirtual 102, 3) := by decide +kernel
theorem dL_law_851 : decode cL_law 851 = .ok (.pop, 1) := by decide +kernel
theorem dL_law_852 : decode cL_law 852 = .ok (.goto 563, 3) := by decide +kernel
theorem dL_law_855 : decode cL_law 855 = .ok (.aload_n 1, 1) := by decide +kernel
theorem dL_law_856 : decode cL_law 856 = .ok (.aload_n 0, 1) := by decide +kernel
theorem dL_law_857 : decode cL_law 857 = .ok (.iload_n 3, 1) := by decide +kernel
theorem dL_law_858 : decode cL_law 858 = .ok (.iconst 1, 1) := by decide +kernel
theorem dL_law_859 : decode cL_law 859 = .ok (.iadd, 1) := by decide +kernel
theorem dL_law_860 : decode cL_law 860 = .ok (.iaload, 1) := by decide +kernel
theorem dL_law_861 : decode cL_law 861 = .ok (.invokevirtual 103, 3) := by decide +kernel
theorem dL_law_864 : decode cL_law 864 = .ok (.pop, 1) := by decide +kernel
theorem dL_law_865 : decode cL_law 865 = .ok (.aload_n 2, 1) := by decide +kernel
theorem dL_law_866 : decode cL_law 866 = .ok (.aload_n 0, 1) := by decide +kernel
theorem dL_law_867 : decode cL_law 867 = .ok (.iload_n 3, 1) := by decide +kernel
theorem dL_law_868 : decode cL_law 868 = .ok (.iconst 1, 1) := by decide +kernel
theorem dL_law_869 : decode cL_law 869 = .ok (.iadd, 1) := by decide +kernel
theorem dL_law_870 : decode cL_law 870 = .ok (.iaload, 1) := by decide +kernel
theorem dL_law_871 : decode cL_law 871 = .ok (.invokevirtual 106, 3) := by decide +kernel
theorem dL_law_874 : decode cL_law 874 = .ok (.pop, 1) := by decide +kernel
theorem dL_law_875 : decode cL_law 875 = .ok (.goto 540, 3) := by decide +kernel
theorem dL_law_878 : decode cL_law 878 = .ok (.aload_n 1, 1) := by decide +kernel
theorem dL_law_879 : decode cL_law 879 = .ok (.invokevirtual 107, 3) := by decide +kernel
theorem dL_law_882 : decode cL_law 882 = .ok (.pop, 1) := by decide +kernel
theorem dL_law_883 : decode cL_law 883 = .ok (.aload_n 2, 1) := by decide +kernel
theorem dL_law_884 : decode cL_law 884 = .ok (.invokevirtual 110, 3) := by decide +kernel
theorem dL_law_887 : decode cL_law 887 = .ok (.pop, 1) := by decide +kernel
theorem dL_law_888 : decode cL_law 888 = .ok (.goto 527, 3) := by decide +kernel
theorem dL_law_891 : decode cL_law 891 = .ok (.aload_n 1, 1) := by decide +kernel
theorem dL_law_892 : decode cL_law 892 = .ok (.invokevirtual 111, 3) := by decide +kernel
theorem dL_law_895 : decode cL_law 895 = .ok (.pop, 1) := by decide +kernel
theorem dL_law_896 : decode cL_law 896 = .ok (.aload_n 2, 1) := by decide +kernel
theorem dL_law_897 : decode cL_law 897 = .ok (.invokevirtual 114, 3) := by decide +kernel
theorem dL_law_900 : decode cL_law 900 = .ok (.pop, 1) := by decide +kernel
theorem dL_law_901 : decode cL_law 901 = .ok (.goto 514, 3) := by decide +kernel
theorem dL_law_904 : decode cL_law 904 = .ok (.aload_n 1, 1) := by decide +kernel
theorem dL_law_905 : decode cL_law 905 = .ok (.aload_n 0, 1) := by decide +kernel
theorem dL_law_906 : decode cL_law 906 = .ok (.iload_n 3, 1) := by decide +kernel
theorem dL_law_907 : decode cL_law 907 = .ok (.iconst 1, 1) := by decide +kernel
theorem dL_law_908 : decode cL_law 908 = .ok (.iadd, 1) := by decide +kernel
theorem dL_law_909 : decode cL_law 909 = .ok (.iaload, 1) := by decide +kernel
theorem dL_law_910 : decode cL_law 910 = .ok (.aload_n 0, 1) := by decide +kernel
theorem dL_law_911 : decode cL_law 911 = .ok (.iload_n 3, 1) := by decide +kernel
theorem dL_law_912 : decode cL_law 912 = .ok (.iconst 2, 1) := by decide +kernel
theorem dL_law_913 : decode cL_law 913 = .ok (.iadd, 1) := by decide +kernel
theorem dL_law_914 : decode cL_law 914 = .ok (.iaload, 1) := by decide +kernel
theorem dL_law_915 : decode cL_law 915 = .ok (.aload_n 0, 1) := by decide +kernel
theorem dL_law_916 : decode cL_law 916 = .ok (.iload_n 3, 1) := by decide +kernel
theorem dL_law_917 : decode cL_law 917 = .ok (.iconst 3, 1) := by decide +kernel
theorem dL_law_918 : decode cL_law 918 = .ok (.iadd, 1) := by decide +kernel
theorem dL_law_919 : decode cL_law 919 = .ok (.iaload, 1) := by decide +kernel
theorem dL_law_920 : decode cL_law 920 = .ok (.invokevirtual 115, 3) := by decide +kernel
theorem dL_law_923 : decode cL_law 923 = .ok (.pop, 1) := by decide +kernel
theorem dL_law_924 : decode cL_law 924 = .ok (.aload_n 2, 1) := by decide +kernel
theorem dL_law_925 : decode cL_law 925 = .ok (.aload_n 0, 1) := by decide +kernel
theorem dL_law_926 : decode cL_law 926 = .ok (.iload_n 3, 1) := by decide +kernel
theorem dL_law_927 : decode cL_law 927 = .ok (.iconst 1, 1) := by decide +kernel
theorem dL_law_928 : decode cL_law 928 = .ok (.iadd, 1) := by decide +kernel
theorem dL_law_929 : decode cL_law 929 = .ok (.iaload, 1) := by decide +kernel
theorem dL_law_930 : decode cL_law 930 = .ok (.aload_n 0, 1) := by decide +kernel
theorem dL_law_931 : decode cL_law 931 = .ok (.iload_n 3, 1) := by decide +kernel
theorem dL_law_932 : decode cL_law 932 = .ok (.iconst 2, 1) := by decide +kernel
theorem dL_law_933 : decode cL_law 933 = .ok (.iadd, 1) := by decide +kernel
theorem dL_law_934 : decode cL_law 934 = .ok (.iaload, 1) := by decide +kernel
theorem dL_law_935 : decode cL_law 935 = .ok (.aload_n 0, 1) := by decide +kernel
theorem dL_law_936 : decode cL_law 936 = .ok (.iload_n 3, 1) := by decide +kernel
theorem dL_law_937 : decode cL_law 937 = .ok (.iconst 3, 1) := by decide +kernel
theorem dL_law_938 : decode cL_law 938 = .ok (.iadd, 1) := by decide +kernel
theorem dL_law_939 : decode cL_law 939 = .ok (.iaload, 1) := by decide +kernel
theorem dL_law_940 : decode cL_law 940 = .ok (.invokevirtual 118, 3) := by decide +kernel
theorem dL_law_943 : decode cL_law 943 = .ok (.pop, 1) := by decide +kernel
theorem dL_law_944 : decode cL_law 944 = .ok (.goto 471, 3) := by decide +kernel
theorem dL_law_947 : decode cL_law 947 = .ok (.aload_n 1, 1) := by decide +kernel
theorem dL_law_948 : decode cL_law 948 = .ok (.aload_n 0, 1) := by decide +kernel
theorem dL_law_949 : decode cL_law 949 = .ok (.iload_n 3, 1) := by decide +kernel
theorem dL_law_950 : decode cL_law 950 = .ok (.iconst 1, 1) := by decide +kernel
theorem dL_law_951 : decode cL_law 951 = .ok (.iadd, 1) := by decide +kernel
theorem dL_law_952 : decode cL_law 952 = .ok (.iaload, 1) := by decide +kernel
theorem dL_law_953 : decode cL_law 953 = .ok (.invokevirtual 119, 3) := by decide +kernel
theorem dL_law_956 : decode cL_law 956 = .ok (.pop, 1) := by decide +kernel
theorem dL_law_957 : decode cL_law 957 = .ok (.aload_n 2, 1) := by decide +kernel
theorem dL_law_958 : decode cL_law 958 = .ok (.aload_n 0, 1) := by decide +kernel
theorem dL_law_959 : decode cL_law 959 = .ok (.iload_n 3, 1) := by decide +kernel
theorem dL_law_960 : decode cL_law 960 = .ok (.iconst 1, 1) := by decide +kernel
theorem dL_law_961 : decode cL_law 961 = .ok (.iadd, 1) := by decide +kernel
theorem dL_law_962 : decode cL_law 962 = .ok (.iaload, 1) := by decide +kernel
theorem dL_law_963 : decode cL_law 963 = .ok (.invokevirtual 122, 3) := by decide +kernel
theorem dL_law_966 : decode cL_law 966 = .ok (.pop, 1) := by decide +kernel
theorem dL_law_967 : decode cL_law 967 = .ok (.goto 448, 3) := by decide +kernel
theorem dL_law_970 : decode cL_law 970 = .ok (.aload_n 1, 1) := by decide +kernel
theorem dL_law_971 : decode cL_law 971 = .ok (.aload_n 0, 1) := by decide +kernel
theorem dL_law_972 : decode cL_law 972 = .ok (.iload_n 3, 1) := by decide +kernel
theorem dL_law_973 : decode cL_law 973 = .ok (.iconst 1, 1) := by decide +kernel
theorem dL_law_974 : decode cL_law 974 = .ok (.iadd, 1) := by decide +kernel
theorem dL_law_975 : decode cL_law 975 = .ok (.iaload, 1) := by decide +kernel
theorem dL_law_976 : decode cL_law 976 = .ok (.aload_n 0, 1) := by decide +kernel
theorem dL_law_977 : decode cL_law 977 = .ok (.iload_n 3, 1) := by decide +kernel
theorem dL_law_978 : decode cL_law 978 = .ok (.iconst 2, 1) := by decide +kernel
theorem dL_law_979 : decode cL_law 979 = .ok (.iadd, 1) := by decide +kernel
theorem dL_law_980 : decode cL_law 980 = .ok (.iaload, 1) := by decide +kernel
theorem dL_law_981 : decode cL_law 981 = .ok (.invokevirtual 123, 3) := by decide +kernel
theorem dL_law_984 : decode cL_law 984 = .ok (.pop, 1) := by decide +kernel
theorem dL_law_985 : decode cL_law 985 = .ok (.aload_n 2, 1) := by decide +kernel
theorem dL_law_986 : decode cL_law 986 = .ok (.aload_n 0, 1) := by decide +kernel
theorem dL_law_987 : decode cL_law 987 = .ok (.iload_n 3, 1) := by decide +kernel
theorem dL_law_988 : decode cL_law 988 = .ok (.iconst 1, 1) := by decide +kernel
theorem dL_law_989 : decode cL_law 989 = .ok (.iadd, 1) := by decide +kernel
theorem dL_law_990 : decode cL_law 990 = .ok (.iaload, 1) := by decide +kernel
theorem dL_law_991 : decode cL_law 991 = .ok (.aload_n 0, 1) := by decide +kernel
theorem dL_law_992 : decode cL_law 992 = .ok (.iload_n 3, 1) := by decide +kernel
theorem dL_law_993 : decode cL_law 993 = .ok (.iconst 2, 1) := by decide +kernel
theorem dL_law_994 : decode cL_law 994 = .ok (.iadd, 1) := by decide +kernel
theorem dL_law_995 : decode cL_law 995 = .ok (.iaload, 1) := by decide +kernel
theorem dL_law_996 : decode cL_law 996 = .ok (.invokevirtual 126, 3) := by decide +kernel
theorem dL_law_999 : decode cL_law 999 = .ok (.pop, 1) := by decide +kernel
theorem dL_law_1000 : decode cL_law 1000 = .ok (.goto 415, 3) := by decide +kernel
theorem dL_law_1003 : decode cL_law 1003 = .ok (.aload_n 1, 1) := by decide +kernel
theorem dL_law_1004 : decode cL_law 1004 = .ok (.invokevirtual 127, 3) := by decide +kernel
theorem dL_law_1007 : decode cL_law 1007 = .ok (.pop, 1) := by decide +kernel
theorem dL_law_1008 : decode cL_law 1008 = .ok (.aload_n 2, 1) := by decide +kernel
theorem dL_law_1009 : decode cL_law 1009 = .ok (.invokevirtual 130, 3) := by decide +kernel
theorem dL_law_1012 : decode cL_law 1012 = .ok (.pop, 1) := by decide +kernel
theorem dL_law_1013 : decode cL_law 1013 = .ok (.goto 402, 3) := by decide +kernel
theorem dL_law_1016 : decode cL_law 1016 = .ok (.aload_n 1, 1) := by decide +kernel
theorem dL_law_1017 : decode cL_law 1017 = .ok (.invokevirtual 131, 3) := by decide +kernel
theorem dL_law_1020 : decode cL_law 1020 = .ok (.pop, 1) := by decide +kernel
theorem dL_law_1021 : decode cL_law 1021 = .ok (.aload_n 2, 1) := by decide +kernel
theorem dL_law_1022 : decode cL_law 1022 = .ok (.invokevirtual 134, 3) := by decide +kernel
theorem dL_law_1025 : decode cL_law 1025 = .ok (.pop, 1) := by decide +kernel
theorem dL_law_1026 : decode cL_law 1026 = .ok (.goto 389, 3) := by decide +kernel
theorem dL_law_1029 : decode cL_law 1029 = .ok (.aload_n 1, 1) := by decide +kernel
theorem dL_law_1030 : decode cL_law 1030 = .ok (.aload_n 0, 1) := by decide +kernel
theorem dL_law_1031 : decode cL_law 1031 = .ok (.iload_n 3, 1) := by decide +kernel
theorem dL_law_1032 : decode cL_law 1032 = .ok (.iconst 1, 1) := by decide +kernel
theorem dL_law_1033 : decode cL_law 1033 = .ok (.iadd, 1) := by decide +kernel
theorem dL_law_1034 : decode cL_law 1034 = .ok (.iaload, 1) := by decide +kernel
theorem dL_law_1035 : decode cL_law 1035 = .ok (.invokevirtual 135, 3) := by decide +kernel
theorem dL_law_1038 : decode cL_law 1038 = .ok (.pop, 1) := by decide +kernel
theorem dL_law_1039 : decode cL_law 1039 = .ok (.aload_n 2, 1) := by decide +kernel
theorem dL_law_1040 : decode cL_law 1040 = .ok (.aload_n 0, 1) := by decide +kernel
theorem dL_law_1041 : decode cL_law 1041 = .ok (.iload_n 3, 1) := by decide +kernel
theorem dL_law_1042 : decode cL_law 1042 = .ok (.iconst 1, 1) := by decide +kernel
theorem dL_law_1043 : decode cL_law 1043 = .ok (.iadd, 1) := by decide +kernel
theorem dL_law_1044 : decode cL_law 1044 = .ok (.iaload, 1) := by decide +kernel
theorem dL_law_1045 : decode cL_law 1045 = .ok (.invokevirtual 138, 3) := by decide +kernel
theorem dL_law_1048 : decode cL_law 1048 = .ok (.pop, 1) := by decide +kernel
theorem dL_law_1049 : decode cL_law 1049 = .ok (.goto 366, 3) := by decide +kernel
theorem dL_law_1052 : decode cL_law 1052 = .ok (.aload_n 1, 1) := by decide +kernel
theorem dL_law_1053 : decode cL_law 1053 = .ok (.aload_n 0, 1) := by decide +kernel
theorem dL_law_1054 : decode cL_law 1054 = .ok (.iload_n 3, 1) := by decide +kernel
theorem dL_law_1055 : decode cL_law 1055 = .ok (.iconst 1, 1) := by decide +kernel
theorem dL_law_1056 : decode cL_law 1056 = .ok (.iadd, 1) := by decide +kernel
theorem dL_law_1057 : decode cL_law 1057 = .ok (.iaload, 1) := by decide +kernel
theorem dL_law_1058 : decode cL_law 1058 = .ok (.aload_n 0, 1) := by decide +kernel
theorem dL_law_1059 : decode cL_law 1059 = .ok (.iload_n 3, 1) := by decide +kernel
theorem dL_law_1060 : decode cL_law 1060 = .ok (.iconst 2, 1) := by decide +kernel
theorem dL_law_1061 : decode cL_law 1061 = .ok (.iadd, 1) := by decide +kernel
theorem dL_law_1062 : decode cL_law 1062 = .ok (.iaload, 1) := by decide +kernel
theorem dL_law_1063 : decode cL_law 1063 = .ok (.invokevirtual 139, 3) := by decide +kernel
theorem dL_law_1066 : decode cL_law 1066 = .ok (.pop, 1) := by decide +kernel
theorem dL_law_1067 : decode cL_law 1067 = .ok (.aload_n 2, 1) := by decide +kernel
theorem dL_law_1068 : decode cL_law 1068 = .ok (.aload_n 0, 1) := by decide +kernel
theorem dL_law_1069 : decode cL_law 1069 = .ok (.iload_n 3, 1) := by decide +kernel
theorem dL_law_1070 : decode cL_law 1070 = .ok (.iconst 1, 1) := by decide +kernel
theorem dL_law_1071 : decode cL_law 1071 = .ok (.iadd, 1) := by decide +kernel
theorem dL_law_1072 : decode cL_law 1072 = .ok (.iaload, 1) := by decide +kernel
theorem dL_law_1073 : decode cL_law 1073 = .ok (.aload_n 0, 1) := by decide +kernel
theorem dL_law_1074 : decode cL_law 1074 = .ok (.iload_n 3, 1) := by decide +kernel
theorem dL_law_1075 : decode cL_law 1075 = .ok (.iconst 2, 1) := by decide +kernel
theorem dL_law_1076 : decode cL_law 1076 = .ok (.iadd, 1) := by decide +kernel
theorem dL_law_1077 : decode cL_law 1077 = .ok (.iaload, 1) := by decide +kernel
theorem dL_law_1078 : decode cL_law 1078 = .ok (.invokevirtual 142, 3) := by decide +kernel
theorem dL_law_1081 : decode cL_law 1081 = .ok (.pop, 1) := by decide +kernel
theorem dL_law_1082 : decode cL_law 1082 = .ok (.goto 333, 3) := by decide +kernel
theorem dL_law_1085 : decode cL_law 1085 = .ok (.aload_n 1, 1) := by decide +kernel
theorem dL_law_1086 : decode cL_law 1086 = .ok (.aload_n 0, 1) := by decide +kernel
theorem dL_law_1087 : decode cL_law 1087 = .ok (.iload_n 3, 1) := by decide +kernel
theorem dL_law_1088 : decode cL_law 1088 = .ok (.iconst 1, 1) := by decide +kernel
theorem dL_law_1089 : decode cL_law 1089 = .ok (.iadd, 1) := by decide +kernel
theorem dL_law_1090 : decode cL_law 1090 = .ok (.iaload, 1) := by decide +kernel
theorem dL_law_1091 : decode cL_law 1091 = .ok (.aload_n 0, 1) := by decide +kernel
theorem dL_law_1092 : decode cL_law 1092 = .ok (.iload_n 3, 1) := by decide +kernel
theorem dL_law_1093 : decode cL_law 1093 = .ok (.iconst 2, 1) := by decide +kernel
theorem dL_law_1094 : decode cL_law 1094 = .ok (.iadd, 1) := by decide +kernel
theorem dL_law_1095 : decode cL_law 1095 = .ok (.iaload, 1) := by decide +kernel
theorem dL_law_1096 : decode cL_law 1096 = .ok (.aload_n 0, 1) := by decide +kernel
theorem dL_law_1097 : decode cL_law 1097 = .ok (.iload_n 3, 1) := by decide +kernel
theorem dL_law_1098 : decode cL_law 1098 = .ok (.iconst 3, 1) := by decide +kernel
theorem dL_law_1099 : decode cL_law 1099 = .ok (.iadd, 1) := by decide +kernel
theorem dL_law_1100 : decode cL_law 1100 = .ok (.iaload, 1) := by decide +kernel
theorem dL_law_1101 : decode cL_law 1101 = .ok (.invokevirtual 143, 3) := by decide +kernel
theorem dL_law_1104 : decode cL_law 1104 = .ok (.pop, 1) := by decide +kernel
theorem dL_law_1105 : decode cL_law 1105 = .ok (.aload_n 2, 1) := by decide +kernel
theorem dL_law_1106 : decode cL_law 1106 = .ok (.aload_n 0, 1) := by decide +kernel
theorem dL_law_1107 : decode cL_law 1107 = .ok (.iload_n 3, 1) := by decide +kernel
theorem dL_law_1108 : decode cL_law 1108 = .ok (.iconst 1, 1) := by decide +kernel
theorem dL_law_1109 : decode cL_law 1109 = .ok (.iadd, 1) := by decide +kernel
theorem dL_law_1110 : decode cL_law 1110 = .ok (.iaload, 1) := by decide +kernel
theorem dL_law_1111 : decode cL_law 1111 = .ok (.aload_n 0, 1) := by decide +kernel
theorem dL_law_1112 : decode cL_law 1112 = .ok (.iload_n 3, 1) := by decide +kernel
theorem dL_law_1113 : decode cL_law 1113 = .ok (.iconst 2, 1) := by decide +kernel
theorem dL_law_1114 : decode cL_law 1114 = .ok (.iadd, 1) := by decide +kernel
theorem dL_law_1115 : decode cL_law 1115 = .ok (.iaload, 1) := by decide +kernel
theorem dL_law_1116 : decode cL_law 1116 = .ok (.aload_n 0, 1) := by decide +kernel
theorem dL_law_1117 : decode cL_law 1117 = .ok (.iload_n 3, 1) := by decide +kernel
theorem dL_law_1118 : decode cL_law 1118 = .ok (.iconst 3, 1) := by decide +kernel
theorem dL_law_1119 : decode cL_law 1119 = .ok (.iadd, 1) := by decide +kernel
theorem dL_law_1120 : decode cL_law 1120 = .ok (.iaload, 1) := by decide +kernel
theorem dL_law_1121 : decode cL_law 1121 = .ok (.invokevirtual 146, 3) := by decide +kernel
theorem dL_law_1124 : decode cL_law 1124 = .ok (.pop, 1) := by decide +kernel
theorem dL_law_1125 : decode cL_law 1125 = .ok (.goto 290, 3) := by decide +kernel
theorem dL_law_1128 : decode cL_law 1128 = .ok (.aload_n 1, 1) := by decide +kernel
theorem dL_law_1129 : decode cL_law 1129 = .ok (.aload_n 0, 1) := by decide +kernel
theorem dL_law_1130 : decode cL_law 1130 = .ok (.iload_n 3, 1) := by decide +kernel
theorem dL_law_1131 : decode cL_law 1131 = .ok (.iconst 1, 1) := by decide +kernel
theorem dL_law_1132 : decode cL_law 1132 = .ok (.iadd, 1) := by decide +kernel
theorem dL_law_1133 : decode cL_law 1133 = .ok (.iaload, 1) := by decide +kernel
theorem dL_law_1134 : decode cL_law 1134 = .ok (.aload_n 0, 1) := by decide +kernel
theorem dL_law_1135 : decode cL_law 1135 = .ok (.iload_n 3, 1) := by decide +kernel
theorem dL_law_1136 : decode cL_law 1136 = .ok (.iconst 2, 1) := by decide +kernel
theorem dL_law_1137 : decode cL_law 1137 = .ok (.iadd, 1) := by decide +kernel
theorem dL_law_1138 : decode cL_law 1138 = .ok (.iaload, 1) := by decide +kernel
theorem dL_law_1139 : decode cL_law 1139 = .ok (.aload_n 0, 1) := by decide +kernel
theorem dL_law_1140 : decode cL_law 1140 = .ok (.iload_n 3, 1) := by decide +kernel
theorem dL_law_1141 : decode cL_law 1141 = .ok (.iconst 3, 1) := by decide +kernel
theorem dL_law_1142 : decode cL_law 1142 = .ok (.iadd, 1) := by decide +kernel
theorem dL_law_1143 : decode cL_law 1143 = .ok (.iaload, 1) := by decide +kernel
theorem dL_law_1144 : decode cL_law 1144 = .ok (.aload_n 0, 1) := by decide +kernel
theorem dL_law_1145 : decode cL_law 1145 = .ok (.iload_n 3, 1) := by decide +kernel
theorem dL_law_1146 : decode cL_law 1146 = .ok (.iconst 4, 1) := by decide +kernel
theorem dL_law_1147 : decode cL_law 1147 = .ok (.iadd, 1) := by decide +kernel
theorem dL_law_1148 : decode cL_law 1148 = .ok (.iaload, 1) := by decide +kernel
theorem dL_law_1149 : decode cL_law 1149 = .ok (.invokevirtual 147, 3) := by decide +kernel
theorem dL_law_1152 : decode cL_law 1152 = .ok (.pop, 1) := by decide +kernel
theorem dL_law_1153 : decode cL_law 1153 = .ok (.aload_n 2, 1) := by decide +kernel
theorem dL_law_1154 : decode cL_law 1154 = .ok (.aload_n 0, 1) := by decide +kernel
theorem dL_law_1155 : decode cL_law 1155 = .ok (.iload_n 3, 1) := by decide +kernel
theorem dL_law_1156 : decode cL_law 1156 = .ok (.iconst 1, 1) := by decide +kernel
theorem dL_law_1157 : decode cL_law 1157 = .ok (.iadd, 1) := by decide +kernel
theorem dL_law_1158 : decode cL_law 1158 = .ok (.iaload, 1) := by decide +kernel
theorem dL_law_1159 : decode cL_law 1159 = .ok (.aload_n 0, 1) := by decide +kernel
theorem dL_law_1160 : decode cL_law 1160 = .ok (.iload_n 3, 1) := by decide +kernel
theorem dL_law_1161 : decode cL_law 1161 = .ok (.iconst 2, 1) := by decide +kernel
theorem dL_law_1162 : decode cL_law 1162 = .ok (.iadd, 1) := by decide +kernel
theorem dL_law_1163 : decode cL_law 1163 = .ok (.iaload, 1) := by decide +kernel
theorem dL_law_1164 : decode cL_law 1164 = .ok (.aload_n 0, 1) := by decide +kernel
theorem dL_law_1165 : decode cL_law 1165 = .ok (.iload_n 3, 1) := by decide +kernel
theorem dL_law_1166 : decode cL_law 1166 = .ok (.iconst 3, 1) := by decide +kernel
theorem dL_law_1167 : decode cL_law 1167 = .ok (.iadd, 1) := by decide +kernel
theorem dL_law_1168 : decode cL_law 1168 = .ok (.iaload, 1) := by decide +kernel
theorem dL_law_1169 : decode cL_law 1169 = .ok (.aload_n 0, 1) := by decide +kernel
theorem dL_law_1170 : decode cL_law 1170 = .ok (.iload_n 3, 1) := by decide +kernel
theorem dL_law_1171 : decode cL_law 1171 = .ok (.iconst 4, 1) := by decide +kernel
theorem dL_law_1172 : decode cL_law 1172 = .ok (.iadd, 1) := by decide +kernel
theorem dL_law_1173 : decode cL_law 1173 = .ok (.iaload, 1) := by decide +kernel
theorem dL_law_1174 : decode cL_law 1174 = .ok (.invokevirtual 150, 3) := by decide +kernel
theorem dL_law_1177 : decode cL_law 1177 = .ok (.pop, 1) := by decide +kernel
theorem dL_law_1178 : decode cL_law 1178 = .ok (.goto 237, 3) := by decide +kernel
theorem dL_law_1181 : decode cL_law 1181 = .ok (.aload_n 1, 1) := by decide +kernel
theorem dL_law_1182 : decode cL_law 1182 = .ok (.aload_n 0, 1) := by decide +kernel
theorem dL_law_1183 : decode cL_law 1183 = .ok (.iload_n 3, 1) := by decide +kernel
theorem dL_law_1184 : decode cL_law 1184 = .ok (.iconst 1, 1) := by decide +kernel
theorem dL_law_1185 : decode cL_law 1185 = .ok (.iadd, 1) := by decide +kernel
theorem dL_law_1186 : decode cL_law 1186 = .ok (.iaload, 1) := by decide +kernel
theorem dL_law_1187 : decode cL_law 1187 = .ok (.aload_n 0, 1) := by decide +kernel
theorem dL_law_1188 : decode cL_law 1188 = .ok (.iload_n 3, 1) := by decide +kernel
theorem dL_law_1189 : decode cL_law 1189 = .ok (.iconst 2, 1) := by decide +kernel
theorem dL_law_1190 : decode cL_law 1190 = .ok (.iadd, 1) := by decide +kernel
theorem dL_law_1191 : decode cL_law 1191 = .ok (.iaload, 1) := by decide +kernel
theorem dL_law_1192 : decode cL_law 1192 = .ok (.aload_n 0, 1) := by decide +kernel
theorem dL_law_1193 : decode cL_law 1193 = .ok (.iload_n 3, 1) := by decide +kernel
theorem dL_law_1194 : decode cL_law 1194 = .ok (.iconst 3, 1) := by decide +kernel
theorem dL_law_1195 : decode cL_law 1195 = .ok (.iadd, 1) := by decide +kernel
theorem dL_law_1196 : decode cL_law 1196 = .ok (.iaload, 1) := by decide +kernel
theorem dL_law_1197 : decode cL_law 1197 = .ok (.aload_n 0, 1) := by decide +kernel
theorem dL_law_1198 : decode cL_law 1198 = .ok (.iload_n 3, 1) := by decide +kernel
theorem dL_law_1199 : decode cL_law 1199 = .ok (.iconst 4, 1) := by decide +kernel
theorem dL_law_1200 : decode cL_law 1200 = .ok (.iadd, 1) := by decide +kernel
theorem dL_law_1201 : decode cL_law 1201 = .ok (.iaload, 1) := by decide +kernel
theorem dL_law_1202 : decode cL_law 1202 = .ok (.invokevirtual 151, 3) := by decide +kernel
theorem dL_law_1205 : decode cL_law 1205 = .ok (.pop, 1) := by decide +kernel
theorem dL_law_1206 : decode cL_law 1206 = .ok (.aload_n 2, 1) := by decide +kernel
theorem dL_law_1207 : decode cL_law 1207 = .ok (.aload_n 0, 1) := by decide +kernel
theorem dL_law_1208 : decode cL_law 1208 = .ok (.iload_n 3, 1) := by decide +kernel
theorem dL_law_1209 : decode cL_law 1209 = .ok (.iconst 1, 1) := by decide +kernel
theorem dL_law_1210 : decode cL_law 1210 = .ok (.iadd, 1) := by decide +kernel
theorem dL_law_1211 : decode cL_law 1211 = .ok (.iaload, 1) := by decide +kernel
theorem dL_law_1212 : decode cL_law 1212 = .ok (.aload_n 0, 1) := by decide +kernel
theorem dL_law_1213 : decode cL_law 1213 = .ok (.iload_n 3, 1) := by decide +kernel
theorem dL_law_1214 : decode cL_law 1214 = .ok (.iconst 2, 1) := by decide +kernel
theorem dL_law_1215 : decode cL_law 1215 = .ok (.iadd, 1) := by decide +kernel
theorem dL_law_1216 : decode cL_law 1216 = .ok (.iaload, 1) := by decide +kernel
theorem dL_law_1217 : decode cL_law 1217 = .ok (.aload_n 0, 1) := by decide +kernel
theorem dL_law_1218 : decode cL_law 1218 = .ok (.iload_n 3, 1) := by decide +kernel
theorem dL_law_1219 : decode cL_law 1219 = .ok (.iconst 3, 1) := by decide +kernel
theorem dL_law_1220 : decode cL_law 1220 = .ok (.iadd, 1) := by decide +kernel
theorem dL_law_1221 : decode cL_law 1221 = .ok (.iaload, 1) := by decide +kernel
theorem dL_law_1222 : decode cL_law 1222 = .ok (.aload_n 0, 1) := by decide +kernel
theorem dL_law_1223 : decode cL_law 1223 = .ok (.iload_n 3, 1) := by decide +kernel
theorem dL_law_1224 : decode cL_law 1224 = .ok (.iconst 4, 1) := by decide +kernel
theorem dL_law_1225 : decode cL_law 1225 = .ok (.iadd, 1) := by decide +kernel
theorem dL_law_1226 : decode cL_law 1226 = .ok (.iaload, 1) := by decide +kernel
theorem dL_law_1227 : decode cL_law 1227 = .ok (.invokevirtual 154, 3) := by decide +kernel
theorem dL_law_1230 : decode cL_law 1230 = .ok (.pop, 1) := by decide +kernel
theorem dL_law_1231 : decode cL_law 1231 = .ok (.goto 184, 3) := by decide +kernel
theorem dL_law_1234 : decode cL_law 1234 = .ok (.aload_n 1, 1) := by decide +kernel
theorem dL_law_1235 : decode cL_law 1235 = .ok (.aload_n 0, 1) := by decide +kernel
theorem dL_law_1236 : decode cL_law 1236 = .ok (.iload_n 3, 1) := by decide +kernel
theorem dL_law_1237 : decode cL_law 1237 = .ok (.iconst 1, 1) := by decide +kernel
theorem dL_law_1238 : decode cL_law 1238 = .ok (.iadd, 1) := by decide +kernel
theorem dL_law_1239 : decode cL_law 1239 = .ok (.iaload, 1) := by decide +kernel
theorem dL_law_1240 : decode cL_law 1240 = .ok (.aload_n 0, 1) := by decide +kernel
theorem dL_law_1241 : decode cL_law 1241 = .ok (.iload_n 3, 1) := by decide +kernel
theorem dL_law_1242 : decode cL_law 1242 = .ok (.iconst 2, 1) := by decide +kernel
theorem dL_law_1243 : decode cL_law 1243 = .ok (.iadd, 1) := by decide +kernel
theorem dL_law_1244 : decode cL_law 1244 = .ok (.iaload, 1) := by decide +kernel
theorem dL_law_1245 : decode cL_law 1245 = .ok (.invokevirtual 155, 3) := by decide +kernel
theorem dL_law_1248 : decode cL_law 1248 = .ok (.pop2, 1) := by decide +kernel
theorem dL_law_1249 : decode cL_law 1249 = .ok (.aload_n 2, 1) := by decide +kernel
theorem dL_law_1250 : decode cL_law 1250 = .ok (.aload_n 0, 1) := by decide +kernel
theorem dL_law_1251 : decode cL_law 1251 = .ok (.iload_n 3, 1) := by decide +kernel
theorem dL_law_1252 : decode cL_law 1252 = .ok (.iconst 1, 1) := by decide +kernel
theorem dL_law_1253 : decode cL_law 1253 = .ok (.iadd, 1) := by decide +kernel
theorem dL_law_1254 : decode cL_law 1254 = .ok (.iaload, 1) := by decide +kernel
theorem dL_law_1255 : decode cL_law 1255 = .ok (.aload_n 0, 1) := by decide +kernel
theorem dL_law_1256 : decode cL_law 1256 = .ok (.iload_n 3, 1) := by decide +kernel
theorem dL_law_1257 : decode cL_law 1257 = .ok (.iconst 2, 1) := by decide +kernel
theorem dL_law_1258 : decode cL_law 1258 = .ok (.iadd, 1) := by decide +kernel
theorem dL_law_1259 : decode cL_law 1259 = .ok (.iaload, 1) := by decide +kernel
theorem dL_law_1260 : decode cL_law 1260 = .ok (.invokevirtual 159, 3) := by decide +kernel
theorem dL_law_1263 : decode cL_law 1263 = .ok (.pop2, 1) := by decide +kernel
theorem dL_law_1264 : decode cL_law 1264 = .ok (.goto 151, 3) := by decide +kernel
theorem dL_law_1267 : decode cL_law 1267 = .ok (.aload_n 1, 1) := by decide +kernel
theorem dL_law_1268 : decode cL_law 1268 = .ok (.aload_n 0, 1) := by decide +kernel
theorem dL_law_1269 : decode cL_law 1269 = .ok (.iload_n 3, 1) := by decide +kernel
theorem dL_law_1270 : decode cL_law 1270 = .ok (.iconst 1, 1) := by decide +kernel
theorem dL_law_1271 : decode cL_law 1271 = .ok (.iadd, 1) := by decide +kernel
theorem dL_law_1272 : decode cL_law 1272 = .ok (.iaload, 1) := by decide +kernel
theorem dL_law_1273 : decode cL_law 1273 = .ok (.aload_n 0, 1) := by decide +kernel
theorem dL_law_1274 : decode cL_law 1274 = .ok (.iload_n 3, 1) := by decide +kernel
theorem dL_law_1275 : decode cL_law 1275 = .ok (.iconst 2, 1) := by decide +kernel
theorem dL_law_1276 : decode cL_law 1276 = .ok (.iadd, 1) := by decide +kernel
theorem dL_law_1277 : decode cL_law 1277 = .ok (.iaload, 1) := by decide +kernel
theorem dL_law_1278 : decode cL_law 1278 = .ok (.invokevirtual 160, 3) := by decide +kernel
theorem dL_law_1281 : decode cL_law 1281 = .ok (.pop, 1) := by decide +kernel
theorem dL_law_1282 : decode cL_law 1282 = .ok (.aload_n 2, 1) := by decide +kernel
theorem dL_law_1283 : decode cL_law 1283 = .ok (.aload_n 0, 1) := by decide +kernel
theorem dL_law_1284 : decode cL_law 1284 = .ok (.iload_n 3, 1) := by decide +kernel
theorem dL_law_1285 : decode cL_law 1285 = .ok (.iconst 1, 1) := by decide +kernel
theorem dL_law_1286 : decode cL_law 1286 = .ok (.iadd, 1) := by decide +kernel
theorem dL_law_1287 : decode cL_law 1287 = .ok (.iaload, 1) := by decide +kernel
theorem dL_law_1288 : decode cL_law 1288 = .ok (.aload_n 0, 1) := by decide +kernel
theorem dL_law_1289 : decode cL_law 1289 = .ok (.iload_n 3, 1) := by decide +kernel
theorem dL_law_1290 : decode cL_law 1290 = .ok (.iconst 2, 1) := by decide +kernel
theorem dL_law_1291 : decode cL_law 1291 = .ok (.iadd, 1) := by decide +kernel
theorem dL_law_1292 : decode cL_law 1292 = .ok (.iaload, 1) := by decide +kernel
theorem dL_law_1293 : decode cL_law 1293 = .ok (.invokevirtual 163, 3) := by decide +kernel
theorem dL_law_1296 : decode cL_law 1296 = .ok (.pop, 1) := by decide +kernel
theorem dL_law_1297 : decode cL_law 1297 = .ok (.goto 118, 3) := by decide +kernel
theorem dL_law_1300 : decode cL_law 1300 = .ok (.aload_n 1, 1) := by decide +kernel
theorem dL_law_1301 : decode cL_law 1301 = .ok (.aload_n 0, 1) := by decide +kernel
theorem dL_law_1302 : decode cL_law 1302 = .ok (.iload_n 3, 1) := by decide +kernel
theorem dL_law_1303 : decode cL_law 1303 = .ok (.iconst 1, 1) := by decide +kernel
theorem dL_law_1304 : decode cL_law 1304 = .ok (.iadd, 1) := by decide +kernel
theorem dL_law_1305 : decode cL_law 1305 = .ok (.iaload, 1) := by decide +kernel
theorem dL_law_1306 : decode cL_law 1306 = .ok (.aload_n 0, 1) := by decide +kernel
theorem dL_law_1307 : decode cL_law 1307 = .ok (.iload_n 3, 1) := by decide +kernel
theorem dL_law_1308 : decode cL_law 1308 = .ok (.iconst 2, 1) := by decide +kernel
theorem dL_law_1309 : decode cL_law 1309 = .ok (.iadd, 1) := by decide +kernel
theorem dL_law_1310 : decode cL_law 1310 = .ok (.iaload, 1) := by decide +kernel
theorem dL_law_1311 : decode cL_law 1311 = .ok (.invokevirtual 164, 3) := by decide +kernel
theorem dL_law_1314 : decode cL_law 1314 = .ok (.pop, 1) := by decide +kernel
theorem dL_law_1315 : decode cL_law 1315 = .ok (.aload_n 2, 1) := by decide +kernel
theorem dL_law_1316 : decode cL_law 1316 = .ok (.aload_n 0, 1) := by decide +kernel
