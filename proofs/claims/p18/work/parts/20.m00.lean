section
variable {p : Program} {l : Launch} {e : Env} {R : Room} {s : State} {m : MethodId} {args : Array Value} {below : List Frame} {meth : Method} {c : Code} {G : hG} {B mc ms : Nat}
def w_X12_init (q : hS → Prop) (S : hS) (v0 : Nat) : Prop := mkI S 7 7 (fun S o7 => pP S v0 12 2 o7 (fun S => mkI S 5585 5585 (fun S o16 => pP S v0 12 3 o16 (fun S => mkI S 11170 11170 (fun S o25 => pP S v0 12 4 o25 (fun S => mkZ S 2 2 (fun S o32 => pP S v0 12 5 o32 (fun S => mkI S 2178 2178 (fun S o41 => pP S v0 12 6 o41 (fun S => mkI S 16 16 (fun S o49 => pP S v0 12 7 o49 (fun S => mkI S 1936 1936 (fun S o58 => pP S v0 12 9 o58 (fun S => mkI S 16 16 (fun S o66 => pP S v0 12 10 o66 (fun S => mkI S 400 400 (fun S o75 => pP S v0 12 12 o75 (fun S => pI S v0 12 18 (-1) (fun S => mkI S 96 96 (fun S o88 => pP S v0 12 22 o88 (fun S => mkI S 400 400 (fun S o97 => pP S v0 12 24 o97 (fun S => mkI S 400 400 (fun S o106 => pP S v0 12 25 o106 (fun S => mkI S 400 400 (fun S o115 => pP S v0 12 27 o115 (fun S => mkI S 400 400 (fun S o124 => pP S v0 12 28 o124 (fun S => mkJ S 9 9 (fun S o132 => sJ S o132 0 542723566 (fun S => sJ S o132 1 1253 (fun S => sJ S o132 2 17484389 (fun S => sJ S o132 3 8902245 (fun S => sJ S o132 4 24282713 (fun S => sJ S o132 5 398548 (fun S => sJ S o132 6 824370 (fun S => sJ S o132 7 655 (fun S => sJ S o132 8 441828 (fun S => pP S v0 12 31 o132 (fun S => mkJ S 7 7 (fun S o197 => sJ S o197 0 824370 (fun S => sJ S o197 1 146885 (fun S => sJ S o197 2 404362868 (fun S => sJ S o197 3 412820935 (fun S => sJ S o197 4 17484389 (fun S => sJ S o197 5 398548 (fun S => sJ S o197 6 24282713 (fun S => pP S v0 12 32 o197 (fun S => mkJ S 5 5 (fun S o247 => sJ S o247 0 21285043 (fun S => sJ S o247 1 3657363 (fun S => sJ S o247 2 24627848 (fun S => sJ S o247 3 16258515 (fun S => sJ S o247 4 67155 (fun S => pP S v0 12 33 o247 (fun S => mkJ S 13 13 (fun S o285 => pP S v0 12 35 o285 (fun S => mkJ S 13 13 (fun S o293 => pP S v0 12 36 o293 (fun S => mkJ S 400 400 (fun S o302 => pP S v0 12 37 o302 (fun S => mkI S 7 7 (fun S o310 => pP S v0 12 41 o310 (fun S => mkI S 7 7 (fun S o318 => pP S v0 12 42 o318 (fun S => mkI S 6 6 (fun S o326 => pP S v0 12 43 o326 (fun S => mkI S 9 9 (fun S o334 => pP S v0 12 45 o334 (fun S => mkI S 8 8 (fun S o342 => pP S v0 12 46 o342 (fun S => mkI S 8 8 (fun S o350 => pP S v0 12 47 o350 (fun S => mkI S 189 189 (fun S o359 => pP S v0 12 48 o359 (fun S => mkI S 8 8 (fun S o367 => pP S v0 12 49 o367 (fun S => mkJ S 22 22 (fun S o375 => pP S v0 12 50 o375 (fun S => mkJ S 4 4 (fun S o382 => sJ S o382 0 599495 (fun S => sJ S o382 1 628108 (fun S => sJ S o382 2 4389 (fun S => sJ S o382 3 525939 (fun S => pP S v0 12 51 o382 (fun S => mkI S 120 120 (fun S o414 => pP S v0 12 52 o414 (fun S => pI S v0 12 55 (-1) (fun S => mkI S 48 48 (fun S o427 => pP S v0 12 58 o427 (fun S => pI S v0 12 59 (-1) (fun S => pI S v0 12 60 (-1) (fun S => gP S v0 12 3 (fun x443 => sI S x443 4 (-1) (fun S => gP S v0 12 3 (fun x450 => sI S x450 6 3 (fun S => q S)))))))))))))))))))))))))))))))))))))))))))))))))))))))))))))))))))))))))))))))))))))))))))))))))
set_option maxRecDepth 100000 in
set_option maxHeartbeats 4000000 in
theorem c_X12_init (l : Launch) (G : hG) (B : Nat) (S : hS) (v0 : Nat) (q : hS → Prop) : Met l yX12_init (hws yX12_init cX12_init 1 (Option.none : Option FieldType)) ({ frames := 1, cells := 32, slots := 23889, locals := 60 }) (hPc G B S [.ref v0] (w_X12_init q S v0)) (hQ G B (vP q)) (32) (23889) (fun r => B ≤ r) := by
  refine hMet (rm := { frames := 1, cells := 32, slots := 23889, locals := 60 }) (lv := [some (.ref v0)]) (own := RX12) (fr := 1) (lo := 60) (by decide) rfl rfl rfl (Nat.le_of_ble_eq_true rfl) rfl (fun hw p e R s m args below meth c hC hr hlk hnm => ?_)
  unfold w_X12_init at hw
  refine z_less (ku' := 32) (kv' := 23889) (Nat.le_refl _) (Nat.le_refl _) ?_
  refine z_aload_n hC dX12_init_0 rfl rfl ?_
  refine z_obj hC lk_1333 lk_147 lk_148 dX12_init_1 (by decide) (Nat.le_of_ble_eq_true rfl) ?_
  refine z_aload_n hC dX12_init_4 rfl rfl ?_
  refine z_bipush hC bi_7 dX12_init_5 ?_
  refine z_mkI (cap := 7) (ku' := 31) (kv' := 23882) hC lk_198 dX12_init_7 (by decide) (by decide) (by decide) hw (fun S o7 hw => ?_)
  refine z_putPF hC FX12 2 lk_1357 dX12_init_9 (by decide) rfl hnm rfl rfl rfl hw (fun S hw => ?_)
  refine z_aload_n hC dX12_init_12 rfl rfl ?_
  refine z_sipush hC si_5585 dX12_init_13 ?_
  refine z_mkI (cap := 5585) (ku' := 30) (kv' := 18297) hC lk_198 dX12_init_16 (by decide) (by decide) (by decide) hw (fun S o16 hw => ?_)
  refine z_putPF hC FX12 3 lk_1358 dX12_init_18 (by decide) rfl hnm rfl rfl rfl hw (fun S hw => ?_)
  refine z_aload_n hC dX12_init_21 rfl rfl ?_
  refine z_sipush hC si_11170 dX12_init_22 ?_
  refine z_mkI (cap := 11170) (ku' := 29) (kv' := 7127) hC lk_198 dX12_init_25 (by decide) (by decide) (by decide) hw (fun S o25 hw => ?_)
  refine z_putPF hC FX12 4 lk_1359 dX12_init_27 (by decide) rfl hnm rfl rfl rfl hw (fun S hw => ?_)
  refine z_aload_n hC dX12_init_30 rfl rfl ?_
  refine z_iconst hC ic_2 dX12_init_31 ?_
  refine z_mkZ (cap := 2) (ku' := 28) (kv' := 7125) hC lk_1539 dX12_init_32 (by decide) (by decide) (by decide) hw (fun S o32 hw => ?_)
  refine z_putPF hC FX12 5 lk_1360 dX12_init_34 (by decide) rfl hnm rfl rfl rfl hw (fun S hw => ?_)
  refine z_aload_n hC dX12_init_37 rfl rfl ?_
  refine z_sipush hC si_2178 dX12_init_38 ?_
  refine z_mkI (cap := 2178) (ku' := 27) (kv' := 4947) hC lk_198 dX12_init_41 (by decide) (by decide) (by decide) hw (fun S o41 hw => ?_)
  refine z_putPF hC FX12 6 lk_1361 dX12_init_43 (by decide) rfl hnm rfl rfl rfl hw (fun S hw => ?_)
  refine z_aload_n hC dX12_init_46 rfl rfl ?_
  refine z_bipush hC bi_16 dX12_init_47 ?_
  refine z_mkI (cap := 16) (ku' := 26) (kv' := 4931) hC lk_198 dX12_init_49 (by decide) (by decide) (by decide) hw (fun S o49 hw => ?_)
  refine z_putPF hC FX12 7 lk_1362 dX12_init_51 (by decide) rfl hnm rfl rfl rfl hw (fun S hw => ?_)
  refine z_aload_n hC dX12_init_54 rfl rfl ?_
  refine z_sipush hC si_1936 dX12_init_55 ?_
  refine z_mkI (cap := 1936) (ku' := 25) (kv' := 2995) hC lk_198 dX12_init_58 (by decide) (by decide) (by decide) hw (fun S o58 hw => ?_)
  refine z_putPF hC FX12 9 lk_1364 dX12_init_60 (by decide) rfl hnm rfl rfl rfl hw (fun S hw => ?_)
  refine z_aload_n hC dX12_init_63 rfl rfl ?_
  refine z_bipush hC bi_16 dX12_init_64 ?_
  refine z_mkI (cap := 16) (ku' := 24) (kv' := 2979) hC lk_198 dX12_init_66 (by decide) (by decide) (by decide) hw (fun S o66 hw => ?_)
  refine z_putPF hC FX12 10 lk_1365 dX12_init_68 (by decide) rfl hnm rfl rfl rfl hw (fun S hw => ?_)
  refine z_aload_n hC dX12_init_71 rfl rfl ?_
  refine z_sipush hC si_400 dX12_init_72 ?_
  refine z_mkI (cap := 400) (ku' := 23) (kv' := 2579) hC lk_198 dX12_init_75 (by decide) (by decide) (by decide) hw (fun S o75 hw => ?_)
  refine z_putPF hC FX12 12 lk_1367 dX12_init_77 (by decide) rfl hnm rfl rfl rfl hw (fun S hw => ?_)
  refine z_aload_n hC dX12_init_80 rfl rfl ?_
  refine z_iconst hC ic_m1 dX12_init_81 ?_
  refine z_putI hC FX12 18 lk_1373 dX12_init_82 (by decide) rfl rfl hw (fun S hw => ?_)
  refine z_aload_n hC dX12_init_85 rfl rfl ?_
  refine z_bipush hC bi_96 dX12_init_86 ?_
  refine z_mkI (cap := 96) (ku' := 22) (kv' := 2483) hC lk_198 dX12_init_88 (by decide) (by decide) (by decide) hw (fun S o88 hw => ?_)
  refine z_putPF hC FX12 22 lk_1377 dX12_init_90 (by decide) rfl hnm rfl rfl rfl hw (fun S hw => ?_)
  refine z_aload_n hC dX12_init_93 rfl rfl ?_
  refine z_sipush hC si_400 dX12_init_94 ?_
  refine z_mkI (cap := 400) (ku' := 21) (kv' := 2083) hC lk_198 dX12_init_97 (by decide) (by decide) (by decide) hw (fun S o97 hw => ?_)
  refine z_putPF hC FX12 24 lk_1379 dX12_init_99 (by decide) rfl hnm rfl rfl rfl hw (fun S hw => ?_)
  refine z_aload_n hC dX12_init_102 rfl rfl ?_
  refine z_sipush hC si_400 dX12_init_103 ?_
  refine z_mkI (cap := 400) (ku' := 20) (kv' := 1683) hC lk_198 dX12_init_106 (by decide) (by decide) (by decide) hw (fun S o106 hw => ?_)
  refine z_putPF hC FX12 25 lk_1380 dX12_init_108 (by decide) rfl hnm rfl rfl rfl hw (fun S hw => ?_)
  refine z_aload_n hC dX12_init_111 rfl rfl ?_
  refine z_sipush hC si_400 dX12_init_112 ?_
  refine z_mkI (cap := 400) (ku' := 19) (kv' := 1283) hC lk_198 dX12_init_115 (by decide) (by decide) (by decide) hw (fun S o115 hw => ?_)
  refine z_putPF hC FX12 27 lk_1382 dX12_init_117 (by decide) rfl hnm rfl rfl rfl hw (fun S hw => ?_)
  refine z_aload_n hC dX12_init_120 rfl rfl ?_
  refine z_sipush hC si_400 dX12_init_121 ?_
  refine z_mkI (cap := 400) (ku' := 18) (kv' := 883) hC lk_198 dX12_init_124 (by decide) (by decide) (by decide) hw (fun S o124 hw => ?_)
  refine z_putPF hC FX12 28 lk_1383 dX12_init_126 (by decide) rfl hnm rfl rfl rfl hw (fun S hw => ?_)
  refine z_aload_n hC dX12_init_129 rfl rfl ?_
  refine z_bipush hC bi_9 dX12_init_130 ?_
  refine z_mkJ (cap := 9) (ku' := 17) (kv' := 874) hC lk_514 dX12_init_132 (by decide) (by decide) (by decide) hw (fun S o132 hw => ?_)
  refine z_dup hC rfl dX12_init_134 ?_
  refine z_iconst hC ic_0 dX12_init_135 ?_
  refine z_ldc2 hC lk_1334 dX12_init_136 ?_
  refine z_astJ hC dX12_init_139 hw (fun S hw => ?_)
  refine z_dup hC rfl dX12_init_140 ?_
  refine z_iconst hC ic_1 dX12_init_141 ?_
  refine z_ldc2 hC lk_1335 dX12_init_142 ?_
  refine z_astJ hC dX12_init_145 hw (fun S hw => ?_)
  refine z_dup hC rfl dX12_init_146 ?_
  refine z_iconst hC ic_2 dX12_init_147 ?_
  refine z_ldc2 hC lk_1336 dX12_init_148 ?_
  refine z_astJ hC dX12_init_151 hw (fun S hw => ?_)
  refine z_dup hC rfl dX12_init_152 ?_
  refine z_iconst hC ic_3 dX12_init_153 ?_
  refine z_ldc2 hC lk_1337 dX12_init_154 ?_
  refine z_astJ hC dX12_init_157 hw (fun S hw => ?_)
  refine z_dup hC rfl dX12_init_158 ?_
  refine z_iconst hC ic_4 dX12_init_159 ?_
  refine z_ldc2 hC lk_1338 dX12_init_160 ?_
  refine z_astJ hC dX12_init_163 hw (fun S hw => ?_)
  refine z_dup hC rfl dX12_init_164 ?_
  refine z_iconst hC ic_5 dX12_init_165 ?_
  refine z_ldc2 hC lk_1339 dX12_init_166 ?_
  refine z_astJ hC dX12_init_169 hw (fun S hw => ?_)
  refine z_dup hC rfl dX12_init_170 ?_
  refine z_bipush hC bi_6 dX12_init_171 ?_
  refine z_ldc2 hC lk_1340 dX12_init_173 ?_
  refine z_astJ hC dX12_init_176 hw (fun S hw => ?_)
  refine z_dup hC rfl dX12_init_177 ?_
  refine z_bipush hC bi_7 dX12_init_178 ?_
  refine z_ldc2 hC lk_1341 dX12_init_180 ?_
  refine z_astJ hC dX12_init_183 hw (fun S hw => ?_)
  refine z_dup hC rfl dX12_init_184 ?_
  refine z_bipush hC bi_8 dX12_init_185 ?_
  refine z_ldc2 hC lk_1342 dX12_init_187 ?_
  refine z_astJ hC dX12_init_190 hw (fun S hw => ?_)
  refine z_putPF hC FX12 31 lk_1386 dX12_init_191 (by decide) rfl hnm rfl rfl rfl hw (fun S hw => ?_)
  refine z_aload_n hC dX12_init_194 rfl rfl ?_
  refine z_bipush hC bi_7 dX12_init_195 ?_
  refine z_mkJ (cap := 7) (ku' := 16) (kv' := 867) hC lk_514 dX12_init_197 (by decide) (by decide) (by decide) hw (fun S o197 hw => ?_)
  refine z_dup hC rfl dX12_init_199 ?_
  refine z_iconst hC ic_0 dX12_init_200 ?_
  refine z_ldc2 hC lk_1340 dX12_init_201 ?_
  refine z_astJ hC dX12_init_204 hw (fun S hw => ?_)
  refine z_dup hC rfl dX12_init_205 ?_
  refine z_iconst hC ic_1 dX12_init_206 ?_
  refine z_ldc2 hC lk_1343 dX12_init_207 ?_
  refine z_astJ hC dX12_init_210 hw (fun S hw => ?_)
  refine z_dup hC rfl dX12_init_211 ?_
  refine z_iconst hC ic_2 dX12_init_212 ?_
  refine z_ldc2 hC lk_1344 dX12_init_213 ?_
  refine z_astJ hC dX12_init_216 hw (fun S hw => ?_)
  refine z_dup hC rfl dX12_init_217 ?_
  refine z_iconst hC ic_3 dX12_init_218 ?_
  refine z_ldc2 hC lk_1345 dX12_init_219 ?_
  refine z_astJ hC dX12_init_222 hw (fun S hw => ?_)
  refine z_dup hC rfl dX12_init_223 ?_
  refine z_iconst hC ic_4 dX12_init_224 ?_
  refine z_ldc2 hC lk_1336 dX12_init_225 ?_
  refine z_astJ hC dX12_init_228 hw (fun S hw => ?_)
  refine z_dup hC rfl dX12_init_229 ?_
  refine z_iconst hC ic_5 dX12_init_230 ?_
  refine z_ldc2 hC lk_1339 dX12_init_231 ?_
  refine z_astJ hC dX12_init_234 hw (fun S hw => ?_)
  refine z_dup hC rfl dX12_init_235 ?_
  refine z_bipush hC bi_6 dX12_init_236 ?_
  refine z_ldc2 hC lk_1338 dX12_init_238 ?_
  refine z_astJ hC dX12_init_241 hw (fun S hw => ?_)
  refine z_putPF hC FX12 32 lk_1387 dX12_init_242 (by decide) rfl hnm rfl rfl rfl hw (fun S hw => ?_)
  refine z_aload_n hC dX12_init_245 rfl rfl ?_
  refine z_iconst hC ic_5 dX12_init_246 ?_
  refine z_mkJ (cap := 5) (ku' := 15) (kv' := 862) hC lk_514 dX12_init_247 (by decide) (by decide) (by decide) hw (fun S o247 hw => ?_)
  refine z_dup hC rfl dX12_init_249 ?_
  refine z_iconst hC ic_0 dX12_init_250 ?_
  refine z_ldc2 hC lk_1346 dX12_init_251 ?_
  refine z_astJ hC dX12_init_254 hw (fun S hw => ?_)
  refine z_dup hC rfl dX12_init_255 ?_
  refine z_iconst hC ic_1 dX12_init_256 ?_
  refine z_ldc2 hC lk_1347 dX12_init_257 ?_
  refine z_astJ hC dX12_init_260 hw (fun S hw => ?_)
  refine z_dup hC rfl dX12_init_261 ?_
  refine z_iconst hC ic_2 dX12_init_262 ?_
  refine z_ldc2 hC lk_1348 dX12_init_263 ?_
  refine z_astJ hC dX12_init_266 hw (fun S hw => ?_)
  refine z_dup hC rfl dX12_init_267 ?_
  refine z_iconst hC ic_3 dX12_init_268 ?_
  refine z_ldc2 hC lk_1349 dX12_init_269 ?_
  refine z_astJ hC dX12_init_272 hw (fun S hw => ?_)
  refine z_dup hC rfl dX12_init_273 ?_
  refine z_iconst hC ic_4 dX12_init_274 ?_
  refine z_ldc2 hC lk_1350 dX12_init_275 ?_
  refine z_astJ hC dX12_init_278 hw (fun S hw => ?_)
  refine z_putPF hC FX12 33 lk_1388 dX12_init_279 (by decide) rfl hnm rfl rfl rfl hw (fun S hw => ?_)
  refine z_aload_n hC dX12_init_282 rfl rfl ?_
  refine z_bipush hC bi_13 dX12_init_283 ?_
  refine z_mkJ (cap := 13) (ku' := 14) (kv' := 849) hC lk_514 dX12_init_285 (by decide) (by decide) (by decide) hw (fun S o285 hw => ?_)
  refine z_putPF hC FX12 35 lk_1390 dX12_init_287 (by decide) rfl hnm rfl rfl rfl hw (fun S hw => ?_)
  refine z_aload_n hC dX12_init_290 rfl rfl ?_
  refine z_bipush hC bi_13 dX12_init_291 ?_
  refine z_mkJ (cap := 13) (ku' := 13) (kv' := 836) hC lk_514 dX12_init_293 (by decide) (by decide) (by decide) hw (fun S o293 hw => ?_)
  refine z_putPF hC FX12 36 lk_1391 dX12_init_295 (by decide) rfl hnm rfl rfl rfl hw (fun S hw => ?_)
  refine z_aload_n hC dX12_init_298 rfl rfl ?_
  refine z_sipush hC si_400 dX12_init_299 ?_
  refine z_mkJ (cap := 400) (ku' := 12) (kv' := 436) hC lk_514 dX12_init_302 (by decide) (by decide) (by decide) hw (fun S o302 hw => ?_)
  refine z_putPF hC FX12 37 lk_1392 dX12_init_304 (by decide) rfl hnm rfl rfl rfl hw (fun S hw => ?_)
  refine z_aload_n hC dX12_init_307 rfl rfl ?_
  refine z_bipush hC bi_7 dX12_init_308 ?_
  refine z_mkI (cap := 7) (ku' := 11) (kv' := 429) hC lk_198 dX12_init_310 (by decide) (by decide) (by decide) hw (fun S o310 hw => ?_)
  refine z_putPF hC FX12 41 lk_1396 dX12_init_312 (by decide) rfl hnm rfl rfl rfl hw (fun S hw => ?_)
  refine z_aload_n hC dX12_init_315 rfl rfl ?_
  refine z_bipush hC bi_7 dX12_init_316 ?_
  refine z_mkI (cap := 7) (ku' := 10) (kv' := 422) hC lk_198 dX12_init_318 (by decide) (by decide) (by decide) hw (fun S o318 hw => ?_)
  refine z_putPF hC FX12 42 lk_1397 dX12_init_320 (by decide) rfl hnm rfl rfl rfl hw (fun S hw => ?_)
  refine z_aload_n hC dX12_init_323 rfl rfl ?_
  refine z_bipush hC bi_6 dX12_init_324 ?_
  refine z_mkI (cap := 6) (ku' := 9) (kv' := 416) hC lk_198 dX12_init_326 (by decide) (by decide) (by decide) hw (fun S o326 hw => ?_)
  refine z_putPF hC FX12 43 lk_1398 dX12_init_328 (by decide) rfl hnm rfl rfl rfl hw (fun S hw => ?_)
  refine z_aload_n hC dX12_init_331 rfl rfl ?_
  refine z_bipush hC bi_9 dX12_init_332 ?_
  refine z_mkI (cap := 9) (ku' := 8) (kv' := 407) hC lk_198 dX12_init_334 (by decide) (by decide) (by decide) hw (fun S o334 hw => ?_)
  refine z_putPF hC FX12 45 lk_1400 dX12_init_336 (by decide) rfl hnm rfl rfl rfl hw (fun S hw => ?_)
  refine z_aload_n hC dX12_init_339 rfl rfl ?_
  refine z_bipush hC bi_8 dX12_init_340 ?_
  refine z_mkI (cap := 8) (ku' := 7) (kv' := 399) hC lk_198 dX12_init_342 (by decide) (by decide) (by decide) hw (fun S o342 hw => ?_)
  refine z_putPF hC FX12 46 lk_1401 dX12_init_344 (by decide) rfl hnm rfl rfl rfl hw (fun S hw => ?_)
  refine z_aload_n hC dX12_init_347 rfl rfl ?_
  refine z_bipush hC bi_8 dX12_init_348 ?_
  refine z_mkI (cap := 8) (ku' := 6) (kv' := 391) hC lk_198 dX12_init_350 (by decide) (by decide) (by decide) hw (fun S o350 hw => ?_)
  refine z_putPF hC FX12 47 lk_1402 dX12_init_352 (by decide) rfl hnm rfl rfl rfl hw (fun S hw => ?_)
  refine z_aload_n hC dX12_init_355 rfl rfl ?_
  refine z_sipush hC si_189 dX12_init_356 ?_
  refine z_mkI (cap := 189) (ku' := 5) (kv' := 202) hC lk_198 dX12_init_359 (by decide) (by decide) (by decide) hw (fun S o359 hw => ?_)
  refine z_putPF hC FX12 48 lk_1403 dX12_init_361 (by decide) rfl hnm rfl rfl rfl hw (fun S hw => ?_)
  refine z_aload_n hC dX12_init_364 rfl rfl ?_
  refine z_bipush hC bi_8 dX12_init_365 ?_
  refine z_mkI (cap := 8) (ku' := 4) (kv' := 194) hC lk_198 dX12_init_367 (by decide) (by decide) (by decide) hw (fun S o367 hw => ?_)
  refine z_putPF hC FX12 49 lk_1404 dX12_init_369 (by decide) rfl hnm rfl rfl rfl hw (fun S hw => ?_)
  refine z_aload_n hC dX12_init_372 rfl rfl ?_
  refine z_bipush hC bi_22 dX12_init_373 ?_
  refine z_mkJ (cap := 22) (ku' := 3) (kv' := 172) hC lk_514 dX12_init_375 (by decide) (by decide) (by decide) hw (fun S o375 hw => ?_)
  refine z_putPF hC FX12 50 lk_1405 dX12_init_377 (by decide) rfl hnm rfl rfl rfl hw (fun S hw => ?_)
  refine z_aload_n hC dX12_init_380 rfl rfl ?_
  refine z_iconst hC ic_4 dX12_init_381 ?_
  refine z_mkJ (cap := 4) (ku' := 2) (kv' := 168) hC lk_514 dX12_init_382 (by decide) (by decide) (by decide) hw (fun S o382 hw => ?_)
  refine z_dup hC rfl dX12_init_384 ?_
  refine z_iconst hC ic_0 dX12_init_385 ?_
  refine z_ldc2 hC lk_1351 dX12_init_386 ?_
  refine z_astJ hC dX12_init_389 hw (fun S hw => ?_)
  refine z_dup hC rfl dX12_init_390 ?_
  refine z_iconst hC ic_1 dX12_init_391 ?_
  refine z_ldc2 hC lk_1352 dX12_init_392 ?_
  refine z_astJ hC dX12_init_395 hw (fun S hw => ?_)
  refine z_dup hC rfl dX12_init_396 ?_
  refine z_iconst hC ic_2 dX12_init_397 ?_
  refine z_ldc2 hC lk_1353 dX12_init_398 ?_
  refine z_astJ hC dX12_init_401 hw (fun S hw => ?_)
  refine z_dup hC rfl dX12_init_402 ?_
  refine z_iconst hC ic_3 dX12_init_403 ?_
  refine z_ldc2 hC lk_1354 dX12_init_404 ?_
  refine z_astJ hC dX12_init_407 hw (fun S hw => ?_)
  refine z_putPF hC FX12 51 lk_1406 dX12_init_408 (by decide) rfl hnm rfl rfl rfl hw (fun S hw => ?_)
  refine z_aload_n hC dX12_init_411 rfl rfl ?_
  refine z_bipush hC bi_120 dX12_init_412 ?_
  refine z_mkI (cap := 120) (ku' := 1) (kv' := 48) hC lk_198 dX12_init_414 (by decide) (by decide) (by decide) hw (fun S o414 hw => ?_)
  refine z_putPF hC FX12 52 lk_1407 dX12_init_416 (by decide) rfl hnm rfl rfl rfl hw (fun S hw => ?_)
  refine z_aload_n hC dX12_init_419 rfl rfl ?_
  refine z_iconst hC ic_m1 dX12_init_420 ?_
  refine z_putI hC FX12 55 lk_1410 dX12_init_421 (by decide) rfl rfl hw (fun S hw => ?_)
  refine z_aload_n hC dX12_init_424 rfl rfl ?_
  refine z_bipush hC bi_48 dX12_init_425 ?_
  refine z_mkI (cap := 48) (ku' := 0) (kv' := 0) hC lk_198 dX12_init_427 (by decide) (by decide) (by decide) hw (fun S o427 hw => ?_)
  refine z_putPF hC FX12 58 lk_1413 dX12_init_429 (by decide) rfl hnm rfl rfl rfl hw (fun S hw => ?_)
  refine z_aload_n hC dX12_init_432 rfl rfl ?_
  refine z_iconst hC ic_m1 dX12_init_433 ?_
  refine z_putI hC FX12 59 lk_1414 dX12_init_434 (by decide) rfl rfl hw (fun S hw => ?_)
  refine z_aload_n hC dX12_init_437 rfl rfl ?_
  refine z_iconst hC ic_m1 dX12_init_438 ?_
  refine z_putI hC FX12 60 lk_1415 dX12_init_439 (by decide) rfl rfl hw (fun S hw => ?_)
  refine z_aload_n hC dX12_init_442 rfl rfl ?_
  refine z_getP hC FX12 3 lk_1358 dX12_init_443 (by decide) hw (fun x443 hw => ?_)
  refine z_iconst hC ic_4 dX12_init_446 ?_
  refine z_iconst hC ic_m1 dX12_init_447 ?_
  refine z_astI hC dX12_init_448 hw (fun S hw => ?_)
  refine z_aload_n hC dX12_init_449 rfl rfl ?_
  refine z_getP hC FX12 3 lk_1358 dX12_init_450 (by decide) hw (fun x450 hw => ?_)
  refine z_bipush hC bi_6 dX12_init_453 ?_
  refine z_iconst hC ic_3 dX12_init_455 ?_
  refine z_astI hC dX12_init_456 hw (fun S hw => ?_)
  exact z_vret hC hr hlk dX12_init_457 ⟨rfl, hw⟩
end
section
variable {p : Program} {l : Launch} {e : Env} {R : Room} {s : State} {m : MethodId} {args : Array Value} {below : List Frame} {meth : Method} {c : Code} {G : hG} {B mc ms : Nat}
def w_X12_in (q : Int32 → hS → Prop) (S : hS) (v0 : Int64) (v2 : Int64) (v4 : Int64) : Prop := ((lg_cmp v0 v2) < 0 → q 0 S) ∧ (¬ (lg_cmp v0 v2) < 0 → (0 < (lg_cmp v0 v4) → q 0 S) ∧ (¬ 0 < (lg_cmp v0 v4) → q 1 S))
set_option maxRecDepth 100000 in
set_option maxHeartbeats 4000000 in
theorem c_X12_in (l : Launch) (G : hG) (B : Nat) (S : hS) (v0 : Int64) (v2 : Int64) (v4 : Int64) (q : Int32 → hS → Prop) : Met l yX12_in (hws yX12_in cX12_in 6 (Option.some FieldType.boolean)) ({ frames := 1, cells := 0, slots := 0, locals := 60 }) (hPc G B S [.long v0, .long v2, .long v4] (w_X12_in q S v0 v2 v4)) (hQ G B (iP q)) (0) (0) (fun r => B ≤ r) := by
  refine hMet (rm := { frames := 1, cells := 0, slots := 0, locals := 60 }) (lv := [some (.long v0), none, some (.long v2), none, some (.long v4), none]) (own := RX12) (fr := 1) (lo := 60) (by decide) rfl rfl rfl (Nat.le_of_ble_eq_true rfl) rfl (fun hw p e R s m args below meth c hC hr hlk hnm => ?_)
  unfold w_X12_in at hw
  refine z_lload_n hC dX12_in_0 rfl rfl ?_
  refine z_lload_n hC dX12_in_1 rfl rfl ?_
  refine z_lcmp hC dX12_in_2 ?_
  refine z_if_lt (tgt := 17) hC dX12_in_3 (by decide) (fun c3 => ?_) (fun c3 => ?_)
  · have hw := hw.1 c3
    refine z_iconst hC ic_0 dX12_in_17 ?_
    exact z_zret hC hr hlk (hz01 (Or.inl rfl)).1 dX12_in_18 ⟨_, rfl, hw⟩
  · have hw := hw.2 c3
    refine z_lload_n hC dX12_in_6 rfl rfl ?_
    refine z_lload hC dX12_in_7 rfl ?_
    refine z_lcmp hC dX12_in_9 ?_
    refine z_if_gt (tgt := 17) hC dX12_in_10 (by decide) (fun c10 => ?_) (fun c10 => ?_)
    · have hw := hw.1 c10
      refine z_iconst hC ic_0 dX12_in_17 ?_
      exact z_zret hC hr hlk (hz01 (Or.inl rfl)).1 dX12_in_18 ⟨_, rfl, hw⟩
    · have hw := hw.2 c10
      refine z_iconst hC ic_1 dX12_in_13 ?_
      refine z_goto (tgt := 18) hC dX12_in_14 (by decide) ?_
      exact z_zret hC hr hlk (hz01 (Or.inr rfl)).1 dX12_in_18 ⟨_, rfl, hw⟩
end
section
variable {p : Program} {l : Launch} {e : Env} {R : Room} {s : State} {m : MethodId} {args : Array Value} {below : List Frame} {meth : Method} {c : Code} {G : hG} {B mc ms : Nat}
def w_X12_is (q : Int32 → hS → Prop) (S : hS) (v0 : Int32) (v1 : Int32) : Prop := (¬ ((v0 >>> (v1 &&& 31)) &&& 1) = 1 → q 0 S) ∧ (((v0 >>> (v1 &&& 31)) &&& 1) = 1 → q 1 S)
set_option maxRecDepth 100000 in
set_option maxHeartbeats 4000000 in
theorem c_X12_is (l : Launch) (G : hG) (B : Nat) (S : hS) (v0 : Int32) (v1 : Int32) (q : Int32 → hS → Prop) : Met l yX12_is (hws yX12_is cX12_is 2 (Option.some FieldType.boolean)) ({ frames := 1, cells := 0, slots := 0, locals := 60 }) (hPc G B S [.int v0, .int v1] (w_X12_is q S v0 v1)) (hQ G B (iP q)) (0) (0) (fun r => B ≤ r) := by
  refine hMet (rm := { frames := 1, cells := 0, slots := 0, locals := 60 }) (lv := [some (.int v0), some (.int v1)]) (own := RX12) (fr := 1) (lo := 60) (by decide) rfl rfl rfl (Nat.le_of_ble_eq_true rfl) rfl (fun hw p e R s m args below meth c hC hr hlk hnm => ?_)
  unfold w_X12_is at hw
  refine z_iload_n hC dX12_is_0 rfl rfl ?_
  refine z_iload_n hC dX12_is_1 rfl rfl ?_
  refine z_ishr hC dX12_is_2 ?_
  refine z_iconst hC ic_1 dX12_is_3 ?_
  refine z_iand hC dX12_is_4 ?_
  refine z_iconst hC ic_1 dX12_is_5 ?_
  refine z_icmp_ne (tgt := 13) hC dX12_is_6 (by decide) (fun c6 => ?_) (fun c6 => ?_)
  · have hw := hw.1 c6
    refine z_iconst hC ic_0 dX12_is_13 ?_
    exact z_zret hC hr hlk (hz01 (Or.inl rfl)).1 dX12_is_14 ⟨_, rfl, hw⟩
  · have hw := hw.2 c6
    refine z_iconst hC ic_1 dX12_is_9 ?_
    refine z_goto (tgt := 14) hC dX12_is_10 (by decide) ?_
    exact z_zret hC hr hlk (hz01 (Or.inr rfl)).1 dX12_is_14 ⟨_, rfl, hw⟩
end
section
variable {p : Program} {l : Launch} {e : Env} {R : Room} {s : State} {m : MethodId} {args : Array Value} {below : List Frame} {meth : Method} {c : Code} {G : hG} {B mc ms : Nat}
def w_X12_ones_b4 (q : Int32 → hS → Prop) : Nat → hS → (Int32) → (Int32) → (Int32) → Prop
  | 0, _, _, _, _ => False
  | n + 1, S, v0, v1, v2 => (8 ≤ v2 → q v1 S) ∧ (¬ 8 ≤ v2 → ∀ y17 : Int32, y17 = (v1 + ((v0 >>> (v2 &&& 31)) &&& 1)) → ∀ y18 : Int32, y18 = v2 + 1 → w_X12_ones_b4 q n S v0 y17 y18)
set_option maxRecDepth 100000 in
set_option maxHeartbeats 4000000 in
theorem t_X12_ones_b4 (hC : zC p R s m args c cX12_ones 3 RX12 G B mc ms 1 60) (hr : meth.sig.returnType = (Option.some FieldType.int)) (hlk : meth.locks = false) (hnm : meth.name = "ones") {q : Int32 → hS → Prop} (n : Nat) : ∀ {S : hS} {v0 : Int32} {v1 : Int32} {v2 : Int32} (hw : w_X12_ones_b4 q n S v0 v1 v2), Z p l e R s m args below meth c (MQ below (hQ G B (iP q)) args s mc ms (fun r => B ≤ r)) G B mc ms 3 S 0 0 4 [some (.int v0), some (.int v1), some (.int v2)] [] := by
  induction n with
  | zero => intro S v0 v1 v2 hw; exact (by rw [w_X12_ones_b4] at hw; exact hw.elim)
  | succ n ih =>
    intro S v0 v1 v2 hw
    rw [w_X12_ones_b4] at hw
    refine z_iload_n hC dX12_ones_4 rfl rfl ?_
    refine z_bipush hC bi_8 dX12_ones_5 ?_
    refine z_icmp_ge (tgt := 24) hC dX12_ones_7 (by decide) (fun c7 => ?_) (fun c7 => ?_)
    · have hw := hw.1 c7
      refine z_iload_n hC dX12_ones_24 rfl rfl ?_
      exact z_iret hC hr hlk dX12_ones_25 ⟨_, rfl, hw⟩
    · have hw := hw.2 c7
      refine z_iload_n hC dX12_ones_10 rfl rfl ?_
      refine z_iload_n hC dX12_ones_11 rfl rfl ?_
      refine z_iload_n hC dX12_ones_12 rfl rfl ?_
      refine z_ishr hC dX12_ones_13 ?_
      refine z_iconst hC ic_1 dX12_ones_14 ?_
      refine z_iand hC dX12_ones_15 ?_
      refine z_iadd hC dX12_ones_16 ?_
      refine z_nmI (fun y17 e17 => ?_)
      have hw := hw y17 e17
      refine z_istore_n (i := 1) (lv' := [some (.int v0), some (.int y17), some (.int v2)]) hC rfl dX12_ones_17 (by decide) (hok_v rfl rfl) rfl ?_
      refine z_inc (i := 2) hC ic_1 dX12_ones_18 rfl (by decide) (hok_v rfl rfl) (fun y18 e18 => ?_)
      have hw := hw y18 e18
      refine z_goto (tgt := 4) hC dX12_ones_21 (by decide) ?_
      refine z_mask (lv' := [some (.int v0), some (.int y17), some (.int y18)]) [true, true, true] rfl ?_
      exact ih hw
def w_X12_ones (q : Int32 → hS → Prop) (S : hS) (v0 : Int32) : Prop := (∃ n4 : Nat, w_X12_ones_b4 q n4 S v0 0 0)
set_option maxRecDepth 100000 in
set_option maxHeartbeats 4000000 in
theorem c_X12_ones (l : Launch) (G : hG) (B : Nat) (S : hS) (v0 : Int32) (q : Int32 → hS → Prop) : Met l yX12_ones (hws yX12_ones cX12_ones 3 (Option.some FieldType.int)) ({ frames := 1, cells := 0, slots := 0, locals := 60 }) (hPc G B S [.int v0] (w_X12_ones q S v0)) (hQ G B (iP q)) (0) (0) (fun r => B ≤ r) := by
  refine hMet (rm := { frames := 1, cells := 0, slots := 0, locals := 60 }) (lv := [some (.int v0), none, none]) (own := RX12) (fr := 1) (lo := 60) (by decide) rfl rfl rfl (Nat.le_of_ble_eq_true rfl) rfl (fun hw p e R s m args below meth c hC hr hlk hnm => ?_)
  unfold w_X12_ones at hw
  refine z_iconst hC ic_0 dX12_ones_0 ?_
  refine z_istore_n (i := 1) (lv' := [some (.int v0), some (.int 0), none]) hC rfl dX12_ones_1 (by decide) (hok_v rfl rfl) rfl ?_
  refine z_iconst hC ic_0 dX12_ones_2 ?_
  refine z_istore_n (i := 2) (lv' := [some (.int v0), some (.int 0), some (.int 0)]) hC rfl dX12_ones_3 (by decide) (hok_v rfl rfl) rfl ?_
  refine z_mask (lv' := [some (.int v0), some (.int 0), some (.int 0)]) [true, true, true] rfl ?_
  obtain ⟨n4, hw⟩ := hw
  exact t_X12_ones_b4 hC hr hlk hnm n4 hw
end
section
variable {p : Program} {l : Launch} {e : Env} {R : Room} {s : State} {m : MethodId} {args : Array Value} {below : List Frame} {meth : Method} {c : Code} {G : hG} {B mc ms : Nat}
def w_X12_within (q : Int32 → hS → Prop) (S : hS) (v0 : Int64) (v2 : Int32) (v3 : Int32) : Prop := (0 ≤ (lg_cmp v0 (Int32.toInt64 v2)) → ((lg_cmp v0 (Int32.toInt64 v3)) ≤ 0 → q (Int64.toInt32 v0) S) ∧ (¬ (lg_cmp v0 (Int32.toInt64 v3)) ≤ 0 → q v3 S)) ∧ (¬ 0 ≤ (lg_cmp v0 (Int32.toInt64 v2)) → q v2 S)
set_option maxRecDepth 100000 in
set_option maxHeartbeats 4000000 in
theorem c_X12_within (l : Launch) (G : hG) (B : Nat) (S : hS) (v0 : Int64) (v2 : Int32) (v3 : Int32) (q : Int32 → hS → Prop) : Met l yX12_within (hws yX12_within cX12_within 4 (Option.some FieldType.int)) ({ frames := 1, cells := 0, slots := 0, locals := 60 }) (hPc G B S [.long v0, .int v2, .int v3] (w_X12_within q S v0 v2 v3)) (hQ G B (iP q)) (0) (0) (fun r => B ≤ r) := by
  refine hMet (rm := { frames := 1, cells := 0, slots := 0, locals := 60 }) (lv := [some (.long v0), none, some (.int v2), some (.int v3)]) (own := RX12) (fr := 1) (lo := 60) (by decide) rfl rfl rfl (Nat.le_of_ble_eq_true rfl) rfl (fun hw p e R s m args below meth c hC hr hlk hnm => ?_)
  unfold w_X12_within at hw
  refine z_lload_n hC dX12_within_0 rfl rfl ?_
  refine z_iload_n hC dX12_within_1 rfl rfl ?_
  refine z_i2l hC rfl dX12_within_2 ?_
  refine z_lcmp hC dX12_within_3 ?_
  refine z_if_ge (tgt := 11) hC dX12_within_4 (by decide) (fun c4 => ?_) (fun c4 => ?_)
  · have hw := hw.1 c4
    refine z_lload_n hC dX12_within_11 rfl rfl ?_
    refine z_iload_n hC dX12_within_12 rfl rfl ?_
    refine z_i2l hC rfl dX12_within_13 ?_
    refine z_lcmp hC dX12_within_14 ?_
    refine z_if_le (tgt := 22) hC dX12_within_15 (by decide) (fun c15 => ?_) (fun c15 => ?_)
    · have hw := hw.1 c15
      refine z_lload_n hC dX12_within_22 rfl rfl ?_
      refine z_l2i hC rfl dX12_within_23 ?_
      exact z_iret hC hr hlk dX12_within_24 ⟨_, rfl, hw⟩
    · have hw := hw.2 c15
      refine z_iload_n hC dX12_within_18 rfl rfl ?_
      refine z_goto (tgt := 24) hC dX12_within_19 (by decide) ?_
      exact z_iret hC hr hlk dX12_within_24 ⟨_, rfl, hw⟩
  · have hw := hw.2 c4
    refine z_iload_n hC dX12_within_7 rfl rfl ?_
    refine z_goto (tgt := 24) hC dX12_within_8 (by decide) ?_
    exact z_iret hC hr hlk dX12_within_24 ⟨_, rfl, hw⟩
end
section
variable {p : Program} {l : Launch} {e : Env} {R : Room} {s : State} {m : MethodId} {args : Array Value} {below : List Frame} {meth : Method} {c : Code} {G : hG} {B mc ms : Nat}
def w_X12_tell_b10 (q : Int32 → hS → Prop) (S : hS) (v0 : Nat) (v1 : Int32) (t0 : Int32) (t1 : Nat) : Prop := pI S t1 12 1 t0 (fun S => (0 ≤ v1 → q v1 S) ∧ (¬ 0 ≤ v1 → gP S v0 12 2 (fun x18 => aI S x18 (-v1) (fun x24 => sI S x18 (-v1) (x24 + 1) (fun S => q v1 S)))))
set_option maxRecDepth 100000 in
set_option maxHeartbeats 4000000 in
theorem t_X12_tell_b10 (hC : zC p R s m args c cX12_tell 2 RX12 G B mc ms 1 60) (hr : meth.sig.returnType = (Option.some FieldType.int)) (hlk : meth.locks = false) (hnm : meth.name = "tell") {q : Int32 → hS → Prop} {S : hS} {v0 : Nat} {v1 : Int32} {t0 : Int32} {t1 : Nat} (hw : w_X12_tell_b10 q S v0 v1 t0 t1) : Z p l e R s m args below meth c (MQ below (hQ G B (iP q)) args s mc ms (fun r => B ≤ r)) G B mc ms 2 S 0 0 10 [some (.ref v0), some (.int v1)] [.int t0, .ref t1] := by
  unfold w_X12_tell_b10 at hw
  refine z_putI hC FX12 1 lk_1356 dX12_tell_10 (by decide) rfl rfl hw (fun S hw => ?_)
  refine z_iload_n hC dX12_tell_13 rfl rfl ?_
  refine z_if_ge (tgt := 28) hC dX12_tell_14 (by decide) (fun c14 => ?_) (fun c14 => ?_)
  · have hw := hw.1 c14
    refine z_iload_n hC dX12_tell_28 rfl rfl ?_
    exact z_iret hC hr hlk dX12_tell_29 ⟨_, rfl, hw⟩
  · have hw := hw.2 c14
    refine z_aload_n hC dX12_tell_17 rfl rfl ?_
    refine z_getP hC FX12 2 lk_1357 dX12_tell_18 (by decide) hw (fun x18 hw => ?_)
    refine z_iload_n hC dX12_tell_21 rfl rfl ?_
    refine z_ineg hC dX12_tell_22 ?_
    refine z_dup2_11 hC rfl rfl dX12_tell_23 ?_
    refine z_aldI hC dX12_tell_24 hw (fun x24 hw => ?_)
    refine z_iconst hC ic_1 dX12_tell_25 ?_
    refine z_iadd hC dX12_tell_26 ?_
    refine z_astI hC dX12_tell_27 hw (fun S hw => ?_)
    refine z_iload_n hC dX12_tell_28 rfl rfl ?_
    exact z_iret hC hr hlk dX12_tell_29 ⟨_, rfl, hw⟩
def w_X12_tell (q : Int32 → hS → Prop) (S : hS) (v0 : Nat) (v1 : Int32) : Prop := (0 ≤ v1 → w_X12_tell_b10 q S v0 v1 0 v0) ∧ (¬ 0 ≤ v1 → w_X12_tell_b10 q S v0 v1 v1 v0)
set_option maxRecDepth 100000 in
set_option maxHeartbeats 4000000 in
theorem c_X12_tell (l : Launch) (G : hG) (B : Nat) (S : hS) (v0 : Nat) (v1 : Int32) (q : Int32 → hS → Prop) : Met l yX12_tell (hws yX12_tell cX12_tell 2 (Option.some FieldType.int)) ({ frames := 1, cells := 0, slots := 0, locals := 60 }) (hPc G B S [.ref v0, .int v1] (w_X12_tell q S v0 v1)) (hQ G B (iP q)) (0) (0) (fun r => B ≤ r) := by
  refine hMet (rm := { frames := 1, cells := 0, slots := 0, locals := 60 }) (lv := [some (.ref v0), some (.int v1)]) (own := RX12) (fr := 1) (lo := 60) (by decide) rfl rfl rfl (Nat.le_of_ble_eq_true rfl) rfl (fun hw p e R s m args below meth c hC hr hlk hnm => ?_)
  unfold w_X12_tell at hw
  refine z_aload_n hC dX12_tell_0 rfl rfl ?_
  refine z_iload_n hC dX12_tell_1 rfl rfl ?_
  refine z_if_ge (tgt := 9) hC dX12_tell_2 (by decide) (fun c2 => ?_) (fun c2 => ?_)
  · have hw := hw.1 c2
    refine z_iconst hC ic_0 dX12_tell_9 ?_
    refine z_mask (lv' := [some (.ref v0), some (.int v1)]) [true, true] rfl ?_
    exact t_X12_tell_b10 hC hr hlk hnm hw
  · have hw := hw.2 c2
    refine z_iload_n hC dX12_tell_5 rfl rfl ?_
    refine z_goto (tgt := 10) hC dX12_tell_6 (by decide) ?_
    refine z_mask (lv' := [some (.ref v0), some (.int v1)]) [true, true] rfl ?_
    exact t_X12_tell_b10 hC hr hlk hnm hw
end
section
variable {p : Program} {l : Launch} {e : Env} {R : Room} {s : State} {m : MethodId} {args : Array Value} {below : List Frame} {meth : Method} {c : Code} {G : hG} {B mc ms : Nat}
def w_X12_change (q : Int32 → hS → Prop) (S : hS) (v0 : Nat) (v1 : Int32) (v2 : Int32) : Prop := gP S v0 12 3 (fun x1 => aI S x1 v1 (fun x5 => gP S v0 12 3 (fun x8 => sI S x8 v1 v2 (fun S => pI S v0 12 1 0 (fun S => q x5 S)))))
set_option maxRecDepth 100000 in
set_option maxHeartbeats 4000000 in
theorem c_X12_change (l : Launch) (G : hG) (B : Nat) (S : hS) (v0 : Nat) (v1 : Int32) (v2 : Int32) (q : Int32 → hS → Prop) : Met l yX12_change (hws yX12_change cX12_change 4 (Option.some FieldType.int)) ({ frames := 1, cells := 0, slots := 0, locals := 60 }) (hPc G B S [.ref v0, .int v1, .int v2] (w_X12_change q S v0 v1 v2)) (hQ G B (iP q)) (0) (0) (fun r => B ≤ r) := by
  refine hMet (rm := { frames := 1, cells := 0, slots := 0, locals := 60 }) (lv := [some (.ref v0), some (.int v1), some (.int v2), none]) (own := RX12) (fr := 1) (lo := 60) (by decide) rfl rfl rfl (Nat.le_of_ble_eq_true rfl) rfl (fun hw p e R s m args below meth c hC hr hlk hnm => ?_)
  unfold w_X12_change at hw
  refine z_aload_n hC dX12_change_0 rfl rfl ?_
  refine z_getP hC FX12 3 lk_1358 dX12_change_1 (by decide) hw (fun x1 hw => ?_)
  refine z_iload_n hC dX12_change_4 rfl rfl ?_
  refine z_aldI hC dX12_change_5 hw (fun x5 hw => ?_)
  refine z_istore_n (i := 3) (lv' := [some (.ref v0), some (.int v1), some (.int v2), some (.int x5)]) hC rfl dX12_change_6 (by decide) (hok_v rfl rfl) rfl ?_
  refine z_aload_n hC dX12_change_7 rfl rfl ?_
  refine z_getP hC FX12 3 lk_1358 dX12_change_8 (by decide) hw (fun x8 hw => ?_)
  refine z_iload_n hC dX12_change_11 rfl rfl ?_
  refine z_iload_n hC dX12_change_12 rfl rfl ?_
  refine z_astI hC dX12_change_13 hw (fun S hw => ?_)
  refine z_aload_n hC dX12_change_14 rfl rfl ?_
  refine z_iconst hC ic_0 dX12_change_15 ?_
  refine z_putI hC FX12 1 lk_1356 dX12_change_16 (by decide) rfl rfl hw (fun S hw => ?_)
  refine z_iload_n hC dX12_change_19 rfl rfl ?_
  exact z_iret hC hr hlk dX12_change_20 ⟨_, rfl, hw⟩
end
section
variable {p : Program} {l : Launch} {e : Env} {R : Room} {s : State} {m : MethodId} {args : Array Value} {below : List Frame} {meth : Method} {c : Code} {G : hG} {B mc ms : Nat}
def w_X12_settled_b13 (q : Int32 → hS → Prop) (S : hS) (v0 : Nat) (v1 : Int32) (t0 : Int32) (t1 : Nat) : Prop := pI S t1 12 8 t0 (fun S => oK S v0 12 ∧ w_X12_tell (fun x18 S => q x18 S) S v0 v1)
set_option maxRecDepth 100000 in
set_option maxHeartbeats 4000000 in
theorem t_X12_settled_b13 (hC : zC p R s m args c cX12_settled 2 RX12 G B mc ms 2 81) (hr : meth.sig.returnType = (Option.some FieldType.int)) (hlk : meth.locks = false) (hnm : meth.name = "settled") {q : Int32 → hS → Prop} {S : hS} {v0 : Nat} {v1 : Int32} {t0 : Int32} {t1 : Nat} (hw : w_X12_settled_b13 q S v0 v1 t0 t1) : Z p l e R s m args below meth c (MQ below (hQ G B (iP q)) args s mc ms (fun r => B ≤ r)) G B mc ms 2 S 0 0 13 [some (.ref v0), some (.int v1)] [.int t0, .ref t1] := by
  unfold w_X12_settled_b13 at hw
  refine z_putI hC FX12 8 lk_1363 dX12_settled_13 (by decide) rfl rfl hw (fun S hw => ?_)
  refine z_aload_n hC dX12_settled_16 rfl rfl ?_
  refine z_iload_n hC dX12_settled_17 rfl rfl ?_
  refine z_callV (ku' := 0) (kv' := 0) (n := 1) (As := [.int v1]) (st := []) hC (c_X12_tell l G B S v0 v1 _) hw.2 hw.1 rfl lk_1544 lk_1546 lk_41 lk_133 lk_1547 hd_X12_tell rfl rfl (Nat.le_of_ble_eq_true rfl) (Nat.le_of_ble_eq_true rfl) rfl (Nat.le_of_ble_eq_true rfl) dX12_settled_18 (Nat.le_refl 0) (Nat.le_refl 0) (kI (fun x18 S hw => ?_))
  exact z_iret hC hr hlk dX12_settled_21 ⟨_, rfl, hw⟩
def w_X12_settled (q : Int32 → hS → Prop) (S : hS) (v0 : Nat) (v1 : Int32) : Prop := (0 ≤ v1 → w_X12_settled_b13 q S v0 v1 0 v0) ∧ (¬ 0 ≤ v1 → gI S v0 12 8 (fun x6 => w_X12_settled_b13 q S v0 v1 x6 v0))
set_option maxRecDepth 100000 in
set_option maxHeartbeats 4000000 in
theorem c_X12_settled (l : Launch) (G : hG) (B : Nat) (S : hS) (v0 : Nat) (v1 : Int32) (q : Int32 → hS → Prop) : Met l yX12_settled (hws yX12_settled cX12_settled 2 (Option.some FieldType.int)) ({ frames := 2, cells := 0, slots := 0, locals := 81 }) (hPc G B S [.ref v0, .int v1] (w_X12_settled q S v0 v1)) (hQ G B (iP q)) (0) (0) (fun r => B ≤ r) := by
  refine hMet (rm := { frames := 2, cells := 0, slots := 0, locals := 81 }) (lv := [some (.ref v0), some (.int v1)]) (own := RX12) (fr := 2) (lo := 81) (by decide) rfl rfl rfl (Nat.le_of_ble_eq_true rfl) rfl (fun hw p e R s m args below meth c hC hr hlk hnm => ?_)
  unfold w_X12_settled at hw
  refine z_aload_n hC dX12_settled_0 rfl rfl ?_
  refine z_iload_n hC dX12_settled_1 rfl rfl ?_
  refine z_if_ge (tgt := 12) hC dX12_settled_2 (by decide) (fun c2 => ?_) (fun c2 => ?_)
  · have hw := hw.1 c2
    refine z_iconst hC ic_0 dX12_settled_12 ?_
    refine z_mask (lv' := [some (.ref v0), some (.int v1)]) [true, true] rfl ?_
    exact t_X12_settled_b13 hC hr hlk hnm hw
  · have hw := hw.2 c2
    refine z_aload_n hC dX12_settled_5 rfl rfl ?_
    refine z_getI hC FX12 8 lk_1363 dX12_settled_6 (by decide) hw (fun x6 hw => ?_)
    refine z_goto (tgt := 13) hC dX12_settled_9 (by decide) ?_
    refine z_mask (lv' := [some (.ref v0), some (.int v1)]) [true, true] rfl ?_
    exact t_X12_settled_b13 hC hr hlk hnm hw
end
section
variable {p : Program} {l : Launch} {e : Env} {R : Room} {s : State} {m : MethodId} {args : Array Value} {below : List Frame} {meth : Method} {c : Code} {G : hG} {B mc ms : Nat}
def w_X12_keepAll_b2 (q : hS → Prop) : Nat → hS → (Nat) → (Int32) → (Int32) → Prop
  | 0, _, _, _, _ => False
  | n + 1, S, v0, v1, v2 => (121 ≤ v2 → q S) ∧ (¬ 121 ≤ v2 → gP S v0 12 6 (fun x9 => gP S v0 12 3 (fun x19 => aI S x19 (5 + v2) (fun x25 => sI S x9 ((121 * v1) + v2) x25 (fun S => ∀ y27 : Int32, y27 = v2 + 1 → w_X12_keepAll_b2 q n S v0 v1 y27)))))
set_option maxRecDepth 100000 in
set_option maxHeartbeats 4000000 in
theorem t_X12_keepAll_b2 (hC : zC p R s m args c cX12_keepAll 3 RX12 G B mc ms 1 60) (hr : meth.sig.returnType = (Option.none : Option FieldType)) (hlk : meth.locks = false) (hnm : meth.name = "keepAll") {q : hS → Prop} (n : Nat) : ∀ {S : hS} {v0 : Nat} {v1 : Int32} {v2 : Int32} (hw : w_X12_keepAll_b2 q n S v0 v1 v2), Z p l e R s m args below meth c (MQ below (hQ G B (vP q)) args s mc ms (fun r => B ≤ r)) G B mc ms 3 S 0 0 2 [some (.ref v0), some (.int v1), some (.int v2)] [] := by
  induction n with
  | zero => intro S v0 v1 v2 hw; exact (by rw [w_X12_keepAll_b2] at hw; exact hw.elim)
  | succ n ih =>
    intro S v0 v1 v2 hw
    rw [w_X12_keepAll_b2] at hw
    refine z_iload_n hC dX12_keepAll_2 rfl rfl ?_
    refine z_bipush hC bi_121 dX12_keepAll_3 ?_
    refine z_icmp_ge (tgt := 33) hC dX12_keepAll_5 (by decide) (fun c5 => ?_) (fun c5 => ?_)
    · have hw := hw.1 c5
      exact z_vret hC hr hlk dX12_keepAll_33 ⟨rfl, hw⟩
    · have hw := hw.2 c5
      refine z_aload_n hC dX12_keepAll_8 rfl rfl ?_
      refine z_getP hC FX12 6 lk_1361 dX12_keepAll_9 (by decide) hw (fun x9 hw => ?_)
      refine z_bipush hC bi_121 dX12_keepAll_12 ?_
      refine z_iload_n hC dX12_keepAll_14 rfl rfl ?_
      refine z_imul hC dX12_keepAll_15 ?_
      refine z_iload_n hC dX12_keepAll_16 rfl rfl ?_
      refine z_iadd hC dX12_keepAll_17 ?_
      refine z_aload_n hC dX12_keepAll_18 rfl rfl ?_
      refine z_getP hC FX12 3 lk_1358 dX12_keepAll_19 (by decide) hw (fun x19 hw => ?_)
      refine z_iconst hC ic_5 dX12_keepAll_22 ?_
      refine z_iload_n hC dX12_keepAll_23 rfl rfl ?_
      refine z_iadd hC dX12_keepAll_24 ?_
      refine z_aldI hC dX12_keepAll_25 hw (fun x25 hw => ?_)
      refine z_astI hC dX12_keepAll_26 hw (fun S hw => ?_)
      refine z_inc (i := 2) hC ic_1 dX12_keepAll_27 rfl (by decide) (hok_v rfl rfl) (fun y27 e27 => ?_)
      have hw := hw y27 e27
      refine z_goto (tgt := 2) hC dX12_keepAll_30 (by decide) ?_
      refine z_mask (lv' := [some (.ref v0), some (.int v1), some (.int y27)]) [true, true, true] rfl ?_
      exact ih hw
def w_X12_keepAll (q : hS → Prop) (S : hS) (v0 : Nat) (v1 : Int32) : Prop := (∃ n2 : Nat, w_X12_keepAll_b2 q n2 S v0 v1 0)
set_option maxRecDepth 100000 in
set_option maxHeartbeats 4000000 in
theorem c_X12_keepAll (l : Launch) (G : hG) (B : Nat) (S : hS) (v0 : Nat) (v1 : Int32) (q : hS → Prop) : Met l yX12_keepAll (hws yX12_keepAll cX12_keepAll 3 (Option.none : Option FieldType)) ({ frames := 1, cells := 0, slots := 0, locals := 60 }) (hPc G B S [.ref v0, .int v1] (w_X12_keepAll q S v0 v1)) (hQ G B (vP q)) (0) (0) (fun r => B ≤ r) := by
  refine hMet (rm := { frames := 1, cells := 0, slots := 0, locals := 60 }) (lv := [some (.ref v0), some (.int v1), none]) (own := RX12) (fr := 1) (lo := 60) (by decide) rfl rfl rfl (Nat.le_of_ble_eq_true rfl) rfl (fun hw p e R s m args below meth c hC hr hlk hnm => ?_)
  unfold w_X12_keepAll at hw
  refine z_iconst hC ic_0 dX12_keepAll_0 ?_
  refine z_istore_n (i := 2) (lv' := [some (.ref v0), some (.int v1), some (.int 0)]) hC rfl dX12_keepAll_1 (by decide) (hok_v rfl rfl) rfl ?_
  refine z_mask (lv' := [some (.ref v0), some (.int v1), some (.int 0)]) [true, true, true] rfl ?_
  obtain ⟨n2, hw⟩ := hw
  exact t_X12_keepAll_b2 hC hr hlk hnm n2 hw
end
section
variable {p : Program} {l : Launch} {e : Env} {R : Room} {s : State} {m : MethodId} {args : Array Value} {below : List Frame} {meth : Method} {c : Code} {G : hG} {B mc ms : Nat}
def w_X12_putBack_b2 (q : hS → Prop) : Nat → hS → (Nat) → (Int32) → (Int32) → Prop
  | 0, _, _, _, _ => False
  | n + 1, S, v0, v1, v2 => (121 ≤ v2 → q S) ∧ (¬ 121 ≤ v2 → gP S v0 12 3 (fun x9 => gP S v0 12 6 (fun x16 => aI S x16 ((121 * v1) + v2) (fun x25 => sI S x9 (5 + v2) x25 (fun S => ∀ y27 : Int32, y27 = v2 + 1 → w_X12_putBack_b2 q n S v0 v1 y27)))))
set_option maxRecDepth 100000 in
set_option maxHeartbeats 4000000 in
theorem t_X12_putBack_b2 (hC : zC p R s m args c cX12_putBack 3 RX12 G B mc ms 1 60) (hr : meth.sig.returnType = (Option.none : Option FieldType)) (hlk : meth.locks = false) (hnm : meth.name = "putBack") {q : hS → Prop} (n : Nat) : ∀ {S : hS} {v0 : Nat} {v1 : Int32} {v2 : Int32} (hw : w_X12_putBack_b2 q n S v0 v1 v2), Z p l e R s m args below meth c (MQ below (hQ G B (vP q)) args s mc ms (fun r => B ≤ r)) G B mc ms 3 S 0 0 2 [some (.ref v0), some (.int v1), some (.int v2)] [] := by
  induction n with
  | zero => intro S v0 v1 v2 hw; exact (by rw [w_X12_putBack_b2] at hw; exact hw.elim)
  | succ n ih =>
    intro S v0 v1 v2 hw
    rw [w_X12_putBack_b2] at hw
    refine z_iload_n hC dX12_putBack_2 rfl rfl ?_
    refine z_bipush hC bi_121 dX12_putBack_3 ?_
    refine z_icmp_ge (tgt := 33) hC dX12_putBack_5 (by decide) (fun c5 => ?_) (fun c5 => ?_)
    · have hw := hw.1 c5
      exact z_vret hC hr hlk dX12_putBack_33 ⟨rfl, hw⟩
    · have hw := hw.2 c5
      refine z_aload_n hC dX12_putBack_8 rfl rfl ?_
      refine z_getP hC FX12 3 lk_1358 dX12_putBack_9 (by decide) hw (fun x9 hw => ?_)
      refine z_iconst hC ic_5 dX12_putBack_12 ?_
      refine z_iload_n hC dX12_putBack_13 rfl rfl ?_
      refine z_iadd hC dX12_putBack_14 ?_
      refine z_aload_n hC dX12_putBack_15 rfl rfl ?_
      refine z_getP hC FX12 6 lk_1361 dX12_putBack_16 (by decide) hw (fun x16 hw => ?_)
      refine z_bipush hC bi_121 dX12_putBack_19 ?_
      refine z_iload_n hC dX12_putBack_21 rfl rfl ?_
      refine z_imul hC dX12_putBack_22 ?_
      refine z_iload_n hC dX12_putBack_23 rfl rfl ?_
      refine z_iadd hC dX12_putBack_24 ?_
      refine z_aldI hC dX12_putBack_25 hw (fun x25 hw => ?_)
      refine z_astI hC dX12_putBack_26 hw (fun S hw => ?_)
      refine z_inc (i := 2) hC ic_1 dX12_putBack_27 rfl (by decide) (hok_v rfl rfl) (fun y27 e27 => ?_)
      have hw := hw y27 e27
      refine z_goto (tgt := 2) hC dX12_putBack_30 (by decide) ?_
      refine z_mask (lv' := [some (.ref v0), some (.int v1), some (.int y27)]) [true, true, true] rfl ?_
      exact ih hw
def w_X12_putBack (q : hS → Prop) (S : hS) (v0 : Nat) (v1 : Int32) : Prop := (∃ n2 : Nat, w_X12_putBack_b2 q n2 S v0 v1 0)
set_option maxRecDepth 100000 in
set_option maxHeartbeats 4000000 in
theorem c_X12_putBack (l : Launch) (G : hG) (B : Nat) (S : hS) (v0 : Nat) (v1 : Int32) (q : hS → Prop) : Met l yX12_putBack (hws yX12_putBack cX12_putBack 3 (Option.none : Option FieldType)) ({ frames := 1, cells := 0, slots := 0, locals := 60 }) (hPc G B S [.ref v0, .int v1] (w_X12_putBack q S v0 v1)) (hQ G B (vP q)) (0) (0) (fun r => B ≤ r) := by
  refine hMet (rm := { frames := 1, cells := 0, slots := 0, locals := 60 }) (lv := [some (.ref v0), some (.int v1), none]) (own := RX12) (fr := 1) (lo := 60) (by decide) rfl rfl rfl (Nat.le_of_ble_eq_true rfl) rfl (fun hw p e R s m args below meth c hC hr hlk hnm => ?_)
  unfold w_X12_putBack at hw
  refine z_iconst hC ic_0 dX12_putBack_0 ?_
  refine z_istore_n (i := 2) (lv' := [some (.ref v0), some (.int v1), some (.int 0)]) hC rfl dX12_putBack_1 (by decide) (hok_v rfl rfl) rfl ?_
  refine z_mask (lv' := [some (.ref v0), some (.int v1), some (.int 0)]) [true, true, true] rfl ?_
  obtain ⟨n2, hw⟩ := hw
  exact t_X12_putBack_b2 hC hr hlk hnm n2 hw
end
section
variable {p : Program} {l : Launch} {e : Env} {R : Room} {s : State} {m : MethodId} {args : Array Value} {below : List Frame} {meth : Method} {c : Code} {G : hG} {B mc ms : Nat}
def w_X12_remember_b77 (q : hS → Prop) (S : hS) (v0 : Nat) (v1 : Int32) : Prop := gI S v0 12 8 (fun x79 => oK S v0 12 ∧ w_X12_keepAll (fun S => gP S v0 12 7 (fun x86 => gI S v0 12 8 (fun x90 => sI S x86 x90 v1 (fun S => gI S v0 12 8 (fun x97 => pI S v0 12 8 (x97 + 1) (fun S => q S)))))) S v0 x79)
set_option maxRecDepth 100000 in
set_option maxHeartbeats 4000000 in
theorem t_X12_remember_b77 (hC : zC p R s m args c cX12_remember 3 RX12 G B mc ms 2 82) (hr : meth.sig.returnType = (Option.none : Option FieldType)) (hlk : meth.locks = false) (hnm : meth.name = "remember") {q : hS → Prop} {S : hS} {v0 : Nat} {v1 : Int32} (hw : w_X12_remember_b77 q S v0 v1) : Z p l e R s m args below meth c (MQ below (hQ G B (vP q)) args s mc ms (fun r => B ≤ r)) G B mc ms 3 S 0 0 77 [some (.ref v0), some (.int v1), none] [] := by
  unfold w_X12_remember_b77 at hw
  refine z_aload_n hC dX12_remember_77 rfl rfl ?_
  refine z_aload_n hC dX12_remember_78 rfl rfl ?_
  refine z_getI hC FX12 8 lk_1363 dX12_remember_79 (by decide) hw (fun x79 hw => ?_)
  refine z_callV (ku' := 0) (kv' := 0) (n := 1) (As := [.int x79]) (st := []) hC (c_X12_keepAll l G B S v0 x79 _) hw.2 hw.1 rfl lk_1876 lk_1878 lk_93 lk_133 lk_1879 hd_X12_keepAll rfl rfl (Nat.le_of_ble_eq_true rfl) (Nat.le_of_ble_eq_true rfl) rfl (Nat.le_of_ble_eq_true rfl) dX12_remember_82 (Nat.le_refl 0) (Nat.le_refl 0) (kV (fun S hw => ?_))
  refine z_aload_n hC dX12_remember_85 rfl rfl ?_
  refine z_getP hC FX12 7 lk_1362 dX12_remember_86 (by decide) hw (fun x86 hw => ?_)
  refine z_aload_n hC dX12_remember_89 rfl rfl ?_
  refine z_getI hC FX12 8 lk_1363 dX12_remember_90 (by decide) hw (fun x90 hw => ?_)
  refine z_iload_n hC dX12_remember_93 rfl rfl ?_
  refine z_astI hC dX12_remember_94 hw (fun S hw => ?_)
  refine z_aload_n hC dX12_remember_95 rfl rfl ?_
  refine z_dup hC rfl dX12_remember_96 ?_
  refine z_getI hC FX12 8 lk_1363 dX12_remember_97 (by decide) hw (fun x97 hw => ?_)
  refine z_iconst hC ic_1 dX12_remember_100 ?_
  refine z_iadd hC dX12_remember_101 ?_
  refine z_putI hC FX12 8 lk_1363 dX12_remember_102 (by decide) rfl rfl hw (fun S hw => ?_)
  exact z_vret hC hr hlk dX12_remember_105 ⟨rfl, hw⟩
def w_X12_remember_b41 (q : hS → Prop) : Nat → hS → (Nat) → (Int32) → (Int32) → Prop
  | 0, _, _, _, _ => False
  | n + 1, S, v0, v1, v2 => (15 ≤ v2 → gI S v0 12 8 (fun x69 => pI S v0 12 8 (x69 - 1) (fun S => w_X12_remember_b77 q S v0 v1))) ∧ (¬ 15 ≤ v2 → gP S v0 12 7 (fun x48 => gP S v0 12 7 (fun x53 => aI S x53 (v2 + 1) (fun x59 => sI S x48 v2 x59 (fun S => ∀ y61 : Int32, y61 = v2 + 1 → w_X12_remember_b41 q n S v0 v1 y61)))))
set_option maxRecDepth 100000 in
set_option maxHeartbeats 4000000 in
theorem t_X12_remember_b41 (hC : zC p R s m args c cX12_remember 3 RX12 G B mc ms 2 82) (hr : meth.sig.returnType = (Option.none : Option FieldType)) (hlk : meth.locks = false) (hnm : meth.name = "remember") {q : hS → Prop} (n : Nat) : ∀ {S : hS} {v0 : Nat} {v1 : Int32} {v2 : Int32} (hw : w_X12_remember_b41 q n S v0 v1 v2), Z p l e R s m args below meth c (MQ below (hQ G B (vP q)) args s mc ms (fun r => B ≤ r)) G B mc ms 3 S 0 0 41 [some (.ref v0), some (.int v1), some (.int v2)] [] := by
  induction n with
  | zero => intro S v0 v1 v2 hw; exact (by rw [w_X12_remember_b41] at hw; exact hw.elim)
  | succ n ih =>
    intro S v0 v1 v2 hw
    rw [w_X12_remember_b41] at hw
    refine z_iload_n hC dX12_remember_41 rfl rfl ?_
    refine z_bipush hC bi_15 dX12_remember_42 ?_
    refine z_icmp_ge (tgt := 67) hC dX12_remember_44 (by decide) (fun c44 => ?_) (fun c44 => ?_)
    · have hw := hw.1 c44
      refine z_aload_n hC dX12_remember_67 rfl rfl ?_
      refine z_dup hC rfl dX12_remember_68 ?_
      refine z_getI hC FX12 8 lk_1363 dX12_remember_69 (by decide) hw (fun x69 hw => ?_)
      refine z_iconst hC ic_1 dX12_remember_72 ?_
      refine z_isub hC dX12_remember_73 ?_
      refine z_putI hC FX12 8 lk_1363 dX12_remember_74 (by decide) rfl rfl hw (fun S hw => ?_)
      refine z_mask (lv' := [some (.ref v0), some (.int v1), none]) [true, true, false] rfl ?_
      exact t_X12_remember_b77 hC hr hlk hnm hw
    · have hw := hw.2 c44
      refine z_aload_n hC dX12_remember_47 rfl rfl ?_
      refine z_getP hC FX12 7 lk_1362 dX12_remember_48 (by decide) hw (fun x48 hw => ?_)
      refine z_iload_n hC dX12_remember_51 rfl rfl ?_
      refine z_aload_n hC dX12_remember_52 rfl rfl ?_
      refine z_getP hC FX12 7 lk_1362 dX12_remember_53 (by decide) hw (fun x53 hw => ?_)
      refine z_iload_n hC dX12_remember_56 rfl rfl ?_
      refine z_iconst hC ic_1 dX12_remember_57 ?_
      refine z_iadd hC dX12_remember_58 ?_
      refine z_aldI hC dX12_remember_59 hw (fun x59 hw => ?_)
      refine z_astI hC dX12_remember_60 hw (fun S hw => ?_)
      refine z_inc (i := 2) hC ic_1 dX12_remember_61 rfl (by decide) (hok_v rfl rfl) (fun y61 e61 => ?_)
      have hw := hw y61 e61
      refine z_goto (tgt := 41) hC dX12_remember_64 (by decide) ?_
      refine z_mask (lv' := [some (.ref v0), some (.int v1), some (.int y61)]) [true, true, true] rfl ?_
      exact ih hw
def w_X12_remember_b11 (q : hS → Prop) : Nat → hS → (Nat) → (Int32) → (Int32) → Prop
  | 0, _, _, _, _ => False
  | n + 1, S, v0, v1, v2 => (1815 ≤ v2 → (∃ n41 : Nat, w_X12_remember_b41 q n41 S v0 v1 0)) ∧ (¬ 1815 ≤ v2 → gP S v0 12 6 (fun x19 => gP S v0 12 6 (fun x24 => aI S x24 (v2 + 121) (fun x31 => sI S x19 v2 x31 (fun S => ∀ y33 : Int32, y33 = v2 + 1 → w_X12_remember_b11 q n S v0 v1 y33)))))
set_option maxRecDepth 100000 in
set_option maxHeartbeats 4000000 in
theorem t_X12_remember_b11 (hC : zC p R s m args c cX12_remember 3 RX12 G B mc ms 2 82) (hr : meth.sig.returnType = (Option.none : Option FieldType)) (hlk : meth.locks = false) (hnm : meth.name = "remember") {q : hS → Prop} (n : Nat) : ∀ {S : hS} {v0 : Nat} {v1 : Int32} {v2 : Int32} (hw : w_X12_remember_b11 q n S v0 v1 v2), Z p l e R s m args below meth c (MQ below (hQ G B (vP q)) args s mc ms (fun r => B ≤ r)) G B mc ms 3 S 0 0 11 [some (.ref v0), some (.int v1), some (.int v2)] [] := by
  induction n with
  | zero => intro S v0 v1 v2 hw; exact (by rw [w_X12_remember_b11] at hw; exact hw.elim)
  | succ n ih =>
    intro S v0 v1 v2 hw
    rw [w_X12_remember_b11] at hw
    refine z_iload_n hC dX12_remember_11 rfl rfl ?_
    refine z_sipush hC si_1815 dX12_remember_12 ?_
    refine z_icmp_ge (tgt := 39) hC dX12_remember_15 (by decide) (fun c15 => ?_) (fun c15 => ?_)
    · have hw := hw.1 c15
      refine z_iconst hC ic_0 dX12_remember_39 ?_
      refine z_istore_n (i := 2) (lv' := [some (.ref v0), some (.int v1), some (.int 0)]) hC rfl dX12_remember_40 (by decide) (hok_v rfl rfl) rfl ?_
      refine z_mask (lv' := [some (.ref v0), some (.int v1), some (.int 0)]) [true, true, true] rfl ?_
      obtain ⟨n41, hw⟩ := hw
      exact t_X12_remember_b41 hC hr hlk hnm n41 hw
    · have hw := hw.2 c15
      refine z_aload_n hC dX12_remember_18 rfl rfl ?_
      refine z_getP hC FX12 6 lk_1361 dX12_remember_19 (by decide) hw (fun x19 hw => ?_)
      refine z_iload_n hC dX12_remember_22 rfl rfl ?_
      refine z_aload_n hC dX12_remember_23 rfl rfl ?_
      refine z_getP hC FX12 6 lk_1361 dX12_remember_24 (by decide) hw (fun x24 hw => ?_)
      refine z_iload_n hC dX12_remember_27 rfl rfl ?_
      refine z_bipush hC bi_121 dX12_remember_28 ?_
      refine z_iadd hC dX12_remember_30 ?_
      refine z_aldI hC dX12_remember_31 hw (fun x31 hw => ?_)
      refine z_astI hC dX12_remember_32 hw (fun S hw => ?_)
      refine z_inc (i := 2) hC ic_1 dX12_remember_33 rfl (by decide) (hok_v rfl rfl) (fun y33 e33 => ?_)
      have hw := hw y33 e33
      refine z_goto (tgt := 11) hC dX12_remember_36 (by decide) ?_
      refine z_mask (lv' := [some (.ref v0), some (.int v1), some (.int y33)]) [true, true, true] rfl ?_
      exact ih hw
def w_X12_remember (q : hS → Prop) (S : hS) (v0 : Nat) (v1 : Int32) : Prop := gI S v0 12 8 (fun x1 => (¬ x1 = 16 → w_X12_remember_b77 q S v0 v1) ∧ (x1 = 16 → (∃ n11 : Nat, w_X12_remember_b11 q n11 S v0 v1 0)))
set_option maxRecDepth 100000 in
set_option maxHeartbeats 4000000 in
theorem c_X12_remember (l : Launch) (G : hG) (B : Nat) (S : hS) (v0 : Nat) (v1 : Int32) (q : hS → Prop) : Met l yX12_remember (hws yX12_remember cX12_remember 3 (Option.none : Option FieldType)) ({ frames := 2, cells := 0, slots := 0, locals := 82 }) (hPc G B S [.ref v0, .int v1] (w_X12_remember q S v0 v1)) (hQ G B (vP q)) (0) (0) (fun r => B ≤ r) := by
  refine hMet (rm := { frames := 2, cells := 0, slots := 0, locals := 82 }) (lv := [some (.ref v0), some (.int v1), none]) (own := RX12) (fr := 2) (lo := 82) (by decide) rfl rfl rfl (Nat.le_of_ble_eq_true rfl) rfl (fun hw p e R s m args below meth c hC hr hlk hnm => ?_)
  unfold w_X12_remember at hw
  refine z_aload_n hC dX12_remember_0 rfl rfl ?_
  refine z_getI hC FX12 8 lk_1363 dX12_remember_1 (by decide) hw (fun x1 hw => ?_)
  refine z_bipush hC bi_16 dX12_remember_4 ?_
  refine z_icmp_ne (tgt := 77) hC dX12_remember_6 (by decide) (fun c6 => ?_) (fun c6 => ?_)
  · have hw := hw.1 c6
    refine z_mask (lv' := [some (.ref v0), some (.int v1), none]) [true, true, false] rfl ?_
    exact t_X12_remember_b77 hC hr hlk hnm hw
  · have hw := hw.2 c6
    refine z_iconst hC ic_0 dX12_remember_9 ?_
    refine z_istore_n (i := 2) (lv' := [some (.ref v0), some (.int v1), some (.int 0)]) hC rfl dX12_remember_10 (by decide) (hok_v rfl rfl) rfl ?_
    refine z_mask (lv' := [some (.ref v0), some (.int v1), some (.int 0)]) [true, true, true] rfl ?_
    obtain ⟨n11, hw⟩ := hw
    exact t_X12_remember_b11 hC hr hlk hnm n11 hw
end
section
variable {p : Program} {l : Launch} {e : Env} {R : Room} {s : State} {m : MethodId} {args : Array Value} {below : List Frame} {meth : Method} {c : Code} {G : hG} {B mc ms : Nat}
def w_X12_undo (q : Int32 → hS → Prop) (S : hS) (v0 : Nat) : Prop := pI S v0 12 0 0 (fun S => gI S v0 12 8 (fun x6 => (¬ x6 = 0 → gI S v0 12 8 (fun x21 => pI S v0 12 8 (x21 - 1) (fun S => gI S v0 12 8 (fun x31 => oK S v0 12 ∧ w_X12_putBack (fun S => gP S v0 12 7 (fun x39 => gI S v0 12 8 (fun x43 => aI S x39 x43 (fun x46 => oK S v0 12 ∧ w_X12_tell (fun x47 S => q x47 S) S v0 x46)))) S v0 x31)))) ∧ (x6 = 0 → oK S v0 12 ∧ w_X12_tell (fun x15 S => q x15 S) S v0 (-3))))
set_option maxRecDepth 100000 in
set_option maxHeartbeats 4000000 in
theorem c_X12_undo (l : Launch) (G : hG) (B : Nat) (S : hS) (v0 : Nat) (q : Int32 → hS → Prop) : Met l yX12_undo (hws yX12_undo cX12_undo 1 (Option.some FieldType.int)) ({ frames := 2, cells := 0, slots := 0, locals := 82 }) (hPc G B S [.ref v0] (w_X12_undo q S v0)) (hQ G B (iP q)) (0) (0) (fun r => B ≤ r) := by
  refine hMet (rm := { frames := 2, cells := 0, slots := 0, locals := 82 }) (lv := [some (.ref v0)]) (own := RX12) (fr := 2) (lo := 82) (by decide) rfl rfl rfl (Nat.le_of_ble_eq_true rfl) rfl (fun hw p e R s m args below meth c hC hr hlk hnm => ?_)
  unfold w_X12_undo at hw
  refine z_aload_n hC dX12_undo_0 rfl rfl ?_
  refine z_iconst hC ic_0 dX12_undo_1 ?_
  refine z_putI hC FX12 0 lk_1355 dX12_undo_2 (by decide) rfl rfl hw (fun S hw => ?_)
  refine z_aload_n hC dX12_undo_5 rfl rfl ?_
  refine z_getI hC FX12 8 lk_1363 dX12_undo_6 (by decide) hw (fun x6 hw => ?_)
  refine z_if_ne (tgt := 19) hC dX12_undo_9 (by decide) (fun c9 => ?_) (fun c9 => ?_)
  · have hw := hw.1 c9
    refine z_aload_n hC dX12_undo_19 rfl rfl ?_
    refine z_dup hC rfl dX12_undo_20 ?_
    refine z_getI hC FX12 8 lk_1363 dX12_undo_21 (by decide) hw (fun x21 hw => ?_)
    refine z_iconst hC ic_1 dX12_undo_24 ?_
    refine z_isub hC dX12_undo_25 ?_
    refine z_putI hC FX12 8 lk_1363 dX12_undo_26 (by decide) rfl rfl hw (fun S hw => ?_)
    refine z_aload_n hC dX12_undo_29 rfl rfl ?_
    refine z_aload_n hC dX12_undo_30 rfl rfl ?_
    refine z_getI hC FX12 8 lk_1363 dX12_undo_31 (by decide) hw (fun x31 hw => ?_)
    refine z_callV (ku' := 0) (kv' := 0) (n := 1) (As := [.int x31]) (st := []) hC (c_X12_putBack l G B S v0 x31 _) hw.2 hw.1 rfl lk_1548 lk_1550 lk_42 lk_133 lk_1551 hd_X12_putBack rfl rfl (Nat.le_of_ble_eq_true rfl) (Nat.le_of_ble_eq_true rfl) rfl (Nat.le_of_ble_eq_true rfl) dX12_undo_34 (Nat.le_refl 0) (Nat.le_refl 0) (kV (fun S hw => ?_))
    refine z_aload_n hC dX12_undo_37 rfl rfl ?_
    refine z_aload_n hC dX12_undo_38 rfl rfl ?_
    refine z_getP hC FX12 7 lk_1362 dX12_undo_39 (by decide) hw (fun x39 hw => ?_)
    refine z_aload_n hC dX12_undo_42 rfl rfl ?_
    refine z_getI hC FX12 8 lk_1363 dX12_undo_43 (by decide) hw (fun x43 hw => ?_)
    refine z_aldI hC dX12_undo_46 hw (fun x46 hw => ?_)
    refine z_callV (ku' := 0) (kv' := 0) (n := 1) (As := [.int x46]) (st := []) hC (c_X12_tell l G B S v0 x46 _) hw.2 hw.1 rfl lk_1544 lk_1546 lk_41 lk_133 lk_1547 hd_X12_tell rfl rfl (Nat.le_of_ble_eq_true rfl) (Nat.le_of_ble_eq_true rfl) rfl (Nat.le_of_ble_eq_true rfl) dX12_undo_47 (Nat.le_refl 0) (Nat.le_refl 0) (kI (fun x47 S hw => ?_))
    exact z_iret hC hr hlk dX12_undo_50 ⟨_, rfl, hw⟩
  · have hw := hw.2 c9
    refine z_aload_n hC dX12_undo_12 rfl rfl ?_
    refine z_bipush hC bi_m3 dX12_undo_13 ?_
    refine z_callV (ku' := 0) (kv' := 0) (n := 1) (As := [.int (-3)]) (st := []) hC (c_X12_tell l G B S v0 (-3) _) hw.2 hw.1 rfl lk_1544 lk_1546 lk_41 lk_133 lk_1547 hd_X12_tell rfl rfl (Nat.le_of_ble_eq_true rfl) (Nat.le_of_ble_eq_true rfl) rfl (Nat.le_of_ble_eq_true rfl) dX12_undo_15 (Nat.le_refl 0) (Nat.le_refl 0) (kI (fun x15 S hw => ?_))
    exact z_iret hC hr hlk dX12_undo_18 ⟨_, rfl, hw⟩
end
section
variable {p : Program} {l : Launch} {e : Env} {R : Room} {s : State} {m : MethodId} {args : Array Value} {below : List Frame} {meth : Method} {c : Code} {G : hG} {B mc ms : Nat}
def w_X12_image_b23 (q : Int32 → hS → Prop) : Nat → hS → (Nat) → (Int32) → (Int32) → Prop
  | 0, _, _, _, _ => False
  | n + 1, S, v0, v1, v2 => (5585 ≤ v2 → gP S v0 12 5 (fun x55 => sZ S x55 v1 1 (fun S => oK S v0 12 ∧ w_X12_tell (fun x63 S => q x63 S) S v0 0))) ∧ (¬ 5585 ≤ v2 → gP S v0 12 4 (fun x31 => gP S v0 12 3 (fun x42 => aI S x42 v2 (fun x46 => sI S x31 ((5585 * v1) + v2) x46 (fun S => ∀ y48 : Int32, y48 = v2 + 1 → w_X12_image_b23 q n S v0 v1 y48)))))
set_option maxRecDepth 100000 in
set_option maxHeartbeats 4000000 in
theorem t_X12_image_b23 (hC : zC p R s m args c cX12_image 3 RX12 G B mc ms 2 85) (hr : meth.sig.returnType = (Option.some FieldType.int)) (hlk : meth.locks = false) (hnm : meth.name = "image") {q : Int32 → hS → Prop} (n : Nat) : ∀ {S : hS} {v0 : Nat} {v1 : Int32} {v2 : Int32} (hw : w_X12_image_b23 q n S v0 v1 v2), Z p l e R s m args below meth c (MQ below (hQ G B (iP q)) args s mc ms (fun r => B ≤ r)) G B mc ms 3 S 0 0 23 [some (.ref v0), some (.int v1), some (.int v2)] [] := by
  induction n with
  | zero => intro S v0 v1 v2 hw; exact (by rw [w_X12_image_b23] at hw; exact hw.elim)
  | succ n ih =>
    intro S v0 v1 v2 hw
    rw [w_X12_image_b23] at hw
    refine z_iload_n hC dX12_image_23 rfl rfl ?_
    refine z_sipush hC si_5585 dX12_image_24 ?_
    refine z_icmp_ge (tgt := 54) hC dX12_image_27 (by decide) (fun c27 => ?_) (fun c27 => ?_)
    · have hw := hw.1 c27
      refine z_aload_n hC dX12_image_54 rfl rfl ?_
      refine z_getP hC FX12 5 lk_1360 dX12_image_55 (by decide) hw (fun x55 hw => ?_)
      refine z_iload_n hC dX12_image_58 rfl rfl ?_
      refine z_iconst hC ic_1 dX12_image_59 ?_
      refine z_astZ hC dX12_image_60 hw (fun S hw => ?_)
      refine z_aload_n hC dX12_image_61 rfl rfl ?_
      refine z_iconst hC ic_0 dX12_image_62 ?_
      refine z_callV (ku' := 0) (kv' := 0) (n := 1) (As := [.int 0]) (st := []) hC (c_X12_tell l G B S v0 0 _) hw.2 hw.1 rfl lk_1544 lk_1546 lk_41 lk_133 lk_1547 hd_X12_tell rfl rfl (Nat.le_of_ble_eq_true rfl) (Nat.le_of_ble_eq_true rfl) rfl (Nat.le_of_ble_eq_true rfl) dX12_image_63 (Nat.le_refl 0) (Nat.le_refl 0) (kI (fun x63 S hw => ?_))
      exact z_iret hC hr hlk dX12_image_66 ⟨_, rfl, hw⟩
    · have hw := hw.2 c27
      refine z_aload_n hC dX12_image_30 rfl rfl ?_
      refine z_getP hC FX12 4 lk_1359 dX12_image_31 (by decide) hw (fun x31 hw => ?_)
      refine z_sipush hC si_5585 dX12_image_34 ?_
      refine z_iload_n hC dX12_image_37 rfl rfl ?_
      refine z_imul hC dX12_image_38 ?_
      refine z_iload_n hC dX12_image_39 rfl rfl ?_
      refine z_iadd hC dX12_image_40 ?_
      refine z_aload_n hC dX12_image_41 rfl rfl ?_
      refine z_getP hC FX12 3 lk_1358 dX12_image_42 (by decide) hw (fun x42 hw => ?_)
      refine z_iload_n hC dX12_image_45 rfl rfl ?_
      refine z_aldI hC dX12_image_46 hw (fun x46 hw => ?_)
      refine z_astI hC dX12_image_47 hw (fun S hw => ?_)
      refine z_inc (i := 2) hC ic_1 dX12_image_48 rfl (by decide) (hok_v rfl rfl) (fun y48 e48 => ?_)
      have hw := hw y48 e48
      refine z_goto (tgt := 23) hC dX12_image_51 (by decide) ?_
      refine z_mask (lv' := [some (.ref v0), some (.int v1), some (.int y48)]) [true, true, true] rfl ?_
      exact ih hw
def w_X12_image (q : Int32 → hS → Prop) (S : hS) (v0 : Nat) (v1 : Int32) : Prop := pI S v0 12 0 0 (fun S => w_X12_in (fun x9 S => (¬ x9 = 0 → (∃ n23 : Nat, w_X12_image_b23 q n23 S v0 v1 0)) ∧ (x9 = 0 → oK S v0 12 ∧ w_X12_tell (fun x17 S => q x17 S) S v0 (-1))) S (Int32.toInt64 v1) 0 1)
set_option maxRecDepth 100000 in
set_option maxHeartbeats 4000000 in
theorem c_X12_image (l : Launch) (G : hG) (B : Nat) (S : hS) (v0 : Nat) (v1 : Int32) (q : Int32 → hS → Prop) : Met l yX12_image (hws yX12_image cX12_image 3 (Option.some FieldType.int)) ({ frames := 2, cells := 0, slots := 0, locals := 85 }) (hPc G B S [.ref v0, .int v1] (w_X12_image q S v0 v1)) (hQ G B (iP q)) (0) (0) (fun r => B ≤ r) := by
  refine hMet (rm := { frames := 2, cells := 0, slots := 0, locals := 85 }) (lv := [some (.ref v0), some (.int v1), none]) (own := RX12) (fr := 2) (lo := 85) (by decide) rfl rfl rfl (Nat.le_of_ble_eq_true rfl) rfl (fun hw p e R s m args below meth c hC hr hlk hnm => ?_)
  unfold w_X12_image at hw
  refine z_aload_n hC dX12_image_0 rfl rfl ?_
  refine z_iconst hC ic_0 dX12_image_1 ?_
  refine z_putI hC FX12 0 lk_1355 dX12_image_2 (by decide) rfl rfl hw (fun S hw => ?_)
  refine z_iload_n hC dX12_image_5 rfl rfl ?_
  refine z_i2l hC rfl dX12_image_6 ?_
  refine z_lconst hC lc_0 dX12_image_7 ?_
  refine z_lconst hC lc_1 dX12_image_8 ?_
  refine z_callS (ku' := 0) (kv' := 0) (n := 3) (As := [.long (Int32.toInt64 v1), .long 0, .long 1]) (st := []) hC (c_X12_in l G B S (Int32.toInt64 v1) 0 1 _) hw lk_1556 lk_1557 lk_133 lk_1558 hd_X12_in rfl rfl (Nat.le_of_ble_eq_true rfl) (Nat.le_of_ble_eq_true rfl) rfl (Nat.le_of_ble_eq_true rfl) dX12_image_9 (Nat.le_refl 0) (Nat.le_refl 0) (kI (fun x9 S hw => ?_))
  refine z_if_ne (tgt := 21) hC dX12_image_12 (by decide) (fun c12 => ?_) (fun c12 => ?_)
  · have hw := hw.1 c12
    refine z_iconst hC ic_0 dX12_image_21 ?_
    refine z_istore_n (i := 2) (lv' := [some (.ref v0), some (.int v1), some (.int 0)]) hC rfl dX12_image_22 (by decide) (hok_v rfl rfl) rfl ?_
    refine z_mask (lv' := [some (.ref v0), some (.int v1), some (.int 0)]) [true, true, true] rfl ?_
    obtain ⟨n23, hw⟩ := hw
    exact t_X12_image_b23 hC hr hlk hnm n23 hw
  · have hw := hw.2 c12
    refine z_aload_n hC dX12_image_15 rfl rfl ?_
    refine z_iconst hC ic_m1 dX12_image_16 ?_
    refine z_callV (ku' := 0) (kv' := 0) (n := 1) (As := [.int (-1)]) (st := []) hC (c_X12_tell l G B S v0 (-1) _) hw.2 hw.1 rfl lk_1544 lk_1546 lk_41 lk_133 lk_1547 hd_X12_tell rfl rfl (Nat.le_of_ble_eq_true rfl) (Nat.le_of_ble_eq_true rfl) rfl (Nat.le_of_ble_eq_true rfl) dX12_image_17 (Nat.le_refl 0) (Nat.le_refl 0) (kI (fun x17 S hw => ?_))
    exact z_iret hC hr hlk dX12_image_20 ⟨_, rfl, hw⟩
end
section
variable {p : Program} {l : Launch} {e : Env} {R : Room} {s : State} {m : MethodId} {args : Array Value} {below : List Frame} {meth : Method} {c : Code} {G : hG} {B mc ms : Nat}
def w_X12_back_b39 (q : Int32 → hS → Prop) : Nat → hS → (Nat) → (Int32) → (Int32) → Prop
  | 0, _, _, _, _ => False
  | n + 1, S, v0, v1, v2 => (5585 ≤ v2 → oK S v0 12 ∧ w_X12_settled (fun x72 S => q x72 S) S v0 0) ∧ (¬ 5585 ≤ v2 → gP S v0 12 3 (fun x47 => gP S v0 12 4 (fun x52 => aI S x52 ((5585 * v1) + v2) (fun x62 => sI S x47 v2 x62 (fun S => ∀ y64 : Int32, y64 = v2 + 1 → w_X12_back_b39 q n S v0 v1 y64)))))
set_option maxRecDepth 100000 in
set_option maxHeartbeats 4000000 in
theorem t_X12_back_b39 (hC : zC p R s m args c cX12_back 3 RX12 G B mc ms 3 102) (hr : meth.sig.returnType = (Option.some FieldType.int)) (hlk : meth.locks = false) (hnm : meth.name = "back") {q : Int32 → hS → Prop} (n : Nat) : ∀ {S : hS} {v0 : Nat} {v1 : Int32} {v2 : Int32} (hw : w_X12_back_b39 q n S v0 v1 v2), Z p l e R s m args below meth c (MQ below (hQ G B (iP q)) args s mc ms (fun r => B ≤ r)) G B mc ms 3 S 0 0 39 [some (.ref v0), some (.int v1), some (.int v2)] [] := by
  induction n with
  | zero => intro S v0 v1 v2 hw; exact (by rw [w_X12_back_b39] at hw; exact hw.elim)
  | succ n ih =>
    intro S v0 v1 v2 hw
    rw [w_X12_back_b39] at hw
    refine z_iload_n hC dX12_back_39 rfl rfl ?_
    refine z_sipush hC si_5585 dX12_back_40 ?_
    refine z_icmp_ge (tgt := 70) hC dX12_back_43 (by decide) (fun c43 => ?_) (fun c43 => ?_)
    · have hw := hw.1 c43
      refine z_aload_n hC dX12_back_70 rfl rfl ?_
      refine z_iconst hC ic_0 dX12_back_71 ?_
      refine z_callV (ku' := 0) (kv' := 0) (n := 1) (As := [.int 0]) (st := []) hC (c_X12_settled l G B S v0 0 _) hw.2 hw.1 rfl lk_1563 lk_1565 lk_43 lk_133 lk_1566 hd_X12_settled rfl rfl (Nat.le_of_ble_eq_true rfl) (Nat.le_of_ble_eq_true rfl) rfl (Nat.le_of_ble_eq_true rfl) dX12_back_72 (Nat.le_refl 0) (Nat.le_refl 0) (kI (fun x72 S hw => ?_))
      exact z_iret hC hr hlk dX12_back_75 ⟨_, rfl, hw⟩
    · have hw := hw.2 c43
      refine z_aload_n hC dX12_back_46 rfl rfl ?_
      refine z_getP hC FX12 3 lk_1358 dX12_back_47 (by decide) hw (fun x47 hw => ?_)
      refine z_iload_n hC dX12_back_50 rfl rfl ?_
      refine z_aload_n hC dX12_back_51 rfl rfl ?_
      refine z_getP hC FX12 4 lk_1359 dX12_back_52 (by decide) hw (fun x52 hw => ?_)
      refine z_sipush hC si_5585 dX12_back_55 ?_
      refine z_iload_n hC dX12_back_58 rfl rfl ?_
      refine z_imul hC dX12_back_59 ?_
      refine z_iload_n hC dX12_back_60 rfl rfl ?_
      refine z_iadd hC dX12_back_61 ?_
      refine z_aldI hC dX12_back_62 hw (fun x62 hw => ?_)
      refine z_astI hC dX12_back_63 hw (fun S hw => ?_)
      refine z_inc (i := 2) hC ic_1 dX12_back_64 rfl (by decide) (hok_v rfl rfl) (fun y64 e64 => ?_)
      have hw := hw y64 e64
      refine z_goto (tgt := 39) hC dX12_back_67 (by decide) ?_
      refine z_mask (lv' := [some (.ref v0), some (.int v1), some (.int y64)]) [true, true, true] rfl ?_
      exact ih hw
def w_X12_back (q : Int32 → hS → Prop) (S : hS) (v0 : Nat) (v1 : Int32) : Prop := pI S v0 12 0 0 (fun S => w_X12_in (fun x9 S => (¬ x9 = 0 → gP S v0 12 5 (fun x22 => aZ S x22 v1 (fun x26 => (¬ x26 = 0 → (∃ n39 : Nat, w_X12_back_b39 q n39 S v0 v1 0)) ∧ (x26 = 0 → oK S v0 12 ∧ w_X12_tell (fun x33 S => q x33 S) S v0 (-2))))) ∧ (x9 = 0 → oK S v0 12 ∧ w_X12_tell (fun x17 S => q x17 S) S v0 (-1))) S (Int32.toInt64 v1) 0 1)
set_option maxRecDepth 100000 in
set_option maxHeartbeats 4000000 in
theorem c_X12_back (l : Launch) (G : hG) (B : Nat) (S : hS) (v0 : Nat) (v1 : Int32) (q : Int32 → hS → Prop) : Met l yX12_back (hws yX12_back cX12_back 3 (Option.some FieldType.int)) ({ frames := 3, cells := 0, slots := 0, locals := 102 }) (hPc G B S [.ref v0, .int v1] (w_X12_back q S v0 v1)) (hQ G B (iP q)) (0) (0) (fun r => B ≤ r) := by
  refine hMet (rm := { frames := 3, cells := 0, slots := 0, locals := 102 }) (lv := [some (.ref v0), some (.int v1), none]) (own := RX12) (fr := 3) (lo := 102) (by decide) rfl rfl rfl (Nat.le_of_ble_eq_true rfl) rfl (fun hw p e R s m args below meth c hC hr hlk hnm => ?_)
  unfold w_X12_back at hw
  refine z_aload_n hC dX12_back_0 rfl rfl ?_
  refine z_iconst hC ic_0 dX12_back_1 ?_
  refine z_putI hC FX12 0 lk_1355 dX12_back_2 (by decide) rfl rfl hw (fun S hw => ?_)
  refine z_iload_n hC dX12_back_5 rfl rfl ?_
  refine z_i2l hC rfl dX12_back_6 ?_
  refine z_lconst hC lc_0 dX12_back_7 ?_
  refine z_lconst hC lc_1 dX12_back_8 ?_
  refine z_callS (ku' := 0) (kv' := 0) (n := 3) (As := [.long (Int32.toInt64 v1), .long 0, .long 1]) (st := []) hC (c_X12_in l G B S (Int32.toInt64 v1) 0 1 _) hw lk_1556 lk_1557 lk_133 lk_1558 hd_X12_in rfl rfl (Nat.le_of_ble_eq_true rfl) (Nat.le_of_ble_eq_true rfl) rfl (Nat.le_of_ble_eq_true rfl) dX12_back_9 (Nat.le_refl 0) (Nat.le_refl 0) (kI (fun x9 S hw => ?_))
  refine z_if_ne (tgt := 21) hC dX12_back_12 (by decide) (fun c12 => ?_) (fun c12 => ?_)
  · have hw := hw.1 c12
    refine z_aload_n hC dX12_back_21 rfl rfl ?_
    refine z_getP hC FX12 5 lk_1360 dX12_back_22 (by decide) hw (fun x22 hw => ?_)
    refine z_iload_n hC dX12_back_25 rfl rfl ?_
    refine z_aldZ hC dX12_back_26 hw (fun x26 hw => ?_)
    refine z_if_ne (tgt := 37) hC dX12_back_27 (by decide) (fun c27 => ?_) (fun c27 => ?_)
    · have hw := hw.1 c27
      refine z_iconst hC ic_0 dX12_back_37 ?_
      refine z_istore_n (i := 2) (lv' := [some (.ref v0), some (.int v1), some (.int 0)]) hC rfl dX12_back_38 (by decide) (hok_v rfl rfl) rfl ?_
      refine z_mask (lv' := [some (.ref v0), some (.int v1), some (.int 0)]) [true, true, true] rfl ?_
      obtain ⟨n39, hw⟩ := hw
      exact t_X12_back_b39 hC hr hlk hnm n39 hw
    · have hw := hw.2 c27
      refine z_aload_n hC dX12_back_30 rfl rfl ?_
      refine z_bipush hC bi_m2 dX12_back_31 ?_
      refine z_callV (ku' := 0) (kv' := 0) (n := 1) (As := [.int (-2)]) (st := []) hC (c_X12_tell l G B S v0 (-2) _) hw.2 hw.1 rfl lk_1544 lk_1546 lk_41 lk_133 lk_1547 hd_X12_tell rfl rfl (Nat.le_of_ble_eq_true rfl) (Nat.le_of_ble_eq_true rfl) rfl (Nat.le_of_ble_eq_true rfl) dX12_back_33 (Nat.le_refl 0) (Nat.le_refl 0) (kI (fun x33 S hw => ?_))
      exact z_iret hC hr hlk dX12_back_36 ⟨_, rfl, hw⟩
  · have hw := hw.2 c12
    refine z_aload_n hC dX12_back_15 rfl rfl ?_
    refine z_iconst hC ic_m1 dX12_back_16 ?_
    refine z_callV (ku' := 0) (kv' := 0) (n := 1) (As := [.int (-1)]) (st := []) hC (c_X12_tell l G B S v0 (-1) _) hw.2 hw.1 rfl lk_1544 lk_1546 lk_41 lk_133 lk_1547 hd_X12_tell rfl rfl (Nat.le_of_ble_eq_true rfl) (Nat.le_of_ble_eq_true rfl) rfl (Nat.le_of_ble_eq_true rfl) dX12_back_17 (Nat.le_refl 0) (Nat.le_refl 0) (kI (fun x17 S hw => ?_))
    exact z_iret hC hr hlk dX12_back_20 ⟨_, rfl, hw⟩
end
section
variable {p : Program} {l : Launch} {e : Env} {R : Room} {s : State} {m : MethodId} {args : Array Value} {below : List Frame} {meth : Method} {c : Code} {G : hG} {B mc ms : Nat}
def w_X12_isHouse (q : Int32 → hS → Prop) (S : hS) (v0 : Nat) (v1 : Int32) : Prop := gP S v0 12 3 (fun x4 => aI S x4 0 (fun x8 => w_X12_in (fun x12 S => (x12 = 0 ∨ x12 = 1) ∧ q x12 S) S (Int32.toInt64 v1) 0 ((Int32.toInt64 x8) - 1)))
set_option maxRecDepth 100000 in
set_option maxHeartbeats 4000000 in
theorem c_X12_isHouse (l : Launch) (G : hG) (B : Nat) (S : hS) (v0 : Nat) (v1 : Int32) (q : Int32 → hS → Prop) : Met l yX12_isHouse (hws yX12_isHouse cX12_isHouse 2 (Option.some FieldType.boolean)) ({ frames := 2, cells := 0, slots := 0, locals := 85 }) (hPc G B S [.ref v0, .int v1] (w_X12_isHouse q S v0 v1)) (hQ G B (iP q)) (0) (0) (fun r => B ≤ r) := by
  refine hMet (rm := { frames := 2, cells := 0, slots := 0, locals := 85 }) (lv := [some (.ref v0), some (.int v1)]) (own := RX12) (fr := 2) (lo := 85) (by decide) rfl rfl rfl (Nat.le_of_ble_eq_true rfl) rfl (fun hw p e R s m args below meth c hC hr hlk hnm => ?_)
  unfold w_X12_isHouse at hw
  refine z_iload_n hC dX12_isHouse_0 rfl rfl ?_
  refine z_i2l hC rfl dX12_isHouse_1 ?_
  refine z_lconst hC lc_0 dX12_isHouse_2 ?_
  refine z_aload_n hC dX12_isHouse_3 rfl rfl ?_
  refine z_getP hC FX12 3 lk_1358 dX12_isHouse_4 (by decide) hw (fun x4 hw => ?_)
  refine z_iconst hC ic_0 dX12_isHouse_7 ?_
  refine z_aldI hC dX12_isHouse_8 hw (fun x8 hw => ?_)
  refine z_i2l hC rfl dX12_isHouse_9 ?_
  refine z_lconst hC lc_1 dX12_isHouse_10 ?_
  refine z_lsub hC dX12_isHouse_11 ?_
  refine z_callS (ku' := 0) (kv' := 0) (n := 3) (As := [.long (Int32.toInt64 v1), .long 0, .long ((Int32.toInt64 x8) - 1)]) (st := []) hC (c_X12_in l G B S (Int32.toInt64 v1) 0 ((Int32.toInt64 x8) - 1) _) hw lk_1556 lk_1557 lk_133 lk_1558 hd_X12_in rfl rfl (Nat.le_of_ble_eq_true rfl) (Nat.le_of_ble_eq_true rfl) rfl (Nat.le_of_ble_eq_true rfl) dX12_isHouse_12 (Nat.le_refl 0) (Nat.le_refl 0) (kI (fun x12 S hw => ?_))
  exact z_zret hC hr hlk (hz01 hw.1).1 dX12_isHouse_15 ⟨_, rfl, hw.2⟩
end
section
variable {p : Program} {l : Launch} {e : Env} {R : Room} {s : State} {m : MethodId} {args : Array Value} {below : List Frame} {meth : Method} {c : Code} {G : hG} {B mc ms : Nat}
def w_X12_isPerson (q : Int32 → hS → Prop) (S : hS) (v0 : Nat) (v1 : Int32) : Prop := gP S v0 12 3 (fun x4 => aI S x4 1 (fun x8 => w_X12_in (fun x12 S => (x12 = 0 ∨ x12 = 1) ∧ q x12 S) S (Int32.toInt64 v1) 0 ((Int32.toInt64 x8) - 1)))
set_option maxRecDepth 100000 in
set_option maxHeartbeats 4000000 in
theorem c_X12_isPerson (l : Launch) (G : hG) (B : Nat) (S : hS) (v0 : Nat) (v1 : Int32) (q : Int32 → hS → Prop) : Met l yX12_isPerson (hws yX12_isPerson cX12_isPerson 2 (Option.some FieldType.boolean)) ({ frames := 2, cells := 0, slots := 0, locals := 85 }) (hPc G B S [.ref v0, .int v1] (w_X12_isPerson q S v0 v1)) (hQ G B (iP q)) (0) (0) (fun r => B ≤ r) := by
  refine hMet (rm := { frames := 2, cells := 0, slots := 0, locals := 85 }) (lv := [some (.ref v0), some (.int v1)]) (own := RX12) (fr := 2) (lo := 85) (by decide) rfl rfl rfl (Nat.le_of_ble_eq_true rfl) rfl (fun hw p e R s m args below meth c hC hr hlk hnm => ?_)
  unfold w_X12_isPerson at hw
  refine z_iload_n hC dX12_isPerson_0 rfl rfl ?_
  refine z_i2l hC rfl dX12_isPerson_1 ?_
  refine z_lconst hC lc_0 dX12_isPerson_2 ?_
  refine z_aload_n hC dX12_isPerson_3 rfl rfl ?_
  refine z_getP hC FX12 3 lk_1358 dX12_isPerson_4 (by decide) hw (fun x4 hw => ?_)
  refine z_iconst hC ic_1 dX12_isPerson_7 ?_
  refine z_aldI hC dX12_isPerson_8 hw (fun x8 hw => ?_)
  refine z_i2l hC rfl dX12_isPerson_9 ?_
  refine z_lconst hC lc_1 dX12_isPerson_10 ?_
  refine z_lsub hC dX12_isPerson_11 ?_
  refine z_callS (ku' := 0) (kv' := 0) (n := 3) (As := [.long (Int32.toInt64 v1), .long 0, .long ((Int32.toInt64 x8) - 1)]) (st := []) hC (c_X12_in l G B S (Int32.toInt64 v1) 0 ((Int32.toInt64 x8) - 1) _) hw lk_1556 lk_1557 lk_133 lk_1558 hd_X12_in rfl rfl (Nat.le_of_ble_eq_true rfl) (Nat.le_of_ble_eq_true rfl) rfl (Nat.le_of_ble_eq_true rfl) dX12_isPerson_12 (Nat.le_refl 0) (Nat.le_refl 0) (kI (fun x12 S hw => ?_))
  exact z_zret hC hr hlk (hz01 hw.1).1 dX12_isPerson_15 ⟨_, rfl, hw.2⟩
end
section
variable {p : Program} {l : Launch} {e : Env} {R : Room} {s : State} {m : MethodId} {args : Array Value} {below : List Frame} {meth : Method} {c : Code} {G : hG} {B mc ms : Nat}
def w_X12_isPlace (q : Int32 → hS → Prop) (S : hS) (v0 : Int32) : Prop := w_X12_in (fun x6 S => (x6 = 0 ∨ x6 = 1) ∧ q x6 S) S (Int32.toInt64 v0) 0 24
set_option maxRecDepth 100000 in
set_option maxHeartbeats 4000000 in
theorem c_X12_isPlace (l : Launch) (G : hG) (B : Nat) (S : hS) (v0 : Int32) (q : Int32 → hS → Prop) : Met l yX12_isPlace (hws yX12_isPlace cX12_isPlace 1 (Option.some FieldType.boolean)) ({ frames := 2, cells := 0, slots := 0, locals := 85 }) (hPc G B S [.int v0] (w_X12_isPlace q S v0)) (hQ G B (iP q)) (0) (0) (fun r => B ≤ r) := by
  refine hMet (rm := { frames := 2, cells := 0, slots := 0, locals := 85 }) (lv := [some (.int v0)]) (own := RX12) (fr := 2) (lo := 85) (by decide) rfl rfl rfl (Nat.le_of_ble_eq_true rfl) rfl (fun hw p e R s m args below meth c hC hr hlk hnm => ?_)
  unfold w_X12_isPlace at hw
  refine z_iload_n hC dX12_isPlace_0 rfl rfl ?_
  refine z_i2l hC rfl dX12_isPlace_1 ?_
  refine z_lconst hC lc_0 dX12_isPlace_2 ?_
  refine z_ldc2 hC lk_1574 dX12_isPlace_3 ?_
  refine z_callS (ku' := 0) (kv' := 0) (n := 3) (As := [.long (Int32.toInt64 v0), .long 0, .long 24]) (st := []) hC (c_X12_in l G B S (Int32.toInt64 v0) 0 24 _) hw lk_1556 lk_1557 lk_133 lk_1558 hd_X12_in rfl rfl (Nat.le_of_ble_eq_true rfl) (Nat.le_of_ble_eq_true rfl) rfl (Nat.le_of_ble_eq_true rfl) dX12_isPlace_6 (Nat.le_refl 0) (Nat.le_refl 0) (kI (fun x6 S hw => ?_))
  exact z_zret hC hr hlk (hz01 hw.1).1 dX12_isPlace_9 ⟨_, rfl, hw.2⟩
end
section
variable {p : Program} {l : Launch} {e : Env} {R : Room} {s : State} {m : MethodId} {args : Array Value} {below : List Frame} {meth : Method} {c : Code} {G : hG} {B mc ms : Nat}
def w_X12_lives (q : Int32 → hS → Prop) (S : hS) (v0 : Nat) (v1 : Int32) : Prop := gP S v0 12 3 (fun x1 => aI S x1 (22 + v1) (fun x8 => (¬ x8 = 0 → q 0 S) ∧ (x8 = 0 → q 1 S)))
set_option maxRecDepth 100000 in
set_option maxHeartbeats 4000000 in
theorem c_X12_lives (l : Launch) (G : hG) (B : Nat) (S : hS) (v0 : Nat) (v1 : Int32) (q : Int32 → hS → Prop) : Met l yX12_lives (hws yX12_lives cX12_lives 2 (Option.some FieldType.boolean)) ({ frames := 1, cells := 0, slots := 0, locals := 60 }) (hPc G B S [.ref v0, .int v1] (w_X12_lives q S v0 v1)) (hQ G B (iP q)) (0) (0) (fun r => B ≤ r) := by
  refine hMet (rm := { frames := 1, cells := 0, slots := 0, locals := 60 }) (lv := [some (.ref v0), some (.int v1)]) (own := RX12) (fr := 1) (lo := 60) (by decide) rfl rfl rfl (Nat.le_of_ble_eq_true rfl) rfl (fun hw p e R s m args below meth c hC hr hlk hnm => ?_)
  unfold w_X12_lives at hw
  refine z_aload_n hC dX12_lives_0 rfl rfl ?_
  refine z_getP hC FX12 3 lk_1358 dX12_lives_1 (by decide) hw (fun x1 hw => ?_)
  refine z_bipush hC bi_22 dX12_lives_4 ?_
  refine z_iload_n hC dX12_lives_6 rfl rfl ?_
  refine z_iadd hC dX12_lives_7 ?_
  refine z_aldI hC dX12_lives_8 hw (fun x8 hw => ?_)
  refine z_if_ne (tgt := 16) hC dX12_lives_9 (by decide) (fun c9 => ?_) (fun c9 => ?_)
  · have hw := hw.1 c9
    refine z_iconst hC ic_0 dX12_lives_16 ?_
    exact z_zret hC hr hlk (hz01 (Or.inl rfl)).1 dX12_lives_17 ⟨_, rfl, hw⟩
  · have hw := hw.2 c9
    refine z_iconst hC ic_1 dX12_lives_12 ?_
    refine z_goto (tgt := 17) hC dX12_lives_13 (by decide) ?_
    exact z_zret hC hr hlk (hz01 (Or.inr rfl)).1 dX12_lives_17 ⟨_, rfl, hw⟩
end
section
variable {p : Program} {l : Launch} {e : Env} {R : Room} {s : State} {m : MethodId} {args : Array Value} {below : List Frame} {meth : Method} {c : Code} {G : hG} {B mc ms : Nat}
def w_X12_living_b30 (q : Int32 → hS → Prop) (K4 : hS → (Nat) → (Int32) → (Int32) → Prop) (S : hS) (v0 : Nat) (v2 : Int32) (t0 : Int32) (t1 : Int32) : Prop := ∀ y31 : Int32, y31 = (t1 ||| t0) → ∀ y32 : Int32, y32 = v2 + 1 → K4 S v0 y31 y32
set_option maxRecDepth 100000 in
set_option maxHeartbeats 4000000 in
theorem t_X12_living_b30 (hC : zC p R s m args c cX12_living 3 RX12 G B mc ms 2 81) (hr : meth.sig.returnType = (Option.some FieldType.int)) (hlk : meth.locks = false) (hnm : meth.name = "living") {q : Int32 → hS → Prop} {K4 : hS → (Nat) → (Int32) → (Int32) → Prop} (hK4 : ∀ {S : hS} {v0 : Nat} {v1 : Int32} {v2 : Int32}, K4 S v0 v1 v2 → Z p l e R s m args below meth c (MQ below (hQ G B (iP q)) args s mc ms (fun r => B ≤ r)) G B mc ms 3 S 0 0 4 [some (.ref v0), some (.int v1), some (.int v2)] []) {S : hS} {v0 : Nat} {v2 : Int32} {t0 : Int32} {t1 : Int32} (hw : w_X12_living_b30 q K4 S v0 v2 t0 t1) : Z p l e R s m args below meth c (MQ below (hQ G B (iP q)) args s mc ms (fun r => B ≤ r)) G B mc ms 3 S 0 0 30 [some (.ref v0), none, some (.int v2)] [.int t0, .int t1] := by
  unfold w_X12_living_b30 at hw
  refine z_ior hC dX12_living_30 ?_
  refine z_nmI (fun y31 e31 => ?_)
  have hw := hw y31 e31
  refine z_istore_n (i := 1) (lv' := [some (.ref v0), some (.int y31), some (.int v2)]) hC rfl dX12_living_31 (by decide) (hok_v rfl rfl) rfl ?_
  refine z_inc (i := 2) hC ic_1 dX12_living_32 rfl (by decide) (hok_v rfl rfl) (fun y32 e32 => ?_)
  have hw := hw y32 e32
  refine z_goto (tgt := 4) hC dX12_living_35 (by decide) ?_
  refine z_mask (lv' := [some (.ref v0), some (.int y31), some (.int y32)]) [true, true, true] rfl ?_
  exact hK4 hw
def w_X12_living_b4 (q : Int32 → hS → Prop) : Nat → hS → (Nat) → (Int32) → (Int32) → Prop
  | 0, _, _, _, _ => False
  | n + 1, S, v0, v1, v2 => gP S v0 12 3 (fun x6 => aI S x6 1 (fun x10 => (x10 ≤ v2 → q v1 S) ∧ (¬ x10 ≤ v2 → oK S v0 12 ∧ w_X12_lives (fun x17 S => (x17 = 0 → w_X12_living_b30 q (fun S v0 v1 v2 => w_X12_living_b4 q n S v0 v1 v2) S v0 v2 0 v1) ∧ (¬ x17 = 0 → w_X12_living_b30 q (fun S v0 v1 v2 => w_X12_living_b4 q n S v0 v1 v2) S v0 v2 (1 <<< (v2 &&& 31)) v1)) S v0 v2)))
set_option maxRecDepth 100000 in
set_option maxHeartbeats 4000000 in
theorem t_X12_living_b4 (hC : zC p R s m args c cX12_living 3 RX12 G B mc ms 2 81) (hr : meth.sig.returnType = (Option.some FieldType.int)) (hlk : meth.locks = false) (hnm : meth.name = "living") {q : Int32 → hS → Prop} (n : Nat) : ∀ {S : hS} {v0 : Nat} {v1 : Int32} {v2 : Int32} (hw : w_X12_living_b4 q n S v0 v1 v2), Z p l e R s m args below meth c (MQ below (hQ G B (iP q)) args s mc ms (fun r => B ≤ r)) G B mc ms 3 S 0 0 4 [some (.ref v0), some (.int v1), some (.int v2)] [] := by
  induction n with
  | zero => intro S v0 v1 v2 hw; exact (by rw [w_X12_living_b4] at hw; exact hw.elim)
  | succ n ih =>
    intro S v0 v1 v2 hw
    rw [w_X12_living_b4] at hw
    refine z_iload_n hC dX12_living_4 rfl rfl ?_
    refine z_aload_n hC dX12_living_5 rfl rfl ?_
    refine z_getP hC FX12 3 lk_1358 dX12_living_6 (by decide) hw (fun x6 hw => ?_)
    refine z_iconst hC ic_1 dX12_living_9 ?_
    refine z_aldI hC dX12_living_10 hw (fun x10 hw => ?_)
    refine z_icmp_ge (tgt := 38) hC dX12_living_11 (by decide) (fun c11 => ?_) (fun c11 => ?_)
    · have hw := hw.1 c11
      refine z_iload_n hC dX12_living_38 rfl rfl ?_
      exact z_iret hC hr hlk dX12_living_39 ⟨_, rfl, hw⟩
    · have hw := hw.2 c11
      refine z_iload_n hC dX12_living_14 rfl rfl ?_
      refine z_aload_n hC dX12_living_15 rfl rfl ?_
      refine z_iload_n hC dX12_living_16 rfl rfl ?_
      refine z_callV (ku' := 0) (kv' := 0) (n := 1) (As := [.int v2]) (st := [.int v1]) hC (c_X12_lives l G B S v0 v2 _) hw.2 hw.1 rfl lk_1644 lk_1646 lk_56 lk_133 lk_1647 hd_X12_lives rfl rfl (Nat.le_of_ble_eq_true rfl) (Nat.le_of_ble_eq_true rfl) rfl (Nat.le_of_ble_eq_true rfl) dX12_living_17 (Nat.le_refl 0) (Nat.le_refl 0) (kI (fun x17 S hw => ?_))
      refine z_if_eq (tgt := 29) hC dX12_living_20 (by decide) (fun c20 => ?_) (fun c20 => ?_)
      · have hw := hw.1 c20
        refine z_iconst hC ic_0 dX12_living_29 ?_
        refine z_mask (lv' := [some (.ref v0), none, some (.int v2)]) [true, false, true] rfl ?_
        exact t_X12_living_b30 hC hr hlk hnm (fun hw => ih hw) hw
      · have hw := hw.2 c20
        refine z_iconst hC ic_1 dX12_living_23 ?_
        refine z_iload_n hC dX12_living_24 rfl rfl ?_
        refine z_ishl hC dX12_living_25 ?_
        refine z_goto (tgt := 30) hC dX12_living_26 (by decide) ?_
        refine z_mask (lv' := [some (.ref v0), none, some (.int v2)]) [true, false, true] rfl ?_
        exact t_X12_living_b30 hC hr hlk hnm (fun hw => ih hw) hw
def w_X12_living (q : Int32 → hS → Prop) (S : hS) (v0 : Nat) : Prop := (∃ n4 : Nat, w_X12_living_b4 q n4 S v0 0 0)
set_option maxRecDepth 100000 in
set_option maxHeartbeats 4000000 in
theorem c_X12_living (l : Launch) (G : hG) (B : Nat) (S : hS) (v0 : Nat) (q : Int32 → hS → Prop) : Met l yX12_living (hws yX12_living cX12_living 3 (Option.some FieldType.int)) ({ frames := 2, cells := 0, slots := 0, locals := 81 }) (hPc G B S [.ref v0] (w_X12_living q S v0)) (hQ G B (iP q)) (0) (0) (fun r => B ≤ r) := by
  refine hMet (rm := { frames := 2, cells := 0, slots := 0, locals := 81 }) (lv := [some (.ref v0), none, none]) (own := RX12) (fr := 2) (lo := 81) (by decide) rfl rfl rfl (Nat.le_of_ble_eq_true rfl) rfl (fun hw p e R s m args below meth c hC hr hlk hnm => ?_)
  unfold w_X12_living at hw
  refine z_iconst hC ic_0 dX12_living_0 ?_
  refine z_istore_n (i := 1) (lv' := [some (.ref v0), some (.int 0), none]) hC rfl dX12_living_1 (by decide) (hok_v rfl rfl) rfl ?_
  refine z_iconst hC ic_0 dX12_living_2 ?_
  refine z_istore_n (i := 2) (lv' := [some (.ref v0), some (.int 0), some (.int 0)]) hC rfl dX12_living_3 (by decide) (hok_v rfl rfl) rfl ?_
  refine z_mask (lv' := [some (.ref v0), some (.int 0), some (.int 0)]) [true, true, true] rfl ?_
  obtain ⟨n4, hw⟩ := hw
  exact t_X12_living_b4 hC hr hlk hnm n4 hw
end
section
variable {p : Program} {l : Launch} {e : Env} {R : Room} {s : State} {m : MethodId} {args : Array Value} {below : List Frame} {meth : Method} {c : Code} {G : hG} {B mc ms : Nat}
def w_X12_rights (q : Int32 → hS → Prop) (S : hS) (v0 : Nat) (v1 : Int32) (v2 : Int32) : Prop := gP S v0 12 3 (fun x1 => aI S x1 ((30 + (6 * v1)) + v2) (fun x13 => q x13 S))
set_option maxRecDepth 100000 in
set_option maxHeartbeats 4000000 in
theorem c_X12_rights (l : Launch) (G : hG) (B : Nat) (S : hS) (v0 : Nat) (v1 : Int32) (v2 : Int32) (q : Int32 → hS → Prop) : Met l yX12_rights (hws yX12_rights cX12_rights 3 (Option.some FieldType.int)) ({ frames := 1, cells := 0, slots := 0, locals := 60 }) (hPc G B S [.ref v0, .int v1, .int v2] (w_X12_rights q S v0 v1 v2)) (hQ G B (iP q)) (0) (0) (fun r => B ≤ r) := by
  refine hMet (rm := { frames := 1, cells := 0, slots := 0, locals := 60 }) (lv := [some (.ref v0), some (.int v1), some (.int v2)]) (own := RX12) (fr := 1) (lo := 60) (by decide) rfl rfl rfl (Nat.le_of_ble_eq_true rfl) rfl (fun hw p e R s m args below meth c hC hr hlk hnm => ?_)
  unfold w_X12_rights at hw
  refine z_aload_n hC dX12_rights_0 rfl rfl ?_
  refine z_getP hC FX12 3 lk_1358 dX12_rights_1 (by decide) hw (fun x1 hw => ?_)
  refine z_bipush hC bi_30 dX12_rights_4 ?_
  refine z_bipush hC bi_6 dX12_rights_6 ?_
  refine z_iload_n hC dX12_rights_8 rfl rfl ?_
  refine z_imul hC dX12_rights_9 ?_
  refine z_iadd hC dX12_rights_10 ?_
  refine z_iload_n hC dX12_rights_11 rfl rfl ?_
  refine z_iadd hC dX12_rights_12 ?_
  refine z_aldI hC dX12_rights_13 hw (fun x13 hw => ?_)
  exact z_iret hC hr hlk dX12_rights_14 ⟨_, rfl, hw⟩
end
section
variable {p : Program} {l : Launch} {e : Env} {R : Room} {s : State} {m : MethodId} {args : Array Value} {below : List Frame} {meth : Method} {c : Code} {G : hG} {B mc ms : Nat}
def w_X12_leftOf (q : Int32 → hS → Prop) (S : hS) (v0 : Nat) (v1 : Int32) (v2 : Int32) : Prop := oK S v0 12 ∧ w_X12_rights (fun x3 S => gP S v0 12 3 (fun x7 => aI S x7 ((78 + (6 * v1)) + v2) (fun x19 => q (x3 - x19) S))) S v0 v1 v2
set_option maxRecDepth 100000 in
set_option maxHeartbeats 4000000 in
theorem c_X12_leftOf (l : Launch) (G : hG) (B : Nat) (S : hS) (v0 : Nat) (v1 : Int32) (v2 : Int32) (q : Int32 → hS → Prop) : Met l yX12_leftOf (hws yX12_leftOf cX12_leftOf 3 (Option.some FieldType.int)) ({ frames := 2, cells := 0, slots := 0, locals := 82 }) (hPc G B S [.ref v0, .int v1, .int v2] (w_X12_leftOf q S v0 v1 v2)) (hQ G B (iP q)) (0) (0) (fun r => B ≤ r) := by
  refine hMet (rm := { frames := 2, cells := 0, slots := 0, locals := 82 }) (lv := [some (.ref v0), some (.int v1), some (.int v2)]) (own := RX12) (fr := 2) (lo := 82) (by decide) rfl rfl rfl (Nat.le_of_ble_eq_true rfl) rfl (fun hw p e R s m args below meth c hC hr hlk hnm => ?_)
  unfold w_X12_leftOf at hw
  refine z_aload_n hC dX12_leftOf_0 rfl rfl ?_
  refine z_iload_n hC dX12_leftOf_1 rfl rfl ?_
  refine z_iload_n hC dX12_leftOf_2 rfl rfl ?_
  refine z_callV (ku' := 0) (kv' := 0) (n := 2) (As := [.int v1, .int v2]) (st := []) hC (c_X12_rights l G B S v0 v1 v2 _) hw.2 hw.1 rfl lk_1588 lk_1590 lk_46 lk_133 lk_1591 hd_X12_rights rfl rfl (Nat.le_of_ble_eq_true rfl) (Nat.le_of_ble_eq_true rfl) rfl (Nat.le_of_ble_eq_true rfl) dX12_leftOf_3 (Nat.le_refl 0) (Nat.le_refl 0) (kI (fun x3 S hw => ?_))
  refine z_aload_n hC dX12_leftOf_6 rfl rfl ?_
  refine z_getP hC FX12 3 lk_1358 dX12_leftOf_7 (by decide) hw (fun x7 hw => ?_)
  refine z_bipush hC bi_78 dX12_leftOf_10 ?_
  refine z_bipush hC bi_6 dX12_leftOf_12 ?_
  refine z_iload_n hC dX12_leftOf_14 rfl rfl ?_
  refine z_imul hC dX12_leftOf_15 ?_
  refine z_iadd hC dX12_leftOf_16 ?_
  refine z_iload_n hC dX12_leftOf_17 rfl rfl ?_
  refine z_iadd hC dX12_leftOf_18 ?_
  refine z_aldI hC dX12_leftOf_19 hw (fun x19 hw => ?_)
  refine z_isub hC dX12_leftOf_20 ?_
  exact z_iret hC hr hlk dX12_leftOf_21 ⟨_, rfl, hw⟩
end
section
variable {p : Program} {l : Launch} {e : Env} {R : Room} {s : State} {m : MethodId} {args : Array Value} {below : List Frame} {meth : Method} {c : Code} {G : hG} {B mc ms : Nat}
def w_X12_leftOfAll_b4 (q : Int32 → hS → Prop) : Nat → hS → (Nat) → (Int32) → (Int32) → (Int32) → Prop
  | 0, _, _, _, _, _ => False
  | n + 1, S, v0, v1, v2, v3 => gP S v0 12 3 (fun x6 => aI S x6 0 (fun x10 => (x10 ≤ v3 → q v2 S) ∧ (¬ x10 ≤ v3 → oK S v0 12 ∧ w_X12_leftOf (fun x18 S => ∀ y22 : Int32, y22 = (v2 + x18) → ∀ y23 : Int32, y23 = v3 + 1 → w_X12_leftOfAll_b4 q n S v0 v1 y22 y23) S v0 v1 v3)))
set_option maxRecDepth 100000 in
set_option maxHeartbeats 4000000 in
theorem t_X12_leftOfAll_b4 (hC : zC p R s m args c cX12_leftOfAll 4 RX12 G B mc ms 3 104) (hr : meth.sig.returnType = (Option.some FieldType.int)) (hlk : meth.locks = false) (hnm : meth.name = "leftOfAll") {q : Int32 → hS → Prop} (n : Nat) : ∀ {S : hS} {v0 : Nat} {v1 : Int32} {v2 : Int32} {v3 : Int32} (hw : w_X12_leftOfAll_b4 q n S v0 v1 v2 v3), Z p l e R s m args below meth c (MQ below (hQ G B (iP q)) args s mc ms (fun r => B ≤ r)) G B mc ms 4 S 0 0 4 [some (.ref v0), some (.int v1), some (.int v2), some (.int v3)] [] := by
  induction n with
  | zero => intro S v0 v1 v2 v3 hw; exact (by rw [w_X12_leftOfAll_b4] at hw; exact hw.elim)
  | succ n ih =>
    intro S v0 v1 v2 v3 hw
    rw [w_X12_leftOfAll_b4] at hw
    refine z_iload_n hC dX12_leftOfAll_4 rfl rfl ?_
    refine z_aload_n hC dX12_leftOfAll_5 rfl rfl ?_
    refine z_getP hC FX12 3 lk_1358 dX12_leftOfAll_6 (by decide) hw (fun x6 hw => ?_)
    refine z_iconst hC ic_0 dX12_leftOfAll_9 ?_
    refine z_aldI hC dX12_leftOfAll_10 hw (fun x10 hw => ?_)
    refine z_icmp_ge (tgt := 29) hC dX12_leftOfAll_11 (by decide) (fun c11 => ?_) (fun c11 => ?_)
    · have hw := hw.1 c11
      refine z_iload_n hC dX12_leftOfAll_29 rfl rfl ?_
      exact z_iret hC hr hlk dX12_leftOfAll_30 ⟨_, rfl, hw⟩
    · have hw := hw.2 c11
      refine z_iload_n hC dX12_leftOfAll_14 rfl rfl ?_
      refine z_aload_n hC dX12_leftOfAll_15 rfl rfl ?_
      refine z_iload_n hC dX12_leftOfAll_16 rfl rfl ?_
      refine z_iload_n hC dX12_leftOfAll_17 rfl rfl ?_
      refine z_callV (ku' := 0) (kv' := 0) (n := 2) (As := [.int v1, .int v3]) (st := [.int v2]) hC (c_X12_leftOf l G B S v0 v1 v3 _) hw.2 hw.1 rfl lk_1602 lk_1604 lk_49 lk_133 lk_1605 hd_X12_leftOf rfl rfl (Nat.le_of_ble_eq_true rfl) (Nat.le_of_ble_eq_true rfl) rfl (Nat.le_of_ble_eq_true rfl) dX12_leftOfAll_18 (Nat.le_refl 0) (Nat.le_refl 0) (kI (fun x18 S hw => ?_))
      refine z_iadd hC dX12_leftOfAll_21 ?_
      refine z_nmI (fun y22 e22 => ?_)
      have hw := hw y22 e22
      refine z_istore_n (i := 2) (lv' := [some (.ref v0), some (.int v1), some (.int y22), some (.int v3)]) hC rfl dX12_leftOfAll_22 (by decide) (hok_v rfl rfl) rfl ?_
      refine z_inc (i := 3) hC ic_1 dX12_leftOfAll_23 rfl (by decide) (hok_v rfl rfl) (fun y23 e23 => ?_)
      have hw := hw y23 e23
      refine z_goto (tgt := 4) hC dX12_leftOfAll_26 (by decide) ?_
      refine z_mask (lv' := [some (.ref v0), some (.int v1), some (.int y22), some (.int y23)]) [true, true, true, true] rfl ?_
      exact ih hw
def w_X12_leftOfAll (q : Int32 → hS → Prop) (S : hS) (v0 : Nat) (v1 : Int32) : Prop := (∃ n4 : Nat, w_X12_leftOfAll_b4 q n4 S v0 v1 0 0)
set_option maxRecDepth 100000 in
set_option maxHeartbeats 4000000 in
theorem c_X12_leftOfAll (l : Launch) (G : hG) (B : Nat) (S : hS) (v0 : Nat) (v1 : Int32) (q : Int32 → hS → Prop) : Met l yX12_leftOfAll (hws yX12_leftOfAll cX12_leftOfAll 4 (Option.some FieldType.int)) ({ frames := 3, cells := 0, slots := 0, locals := 104 }) (hPc G B S [.ref v0, .int v1] (w_X12_leftOfAll q S v0 v1)) (hQ G B (iP q)) (0) (0) (fun r => B ≤ r) := by
  refine hMet (rm := { frames := 3, cells := 0, slots := 0, locals := 104 }) (lv := [some (.ref v0), some (.int v1), none, none]) (own := RX12) (fr := 3) (lo := 104) (by decide) rfl rfl rfl (Nat.le_of_ble_eq_true rfl) rfl (fun hw p e R s m args below meth c hC hr hlk hnm => ?_)
  unfold w_X12_leftOfAll at hw
  refine z_iconst hC ic_0 dX12_leftOfAll_0 ?_
  refine z_istore_n (i := 2) (lv' := [some (.ref v0), some (.int v1), some (.int 0), none]) hC rfl dX12_leftOfAll_1 (by decide) (hok_v rfl rfl) rfl ?_
  refine z_iconst hC ic_0 dX12_leftOfAll_2 ?_
  refine z_istore_n (i := 3) (lv' := [some (.ref v0), some (.int v1), some (.int 0), some (.int 0)]) hC rfl dX12_leftOfAll_3 (by decide) (hok_v rfl rfl) rfl ?_
  refine z_mask (lv' := [some (.ref v0), some (.int v1), some (.int 0), some (.int 0)]) [true, true, true, true] rfl ?_
  obtain ⟨n4, hw⟩ := hw
  exact t_X12_leftOfAll_b4 hC hr hlk hnm n4 hw
end
section
variable {p : Program} {l : Launch} {e : Env} {R : Room} {s : State} {m : MethodId} {args : Array Value} {below : List Frame} {meth : Method} {c : Code} {G : hG} {B mc ms : Nat}
def w_X12_stepsOf_b26 (q : Int32 → hS → Prop) (S : hS) (v3 : Int32) (t0 : Int32) : Prop := (0 ≤ v3 → q (t0 + v3) S) ∧ (¬ 0 ≤ v3 → q (t0 + (-v3)) S)
set_option maxRecDepth 100000 in
set_option maxHeartbeats 4000000 in
theorem t_X12_stepsOf_b26 (hC : zC p R s m args c cX12_stepsOf 4 RX12 G B mc ms 1 60) (hr : meth.sig.returnType = (Option.some FieldType.int)) (hlk : meth.locks = false) (hnm : meth.name = "stepsOf") {q : Int32 → hS → Prop} {S : hS} {v3 : Int32} {t0 : Int32} (hw : w_X12_stepsOf_b26 q S v3 t0) : Z p l e R s m args below meth c (MQ below (hQ G B (iP q)) args s mc ms (fun r => B ≤ r)) G B mc ms 4 S 0 0 26 [none, none, none, some (.int v3)] [.int t0] := by
  unfold w_X12_stepsOf_b26 at hw
  refine z_iload_n hC dX12_stepsOf_26 rfl rfl ?_
  refine z_if_ge (tgt := 35) hC dX12_stepsOf_27 (by decide) (fun c27 => ?_) (fun c27 => ?_)
  · have hw := hw.1 c27
    refine z_iload_n hC dX12_stepsOf_35 rfl rfl ?_
    refine z_iadd hC dX12_stepsOf_36 ?_
    exact z_iret hC hr hlk dX12_stepsOf_37 ⟨_, rfl, hw⟩
  · have hw := hw.2 c27
    refine z_iload_n hC dX12_stepsOf_30 rfl rfl ?_
    refine z_ineg hC dX12_stepsOf_31 ?_
    refine z_goto (tgt := 36) hC dX12_stepsOf_32 (by decide) ?_
    refine z_iadd hC dX12_stepsOf_36 ?_
    exact z_iret hC hr hlk dX12_stepsOf_37 ⟨_, rfl, hw⟩
def w_X12_stepsOf (q : Int32 → hS → Prop) (S : hS) (v0 : Int32) (v1 : Int32) : Prop := ∀ y7 : Int32, y7 = ((v0 - v0 / 5 * 5) - (v1 - v1 / 5 * 5)) → ∀ y15 : Int32, y15 = ((v0 / 5) - (v1 / 5)) → (0 ≤ y7 → w_X12_stepsOf_b26 q S y15 y7) ∧ (¬ 0 ≤ y7 → w_X12_stepsOf_b26 q S y15 (-y7))
set_option maxRecDepth 100000 in
set_option maxHeartbeats 4000000 in
theorem c_X12_stepsOf (l : Launch) (G : hG) (B : Nat) (S : hS) (v0 : Int32) (v1 : Int32) (q : Int32 → hS → Prop) : Met l yX12_stepsOf (hws yX12_stepsOf cX12_stepsOf 4 (Option.some FieldType.int)) ({ frames := 1, cells := 0, slots := 0, locals := 60 }) (hPc G B S [.int v0, .int v1] (w_X12_stepsOf q S v0 v1)) (hQ G B (iP q)) (0) (0) (fun r => B ≤ r) := by
  refine hMet (rm := { frames := 1, cells := 0, slots := 0, locals := 60 }) (lv := [some (.int v0), some (.int v1), none, none]) (own := RX12) (fr := 1) (lo := 60) (by decide) rfl rfl rfl (Nat.le_of_ble_eq_true rfl) rfl (fun hw p e R s m args below meth c hC hr hlk hnm => ?_)
  unfold w_X12_stepsOf at hw
  refine z_iload_n hC dX12_stepsOf_0 rfl rfl ?_
  refine z_iconst hC ic_5 dX12_stepsOf_1 ?_
  refine z_irem hC (by decide) dX12_stepsOf_2 ?_
  refine z_iload_n hC dX12_stepsOf_3 rfl rfl ?_
  refine z_iconst hC ic_5 dX12_stepsOf_4 ?_
  refine z_irem hC (by decide) dX12_stepsOf_5 ?_
  refine z_isub hC dX12_stepsOf_6 ?_
  refine z_nmI (fun y7 e7 => ?_)
  have hw := hw y7 e7
  refine z_istore_n (i := 2) (lv' := [some (.int v0), some (.int v1), some (.int y7), none]) hC rfl dX12_stepsOf_7 (by decide) (hok_v rfl rfl) rfl ?_
  refine z_iload_n hC dX12_stepsOf_8 rfl rfl ?_
  refine z_iconst hC ic_5 dX12_stepsOf_9 ?_
  refine z_idiv hC (by decide) dX12_stepsOf_10 ?_
  refine z_iload_n hC dX12_stepsOf_11 rfl rfl ?_
  refine z_iconst hC ic_5 dX12_stepsOf_12 ?_
  refine z_idiv hC (by decide) dX12_stepsOf_13 ?_
  refine z_isub hC dX12_stepsOf_14 ?_
  refine z_nmI (fun y15 e15 => ?_)
  have hw := hw y15 e15
  refine z_istore_n (i := 3) (lv' := [some (.int v0), some (.int v1), some (.int y7), some (.int y15)]) hC rfl dX12_stepsOf_15 (by decide) (hok_v rfl rfl) rfl ?_
  refine z_iload_n hC dX12_stepsOf_16 rfl rfl ?_
  refine z_if_ge (tgt := 25) hC dX12_stepsOf_17 (by decide) (fun c17 => ?_) (fun c17 => ?_)
  · have hw := hw.1 c17
    refine z_iload_n hC dX12_stepsOf_25 rfl rfl ?_
    refine z_mask (lv' := [none, none, none, some (.int y15)]) [false, false, false, true] rfl ?_
    exact t_X12_stepsOf_b26 hC hr hlk hnm hw
  · have hw := hw.2 c17
    refine z_iload_n hC dX12_stepsOf_20 rfl rfl ?_
    refine z_ineg hC dX12_stepsOf_21 ?_
    refine z_goto (tgt := 26) hC dX12_stepsOf_22 (by decide) ?_
    refine z_mask (lv' := [none, none, none, some (.int y15)]) [false, false, false, true] rfl ?_
    exact t_X12_stepsOf_b26 hC hr hlk hnm hw
end
