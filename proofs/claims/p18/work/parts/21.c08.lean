section
variable {p : Program} {l : Launch} {e : Env} {R : Room} {s : State} {m : MethodId} {args : Array Value} {below : List Frame} {meth : Method} {c : Code} {G : hG} {B mc ms : Nat}
def w_X11_init (q : hS → Prop) (S : hS) (v0 : Nat) : Prop := nO S 8 FX8_0 (fun S o5 => w_X8_init (fun S => pP S v0 11 0 o5 (fun S => nO S 8 FX8_0 (fun S o16 => w_X8_init (fun S => pP S v0 11 1 o16 (fun S => mkR S 4 2 2 (fun S o28 => pP S v0 11 2 o28 (fun S => nO S 3 FX3_0 (fun S o35 => w_X3_init (fun S => pP S v0 11 3 o35 (fun S => nO S 9 FX9_0 (fun S o46 => w_X9_init (fun S => pP S v0 11 4 o46 (fun S => nO S 5 FX5_0 (fun S o57 => gP S v0 11 4 (fun x62 => w_X5_init (fun S => pP S v0 11 5 o57 (fun S => nO S 0 FX0_0 (fun S o72 => w_X0_init (fun S => pP S v0 11 6 o72 (fun S => nO S 1 FX1_0 (fun S o83 => gP S v0 11 6 (fun x88 => w_X1_init (fun S => pP S v0 11 7 o83 (fun S => nO S 4 FX4_0 (fun S o98 => w_X4_init (fun S => pP S v0 11 8 o98 (fun S => nO S 7 FX7_0 (fun S o109 => w_X7_init (fun S => pP S v0 11 9 o109 (fun S => mkI S 48 48 (fun S o122 => pP S v0 11 10 o122 (fun S => pI S v0 11 11 0 (fun S => pI S v0 11 12 0 (fun S => pI S v0 11 13 (-1) (fun S => pI S v0 11 14 (-1) (fun S => pI S v0 11 15 0 (fun S => mkI S 7 7 (fun S o155 => pP S v0 11 16 o155 (fun S => pI S v0 11 17 0 (fun S => q S)))))))))))) S o109))) S o98))) S o83 x88)))) S o72))) S o57 x62)))) S o46))) S o35))))) S o16))) S o5)
set_option maxRecDepth 100000 in
set_option maxHeartbeats 4000000 in
theorem c_X11_init (l : Launch) (G : hG) (B : Nat) (S : hS) (v0 : Nat) (q : hS → Prop) : Met l yX11_init (hws yX11_init cX11_init 1 (Option.none : Option FieldType)) ({ frames := 3, cells := 66, slots := 2139, locals := 101 }) (hPc G B S [.ref v0] (w_X11_init q S v0)) (hQ G B (vP q)) (66) (2139) (fun r => B ≤ r) := by
  refine hMet (rm := { frames := 3, cells := 66, slots := 2139, locals := 101 }) (lv := [some (.ref v0)]) (own := RX11) (fr := 3) (lo := 101) (by decide) rfl rfl rfl (Nat.le_of_ble_eq_true rfl) rfl (fun hw p e R s m args below meth c hC hr hlk hnm => ?_)
  unfold w_X11_init at hw
  refine z_less (ku' := 66) (kv' := 2139) (Nat.le_refl _) (Nat.le_refl _) ?_
  refine z_aload_n hC dX11_init_0 rfl rfl ?_
  refine z_obj hC lk_146 lk_147 lk_148 dX11_init_1 (by decide) (Nat.le_of_ble_eq_true rfl) ?_
  refine z_aload_n hC dX11_init_4 rfl rfl ?_
  refine z_nO (ku' := 65) (kv' := 2122) hC FX8 lk_149 lk_150 lk_122 FX8_d dX11_init_5 (by decide) (by decide) hw (fun S o5 hw => ?_)
  refine z_dup hC rfl dX11_init_8 ?_
  refine z_callIN (ku' := 51) (kv' := 1944) (n := 0) (As := []) (st := [.ref o5, .ref v0]) (host := "BellHeirs") hC rfl (c_X8_init l G B S o5 _) hw (by decide +kernel) lk_152 lk_122 lk_153 rfl hd_X8_init.2 rfl rfl (Nat.le_of_ble_eq_true rfl) (Nat.le_of_ble_eq_true rfl) rfl (Nat.le_of_ble_eq_true rfl) dX11_init_9 (by decide) (by decide) (kV (fun S hw => ?_))
  refine z_putPF hC FX11 0 lk_515 dX11_init_12 (by decide) rfl hnm rfl rfl rfl hw (fun S hw => ?_)
  refine z_aload_n hC dX11_init_15 rfl rfl ?_
  refine z_nO (ku' := 50) (kv' := 1927) hC FX8 lk_149 lk_150 lk_122 FX8_d dX11_init_16 (by decide) (by decide) hw (fun S o16 hw => ?_)
  refine z_dup hC rfl dX11_init_19 ?_
  refine z_callIN (ku' := 36) (kv' := 1749) (n := 0) (As := []) (st := [.ref o16, .ref v0]) (host := "BellHeirs") hC rfl (c_X8_init l G B S o16 _) hw (by decide +kernel) lk_152 lk_122 lk_153 rfl hd_X8_init.2 rfl rfl (Nat.le_of_ble_eq_true rfl) (Nat.le_of_ble_eq_true rfl) rfl (Nat.le_of_ble_eq_true rfl) dX11_init_20 (by decide) (by decide) (kV (fun S hw => ?_))
  refine z_putPF hC FX11 1 lk_516 dX11_init_23 (by decide) rfl hnm rfl rfl rfl hw (fun S hw => ?_)
  refine z_aload_n hC dX11_init_26 rfl rfl ?_
  refine z_iconst hC ic_2 dX11_init_27 ?_
  refine z_mkR (kd := 4) (cap := 2) (ku' := 35) (kv' := 1747) hC lk_149 hC.a.2.2.2.1.2.1 rfl dX11_init_28 (by decide) (by decide) (by decide) hw (fun S o28 hw => ?_)
  refine z_putPF hC FX11 2 lk_517 dX11_init_31 (by decide) rfl hnm rfl rfl rfl hw (fun S hw => ?_)
  refine z_aload_n hC dX11_init_34 rfl rfl ?_
  refine z_nO (ku' := 34) (kv' := 1743) hC FX3 lk_283 lk_284 lk_124 FX3_d dX11_init_35 (by decide) (by decide) hw (fun S o35 hw => ?_)
  refine z_dup hC rfl dX11_init_38 ?_
  refine z_callIN (ku' := 32) (kv' := 1711) (n := 0) (As := []) (st := [.ref o35, .ref v0]) (host := "BellHeirs") hC rfl (c_X3_init l G B S o35 _) hw (by decide +kernel) lk_286 lk_124 lk_287 rfl hd_X3_init.2 rfl rfl (Nat.le_of_ble_eq_true rfl) (Nat.le_of_ble_eq_true rfl) rfl (Nat.le_of_ble_eq_true rfl) dX11_init_39 (by decide) (by decide) (kV (fun S hw => ?_))
  refine z_putPF hC FX11 3 lk_518 dX11_init_42 (by decide) rfl hnm rfl rfl rfl hw (fun S hw => ?_)
  refine z_aload_n hC dX11_init_45 rfl rfl ?_
  refine z_nO (ku' := 31) (kv' := 1705) hC FX9 lk_305 lk_306 lk_125 FX9_d dX11_init_46 (by decide) (by decide) hw (fun S o46 hw => ?_)
  refine z_dup hC rfl dX11_init_49 ?_
  refine z_callIN (ku' := 30) (kv' := 1305) (n := 0) (As := []) (st := [.ref o46, .ref v0]) (host := "BellHeirs") hC rfl (c_X9_init l G B S o46 _) hw (by decide +kernel) lk_308 lk_125 lk_309 rfl hd_X9_init.2 rfl rfl (Nat.le_of_ble_eq_true rfl) (Nat.le_of_ble_eq_true rfl) rfl (Nat.le_of_ble_eq_true rfl) dX11_init_50 (by decide) (by decide) (kV (fun S hw => ?_))
  refine z_putPF hC FX11 4 lk_519 dX11_init_53 (by decide) rfl hnm rfl rfl rfl hw (fun S hw => ?_)
  refine z_aload_n hC dX11_init_56 rfl rfl ?_
  refine z_nO (ku' := 29) (kv' := 1301) hC FX5 lk_335 lk_336 lk_126 FX5_d dX11_init_57 (by decide) (by decide) hw (fun S o57 hw => ?_)
  refine z_dup hC rfl dX11_init_60 ?_
  refine z_aload_n hC dX11_init_61 rfl rfl ?_
  refine z_getP hC FX11 4 lk_519 dX11_init_62 (by decide) hw (fun x62 hw => ?_)
  refine z_callI (ku' := 24) (kv' := 810) (n := 1) (As := [.ref x62]) (st := [.ref o57, .ref v0]) hC rfl (c_X5_init l G B S o57 x62 _) hw lk_337 lk_338 lk_126 lk_339 rfl hd_X5_init.2 rfl rfl (Nat.le_of_ble_eq_true rfl) (Nat.le_of_ble_eq_true rfl) rfl (Nat.le_of_ble_eq_true rfl) dX11_init_65 (by decide) (by decide) (kV (fun S hw => ?_))
  refine z_putPF hC FX11 5 lk_520 dX11_init_68 (by decide) rfl hnm rfl rfl rfl hw (fun S hw => ?_)
  refine z_aload_n hC dX11_init_71 rfl rfl ?_
  refine z_nO (ku' := 23) (kv' := 808) hC FX0 lk_392 lk_393 lk_128 FX0_d dX11_init_72 (by decide) (by decide) hw (fun S o72 hw => ?_)
  refine z_dup hC rfl dX11_init_75 ?_
  refine z_callIN (ku' := 20) (kv' := 746) (n := 0) (As := []) (st := [.ref o72, .ref v0]) (host := "BellHeirs") hC rfl (c_X0_init l G B S o72 _) hw (by decide +kernel) lk_395 lk_128 lk_396 rfl hd_X0_init.2 rfl rfl (Nat.le_of_ble_eq_true rfl) (Nat.le_of_ble_eq_true rfl) rfl (Nat.le_of_ble_eq_true rfl) dX11_init_76 (by decide) (by decide) (kV (fun S hw => ?_))
  refine z_putPF hC FX11 6 lk_521 dX11_init_79 (by decide) rfl hnm rfl rfl rfl hw (fun S hw => ?_)
  refine z_aload_n hC dX11_init_82 rfl rfl ?_
  refine z_nO (ku' := 19) (kv' := 740) hC FX1 lk_415 lk_416 lk_130 FX1_d dX11_init_83 (by decide) (by decide) hw (fun S o83 hw => ?_)
  refine z_dup hC rfl dX11_init_86 ?_
  refine z_aload_n hC dX11_init_87 rfl rfl ?_
  refine z_getP hC FX11 6 lk_521 dX11_init_88 (by decide) hw (fun x88 hw => ?_)
  refine z_callI (ku' := 16) (kv' := 661) (n := 1) (As := [.ref x88]) (st := [.ref o83, .ref v0]) hC rfl (c_X1_init l G B S o83 x88 _) hw lk_417 lk_418 lk_130 lk_419 rfl hd_X1_init.2 rfl rfl (Nat.le_of_ble_eq_true rfl) (Nat.le_of_ble_eq_true rfl) rfl (Nat.le_of_ble_eq_true rfl) dX11_init_91 (by decide) (by decide) (kV (fun S hw => ?_))
  refine z_putPF hC FX11 7 lk_522 dX11_init_94 (by decide) rfl hnm rfl rfl rfl hw (fun S hw => ?_)
  refine z_aload_n hC dX11_init_97 rfl rfl ?_
  refine z_nO (ku' := 15) (kv' := 650) hC FX4 lk_443 lk_444 lk_131 FX4_d dX11_init_98 (by decide) (by decide) hw (fun S o98 hw => ?_)
  refine z_dup hC rfl dX11_init_101 ?_
  refine z_callIN (ku' := 8) (kv' := 294) (n := 0) (As := []) (st := [.ref o98, .ref v0]) (host := "BellHeirs") hC rfl (c_X4_init l G B S o98 _) hw (by decide +kernel) lk_446 lk_131 lk_447 rfl hd_X4_init.2 rfl rfl (Nat.le_of_ble_eq_true rfl) (Nat.le_of_ble_eq_true rfl) rfl (Nat.le_of_ble_eq_true rfl) dX11_init_102 (by decide) (by decide) (kV (fun S hw => ?_))
  refine z_putPF hC FX11 8 lk_523 dX11_init_105 (by decide) rfl hnm rfl rfl rfl hw (fun S hw => ?_)
  refine z_aload_n hC dX11_init_108 rfl rfl ?_
  refine z_nO (ku' := 7) (kv' := 289) hC FX7 lk_489 lk_490 lk_132 FX7_d dX11_init_109 (by decide) (by decide) hw (fun S o109 hw => ?_)
  refine z_dup hC rfl dX11_init_112 ?_
  refine z_callIN (ku' := 2) (kv' := 55) (n := 0) (As := []) (st := [.ref o109, .ref v0]) (host := "BellHeirs") hC rfl (c_X7_init l G B S o109 _) hw (by decide +kernel) lk_492 lk_132 lk_493 rfl hd_X7_init.2 rfl rfl (Nat.le_of_ble_eq_true rfl) (Nat.le_of_ble_eq_true rfl) rfl (Nat.le_of_ble_eq_true rfl) dX11_init_113 (by decide) (by decide) (kV (fun S hw => ?_))
  refine z_putPF hC FX11 9 lk_524 dX11_init_116 (by decide) rfl hnm rfl rfl rfl hw (fun S hw => ?_)
  refine z_aload_n hC dX11_init_119 rfl rfl ?_
  refine z_bipush hC bi_48 dX11_init_120 ?_
  refine z_mkI (cap := 48) (ku' := 1) (kv' := 7) hC lk_198 dX11_init_122 (by decide) (by decide) (by decide) hw (fun S o122 hw => ?_)
  refine z_putPF hC FX11 10 lk_525 dX11_init_124 (by decide) rfl hnm rfl rfl rfl hw (fun S hw => ?_)
  refine z_aload_n hC dX11_init_127 rfl rfl ?_
  refine z_iconst hC ic_0 dX11_init_128 ?_
  refine z_putI hC FX11 11 lk_526 dX11_init_129 (by decide) rfl rfl hw (fun S hw => ?_)
  refine z_aload_n hC dX11_init_132 rfl rfl ?_
  refine z_iconst hC ic_0 dX11_init_133 ?_
  refine z_putI hC FX11 12 lk_527 dX11_init_134 (by decide) rfl rfl hw (fun S hw => ?_)
  refine z_aload_n hC dX11_init_137 rfl rfl ?_
  refine z_iconst hC ic_m1 dX11_init_138 ?_
  refine z_putI hC FX11 13 lk_528 dX11_init_139 (by decide) rfl rfl hw (fun S hw => ?_)
  refine z_aload_n hC dX11_init_142 rfl rfl ?_
  refine z_iconst hC ic_m1 dX11_init_143 ?_
  refine z_putI hC FX11 14 lk_529 dX11_init_144 (by decide) rfl rfl hw (fun S hw => ?_)
  refine z_aload_n hC dX11_init_147 rfl rfl ?_
  refine z_iconst hC ic_0 dX11_init_148 ?_
  refine z_putI hC FX11 15 lk_530 dX11_init_149 (by decide) rfl rfl hw (fun S hw => ?_)
  refine z_aload_n hC dX11_init_152 rfl rfl ?_
  refine z_bipush hC bi_7 dX11_init_153 ?_
  refine z_mkI (cap := 7) (ku' := 0) (kv' := 0) hC lk_198 dX11_init_155 (by decide) (by decide) (by decide) hw (fun S o155 hw => ?_)
  refine z_putPF hC FX11 16 lk_531 dX11_init_157 (by decide) rfl hnm rfl rfl rfl hw (fun S hw => ?_)
  refine z_aload_n hC dX11_init_160 rfl rfl ?_
  refine z_iconst hC ic_0 dX11_init_161 ?_
  refine z_putI hC FX11 17 lk_532 dX11_init_162 (by decide) rfl rfl hw (fun S hw => ?_)
  exact z_vret hC hr hlk dX11_init_165 ⟨rfl, hw⟩
end
section
variable {p : Program} {l : Launch} {e : Env} {R : Room} {s : State} {m : MethodId} {args : Array Value} {below : List Frame} {meth : Method} {c : Code} {G : hG} {B mc ms : Nat}
def w_X11_isWithin (q : Int32 → hS → Prop) (S : hS) (v0 : Int32) (v1 : Int32) : Prop := (v0 < 0 → q 0 S) ∧ (¬ v0 < 0 → (v1 < v0 → q 0 S) ∧ (¬ v1 < v0 → q 1 S))
set_option maxRecDepth 100000 in
set_option maxHeartbeats 4000000 in
theorem c_X11_isWithin (l : Launch) (G : hG) (B : Nat) (S : hS) (v0 : Int32) (v1 : Int32) (q : Int32 → hS → Prop) : Met l yX11_isWithin (hws yX11_isWithin cX11_isWithin 2 (Option.some FieldType.boolean)) ({ frames := 1, cells := 0, slots := 0, locals := 60 }) (hPc G B S [.int v0, .int v1] (w_X11_isWithin q S v0 v1)) (hQ G B (iP q)) (0) (0) (fun r => B ≤ r) := by
  refine hMet (rm := { frames := 1, cells := 0, slots := 0, locals := 60 }) (lv := [some (.int v0), some (.int v1)]) (own := RX11) (fr := 1) (lo := 60) (by decide) rfl rfl rfl (Nat.le_of_ble_eq_true rfl) rfl (fun hw p e R s m args below meth c hC hr hlk hnm => ?_)
  unfold w_X11_isWithin at hw
  refine z_iload_n hC dX11_isWithin_0 rfl rfl ?_
  refine z_if_lt (tgt := 13) hC dX11_isWithin_1 (by decide) (fun c1 => ?_) (fun c1 => ?_)
  · have hw := hw.1 c1
    refine z_iconst hC ic_0 dX11_isWithin_13 ?_
    exact z_zret hC hr hlk (hz01 (Or.inl rfl)).1 dX11_isWithin_14 ⟨_, rfl, hw⟩
  · have hw := hw.2 c1
    refine z_iload_n hC dX11_isWithin_4 rfl rfl ?_
    refine z_iload_n hC dX11_isWithin_5 rfl rfl ?_
    refine z_icmp_gt (tgt := 13) hC dX11_isWithin_6 (by decide) (fun c6 => ?_) (fun c6 => ?_)
    · have hw := hw.1 c6
      refine z_iconst hC ic_0 dX11_isWithin_13 ?_
      exact z_zret hC hr hlk (hz01 (Or.inl rfl)).1 dX11_isWithin_14 ⟨_, rfl, hw⟩
    · have hw := hw.2 c6
      refine z_iconst hC ic_1 dX11_isWithin_9 ?_
      refine z_goto (tgt := 14) hC dX11_isWithin_10 (by decide) ?_
      exact z_zret hC hr hlk (hz01 (Or.inr rfl)).1 dX11_isWithin_14 ⟨_, rfl, hw⟩
end
section
variable {p : Program} {l : Launch} {e : Env} {R : Room} {s : State} {m : MethodId} {args : Array Value} {below : List Frame} {meth : Method} {c : Code} {G : hG} {B mc ms : Nat}
def w_X11_refuse (q : Int32 → hS → Prop) (S : hS) (v0 : Nat) (v1 : Int32) : Prop := pI S v0 11 17 v1 (fun S => (0 ≤ v1 → q v1 S) ∧ (¬ 0 ≤ v1 → gP S v0 11 16 (fun x11 => aN S x11 (fun x14 => (v1 ≤ (-x14) → q v1 S) ∧ (¬ v1 ≤ (-x14) → gP S v0 11 16 (fun x20 => aI S x20 (-v1) (fun x26 => sI S x20 (-v1) (x26 + 1) (fun S => q v1 S))))))))
set_option maxRecDepth 100000 in
set_option maxHeartbeats 4000000 in
theorem c_X11_refuse (l : Launch) (G : hG) (B : Nat) (S : hS) (v0 : Nat) (v1 : Int32) (q : Int32 → hS → Prop) : Met l yX11_refuse (hws yX11_refuse cX11_refuse 2 (Option.some FieldType.int)) ({ frames := 1, cells := 0, slots := 0, locals := 60 }) (hPc G B S [.ref v0, .int v1] (w_X11_refuse q S v0 v1)) (hQ G B (iP q)) (0) (0) (fun r => B ≤ r) := by
  refine hMet (rm := { frames := 1, cells := 0, slots := 0, locals := 60 }) (lv := [some (.ref v0), some (.int v1)]) (own := RX11) (fr := 1) (lo := 60) (by decide) rfl rfl rfl (Nat.le_of_ble_eq_true rfl) rfl (fun hw p e R s m args below meth c hC hr hlk hnm => ?_)
  unfold w_X11_refuse at hw
  refine z_aload_n hC dX11_refuse_0 rfl rfl ?_
  refine z_iload_n hC dX11_refuse_1 rfl rfl ?_
  refine z_putI hC FX11 17 lk_532 dX11_refuse_2 (by decide) rfl rfl hw (fun S hw => ?_)
  refine z_iload_n hC dX11_refuse_5 rfl rfl ?_
  refine z_if_ge (tgt := 30) hC dX11_refuse_6 (by decide) (fun c6 => ?_) (fun c6 => ?_)
  · have hw := hw.1 c6
    refine z_iload_n hC dX11_refuse_30 rfl rfl ?_
    exact z_iret hC hr hlk dX11_refuse_31 ⟨_, rfl, hw⟩
  · have hw := hw.2 c6
    refine z_iload_n hC dX11_refuse_9 rfl rfl ?_
    refine z_aload_n hC dX11_refuse_10 rfl rfl ?_
    refine z_getP hC FX11 16 lk_531 dX11_refuse_11 (by decide) hw (fun x11 hw => ?_)
    refine z_alen hC dX11_refuse_14 hw (fun x14 hw => ?_)
    refine z_ineg hC dX11_refuse_15 ?_
    refine z_icmp_le (tgt := 30) hC dX11_refuse_16 (by decide) (fun c16 => ?_) (fun c16 => ?_)
    · have hw := hw.1 c16
      refine z_iload_n hC dX11_refuse_30 rfl rfl ?_
      exact z_iret hC hr hlk dX11_refuse_31 ⟨_, rfl, hw⟩
    · have hw := hw.2 c16
      refine z_aload_n hC dX11_refuse_19 rfl rfl ?_
      refine z_getP hC FX11 16 lk_531 dX11_refuse_20 (by decide) hw (fun x20 hw => ?_)
      refine z_iload_n hC dX11_refuse_23 rfl rfl ?_
      refine z_ineg hC dX11_refuse_24 ?_
      refine z_dup2_11 hC rfl rfl dX11_refuse_25 ?_
      refine z_aldI hC dX11_refuse_26 hw (fun x26 hw => ?_)
      refine z_iconst hC ic_1 dX11_refuse_27 ?_
      refine z_iadd hC dX11_refuse_28 ?_
      refine z_astI hC dX11_refuse_29 hw (fun S hw => ?_)
      refine z_iload_n hC dX11_refuse_30 rfl rfl ?_
      exact z_iret hC hr hlk dX11_refuse_31 ⟨_, rfl, hw⟩
end
section
variable {p : Program} {l : Launch} {e : Env} {R : Room} {s : State} {m : MethodId} {args : Array Value} {below : List Frame} {meth : Method} {c : Code} {G : hG} {B mc ms : Nat}
def w_X11_accept (q : Int32 → hS → Prop) (S : hS) (v0 : Nat) (v1 : Int32) : Prop := pI S v0 11 17 0 (fun S => q v1 S)
set_option maxRecDepth 100000 in
set_option maxHeartbeats 4000000 in
theorem c_X11_accept (l : Launch) (G : hG) (B : Nat) (S : hS) (v0 : Nat) (v1 : Int32) (q : Int32 → hS → Prop) : Met l yX11_accept (hws yX11_accept cX11_accept 2 (Option.some FieldType.int)) ({ frames := 1, cells := 0, slots := 0, locals := 60 }) (hPc G B S [.ref v0, .int v1] (w_X11_accept q S v0 v1)) (hQ G B (iP q)) (0) (0) (fun r => B ≤ r) := by
  refine hMet (rm := { frames := 1, cells := 0, slots := 0, locals := 60 }) (lv := [some (.ref v0), some (.int v1)]) (own := RX11) (fr := 1) (lo := 60) (by decide) rfl rfl rfl (Nat.le_of_ble_eq_true rfl) rfl (fun hw p e R s m args below meth c hC hr hlk hnm => ?_)
  unfold w_X11_accept at hw
  refine z_aload_n hC dX11_accept_0 rfl rfl ?_
  refine z_iconst hC ic_0 dX11_accept_1 ?_
  refine z_putI hC FX11 17 lk_532 dX11_accept_2 (by decide) rfl rfl hw (fun S hw => ?_)
  refine z_iload_n hC dX11_accept_5 rfl rfl ?_
  exact z_iret hC hr hlk dX11_accept_6 ⟨_, rfl, hw⟩
end
section
variable {p : Program} {l : Launch} {e : Env} {R : Room} {s : State} {m : MethodId} {args : Array Value} {below : List Frame} {meth : Method} {c : Code} {G : hG} {B mc ms : Nat}
def w_X11_house_b18 (q : Int32 → hS → Prop) (S : hS) (v0 : Nat) : Prop := oK S v0 11 ∧ w_X11_refuse (fun x20 S => q x20 S) S v0 (-1)
set_option maxRecDepth 100000 in
set_option maxHeartbeats 4000000 in
theorem t_X11_house_b18 (hC : zC p R s m args c cX11_house 3 RX11 G B mc ms 3 105) (hr : meth.sig.returnType = (Option.some FieldType.int)) (hlk : meth.locks = false) (hnm : meth.name = "house") {q : Int32 → hS → Prop} {S : hS} {v0 : Nat} (hw : w_X11_house_b18 q S v0) : Z p l e R s m args below meth c (MQ below (hQ G B (iP q)) args s mc ms (fun r => B ≤ r)) G B mc ms 3 S 0 0 18 [some (.ref v0), none, none] [] := by
  unfold w_X11_house_b18 at hw
  refine z_aload_n hC dX11_house_18 rfl rfl ?_
  refine z_iconst hC ic_m1 dX11_house_19 ?_
  refine z_callV (ku' := 0) (kv' := 0) (n := 1) (As := [.int (-1)]) (st := []) hC (c_X11_refuse l G B S v0 (-1) _) hw.2 hw.1 rfl lk_577 lk_579 lk_0 lk_121 lk_580 hd_X11_refuse rfl rfl (Nat.le_of_ble_eq_true rfl) (Nat.le_of_ble_eq_true rfl) rfl (Nat.le_of_ble_eq_true rfl) dX11_house_20 (Nat.le_refl 0) (Nat.le_refl 0) (kI (fun x20 S hw => ?_))
  exact z_iret hC hr hlk dX11_house_23 ⟨_, rfl, hw⟩
def w_X11_house (q : Int32 → hS → Prop) (S : hS) (v0 : Nat) (v1 : Int32) (v2 : Int32) : Prop := w_X11_isWithin (fun x3 S => (x3 = 0 → w_X11_house_b18 q S v0) ∧ (¬ x3 = 0 → w_X11_isWithin (fun x12 S => (¬ x12 = 0 → gP S v0 11 0 (fun x25 => gI S x25 8 1 (fun x28 => (x28 < 6 → gP S v0 11 3 (fun x44 => oK S x44 3 ∧ w_X3_clear (fun S => gP S v0 11 0 (fun x52 => oK S x52 8 ∧ w_X8_addHouse (fun x57 S => oK S v0 11 ∧ w_X11_accept (fun x60 S => q x60 S) S v0 x57) S x52 v1 v2)) S x44)) ∧ (¬ x28 < 6 → oK S v0 11 ∧ w_X11_refuse (fun x39 S => q x39 S) S v0 (-5))))) ∧ (x12 = 0 → w_X11_house_b18 q S v0)) S v2 99)) S v1 24
set_option maxRecDepth 100000 in
set_option maxHeartbeats 4000000 in
theorem c_X11_house (l : Launch) (G : hG) (B : Nat) (S : hS) (v0 : Nat) (v1 : Int32) (v2 : Int32) (q : Int32 → hS → Prop) : Met l yX11_house (hws yX11_house cX11_house 3 (Option.some FieldType.int)) ({ frames := 3, cells := 0, slots := 0, locals := 105 }) (hPc G B S [.ref v0, .int v1, .int v2] (w_X11_house q S v0 v1 v2)) (hQ G B (iP q)) (0) (0) (fun r => B ≤ r) := by
  refine hMet (rm := { frames := 3, cells := 0, slots := 0, locals := 105 }) (lv := [some (.ref v0), some (.int v1), some (.int v2)]) (own := RX11) (fr := 3) (lo := 105) (by decide) rfl rfl rfl (Nat.le_of_ble_eq_true rfl) rfl (fun hw p e R s m args below meth c hC hr hlk hnm => ?_)
  unfold w_X11_house at hw
  refine z_iload_n hC dX11_house_0 rfl rfl ?_
  refine z_bipush hC bi_24 dX11_house_1 ?_
  refine z_callS (ku' := 0) (kv' := 0) (n := 2) (As := [.int v1, .int 24]) (st := []) hC (c_X11_isWithin l G B S v1 24 _) hw lk_574 lk_575 lk_121 lk_576 hd_X11_isWithin rfl rfl (Nat.le_of_ble_eq_true rfl) (Nat.le_of_ble_eq_true rfl) rfl (Nat.le_of_ble_eq_true rfl) dX11_house_3 (Nat.le_refl 0) (Nat.le_refl 0) (kI (fun x3 S hw => ?_))
  refine z_if_eq (tgt := 18) hC dX11_house_6 (by decide) (fun c6 => ?_) (fun c6 => ?_)
  · have hw := hw.1 c6
    refine z_mask (lv' := [some (.ref v0), none, none]) [true, false, false] rfl ?_
    exact t_X11_house_b18 hC hr hlk hnm hw
  · have hw := hw.2 c6
    refine z_iload_n hC dX11_house_9 rfl rfl ?_
    refine z_bipush hC bi_99 dX11_house_10 ?_
    refine z_callS (ku' := 0) (kv' := 0) (n := 2) (As := [.int v2, .int 99]) (st := []) hC (c_X11_isWithin l G B S v2 99 _) hw lk_574 lk_575 lk_121 lk_576 hd_X11_isWithin rfl rfl (Nat.le_of_ble_eq_true rfl) (Nat.le_of_ble_eq_true rfl) rfl (Nat.le_of_ble_eq_true rfl) dX11_house_12 (Nat.le_refl 0) (Nat.le_refl 0) (kI (fun x12 S hw => ?_))
    refine z_if_ne (tgt := 24) hC dX11_house_15 (by decide) (fun c15 => ?_) (fun c15 => ?_)
    · have hw := hw.1 c15
      refine z_aload_n hC dX11_house_24 rfl rfl ?_
      refine z_getP hC FX11 0 lk_515 dX11_house_25 (by decide) hw (fun x25 hw => ?_)
      refine z_getI hC FX8 1 lk_206 dX11_house_28 (by decide) hw (fun x28 hw => ?_)
      refine z_bipush hC bi_6 dX11_house_31 ?_
      refine z_icmp_lt (tgt := 43) hC dX11_house_33 (by decide) (fun c33 => ?_) (fun c33 => ?_)
      · have hw := hw.1 c33
        refine z_aload_n hC dX11_house_43 rfl rfl ?_
        refine z_getP hC FX11 3 lk_518 dX11_house_44 (by decide) hw (fun x44 hw => ?_)
        refine z_callV (ku' := 0) (kv' := 0) (n := 0) (As := []) (st := []) hC (c_X3_clear l G B S x44 _) hw.2 hw.1 rfl lk_581 lk_582 lk_583 lk_124 lk_584 hd_X3_clear rfl rfl (Nat.le_of_ble_eq_true rfl) (Nat.le_of_ble_eq_true rfl) rfl (Nat.le_of_ble_eq_true rfl) dX11_house_47 (Nat.le_refl 0) (Nat.le_refl 0) (kV (fun S hw => ?_))
        refine z_aload_n hC dX11_house_50 rfl rfl ?_
        refine z_aload_n hC dX11_house_51 rfl rfl ?_
        refine z_getP hC FX11 0 lk_515 dX11_house_52 (by decide) hw (fun x52 hw => ?_)
        refine z_iload_n hC dX11_house_55 rfl rfl ?_
        refine z_iload_n hC dX11_house_56 rfl rfl ?_
        refine z_callV (ku' := 0) (kv' := 0) (n := 2) (As := [.int v1, .int v2]) (st := [.ref v0]) hC (c_X8_addHouse l G B S x52 v1 v2 _) hw.2 hw.1 rfl lk_585 lk_586 lk_587 lk_122 lk_588 hd_X8_addHouse rfl rfl (Nat.le_of_ble_eq_true rfl) (Nat.le_of_ble_eq_true rfl) rfl (Nat.le_of_ble_eq_true rfl) dX11_house_57 (Nat.le_refl 0) (Nat.le_refl 0) (kI (fun x57 S hw => ?_))
        refine z_callV (ku' := 0) (kv' := 0) (n := 1) (As := [.int x57]) (st := []) hC (c_X11_accept l G B S v0 x57 _) hw.2 hw.1 rfl lk_592 lk_594 lk_1 lk_121 lk_595 hd_X11_accept rfl rfl (Nat.le_of_ble_eq_true rfl) (Nat.le_of_ble_eq_true rfl) rfl (Nat.le_of_ble_eq_true rfl) dX11_house_60 (Nat.le_refl 0) (Nat.le_refl 0) (kI (fun x60 S hw => ?_))
        exact z_iret hC hr hlk dX11_house_63 ⟨_, rfl, hw⟩
      · have hw := hw.2 c33
        refine z_aload_n hC dX11_house_36 rfl rfl ?_
        refine z_bipush hC bi_m5 dX11_house_37 ?_
        refine z_callV (ku' := 0) (kv' := 0) (n := 1) (As := [.int (-5)]) (st := []) hC (c_X11_refuse l G B S v0 (-5) _) hw.2 hw.1 rfl lk_577 lk_579 lk_0 lk_121 lk_580 hd_X11_refuse rfl rfl (Nat.le_of_ble_eq_true rfl) (Nat.le_of_ble_eq_true rfl) rfl (Nat.le_of_ble_eq_true rfl) dX11_house_39 (Nat.le_refl 0) (Nat.le_refl 0) (kI (fun x39 S hw => ?_))
        exact z_iret hC hr hlk dX11_house_42 ⟨_, rfl, hw⟩
    · have hw := hw.2 c15
      refine z_mask (lv' := [some (.ref v0), none, none]) [true, false, false] rfl ?_
      exact t_X11_house_b18 hC hr hlk hnm hw
end
section
variable {p : Program} {l : Launch} {e : Env} {R : Room} {s : State} {m : MethodId} {args : Array Value} {below : List Frame} {meth : Method} {c : Code} {G : hG} {B mc ms : Nat}
def w_X11_at (q : Int32 → hS → Prop) (S : hS) (v0 : Nat) (v1 : Int32) (v2 : Int32) : Prop := gP S v0 11 0 (fun x1 => oK S x1 8 ∧ w_X8_hasHouse (fun x5 S => (¬ x5 = 0 → ∀ y14 : Int32, y14 = v2 → ((y14.toInt = 0 → gP S v0 11 0 (fun x49 => gP S x49 8 2 (fun x52 => aI S x52 v1 (fun x56 => q x56 S)))) ∧ (y14.toInt = 1 → gP S v0 11 0 (fun x59 => gP S x59 8 3 (fun x62 => aI S x62 v1 (fun x66 => q x66 S)))) ∧ (y14.toInt = 2 → gP S v0 11 0 (fun x69 => gP S x69 8 0 (fun x72 => gP S x72 2 2 (fun x75 => aI S x75 v1 (fun x79 => q x79 S))))) ∧ (y14.toInt = 3 → gP S v0 11 0 (fun x82 => oK S x82 8 ∧ w_X8_allRightsTo (fun x86 S => q x86 S) S x82 v1)) ∧ (y14.toInt = 4 → gP S v0 11 6 (fun x91 => gP S v0 11 0 (fun x95 => gP S v0 11 0 (fun x100 => gP S x100 8 0 (fun x103 => gI S x103 2 5 (fun x106 => oK S x91 0 ∧ w_X0_worthIn (fun x109 S => q x109 S) S x91 x95 v1 x106)))))) ∧ ((y14.toInt < 0 ∨ 4 < y14.toInt) → q (-1) S))) ∧ (x5 = 0 → q (-1) S)) S x1 v1)
set_option maxRecDepth 100000 in
set_option maxHeartbeats 4000000 in
theorem c_X11_at (l : Launch) (G : hG) (B : Nat) (S : hS) (v0 : Nat) (v1 : Int32) (v2 : Int32) (q : Int32 → hS → Prop) : Met l yX11_at (hws yX11_at cX11_at 3 (Option.some FieldType.int)) ({ frames := 5, cells := 0, slots := 0, locals := 163 }) (hPc G B S [.ref v0, .int v1, .int v2] (w_X11_at q S v0 v1 v2)) (hQ G B (iP q)) (0) (0) (fun r => B ≤ r) := by
  refine hMet (rm := { frames := 5, cells := 0, slots := 0, locals := 163 }) (lv := [some (.ref v0), some (.int v1), some (.int v2)]) (own := RX11) (fr := 5) (lo := 163) (by decide) rfl rfl rfl (Nat.le_of_ble_eq_true rfl) rfl (fun hw p e R s m args below meth c hC hr hlk hnm => ?_)
  unfold w_X11_at at hw
  refine z_aload_n hC dX11_at_0 rfl rfl ?_
  refine z_getP hC FX11 0 lk_515 dX11_at_1 (by decide) hw (fun x1 hw => ?_)
  refine z_iload_n hC dX11_at_4 rfl rfl ?_
  refine z_callV (ku' := 0) (kv' := 0) (n := 1) (As := [.int v1]) (st := []) hC (c_X8_hasHouse l G B S x1 v1 _) hw.2 hw.1 rfl lk_600 lk_601 lk_602 lk_122 lk_603 hd_X8_hasHouse rfl rfl (Nat.le_of_ble_eq_true rfl) (Nat.le_of_ble_eq_true rfl) rfl (Nat.le_of_ble_eq_true rfl) dX11_at_5 (Nat.le_refl 0) (Nat.le_refl 0) (kI (fun x5 S hw => ?_))
  refine z_if_ne (tgt := 13) hC dX11_at_8 (by decide) (fun c8 => ?_) (fun c8 => ?_)
  · have hw := hw.1 c8
    refine z_iload_n hC dX11_at_13 rfl rfl ?_
    refine z_nmI (fun y14 e14 => ?_)
    have hw := hw y14 e14
    by_cases q14_0 : y14.toInt = 0
    · have hw := hw.1 q14_0
      refine z_tabIn (tgt := 48) (off := 34) hC 0 dX11_at_14 q14_0 (by decide) rfl (by decide) ?_
      refine z_aload_n hC dX11_at_48 rfl rfl ?_
      refine z_getP hC FX11 0 lk_515 dX11_at_49 (by decide) hw (fun x49 hw => ?_)
      refine z_getP hC FX8 2 lk_210 dX11_at_52 (by decide) hw (fun x52 hw => ?_)
      refine z_iload_n hC dX11_at_55 rfl rfl ?_
      refine z_aldI hC dX11_at_56 hw (fun x56 hw => ?_)
      exact z_iret hC hr hlk dX11_at_57 ⟨_, rfl, hw⟩
    by_cases q14_1 : y14.toInt = 1
    · have hw := hw.2.1 q14_1
      refine z_tabIn (tgt := 58) (off := 44) hC 1 dX11_at_14 q14_1 (by decide) rfl (by decide) ?_
      refine z_aload_n hC dX11_at_58 rfl rfl ?_
      refine z_getP hC FX11 0 lk_515 dX11_at_59 (by decide) hw (fun x59 hw => ?_)
      refine z_getP hC FX8 3 lk_214 dX11_at_62 (by decide) hw (fun x62 hw => ?_)
      refine z_iload_n hC dX11_at_65 rfl rfl ?_
      refine z_aldI hC dX11_at_66 hw (fun x66 hw => ?_)
      exact z_iret hC hr hlk dX11_at_67 ⟨_, rfl, hw⟩
    by_cases q14_2 : y14.toInt = 2
    · have hw := hw.2.2.1 q14_2
      refine z_tabIn (tgt := 68) (off := 54) hC 2 dX11_at_14 q14_2 (by decide) rfl (by decide) ?_
      refine z_aload_n hC dX11_at_68 rfl rfl ?_
      refine z_getP hC FX11 0 lk_515 dX11_at_69 (by decide) hw (fun x69 hw => ?_)
      refine z_getP hC FX8 0 lk_203 dX11_at_72 (by decide) hw (fun x72 hw => ?_)
      refine z_getP hC FX2 2 lk_171 dX11_at_75 (by decide) hw (fun x75 hw => ?_)
      refine z_iload_n hC dX11_at_78 rfl rfl ?_
      refine z_aldI hC dX11_at_79 hw (fun x79 hw => ?_)
      exact z_iret hC hr hlk dX11_at_80 ⟨_, rfl, hw⟩
    by_cases q14_3 : y14.toInt = 3
    · have hw := hw.2.2.2.1 q14_3
      refine z_tabIn (tgt := 81) (off := 67) hC 3 dX11_at_14 q14_3 (by decide) rfl (by decide) ?_
      refine z_aload_n hC dX11_at_81 rfl rfl ?_
      refine z_getP hC FX11 0 lk_515 dX11_at_82 (by decide) hw (fun x82 hw => ?_)
      refine z_iload_n hC dX11_at_85 rfl rfl ?_
      refine z_callV (ku' := 0) (kv' := 0) (n := 1) (As := [.int v1]) (st := []) hC (c_X8_allRightsTo l G B S x82 v1 _) hw.2 hw.1 rfl lk_604 lk_605 lk_606 lk_122 lk_607 hd_X8_allRightsTo rfl rfl (Nat.le_of_ble_eq_true rfl) (Nat.le_of_ble_eq_true rfl) rfl (Nat.le_of_ble_eq_true rfl) dX11_at_86 (Nat.le_refl 0) (Nat.le_refl 0) (kI (fun x86 S hw => ?_))
      exact z_iret hC hr hlk dX11_at_89 ⟨_, rfl, hw⟩
    by_cases q14_4 : y14.toInt = 4
    · have hw := hw.2.2.2.2.1 q14_4
      refine z_tabIn (tgt := 90) (off := 76) hC 4 dX11_at_14 q14_4 (by decide) rfl (by decide) ?_
      refine z_aload_n hC dX11_at_90 rfl rfl ?_
      refine z_getP hC FX11 6 lk_521 dX11_at_91 (by decide) hw (fun x91 hw => ?_)
      refine z_aload_n hC dX11_at_94 rfl rfl ?_
      refine z_getP hC FX11 0 lk_515 dX11_at_95 (by decide) hw (fun x95 hw => ?_)
      refine z_iload_n hC dX11_at_98 rfl rfl ?_
      refine z_aload_n hC dX11_at_99 rfl rfl ?_
      refine z_getP hC FX11 0 lk_515 dX11_at_100 (by decide) hw (fun x100 hw => ?_)
      refine z_getP hC FX8 0 lk_203 dX11_at_103 (by decide) hw (fun x103 hw => ?_)
      refine z_getI hC FX2 5 lk_182 dX11_at_106 (by decide) hw (fun x106 hw => ?_)
      refine z_callV (ku' := 0) (kv' := 0) (n := 3) (As := [.ref x95, .int v1, .int x106]) (st := []) hC (c_X0_worthIn l G B S x91 x95 v1 x106 _) hw.2 hw.1 rfl lk_617 lk_618 lk_619 lk_128 lk_620 hd_X0_worthIn rfl rfl (Nat.le_of_ble_eq_true rfl) (Nat.le_of_ble_eq_true rfl) rfl (Nat.le_of_ble_eq_true rfl) dX11_at_109 (Nat.le_refl 0) (Nat.le_refl 0) (kI (fun x109 S hw => ?_))
      exact z_iret hC hr hlk dX11_at_112 ⟨_, rfl, hw⟩
    have o14 : y14.toInt < 0 ∨ 4 < y14.toInt := by omega
    have hw := hw.2.2.2.2.2 o14
    refine z_tabOut (tgt := 113) hC dX11_at_14 o14 (by decide) ?_
    refine z_iconst hC ic_m1 dX11_at_113 ?_
    exact z_iret hC hr hlk dX11_at_114 ⟨_, rfl, hw⟩
  · have hw := hw.2 c8
    refine z_iconst hC ic_m1 dX11_at_11 ?_
    exact z_iret hC hr hlk dX11_at_12 ⟨_, rfl, hw⟩
end
section
variable {p : Program} {l : Launch} {e : Env} {R : Room} {s : State} {m : MethodId} {args : Array Value} {below : List Frame} {meth : Method} {c : Code} {G : hG} {B mc ms : Nat}
def w_X11_person_b28 (q : Int32 → hS → Prop) (S : hS) (v0 : Nat) : Prop := oK S v0 11 ∧ w_X11_refuse (fun x30 S => q x30 S) S v0 (-1)
set_option maxRecDepth 100000 in
set_option maxHeartbeats 4000000 in
theorem t_X11_person_b28 (hC : zC p R s m args c cX11_person 4 RX11 G B mc ms 3 106) (hr : meth.sig.returnType = (Option.some FieldType.int)) (hlk : meth.locks = false) (hnm : meth.name = "person") {q : Int32 → hS → Prop} {S : hS} {v0 : Nat} (hw : w_X11_person_b28 q S v0) : Z p l e R s m args below meth c (MQ below (hQ G B (iP q)) args s mc ms (fun r => B ≤ r)) G B mc ms 4 S 0 0 28 [some (.ref v0), none, none, none] [] := by
  unfold w_X11_person_b28 at hw
  refine z_aload_n hC dX11_person_28 rfl rfl ?_
  refine z_iconst hC ic_m1 dX11_person_29 ?_
  refine z_callV (ku' := 0) (kv' := 0) (n := 1) (As := [.int (-1)]) (st := []) hC (c_X11_refuse l G B S v0 (-1) _) hw.2 hw.1 rfl lk_577 lk_579 lk_0 lk_121 lk_580 hd_X11_refuse rfl rfl (Nat.le_of_ble_eq_true rfl) (Nat.le_of_ble_eq_true rfl) rfl (Nat.le_of_ble_eq_true rfl) dX11_person_30 (Nat.le_refl 0) (Nat.le_refl 0) (kI (fun x30 S hw => ?_))
  exact z_iret hC hr hlk dX11_person_33 ⟨_, rfl, hw⟩
def w_X11_person (q : Int32 → hS → Prop) (S : hS) (v0 : Nat) (v1 : Int32) (v2 : Int32) (v3 : Int32) : Prop := w_X11_isWithin (fun x3 S => (x3 = 0 → w_X11_person_b28 q S v0) ∧ (¬ x3 = 0 → w_X11_isWithin (fun x12 S => (x12 = 0 → w_X11_person_b28 q S v0) ∧ (¬ x12 = 0 → w_X11_isWithin (fun x22 S => (¬ x22 = 0 → gP S v0 11 0 (fun x35 => gI S x35 8 4 (fun x38 => (x38 < 8 → gP S v0 11 3 (fun x54 => oK S x54 3 ∧ w_X3_clear (fun S => gP S v0 11 0 (fun x62 => oK S x62 8 ∧ w_X8_addPerson (fun x68 S => oK S v0 11 ∧ w_X11_accept (fun x71 S => q x71 S) S v0 x68) S x62 v1 v2 v3)) S x54)) ∧ (¬ x38 < 8 → oK S v0 11 ∧ w_X11_refuse (fun x49 S => q x49 S) S v0 (-5))))) ∧ (x22 = 0 → w_X11_person_b28 q S v0)) S v3 999)) S v2 99)) S v1 24
set_option maxRecDepth 100000 in
set_option maxHeartbeats 4000000 in
theorem c_X11_person (l : Launch) (G : hG) (B : Nat) (S : hS) (v0 : Nat) (v1 : Int32) (v2 : Int32) (v3 : Int32) (q : Int32 → hS → Prop) : Met l yX11_person (hws yX11_person cX11_person 4 (Option.some FieldType.int)) ({ frames := 3, cells := 0, slots := 0, locals := 106 }) (hPc G B S [.ref v0, .int v1, .int v2, .int v3] (w_X11_person q S v0 v1 v2 v3)) (hQ G B (iP q)) (0) (0) (fun r => B ≤ r) := by
  refine hMet (rm := { frames := 3, cells := 0, slots := 0, locals := 106 }) (lv := [some (.ref v0), some (.int v1), some (.int v2), some (.int v3)]) (own := RX11) (fr := 3) (lo := 106) (by decide) rfl rfl rfl (Nat.le_of_ble_eq_true rfl) rfl (fun hw p e R s m args below meth c hC hr hlk hnm => ?_)
  unfold w_X11_person at hw
  refine z_iload_n hC dX11_person_0 rfl rfl ?_
  refine z_bipush hC bi_24 dX11_person_1 ?_
  refine z_callS (ku' := 0) (kv' := 0) (n := 2) (As := [.int v1, .int 24]) (st := []) hC (c_X11_isWithin l G B S v1 24 _) hw lk_574 lk_575 lk_121 lk_576 hd_X11_isWithin rfl rfl (Nat.le_of_ble_eq_true rfl) (Nat.le_of_ble_eq_true rfl) rfl (Nat.le_of_ble_eq_true rfl) dX11_person_3 (Nat.le_refl 0) (Nat.le_refl 0) (kI (fun x3 S hw => ?_))
  refine z_if_eq (tgt := 28) hC dX11_person_6 (by decide) (fun c6 => ?_) (fun c6 => ?_)
  · have hw := hw.1 c6
    refine z_mask (lv' := [some (.ref v0), none, none, none]) [true, false, false, false] rfl ?_
    exact t_X11_person_b28 hC hr hlk hnm hw
  · have hw := hw.2 c6
    refine z_iload_n hC dX11_person_9 rfl rfl ?_
    refine z_bipush hC bi_99 dX11_person_10 ?_
    refine z_callS (ku' := 0) (kv' := 0) (n := 2) (As := [.int v2, .int 99]) (st := []) hC (c_X11_isWithin l G B S v2 99 _) hw lk_574 lk_575 lk_121 lk_576 hd_X11_isWithin rfl rfl (Nat.le_of_ble_eq_true rfl) (Nat.le_of_ble_eq_true rfl) rfl (Nat.le_of_ble_eq_true rfl) dX11_person_12 (Nat.le_refl 0) (Nat.le_refl 0) (kI (fun x12 S hw => ?_))
    refine z_if_eq (tgt := 28) hC dX11_person_15 (by decide) (fun c15 => ?_) (fun c15 => ?_)
    · have hw := hw.1 c15
      refine z_mask (lv' := [some (.ref v0), none, none, none]) [true, false, false, false] rfl ?_
      exact t_X11_person_b28 hC hr hlk hnm hw
    · have hw := hw.2 c15
      refine z_iload_n hC dX11_person_18 rfl rfl ?_
      refine z_sipush hC si_999 dX11_person_19 ?_
      refine z_callS (ku' := 0) (kv' := 0) (n := 2) (As := [.int v3, .int 999]) (st := []) hC (c_X11_isWithin l G B S v3 999 _) hw lk_574 lk_575 lk_121 lk_576 hd_X11_isWithin rfl rfl (Nat.le_of_ble_eq_true rfl) (Nat.le_of_ble_eq_true rfl) rfl (Nat.le_of_ble_eq_true rfl) dX11_person_22 (Nat.le_refl 0) (Nat.le_refl 0) (kI (fun x22 S hw => ?_))
      refine z_if_ne (tgt := 34) hC dX11_person_25 (by decide) (fun c25 => ?_) (fun c25 => ?_)
      · have hw := hw.1 c25
        refine z_aload_n hC dX11_person_34 rfl rfl ?_
        refine z_getP hC FX11 0 lk_515 dX11_person_35 (by decide) hw (fun x35 hw => ?_)
        refine z_getI hC FX8 4 lk_218 dX11_person_38 (by decide) hw (fun x38 hw => ?_)
        refine z_bipush hC bi_8 dX11_person_41 ?_
        refine z_icmp_lt (tgt := 53) hC dX11_person_43 (by decide) (fun c43 => ?_) (fun c43 => ?_)
        · have hw := hw.1 c43
          refine z_aload_n hC dX11_person_53 rfl rfl ?_
          refine z_getP hC FX11 3 lk_518 dX11_person_54 (by decide) hw (fun x54 hw => ?_)
          refine z_callV (ku' := 0) (kv' := 0) (n := 0) (As := []) (st := []) hC (c_X3_clear l G B S x54 _) hw.2 hw.1 rfl lk_581 lk_582 lk_583 lk_124 lk_584 hd_X3_clear rfl rfl (Nat.le_of_ble_eq_true rfl) (Nat.le_of_ble_eq_true rfl) rfl (Nat.le_of_ble_eq_true rfl) dX11_person_57 (Nat.le_refl 0) (Nat.le_refl 0) (kV (fun S hw => ?_))
          refine z_aload_n hC dX11_person_60 rfl rfl ?_
          refine z_aload_n hC dX11_person_61 rfl rfl ?_
          refine z_getP hC FX11 0 lk_515 dX11_person_62 (by decide) hw (fun x62 hw => ?_)
          refine z_iload_n hC dX11_person_65 rfl rfl ?_
          refine z_iload_n hC dX11_person_66 rfl rfl ?_
          refine z_iload_n hC dX11_person_67 rfl rfl ?_
          refine z_callV (ku' := 0) (kv' := 0) (n := 3) (As := [.int v1, .int v2, .int v3]) (st := [.ref v0]) hC (c_X8_addPerson l G B S x62 v1 v2 v3 _) hw.2 hw.1 rfl lk_666 lk_667 lk_668 lk_122 lk_669 hd_X8_addPerson rfl rfl (Nat.le_of_ble_eq_true rfl) (Nat.le_of_ble_eq_true rfl) rfl (Nat.le_of_ble_eq_true rfl) dX11_person_68 (Nat.le_refl 0) (Nat.le_refl 0) (kI (fun x68 S hw => ?_))
          refine z_callV (ku' := 0) (kv' := 0) (n := 1) (As := [.int x68]) (st := []) hC (c_X11_accept l G B S v0 x68 _) hw.2 hw.1 rfl lk_592 lk_594 lk_1 lk_121 lk_595 hd_X11_accept rfl rfl (Nat.le_of_ble_eq_true rfl) (Nat.le_of_ble_eq_true rfl) rfl (Nat.le_of_ble_eq_true rfl) dX11_person_71 (Nat.le_refl 0) (Nat.le_refl 0) (kI (fun x71 S hw => ?_))
          exact z_iret hC hr hlk dX11_person_74 ⟨_, rfl, hw⟩
        · have hw := hw.2 c43
          refine z_aload_n hC dX11_person_46 rfl rfl ?_
          refine z_bipush hC bi_m5 dX11_person_47 ?_
          refine z_callV (ku' := 0) (kv' := 0) (n := 1) (As := [.int (-5)]) (st := []) hC (c_X11_refuse l G B S v0 (-5) _) hw.2 hw.1 rfl lk_577 lk_579 lk_0 lk_121 lk_580 hd_X11_refuse rfl rfl (Nat.le_of_ble_eq_true rfl) (Nat.le_of_ble_eq_true rfl) rfl (Nat.le_of_ble_eq_true rfl) dX11_person_49 (Nat.le_refl 0) (Nat.le_refl 0) (kI (fun x49 S hw => ?_))
          exact z_iret hC hr hlk dX11_person_52 ⟨_, rfl, hw⟩
      · have hw := hw.2 c25
        refine z_mask (lv' := [some (.ref v0), none, none, none]) [true, false, false, false] rfl ?_
        exact t_X11_person_b28 hC hr hlk hnm hw
end
section
variable {p : Program} {l : Launch} {e : Env} {R : Room} {s : State} {m : MethodId} {args : Array Value} {below : List Frame} {meth : Method} {c : Code} {G : hG} {B mc ms : Nat}
def w_X11_of (q : Int32 → hS → Prop) (S : hS) (v0 : Nat) (v1 : Int32) (v2 : Int32) : Prop := gP S v0 11 0 (fun x1 => oK S x1 8 ∧ w_X8_hasPerson (fun x5 S => (¬ x5 = 0 → ∀ y14 : Int32, y14 = v2 → ((y14.toInt = 0 → gP S v0 11 0 (fun x53 => gP S x53 8 5 (fun x56 => aI S x56 v1 (fun x60 => q x60 S)))) ∧ (y14.toInt = 1 → gP S v0 11 0 (fun x63 => gP S x63 8 6 (fun x66 => aI S x66 v1 (fun x70 => q x70 S)))) ∧ (y14.toInt = 2 → gP S v0 11 0 (fun x73 => gP S x73 8 0 (fun x76 => gP S x76 2 3 (fun x79 => aI S x79 v1 (fun x83 => q x83 S))))) ∧ (y14.toInt = 3 → gP S v0 11 0 (fun x86 => gP S x86 8 7 (fun x89 => aI S x89 v1 (fun x93 => q x93 S)))) ∧ (y14.toInt = 4 → gP S v0 11 0 (fun x96 => gP S x96 8 8 (fun x99 => aI S x99 v1 (fun x103 => q x103 S)))) ∧ (y14.toInt = 5 → gP S v0 11 0 (fun x106 => oK S x106 8 ∧ w_X8_lives (fun x110 S => (x110 = 0 → q 0 S) ∧ (¬ x110 = 0 → q 1 S)) S x106 v1)) ∧ ((y14.toInt < 0 ∨ 5 < y14.toInt) → q (-1) S))) ∧ (x5 = 0 → q (-1) S)) S x1 v1)
set_option maxRecDepth 100000 in
set_option maxHeartbeats 4000000 in
theorem c_X11_of (l : Launch) (G : hG) (B : Nat) (S : hS) (v0 : Nat) (v1 : Int32) (v2 : Int32) (q : Int32 → hS → Prop) : Met l yX11_of (hws yX11_of cX11_of 3 (Option.some FieldType.int)) ({ frames := 3, cells := 0, slots := 0, locals := 102 }) (hPc G B S [.ref v0, .int v1, .int v2] (w_X11_of q S v0 v1 v2)) (hQ G B (iP q)) (0) (0) (fun r => B ≤ r) := by
  refine hMet (rm := { frames := 3, cells := 0, slots := 0, locals := 102 }) (lv := [some (.ref v0), some (.int v1), some (.int v2)]) (own := RX11) (fr := 3) (lo := 102) (by decide) rfl rfl rfl (Nat.le_of_ble_eq_true rfl) rfl (fun hw p e R s m args below meth c hC hr hlk hnm => ?_)
  unfold w_X11_of at hw
  refine z_aload_n hC dX11_of_0 rfl rfl ?_
  refine z_getP hC FX11 0 lk_515 dX11_of_1 (by decide) hw (fun x1 hw => ?_)
  refine z_iload_n hC dX11_of_4 rfl rfl ?_
  refine z_callV (ku' := 0) (kv' := 0) (n := 1) (As := [.int v1]) (st := []) hC (c_X8_hasPerson l G B S x1 v1 _) hw.2 hw.1 rfl lk_674 lk_613 lk_614 lk_122 lk_615 hd_X8_hasPerson rfl rfl (Nat.le_of_ble_eq_true rfl) (Nat.le_of_ble_eq_true rfl) rfl (Nat.le_of_ble_eq_true rfl) dX11_of_5 (Nat.le_refl 0) (Nat.le_refl 0) (kI (fun x5 S hw => ?_))
  refine z_if_ne (tgt := 13) hC dX11_of_8 (by decide) (fun c8 => ?_) (fun c8 => ?_)
  · have hw := hw.1 c8
    refine z_iload_n hC dX11_of_13 rfl rfl ?_
    refine z_nmI (fun y14 e14 => ?_)
    have hw := hw y14 e14
    by_cases q14_0 : y14.toInt = 0
    · have hw := hw.1 q14_0
      refine z_tabIn (tgt := 52) (off := 38) hC 0 dX11_of_14 q14_0 (by decide) rfl (by decide) ?_
      refine z_aload_n hC dX11_of_52 rfl rfl ?_
      refine z_getP hC FX11 0 lk_515 dX11_of_53 (by decide) hw (fun x53 hw => ?_)
      refine z_getP hC FX8 5 lk_222 dX11_of_56 (by decide) hw (fun x56 hw => ?_)
      refine z_iload_n hC dX11_of_59 rfl rfl ?_
      refine z_aldI hC dX11_of_60 hw (fun x60 hw => ?_)
      exact z_iret hC hr hlk dX11_of_61 ⟨_, rfl, hw⟩
    by_cases q14_1 : y14.toInt = 1
    · have hw := hw.2.1 q14_1
      refine z_tabIn (tgt := 62) (off := 48) hC 1 dX11_of_14 q14_1 (by decide) rfl (by decide) ?_
      refine z_aload_n hC dX11_of_62 rfl rfl ?_
      refine z_getP hC FX11 0 lk_515 dX11_of_63 (by decide) hw (fun x63 hw => ?_)
      refine z_getP hC FX8 6 lk_224 dX11_of_66 (by decide) hw (fun x66 hw => ?_)
      refine z_iload_n hC dX11_of_69 rfl rfl ?_
      refine z_aldI hC dX11_of_70 hw (fun x70 hw => ?_)
      exact z_iret hC hr hlk dX11_of_71 ⟨_, rfl, hw⟩
    by_cases q14_2 : y14.toInt = 2
    · have hw := hw.2.2.1 q14_2
      refine z_tabIn (tgt := 72) (off := 58) hC 2 dX11_of_14 q14_2 (by decide) rfl (by decide) ?_
      refine z_aload_n hC dX11_of_72 rfl rfl ?_
      refine z_getP hC FX11 0 lk_515 dX11_of_73 (by decide) hw (fun x73 hw => ?_)
      refine z_getP hC FX8 0 lk_203 dX11_of_76 (by decide) hw (fun x76 hw => ?_)
      refine z_getP hC FX2 3 lk_176 dX11_of_79 (by decide) hw (fun x79 hw => ?_)
      refine z_iload_n hC dX11_of_82 rfl rfl ?_
      refine z_aldI hC dX11_of_83 hw (fun x83 hw => ?_)
      exact z_iret hC hr hlk dX11_of_84 ⟨_, rfl, hw⟩
    by_cases q14_3 : y14.toInt = 3
    · have hw := hw.2.2.2.1 q14_3
      refine z_tabIn (tgt := 85) (off := 71) hC 3 dX11_of_14 q14_3 (by decide) rfl (by decide) ?_
      refine z_aload_n hC dX11_of_85 rfl rfl ?_
      refine z_getP hC FX11 0 lk_515 dX11_of_86 (by decide) hw (fun x86 hw => ?_)
      refine z_getP hC FX8 7 lk_227 dX11_of_89 (by decide) hw (fun x89 hw => ?_)
      refine z_iload_n hC dX11_of_92 rfl rfl ?_
      refine z_aldI hC dX11_of_93 hw (fun x93 hw => ?_)
      exact z_iret hC hr hlk dX11_of_94 ⟨_, rfl, hw⟩
    by_cases q14_4 : y14.toInt = 4
    · have hw := hw.2.2.2.2.1 q14_4
      refine z_tabIn (tgt := 95) (off := 81) hC 4 dX11_of_14 q14_4 (by decide) rfl (by decide) ?_
      refine z_aload_n hC dX11_of_95 rfl rfl ?_
      refine z_getP hC FX11 0 lk_515 dX11_of_96 (by decide) hw (fun x96 hw => ?_)
      refine z_getP hC FX8 8 lk_230 dX11_of_99 (by decide) hw (fun x99 hw => ?_)
      refine z_iload_n hC dX11_of_102 rfl rfl ?_
      refine z_aldI hC dX11_of_103 hw (fun x103 hw => ?_)
      exact z_iret hC hr hlk dX11_of_104 ⟨_, rfl, hw⟩
    by_cases q14_5 : y14.toInt = 5
    · have hw := hw.2.2.2.2.2.1 q14_5
      refine z_tabIn (tgt := 105) (off := 91) hC 5 dX11_of_14 q14_5 (by decide) rfl (by decide) ?_
      refine z_aload_n hC dX11_of_105 rfl rfl ?_
      refine z_getP hC FX11 0 lk_515 dX11_of_106 (by decide) hw (fun x106 hw => ?_)
      refine z_iload_n hC dX11_of_109 rfl rfl ?_
      refine z_callV (ku' := 0) (kv' := 0) (n := 1) (As := [.int v1]) (st := []) hC (c_X8_lives l G B S x106 v1 _) hw.2 hw.1 rfl lk_675 lk_676 lk_677 lk_122 lk_678 hd_X8_lives rfl rfl (Nat.le_of_ble_eq_true rfl) (Nat.le_of_ble_eq_true rfl) rfl (Nat.le_of_ble_eq_true rfl) dX11_of_110 (Nat.le_refl 0) (Nat.le_refl 0) (kI (fun x110 S hw => ?_))
      refine z_if_eq (tgt := 120) hC dX11_of_113 (by decide) (fun c113 => ?_) (fun c113 => ?_)
      · have hw := hw.1 c113
        refine z_iconst hC ic_0 dX11_of_120 ?_
        exact z_iret hC hr hlk dX11_of_121 ⟨_, rfl, hw⟩
      · have hw := hw.2 c113
        refine z_iconst hC ic_1 dX11_of_116 ?_
        refine z_goto (tgt := 121) hC dX11_of_117 (by decide) ?_
        exact z_iret hC hr hlk dX11_of_121 ⟨_, rfl, hw⟩
    have o14 : y14.toInt < 0 ∨ 5 < y14.toInt := by omega
    have hw := hw.2.2.2.2.2.2 o14
    refine z_tabOut (tgt := 122) hC dX11_of_14 o14 (by decide) ?_
    refine z_iconst hC ic_m1 dX11_of_122 ?_
    exact z_iret hC hr hlk dX11_of_123 ⟨_, rfl, hw⟩
  · have hw := hw.2 c8
    refine z_iconst hC ic_m1 dX11_of_11 ?_
    exact z_iret hC hr hlk dX11_of_12 ⟨_, rfl, hw⟩
end
section
variable {p : Program} {l : Launch} {e : Env} {R : Room} {s : State} {m : MethodId} {args : Array Value} {below : List Frame} {meth : Method} {c : Code} {G : hG} {B mc ms : Nat}
def w_X11_want_b22 (q : Int32 → hS → Prop) (S : hS) (v0 : Nat) (v1 : Int32) (v2 : Int32) : Prop := gP S v0 11 0 (fun x23 => oK S x23 8 ∧ w_X8_hasPerson (fun x27 S => (¬ x27 = 0 → gP S v0 11 0 (fun x41 => gP S x41 8 7 (fun x44 => sI S x44 v1 v2 (fun S => oK S v0 11 ∧ w_X11_accept (fun x52 S => q x52 S) S v0 0)))) ∧ (x27 = 0 → oK S v0 11 ∧ w_X11_refuse (fun x36 S => q x36 S) S v0 (-2))) S x23 v1)
set_option maxRecDepth 100000 in
set_option maxHeartbeats 4000000 in
theorem t_X11_want_b22 (hC : zC p R s m args c cX11_want 3 RX11 G B mc ms 2 81) (hr : meth.sig.returnType = (Option.some FieldType.int)) (hlk : meth.locks = false) (hnm : meth.name = "want") {q : Int32 → hS → Prop} {S : hS} {v0 : Nat} {v1 : Int32} {v2 : Int32} (hw : w_X11_want_b22 q S v0 v1 v2) : Z p l e R s m args below meth c (MQ below (hQ G B (iP q)) args s mc ms (fun r => B ≤ r)) G B mc ms 3 S 0 0 22 [some (.ref v0), some (.int v1), some (.int v2)] [] := by
  unfold w_X11_want_b22 at hw
  refine z_aload_n hC dX11_want_22 rfl rfl ?_
  refine z_getP hC FX11 0 lk_515 dX11_want_23 (by decide) hw (fun x23 hw => ?_)
  refine z_iload_n hC dX11_want_26 rfl rfl ?_
  refine z_callV (ku' := 0) (kv' := 0) (n := 1) (As := [.int v1]) (st := []) hC (c_X8_hasPerson l G B S x23 v1 _) hw.2 hw.1 rfl lk_674 lk_613 lk_614 lk_122 lk_615 hd_X8_hasPerson rfl rfl (Nat.le_of_ble_eq_true rfl) (Nat.le_of_ble_eq_true rfl) rfl (Nat.le_of_ble_eq_true rfl) dX11_want_27 (Nat.le_refl 0) (Nat.le_refl 0) (kI (fun x27 S hw => ?_))
  refine z_if_ne (tgt := 40) hC dX11_want_30 (by decide) (fun c30 => ?_) (fun c30 => ?_)
  · have hw := hw.1 c30
    refine z_aload_n hC dX11_want_40 rfl rfl ?_
    refine z_getP hC FX11 0 lk_515 dX11_want_41 (by decide) hw (fun x41 hw => ?_)
    refine z_getP hC FX8 7 lk_227 dX11_want_44 (by decide) hw (fun x44 hw => ?_)
    refine z_iload_n hC dX11_want_47 rfl rfl ?_
    refine z_iload_n hC dX11_want_48 rfl rfl ?_
    refine z_astI hC dX11_want_49 hw (fun S hw => ?_)
    refine z_aload_n hC dX11_want_50 rfl rfl ?_
    refine z_iconst hC ic_0 dX11_want_51 ?_
    refine z_callV (ku' := 0) (kv' := 0) (n := 1) (As := [.int 0]) (st := []) hC (c_X11_accept l G B S v0 0 _) hw.2 hw.1 rfl lk_592 lk_594 lk_1 lk_121 lk_595 hd_X11_accept rfl rfl (Nat.le_of_ble_eq_true rfl) (Nat.le_of_ble_eq_true rfl) rfl (Nat.le_of_ble_eq_true rfl) dX11_want_52 (Nat.le_refl 0) (Nat.le_refl 0) (kI (fun x52 S hw => ?_))
    exact z_iret hC hr hlk dX11_want_55 ⟨_, rfl, hw⟩
  · have hw := hw.2 c30
    refine z_aload_n hC dX11_want_33 rfl rfl ?_
    refine z_bipush hC bi_m2 dX11_want_34 ?_
    refine z_callV (ku' := 0) (kv' := 0) (n := 1) (As := [.int (-2)]) (st := []) hC (c_X11_refuse l G B S v0 (-2) _) hw.2 hw.1 rfl lk_577 lk_579 lk_0 lk_121 lk_580 hd_X11_refuse rfl rfl (Nat.le_of_ble_eq_true rfl) (Nat.le_of_ble_eq_true rfl) rfl (Nat.le_of_ble_eq_true rfl) dX11_want_36 (Nat.le_refl 0) (Nat.le_refl 0) (kI (fun x36 S hw => ?_))
    exact z_iret hC hr hlk dX11_want_39 ⟨_, rfl, hw⟩
def w_X11_want (q : Int32 → hS → Prop) (S : hS) (v0 : Nat) (v1 : Int32) (v2 : Int32) : Prop := (v2 = (-1) → w_X11_want_b22 q S v0 v1 v2) ∧ (¬ v2 = (-1) → gP S v0 11 0 (fun x6 => oK S x6 8 ∧ w_X8_hasHouse (fun x10 S => (¬ x10 = 0 → w_X11_want_b22 q S v0 v1 v2) ∧ (x10 = 0 → oK S v0 11 ∧ w_X11_refuse (fun x18 S => q x18 S) S v0 (-1))) S x6 v2))
set_option maxRecDepth 100000 in
set_option maxHeartbeats 4000000 in
theorem c_X11_want (l : Launch) (G : hG) (B : Nat) (S : hS) (v0 : Nat) (v1 : Int32) (v2 : Int32) (q : Int32 → hS → Prop) : Met l yX11_want (hws yX11_want cX11_want 3 (Option.some FieldType.int)) ({ frames := 2, cells := 0, slots := 0, locals := 81 }) (hPc G B S [.ref v0, .int v1, .int v2] (w_X11_want q S v0 v1 v2)) (hQ G B (iP q)) (0) (0) (fun r => B ≤ r) := by
  refine hMet (rm := { frames := 2, cells := 0, slots := 0, locals := 81 }) (lv := [some (.ref v0), some (.int v1), some (.int v2)]) (own := RX11) (fr := 2) (lo := 81) (by decide) rfl rfl rfl (Nat.le_of_ble_eq_true rfl) rfl (fun hw p e R s m args below meth c hC hr hlk hnm => ?_)
  unfold w_X11_want at hw
  refine z_iload_n hC dX11_want_0 rfl rfl ?_
  refine z_iconst hC ic_m1 dX11_want_1 ?_
  refine z_icmp_eq (tgt := 22) hC dX11_want_2 (by decide) (fun c2 => ?_) (fun c2 => ?_)
  · have hw := hw.1 c2
    refine z_mask (lv' := [some (.ref v0), some (.int v1), some (.int v2)]) [true, true, true] rfl ?_
    exact t_X11_want_b22 hC hr hlk hnm hw
  · have hw := hw.2 c2
    refine z_aload_n hC dX11_want_5 rfl rfl ?_
    refine z_getP hC FX11 0 lk_515 dX11_want_6 (by decide) hw (fun x6 hw => ?_)
    refine z_iload_n hC dX11_want_9 rfl rfl ?_
    refine z_callV (ku' := 0) (kv' := 0) (n := 1) (As := [.int v2]) (st := []) hC (c_X8_hasHouse l G B S x6 v2 _) hw.2 hw.1 rfl lk_600 lk_601 lk_602 lk_122 lk_603 hd_X8_hasHouse rfl rfl (Nat.le_of_ble_eq_true rfl) (Nat.le_of_ble_eq_true rfl) rfl (Nat.le_of_ble_eq_true rfl) dX11_want_10 (Nat.le_refl 0) (Nat.le_refl 0) (kI (fun x10 S hw => ?_))
    refine z_if_ne (tgt := 22) hC dX11_want_13 (by decide) (fun c13 => ?_) (fun c13 => ?_)
    · have hw := hw.1 c13
      refine z_mask (lv' := [some (.ref v0), some (.int v1), some (.int v2)]) [true, true, true] rfl ?_
      exact t_X11_want_b22 hC hr hlk hnm hw
    · have hw := hw.2 c13
      refine z_aload_n hC dX11_want_16 rfl rfl ?_
      refine z_iconst hC ic_m1 dX11_want_17 ?_
      refine z_callV (ku' := 0) (kv' := 0) (n := 1) (As := [.int (-1)]) (st := []) hC (c_X11_refuse l G B S v0 (-1) _) hw.2 hw.1 rfl lk_577 lk_579 lk_0 lk_121 lk_580 hd_X11_refuse rfl rfl (Nat.le_of_ble_eq_true rfl) (Nat.le_of_ble_eq_true rfl) rfl (Nat.le_of_ble_eq_true rfl) dX11_want_18 (Nat.le_refl 0) (Nat.le_refl 0) (kI (fun x18 S hw => ?_))
      exact z_iret hC hr hlk dX11_want_21 ⟨_, rfl, hw⟩
end
section
variable {p : Program} {l : Launch} {e : Env} {R : Room} {s : State} {m : MethodId} {args : Array Value} {below : List Frame} {meth : Method} {c : Code} {G : hG} {B mc ms : Nat}
def w_X11_will_b50 (q : Int32 → hS → Prop) (S : hS) (v0 : Nat) : Prop := oK S v0 11 ∧ w_X11_refuse (fun x52 S => q x52 S) S v0 (-1)
set_option maxRecDepth 100000 in
set_option maxHeartbeats 4000000 in
theorem t_X11_will_b50 (hC : zC p R s m args c cX11_will 6 RX11 G B mc ms 2 81) (hr : meth.sig.returnType = (Option.some FieldType.int)) (hlk : meth.locks = false) (hnm : meth.name = "will") {q : Int32 → hS → Prop} {S : hS} {v0 : Nat} (hw : w_X11_will_b50 q S v0) : Z p l e R s m args below meth c (MQ below (hQ G B (iP q)) args s mc ms (fun r => B ≤ r)) G B mc ms 6 S 0 0 50 [some (.ref v0), none, none, none, none, none] [] := by
  unfold w_X11_will_b50 at hw
  refine z_aload_n hC dX11_will_50 rfl rfl ?_
  refine z_iconst hC ic_m1 dX11_will_51 ?_
  refine z_callV (ku' := 0) (kv' := 0) (n := 1) (As := [.int (-1)]) (st := []) hC (c_X11_refuse l G B S v0 (-1) _) hw.2 hw.1 rfl lk_577 lk_579 lk_0 lk_121 lk_580 hd_X11_refuse rfl rfl (Nat.le_of_ble_eq_true rfl) (Nat.le_of_ble_eq_true rfl) rfl (Nat.le_of_ble_eq_true rfl) dX11_will_52 (Nat.le_refl 0) (Nat.le_refl 0) (kI (fun x52 S hw => ?_))
  exact z_iret hC hr hlk dX11_will_55 ⟨_, rfl, hw⟩
def w_X11_will_b56 (q : Int32 → hS → Prop) (S : hS) (v0 : Nat) (v1 : Int32) (v2 : Int32) (v3 : Int32) : Prop := (¬ v3 = 0 → gP S v0 11 0 (fun x68 => gP S x68 8 8 (fun x71 => aI S x71 v1 (fun x75 => gP S v0 11 0 (fun x79 => gP S x79 8 8 (fun x82 => sI S x82 v1 v2 (fun S => oK S v0 11 ∧ w_X11_accept (fun x91 S => q x91 S) S v0 x75))))))) ∧ (v3 = 0 → oK S v0 11 ∧ w_X11_refuse (fun x63 S => q x63 S) S v0 (-2))
set_option maxRecDepth 100000 in
set_option maxHeartbeats 4000000 in
theorem t_X11_will_b56 (hC : zC p R s m args c cX11_will 6 RX11 G B mc ms 2 81) (hr : meth.sig.returnType = (Option.some FieldType.int)) (hlk : meth.locks = false) (hnm : meth.name = "will") {q : Int32 → hS → Prop} {S : hS} {v0 : Nat} {v1 : Int32} {v2 : Int32} {v3 : Int32} (hw : w_X11_will_b56 q S v0 v1 v2 v3) : Z p l e R s m args below meth c (MQ below (hQ G B (iP q)) args s mc ms (fun r => B ≤ r)) G B mc ms 6 S 0 0 56 [some (.ref v0), some (.int v1), some (.int v2), some (.int v3), none, none] [] := by
  unfold w_X11_will_b56 at hw
  refine z_iload_n hC dX11_will_56 rfl rfl ?_
  refine z_if_ne (tgt := 67) hC dX11_will_57 (by decide) (fun c57 => ?_) (fun c57 => ?_)
  · have hw := hw.1 c57
    refine z_aload_n hC dX11_will_67 rfl rfl ?_
    refine z_getP hC FX11 0 lk_515 dX11_will_68 (by decide) hw (fun x68 hw => ?_)
    refine z_getP hC FX8 8 lk_230 dX11_will_71 (by decide) hw (fun x71 hw => ?_)
    refine z_iload_n hC dX11_will_74 rfl rfl ?_
    refine z_aldI hC dX11_will_75 hw (fun x75 hw => ?_)
    refine z_istore (i := 5) (lv' := [some (.ref v0), some (.int v1), some (.int v2), some (.int v3), none, some (.int x75)]) hC dX11_will_76 (by decide) (hok_n rfl) rfl ?_
    refine z_aload_n hC dX11_will_78 rfl rfl ?_
    refine z_getP hC FX11 0 lk_515 dX11_will_79 (by decide) hw (fun x79 hw => ?_)
    refine z_getP hC FX8 8 lk_230 dX11_will_82 (by decide) hw (fun x82 hw => ?_)
    refine z_iload_n hC dX11_will_85 rfl rfl ?_
    refine z_iload_n hC dX11_will_86 rfl rfl ?_
    refine z_astI hC dX11_will_87 hw (fun S hw => ?_)
    refine z_aload_n hC dX11_will_88 rfl rfl ?_
    refine z_iload hC dX11_will_89 rfl ?_
    refine z_callV (ku' := 0) (kv' := 0) (n := 1) (As := [.int x75]) (st := []) hC (c_X11_accept l G B S v0 x75 _) hw.2 hw.1 rfl lk_592 lk_594 lk_1 lk_121 lk_595 hd_X11_accept rfl rfl (Nat.le_of_ble_eq_true rfl) (Nat.le_of_ble_eq_true rfl) rfl (Nat.le_of_ble_eq_true rfl) dX11_will_91 (Nat.le_refl 0) (Nat.le_refl 0) (kI (fun x91 S hw => ?_))
    exact z_iret hC hr hlk dX11_will_94 ⟨_, rfl, hw⟩
  · have hw := hw.2 c57
    refine z_aload_n hC dX11_will_60 rfl rfl ?_
    refine z_bipush hC bi_m2 dX11_will_61 ?_
    refine z_callV (ku' := 0) (kv' := 0) (n := 1) (As := [.int (-2)]) (st := []) hC (c_X11_refuse l G B S v0 (-2) _) hw.2 hw.1 rfl lk_577 lk_579 lk_0 lk_121 lk_580 hd_X11_refuse rfl rfl (Nat.le_of_ble_eq_true rfl) (Nat.le_of_ble_eq_true rfl) rfl (Nat.le_of_ble_eq_true rfl) dX11_will_63 (Nat.le_refl 0) (Nat.le_refl 0) (kI (fun x63 S hw => ?_))
    exact z_iret hC hr hlk dX11_will_66 ⟨_, rfl, hw⟩
def w_X11_will_b31 (q : Int32 → hS → Prop) (S : hS) (v0 : Nat) (v1 : Int32) (v2 : Int32) (v3 : Int32) (t0 : Int32) : Prop := (¬ t0 = 0 → w_X11_will_b50 q S v0) ∧ (t0 = 0 → (v3 = 0 → w_X11_will_b56 q S v0 v1 v2 v3) ∧ (¬ v3 = 0 → w_X11_hasBit (fun x44 S => (x44 = 0 → w_X11_will_b56 q S v0 v1 v2 v3) ∧ (¬ x44 = 0 → w_X11_will_b50 q S v0)) S v2 v1))
set_option maxRecDepth 100000 in
set_option maxHeartbeats 4000000 in
theorem t_X11_will_b31 (hC : zC p R s m args c cX11_will 6 RX11 G B mc ms 2 81) (hr : meth.sig.returnType = (Option.some FieldType.int)) (hlk : meth.locks = false) (hnm : meth.name = "will") {q : Int32 → hS → Prop} {S : hS} {v0 : Nat} {v1 : Int32} {v2 : Int32} {v3 : Int32} {t0 : Int32} (hw : w_X11_will_b31 q S v0 v1 v2 v3 t0) : Z p l e R s m args below meth c (MQ below (hQ G B (iP q)) args s mc ms (fun r => B ≤ r)) G B mc ms 6 S 0 0 31 [some (.ref v0), some (.int v1), some (.int v2), some (.int v3), none, none] [.int t0] := by
  unfold w_X11_will_b31 at hw
  refine z_istore (i := 4) (lv' := [some (.ref v0), some (.int v1), some (.int v2), some (.int v3), some (.int t0), none]) hC dX11_will_31 (by decide) (hok_v rfl rfl) rfl ?_
  refine z_iload hC dX11_will_33 rfl ?_
  refine z_if_ne (tgt := 50) hC dX11_will_35 (by decide) (fun c35 => ?_) (fun c35 => ?_)
  · have hw := hw.1 c35
    refine z_mask (lv' := [some (.ref v0), none, none, none, none, none]) [true, false, false, false, false, false] rfl ?_
    exact t_X11_will_b50 hC hr hlk hnm hw
  · have hw := hw.2 c35
    refine z_iload_n hC dX11_will_38 rfl rfl ?_
    refine z_if_eq (tgt := 56) hC dX11_will_39 (by decide) (fun c39 => ?_) (fun c39 => ?_)
    · have hw := hw.1 c39
      refine z_mask (lv' := [some (.ref v0), some (.int v1), some (.int v2), some (.int v3), none, none]) [true, true, true, true, false, false] rfl ?_
      exact t_X11_will_b56 hC hr hlk hnm hw
    · have hw := hw.2 c39
      refine z_iload_n hC dX11_will_42 rfl rfl ?_
      refine z_iload_n hC dX11_will_43 rfl rfl ?_
      refine z_callS (ku' := 0) (kv' := 0) (n := 2) (As := [.int v2, .int v1]) (st := []) hC (c_X11_hasBit l G B S v2 v1 _) hw lk_690 lk_680 lk_121 lk_681 hd_X11_hasBit rfl rfl (Nat.le_of_ble_eq_true rfl) (Nat.le_of_ble_eq_true rfl) rfl (Nat.le_of_ble_eq_true rfl) dX11_will_44 (Nat.le_refl 0) (Nat.le_refl 0) (kI (fun x44 S hw => ?_))
      refine z_if_eq (tgt := 56) hC dX11_will_47 (by decide) (fun c47 => ?_) (fun c47 => ?_)
      · have hw := hw.1 c47
        refine z_mask (lv' := [some (.ref v0), some (.int v1), some (.int v2), some (.int v3), none, none]) [true, true, true, true, false, false] rfl ?_
        exact t_X11_will_b56 hC hr hlk hnm hw
      · have hw := hw.2 c47
        refine z_mask (lv' := [some (.ref v0), none, none, none, none, none]) [true, false, false, false, false, false] rfl ?_
        exact t_X11_will_b50 hC hr hlk hnm hw
def w_X11_will_b26 (q : Int32 → hS → Prop) (S : hS) (v0 : Nat) (v1 : Int32) (v2 : Int32) (v3 : Int32) : Prop := w_X11_will_b31 q S v0 v1 v2 v3 1
set_option maxRecDepth 100000 in
set_option maxHeartbeats 4000000 in
theorem t_X11_will_b26 (hC : zC p R s m args c cX11_will 6 RX11 G B mc ms 2 81) (hr : meth.sig.returnType = (Option.some FieldType.int)) (hlk : meth.locks = false) (hnm : meth.name = "will") {q : Int32 → hS → Prop} {S : hS} {v0 : Nat} {v1 : Int32} {v2 : Int32} {v3 : Int32} (hw : w_X11_will_b26 q S v0 v1 v2 v3) : Z p l e R s m args below meth c (MQ below (hQ G B (iP q)) args s mc ms (fun r => B ≤ r)) G B mc ms 6 S 0 0 26 [some (.ref v0), some (.int v1), some (.int v2), some (.int v3), none, none] [] := by
  unfold w_X11_will_b26 at hw
  refine z_iconst hC ic_1 dX11_will_26 ?_
  refine z_goto (tgt := 31) hC dX11_will_27 (by decide) ?_
  refine z_mask (lv' := [some (.ref v0), some (.int v1), some (.int v2), some (.int v3), none, none]) [true, true, true, true, false, false] rfl ?_
  exact t_X11_will_b31 hC hr hlk hnm hw
def w_X11_will (q : Int32 → hS → Prop) (S : hS) (v0 : Nat) (v1 : Int32) (v2 : Int32) : Prop := gP S v0 11 0 (fun x1 => oK S x1 8 ∧ w_X8_hasPerson (fun x5 S => (v2 < 0 → w_X11_will_b26 q S v0 v1 v2 x5) ∧ (¬ v2 < 0 → gP S v0 11 0 (fun x16 => gI S x16 8 4 (fun x19 => (v2 < (1 <<< (x19 &&& 31)) → w_X11_will_b31 q S v0 v1 v2 x5 0) ∧ (¬ v2 < (1 <<< (x19 &&& 31)) → w_X11_will_b26 q S v0 v1 v2 x5))))) S x1 v1)
set_option maxRecDepth 100000 in
set_option maxHeartbeats 4000000 in
theorem c_X11_will (l : Launch) (G : hG) (B : Nat) (S : hS) (v0 : Nat) (v1 : Int32) (v2 : Int32) (q : Int32 → hS → Prop) : Met l yX11_will (hws yX11_will cX11_will 6 (Option.some FieldType.int)) ({ frames := 2, cells := 0, slots := 0, locals := 81 }) (hPc G B S [.ref v0, .int v1, .int v2] (w_X11_will q S v0 v1 v2)) (hQ G B (iP q)) (0) (0) (fun r => B ≤ r) := by
  refine hMet (rm := { frames := 2, cells := 0, slots := 0, locals := 81 }) (lv := [some (.ref v0), some (.int v1), some (.int v2), none, none, none]) (own := RX11) (fr := 2) (lo := 81) (by decide) rfl rfl rfl (Nat.le_of_ble_eq_true rfl) rfl (fun hw p e R s m args below meth c hC hr hlk hnm => ?_)
  unfold w_X11_will at hw
  refine z_aload_n hC dX11_will_0 rfl rfl ?_
  refine z_getP hC FX11 0 lk_515 dX11_will_1 (by decide) hw (fun x1 hw => ?_)
  refine z_iload_n hC dX11_will_4 rfl rfl ?_
  refine z_callV (ku' := 0) (kv' := 0) (n := 1) (As := [.int v1]) (st := []) hC (c_X8_hasPerson l G B S x1 v1 _) hw.2 hw.1 rfl lk_674 lk_613 lk_614 lk_122 lk_615 hd_X8_hasPerson rfl rfl (Nat.le_of_ble_eq_true rfl) (Nat.le_of_ble_eq_true rfl) rfl (Nat.le_of_ble_eq_true rfl) dX11_will_5 (Nat.le_refl 0) (Nat.le_refl 0) (kI (fun x5 S hw => ?_))
  refine z_istore_n (i := 3) (lv' := [some (.ref v0), some (.int v1), some (.int v2), some (.int x5), none, none]) hC rfl dX11_will_8 (by decide) (hok_v rfl rfl) rfl ?_
  refine z_iload_n hC dX11_will_9 rfl rfl ?_
  refine z_if_lt (tgt := 26) hC dX11_will_10 (by decide) (fun c10 => ?_) (fun c10 => ?_)
  · have hw := hw.1 c10
    refine z_mask (lv' := [some (.ref v0), some (.int v1), some (.int v2), some (.int x5), none, none]) [true, true, true, true, false, false] rfl ?_
    exact t_X11_will_b26 hC hr hlk hnm hw
  · have hw := hw.2 c10
    refine z_iload_n hC dX11_will_13 rfl rfl ?_
    refine z_iconst hC ic_1 dX11_will_14 ?_
    refine z_aload_n hC dX11_will_15 rfl rfl ?_
    refine z_getP hC FX11 0 lk_515 dX11_will_16 (by decide) hw (fun x16 hw => ?_)
    refine z_getI hC FX8 4 lk_218 dX11_will_19 (by decide) hw (fun x19 hw => ?_)
    refine z_ishl hC dX11_will_22 ?_
    refine z_icmp_lt (tgt := 30) hC dX11_will_23 (by decide) (fun c23 => ?_) (fun c23 => ?_)
    · have hw := hw.1 c23
      refine z_iconst hC ic_0 dX11_will_30 ?_
      refine z_mask (lv' := [some (.ref v0), some (.int v1), some (.int v2), some (.int x5), none, none]) [true, true, true, true, false, false] rfl ?_
      exact t_X11_will_b31 hC hr hlk hnm hw
    · have hw := hw.2 c23
      refine z_mask (lv' := [some (.ref v0), some (.int v1), some (.int v2), some (.int x5), none, none]) [true, true, true, true, false, false] rfl ?_
      exact t_X11_will_b26 hC hr hlk hnm hw
end
section
variable {p : Program} {l : Launch} {e : Env} {R : Room} {s : State} {m : MethodId} {args : Array Value} {below : List Frame} {meth : Method} {c : Code} {G : hG} {B mc ms : Nat}
def w_X11_right_b37 (q : Int32 → hS → Prop) (S : hS) (v0 : Nat) : Prop := oK S v0 11 ∧ w_X11_refuse (fun x40 S => q x40 S) S v0 (-2)
set_option maxRecDepth 100000 in
set_option maxHeartbeats 4000000 in
theorem t_X11_right_b37 (hC : zC p R s m args c cX11_right 5 RX11 G B mc ms 3 103) (hr : meth.sig.returnType = (Option.some FieldType.int)) (hlk : meth.locks = false) (hnm : meth.name = "right") {q : Int32 → hS → Prop} {S : hS} {v0 : Nat} (hw : w_X11_right_b37 q S v0) : Z p l e R s m args below meth c (MQ below (hQ G B (iP q)) args s mc ms (fun r => B ≤ r)) G B mc ms 5 S 0 0 37 [some (.ref v0), none, none, none, none] [] := by
  unfold w_X11_right_b37 at hw
  refine z_aload_n hC dX11_right_37 rfl rfl ?_
  refine z_bipush hC bi_m2 dX11_right_38 ?_
  refine z_callV (ku' := 0) (kv' := 0) (n := 1) (As := [.int (-2)]) (st := []) hC (c_X11_refuse l G B S v0 (-2) _) hw.2 hw.1 rfl lk_577 lk_579 lk_0 lk_121 lk_580 hd_X11_refuse rfl rfl (Nat.le_of_ble_eq_true rfl) (Nat.le_of_ble_eq_true rfl) rfl (Nat.le_of_ble_eq_true rfl) dX11_right_40 (Nat.le_refl 0) (Nat.le_refl 0) (kI (fun x40 S hw => ?_))
  exact z_iret hC hr hlk dX11_right_43 ⟨_, rfl, hw⟩
def w_X11_right_b68 (q : Int32 → hS → Prop) (S : hS) (v0 : Nat) : Prop := oK S v0 11 ∧ w_X11_refuse (fun x71 S => q x71 S) S v0 (-3)
set_option maxRecDepth 100000 in
set_option maxHeartbeats 4000000 in
theorem t_X11_right_b68 (hC : zC p R s m args c cX11_right 5 RX11 G B mc ms 3 103) (hr : meth.sig.returnType = (Option.some FieldType.int)) (hlk : meth.locks = false) (hnm : meth.name = "right") {q : Int32 → hS → Prop} {S : hS} {v0 : Nat} (hw : w_X11_right_b68 q S v0) : Z p l e R s m args below meth c (MQ below (hQ G B (iP q)) args s mc ms (fun r => B ≤ r)) G B mc ms 5 S 0 0 68 [some (.ref v0), none, none, none, none] [] := by
  unfold w_X11_right_b68 at hw
  refine z_aload_n hC dX11_right_68 rfl rfl ?_
  refine z_bipush hC bi_m3 dX11_right_69 ?_
  refine z_callV (ku' := 0) (kv' := 0) (n := 1) (As := [.int (-3)]) (st := []) hC (c_X11_refuse l G B S v0 (-3) _) hw.2 hw.1 rfl lk_577 lk_579 lk_0 lk_121 lk_580 hd_X11_refuse rfl rfl (Nat.le_of_ble_eq_true rfl) (Nat.le_of_ble_eq_true rfl) rfl (Nat.le_of_ble_eq_true rfl) dX11_right_71 (Nat.le_refl 0) (Nat.le_refl 0) (kI (fun x71 S hw => ?_))
  exact z_iret hC hr hlk dX11_right_74 ⟨_, rfl, hw⟩
def w_X11_right (q : Int32 → hS → Prop) (S : hS) (v0 : Nat) (v1 : Int32) (v2 : Int32) (v3 : Int32) : Prop := w_X11_isWithin (fun x3 S => (¬ x3 = 0 → gP S v0 11 0 (fun x16 => oK S x16 8 ∧ w_X8_hasPerson (fun x20 S => (x20 = 0 → w_X11_right_b37 q S v0) ∧ (¬ x20 = 0 → gP S v0 11 0 (fun x27 => oK S x27 8 ∧ w_X8_hasHouse (fun x31 S => (¬ x31 = 0 → gP S v0 11 0 (fun x45 => oK S x45 8 ∧ w_X8_lives (fun x49 S => (x49 = 0 → w_X11_right_b68 q S v0) ∧ (¬ x49 = 0 → gP S v0 11 0 (fun x57 => oK S x57 8 ∧ w_X8_usedOf (fun x62 S => (x62 ≤ v3 → gP S v0 11 0 (fun x76 => oK S x76 8 ∧ w_X8_rightsOf (fun x81 S => gP S v0 11 0 (fun x87 => gP S x87 8 0 (fun x90 => gP S x90 2 0 (fun x93 => w_X11_slot (fun x98 S => sI S x93 x98 v3 (fun S => gP S v0 11 3 (fun x104 => oK S x104 3 ∧ w_X3_clear (fun S => oK S v0 11 ∧ w_X11_accept (fun x113 S => q x113 S) S v0 x81) S x104))) S v1 v2)))) S x76 v1 v2)) ∧ (¬ x62 ≤ v3 → w_X11_right_b68 q S v0)) S x57 v1 v2))) S x45 v1)) ∧ (x31 = 0 → w_X11_right_b37 q S v0)) S x27 v2))) S x16 v1)) ∧ (x3 = 0 → oK S v0 11 ∧ w_X11_refuse (fun x11 S => q x11 S) S v0 (-1))) S v3 99
set_option maxRecDepth 100000 in
set_option maxHeartbeats 4000000 in
theorem c_X11_right (l : Launch) (G : hG) (B : Nat) (S : hS) (v0 : Nat) (v1 : Int32) (v2 : Int32) (v3 : Int32) (q : Int32 → hS → Prop) : Met l yX11_right (hws yX11_right cX11_right 5 (Option.some FieldType.int)) ({ frames := 3, cells := 0, slots := 0, locals := 103 }) (hPc G B S [.ref v0, .int v1, .int v2, .int v3] (w_X11_right q S v0 v1 v2 v3)) (hQ G B (iP q)) (0) (0) (fun r => B ≤ r) := by
  refine hMet (rm := { frames := 3, cells := 0, slots := 0, locals := 103 }) (lv := [some (.ref v0), some (.int v1), some (.int v2), some (.int v3), none]) (own := RX11) (fr := 3) (lo := 103) (by decide) rfl rfl rfl (Nat.le_of_ble_eq_true rfl) rfl (fun hw p e R s m args below meth c hC hr hlk hnm => ?_)
  unfold w_X11_right at hw
  refine z_iload_n hC dX11_right_0 rfl rfl ?_
  refine z_bipush hC bi_99 dX11_right_1 ?_
  refine z_callS (ku' := 0) (kv' := 0) (n := 2) (As := [.int v3, .int 99]) (st := []) hC (c_X11_isWithin l G B S v3 99 _) hw lk_574 lk_575 lk_121 lk_576 hd_X11_isWithin rfl rfl (Nat.le_of_ble_eq_true rfl) (Nat.le_of_ble_eq_true rfl) rfl (Nat.le_of_ble_eq_true rfl) dX11_right_3 (Nat.le_refl 0) (Nat.le_refl 0) (kI (fun x3 S hw => ?_))
  refine z_if_ne (tgt := 15) hC dX11_right_6 (by decide) (fun c6 => ?_) (fun c6 => ?_)
  · have hw := hw.1 c6
    refine z_aload_n hC dX11_right_15 rfl rfl ?_
    refine z_getP hC FX11 0 lk_515 dX11_right_16 (by decide) hw (fun x16 hw => ?_)
    refine z_iload_n hC dX11_right_19 rfl rfl ?_
    refine z_callV (ku' := 0) (kv' := 0) (n := 1) (As := [.int v1]) (st := []) hC (c_X8_hasPerson l G B S x16 v1 _) hw.2 hw.1 rfl lk_674 lk_613 lk_614 lk_122 lk_615 hd_X8_hasPerson rfl rfl (Nat.le_of_ble_eq_true rfl) (Nat.le_of_ble_eq_true rfl) rfl (Nat.le_of_ble_eq_true rfl) dX11_right_20 (Nat.le_refl 0) (Nat.le_refl 0) (kI (fun x20 S hw => ?_))
    refine z_if_eq (tgt := 37) hC dX11_right_23 (by decide) (fun c23 => ?_) (fun c23 => ?_)
    · have hw := hw.1 c23
      refine z_mask (lv' := [some (.ref v0), none, none, none, none]) [true, false, false, false, false] rfl ?_
      exact t_X11_right_b37 hC hr hlk hnm hw
    · have hw := hw.2 c23
      refine z_aload_n hC dX11_right_26 rfl rfl ?_
      refine z_getP hC FX11 0 lk_515 dX11_right_27 (by decide) hw (fun x27 hw => ?_)
      refine z_iload_n hC dX11_right_30 rfl rfl ?_
      refine z_callV (ku' := 0) (kv' := 0) (n := 1) (As := [.int v2]) (st := []) hC (c_X8_hasHouse l G B S x27 v2 _) hw.2 hw.1 rfl lk_600 lk_601 lk_602 lk_122 lk_603 hd_X8_hasHouse rfl rfl (Nat.le_of_ble_eq_true rfl) (Nat.le_of_ble_eq_true rfl) rfl (Nat.le_of_ble_eq_true rfl) dX11_right_31 (Nat.le_refl 0) (Nat.le_refl 0) (kI (fun x31 S hw => ?_))
      refine z_if_ne (tgt := 44) hC dX11_right_34 (by decide) (fun c34 => ?_) (fun c34 => ?_)
      · have hw := hw.1 c34
        refine z_aload_n hC dX11_right_44 rfl rfl ?_
        refine z_getP hC FX11 0 lk_515 dX11_right_45 (by decide) hw (fun x45 hw => ?_)
        refine z_iload_n hC dX11_right_48 rfl rfl ?_
        refine z_callV (ku' := 0) (kv' := 0) (n := 1) (As := [.int v1]) (st := []) hC (c_X8_lives l G B S x45 v1 _) hw.2 hw.1 rfl lk_675 lk_676 lk_677 lk_122 lk_678 hd_X8_lives rfl rfl (Nat.le_of_ble_eq_true rfl) (Nat.le_of_ble_eq_true rfl) rfl (Nat.le_of_ble_eq_true rfl) dX11_right_49 (Nat.le_refl 0) (Nat.le_refl 0) (kI (fun x49 S hw => ?_))
        refine z_if_eq (tgt := 68) hC dX11_right_52 (by decide) (fun c52 => ?_) (fun c52 => ?_)
        · have hw := hw.1 c52
          refine z_mask (lv' := [some (.ref v0), none, none, none, none]) [true, false, false, false, false] rfl ?_
          exact t_X11_right_b68 hC hr hlk hnm hw
        · have hw := hw.2 c52
          refine z_iload_n hC dX11_right_55 rfl rfl ?_
          refine z_aload_n hC dX11_right_56 rfl rfl ?_
          refine z_getP hC FX11 0 lk_515 dX11_right_57 (by decide) hw (fun x57 hw => ?_)
          refine z_iload_n hC dX11_right_60 rfl rfl ?_
          refine z_iload_n hC dX11_right_61 rfl rfl ?_
          refine z_callV (ku' := 0) (kv' := 0) (n := 2) (As := [.int v1, .int v2]) (st := [.int v3]) hC (c_X8_usedOf l G B S x57 v1 v2 _) hw.2 hw.1 rfl lk_695 lk_696 lk_697 lk_122 lk_698 hd_X8_usedOf rfl rfl (Nat.le_of_ble_eq_true rfl) (Nat.le_of_ble_eq_true rfl) rfl (Nat.le_of_ble_eq_true rfl) dX11_right_62 (Nat.le_refl 0) (Nat.le_refl 0) (kI (fun x62 S hw => ?_))
          refine z_icmp_ge (tgt := 75) hC dX11_right_65 (by decide) (fun c65 => ?_) (fun c65 => ?_)
          · have hw := hw.1 c65
            refine z_aload_n hC dX11_right_75 rfl rfl ?_
            refine z_getP hC FX11 0 lk_515 dX11_right_76 (by decide) hw (fun x76 hw => ?_)
            refine z_iload_n hC dX11_right_79 rfl rfl ?_
            refine z_iload_n hC dX11_right_80 rfl rfl ?_
            refine z_callV (ku' := 0) (kv' := 0) (n := 2) (As := [.int v1, .int v2]) (st := []) hC (c_X8_rightsOf l G B S x76 v1 v2 _) hw.2 hw.1 rfl lk_699 lk_609 lk_610 lk_122 lk_611 hd_X8_rightsOf rfl rfl (Nat.le_of_ble_eq_true rfl) (Nat.le_of_ble_eq_true rfl) rfl (Nat.le_of_ble_eq_true rfl) dX11_right_81 (Nat.le_refl 0) (Nat.le_refl 0) (kI (fun x81 S hw => ?_))
            refine z_istore (i := 4) (lv' := [some (.ref v0), some (.int v1), some (.int v2), some (.int v3), some (.int x81)]) hC dX11_right_84 (by decide) (hok_v rfl rfl) rfl ?_
            refine z_aload_n hC dX11_right_86 rfl rfl ?_
            refine z_getP hC FX11 0 lk_515 dX11_right_87 (by decide) hw (fun x87 hw => ?_)
            refine z_getP hC FX8 0 lk_203 dX11_right_90 (by decide) hw (fun x90 hw => ?_)
            refine z_getP hC FX2 0 lk_164 dX11_right_93 (by decide) hw (fun x93 hw => ?_)
            refine z_iload_n hC dX11_right_96 rfl rfl ?_
            refine z_iload_n hC dX11_right_97 rfl rfl ?_
            refine z_callS (ku' := 0) (kv' := 0) (n := 2) (As := [.int v1, .int v2]) (st := [.ref x93]) hC (c_X11_slot l G B S v1 v2 _) hw lk_700 lk_590 lk_121 lk_591 hd_X11_slot rfl rfl (Nat.le_of_ble_eq_true rfl) (Nat.le_of_ble_eq_true rfl) rfl (Nat.le_of_ble_eq_true rfl) dX11_right_98 (Nat.le_refl 0) (Nat.le_refl 0) (kI (fun x98 S hw => ?_))
            refine z_iload_n hC dX11_right_101 rfl rfl ?_
            refine z_astI hC dX11_right_102 hw (fun S hw => ?_)
            refine z_aload_n hC dX11_right_103 rfl rfl ?_
            refine z_getP hC FX11 3 lk_518 dX11_right_104 (by decide) hw (fun x104 hw => ?_)
            refine z_callV (ku' := 0) (kv' := 0) (n := 0) (As := []) (st := []) hC (c_X3_clear l G B S x104 _) hw.2 hw.1 rfl lk_581 lk_582 lk_583 lk_124 lk_584 hd_X3_clear rfl rfl (Nat.le_of_ble_eq_true rfl) (Nat.le_of_ble_eq_true rfl) rfl (Nat.le_of_ble_eq_true rfl) dX11_right_107 (Nat.le_refl 0) (Nat.le_refl 0) (kV (fun S hw => ?_))
            refine z_aload_n hC dX11_right_110 rfl rfl ?_
            refine z_iload hC dX11_right_111 rfl ?_
            refine z_callV (ku' := 0) (kv' := 0) (n := 1) (As := [.int x81]) (st := []) hC (c_X11_accept l G B S v0 x81 _) hw.2 hw.1 rfl lk_592 lk_594 lk_1 lk_121 lk_595 hd_X11_accept rfl rfl (Nat.le_of_ble_eq_true rfl) (Nat.le_of_ble_eq_true rfl) rfl (Nat.le_of_ble_eq_true rfl) dX11_right_113 (Nat.le_refl 0) (Nat.le_refl 0) (kI (fun x113 S hw => ?_))
            exact z_iret hC hr hlk dX11_right_116 ⟨_, rfl, hw⟩
          · have hw := hw.2 c65
            refine z_mask (lv' := [some (.ref v0), none, none, none, none]) [true, false, false, false, false] rfl ?_
            exact t_X11_right_b68 hC hr hlk hnm hw
      · have hw := hw.2 c34
        refine z_mask (lv' := [some (.ref v0), none, none, none, none]) [true, false, false, false, false] rfl ?_
        exact t_X11_right_b37 hC hr hlk hnm hw
  · have hw := hw.2 c6
    refine z_aload_n hC dX11_right_9 rfl rfl ?_
    refine z_iconst hC ic_m1 dX11_right_10 ?_
    refine z_callV (ku' := 0) (kv' := 0) (n := 1) (As := [.int (-1)]) (st := []) hC (c_X11_refuse l G B S v0 (-1) _) hw.2 hw.1 rfl lk_577 lk_579 lk_0 lk_121 lk_580 hd_X11_refuse rfl rfl (Nat.le_of_ble_eq_true rfl) (Nat.le_of_ble_eq_true rfl) rfl (Nat.le_of_ble_eq_true rfl) dX11_right_11 (Nat.le_refl 0) (Nat.le_refl 0) (kI (fun x11 S hw => ?_))
    exact z_iret hC hr hlk dX11_right_14 ⟨_, rfl, hw⟩
end
section
variable {p : Program} {l : Launch} {e : Env} {R : Room} {s : State} {m : MethodId} {args : Array Value} {below : List Frame} {meth : Method} {c : Code} {G : hG} {B mc ms : Nat}
def w_X11_has (q : Int32 → hS → Prop) (S : hS) (v0 : Nat) (v1 : Int32) (v2 : Int32) (v3 : Int32) : Prop := gP S v0 11 0 (fun x1 => oK S x1 8 ∧ w_X8_hasPerson (fun x5 S => (x5 = 0 → q (-1) S) ∧ (¬ x5 = 0 → gP S v0 11 0 (fun x12 => oK S x12 8 ∧ w_X8_hasHouse (fun x16 S => (¬ x16 = 0 → ∀ y25 : Int32, y25 = v3 → ((y25.toInt = 0 → gP S v0 11 0 (fun x61 => oK S x61 8 ∧ w_X8_rightsOf (fun x66 S => q x66 S) S x61 v1 v2)) ∧ (y25.toInt = 1 → gP S v0 11 0 (fun x71 => oK S x71 8 ∧ w_X8_usedOf (fun x76 S => q x76 S) S x71 v1 v2)) ∧ (y25.toInt = 2 → gP S v0 11 0 (fun x81 => oK S x81 8 ∧ w_X8_leftOf (fun x86 S => q x86 S) S x81 v1 v2)) ∧ (y25.toInt = 3 → gP S v0 11 6 (fun x91 => gP S v0 11 0 (fun x95 => oK S x91 0 ∧ w_X0_opensTo (fun x100 S => (x100 = 0 → q 0 S) ∧ (¬ x100 = 0 → q 1 S)) S x91 x95 v1 v2))) ∧ (y25.toInt = 4 → gP S v0 11 6 (fun x113 => gP S v0 11 0 (fun x117 => oK S x113 0 ∧ w_X0_tiring (fun x122 S => q x122 S) S x113 x117 v1 v2))) ∧ ((y25.toInt < 0 ∨ 4 < y25.toInt) → q (-1) S))) ∧ (x16 = 0 → q (-1) S)) S x12 v2))) S x1 v1)
set_option maxRecDepth 100000 in
set_option maxHeartbeats 4000000 in
theorem c_X11_has (l : Launch) (G : hG) (B : Nat) (S : hS) (v0 : Nat) (v1 : Int32) (v2 : Int32) (v3 : Int32) (q : Int32 → hS → Prop) : Met l yX11_has (hws yX11_has cX11_has 4 (Option.some FieldType.int)) ({ frames := 5, cells := 0, slots := 0, locals := 163 }) (hPc G B S [.ref v0, .int v1, .int v2, .int v3] (w_X11_has q S v0 v1 v2 v3)) (hQ G B (iP q)) (0) (0) (fun r => B ≤ r) := by
  refine hMet (rm := { frames := 5, cells := 0, slots := 0, locals := 163 }) (lv := [some (.ref v0), some (.int v1), some (.int v2), some (.int v3)]) (own := RX11) (fr := 5) (lo := 163) (by decide) rfl rfl rfl (Nat.le_of_ble_eq_true rfl) rfl (fun hw p e R s m args below meth c hC hr hlk hnm => ?_)
  unfold w_X11_has at hw
  refine z_aload_n hC dX11_has_0 rfl rfl ?_
  refine z_getP hC FX11 0 lk_515 dX11_has_1 (by decide) hw (fun x1 hw => ?_)
  refine z_iload_n hC dX11_has_4 rfl rfl ?_
  refine z_callV (ku' := 0) (kv' := 0) (n := 1) (As := [.int v1]) (st := []) hC (c_X8_hasPerson l G B S x1 v1 _) hw.2 hw.1 rfl lk_674 lk_613 lk_614 lk_122 lk_615 hd_X8_hasPerson rfl rfl (Nat.le_of_ble_eq_true rfl) (Nat.le_of_ble_eq_true rfl) rfl (Nat.le_of_ble_eq_true rfl) dX11_has_5 (Nat.le_refl 0) (Nat.le_refl 0) (kI (fun x5 S hw => ?_))
  refine z_if_eq (tgt := 22) hC dX11_has_8 (by decide) (fun c8 => ?_) (fun c8 => ?_)
  · have hw := hw.1 c8
    refine z_iconst hC ic_m1 dX11_has_22 ?_
    exact z_iret hC hr hlk dX11_has_23 ⟨_, rfl, hw⟩
  · have hw := hw.2 c8
    refine z_aload_n hC dX11_has_11 rfl rfl ?_
    refine z_getP hC FX11 0 lk_515 dX11_has_12 (by decide) hw (fun x12 hw => ?_)
    refine z_iload_n hC dX11_has_15 rfl rfl ?_
    refine z_callV (ku' := 0) (kv' := 0) (n := 1) (As := [.int v2]) (st := []) hC (c_X8_hasHouse l G B S x12 v2 _) hw.2 hw.1 rfl lk_600 lk_601 lk_602 lk_122 lk_603 hd_X8_hasHouse rfl rfl (Nat.le_of_ble_eq_true rfl) (Nat.le_of_ble_eq_true rfl) rfl (Nat.le_of_ble_eq_true rfl) dX11_has_16 (Nat.le_refl 0) (Nat.le_refl 0) (kI (fun x16 S hw => ?_))
    refine z_if_ne (tgt := 24) hC dX11_has_19 (by decide) (fun c19 => ?_) (fun c19 => ?_)
    · have hw := hw.1 c19
      refine z_iload_n hC dX11_has_24 rfl rfl ?_
      refine z_nmI (fun y25 e25 => ?_)
      have hw := hw y25 e25
      by_cases q25_0 : y25.toInt = 0
      · have hw := hw.1 q25_0
        refine z_tabIn (tgt := 60) (off := 35) hC 0 dX11_has_25 q25_0 (by decide) rfl (by decide) ?_
        refine z_aload_n hC dX11_has_60 rfl rfl ?_
        refine z_getP hC FX11 0 lk_515 dX11_has_61 (by decide) hw (fun x61 hw => ?_)
        refine z_iload_n hC dX11_has_64 rfl rfl ?_
        refine z_iload_n hC dX11_has_65 rfl rfl ?_
        refine z_callV (ku' := 0) (kv' := 0) (n := 2) (As := [.int v1, .int v2]) (st := []) hC (c_X8_rightsOf l G B S x61 v1 v2 _) hw.2 hw.1 rfl lk_699 lk_609 lk_610 lk_122 lk_611 hd_X8_rightsOf rfl rfl (Nat.le_of_ble_eq_true rfl) (Nat.le_of_ble_eq_true rfl) rfl (Nat.le_of_ble_eq_true rfl) dX11_has_66 (Nat.le_refl 0) (Nat.le_refl 0) (kI (fun x66 S hw => ?_))
        exact z_iret hC hr hlk dX11_has_69 ⟨_, rfl, hw⟩
      by_cases q25_1 : y25.toInt = 1
      · have hw := hw.2.1 q25_1
        refine z_tabIn (tgt := 70) (off := 45) hC 1 dX11_has_25 q25_1 (by decide) rfl (by decide) ?_
        refine z_aload_n hC dX11_has_70 rfl rfl ?_
        refine z_getP hC FX11 0 lk_515 dX11_has_71 (by decide) hw (fun x71 hw => ?_)
        refine z_iload_n hC dX11_has_74 rfl rfl ?_
        refine z_iload_n hC dX11_has_75 rfl rfl ?_
        refine z_callV (ku' := 0) (kv' := 0) (n := 2) (As := [.int v1, .int v2]) (st := []) hC (c_X8_usedOf l G B S x71 v1 v2 _) hw.2 hw.1 rfl lk_695 lk_696 lk_697 lk_122 lk_698 hd_X8_usedOf rfl rfl (Nat.le_of_ble_eq_true rfl) (Nat.le_of_ble_eq_true rfl) rfl (Nat.le_of_ble_eq_true rfl) dX11_has_76 (Nat.le_refl 0) (Nat.le_refl 0) (kI (fun x76 S hw => ?_))
        exact z_iret hC hr hlk dX11_has_79 ⟨_, rfl, hw⟩
      by_cases q25_2 : y25.toInt = 2
      · have hw := hw.2.2.1 q25_2
        refine z_tabIn (tgt := 80) (off := 55) hC 2 dX11_has_25 q25_2 (by decide) rfl (by decide) ?_
        refine z_aload_n hC dX11_has_80 rfl rfl ?_
        refine z_getP hC FX11 0 lk_515 dX11_has_81 (by decide) hw (fun x81 hw => ?_)
        refine z_iload_n hC dX11_has_84 rfl rfl ?_
        refine z_iload_n hC dX11_has_85 rfl rfl ?_
        refine z_callV (ku' := 0) (kv' := 0) (n := 2) (As := [.int v1, .int v2]) (st := []) hC (c_X8_leftOf l G B S x81 v1 v2 _) hw.2 hw.1 rfl lk_705 lk_628 lk_629 lk_122 lk_630 hd_X8_leftOf rfl rfl (Nat.le_of_ble_eq_true rfl) (Nat.le_of_ble_eq_true rfl) rfl (Nat.le_of_ble_eq_true rfl) dX11_has_86 (Nat.le_refl 0) (Nat.le_refl 0) (kI (fun x86 S hw => ?_))
        exact z_iret hC hr hlk dX11_has_89 ⟨_, rfl, hw⟩
      by_cases q25_3 : y25.toInt = 3
      · have hw := hw.2.2.2.1 q25_3
        refine z_tabIn (tgt := 90) (off := 65) hC 3 dX11_has_25 q25_3 (by decide) rfl (by decide) ?_
        refine z_aload_n hC dX11_has_90 rfl rfl ?_
        refine z_getP hC FX11 6 lk_521 dX11_has_91 (by decide) hw (fun x91 hw => ?_)
        refine z_aload_n hC dX11_has_94 rfl rfl ?_
        refine z_getP hC FX11 0 lk_515 dX11_has_95 (by decide) hw (fun x95 hw => ?_)
        refine z_iload_n hC dX11_has_98 rfl rfl ?_
        refine z_iload_n hC dX11_has_99 rfl rfl ?_
        refine z_callV (ku' := 0) (kv' := 0) (n := 3) (As := [.ref x95, .int v1, .int v2]) (st := []) hC (c_X0_opensTo l G B S x91 x95 v1 v2 _) hw.2 hw.1 rfl lk_706 lk_707 lk_708 lk_128 lk_709 hd_X0_opensTo rfl rfl (Nat.le_of_ble_eq_true rfl) (Nat.le_of_ble_eq_true rfl) rfl (Nat.le_of_ble_eq_true rfl) dX11_has_100 (Nat.le_refl 0) (Nat.le_refl 0) (kI (fun x100 S hw => ?_))
        refine z_if_eq (tgt := 110) hC dX11_has_103 (by decide) (fun c103 => ?_) (fun c103 => ?_)
        · have hw := hw.1 c103
          refine z_iconst hC ic_0 dX11_has_110 ?_
          exact z_iret hC hr hlk dX11_has_111 ⟨_, rfl, hw⟩
        · have hw := hw.2 c103
          refine z_iconst hC ic_1 dX11_has_106 ?_
          refine z_goto (tgt := 111) hC dX11_has_107 (by decide) ?_
          exact z_iret hC hr hlk dX11_has_111 ⟨_, rfl, hw⟩
      by_cases q25_4 : y25.toInt = 4
      · have hw := hw.2.2.2.2.1 q25_4
        refine z_tabIn (tgt := 112) (off := 87) hC 4 dX11_has_25 q25_4 (by decide) rfl (by decide) ?_
        refine z_aload_n hC dX11_has_112 rfl rfl ?_
        refine z_getP hC FX11 6 lk_521 dX11_has_113 (by decide) hw (fun x113 hw => ?_)
        refine z_aload_n hC dX11_has_116 rfl rfl ?_
        refine z_getP hC FX11 0 lk_515 dX11_has_117 (by decide) hw (fun x117 hw => ?_)
        refine z_iload_n hC dX11_has_120 rfl rfl ?_
        refine z_iload_n hC dX11_has_121 rfl rfl ?_
        refine z_callV (ku' := 0) (kv' := 0) (n := 3) (As := [.ref x117, .int v1, .int v2]) (st := []) hC (c_X0_tiring l G B S x113 x117 v1 v2 _) hw.2 hw.1 rfl lk_718 lk_719 lk_720 lk_128 lk_721 hd_X0_tiring rfl rfl (Nat.le_of_ble_eq_true rfl) (Nat.le_of_ble_eq_true rfl) rfl (Nat.le_of_ble_eq_true rfl) dX11_has_122 (Nat.le_refl 0) (Nat.le_refl 0) (kI (fun x122 S hw => ?_))
        exact z_iret hC hr hlk dX11_has_125 ⟨_, rfl, hw⟩
      have o25 : y25.toInt < 0 ∨ 4 < y25.toInt := by omega
      have hw := hw.2.2.2.2.2 o25
      refine z_tabOut (tgt := 126) hC dX11_has_25 o25 (by decide) ?_
      refine z_iconst hC ic_m1 dX11_has_126 ?_
      exact z_iret hC hr hlk dX11_has_127 ⟨_, rfl, hw⟩
    · have hw := hw.2 c19
      refine z_iconst hC ic_m1 dX11_has_22 ?_
      exact z_iret hC hr hlk dX11_has_23 ⟨_, rfl, hw⟩
end
section
variable {p : Program} {l : Launch} {e : Env} {R : Room} {s : State} {m : MethodId} {args : Array Value} {below : List Frame} {meth : Method} {c : Code} {G : hG} {B mc ms : Nat}
def w_X11_canSell (q : Int32 → hS → Prop) (S : hS) (v0 : Nat) (v1 : Int32) (v2 : Int32) (v3 : Int32) : Prop := gP S v0 11 0 (fun x1 => oK S x1 8 ∧ w_X8_leftOf (fun x6 S => (x6 < 1 → q 0 S) ∧ (¬ x6 < 1 → gP S v0 11 7 (fun x14 => gP S v0 11 0 (fun x18 => oK S x14 1 ∧ w_X1_canBuy (fun x24 S => (x24 = 0 → q 0 S) ∧ (¬ x24 = 0 → q 1 S)) S x14 x18 v1 v2 v3)))) S x1 v1 v3)
set_option maxRecDepth 100000 in
set_option maxHeartbeats 4000000 in
theorem c_X11_canSell (l : Launch) (G : hG) (B : Nat) (S : hS) (v0 : Nat) (v1 : Int32) (v2 : Int32) (v3 : Int32) (q : Int32 → hS → Prop) : Met l yX11_canSell (hws yX11_canSell cX11_canSell 4 (Option.some FieldType.boolean)) ({ frames := 6, cells := 0, slots := 0, locals := 188 }) (hPc G B S [.ref v0, .int v1, .int v2, .int v3] (w_X11_canSell q S v0 v1 v2 v3)) (hQ G B (iP q)) (0) (0) (fun r => B ≤ r) := by
  refine hMet (rm := { frames := 6, cells := 0, slots := 0, locals := 188 }) (lv := [some (.ref v0), some (.int v1), some (.int v2), some (.int v3)]) (own := RX11) (fr := 6) (lo := 188) (by decide) rfl rfl rfl (Nat.le_of_ble_eq_true rfl) rfl (fun hw p e R s m args below meth c hC hr hlk hnm => ?_)
  unfold w_X11_canSell at hw
  refine z_aload_n hC dX11_canSell_0 rfl rfl ?_
  refine z_getP hC FX11 0 lk_515 dX11_canSell_1 (by decide) hw (fun x1 hw => ?_)
  refine z_iload_n hC dX11_canSell_4 rfl rfl ?_
  refine z_iload_n hC dX11_canSell_5 rfl rfl ?_
  refine z_callV (ku' := 0) (kv' := 0) (n := 2) (As := [.int v1, .int v3]) (st := []) hC (c_X8_leftOf l G B S x1 v1 v3 _) hw.2 hw.1 rfl lk_705 lk_628 lk_629 lk_122 lk_630 hd_X8_leftOf rfl rfl (Nat.le_of_ble_eq_true rfl) (Nat.le_of_ble_eq_true rfl) rfl (Nat.le_of_ble_eq_true rfl) dX11_canSell_6 (Nat.le_refl 0) (Nat.le_refl 0) (kI (fun x6 S hw => ?_))
  refine z_iconst hC ic_1 dX11_canSell_9 ?_
  refine z_icmp_lt (tgt := 34) hC dX11_canSell_10 (by decide) (fun c10 => ?_) (fun c10 => ?_)
  · have hw := hw.1 c10
    refine z_iconst hC ic_0 dX11_canSell_34 ?_
    exact z_zret hC hr hlk (hz01 (Or.inl rfl)).1 dX11_canSell_35 ⟨_, rfl, hw⟩
  · have hw := hw.2 c10
    refine z_aload_n hC dX11_canSell_13 rfl rfl ?_
    refine z_getP hC FX11 7 lk_522 dX11_canSell_14 (by decide) hw (fun x14 hw => ?_)
    refine z_aload_n hC dX11_canSell_17 rfl rfl ?_
    refine z_getP hC FX11 0 lk_515 dX11_canSell_18 (by decide) hw (fun x18 hw => ?_)
    refine z_iload_n hC dX11_canSell_21 rfl rfl ?_
    refine z_iload_n hC dX11_canSell_22 rfl rfl ?_
    refine z_iload_n hC dX11_canSell_23 rfl rfl ?_
    refine z_callV (ku' := 0) (kv' := 0) (n := 4) (As := [.ref x18, .int v1, .int v2, .int v3]) (st := []) hC (c_X1_canBuy l G B S x14 x18 v1 v2 v3 _) hw.2 hw.1 rfl lk_738 lk_739 lk_740 lk_130 lk_741 hd_X1_canBuy rfl rfl (Nat.le_of_ble_eq_true rfl) (Nat.le_of_ble_eq_true rfl) rfl (Nat.le_of_ble_eq_true rfl) dX11_canSell_24 (Nat.le_refl 0) (Nat.le_refl 0) (kI (fun x24 S hw => ?_))
    refine z_if_eq (tgt := 34) hC dX11_canSell_27 (by decide) (fun c27 => ?_) (fun c27 => ?_)
    · have hw := hw.1 c27
      refine z_iconst hC ic_0 dX11_canSell_34 ?_
      exact z_zret hC hr hlk (hz01 (Or.inl rfl)).1 dX11_canSell_35 ⟨_, rfl, hw⟩
    · have hw := hw.2 c27
      refine z_iconst hC ic_1 dX11_canSell_30 ?_
      refine z_goto (tgt := 35) hC dX11_canSell_31 (by decide) ?_
      exact z_zret hC hr hlk (hz01 (Or.inr rfl)).1 dX11_canSell_35 ⟨_, rfl, hw⟩
end
section
variable {p : Program} {l : Launch} {e : Env} {R : Room} {s : State} {m : MethodId} {args : Array Value} {below : List Frame} {meth : Method} {c : Code} {G : hG} {B mc ms : Nat}
def w_X11_asks (q : Int32 → hS → Prop) (S : hS) (v0 : Nat) (v1 : Int32) (v2 : Int32) (v3 : Int32) (v4 : Int32) : Prop := gP S v0 11 0 (fun x1 => oK S x1 8 ∧ w_X8_hasPerson (fun x5 S => (x5 = 0 → q (-1) S) ∧ (¬ x5 = 0 → gP S v0 11 0 (fun x12 => oK S x12 8 ∧ w_X8_hasPerson (fun x16 S => (x16 = 0 → q (-1) S) ∧ (¬ x16 = 0 → (v1 = v2 → q (-1) S) ∧ (¬ v1 = v2 → gP S v0 11 0 (fun x28 => oK S x28 8 ∧ w_X8_hasHouse (fun x32 S => (¬ x32 = 0 → ∀ y42 : Int32, y42 = v4 → ((y42.toInt = 0 → gP S v0 11 6 (fun x69 => gP S v0 11 0 (fun x73 => oK S x69 0 ∧ w_X0_price (fun x79 S => q x79 S) S x69 x73 v1 v2 v3))) ∧ (y42.toInt = 1 → gP S v0 11 6 (fun x84 => gP S v0 11 0 (fun x88 => oK S x84 0 ∧ w_X0_isBarred (fun x94 S => (x94 = 0 → q 0 S) ∧ (¬ x94 = 0 → q 1 S)) S x84 x88 v1 v2 v3))) ∧ (y42.toInt = 2 → oK S v0 11 ∧ w_X11_canSell (fun x110 S => (x110 = 0 → q 0 S) ∧ (¬ x110 = 0 → q 1 S)) S v0 v1 v2 v3) ∧ ((y42.toInt < 0 ∨ 2 < y42.toInt) → q (-1) S))) ∧ (x32 = 0 → q (-1) S)) S x28 v3)))) S x12 v2))) S x1 v1)
set_option maxRecDepth 100000 in
set_option maxHeartbeats 4000000 in
theorem c_X11_asks (l : Launch) (G : hG) (B : Nat) (S : hS) (v0 : Nat) (v1 : Int32) (v2 : Int32) (v3 : Int32) (v4 : Int32) (q : Int32 → hS → Prop) : Met l yX11_asks (hws yX11_asks cX11_asks 5 (Option.some FieldType.int)) ({ frames := 7, cells := 0, slots := 0, locals := 211 }) (hPc G B S [.ref v0, .int v1, .int v2, .int v3, .int v4] (w_X11_asks q S v0 v1 v2 v3 v4)) (hQ G B (iP q)) (0) (0) (fun r => B ≤ r) := by
  refine hMet (rm := { frames := 7, cells := 0, slots := 0, locals := 211 }) (lv := [some (.ref v0), some (.int v1), some (.int v2), some (.int v3), some (.int v4)]) (own := RX11) (fr := 7) (lo := 211) (by decide) rfl rfl rfl (Nat.le_of_ble_eq_true rfl) rfl (fun hw p e R s m args below meth c hC hr hlk hnm => ?_)
  unfold w_X11_asks at hw
  refine z_aload_n hC dX11_asks_0 rfl rfl ?_
  refine z_getP hC FX11 0 lk_515 dX11_asks_1 (by decide) hw (fun x1 hw => ?_)
  refine z_iload_n hC dX11_asks_4 rfl rfl ?_
  refine z_callV (ku' := 0) (kv' := 0) (n := 1) (As := [.int v1]) (st := []) hC (c_X8_hasPerson l G B S x1 v1 _) hw.2 hw.1 rfl lk_674 lk_613 lk_614 lk_122 lk_615 hd_X8_hasPerson rfl rfl (Nat.le_of_ble_eq_true rfl) (Nat.le_of_ble_eq_true rfl) rfl (Nat.le_of_ble_eq_true rfl) dX11_asks_5 (Nat.le_refl 0) (Nat.le_refl 0) (kI (fun x5 S hw => ?_))
  refine z_if_eq (tgt := 38) hC dX11_asks_8 (by decide) (fun c8 => ?_) (fun c8 => ?_)
  · have hw := hw.1 c8
    refine z_iconst hC ic_m1 dX11_asks_38 ?_
    exact z_iret hC hr hlk dX11_asks_39 ⟨_, rfl, hw⟩
  · have hw := hw.2 c8
    refine z_aload_n hC dX11_asks_11 rfl rfl ?_
    refine z_getP hC FX11 0 lk_515 dX11_asks_12 (by decide) hw (fun x12 hw => ?_)
    refine z_iload_n hC dX11_asks_15 rfl rfl ?_
    refine z_callV (ku' := 0) (kv' := 0) (n := 1) (As := [.int v2]) (st := []) hC (c_X8_hasPerson l G B S x12 v2 _) hw.2 hw.1 rfl lk_674 lk_613 lk_614 lk_122 lk_615 hd_X8_hasPerson rfl rfl (Nat.le_of_ble_eq_true rfl) (Nat.le_of_ble_eq_true rfl) rfl (Nat.le_of_ble_eq_true rfl) dX11_asks_16 (Nat.le_refl 0) (Nat.le_refl 0) (kI (fun x16 S hw => ?_))
    refine z_if_eq (tgt := 38) hC dX11_asks_19 (by decide) (fun c19 => ?_) (fun c19 => ?_)
    · have hw := hw.1 c19
      refine z_iconst hC ic_m1 dX11_asks_38 ?_
      exact z_iret hC hr hlk dX11_asks_39 ⟨_, rfl, hw⟩
    · have hw := hw.2 c19
      refine z_iload_n hC dX11_asks_22 rfl rfl ?_
      refine z_iload_n hC dX11_asks_23 rfl rfl ?_
      refine z_icmp_eq (tgt := 38) hC dX11_asks_24 (by decide) (fun c24 => ?_) (fun c24 => ?_)
      · have hw := hw.1 c24
        refine z_iconst hC ic_m1 dX11_asks_38 ?_
        exact z_iret hC hr hlk dX11_asks_39 ⟨_, rfl, hw⟩
      · have hw := hw.2 c24
        refine z_aload_n hC dX11_asks_27 rfl rfl ?_
        refine z_getP hC FX11 0 lk_515 dX11_asks_28 (by decide) hw (fun x28 hw => ?_)
        refine z_iload_n hC dX11_asks_31 rfl rfl ?_
        refine z_callV (ku' := 0) (kv' := 0) (n := 1) (As := [.int v3]) (st := []) hC (c_X8_hasHouse l G B S x28 v3 _) hw.2 hw.1 rfl lk_600 lk_601 lk_602 lk_122 lk_603 hd_X8_hasHouse rfl rfl (Nat.le_of_ble_eq_true rfl) (Nat.le_of_ble_eq_true rfl) rfl (Nat.le_of_ble_eq_true rfl) dX11_asks_32 (Nat.le_refl 0) (Nat.le_refl 0) (kI (fun x32 S hw => ?_))
        refine z_if_ne (tgt := 40) hC dX11_asks_35 (by decide) (fun c35 => ?_) (fun c35 => ?_)
        · have hw := hw.1 c35
          refine z_iload hC dX11_asks_40 rfl ?_
          refine z_nmI (fun y42 e42 => ?_)
          have hw := hw y42 e42
          by_cases q42_0 : y42.toInt = 0
          · have hw := hw.1 q42_0
            refine z_tabIn (tgt := 68) (off := 26) hC 0 dX11_asks_42 q42_0 (by decide) rfl (by decide) ?_
            refine z_aload_n hC dX11_asks_68 rfl rfl ?_
            refine z_getP hC FX11 6 lk_521 dX11_asks_69 (by decide) hw (fun x69 hw => ?_)
            refine z_aload_n hC dX11_asks_72 rfl rfl ?_
            refine z_getP hC FX11 0 lk_515 dX11_asks_73 (by decide) hw (fun x73 hw => ?_)
            refine z_iload_n hC dX11_asks_76 rfl rfl ?_
            refine z_iload_n hC dX11_asks_77 rfl rfl ?_
            refine z_iload_n hC dX11_asks_78 rfl rfl ?_
            refine z_callV (ku' := 0) (kv' := 0) (n := 4) (As := [.ref x73, .int v1, .int v2, .int v3]) (st := []) hC (c_X0_price l G B S x69 x73 v1 v2 v3 _) hw.2 hw.1 rfl lk_726 lk_727 lk_728 lk_128 lk_729 hd_X0_price rfl rfl (Nat.le_of_ble_eq_true rfl) (Nat.le_of_ble_eq_true rfl) rfl (Nat.le_of_ble_eq_true rfl) dX11_asks_79 (Nat.le_refl 0) (Nat.le_refl 0) (kI (fun x79 S hw => ?_))
            exact z_iret hC hr hlk dX11_asks_82 ⟨_, rfl, hw⟩
          by_cases q42_1 : y42.toInt = 1
          · have hw := hw.2.1 q42_1
            refine z_tabIn (tgt := 83) (off := 41) hC 1 dX11_asks_42 q42_1 (by decide) rfl (by decide) ?_
            refine z_aload_n hC dX11_asks_83 rfl rfl ?_
            refine z_getP hC FX11 6 lk_521 dX11_asks_84 (by decide) hw (fun x84 hw => ?_)
            refine z_aload_n hC dX11_asks_87 rfl rfl ?_
            refine z_getP hC FX11 0 lk_515 dX11_asks_88 (by decide) hw (fun x88 hw => ?_)
            refine z_iload_n hC dX11_asks_91 rfl rfl ?_
            refine z_iload_n hC dX11_asks_92 rfl rfl ?_
            refine z_iload_n hC dX11_asks_93 rfl rfl ?_
            refine z_callV (ku' := 0) (kv' := 0) (n := 4) (As := [.ref x88, .int v1, .int v2, .int v3]) (st := []) hC (c_X0_isBarred l G B S x84 x88 v1 v2 v3 _) hw.2 hw.1 rfl lk_730 lk_731 lk_732 lk_128 lk_733 hd_X0_isBarred rfl rfl (Nat.le_of_ble_eq_true rfl) (Nat.le_of_ble_eq_true rfl) rfl (Nat.le_of_ble_eq_true rfl) dX11_asks_94 (Nat.le_refl 0) (Nat.le_refl 0) (kI (fun x94 S hw => ?_))
            refine z_if_eq (tgt := 104) hC dX11_asks_97 (by decide) (fun c97 => ?_) (fun c97 => ?_)
            · have hw := hw.1 c97
              refine z_iconst hC ic_0 dX11_asks_104 ?_
              exact z_iret hC hr hlk dX11_asks_105 ⟨_, rfl, hw⟩
            · have hw := hw.2 c97
              refine z_iconst hC ic_1 dX11_asks_100 ?_
              refine z_goto (tgt := 105) hC dX11_asks_101 (by decide) ?_
              exact z_iret hC hr hlk dX11_asks_105 ⟨_, rfl, hw⟩
          by_cases q42_2 : y42.toInt = 2
          · have hw := hw.2.2.1 q42_2
            refine z_tabIn (tgt := 106) (off := 64) hC 2 dX11_asks_42 q42_2 (by decide) rfl (by decide) ?_
            refine z_aload_n hC dX11_asks_106 rfl rfl ?_
            refine z_iload_n hC dX11_asks_107 rfl rfl ?_
            refine z_iload_n hC dX11_asks_108 rfl rfl ?_
            refine z_iload_n hC dX11_asks_109 rfl rfl ?_
            refine z_callV (ku' := 0) (kv' := 0) (n := 3) (As := [.int v1, .int v2, .int v3]) (st := []) hC (c_X11_canSell l G B S v0 v1 v2 v3 _) hw.2 hw.1 rfl lk_734 lk_736 lk_5 lk_121 lk_737 hd_X11_canSell rfl rfl (Nat.le_of_ble_eq_true rfl) (Nat.le_of_ble_eq_true rfl) rfl (Nat.le_of_ble_eq_true rfl) dX11_asks_110 (Nat.le_refl 0) (Nat.le_refl 0) (kI (fun x110 S hw => ?_))
            refine z_if_eq (tgt := 120) hC dX11_asks_113 (by decide) (fun c113 => ?_) (fun c113 => ?_)
            · have hw := hw.1 c113
              refine z_iconst hC ic_0 dX11_asks_120 ?_
              exact z_iret hC hr hlk dX11_asks_121 ⟨_, rfl, hw⟩
            · have hw := hw.2 c113
              refine z_iconst hC ic_1 dX11_asks_116 ?_
              refine z_goto (tgt := 121) hC dX11_asks_117 (by decide) ?_
              exact z_iret hC hr hlk dX11_asks_121 ⟨_, rfl, hw⟩
          have o42 : y42.toInt < 0 ∨ 2 < y42.toInt := by omega
          have hw := hw.2.2.2 o42
          refine z_tabOut (tgt := 122) hC dX11_asks_42 o42 (by decide) ?_
          refine z_iconst hC ic_m1 dX11_asks_122 ?_
          exact z_iret hC hr hlk dX11_asks_123 ⟨_, rfl, hw⟩
        · have hw := hw.2 c35
          refine z_iconst hC ic_m1 dX11_asks_38 ?_
          exact z_iret hC hr hlk dX11_asks_39 ⟨_, rfl, hw⟩
end
section
variable {p : Program} {l : Launch} {e : Env} {R : Room} {s : State} {m : MethodId} {args : Array Value} {below : List Frame} {meth : Method} {c : Code} {G : hG} {B mc ms : Nat}
def w_X11_terms_b105 (q : Int32 → hS → Prop) (S : hS) (v0 : Nat) : Prop := oK S v0 11 ∧ w_X11_refuse (fun x107 S => q x107 S) S v0 (-1)
set_option maxRecDepth 100000 in
set_option maxHeartbeats 4000000 in
theorem t_X11_terms_b105 (hC : zC p R s m args c cX11_terms 4 RX11 G B mc ms 2 81) (hr : meth.sig.returnType = (Option.some FieldType.int)) (hlk : meth.locks = false) (hnm : meth.name = "terms") {q : Int32 → hS → Prop} {S : hS} {v0 : Nat} (hw : w_X11_terms_b105 q S v0) : Z p l e R s m args below meth c (MQ below (hQ G B (iP q)) args s mc ms (fun r => B ≤ r)) G B mc ms 4 S 0 0 105 [some (.ref v0), none, none, none] [] := by
  unfold w_X11_terms_b105 at hw
  refine z_aload_n hC dX11_terms_105 rfl rfl ?_
  refine z_iconst hC ic_m1 dX11_terms_106 ?_
  refine z_callV (ku' := 0) (kv' := 0) (n := 1) (As := [.int (-1)]) (st := []) hC (c_X11_refuse l G B S v0 (-1) _) hw.2 hw.1 rfl lk_577 lk_579 lk_0 lk_121 lk_580 hd_X11_refuse rfl rfl (Nat.le_of_ble_eq_true rfl) (Nat.le_of_ble_eq_true rfl) rfl (Nat.le_of_ble_eq_true rfl) dX11_terms_107 (Nat.le_refl 0) (Nat.le_refl 0) (kI (fun x107 S hw => ?_))
  exact z_iret hC hr hlk dX11_terms_110 ⟨_, rfl, hw⟩
def w_X11_terms_b111 (q : Int32 → hS → Prop) (S : hS) (v0 : Nat) (v3 : Int32) : Prop := gP S v0 11 3 (fun x112 => oK S x112 3 ∧ w_X3_clear (fun S => oK S v0 11 ∧ w_X11_accept (fun x120 S => q x120 S) S v0 v3) S x112)
set_option maxRecDepth 100000 in
set_option maxHeartbeats 4000000 in
theorem t_X11_terms_b111 (hC : zC p R s m args c cX11_terms 4 RX11 G B mc ms 2 81) (hr : meth.sig.returnType = (Option.some FieldType.int)) (hlk : meth.locks = false) (hnm : meth.name = "terms") {q : Int32 → hS → Prop} {S : hS} {v0 : Nat} {v3 : Int32} (hw : w_X11_terms_b111 q S v0 v3) : Z p l e R s m args below meth c (MQ below (hQ G B (iP q)) args s mc ms (fun r => B ≤ r)) G B mc ms 4 S 0 0 111 [some (.ref v0), none, none, some (.int v3)] [] := by
  unfold w_X11_terms_b111 at hw
  refine z_aload_n hC dX11_terms_111 rfl rfl ?_
  refine z_getP hC FX11 3 lk_518 dX11_terms_112 (by decide) hw (fun x112 hw => ?_)
  refine z_callV (ku' := 0) (kv' := 0) (n := 0) (As := []) (st := []) hC (c_X3_clear l G B S x112 _) hw.2 hw.1 rfl lk_581 lk_582 lk_583 lk_124 lk_584 hd_X3_clear rfl rfl (Nat.le_of_ble_eq_true rfl) (Nat.le_of_ble_eq_true rfl) rfl (Nat.le_of_ble_eq_true rfl) dX11_terms_115 (Nat.le_refl 0) (Nat.le_refl 0) (kV (fun S hw => ?_))
  refine z_aload_n hC dX11_terms_118 rfl rfl ?_
  refine z_iload_n hC dX11_terms_119 rfl rfl ?_
  refine z_callV (ku' := 0) (kv' := 0) (n := 1) (As := [.int v3]) (st := []) hC (c_X11_accept l G B S v0 v3 _) hw.2 hw.1 rfl lk_592 lk_594 lk_1 lk_121 lk_595 hd_X11_accept rfl rfl (Nat.le_of_ble_eq_true rfl) (Nat.le_of_ble_eq_true rfl) rfl (Nat.le_of_ble_eq_true rfl) dX11_terms_120 (Nat.le_refl 0) (Nat.le_refl 0) (kI (fun x120 S hw => ?_))
  exact z_iret hC hr hlk dX11_terms_123 ⟨_, rfl, hw⟩
def w_X11_terms_b72 (q : Int32 → hS → Prop) (S : hS) (v0 : Nat) (v1 : Int32) (v2 : Int32) : Prop := (¬ v1 = 2 → w_X11_terms_b105 q S v0) ∧ (v1 = 2 → w_X11_isWithin (fun x80 S => (x80 = 0 → w_X11_terms_b105 q S v0) ∧ (¬ x80 = 0 → gP S v0 11 0 (fun x87 => gI S x87 8 13 (fun x90 => gP S v0 11 0 (fun x95 => pI S x95 8 13 v2 (fun S => w_X11_terms_b111 q S v0 x90)))))) S v2 9)
set_option maxRecDepth 100000 in
set_option maxHeartbeats 4000000 in
theorem t_X11_terms_b72 (hC : zC p R s m args c cX11_terms 4 RX11 G B mc ms 2 81) (hr : meth.sig.returnType = (Option.some FieldType.int)) (hlk : meth.locks = false) (hnm : meth.name = "terms") {q : Int32 → hS → Prop} {S : hS} {v0 : Nat} {v1 : Int32} {v2 : Int32} (hw : w_X11_terms_b72 q S v0 v1 v2) : Z p l e R s m args below meth c (MQ below (hQ G B (iP q)) args s mc ms (fun r => B ≤ r)) G B mc ms 4 S 0 0 72 [some (.ref v0), some (.int v1), some (.int v2), none] [] := by
  unfold w_X11_terms_b72 at hw
  refine z_iload_n hC dX11_terms_72 rfl rfl ?_
  refine z_iconst hC ic_2 dX11_terms_73 ?_
  refine z_icmp_ne (tgt := 105) hC dX11_terms_74 (by decide) (fun c74 => ?_) (fun c74 => ?_)
  · have hw := hw.1 c74
    refine z_mask (lv' := [some (.ref v0), none, none, none]) [true, false, false, false] rfl ?_
    exact t_X11_terms_b105 hC hr hlk hnm hw
  · have hw := hw.2 c74
    refine z_iload_n hC dX11_terms_77 rfl rfl ?_
    refine z_bipush hC bi_9 dX11_terms_78 ?_
    refine z_callS (ku' := 0) (kv' := 0) (n := 2) (As := [.int v2, .int 9]) (st := []) hC (c_X11_isWithin l G B S v2 9 _) hw lk_574 lk_575 lk_121 lk_576 hd_X11_isWithin rfl rfl (Nat.le_of_ble_eq_true rfl) (Nat.le_of_ble_eq_true rfl) rfl (Nat.le_of_ble_eq_true rfl) dX11_terms_80 (Nat.le_refl 0) (Nat.le_refl 0) (kI (fun x80 S hw => ?_))
    refine z_if_eq (tgt := 105) hC dX11_terms_83 (by decide) (fun c83 => ?_) (fun c83 => ?_)
    · have hw := hw.1 c83
      refine z_mask (lv' := [some (.ref v0), none, none, none]) [true, false, false, false] rfl ?_
      exact t_X11_terms_b105 hC hr hlk hnm hw
    · have hw := hw.2 c83
      refine z_aload_n hC dX11_terms_86 rfl rfl ?_
      refine z_getP hC FX11 0 lk_515 dX11_terms_87 (by decide) hw (fun x87 hw => ?_)
      refine z_getI hC FX8 13 lk_241 dX11_terms_90 (by decide) hw (fun x90 hw => ?_)
      refine z_istore_n (i := 3) (lv' := [some (.ref v0), some (.int v1), some (.int v2), some (.int x90)]) hC rfl dX11_terms_93 (by decide) (hok_v rfl rfl) rfl ?_
      refine z_aload_n hC dX11_terms_94 rfl rfl ?_
      refine z_getP hC FX11 0 lk_515 dX11_terms_95 (by decide) hw (fun x95 hw => ?_)
      refine z_iload_n hC dX11_terms_98 rfl rfl ?_
      refine z_putI hC FX8 13 lk_241 dX11_terms_99 (by decide) rfl rfl hw (fun S hw => ?_)
      refine z_goto (tgt := 111) hC dX11_terms_102 (by decide) ?_
      refine z_mask (lv' := [some (.ref v0), none, none, some (.int x90)]) [true, false, false, true] rfl ?_
      exact t_X11_terms_b111 hC hr hlk hnm hw
def w_X11_terms_b39 (q : Int32 → hS → Prop) (S : hS) (v0 : Nat) (v1 : Int32) (v2 : Int32) : Prop := (¬ v1 = 1 → w_X11_terms_b72 q S v0 v1 v2) ∧ (v1 = 1 → w_X11_isWithin (fun x47 S => (x47 = 0 → w_X11_terms_b72 q S v0 v1 v2) ∧ (¬ x47 = 0 → gP S v0 11 0 (fun x54 => gI S x54 8 12 (fun x57 => gP S v0 11 0 (fun x62 => pI S x62 8 12 v2 (fun S => w_X11_terms_b111 q S v0 x57)))))) S v2 10)
set_option maxRecDepth 100000 in
set_option maxHeartbeats 4000000 in
theorem t_X11_terms_b39 (hC : zC p R s m args c cX11_terms 4 RX11 G B mc ms 2 81) (hr : meth.sig.returnType = (Option.some FieldType.int)) (hlk : meth.locks = false) (hnm : meth.name = "terms") {q : Int32 → hS → Prop} {S : hS} {v0 : Nat} {v1 : Int32} {v2 : Int32} (hw : w_X11_terms_b39 q S v0 v1 v2) : Z p l e R s m args below meth c (MQ below (hQ G B (iP q)) args s mc ms (fun r => B ≤ r)) G B mc ms 4 S 0 0 39 [some (.ref v0), some (.int v1), some (.int v2), none] [] := by
  unfold w_X11_terms_b39 at hw
  refine z_iload_n hC dX11_terms_39 rfl rfl ?_
  refine z_iconst hC ic_1 dX11_terms_40 ?_
  refine z_icmp_ne (tgt := 72) hC dX11_terms_41 (by decide) (fun c41 => ?_) (fun c41 => ?_)
  · have hw := hw.1 c41
    refine z_mask (lv' := [some (.ref v0), some (.int v1), some (.int v2), none]) [true, true, true, false] rfl ?_
    exact t_X11_terms_b72 hC hr hlk hnm hw
  · have hw := hw.2 c41
    refine z_iload_n hC dX11_terms_44 rfl rfl ?_
    refine z_bipush hC bi_10 dX11_terms_45 ?_
    refine z_callS (ku' := 0) (kv' := 0) (n := 2) (As := [.int v2, .int 10]) (st := []) hC (c_X11_isWithin l G B S v2 10 _) hw lk_574 lk_575 lk_121 lk_576 hd_X11_isWithin rfl rfl (Nat.le_of_ble_eq_true rfl) (Nat.le_of_ble_eq_true rfl) rfl (Nat.le_of_ble_eq_true rfl) dX11_terms_47 (Nat.le_refl 0) (Nat.le_refl 0) (kI (fun x47 S hw => ?_))
    refine z_if_eq (tgt := 72) hC dX11_terms_50 (by decide) (fun c50 => ?_) (fun c50 => ?_)
    · have hw := hw.1 c50
      refine z_mask (lv' := [some (.ref v0), some (.int v1), some (.int v2), none]) [true, true, true, false] rfl ?_
      exact t_X11_terms_b72 hC hr hlk hnm hw
    · have hw := hw.2 c50
      refine z_aload_n hC dX11_terms_53 rfl rfl ?_
      refine z_getP hC FX11 0 lk_515 dX11_terms_54 (by decide) hw (fun x54 hw => ?_)
      refine z_getI hC FX8 12 lk_238 dX11_terms_57 (by decide) hw (fun x57 hw => ?_)
      refine z_istore_n (i := 3) (lv' := [some (.ref v0), some (.int v1), some (.int v2), some (.int x57)]) hC rfl dX11_terms_60 (by decide) (hok_v rfl rfl) rfl ?_
      refine z_aload_n hC dX11_terms_61 rfl rfl ?_
      refine z_getP hC FX11 0 lk_515 dX11_terms_62 (by decide) hw (fun x62 hw => ?_)
      refine z_iload_n hC dX11_terms_65 rfl rfl ?_
      refine z_putI hC FX8 12 lk_238 dX11_terms_66 (by decide) rfl rfl hw (fun S hw => ?_)
      refine z_goto (tgt := 111) hC dX11_terms_69 (by decide) ?_
      refine z_mask (lv' := [some (.ref v0), none, none, some (.int x57)]) [true, false, false, true] rfl ?_
      exact t_X11_terms_b111 hC hr hlk hnm hw
def w_X11_terms (q : Int32 → hS → Prop) (S : hS) (v0 : Nat) (v1 : Int32) (v2 : Int32) : Prop := (¬ v1 = 0 → w_X11_terms_b39 q S v0 v1 v2) ∧ (v1 = 0 → w_X11_isWithin (fun x8 S => (x8 = 0 → w_X11_terms_b39 q S v0 v1 v2) ∧ (¬ x8 = 0 → gP S v0 11 0 (fun x15 => gP S x15 8 0 (fun x18 => gI S x18 2 5 (fun x21 => gP S v0 11 0 (fun x26 => gP S x26 8 0 (fun x29 => pI S x29 2 5 v2 (fun S => w_X11_terms_b111 q S v0 x21)))))))) S v2 999)
set_option maxRecDepth 100000 in
set_option maxHeartbeats 4000000 in
theorem c_X11_terms (l : Launch) (G : hG) (B : Nat) (S : hS) (v0 : Nat) (v1 : Int32) (v2 : Int32) (q : Int32 → hS → Prop) : Met l yX11_terms (hws yX11_terms cX11_terms 4 (Option.some FieldType.int)) ({ frames := 2, cells := 0, slots := 0, locals := 81 }) (hPc G B S [.ref v0, .int v1, .int v2] (w_X11_terms q S v0 v1 v2)) (hQ G B (iP q)) (0) (0) (fun r => B ≤ r) := by
  refine hMet (rm := { frames := 2, cells := 0, slots := 0, locals := 81 }) (lv := [some (.ref v0), some (.int v1), some (.int v2), none]) (own := RX11) (fr := 2) (lo := 81) (by decide) rfl rfl rfl (Nat.le_of_ble_eq_true rfl) rfl (fun hw p e R s m args below meth c hC hr hlk hnm => ?_)
  unfold w_X11_terms at hw
  refine z_iload_n hC dX11_terms_0 rfl rfl ?_
  refine z_if_ne (tgt := 39) hC dX11_terms_1 (by decide) (fun c1 => ?_) (fun c1 => ?_)
  · have hw := hw.1 c1
    refine z_mask (lv' := [some (.ref v0), some (.int v1), some (.int v2), none]) [true, true, true, false] rfl ?_
    exact t_X11_terms_b39 hC hr hlk hnm hw
  · have hw := hw.2 c1
    refine z_iload_n hC dX11_terms_4 rfl rfl ?_
    refine z_sipush hC si_999 dX11_terms_5 ?_
    refine z_callS (ku' := 0) (kv' := 0) (n := 2) (As := [.int v2, .int 999]) (st := []) hC (c_X11_isWithin l G B S v2 999 _) hw lk_574 lk_575 lk_121 lk_576 hd_X11_isWithin rfl rfl (Nat.le_of_ble_eq_true rfl) (Nat.le_of_ble_eq_true rfl) rfl (Nat.le_of_ble_eq_true rfl) dX11_terms_8 (Nat.le_refl 0) (Nat.le_refl 0) (kI (fun x8 S hw => ?_))
    refine z_if_eq (tgt := 39) hC dX11_terms_11 (by decide) (fun c11 => ?_) (fun c11 => ?_)
    · have hw := hw.1 c11
      refine z_mask (lv' := [some (.ref v0), some (.int v1), some (.int v2), none]) [true, true, true, false] rfl ?_
      exact t_X11_terms_b39 hC hr hlk hnm hw
    · have hw := hw.2 c11
      refine z_aload_n hC dX11_terms_14 rfl rfl ?_
      refine z_getP hC FX11 0 lk_515 dX11_terms_15 (by decide) hw (fun x15 hw => ?_)
      refine z_getP hC FX8 0 lk_203 dX11_terms_18 (by decide) hw (fun x18 hw => ?_)
      refine z_getI hC FX2 5 lk_182 dX11_terms_21 (by decide) hw (fun x21 hw => ?_)
      refine z_istore_n (i := 3) (lv' := [some (.ref v0), some (.int v1), some (.int v2), some (.int x21)]) hC rfl dX11_terms_24 (by decide) (hok_v rfl rfl) rfl ?_
      refine z_aload_n hC dX11_terms_25 rfl rfl ?_
      refine z_getP hC FX11 0 lk_515 dX11_terms_26 (by decide) hw (fun x26 hw => ?_)
      refine z_getP hC FX8 0 lk_203 dX11_terms_29 (by decide) hw (fun x29 hw => ?_)
      refine z_iload_n hC dX11_terms_32 rfl rfl ?_
      refine z_putI hC FX2 5 lk_182 dX11_terms_33 (by decide) rfl rfl hw (fun S hw => ?_)
      refine z_goto (tgt := 111) hC dX11_terms_36 (by decide) ?_
      refine z_mask (lv' := [some (.ref v0), none, none, some (.int x21)]) [true, false, false, true] rfl ?_
      exact t_X11_terms_b111 hC hr hlk hnm hw
end
