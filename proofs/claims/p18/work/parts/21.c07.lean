section
variable {p : Program} {l : Launch} {e : Env} {R : Room} {s : State} {m : MethodId} {args : Array Value} {below : List Frame} {meth : Method} {c : Code} {G : hG} {B mc ms : Nat}
def w_X7_chance_b44 (q : Int64 → hS → Prop) (K35 : hS → (Nat) → (Int32) → (Int32) → (Int32) → (Int32) → Prop) : Nat → hS → (Nat) → (Int32) → (Int32) → (Int32) → (Int32) → (Int32) → Prop
  | 0, _, _, _, _, _, _, _ => False
  | n + 1, S, v0, v1, v2, v3, v4, v5 => (v5 < 1 → ∀ y97 : Int32, y97 = v4 + 1 → K35 S v0 v1 v2 v3 y97) ∧ (¬ v5 < 1 → gP S v0 7 4 (fun x51 => gP S v0 7 4 (fun x57 => aJ S x57 v5 (fun x62 => gP S v0 7 4 (fun x71 => aJ S x71 (v5 - 1) (fun x78 => sJ S x51 v5 (((x62 * (Int32.toInt64 v3)) / 10) + ((x78 * (Int32.toInt64 (10 - v3))) / 10)) (fun S => ∀ y91 : Int32, y91 = v5 + (-1) → w_X7_chance_b44 q K35 n S v0 v1 v2 v3 v4 y91)))))))
set_option maxRecDepth 100000 in
set_option maxHeartbeats 4000000 in
theorem t_X7_chance_b44 (hC : zC p R s m args c cX7_chance 6 RX7 G B mc ms 1 60) (hr : meth.sig.returnType = (Option.some FieldType.long)) (hlk : meth.locks = false) (hnm : meth.name = "chance") {q : Int64 → hS → Prop} {K35 : hS → (Nat) → (Int32) → (Int32) → (Int32) → (Int32) → Prop} (hK35 : ∀ {S : hS} {v0 : Nat} {v1 : Int32} {v2 : Int32} {v3 : Int32} {v4 : Int32}, K35 S v0 v1 v2 v3 v4 → Z p l e R s m args below meth c (MQ below (hQ G B (jP q)) args s mc ms (fun r => B ≤ r)) G B mc ms 6 S 0 0 35 [some (.ref v0), some (.int v1), some (.int v2), some (.int v3), some (.int v4), none] []) (n : Nat) : ∀ {S : hS} {v0 : Nat} {v1 : Int32} {v2 : Int32} {v3 : Int32} {v4 : Int32} {v5 : Int32} (hw : w_X7_chance_b44 q K35 n S v0 v1 v2 v3 v4 v5), Z p l e R s m args below meth c (MQ below (hQ G B (jP q)) args s mc ms (fun r => B ≤ r)) G B mc ms 6 S 0 0 44 [some (.ref v0), some (.int v1), some (.int v2), some (.int v3), some (.int v4), some (.int v5)] [] := by
  induction n with
  | zero => intro S v0 v1 v2 v3 v4 v5 hw; exact (by rw [w_X7_chance_b44] at hw; exact hw.elim)
  | succ n ih =>
    intro S v0 v1 v2 v3 v4 v5 hw
    rw [w_X7_chance_b44] at hw
    refine z_iload hC dX7_chance_44 rfl ?_
    refine z_iconst hC ic_1 dX7_chance_46 ?_
    refine z_icmp_lt (tgt := 97) hC dX7_chance_47 (by decide) (fun c47 => ?_) (fun c47 => ?_)
    · have hw := hw.1 c47
      refine z_inc (i := 4) hC ic_1 dX7_chance_97 rfl (by decide) (hok_v rfl rfl) (fun y97 e97 => ?_)
      have hw := hw y97 e97
      refine z_goto (tgt := 35) hC dX7_chance_100 (by decide) ?_
      refine z_mask (lv' := [some (.ref v0), some (.int v1), some (.int v2), some (.int v3), some (.int y97), none]) [true, true, true, true, true, false] rfl ?_
      exact hK35 hw
    · have hw := hw.2 c47
      refine z_aload_n hC dX7_chance_50 rfl rfl ?_
      refine z_getP hC FX7 4 lk_502 dX7_chance_51 (by decide) hw (fun x51 hw => ?_)
      refine z_iload hC dX7_chance_54 rfl ?_
      refine z_aload_n hC dX7_chance_56 rfl rfl ?_
      refine z_getP hC FX7 4 lk_502 dX7_chance_57 (by decide) hw (fun x57 hw => ?_)
      refine z_iload hC dX7_chance_60 rfl ?_
      refine z_aldJ hC dX7_chance_62 hw (fun x62 hw => ?_)
      refine z_iload_n hC dX7_chance_63 rfl rfl ?_
      refine z_i2l hC rfl dX7_chance_64 ?_
      refine z_lmul hC dX7_chance_65 ?_
      refine z_ldc2 hC lk_1289 dX7_chance_66 ?_
      refine z_ldiv hC (by decide) dX7_chance_69 ?_
      refine z_aload_n hC dX7_chance_70 rfl rfl ?_
      refine z_getP hC FX7 4 lk_502 dX7_chance_71 (by decide) hw (fun x71 hw => ?_)
      refine z_iload hC dX7_chance_74 rfl ?_
      refine z_iconst hC ic_1 dX7_chance_76 ?_
      refine z_isub hC dX7_chance_77 ?_
      refine z_aldJ hC dX7_chance_78 hw (fun x78 hw => ?_)
      refine z_bipush hC bi_10 dX7_chance_79 ?_
      refine z_iload_n hC dX7_chance_81 rfl rfl ?_
      refine z_isub hC dX7_chance_82 ?_
      refine z_i2l hC rfl dX7_chance_83 ?_
      refine z_lmul hC dX7_chance_84 ?_
      refine z_ldc2 hC lk_1289 dX7_chance_85 ?_
      refine z_ldiv hC (by decide) dX7_chance_88 ?_
      refine z_ladd hC dX7_chance_89 ?_
      refine z_astJ hC dX7_chance_90 hw (fun S hw => ?_)
      refine z_inc (i := 5) hC ic_m1 dX7_chance_91 rfl (by decide) (hok_v rfl rfl) (fun y91 e91 => ?_)
      have hw := hw y91 e91
      refine z_goto (tgt := 44) hC dX7_chance_94 (by decide) ?_
      refine z_mask (lv' := [some (.ref v0), some (.int v1), some (.int v2), some (.int v3), some (.int v4), some (.int y91)]) [true, true, true, true, true, true] rfl ?_
      exact ih hw
def w_X7_chance_b35 (q : Int64 → hS → Prop) : Nat → hS → (Nat) → (Int32) → (Int32) → (Int32) → (Int32) → Prop
  | 0, _, _, _, _, _, _ => False
  | n + 1, S, v0, v1, v2, v3, v4 => (v2 ≤ v4 → gP S v0 7 4 (fun x104 => aJ S x104 v1 (fun x108 => q x108 S))) ∧ (¬ v2 ≤ v4 → (∃ n44 : Nat, w_X7_chance_b44 q (fun S v0 v1 v2 v3 v4 => w_X7_chance_b35 q n S v0 v1 v2 v3 v4) n44 S v0 v1 v2 v3 v4 v1))
set_option maxRecDepth 100000 in
set_option maxHeartbeats 4000000 in
theorem t_X7_chance_b35 (hC : zC p R s m args c cX7_chance 6 RX7 G B mc ms 1 60) (hr : meth.sig.returnType = (Option.some FieldType.long)) (hlk : meth.locks = false) (hnm : meth.name = "chance") {q : Int64 → hS → Prop} (n : Nat) : ∀ {S : hS} {v0 : Nat} {v1 : Int32} {v2 : Int32} {v3 : Int32} {v4 : Int32} (hw : w_X7_chance_b35 q n S v0 v1 v2 v3 v4), Z p l e R s m args below meth c (MQ below (hQ G B (jP q)) args s mc ms (fun r => B ≤ r)) G B mc ms 6 S 0 0 35 [some (.ref v0), some (.int v1), some (.int v2), some (.int v3), some (.int v4), none] [] := by
  induction n with
  | zero => intro S v0 v1 v2 v3 v4 hw; exact (by rw [w_X7_chance_b35] at hw; exact hw.elim)
  | succ n ih =>
    intro S v0 v1 v2 v3 v4 hw
    rw [w_X7_chance_b35] at hw
    refine z_iload hC dX7_chance_35 rfl ?_
    refine z_iload_n hC dX7_chance_37 rfl rfl ?_
    refine z_icmp_ge (tgt := 103) hC dX7_chance_38 (by decide) (fun c38 => ?_) (fun c38 => ?_)
    · have hw := hw.1 c38
      refine z_aload_n hC dX7_chance_103 rfl rfl ?_
      refine z_getP hC FX7 4 lk_502 dX7_chance_104 (by decide) hw (fun x104 hw => ?_)
      refine z_iload_n hC dX7_chance_107 rfl rfl ?_
      refine z_aldJ hC dX7_chance_108 hw (fun x108 hw => ?_)
      exact z_lret hC hr hlk dX7_chance_109 ⟨_, rfl, hw⟩
    · have hw := hw.2 c38
      refine z_iload_n hC dX7_chance_41 rfl rfl ?_
      refine z_istore (i := 5) (lv' := [some (.ref v0), some (.int v1), some (.int v2), some (.int v3), some (.int v4), some (.int v1)]) hC dX7_chance_42 (by decide) (hok_v rfl rfl) rfl ?_
      refine z_mask (lv' := [some (.ref v0), some (.int v1), some (.int v2), some (.int v3), some (.int v4), some (.int v1)]) [true, true, true, true, true, true] rfl ?_
      obtain ⟨n44, hw⟩ := hw
      exact t_X7_chance_b44 hC hr hlk hnm (fun hw => ih hw) n44 hw
def w_X7_chance_b12 (q : Int64 → hS → Prop) : Nat → hS → (Nat) → (Int32) → (Int32) → (Int32) → (Int32) → Prop
  | 0, _, _, _, _, _, _ => False
  | n + 1, S, v0, v1, v2, v3, v4 => (v1 < v4 → (∃ n35 : Nat, w_X7_chance_b35 q n35 S v0 v1 v2 v3 0)) ∧ (¬ v1 < v4 → gP S v0 7 4 (fun x19 => sJ S x19 v4 0 (fun S => ∀ y26 : Int32, y26 = v4 + 1 → w_X7_chance_b12 q n S v0 v1 v2 v3 y26)))
set_option maxRecDepth 100000 in
set_option maxHeartbeats 4000000 in
theorem t_X7_chance_b12 (hC : zC p R s m args c cX7_chance 6 RX7 G B mc ms 1 60) (hr : meth.sig.returnType = (Option.some FieldType.long)) (hlk : meth.locks = false) (hnm : meth.name = "chance") {q : Int64 → hS → Prop} (n : Nat) : ∀ {S : hS} {v0 : Nat} {v1 : Int32} {v2 : Int32} {v3 : Int32} {v4 : Int32} (hw : w_X7_chance_b12 q n S v0 v1 v2 v3 v4), Z p l e R s m args below meth c (MQ below (hQ G B (jP q)) args s mc ms (fun r => B ≤ r)) G B mc ms 6 S 0 0 12 [some (.ref v0), some (.int v1), some (.int v2), some (.int v3), some (.int v4), none] [] := by
  induction n with
  | zero => intro S v0 v1 v2 v3 v4 hw; exact (by rw [w_X7_chance_b12] at hw; exact hw.elim)
  | succ n ih =>
    intro S v0 v1 v2 v3 v4 hw
    rw [w_X7_chance_b12] at hw
    refine z_iload hC dX7_chance_12 rfl ?_
    refine z_iload_n hC dX7_chance_14 rfl rfl ?_
    refine z_icmp_gt (tgt := 32) hC dX7_chance_15 (by decide) (fun c15 => ?_) (fun c15 => ?_)
    · have hw := hw.1 c15
      refine z_iconst hC ic_0 dX7_chance_32 ?_
      refine z_istore (i := 4) (lv' := [some (.ref v0), some (.int v1), some (.int v2), some (.int v3), some (.int 0), none]) hC dX7_chance_33 (by decide) (hok_v rfl rfl) rfl ?_
      refine z_mask (lv' := [some (.ref v0), some (.int v1), some (.int v2), some (.int v3), some (.int 0), none]) [true, true, true, true, true, false] rfl ?_
      obtain ⟨n35, hw⟩ := hw
      exact t_X7_chance_b35 hC hr hlk hnm n35 hw
    · have hw := hw.2 c15
      refine z_aload_n hC dX7_chance_18 rfl rfl ?_
      refine z_getP hC FX7 4 lk_502 dX7_chance_19 (by decide) hw (fun x19 hw => ?_)
      refine z_iload hC dX7_chance_22 rfl ?_
      refine z_lconst hC lc_0 dX7_chance_24 ?_
      refine z_astJ hC dX7_chance_25 hw (fun S hw => ?_)
      refine z_inc (i := 4) hC ic_1 dX7_chance_26 rfl (by decide) (hok_v rfl rfl) (fun y26 e26 => ?_)
      have hw := hw y26 e26
      refine z_goto (tgt := 12) hC dX7_chance_29 (by decide) ?_
      refine z_mask (lv' := [some (.ref v0), some (.int v1), some (.int v2), some (.int v3), some (.int y26), none]) [true, true, true, true, true, false] rfl ?_
      exact ih hw
def w_X7_chance (q : Int64 → hS → Prop) (S : hS) (v0 : Nat) (v1 : Int32) (v2 : Int32) (v3 : Int32) : Prop := gP S v0 7 4 (fun x1 => sJ S x1 0 1000000000000 (fun S => (∃ n12 : Nat, w_X7_chance_b12 q n12 S v0 v1 v2 v3 1)))
set_option maxRecDepth 100000 in
set_option maxHeartbeats 4000000 in
theorem c_X7_chance (l : Launch) (G : hG) (B : Nat) (S : hS) (v0 : Nat) (v1 : Int32) (v2 : Int32) (v3 : Int32) (q : Int64 → hS → Prop) : Met l yX7_chance (hws yX7_chance cX7_chance 6 (Option.some FieldType.long)) ({ frames := 1, cells := 0, slots := 0, locals := 60 }) (hPc G B S [.ref v0, .int v1, .int v2, .int v3] (w_X7_chance q S v0 v1 v2 v3)) (hQ G B (jP q)) (0) (0) (fun r => B ≤ r) := by
  refine hMet (rm := { frames := 1, cells := 0, slots := 0, locals := 60 }) (lv := [some (.ref v0), some (.int v1), some (.int v2), some (.int v3), none, none]) (own := RX7) (fr := 1) (lo := 60) (by decide) rfl rfl rfl (Nat.le_of_ble_eq_true rfl) rfl (fun hw p e R s m args below meth c hC hr hlk hnm => ?_)
  unfold w_X7_chance at hw
  refine z_aload_n hC dX7_chance_0 rfl rfl ?_
  refine z_getP hC FX7 4 lk_502 dX7_chance_1 (by decide) hw (fun x1 hw => ?_)
  refine z_iconst hC ic_0 dX7_chance_4 ?_
  refine z_ldc2 hC lk_1288 dX7_chance_5 ?_
  refine z_astJ hC dX7_chance_8 hw (fun S hw => ?_)
  refine z_iconst hC ic_1 dX7_chance_9 ?_
  refine z_istore (i := 4) (lv' := [some (.ref v0), some (.int v1), some (.int v2), some (.int v3), some (.int 1), none]) hC dX7_chance_10 (by decide) (hok_v rfl rfl) rfl ?_
  refine z_mask (lv' := [some (.ref v0), some (.int v1), some (.int v2), some (.int v3), some (.int 1), none]) [true, true, true, true, true, false] rfl ?_
  obtain ⟨n12, hw⟩ := hw
  exact t_X7_chance_b12 hC hr hlk hnm n12 hw
end
section
variable {p : Program} {l : Launch} {e : Env} {R : Room} {s : State} {m : MethodId} {args : Array Value} {below : List Frame} {meth : Method} {c : Code} {G : hG} {B mc ms : Nat}
def w_X8_init (q : hS → Prop) (S : hS) (v0 : Nat) : Prop := nO S 2 FX2_0 (fun S o5 => w_X2_init (fun S => pP S v0 8 0 o5 (fun S => pI S v0 8 1 0 (fun S => mkI S 6 6 (fun S o23 => pP S v0 8 2 o23 (fun S => mkI S 6 6 (fun S o31 => pP S v0 8 3 o31 (fun S => pI S v0 8 4 0 (fun S => mkI S 8 8 (fun S o44 => pP S v0 8 5 o44 (fun S => mkI S 8 8 (fun S o52 => pP S v0 8 6 o52 (fun S => mkI S 8 8 (fun S o60 => pP S v0 8 7 o60 (fun S => mkI S 8 8 (fun S o68 => pP S v0 8 8 o68 (fun S => pI S v0 8 9 0 (fun S => mkI S 6 6 (fun S o81 => pP S v0 8 10 o81 (fun S => mkI S 6 6 (fun S o89 => pP S v0 8 11 o89 (fun S => pI S v0 8 12 3 (fun S => pI S v0 8 13 0 (fun S => pI S v0 8 14 0 (fun S => mkR S 5 6 6 (fun S o112 => pP S v0 8 15 o112 (fun S => pI S v0 8 16 (-1) (fun S => q S))))))))))))))))))))))))))) S o5)
set_option maxRecDepth 100000 in
set_option maxHeartbeats 4000000 in
theorem c_X8_init (l : Launch) (G : hG) (B : Nat) (S : hS) (v0 : Nat) (q : hS → Prop) : Met l yX8_init (hws yX8_init cX8_init 1 (Option.none : Option FieldType)) ({ frames := 2, cells := 14, slots := 178, locals := 80 }) (hPc G B S [.ref v0] (w_X8_init q S v0)) (hQ G B (vP q)) (14) (178) (fun r => B ≤ r) := by
  refine hMet (rm := { frames := 2, cells := 14, slots := 178, locals := 80 }) (lv := [some (.ref v0)]) (own := RX8) (fr := 2) (lo := 80) (by decide) rfl rfl rfl (Nat.le_of_ble_eq_true rfl) rfl (fun hw p e R s m args below meth c hC hr hlk hnm => ?_)
  unfold w_X8_init at hw
  refine z_less (ku' := 14) (kv' := 178) (Nat.le_refl _) (Nat.le_refl _) ?_
  refine z_aload_n hC dX8_init_0 rfl rfl ?_
  refine z_obj hC lk_154 lk_147 lk_148 dX8_init_1 (by decide) (Nat.le_of_ble_eq_true rfl) ?_
  refine z_aload_n hC dX8_init_4 rfl rfl ?_
  refine z_nO (ku' := 13) (kv' := 172) hC FX2 lk_155 lk_156 lk_123 FX2_d dX8_init_5 (by decide) (by decide) hw (fun S o5 hw => ?_)
  refine z_dup hC rfl dX8_init_8 ?_
  refine z_callIN (ku' := 9) (kv' := 62) (n := 0) (As := []) (st := [.ref o5, .ref v0]) (host := "BellHeirs") hC rfl (c_X2_init l G B S o5 _) hw (by decide +kernel) lk_158 lk_123 lk_159 rfl hd_X2_init.2 rfl rfl (Nat.le_of_ble_eq_true rfl) (Nat.le_of_ble_eq_true rfl) rfl (Nat.le_of_ble_eq_true rfl) dX8_init_9 (by decide) (by decide) (kV (fun S hw => ?_))
  refine z_putPF hC FX8 0 lk_201 dX8_init_12 (by decide) rfl hnm rfl rfl rfl hw (fun S hw => ?_)
  refine z_aload_n hC dX8_init_15 rfl rfl ?_
  refine z_iconst hC ic_0 dX8_init_16 ?_
  refine z_putI hC FX8 1 lk_205 dX8_init_17 (by decide) rfl rfl hw (fun S hw => ?_)
  refine z_aload_n hC dX8_init_20 rfl rfl ?_
  refine z_bipush hC bi_6 dX8_init_21 ?_
  refine z_mkI (cap := 6) (ku' := 8) (kv' := 56) hC lk_198 dX8_init_23 (by decide) (by decide) (by decide) hw (fun S o23 hw => ?_)
  refine z_putPF hC FX8 2 lk_209 dX8_init_25 (by decide) rfl hnm rfl rfl rfl hw (fun S hw => ?_)
  refine z_aload_n hC dX8_init_28 rfl rfl ?_
  refine z_bipush hC bi_6 dX8_init_29 ?_
  refine z_mkI (cap := 6) (ku' := 7) (kv' := 50) hC lk_198 dX8_init_31 (by decide) (by decide) (by decide) hw (fun S o31 hw => ?_)
  refine z_putPF hC FX8 3 lk_212 dX8_init_33 (by decide) rfl hnm rfl rfl rfl hw (fun S hw => ?_)
  refine z_aload_n hC dX8_init_36 rfl rfl ?_
  refine z_iconst hC ic_0 dX8_init_37 ?_
  refine z_putI hC FX8 4 lk_215 dX8_init_38 (by decide) rfl rfl hw (fun S hw => ?_)
  refine z_aload_n hC dX8_init_41 rfl rfl ?_
  refine z_bipush hC bi_8 dX8_init_42 ?_
  refine z_mkI (cap := 8) (ku' := 6) (kv' := 42) hC lk_198 dX8_init_44 (by decide) (by decide) (by decide) hw (fun S o44 hw => ?_)
  refine z_putPF hC FX8 5 lk_220 dX8_init_46 (by decide) rfl hnm rfl rfl rfl hw (fun S hw => ?_)
  refine z_aload_n hC dX8_init_49 rfl rfl ?_
  refine z_bipush hC bi_8 dX8_init_50 ?_
  refine z_mkI (cap := 8) (ku' := 5) (kv' := 34) hC lk_198 dX8_init_52 (by decide) (by decide) (by decide) hw (fun S o52 hw => ?_)
  refine z_putPF hC FX8 6 lk_223 dX8_init_54 (by decide) rfl hnm rfl rfl rfl hw (fun S hw => ?_)
  refine z_aload_n hC dX8_init_57 rfl rfl ?_
  refine z_bipush hC bi_8 dX8_init_58 ?_
  refine z_mkI (cap := 8) (ku' := 4) (kv' := 26) hC lk_198 dX8_init_60 (by decide) (by decide) (by decide) hw (fun S o60 hw => ?_)
  refine z_putPF hC FX8 7 lk_226 dX8_init_62 (by decide) rfl hnm rfl rfl rfl hw (fun S hw => ?_)
  refine z_aload_n hC dX8_init_65 rfl rfl ?_
  refine z_bipush hC bi_8 dX8_init_66 ?_
  refine z_mkI (cap := 8) (ku' := 3) (kv' := 18) hC lk_198 dX8_init_68 (by decide) (by decide) (by decide) hw (fun S o68 hw => ?_)
  refine z_putPF hC FX8 8 lk_229 dX8_init_70 (by decide) rfl hnm rfl rfl rfl hw (fun S hw => ?_)
  refine z_aload_n hC dX8_init_73 rfl rfl ?_
  refine z_iconst hC ic_0 dX8_init_74 ?_
  refine z_putI hC FX8 9 lk_231 dX8_init_75 (by decide) rfl rfl hw (fun S hw => ?_)
  refine z_aload_n hC dX8_init_78 rfl rfl ?_
  refine z_bipush hC bi_6 dX8_init_79 ?_
  refine z_mkI (cap := 6) (ku' := 2) (kv' := 12) hC lk_198 dX8_init_81 (by decide) (by decide) (by decide) hw (fun S o81 hw => ?_)
  refine z_putPF hC FX8 10 lk_233 dX8_init_83 (by decide) rfl hnm rfl rfl rfl hw (fun S hw => ?_)
  refine z_aload_n hC dX8_init_86 rfl rfl ?_
  refine z_bipush hC bi_6 dX8_init_87 ?_
  refine z_mkI (cap := 6) (ku' := 1) (kv' := 6) hC lk_198 dX8_init_89 (by decide) (by decide) (by decide) hw (fun S o89 hw => ?_)
  refine z_putPF hC FX8 11 lk_235 dX8_init_91 (by decide) rfl hnm rfl rfl rfl hw (fun S hw => ?_)
  refine z_aload_n hC dX8_init_94 rfl rfl ?_
  refine z_iconst hC ic_3 dX8_init_95 ?_
  refine z_putI hC FX8 12 lk_237 dX8_init_96 (by decide) rfl rfl hw (fun S hw => ?_)
  refine z_aload_n hC dX8_init_99 rfl rfl ?_
  refine z_iconst hC ic_0 dX8_init_100 ?_
  refine z_putI hC FX8 13 lk_239 dX8_init_101 (by decide) rfl rfl hw (fun S hw => ?_)
  refine z_aload_n hC dX8_init_104 rfl rfl ?_
  refine z_iconst hC ic_0 dX8_init_105 ?_
  refine z_putI hC FX8 14 lk_242 dX8_init_106 (by decide) rfl rfl hw (fun S hw => ?_)
  refine z_aload_n hC dX8_init_109 rfl rfl ?_
  refine z_bipush hC bi_6 dX8_init_110 ?_
  refine z_mkR (kd := 5) (cap := 6) (ku' := 0) (kv' := 0) hC lk_199 hC.a.2.2.2.1.2.2 rfl dX8_init_112 (by decide) (by decide) (by decide) hw (fun S o112 hw => ?_)
  refine z_putPF hC FX8 15 lk_244 dX8_init_115 (by decide) rfl hnm rfl rfl rfl hw (fun S hw => ?_)
  refine z_aload_n hC dX8_init_118 rfl rfl ?_
  refine z_iconst hC ic_m1 dX8_init_119 ?_
  refine z_putI hC FX8 16 lk_245 dX8_init_120 (by decide) rfl rfl hw (fun S hw => ?_)
  exact z_vret hC hr hlk dX8_init_123 ⟨rfl, hw⟩
end
section
variable {p : Program} {l : Launch} {e : Env} {R : Room} {s : State} {m : MethodId} {args : Array Value} {below : List Frame} {meth : Method} {c : Code} {G : hG} {B mc ms : Nat}
def w_X8_copyFrom_b205 (q : hS → Prop) : Nat → hS → (Nat) → (Nat) → (Int32) → Prop
  | 0, _, _, _, _ => False
  | n + 1, S, v0, v1, v2 => (6 ≤ v2 → gI S v1 8 16 (fun x231 => pI S v0 8 16 x231 (fun S => q S))) ∧ (¬ 6 ≤ v2 → gP S v0 8 15 (fun x212 => gP S v1 8 15 (fun x217 => aR S 5 x217 v2 (fun x221 => stR S 5 x212 v2 x221 10 (fun S => ∀ y223 : Int32, y223 = v2 + 1 → w_X8_copyFrom_b205 q n S v0 v1 y223)))))
set_option maxRecDepth 100000 in
set_option maxHeartbeats 4000000 in
theorem t_X8_copyFrom_b205 (hC : zC p R s m args c cX8_copyFrom 3 RX8 G B mc ms 2 81) (hr : meth.sig.returnType = (Option.none : Option FieldType)) (hlk : meth.locks = false) (hnm : meth.name = "copyFrom") {q : hS → Prop} (n : Nat) : ∀ {S : hS} {v0 : Nat} {v1 : Nat} {v2 : Int32} (hw : w_X8_copyFrom_b205 q n S v0 v1 v2), Z p l e R s m args below meth c (MQ below (hQ G B (vP q)) args s mc ms (fun r => B ≤ r)) G B mc ms 3 S 0 0 205 [some (.ref v0), some (.ref v1), some (.int v2)] [] := by
  induction n with
  | zero => intro S v0 v1 v2 hw; exact (by rw [w_X8_copyFrom_b205] at hw; exact hw.elim)
  | succ n ih =>
    intro S v0 v1 v2 hw
    rw [w_X8_copyFrom_b205] at hw
    refine z_iload_n hC dX8_copyFrom_205 rfl rfl ?_
    refine z_bipush hC bi_6 dX8_copyFrom_206 ?_
    refine z_icmp_ge (tgt := 229) hC dX8_copyFrom_208 (by decide) (fun c208 => ?_) (fun c208 => ?_)
    · have hw := hw.1 c208
      refine z_aload_n hC dX8_copyFrom_229 rfl rfl ?_
      refine z_aload_n hC dX8_copyFrom_230 rfl rfl ?_
      refine z_getI hC FX8 16 lk_245 dX8_copyFrom_231 (by decide) hw (fun x231 hw => ?_)
      refine z_putI hC FX8 16 lk_245 dX8_copyFrom_234 (by decide) rfl rfl hw (fun S hw => ?_)
      exact z_vret hC hr hlk dX8_copyFrom_237 ⟨rfl, hw⟩
    · have hw := hw.2 c208
      refine z_aload_n hC dX8_copyFrom_211 rfl rfl ?_
      refine z_getP hC FX8 15 lk_244 dX8_copyFrom_212 (by decide) hw (fun x212 hw => ?_)
      refine z_iload_n hC dX8_copyFrom_215 rfl rfl ?_
      refine z_aload_n hC dX8_copyFrom_216 rfl rfl ?_
      refine z_getP hC FX8 15 lk_244 dX8_copyFrom_217 (by decide) hw (fun x217 hw => ?_)
      refine z_iload_n hC dX8_copyFrom_220 rfl rfl ?_
      refine z_aldR (kd := 5) hC dX8_copyFrom_221 hw rfl (fun x221 hw => ?_)
      refine z_stR (x := x221) (kd := 5) (ci := 10) hC dX8_copyFrom_222 hw rfl rfl (fun S hw => ?_)
      refine z_inc (i := 2) hC ic_1 dX8_copyFrom_223 rfl (by decide) (hok_v rfl rfl) (fun y223 e223 => ?_)
      have hw := hw y223 e223
      refine z_goto (tgt := 205) hC dX8_copyFrom_226 (by decide) ?_
      refine z_mask (lv' := [some (.ref v0), some (.ref v1), some (.int y223)]) [true, true, true] rfl ?_
      exact ih hw
def w_X8_copyFrom (q : hS → Prop) (S : hS) (v0 : Nat) (v1 : Nat) : Prop := gP S v0 8 0 (fun x1 => gP S v1 8 0 (fun x5 => oK S x1 2 ∧ w_X2_copyFrom (fun S => gI S v1 8 1 (fun x13 => pI S v0 8 1 x13 (fun S => gP S v1 8 2 (fun x20 => gP S v0 8 2 (fun x25 => gP S v0 8 2 (fun x30 => aN S x30 (fun x33 => cI S x20 0 x25 0 x33 (fun S => gP S v1 8 3 (fun x38 => gP S v0 8 3 (fun x43 => gP S v0 8 3 (fun x48 => aN S x48 (fun x51 => cI S x38 0 x43 0 x51 (fun S => gI S v1 8 4 (fun x57 => pI S v0 8 4 x57 (fun S => gP S v1 8 5 (fun x64 => gP S v0 8 5 (fun x69 => gP S v0 8 5 (fun x74 => aN S x74 (fun x77 => cI S x64 0 x69 0 x77 (fun S => gP S v1 8 6 (fun x82 => gP S v0 8 6 (fun x87 => gP S v0 8 6 (fun x92 => aN S x92 (fun x95 => cI S x82 0 x87 0 x95 (fun S => gP S v1 8 7 (fun x100 => gP S v0 8 7 (fun x105 => gP S v0 8 7 (fun x110 => aN S x110 (fun x113 => cI S x100 0 x105 0 x113 (fun S => gP S v1 8 8 (fun x118 => gP S v0 8 8 (fun x123 => gP S v0 8 8 (fun x128 => aN S x128 (fun x131 => cI S x118 0 x123 0 x131 (fun S => gI S v1 8 9 (fun x137 => pI S v0 8 9 x137 (fun S => gP S v1 8 10 (fun x144 => gP S v0 8 10 (fun x149 => gP S v0 8 10 (fun x154 => aN S x154 (fun x157 => cI S x144 0 x149 0 x157 (fun S => gP S v1 8 11 (fun x162 => gP S v0 8 11 (fun x167 => gP S v0 8 11 (fun x172 => aN S x172 (fun x175 => cI S x162 0 x167 0 x175 (fun S => gI S v1 8 12 (fun x181 => pI S v0 8 12 x181 (fun S => gI S v1 8 13 (fun x189 => pI S v0 8 13 x189 (fun S => gI S v1 8 14 (fun x197 => pI S v0 8 14 x197 (fun S => (∃ n205 : Nat, w_X8_copyFrom_b205 q n205 S v0 v1 0)))))))))))))))))))))))))))))))))))))))))))))))))))))) S x1 x5))
set_option maxRecDepth 100000 in
set_option maxHeartbeats 4000000 in
theorem c_X8_copyFrom (l : Launch) (G : hG) (B : Nat) (S : hS) (v0 : Nat) (v1 : Nat) (q : hS → Prop) : Met l yX8_copyFrom (hws yX8_copyFrom cX8_copyFrom 3 (Option.none : Option FieldType)) ({ frames := 2, cells := 0, slots := 0, locals := 81 }) (hPc G B S [.ref v0, .ref v1] (w_X8_copyFrom q S v0 v1)) (hQ G B (vP q)) (0) (0) (fun r => B ≤ r) := by
  refine hMet (rm := { frames := 2, cells := 0, slots := 0, locals := 81 }) (lv := [some (.ref v0), some (.ref v1), none]) (own := RX8) (fr := 2) (lo := 81) (by decide) rfl rfl rfl (Nat.le_of_ble_eq_true rfl) rfl (fun hw p e R s m args below meth c hC hr hlk hnm => ?_)
  unfold w_X8_copyFrom at hw
  refine z_aload_n hC dX8_copyFrom_0 rfl rfl ?_
  refine z_getP hC FX8 0 lk_201 dX8_copyFrom_1 (by decide) hw (fun x1 hw => ?_)
  refine z_aload_n hC dX8_copyFrom_4 rfl rfl ?_
  refine z_getP hC FX8 0 lk_201 dX8_copyFrom_5 (by decide) hw (fun x5 hw => ?_)
  refine z_callV (ku' := 0) (kv' := 0) (n := 1) (As := [.ref x5]) (st := []) hC (c_X2_copyFrom l G B S x1 x5 _) hw.2 hw.1 rfl lk_1016 lk_1017 lk_1018 lk_123 lk_1019 hd_X2_copyFrom rfl rfl (Nat.le_of_ble_eq_true rfl) (Nat.le_of_ble_eq_true rfl) rfl (Nat.le_of_ble_eq_true rfl) dX8_copyFrom_8 (Nat.le_refl 0) (Nat.le_refl 0) (kV (fun S hw => ?_))
  refine z_aload_n hC dX8_copyFrom_11 rfl rfl ?_
  refine z_aload_n hC dX8_copyFrom_12 rfl rfl ?_
  refine z_getI hC FX8 1 lk_205 dX8_copyFrom_13 (by decide) hw (fun x13 hw => ?_)
  refine z_putI hC FX8 1 lk_205 dX8_copyFrom_16 (by decide) rfl rfl hw (fun S hw => ?_)
  refine z_aload_n hC dX8_copyFrom_19 rfl rfl ?_
  refine z_getP hC FX8 2 lk_209 dX8_copyFrom_20 (by decide) hw (fun x20 hw => ?_)
  refine z_iconst hC ic_0 dX8_copyFrom_23 ?_
  refine z_aload_n hC dX8_copyFrom_24 rfl rfl ?_
  refine z_getP hC FX8 2 lk_209 dX8_copyFrom_25 (by decide) hw (fun x25 hw => ?_)
  refine z_iconst hC ic_0 dX8_copyFrom_28 ?_
  refine z_aload_n hC dX8_copyFrom_29 rfl rfl ?_
  refine z_getP hC FX8 2 lk_209 dX8_copyFrom_30 (by decide) hw (fun x30 hw => ?_)
  refine z_alen hC dX8_copyFrom_33 hw (fun x33 hw => ?_)
  refine z_copyI hC lk_1021 lk_1002 lk_1001 lk_139 dX8_copyFrom_34 (by decide) (Nat.le_of_ble_eq_true rfl) hw (fun S hw => ?_)
  refine z_aload_n hC dX8_copyFrom_37 rfl rfl ?_
  refine z_getP hC FX8 3 lk_212 dX8_copyFrom_38 (by decide) hw (fun x38 hw => ?_)
  refine z_iconst hC ic_0 dX8_copyFrom_41 ?_
  refine z_aload_n hC dX8_copyFrom_42 rfl rfl ?_
  refine z_getP hC FX8 3 lk_212 dX8_copyFrom_43 (by decide) hw (fun x43 hw => ?_)
  refine z_iconst hC ic_0 dX8_copyFrom_46 ?_
  refine z_aload_n hC dX8_copyFrom_47 rfl rfl ?_
  refine z_getP hC FX8 3 lk_212 dX8_copyFrom_48 (by decide) hw (fun x48 hw => ?_)
  refine z_alen hC dX8_copyFrom_51 hw (fun x51 hw => ?_)
  refine z_copyI hC lk_1021 lk_1002 lk_1001 lk_139 dX8_copyFrom_52 (by decide) (Nat.le_of_ble_eq_true rfl) hw (fun S hw => ?_)
  refine z_aload_n hC dX8_copyFrom_55 rfl rfl ?_
  refine z_aload_n hC dX8_copyFrom_56 rfl rfl ?_
  refine z_getI hC FX8 4 lk_215 dX8_copyFrom_57 (by decide) hw (fun x57 hw => ?_)
  refine z_putI hC FX8 4 lk_215 dX8_copyFrom_60 (by decide) rfl rfl hw (fun S hw => ?_)
  refine z_aload_n hC dX8_copyFrom_63 rfl rfl ?_
  refine z_getP hC FX8 5 lk_220 dX8_copyFrom_64 (by decide) hw (fun x64 hw => ?_)
  refine z_iconst hC ic_0 dX8_copyFrom_67 ?_
  refine z_aload_n hC dX8_copyFrom_68 rfl rfl ?_
  refine z_getP hC FX8 5 lk_220 dX8_copyFrom_69 (by decide) hw (fun x69 hw => ?_)
  refine z_iconst hC ic_0 dX8_copyFrom_72 ?_
  refine z_aload_n hC dX8_copyFrom_73 rfl rfl ?_
  refine z_getP hC FX8 5 lk_220 dX8_copyFrom_74 (by decide) hw (fun x74 hw => ?_)
  refine z_alen hC dX8_copyFrom_77 hw (fun x77 hw => ?_)
  refine z_copyI hC lk_1021 lk_1002 lk_1001 lk_139 dX8_copyFrom_78 (by decide) (Nat.le_of_ble_eq_true rfl) hw (fun S hw => ?_)
  refine z_aload_n hC dX8_copyFrom_81 rfl rfl ?_
  refine z_getP hC FX8 6 lk_223 dX8_copyFrom_82 (by decide) hw (fun x82 hw => ?_)
  refine z_iconst hC ic_0 dX8_copyFrom_85 ?_
  refine z_aload_n hC dX8_copyFrom_86 rfl rfl ?_
  refine z_getP hC FX8 6 lk_223 dX8_copyFrom_87 (by decide) hw (fun x87 hw => ?_)
  refine z_iconst hC ic_0 dX8_copyFrom_90 ?_
  refine z_aload_n hC dX8_copyFrom_91 rfl rfl ?_
  refine z_getP hC FX8 6 lk_223 dX8_copyFrom_92 (by decide) hw (fun x92 hw => ?_)
  refine z_alen hC dX8_copyFrom_95 hw (fun x95 hw => ?_)
  refine z_copyI hC lk_1021 lk_1002 lk_1001 lk_139 dX8_copyFrom_96 (by decide) (Nat.le_of_ble_eq_true rfl) hw (fun S hw => ?_)
  refine z_aload_n hC dX8_copyFrom_99 rfl rfl ?_
  refine z_getP hC FX8 7 lk_226 dX8_copyFrom_100 (by decide) hw (fun x100 hw => ?_)
  refine z_iconst hC ic_0 dX8_copyFrom_103 ?_
  refine z_aload_n hC dX8_copyFrom_104 rfl rfl ?_
  refine z_getP hC FX8 7 lk_226 dX8_copyFrom_105 (by decide) hw (fun x105 hw => ?_)
  refine z_iconst hC ic_0 dX8_copyFrom_108 ?_
  refine z_aload_n hC dX8_copyFrom_109 rfl rfl ?_
  refine z_getP hC FX8 7 lk_226 dX8_copyFrom_110 (by decide) hw (fun x110 hw => ?_)
  refine z_alen hC dX8_copyFrom_113 hw (fun x113 hw => ?_)
  refine z_copyI hC lk_1021 lk_1002 lk_1001 lk_139 dX8_copyFrom_114 (by decide) (Nat.le_of_ble_eq_true rfl) hw (fun S hw => ?_)
  refine z_aload_n hC dX8_copyFrom_117 rfl rfl ?_
  refine z_getP hC FX8 8 lk_229 dX8_copyFrom_118 (by decide) hw (fun x118 hw => ?_)
  refine z_iconst hC ic_0 dX8_copyFrom_121 ?_
  refine z_aload_n hC dX8_copyFrom_122 rfl rfl ?_
  refine z_getP hC FX8 8 lk_229 dX8_copyFrom_123 (by decide) hw (fun x123 hw => ?_)
  refine z_iconst hC ic_0 dX8_copyFrom_126 ?_
  refine z_aload_n hC dX8_copyFrom_127 rfl rfl ?_
  refine z_getP hC FX8 8 lk_229 dX8_copyFrom_128 (by decide) hw (fun x128 hw => ?_)
  refine z_alen hC dX8_copyFrom_131 hw (fun x131 hw => ?_)
  refine z_copyI hC lk_1021 lk_1002 lk_1001 lk_139 dX8_copyFrom_132 (by decide) (Nat.le_of_ble_eq_true rfl) hw (fun S hw => ?_)
  refine z_aload_n hC dX8_copyFrom_135 rfl rfl ?_
  refine z_aload_n hC dX8_copyFrom_136 rfl rfl ?_
  refine z_getI hC FX8 9 lk_231 dX8_copyFrom_137 (by decide) hw (fun x137 hw => ?_)
  refine z_putI hC FX8 9 lk_231 dX8_copyFrom_140 (by decide) rfl rfl hw (fun S hw => ?_)
  refine z_aload_n hC dX8_copyFrom_143 rfl rfl ?_
  refine z_getP hC FX8 10 lk_233 dX8_copyFrom_144 (by decide) hw (fun x144 hw => ?_)
  refine z_iconst hC ic_0 dX8_copyFrom_147 ?_
  refine z_aload_n hC dX8_copyFrom_148 rfl rfl ?_
  refine z_getP hC FX8 10 lk_233 dX8_copyFrom_149 (by decide) hw (fun x149 hw => ?_)
  refine z_iconst hC ic_0 dX8_copyFrom_152 ?_
  refine z_aload_n hC dX8_copyFrom_153 rfl rfl ?_
  refine z_getP hC FX8 10 lk_233 dX8_copyFrom_154 (by decide) hw (fun x154 hw => ?_)
  refine z_alen hC dX8_copyFrom_157 hw (fun x157 hw => ?_)
  refine z_copyI hC lk_1021 lk_1002 lk_1001 lk_139 dX8_copyFrom_158 (by decide) (Nat.le_of_ble_eq_true rfl) hw (fun S hw => ?_)
  refine z_aload_n hC dX8_copyFrom_161 rfl rfl ?_
  refine z_getP hC FX8 11 lk_235 dX8_copyFrom_162 (by decide) hw (fun x162 hw => ?_)
  refine z_iconst hC ic_0 dX8_copyFrom_165 ?_
  refine z_aload_n hC dX8_copyFrom_166 rfl rfl ?_
  refine z_getP hC FX8 11 lk_235 dX8_copyFrom_167 (by decide) hw (fun x167 hw => ?_)
  refine z_iconst hC ic_0 dX8_copyFrom_170 ?_
  refine z_aload_n hC dX8_copyFrom_171 rfl rfl ?_
  refine z_getP hC FX8 11 lk_235 dX8_copyFrom_172 (by decide) hw (fun x172 hw => ?_)
  refine z_alen hC dX8_copyFrom_175 hw (fun x175 hw => ?_)
  refine z_copyI hC lk_1021 lk_1002 lk_1001 lk_139 dX8_copyFrom_176 (by decide) (Nat.le_of_ble_eq_true rfl) hw (fun S hw => ?_)
  refine z_aload_n hC dX8_copyFrom_179 rfl rfl ?_
  refine z_aload_n hC dX8_copyFrom_180 rfl rfl ?_
  refine z_getI hC FX8 12 lk_237 dX8_copyFrom_181 (by decide) hw (fun x181 hw => ?_)
  refine z_putI hC FX8 12 lk_237 dX8_copyFrom_184 (by decide) rfl rfl hw (fun S hw => ?_)
  refine z_aload_n hC dX8_copyFrom_187 rfl rfl ?_
  refine z_aload_n hC dX8_copyFrom_188 rfl rfl ?_
  refine z_getI hC FX8 13 lk_239 dX8_copyFrom_189 (by decide) hw (fun x189 hw => ?_)
  refine z_putI hC FX8 13 lk_239 dX8_copyFrom_192 (by decide) rfl rfl hw (fun S hw => ?_)
  refine z_aload_n hC dX8_copyFrom_195 rfl rfl ?_
  refine z_aload_n hC dX8_copyFrom_196 rfl rfl ?_
  refine z_getI hC FX8 14 lk_242 dX8_copyFrom_197 (by decide) hw (fun x197 hw => ?_)
  refine z_putI hC FX8 14 lk_242 dX8_copyFrom_200 (by decide) rfl rfl hw (fun S hw => ?_)
  refine z_iconst hC ic_0 dX8_copyFrom_203 ?_
  refine z_istore_n (i := 2) (lv' := [some (.ref v0), some (.ref v1), some (.int 0)]) hC rfl dX8_copyFrom_204 (by decide) (hok_v rfl rfl) rfl ?_
  refine z_mask (lv' := [some (.ref v0), some (.ref v1), some (.int 0)]) [true, true, true] rfl ?_
  obtain ⟨n205, hw⟩ := hw
  exact t_X8_copyFrom_b205 hC hr hlk hnm n205 hw
end
section
variable {p : Program} {l : Launch} {e : Env} {R : Room} {s : State} {m : MethodId} {args : Array Value} {below : List Frame} {meth : Method} {c : Code} {G : hG} {B mc ms : Nat}
def w_X8_addHouse_b53 (q : Int32 → hS → Prop) : Nat → hS → (Nat) → (Int32) → (Int32) → Prop
  | 0, _, _, _, _ => False
  | n + 1, S, v0, v3, v4 => (8 ≤ v4 → q v3 S) ∧ (¬ 8 ≤ v4 → gP S v0 8 0 (fun x61 => gP S x61 2 0 (fun x64 => w_X11_slot (fun x70 S => sI S x64 x70 0 (fun S => gP S v0 8 0 (fun x76 => gP S x76 2 1 (fun x79 => w_X11_slot (fun x85 S => sI S x79 x85 0 (fun S => ∀ y90 : Int32, y90 = v4 + 1 → w_X8_addHouse_b53 q n S v0 v3 y90)) S v4 v3)))) S v4 v3)))
set_option maxRecDepth 100000 in
set_option maxHeartbeats 4000000 in
theorem t_X8_addHouse_b53 (hC : zC p R s m args c cX8_addHouse 5 RX8 G B mc ms 2 81) (hr : meth.sig.returnType = (Option.some FieldType.int)) (hlk : meth.locks = false) (hnm : meth.name = "addHouse") {q : Int32 → hS → Prop} (n : Nat) : ∀ {S : hS} {v0 : Nat} {v3 : Int32} {v4 : Int32} (hw : w_X8_addHouse_b53 q n S v0 v3 v4), Z p l e R s m args below meth c (MQ below (hQ G B (iP q)) args s mc ms (fun r => B ≤ r)) G B mc ms 5 S 0 0 53 [some (.ref v0), none, none, some (.int v3), some (.int v4)] [] := by
  induction n with
  | zero => intro S v0 v3 v4 hw; exact (by rw [w_X8_addHouse_b53] at hw; exact hw.elim)
  | succ n ih =>
    intro S v0 v3 v4 hw
    rw [w_X8_addHouse_b53] at hw
    refine z_iload hC dX8_addHouse_53 rfl ?_
    refine z_bipush hC bi_8 dX8_addHouse_55 ?_
    refine z_icmp_ge (tgt := 96) hC dX8_addHouse_57 (by decide) (fun c57 => ?_) (fun c57 => ?_)
    · have hw := hw.1 c57
      refine z_iload_n hC dX8_addHouse_96 rfl rfl ?_
      exact z_iret hC hr hlk dX8_addHouse_97 ⟨_, rfl, hw⟩
    · have hw := hw.2 c57
      refine z_aload_n hC dX8_addHouse_60 rfl rfl ?_
      refine z_getP hC FX8 0 lk_201 dX8_addHouse_61 (by decide) hw (fun x61 hw => ?_)
      refine z_getP hC FX2 0 lk_162 dX8_addHouse_64 (by decide) hw (fun x64 hw => ?_)
      refine z_iload hC dX8_addHouse_67 rfl ?_
      refine z_iload_n hC dX8_addHouse_69 rfl rfl ?_
      refine z_callSN (ku' := 0) (kv' := 0) (n := 2) (As := [.int v4, .int v3]) (st := [.ref x64]) (host := "BellHeirs") hC (c_X11_slot l G B S v4 v3 _) hw (by decide +kernel) lk_590 lk_121 lk_591 hd_X11_slot.2 rfl rfl (Nat.le_of_ble_eq_true rfl) (Nat.le_of_ble_eq_true rfl) rfl (Nat.le_of_ble_eq_true rfl) dX8_addHouse_70 (Nat.le_refl 0) (Nat.le_refl 0) (kI (fun x70 S hw => ?_))
      refine z_iconst hC ic_0 dX8_addHouse_73 ?_
      refine z_astI hC dX8_addHouse_74 hw (fun S hw => ?_)
      refine z_aload_n hC dX8_addHouse_75 rfl rfl ?_
      refine z_getP hC FX8 0 lk_201 dX8_addHouse_76 (by decide) hw (fun x76 hw => ?_)
      refine z_getP hC FX2 1 lk_167 dX8_addHouse_79 (by decide) hw (fun x79 hw => ?_)
      refine z_iload hC dX8_addHouse_82 rfl ?_
      refine z_iload_n hC dX8_addHouse_84 rfl rfl ?_
      refine z_callSN (ku' := 0) (kv' := 0) (n := 2) (As := [.int v4, .int v3]) (st := [.ref x79]) (host := "BellHeirs") hC (c_X11_slot l G B S v4 v3 _) hw (by decide +kernel) lk_590 lk_121 lk_591 hd_X11_slot.2 rfl rfl (Nat.le_of_ble_eq_true rfl) (Nat.le_of_ble_eq_true rfl) rfl (Nat.le_of_ble_eq_true rfl) dX8_addHouse_85 (Nat.le_refl 0) (Nat.le_refl 0) (kI (fun x85 S hw => ?_))
      refine z_iconst hC ic_0 dX8_addHouse_88 ?_
      refine z_astI hC dX8_addHouse_89 hw (fun S hw => ?_)
      refine z_inc (i := 4) hC ic_1 dX8_addHouse_90 rfl (by decide) (hok_v rfl rfl) (fun y90 e90 => ?_)
      have hw := hw y90 e90
      refine z_goto (tgt := 53) hC dX8_addHouse_93 (by decide) ?_
      refine z_mask (lv' := [some (.ref v0), none, none, some (.int v3), some (.int y90)]) [true, false, false, true, true] rfl ?_
      exact ih hw
def w_X8_addHouse (q : Int32 → hS → Prop) (S : hS) (v0 : Nat) (v1 : Int32) (v2 : Int32) : Prop := gI S v0 8 1 (fun x1 => (x1 < 6 → gI S v0 8 1 (fun x12 => gI S v0 8 1 (fun x18 => pI S v0 8 1 (x18 + 1) (fun S => gP S v0 8 2 (fun x27 => sI S x27 x12 v1 (fun S => gP S v0 8 3 (fun x34 => sI S x34 x12 v2 (fun S => gP S v0 8 0 (fun x41 => gP S x41 2 2 (fun x44 => sI S x44 x12 0 (fun S => (∃ n53 : Nat, w_X8_addHouse_b53 q n53 S v0 x12 0)))))))))))) ∧ (¬ x1 < 6 → q (-1) S))
set_option maxRecDepth 100000 in
set_option maxHeartbeats 4000000 in
theorem c_X8_addHouse (l : Launch) (G : hG) (B : Nat) (S : hS) (v0 : Nat) (v1 : Int32) (v2 : Int32) (q : Int32 → hS → Prop) : Met l yX8_addHouse (hws yX8_addHouse cX8_addHouse 5 (Option.some FieldType.int)) ({ frames := 2, cells := 0, slots := 0, locals := 81 }) (hPc G B S [.ref v0, .int v1, .int v2] (w_X8_addHouse q S v0 v1 v2)) (hQ G B (iP q)) (0) (0) (fun r => B ≤ r) := by
  refine hMet (rm := { frames := 2, cells := 0, slots := 0, locals := 81 }) (lv := [some (.ref v0), some (.int v1), some (.int v2), none, none]) (own := RX8) (fr := 2) (lo := 81) (by decide) rfl rfl rfl (Nat.le_of_ble_eq_true rfl) rfl (fun hw p e R s m args below meth c hC hr hlk hnm => ?_)
  unfold w_X8_addHouse at hw
  refine z_aload_n hC dX8_addHouse_0 rfl rfl ?_
  refine z_getI hC FX8 1 lk_205 dX8_addHouse_1 (by decide) hw (fun x1 hw => ?_)
  refine z_bipush hC bi_6 dX8_addHouse_4 ?_
  refine z_icmp_lt (tgt := 11) hC dX8_addHouse_6 (by decide) (fun c6 => ?_) (fun c6 => ?_)
  · have hw := hw.1 c6
    refine z_aload_n hC dX8_addHouse_11 rfl rfl ?_
    refine z_getI hC FX8 1 lk_205 dX8_addHouse_12 (by decide) hw (fun x12 hw => ?_)
    refine z_istore_n (i := 3) (lv' := [some (.ref v0), some (.int v1), some (.int v2), some (.int x12), none]) hC rfl dX8_addHouse_15 (by decide) (hok_v rfl rfl) rfl ?_
    refine z_aload_n hC dX8_addHouse_16 rfl rfl ?_
    refine z_dup hC rfl dX8_addHouse_17 ?_
    refine z_getI hC FX8 1 lk_205 dX8_addHouse_18 (by decide) hw (fun x18 hw => ?_)
    refine z_iconst hC ic_1 dX8_addHouse_21 ?_
    refine z_iadd hC dX8_addHouse_22 ?_
    refine z_putI hC FX8 1 lk_205 dX8_addHouse_23 (by decide) rfl rfl hw (fun S hw => ?_)
    refine z_aload_n hC dX8_addHouse_26 rfl rfl ?_
    refine z_getP hC FX8 2 lk_209 dX8_addHouse_27 (by decide) hw (fun x27 hw => ?_)
    refine z_iload_n hC dX8_addHouse_30 rfl rfl ?_
    refine z_iload_n hC dX8_addHouse_31 rfl rfl ?_
    refine z_astI hC dX8_addHouse_32 hw (fun S hw => ?_)
    refine z_aload_n hC dX8_addHouse_33 rfl rfl ?_
    refine z_getP hC FX8 3 lk_212 dX8_addHouse_34 (by decide) hw (fun x34 hw => ?_)
    refine z_iload_n hC dX8_addHouse_37 rfl rfl ?_
    refine z_iload_n hC dX8_addHouse_38 rfl rfl ?_
    refine z_astI hC dX8_addHouse_39 hw (fun S hw => ?_)
    refine z_aload_n hC dX8_addHouse_40 rfl rfl ?_
    refine z_getP hC FX8 0 lk_201 dX8_addHouse_41 (by decide) hw (fun x41 hw => ?_)
    refine z_getP hC FX2 2 lk_170 dX8_addHouse_44 (by decide) hw (fun x44 hw => ?_)
    refine z_iload_n hC dX8_addHouse_47 rfl rfl ?_
    refine z_iconst hC ic_0 dX8_addHouse_48 ?_
    refine z_astI hC dX8_addHouse_49 hw (fun S hw => ?_)
    refine z_iconst hC ic_0 dX8_addHouse_50 ?_
    refine z_istore (i := 4) (lv' := [some (.ref v0), some (.int v1), some (.int v2), some (.int x12), some (.int 0)]) hC dX8_addHouse_51 (by decide) (hok_v rfl rfl) rfl ?_
    refine z_mask (lv' := [some (.ref v0), none, none, some (.int x12), some (.int 0)]) [true, false, false, true, true] rfl ?_
    obtain ⟨n53, hw⟩ := hw
    exact t_X8_addHouse_b53 hC hr hlk hnm n53 hw
  · have hw := hw.2 c6
    refine z_iconst hC ic_m1 dX8_addHouse_9 ?_
    exact z_iret hC hr hlk dX8_addHouse_10 ⟨_, rfl, hw⟩
end
section
variable {p : Program} {l : Launch} {e : Env} {R : Room} {s : State} {m : MethodId} {args : Array Value} {below : List Frame} {meth : Method} {c : Code} {G : hG} {B mc ms : Nat}
def w_X8_addPerson_b91 (q : Int32 → hS → Prop) : Nat → hS → (Nat) → (Int32) → (Int32) → Prop
  | 0, _, _, _, _ => False
  | n + 1, S, v0, v4, v5 => (6 ≤ v5 → q v4 S) ∧ (¬ 6 ≤ v5 → gP S v0 8 0 (fun x99 => gP S x99 2 0 (fun x102 => w_X11_slot (fun x109 S => sI S x102 x109 0 (fun S => gP S v0 8 0 (fun x115 => gP S x115 2 1 (fun x118 => w_X11_slot (fun x125 S => sI S x118 x125 0 (fun S => ∀ y130 : Int32, y130 = v5 + 1 → w_X8_addPerson_b91 q n S v0 v4 y130)) S v4 v5)))) S v4 v5)))
set_option maxRecDepth 100000 in
set_option maxHeartbeats 4000000 in
theorem t_X8_addPerson_b91 (hC : zC p R s m args c cX8_addPerson 6 RX8 G B mc ms 2 81) (hr : meth.sig.returnType = (Option.some FieldType.int)) (hlk : meth.locks = false) (hnm : meth.name = "addPerson") {q : Int32 → hS → Prop} (n : Nat) : ∀ {S : hS} {v0 : Nat} {v4 : Int32} {v5 : Int32} (hw : w_X8_addPerson_b91 q n S v0 v4 v5), Z p l e R s m args below meth c (MQ below (hQ G B (iP q)) args s mc ms (fun r => B ≤ r)) G B mc ms 6 S 0 0 91 [some (.ref v0), none, none, none, some (.int v4), some (.int v5)] [] := by
  induction n with
  | zero => intro S v0 v4 v5 hw; exact (by rw [w_X8_addPerson_b91] at hw; exact hw.elim)
  | succ n ih =>
    intro S v0 v4 v5 hw
    rw [w_X8_addPerson_b91] at hw
    refine z_iload hC dX8_addPerson_91 rfl ?_
    refine z_bipush hC bi_6 dX8_addPerson_93 ?_
    refine z_icmp_ge (tgt := 136) hC dX8_addPerson_95 (by decide) (fun c95 => ?_) (fun c95 => ?_)
    · have hw := hw.1 c95
      refine z_iload hC dX8_addPerson_136 rfl ?_
      exact z_iret hC hr hlk dX8_addPerson_138 ⟨_, rfl, hw⟩
    · have hw := hw.2 c95
      refine z_aload_n hC dX8_addPerson_98 rfl rfl ?_
      refine z_getP hC FX8 0 lk_201 dX8_addPerson_99 (by decide) hw (fun x99 hw => ?_)
      refine z_getP hC FX2 0 lk_162 dX8_addPerson_102 (by decide) hw (fun x102 hw => ?_)
      refine z_iload hC dX8_addPerson_105 rfl ?_
      refine z_iload hC dX8_addPerson_107 rfl ?_
      refine z_callSN (ku' := 0) (kv' := 0) (n := 2) (As := [.int v4, .int v5]) (st := [.ref x102]) (host := "BellHeirs") hC (c_X11_slot l G B S v4 v5 _) hw (by decide +kernel) lk_590 lk_121 lk_591 hd_X11_slot.2 rfl rfl (Nat.le_of_ble_eq_true rfl) (Nat.le_of_ble_eq_true rfl) rfl (Nat.le_of_ble_eq_true rfl) dX8_addPerson_109 (Nat.le_refl 0) (Nat.le_refl 0) (kI (fun x109 S hw => ?_))
      refine z_iconst hC ic_0 dX8_addPerson_112 ?_
      refine z_astI hC dX8_addPerson_113 hw (fun S hw => ?_)
      refine z_aload_n hC dX8_addPerson_114 rfl rfl ?_
      refine z_getP hC FX8 0 lk_201 dX8_addPerson_115 (by decide) hw (fun x115 hw => ?_)
      refine z_getP hC FX2 1 lk_167 dX8_addPerson_118 (by decide) hw (fun x118 hw => ?_)
      refine z_iload hC dX8_addPerson_121 rfl ?_
      refine z_iload hC dX8_addPerson_123 rfl ?_
      refine z_callSN (ku' := 0) (kv' := 0) (n := 2) (As := [.int v4, .int v5]) (st := [.ref x118]) (host := "BellHeirs") hC (c_X11_slot l G B S v4 v5 _) hw (by decide +kernel) lk_590 lk_121 lk_591 hd_X11_slot.2 rfl rfl (Nat.le_of_ble_eq_true rfl) (Nat.le_of_ble_eq_true rfl) rfl (Nat.le_of_ble_eq_true rfl) dX8_addPerson_125 (Nat.le_refl 0) (Nat.le_refl 0) (kI (fun x125 S hw => ?_))
      refine z_iconst hC ic_0 dX8_addPerson_128 ?_
      refine z_astI hC dX8_addPerson_129 hw (fun S hw => ?_)
      refine z_inc (i := 5) hC ic_1 dX8_addPerson_130 rfl (by decide) (hok_v rfl rfl) (fun y130 e130 => ?_)
      have hw := hw y130 e130
      refine z_goto (tgt := 91) hC dX8_addPerson_133 (by decide) ?_
      refine z_mask (lv' := [some (.ref v0), none, none, none, some (.int v4), some (.int y130)]) [true, false, false, false, true, true] rfl ?_
      exact ih hw
def w_X8_addPerson (q : Int32 → hS → Prop) (S : hS) (v0 : Nat) (v1 : Int32) (v2 : Int32) (v3 : Int32) : Prop := gI S v0 8 4 (fun x1 => (x1 < 8 → gI S v0 8 4 (fun x12 => gI S v0 8 4 (fun x19 => pI S v0 8 4 (x19 + 1) (fun S => gP S v0 8 5 (fun x28 => sI S x28 x12 v1 (fun S => gP S v0 8 6 (fun x36 => sI S x36 x12 v2 (fun S => gP S v0 8 7 (fun x44 => sI S x44 x12 (-1) (fun S => gP S v0 8 8 (fun x52 => sI S x52 x12 0 (fun S => gP S v0 8 0 (fun x60 => gP S x60 2 3 (fun x63 => sI S x63 x12 v3 (fun S => gP S v0 8 0 (fun x71 => gI S x71 2 4 (fun x75 => pI S x71 2 4 (x75 &&& ((1 <<< (x12 &&& 31)) ^^^ (-1))) (fun S => (∃ n91 : Nat, w_X8_addPerson_b91 q n91 S v0 x12 0))))))))))))))))))) ∧ (¬ x1 < 8 → q (-1) S))
set_option maxRecDepth 100000 in
set_option maxHeartbeats 4000000 in
theorem c_X8_addPerson (l : Launch) (G : hG) (B : Nat) (S : hS) (v0 : Nat) (v1 : Int32) (v2 : Int32) (v3 : Int32) (q : Int32 → hS → Prop) : Met l yX8_addPerson (hws yX8_addPerson cX8_addPerson 6 (Option.some FieldType.int)) ({ frames := 2, cells := 0, slots := 0, locals := 81 }) (hPc G B S [.ref v0, .int v1, .int v2, .int v3] (w_X8_addPerson q S v0 v1 v2 v3)) (hQ G B (iP q)) (0) (0) (fun r => B ≤ r) := by
  refine hMet (rm := { frames := 2, cells := 0, slots := 0, locals := 81 }) (lv := [some (.ref v0), some (.int v1), some (.int v2), some (.int v3), none, none]) (own := RX8) (fr := 2) (lo := 81) (by decide) rfl rfl rfl (Nat.le_of_ble_eq_true rfl) rfl (fun hw p e R s m args below meth c hC hr hlk hnm => ?_)
  unfold w_X8_addPerson at hw
  refine z_aload_n hC dX8_addPerson_0 rfl rfl ?_
  refine z_getI hC FX8 4 lk_215 dX8_addPerson_1 (by decide) hw (fun x1 hw => ?_)
  refine z_bipush hC bi_8 dX8_addPerson_4 ?_
  refine z_icmp_lt (tgt := 11) hC dX8_addPerson_6 (by decide) (fun c6 => ?_) (fun c6 => ?_)
  · have hw := hw.1 c6
    refine z_aload_n hC dX8_addPerson_11 rfl rfl ?_
    refine z_getI hC FX8 4 lk_215 dX8_addPerson_12 (by decide) hw (fun x12 hw => ?_)
    refine z_istore (i := 4) (lv' := [some (.ref v0), some (.int v1), some (.int v2), some (.int v3), some (.int x12), none]) hC dX8_addPerson_15 (by decide) (hok_v rfl rfl) rfl ?_
    refine z_aload_n hC dX8_addPerson_17 rfl rfl ?_
    refine z_dup hC rfl dX8_addPerson_18 ?_
    refine z_getI hC FX8 4 lk_215 dX8_addPerson_19 (by decide) hw (fun x19 hw => ?_)
    refine z_iconst hC ic_1 dX8_addPerson_22 ?_
    refine z_iadd hC dX8_addPerson_23 ?_
    refine z_putI hC FX8 4 lk_215 dX8_addPerson_24 (by decide) rfl rfl hw (fun S hw => ?_)
    refine z_aload_n hC dX8_addPerson_27 rfl rfl ?_
    refine z_getP hC FX8 5 lk_220 dX8_addPerson_28 (by decide) hw (fun x28 hw => ?_)
    refine z_iload hC dX8_addPerson_31 rfl ?_
    refine z_iload_n hC dX8_addPerson_33 rfl rfl ?_
    refine z_astI hC dX8_addPerson_34 hw (fun S hw => ?_)
    refine z_aload_n hC dX8_addPerson_35 rfl rfl ?_
    refine z_getP hC FX8 6 lk_223 dX8_addPerson_36 (by decide) hw (fun x36 hw => ?_)
    refine z_iload hC dX8_addPerson_39 rfl ?_
    refine z_iload_n hC dX8_addPerson_41 rfl rfl ?_
    refine z_astI hC dX8_addPerson_42 hw (fun S hw => ?_)
    refine z_aload_n hC dX8_addPerson_43 rfl rfl ?_
    refine z_getP hC FX8 7 lk_226 dX8_addPerson_44 (by decide) hw (fun x44 hw => ?_)
    refine z_iload hC dX8_addPerson_47 rfl ?_
    refine z_iconst hC ic_m1 dX8_addPerson_49 ?_
    refine z_astI hC dX8_addPerson_50 hw (fun S hw => ?_)
    refine z_aload_n hC dX8_addPerson_51 rfl rfl ?_
    refine z_getP hC FX8 8 lk_229 dX8_addPerson_52 (by decide) hw (fun x52 hw => ?_)
    refine z_iload hC dX8_addPerson_55 rfl ?_
    refine z_iconst hC ic_0 dX8_addPerson_57 ?_
    refine z_astI hC dX8_addPerson_58 hw (fun S hw => ?_)
    refine z_aload_n hC dX8_addPerson_59 rfl rfl ?_
    refine z_getP hC FX8 0 lk_201 dX8_addPerson_60 (by decide) hw (fun x60 hw => ?_)
    refine z_getP hC FX2 3 lk_175 dX8_addPerson_63 (by decide) hw (fun x63 hw => ?_)
    refine z_iload hC dX8_addPerson_66 rfl ?_
    refine z_iload_n hC dX8_addPerson_68 rfl rfl ?_
    refine z_astI hC dX8_addPerson_69 hw (fun S hw => ?_)
    refine z_aload_n hC dX8_addPerson_70 rfl rfl ?_
    refine z_getP hC FX8 0 lk_201 dX8_addPerson_71 (by decide) hw (fun x71 hw => ?_)
    refine z_dup hC rfl dX8_addPerson_74 ?_
    refine z_getI hC FX2 4 lk_179 dX8_addPerson_75 (by decide) hw (fun x75 hw => ?_)
    refine z_iconst hC ic_1 dX8_addPerson_78 ?_
    refine z_iload hC dX8_addPerson_79 rfl ?_
    refine z_ishl hC dX8_addPerson_81 ?_
    refine z_iconst hC ic_m1 dX8_addPerson_82 ?_
    refine z_ixor hC dX8_addPerson_83 ?_
    refine z_iand hC dX8_addPerson_84 ?_
    refine z_putI hC FX2 4 lk_179 dX8_addPerson_85 (by decide) rfl rfl hw (fun S hw => ?_)
    refine z_iconst hC ic_0 dX8_addPerson_88 ?_
    refine z_istore (i := 5) (lv' := [some (.ref v0), some (.int v1), some (.int v2), some (.int v3), some (.int x12), some (.int 0)]) hC dX8_addPerson_89 (by decide) (hok_v rfl rfl) rfl ?_
    refine z_mask (lv' := [some (.ref v0), none, none, none, some (.int x12), some (.int 0)]) [true, false, false, false, true, true] rfl ?_
    obtain ⟨n91, hw⟩ := hw
    exact t_X8_addPerson_b91 hC hr hlk hnm n91 hw
  · have hw := hw.2 c6
    refine z_iconst hC ic_m1 dX8_addPerson_9 ?_
    exact z_iret hC hr hlk dX8_addPerson_10 ⟨_, rfl, hw⟩
end
section
variable {p : Program} {l : Launch} {e : Env} {R : Room} {s : State} {m : MethodId} {args : Array Value} {below : List Frame} {meth : Method} {c : Code} {G : hG} {B mc ms : Nat}
def w_X8_addLaw (q : Int32 → hS → Prop) (S : hS) (v0 : Nat) (v1 : Nat) : Prop := gI S v0 8 14 (fun x1 => (x1 < 6 → gP S v0 8 15 (fun x12 => gI S v0 8 14 (fun x16 => stR S 5 x12 x16 (some v1) 10 (fun S => gI S v0 8 14 (fun x23 => pI S v0 8 14 (x23 + 1) (fun S => gI S v0 8 14 (fun x32 => q (x32 - 1) S))))))) ∧ (¬ x1 < 6 → q (-1) S))
set_option maxRecDepth 100000 in
set_option maxHeartbeats 4000000 in
theorem c_X8_addLaw (l : Launch) (G : hG) (B : Nat) (S : hS) (v0 : Nat) (v1 : Nat) (q : Int32 → hS → Prop) : Met l yX8_addLaw (hws yX8_addLaw cX8_addLaw 2 (Option.some FieldType.int)) ({ frames := 1, cells := 0, slots := 0, locals := 60 }) (hPc G B S [.ref v0, .ref v1] (w_X8_addLaw q S v0 v1)) (hQ G B (iP q)) (0) (0) (fun r => B ≤ r) := by
  refine hMet (rm := { frames := 1, cells := 0, slots := 0, locals := 60 }) (lv := [some (.ref v0), some (.ref v1)]) (own := RX8) (fr := 1) (lo := 60) (by decide) rfl rfl rfl (Nat.le_of_ble_eq_true rfl) rfl (fun hw p e R s m args below meth c hC hr hlk hnm => ?_)
  unfold w_X8_addLaw at hw
  refine z_aload_n hC dX8_addLaw_0 rfl rfl ?_
  refine z_getI hC FX8 14 lk_242 dX8_addLaw_1 (by decide) hw (fun x1 hw => ?_)
  refine z_bipush hC bi_6 dX8_addLaw_4 ?_
  refine z_icmp_lt (tgt := 11) hC dX8_addLaw_6 (by decide) (fun c6 => ?_) (fun c6 => ?_)
  · have hw := hw.1 c6
    refine z_aload_n hC dX8_addLaw_11 rfl rfl ?_
    refine z_getP hC FX8 15 lk_244 dX8_addLaw_12 (by decide) hw (fun x12 hw => ?_)
    refine z_aload_n hC dX8_addLaw_15 rfl rfl ?_
    refine z_getI hC FX8 14 lk_242 dX8_addLaw_16 (by decide) hw (fun x16 hw => ?_)
    refine z_aload_n hC dX8_addLaw_19 rfl rfl ?_
    refine z_stR (x := (some v1)) (kd := 5) (ci := 10) hC dX8_addLaw_20 hw rfl rfl (fun S hw => ?_)
    refine z_aload_n hC dX8_addLaw_21 rfl rfl ?_
    refine z_dup hC rfl dX8_addLaw_22 ?_
    refine z_getI hC FX8 14 lk_242 dX8_addLaw_23 (by decide) hw (fun x23 hw => ?_)
    refine z_iconst hC ic_1 dX8_addLaw_26 ?_
    refine z_iadd hC dX8_addLaw_27 ?_
    refine z_putI hC FX8 14 lk_242 dX8_addLaw_28 (by decide) rfl rfl hw (fun S hw => ?_)
    refine z_aload_n hC dX8_addLaw_31 rfl rfl ?_
    refine z_getI hC FX8 14 lk_242 dX8_addLaw_32 (by decide) hw (fun x32 hw => ?_)
    refine z_iconst hC ic_1 dX8_addLaw_35 ?_
    refine z_isub hC dX8_addLaw_36 ?_
    exact z_iret hC hr hlk dX8_addLaw_37 ⟨_, rfl, hw⟩
  · have hw := hw.2 c6
    refine z_iconst hC ic_m1 dX8_addLaw_9 ?_
    exact z_iret hC hr hlk dX8_addLaw_10 ⟨_, rfl, hw⟩
end
section
variable {p : Program} {l : Launch} {e : Env} {R : Room} {s : State} {m : MethodId} {args : Array Value} {below : List Frame} {meth : Method} {c : Code} {G : hG} {B mc ms : Nat}
def w_X8_usedOf (q : Int32 → hS → Prop) (S : hS) (v0 : Nat) (v1 : Int32) (v2 : Int32) : Prop := oK S v0 8 ∧ w_X8_hasPerson (fun x2 S => (x2 = 0 → q 0 S) ∧ (¬ x2 = 0 → oK S v0 8 ∧ w_X8_hasHouse (fun x10 S => (x10 = 0 → q 0 S) ∧ (¬ x10 = 0 → gP S v0 8 0 (fun x17 => gP S x17 2 1 (fun x20 => w_X11_slot (fun x25 S => aI S x20 x25 (fun x28 => q x28 S)) S v1 v2)))) S v0 v2)) S v0 v1
set_option maxRecDepth 100000 in
set_option maxHeartbeats 4000000 in
theorem c_X8_usedOf (l : Launch) (G : hG) (B : Nat) (S : hS) (v0 : Nat) (v1 : Int32) (v2 : Int32) (q : Int32 → hS → Prop) : Met l yX8_usedOf (hws yX8_usedOf cX8_usedOf 3 (Option.some FieldType.int)) ({ frames := 2, cells := 0, slots := 0, locals := 81 }) (hPc G B S [.ref v0, .int v1, .int v2] (w_X8_usedOf q S v0 v1 v2)) (hQ G B (iP q)) (0) (0) (fun r => B ≤ r) := by
  refine hMet (rm := { frames := 2, cells := 0, slots := 0, locals := 81 }) (lv := [some (.ref v0), some (.int v1), some (.int v2)]) (own := RX8) (fr := 2) (lo := 81) (by decide) rfl rfl rfl (Nat.le_of_ble_eq_true rfl) rfl (fun hw p e R s m args below meth c hC hr hlk hnm => ?_)
  unfold w_X8_usedOf at hw
  refine z_aload_n hC dX8_usedOf_0 rfl rfl ?_
  refine z_iload_n hC dX8_usedOf_1 rfl rfl ?_
  refine z_callV (ku' := 0) (kv' := 0) (n := 1) (As := [.int v1]) (st := []) hC (c_X8_hasPerson l G B S v0 v1 _) hw.2 hw.1 rfl lk_612 lk_613 lk_614 lk_122 lk_615 hd_X8_hasPerson rfl rfl (Nat.le_of_ble_eq_true rfl) (Nat.le_of_ble_eq_true rfl) rfl (Nat.le_of_ble_eq_true rfl) dX8_usedOf_2 (Nat.le_refl 0) (Nat.le_refl 0) (kI (fun x2 S hw => ?_))
  refine z_if_eq (tgt := 32) hC dX8_usedOf_5 (by decide) (fun c5 => ?_) (fun c5 => ?_)
  · have hw := hw.1 c5
    refine z_iconst hC ic_0 dX8_usedOf_32 ?_
    exact z_iret hC hr hlk dX8_usedOf_33 ⟨_, rfl, hw⟩
  · have hw := hw.2 c5
    refine z_aload_n hC dX8_usedOf_8 rfl rfl ?_
    refine z_iload_n hC dX8_usedOf_9 rfl rfl ?_
    refine z_callV (ku' := 0) (kv' := 0) (n := 1) (As := [.int v2]) (st := []) hC (c_X8_hasHouse l G B S v0 v2 _) hw.2 hw.1 rfl lk_616 lk_601 lk_602 lk_122 lk_603 hd_X8_hasHouse rfl rfl (Nat.le_of_ble_eq_true rfl) (Nat.le_of_ble_eq_true rfl) rfl (Nat.le_of_ble_eq_true rfl) dX8_usedOf_10 (Nat.le_refl 0) (Nat.le_refl 0) (kI (fun x10 S hw => ?_))
    refine z_if_eq (tgt := 32) hC dX8_usedOf_13 (by decide) (fun c13 => ?_) (fun c13 => ?_)
    · have hw := hw.1 c13
      refine z_iconst hC ic_0 dX8_usedOf_32 ?_
      exact z_iret hC hr hlk dX8_usedOf_33 ⟨_, rfl, hw⟩
    · have hw := hw.2 c13
      refine z_aload_n hC dX8_usedOf_16 rfl rfl ?_
      refine z_getP hC FX8 0 lk_201 dX8_usedOf_17 (by decide) hw (fun x17 hw => ?_)
      refine z_getP hC FX2 1 lk_167 dX8_usedOf_20 (by decide) hw (fun x20 hw => ?_)
      refine z_iload_n hC dX8_usedOf_23 rfl rfl ?_
      refine z_iload_n hC dX8_usedOf_24 rfl rfl ?_
      refine z_callSN (ku' := 0) (kv' := 0) (n := 2) (As := [.int v1, .int v2]) (st := [.ref x20]) (host := "BellHeirs") hC (c_X11_slot l G B S v1 v2 _) hw (by decide +kernel) lk_590 lk_121 lk_591 hd_X11_slot.2 rfl rfl (Nat.le_of_ble_eq_true rfl) (Nat.le_of_ble_eq_true rfl) rfl (Nat.le_of_ble_eq_true rfl) dX8_usedOf_25 (Nat.le_refl 0) (Nat.le_refl 0) (kI (fun x25 S hw => ?_))
      refine z_aldI hC dX8_usedOf_28 hw (fun x28 hw => ?_)
      refine z_goto (tgt := 33) hC dX8_usedOf_29 (by decide) ?_
      exact z_iret hC hr hlk dX8_usedOf_33 ⟨_, rfl, hw⟩
end
section
variable {p : Program} {l : Launch} {e : Env} {R : Room} {s : State} {m : MethodId} {args : Array Value} {below : List Frame} {meth : Method} {c : Code} {G : hG} {B mc ms : Nat}
def w_X8_allRightsTo_b4 (q : Int32 → hS → Prop) : Nat → hS → (Nat) → (Int32) → (Int32) → (Int32) → Prop
  | 0, _, _, _, _, _ => False
  | n + 1, S, v0, v1, v2, v3 => gI S v0 8 4 (fun x6 => (x6 ≤ v3 → q v2 S) ∧ (¬ x6 ≤ v3 → oK S v0 8 ∧ w_X8_rightsOf (fun x16 S => ∀ y20 : Int32, y20 = (v2 + x16) → ∀ y21 : Int32, y21 = v3 + 1 → w_X8_allRightsTo_b4 q n S v0 v1 y20 y21) S v0 v3 v1))
set_option maxRecDepth 100000 in
set_option maxHeartbeats 4000000 in
theorem t_X8_allRightsTo_b4 (hC : zC p R s m args c cX8_allRightsTo 4 RX8 G B mc ms 3 103) (hr : meth.sig.returnType = (Option.some FieldType.int)) (hlk : meth.locks = false) (hnm : meth.name = "allRightsTo") {q : Int32 → hS → Prop} (n : Nat) : ∀ {S : hS} {v0 : Nat} {v1 : Int32} {v2 : Int32} {v3 : Int32} (hw : w_X8_allRightsTo_b4 q n S v0 v1 v2 v3), Z p l e R s m args below meth c (MQ below (hQ G B (iP q)) args s mc ms (fun r => B ≤ r)) G B mc ms 4 S 0 0 4 [some (.ref v0), some (.int v1), some (.int v2), some (.int v3)] [] := by
  induction n with
  | zero => intro S v0 v1 v2 v3 hw; exact (by rw [w_X8_allRightsTo_b4] at hw; exact hw.elim)
  | succ n ih =>
    intro S v0 v1 v2 v3 hw
    rw [w_X8_allRightsTo_b4] at hw
    refine z_iload_n hC dX8_allRightsTo_4 rfl rfl ?_
    refine z_aload_n hC dX8_allRightsTo_5 rfl rfl ?_
    refine z_getI hC FX8 4 lk_215 dX8_allRightsTo_6 (by decide) hw (fun x6 hw => ?_)
    refine z_icmp_ge (tgt := 27) hC dX8_allRightsTo_9 (by decide) (fun c9 => ?_) (fun c9 => ?_)
    · have hw := hw.1 c9
      refine z_iload_n hC dX8_allRightsTo_27 rfl rfl ?_
      exact z_iret hC hr hlk dX8_allRightsTo_28 ⟨_, rfl, hw⟩
    · have hw := hw.2 c9
      refine z_iload_n hC dX8_allRightsTo_12 rfl rfl ?_
      refine z_aload_n hC dX8_allRightsTo_13 rfl rfl ?_
      refine z_iload_n hC dX8_allRightsTo_14 rfl rfl ?_
      refine z_iload_n hC dX8_allRightsTo_15 rfl rfl ?_
      refine z_callV (ku' := 0) (kv' := 0) (n := 2) (As := [.int v3, .int v1]) (st := [.int v2]) hC (c_X8_rightsOf l G B S v0 v3 v1 _) hw.2 hw.1 rfl lk_608 lk_609 lk_610 lk_122 lk_611 hd_X8_rightsOf rfl rfl (Nat.le_of_ble_eq_true rfl) (Nat.le_of_ble_eq_true rfl) rfl (Nat.le_of_ble_eq_true rfl) dX8_allRightsTo_16 (Nat.le_refl 0) (Nat.le_refl 0) (kI (fun x16 S hw => ?_))
      refine z_iadd hC dX8_allRightsTo_19 ?_
      refine z_nmI (fun y20 e20 => ?_)
      have hw := hw y20 e20
      refine z_istore_n (i := 2) (lv' := [some (.ref v0), some (.int v1), some (.int y20), some (.int v3)]) hC rfl dX8_allRightsTo_20 (by decide) (hok_v rfl rfl) rfl ?_
      refine z_inc (i := 3) hC ic_1 dX8_allRightsTo_21 rfl (by decide) (hok_v rfl rfl) (fun y21 e21 => ?_)
      have hw := hw y21 e21
      refine z_goto (tgt := 4) hC dX8_allRightsTo_24 (by decide) ?_
      refine z_mask (lv' := [some (.ref v0), some (.int v1), some (.int y20), some (.int y21)]) [true, true, true, true] rfl ?_
      exact ih hw
def w_X8_allRightsTo (q : Int32 → hS → Prop) (S : hS) (v0 : Nat) (v1 : Int32) : Prop := (∃ n4 : Nat, w_X8_allRightsTo_b4 q n4 S v0 v1 0 0)
set_option maxRecDepth 100000 in
set_option maxHeartbeats 4000000 in
theorem c_X8_allRightsTo (l : Launch) (G : hG) (B : Nat) (S : hS) (v0 : Nat) (v1 : Int32) (q : Int32 → hS → Prop) : Met l yX8_allRightsTo (hws yX8_allRightsTo cX8_allRightsTo 4 (Option.some FieldType.int)) ({ frames := 3, cells := 0, slots := 0, locals := 103 }) (hPc G B S [.ref v0, .int v1] (w_X8_allRightsTo q S v0 v1)) (hQ G B (iP q)) (0) (0) (fun r => B ≤ r) := by
  refine hMet (rm := { frames := 3, cells := 0, slots := 0, locals := 103 }) (lv := [some (.ref v0), some (.int v1), none, none]) (own := RX8) (fr := 3) (lo := 103) (by decide) rfl rfl rfl (Nat.le_of_ble_eq_true rfl) rfl (fun hw p e R s m args below meth c hC hr hlk hnm => ?_)
  unfold w_X8_allRightsTo at hw
  refine z_iconst hC ic_0 dX8_allRightsTo_0 ?_
  refine z_istore_n (i := 2) (lv' := [some (.ref v0), some (.int v1), some (.int 0), none]) hC rfl dX8_allRightsTo_1 (by decide) (hok_v rfl rfl) rfl ?_
  refine z_iconst hC ic_0 dX8_allRightsTo_2 ?_
  refine z_istore_n (i := 3) (lv' := [some (.ref v0), some (.int v1), some (.int 0), some (.int 0)]) hC rfl dX8_allRightsTo_3 (by decide) (hok_v rfl rfl) rfl ?_
  refine z_mask (lv' := [some (.ref v0), some (.int v1), some (.int 0), some (.int 0)]) [true, true, true, true] rfl ?_
  obtain ⟨n4, hw⟩ := hw
  exact t_X8_allRightsTo_b4 hC hr hlk hnm n4 hw
end
section
variable {p : Program} {l : Launch} {e : Env} {R : Room} {s : State} {m : MethodId} {args : Array Value} {below : List Frame} {meth : Method} {c : Code} {G : hG} {B mc ms : Nat}
def w_X8_couldWalk_b9 (q : Int32 → hS → Prop) : Nat → hS → (Nat) → (Int32) → (Int32) → Prop
  | 0, _, _, _, _ => False
  | n + 1, S, v0, v2, v3 => gI S v0 8 9 (fun x11 => (x11 ≤ v3 → q 1 S) ∧ (¬ x11 ≤ v3 → gP S v0 8 2 (fun x18 => gP S v0 8 10 (fun x22 => aI S x22 v3 (fun x26 => aI S x18 x26 (fun x27 => w_X11_stepsBetween (fun x33 S => gP S v0 8 11 (fun x37 => aI S x37 v3 (fun x41 => (x33 ≤ x41 → ∀ y50 : Int32, y50 = v3 + 1 → w_X8_couldWalk_b9 q n S v0 x27 y50) ∧ (¬ x33 ≤ x41 → q 0 S)))) S v2 x27))))))
set_option maxRecDepth 100000 in
set_option maxHeartbeats 4000000 in
theorem t_X8_couldWalk_b9 (hC : zC p R s m args c cX8_couldWalk 5 RX8 G B mc ms 2 81) (hr : meth.sig.returnType = (Option.some FieldType.boolean)) (hlk : meth.locks = false) (hnm : meth.name = "couldWalk") {q : Int32 → hS → Prop} (n : Nat) : ∀ {S : hS} {v0 : Nat} {v2 : Int32} {v3 : Int32} (hw : w_X8_couldWalk_b9 q n S v0 v2 v3), Z p l e R s m args below meth c (MQ below (hQ G B (iP q)) args s mc ms (fun r => B ≤ r)) G B mc ms 5 S 0 0 9 [some (.ref v0), none, some (.int v2), some (.int v3), none] [] := by
  induction n with
  | zero => intro S v0 v2 v3 hw; exact (by rw [w_X8_couldWalk_b9] at hw; exact hw.elim)
  | succ n ih =>
    intro S v0 v2 v3 hw
    rw [w_X8_couldWalk_b9] at hw
    refine z_iload_n hC dX8_couldWalk_9 rfl rfl ?_
    refine z_aload_n hC dX8_couldWalk_10 rfl rfl ?_
    refine z_getI hC FX8 9 lk_231 dX8_couldWalk_11 (by decide) hw (fun x11 hw => ?_)
    refine z_icmp_ge (tgt := 56) hC dX8_couldWalk_14 (by decide) (fun c14 => ?_) (fun c14 => ?_)
    · have hw := hw.1 c14
      refine z_iconst hC ic_1 dX8_couldWalk_56 ?_
      exact z_zret hC hr hlk (hz01 (Or.inr rfl)).1 dX8_couldWalk_57 ⟨_, rfl, hw⟩
    · have hw := hw.2 c14
      refine z_aload_n hC dX8_couldWalk_17 rfl rfl ?_
      refine z_getP hC FX8 2 lk_209 dX8_couldWalk_18 (by decide) hw (fun x18 hw => ?_)
      refine z_aload_n hC dX8_couldWalk_21 rfl rfl ?_
      refine z_getP hC FX8 10 lk_233 dX8_couldWalk_22 (by decide) hw (fun x22 hw => ?_)
      refine z_iload_n hC dX8_couldWalk_25 rfl rfl ?_
      refine z_aldI hC dX8_couldWalk_26 hw (fun x26 hw => ?_)
      refine z_aldI hC dX8_couldWalk_27 hw (fun x27 hw => ?_)
      refine z_istore (i := 4) (lv' := [some (.ref v0), none, some (.int v2), some (.int v3), some (.int x27)]) hC dX8_couldWalk_28 (by decide) (hok_v rfl rfl) rfl ?_
      refine z_iload_n hC dX8_couldWalk_30 rfl rfl ?_
      refine z_iload hC dX8_couldWalk_31 rfl ?_
      refine z_callSN (ku' := 0) (kv' := 0) (n := 2) (As := [.int v2, .int x27]) (st := []) (host := "BellHeirs") hC (c_X11_stepsBetween l G B S v2 x27 _) hw (by decide +kernel) lk_1147 lk_121 lk_1148 hd_X11_stepsBetween.2 rfl rfl (Nat.le_of_ble_eq_true rfl) (Nat.le_of_ble_eq_true rfl) rfl (Nat.le_of_ble_eq_true rfl) dX8_couldWalk_33 (Nat.le_refl 0) (Nat.le_refl 0) (kI (fun x33 S hw => ?_))
      refine z_aload_n hC dX8_couldWalk_36 rfl rfl ?_
      refine z_getP hC FX8 11 lk_235 dX8_couldWalk_37 (by decide) hw (fun x37 hw => ?_)
      refine z_iload_n hC dX8_couldWalk_40 rfl rfl ?_
      refine z_aldI hC dX8_couldWalk_41 hw (fun x41 hw => ?_)
      refine z_icmp_le (tgt := 47) hC dX8_couldWalk_42 (by decide) (fun c42 => ?_) (fun c42 => ?_)
      · have hw := hw.1 c42
        refine z_iload hC dX8_couldWalk_47 rfl ?_
        refine z_istore_n (i := 2) (lv' := [some (.ref v0), none, some (.int x27), some (.int v3), some (.int x27)]) hC rfl dX8_couldWalk_49 (by decide) (hok_n rfl) rfl ?_
        refine z_inc (i := 3) hC ic_1 dX8_couldWalk_50 rfl (by decide) (hok_v rfl rfl) (fun y50 e50 => ?_)
        have hw := hw y50 e50
        refine z_goto (tgt := 9) hC dX8_couldWalk_53 (by decide) ?_
        refine z_mask (lv' := [some (.ref v0), none, some (.int x27), some (.int y50), none]) [true, false, true, true, false] rfl ?_
        exact ih hw
      · have hw := hw.2 c42
        refine z_iconst hC ic_0 dX8_couldWalk_45 ?_
        exact z_zret hC hr hlk (hz01 (Or.inl rfl)).1 dX8_couldWalk_46 ⟨_, rfl, hw⟩
def w_X8_couldWalk (q : Int32 → hS → Prop) (S : hS) (v0 : Nat) (v1 : Int32) : Prop := gP S v0 8 5 (fun x1 => aI S x1 v1 (fun x5 => (∃ n9 : Nat, w_X8_couldWalk_b9 q n9 S v0 x5 0)))
set_option maxRecDepth 100000 in
set_option maxHeartbeats 4000000 in
theorem c_X8_couldWalk (l : Launch) (G : hG) (B : Nat) (S : hS) (v0 : Nat) (v1 : Int32) (q : Int32 → hS → Prop) : Met l yX8_couldWalk (hws yX8_couldWalk cX8_couldWalk 5 (Option.some FieldType.boolean)) ({ frames := 2, cells := 0, slots := 0, locals := 81 }) (hPc G B S [.ref v0, .int v1] (w_X8_couldWalk q S v0 v1)) (hQ G B (iP q)) (0) (0) (fun r => B ≤ r) := by
  refine hMet (rm := { frames := 2, cells := 0, slots := 0, locals := 81 }) (lv := [some (.ref v0), some (.int v1), none, none, none]) (own := RX8) (fr := 2) (lo := 81) (by decide) rfl rfl rfl (Nat.le_of_ble_eq_true rfl) rfl (fun hw p e R s m args below meth c hC hr hlk hnm => ?_)
  unfold w_X8_couldWalk at hw
  refine z_aload_n hC dX8_couldWalk_0 rfl rfl ?_
  refine z_getP hC FX8 5 lk_220 dX8_couldWalk_1 (by decide) hw (fun x1 hw => ?_)
  refine z_iload_n hC dX8_couldWalk_4 rfl rfl ?_
  refine z_aldI hC dX8_couldWalk_5 hw (fun x5 hw => ?_)
  refine z_istore_n (i := 2) (lv' := [some (.ref v0), some (.int v1), some (.int x5), none, none]) hC rfl dX8_couldWalk_6 (by decide) (hok_v rfl rfl) rfl ?_
  refine z_iconst hC ic_0 dX8_couldWalk_7 ?_
  refine z_istore_n (i := 3) (lv' := [some (.ref v0), some (.int v1), some (.int x5), some (.int 0), none]) hC rfl dX8_couldWalk_8 (by decide) (hok_v rfl rfl) rfl ?_
  refine z_mask (lv' := [some (.ref v0), none, some (.int x5), some (.int 0), none]) [true, false, true, true, false] rfl ?_
  obtain ⟨n9, hw⟩ := hw
  exact t_X8_couldWalk_b9 hC hr hlk hnm n9 hw
end
section
variable {p : Program} {l : Launch} {e : Env} {R : Room} {s : State} {m : MethodId} {args : Array Value} {below : List Frame} {meth : Method} {c : Code} {G : hG} {B mc ms : Nat}
def w_X8_hasRingsForClues_b38 (q : Int32 → hS → Prop) (K2 : hS → (Nat) → (Int32) → (Int32) → Prop) (K15 : hS → (Nat) → (Int32) → (Int32) → (Int32) → (Int32) → Prop) (S : hS) (v0 : Nat) (v1 : Int32) (v2 : Int32) (v3 : Int32) (v4 : Int32) : Prop := ∀ y38 : Int32, y38 = v4 + 1 → K15 S v0 v1 v2 v3 y38
set_option maxRecDepth 100000 in
set_option maxHeartbeats 4000000 in
theorem t_X8_hasRingsForClues_b38 (hC : zC p R s m args c cX8_hasRingsForClues 5 RX8 G B mc ms 3 103) (hr : meth.sig.returnType = (Option.some FieldType.boolean)) (hlk : meth.locks = false) (hnm : meth.name = "hasRingsForClues") {q : Int32 → hS → Prop} {K2 : hS → (Nat) → (Int32) → (Int32) → Prop} (hK2 : ∀ {S : hS} {v0 : Nat} {v1 : Int32} {v2 : Int32}, K2 S v0 v1 v2 → Z p l e R s m args below meth c (MQ below (hQ G B (iP q)) args s mc ms (fun r => B ≤ r)) G B mc ms 5 S 0 0 2 [some (.ref v0), some (.int v1), some (.int v2), none, none] []) {K15 : hS → (Nat) → (Int32) → (Int32) → (Int32) → (Int32) → Prop} (hK15 : ∀ {S : hS} {v0 : Nat} {v1 : Int32} {v2 : Int32} {v3 : Int32} {v4 : Int32}, K15 S v0 v1 v2 v3 v4 → Z p l e R s m args below meth c (MQ below (hQ G B (iP q)) args s mc ms (fun r => B ≤ r)) G B mc ms 5 S 0 0 15 [some (.ref v0), some (.int v1), some (.int v2), some (.int v3), some (.int v4)] []) {S : hS} {v0 : Nat} {v1 : Int32} {v2 : Int32} {v3 : Int32} {v4 : Int32} (hw : w_X8_hasRingsForClues_b38 q K2 K15 S v0 v1 v2 v3 v4) : Z p l e R s m args below meth c (MQ below (hQ G B (iP q)) args s mc ms (fun r => B ≤ r)) G B mc ms 5 S 0 0 38 [some (.ref v0), some (.int v1), some (.int v2), some (.int v3), some (.int v4)] [] := by
  unfold w_X8_hasRingsForClues_b38 at hw
  refine z_inc (i := 4) hC ic_1 dX8_hasRingsForClues_38 rfl (by decide) (hok_v rfl rfl) (fun y38 e38 => ?_)
  have hw := hw y38 e38
  refine z_goto (tgt := 15) hC dX8_hasRingsForClues_41 (by decide) ?_
  refine z_mask (lv' := [some (.ref v0), some (.int v1), some (.int v2), some (.int v3), some (.int y38)]) [true, true, true, true, true] rfl ?_
  exact hK15 hw
def w_X8_hasRingsForClues_b15 (q : Int32 → hS → Prop) (K2 : hS → (Nat) → (Int32) → (Int32) → Prop) : Nat → hS → (Nat) → (Int32) → (Int32) → (Int32) → (Int32) → Prop
  | 0, _, _, _, _, _, _ => False
  | n + 1, S, v0, v1, v2, v3, v4 => gI S v0 8 9 (fun x18 => (x18 ≤ v4 → oK S v0 8 ∧ w_X8_leftOf (fun x47 S => (v3 ≤ x47 → ∀ y56 : Int32, y56 = v2 + 1 → K2 S v0 v1 y56) ∧ (¬ v3 ≤ x47 → q 0 S)) S v0 v1 v2) ∧ (¬ x18 ≤ v4 → gP S v0 8 10 (fun x25 => aI S x25 v4 (fun x30 => (¬ x30 = v2 → w_X8_hasRingsForClues_b38 q K2 (fun S v0 v1 v2 v3 v4 => w_X8_hasRingsForClues_b15 q K2 n S v0 v1 v2 v3 v4) S v0 v1 v2 v3 v4) ∧ (x30 = v2 → ∀ y35 : Int32, y35 = v3 + 1 → w_X8_hasRingsForClues_b38 q K2 (fun S v0 v1 v2 v3 v4 => w_X8_hasRingsForClues_b15 q K2 n S v0 v1 v2 v3 v4) S v0 v1 v2 y35 v4)))))
set_option maxRecDepth 100000 in
set_option maxHeartbeats 4000000 in
theorem t_X8_hasRingsForClues_b15 (hC : zC p R s m args c cX8_hasRingsForClues 5 RX8 G B mc ms 3 103) (hr : meth.sig.returnType = (Option.some FieldType.boolean)) (hlk : meth.locks = false) (hnm : meth.name = "hasRingsForClues") {q : Int32 → hS → Prop} {K2 : hS → (Nat) → (Int32) → (Int32) → Prop} (hK2 : ∀ {S : hS} {v0 : Nat} {v1 : Int32} {v2 : Int32}, K2 S v0 v1 v2 → Z p l e R s m args below meth c (MQ below (hQ G B (iP q)) args s mc ms (fun r => B ≤ r)) G B mc ms 5 S 0 0 2 [some (.ref v0), some (.int v1), some (.int v2), none, none] []) (n : Nat) : ∀ {S : hS} {v0 : Nat} {v1 : Int32} {v2 : Int32} {v3 : Int32} {v4 : Int32} (hw : w_X8_hasRingsForClues_b15 q K2 n S v0 v1 v2 v3 v4), Z p l e R s m args below meth c (MQ below (hQ G B (iP q)) args s mc ms (fun r => B ≤ r)) G B mc ms 5 S 0 0 15 [some (.ref v0), some (.int v1), some (.int v2), some (.int v3), some (.int v4)] [] := by
  induction n with
  | zero => intro S v0 v1 v2 v3 v4 hw; exact (by rw [w_X8_hasRingsForClues_b15] at hw; exact hw.elim)
  | succ n ih =>
    intro S v0 v1 v2 v3 v4 hw
    rw [w_X8_hasRingsForClues_b15] at hw
    refine z_iload hC dX8_hasRingsForClues_15 rfl ?_
    refine z_aload_n hC dX8_hasRingsForClues_17 rfl rfl ?_
    refine z_getI hC FX8 9 lk_231 dX8_hasRingsForClues_18 (by decide) hw (fun x18 hw => ?_)
    refine z_icmp_ge (tgt := 44) hC dX8_hasRingsForClues_21 (by decide) (fun c21 => ?_) (fun c21 => ?_)
    · have hw := hw.1 c21
      refine z_aload_n hC dX8_hasRingsForClues_44 rfl rfl ?_
      refine z_iload_n hC dX8_hasRingsForClues_45 rfl rfl ?_
      refine z_iload_n hC dX8_hasRingsForClues_46 rfl rfl ?_
      refine z_callV (ku' := 0) (kv' := 0) (n := 2) (As := [.int v1, .int v2]) (st := []) hC (c_X8_leftOf l G B S v0 v1 v2 _) hw.2 hw.1 rfl lk_1040 lk_628 lk_629 lk_122 lk_630 hd_X8_leftOf rfl rfl (Nat.le_of_ble_eq_true rfl) (Nat.le_of_ble_eq_true rfl) rfl (Nat.le_of_ble_eq_true rfl) dX8_hasRingsForClues_47 (Nat.le_refl 0) (Nat.le_refl 0) (kI (fun x47 S hw => ?_))
      refine z_iload_n hC dX8_hasRingsForClues_50 rfl rfl ?_
      refine z_icmp_ge (tgt := 56) hC dX8_hasRingsForClues_51 (by decide) (fun c51 => ?_) (fun c51 => ?_)
      · have hw := hw.1 c51
        refine z_inc (i := 2) hC ic_1 dX8_hasRingsForClues_56 rfl (by decide) (hok_v rfl rfl) (fun y56 e56 => ?_)
        have hw := hw y56 e56
        refine z_goto (tgt := 2) hC dX8_hasRingsForClues_59 (by decide) ?_
        refine z_mask (lv' := [some (.ref v0), some (.int v1), some (.int y56), none, none]) [true, true, true, false, false] rfl ?_
        exact hK2 hw
      · have hw := hw.2 c51
        refine z_iconst hC ic_0 dX8_hasRingsForClues_54 ?_
        exact z_zret hC hr hlk (hz01 (Or.inl rfl)).1 dX8_hasRingsForClues_55 ⟨_, rfl, hw⟩
    · have hw := hw.2 c21
      refine z_aload_n hC dX8_hasRingsForClues_24 rfl rfl ?_
      refine z_getP hC FX8 10 lk_233 dX8_hasRingsForClues_25 (by decide) hw (fun x25 hw => ?_)
      refine z_iload hC dX8_hasRingsForClues_28 rfl ?_
      refine z_aldI hC dX8_hasRingsForClues_30 hw (fun x30 hw => ?_)
      refine z_iload_n hC dX8_hasRingsForClues_31 rfl rfl ?_
      refine z_icmp_ne (tgt := 38) hC dX8_hasRingsForClues_32 (by decide) (fun c32 => ?_) (fun c32 => ?_)
      · have hw := hw.1 c32
        refine z_mask (lv' := [some (.ref v0), some (.int v1), some (.int v2), some (.int v3), some (.int v4)]) [true, true, true, true, true] rfl ?_
        exact t_X8_hasRingsForClues_b38 hC hr hlk hnm hK2 (fun hw => ih hw) hw
      · have hw := hw.2 c32
        refine z_inc (i := 3) hC ic_1 dX8_hasRingsForClues_35 rfl (by decide) (hok_v rfl rfl) (fun y35 e35 => ?_)
        have hw := hw y35 e35
        refine z_mask (lv' := [some (.ref v0), some (.int v1), some (.int v2), some (.int y35), some (.int v4)]) [true, true, true, true, true] rfl ?_
        exact t_X8_hasRingsForClues_b38 hC hr hlk hnm hK2 (fun hw => ih hw) hw
def w_X8_hasRingsForClues_b2 (q : Int32 → hS → Prop) : Nat → hS → (Nat) → (Int32) → (Int32) → Prop
  | 0, _, _, _, _ => False
  | n + 1, S, v0, v1, v2 => gI S v0 8 1 (fun x4 => (x4 ≤ v2 → q 1 S) ∧ (¬ x4 ≤ v2 → (∃ n15 : Nat, w_X8_hasRingsForClues_b15 q (fun S v0 v1 v2 => w_X8_hasRingsForClues_b2 q n S v0 v1 v2) n15 S v0 v1 v2 0 0)))
set_option maxRecDepth 100000 in
set_option maxHeartbeats 4000000 in
theorem t_X8_hasRingsForClues_b2 (hC : zC p R s m args c cX8_hasRingsForClues 5 RX8 G B mc ms 3 103) (hr : meth.sig.returnType = (Option.some FieldType.boolean)) (hlk : meth.locks = false) (hnm : meth.name = "hasRingsForClues") {q : Int32 → hS → Prop} (n : Nat) : ∀ {S : hS} {v0 : Nat} {v1 : Int32} {v2 : Int32} (hw : w_X8_hasRingsForClues_b2 q n S v0 v1 v2), Z p l e R s m args below meth c (MQ below (hQ G B (iP q)) args s mc ms (fun r => B ≤ r)) G B mc ms 5 S 0 0 2 [some (.ref v0), some (.int v1), some (.int v2), none, none] [] := by
  induction n with
  | zero => intro S v0 v1 v2 hw; exact (by rw [w_X8_hasRingsForClues_b2] at hw; exact hw.elim)
  | succ n ih =>
    intro S v0 v1 v2 hw
    rw [w_X8_hasRingsForClues_b2] at hw
    refine z_iload_n hC dX8_hasRingsForClues_2 rfl rfl ?_
    refine z_aload_n hC dX8_hasRingsForClues_3 rfl rfl ?_
    refine z_getI hC FX8 1 lk_205 dX8_hasRingsForClues_4 (by decide) hw (fun x4 hw => ?_)
    refine z_icmp_ge (tgt := 62) hC dX8_hasRingsForClues_7 (by decide) (fun c7 => ?_) (fun c7 => ?_)
    · have hw := hw.1 c7
      refine z_iconst hC ic_1 dX8_hasRingsForClues_62 ?_
      exact z_zret hC hr hlk (hz01 (Or.inr rfl)).1 dX8_hasRingsForClues_63 ⟨_, rfl, hw⟩
    · have hw := hw.2 c7
      refine z_iconst hC ic_0 dX8_hasRingsForClues_10 ?_
      refine z_istore_n (i := 3) (lv' := [some (.ref v0), some (.int v1), some (.int v2), some (.int 0), none]) hC rfl dX8_hasRingsForClues_11 (by decide) (hok_v rfl rfl) rfl ?_
      refine z_iconst hC ic_0 dX8_hasRingsForClues_12 ?_
      refine z_istore (i := 4) (lv' := [some (.ref v0), some (.int v1), some (.int v2), some (.int 0), some (.int 0)]) hC dX8_hasRingsForClues_13 (by decide) (hok_v rfl rfl) rfl ?_
      refine z_mask (lv' := [some (.ref v0), some (.int v1), some (.int v2), some (.int 0), some (.int 0)]) [true, true, true, true, true] rfl ?_
      obtain ⟨n15, hw⟩ := hw
      exact t_X8_hasRingsForClues_b15 hC hr hlk hnm (fun hw => ih hw) n15 hw
def w_X8_hasRingsForClues (q : Int32 → hS → Prop) (S : hS) (v0 : Nat) (v1 : Int32) : Prop := (∃ n2 : Nat, w_X8_hasRingsForClues_b2 q n2 S v0 v1 0)
set_option maxRecDepth 100000 in
set_option maxHeartbeats 4000000 in
theorem c_X8_hasRingsForClues (l : Launch) (G : hG) (B : Nat) (S : hS) (v0 : Nat) (v1 : Int32) (q : Int32 → hS → Prop) : Met l yX8_hasRingsForClues (hws yX8_hasRingsForClues cX8_hasRingsForClues 5 (Option.some FieldType.boolean)) ({ frames := 3, cells := 0, slots := 0, locals := 103 }) (hPc G B S [.ref v0, .int v1] (w_X8_hasRingsForClues q S v0 v1)) (hQ G B (iP q)) (0) (0) (fun r => B ≤ r) := by
  refine hMet (rm := { frames := 3, cells := 0, slots := 0, locals := 103 }) (lv := [some (.ref v0), some (.int v1), none, none, none]) (own := RX8) (fr := 3) (lo := 103) (by decide) rfl rfl rfl (Nat.le_of_ble_eq_true rfl) rfl (fun hw p e R s m args below meth c hC hr hlk hnm => ?_)
  unfold w_X8_hasRingsForClues at hw
  refine z_iconst hC ic_0 dX8_hasRingsForClues_0 ?_
  refine z_istore_n (i := 2) (lv' := [some (.ref v0), some (.int v1), some (.int 0), none, none]) hC rfl dX8_hasRingsForClues_1 (by decide) (hok_v rfl rfl) rfl ?_
  refine z_mask (lv' := [some (.ref v0), some (.int v1), some (.int 0), none, none]) [true, true, true, false, false] rfl ?_
  obtain ⟨n2, hw⟩ := hw
  exact t_X8_hasRingsForClues_b2 hC hr hlk hnm n2 hw
end
section
variable {p : Program} {l : Launch} {e : Env} {R : Room} {s : State} {m : MethodId} {args : Array Value} {below : List Frame} {meth : Method} {c : Code} {G : hG} {B mc ms : Nat}
def w_X8_suspects_b42 (q : Int32 → hS → Prop) (K4 : hS → (Nat) → (Int32) → (Int32) → Prop) (S : hS) (v0 : Nat) (v1 : Int32) (v2 : Int32) : Prop := ∀ y42 : Int32, y42 = v2 + 1 → K4 S v0 v1 y42
set_option maxRecDepth 100000 in
set_option maxHeartbeats 4000000 in
theorem t_X8_suspects_b42 (hC : zC p R s m args c cX8_suspects 3 RX8 G B mc ms 4 127) (hr : meth.sig.returnType = (Option.some FieldType.int)) (hlk : meth.locks = false) (hnm : meth.name = "suspects") {q : Int32 → hS → Prop} {K4 : hS → (Nat) → (Int32) → (Int32) → Prop} (hK4 : ∀ {S : hS} {v0 : Nat} {v1 : Int32} {v2 : Int32}, K4 S v0 v1 v2 → Z p l e R s m args below meth c (MQ below (hQ G B (iP q)) args s mc ms (fun r => B ≤ r)) G B mc ms 3 S 0 0 4 [some (.ref v0), some (.int v1), some (.int v2)] []) {S : hS} {v0 : Nat} {v1 : Int32} {v2 : Int32} (hw : w_X8_suspects_b42 q K4 S v0 v1 v2) : Z p l e R s m args below meth c (MQ below (hQ G B (iP q)) args s mc ms (fun r => B ≤ r)) G B mc ms 3 S 0 0 42 [some (.ref v0), some (.int v1), some (.int v2)] [] := by
  unfold w_X8_suspects_b42 at hw
  refine z_inc (i := 2) hC ic_1 dX8_suspects_42 rfl (by decide) (hok_v rfl rfl) (fun y42 e42 => ?_)
  have hw := hw y42 e42
  refine z_goto (tgt := 4) hC dX8_suspects_45 (by decide) ?_
  refine z_mask (lv' := [some (.ref v0), some (.int v1), some (.int y42)]) [true, true, true] rfl ?_
  exact hK4 hw
def w_X8_suspects_b4 (q : Int32 → hS → Prop) : Nat → hS → (Nat) → (Int32) → (Int32) → Prop
  | 0, _, _, _, _ => False
  | n + 1, S, v0, v1, v2 => gI S v0 8 4 (fun x6 => (x6 ≤ v2 → q v1 S) ∧ (¬ x6 ≤ v2 → oK S v0 8 ∧ w_X8_lives (fun x14 S => (x14 = 0 → w_X8_suspects_b42 q (fun S v0 v1 v2 => w_X8_suspects_b4 q n S v0 v1 v2) S v0 v1 v2) ∧ (¬ x14 = 0 → oK S v0 8 ∧ w_X8_couldWalk (fun x22 S => (x22 = 0 → w_X8_suspects_b42 q (fun S v0 v1 v2 => w_X8_suspects_b4 q n S v0 v1 v2) S v0 v1 v2) ∧ (¬ x22 = 0 → oK S v0 8 ∧ w_X8_hasRingsForClues (fun x30 S => (x30 = 0 → w_X8_suspects_b42 q (fun S v0 v1 v2 => w_X8_suspects_b4 q n S v0 v1 v2) S v0 v1 v2) ∧ (¬ x30 = 0 → ∀ y41 : Int32, y41 = (v1 ||| (1 <<< (v2 &&& 31))) → w_X8_suspects_b42 q (fun S v0 v1 v2 => w_X8_suspects_b4 q n S v0 v1 v2) S v0 y41 v2)) S v0 v2)) S v0 v2)) S v0 v2))
set_option maxRecDepth 100000 in
set_option maxHeartbeats 4000000 in
theorem t_X8_suspects_b4 (hC : zC p R s m args c cX8_suspects 3 RX8 G B mc ms 4 127) (hr : meth.sig.returnType = (Option.some FieldType.int)) (hlk : meth.locks = false) (hnm : meth.name = "suspects") {q : Int32 → hS → Prop} (n : Nat) : ∀ {S : hS} {v0 : Nat} {v1 : Int32} {v2 : Int32} (hw : w_X8_suspects_b4 q n S v0 v1 v2), Z p l e R s m args below meth c (MQ below (hQ G B (iP q)) args s mc ms (fun r => B ≤ r)) G B mc ms 3 S 0 0 4 [some (.ref v0), some (.int v1), some (.int v2)] [] := by
  induction n with
  | zero => intro S v0 v1 v2 hw; exact (by rw [w_X8_suspects_b4] at hw; exact hw.elim)
  | succ n ih =>
    intro S v0 v1 v2 hw
    rw [w_X8_suspects_b4] at hw
    refine z_iload_n hC dX8_suspects_4 rfl rfl ?_
    refine z_aload_n hC dX8_suspects_5 rfl rfl ?_
    refine z_getI hC FX8 4 lk_215 dX8_suspects_6 (by decide) hw (fun x6 hw => ?_)
    refine z_icmp_ge (tgt := 48) hC dX8_suspects_9 (by decide) (fun c9 => ?_) (fun c9 => ?_)
    · have hw := hw.1 c9
      refine z_iload_n hC dX8_suspects_48 rfl rfl ?_
      exact z_iret hC hr hlk dX8_suspects_49 ⟨_, rfl, hw⟩
    · have hw := hw.2 c9
      refine z_aload_n hC dX8_suspects_12 rfl rfl ?_
      refine z_iload_n hC dX8_suspects_13 rfl rfl ?_
      refine z_callV (ku' := 0) (kv' := 0) (n := 1) (As := [.int v2]) (st := []) hC (c_X8_lives l G B S v0 v2 _) hw.2 hw.1 rfl lk_1034 lk_676 lk_677 lk_122 lk_678 hd_X8_lives rfl rfl (Nat.le_of_ble_eq_true rfl) (Nat.le_of_ble_eq_true rfl) rfl (Nat.le_of_ble_eq_true rfl) dX8_suspects_14 (Nat.le_refl 0) (Nat.le_refl 0) (kI (fun x14 S hw => ?_))
      refine z_if_eq (tgt := 42) hC dX8_suspects_17 (by decide) (fun c17 => ?_) (fun c17 => ?_)
      · have hw := hw.1 c17
        refine z_mask (lv' := [some (.ref v0), some (.int v1), some (.int v2)]) [true, true, true] rfl ?_
        exact t_X8_suspects_b42 hC hr hlk hnm (fun hw => ih hw) hw
      · have hw := hw.2 c17
        refine z_aload_n hC dX8_suspects_20 rfl rfl ?_
        refine z_iload_n hC dX8_suspects_21 rfl rfl ?_
        refine z_callV (ku' := 0) (kv' := 0) (n := 1) (As := [.int v2]) (st := []) hC (c_X8_couldWalk l G B S v0 v2 _) hw.2 hw.1 rfl lk_1197 lk_1199 lk_33 lk_122 lk_1200 hd_X8_couldWalk rfl rfl (Nat.le_of_ble_eq_true rfl) (Nat.le_of_ble_eq_true rfl) rfl (Nat.le_of_ble_eq_true rfl) dX8_suspects_22 (Nat.le_refl 0) (Nat.le_refl 0) (kI (fun x22 S hw => ?_))
        refine z_if_eq (tgt := 42) hC dX8_suspects_25 (by decide) (fun c25 => ?_) (fun c25 => ?_)
        · have hw := hw.1 c25
          refine z_mask (lv' := [some (.ref v0), some (.int v1), some (.int v2)]) [true, true, true] rfl ?_
          exact t_X8_suspects_b42 hC hr hlk hnm (fun hw => ih hw) hw
        · have hw := hw.2 c25
          refine z_aload_n hC dX8_suspects_28 rfl rfl ?_
          refine z_iload_n hC dX8_suspects_29 rfl rfl ?_
          refine z_callV (ku' := 0) (kv' := 0) (n := 1) (As := [.int v2]) (st := []) hC (c_X8_hasRingsForClues l G B S v0 v2 _) hw.2 hw.1 rfl lk_1202 lk_1204 lk_34 lk_122 lk_1205 hd_X8_hasRingsForClues rfl rfl (Nat.le_of_ble_eq_true rfl) (Nat.le_of_ble_eq_true rfl) rfl (Nat.le_of_ble_eq_true rfl) dX8_suspects_30 (Nat.le_refl 0) (Nat.le_refl 0) (kI (fun x30 S hw => ?_))
          refine z_if_eq (tgt := 42) hC dX8_suspects_33 (by decide) (fun c33 => ?_) (fun c33 => ?_)
          · have hw := hw.1 c33
            refine z_mask (lv' := [some (.ref v0), some (.int v1), some (.int v2)]) [true, true, true] rfl ?_
            exact t_X8_suspects_b42 hC hr hlk hnm (fun hw => ih hw) hw
          · have hw := hw.2 c33
            refine z_iload_n hC dX8_suspects_36 rfl rfl ?_
            refine z_iconst hC ic_1 dX8_suspects_37 ?_
            refine z_iload_n hC dX8_suspects_38 rfl rfl ?_
            refine z_ishl hC dX8_suspects_39 ?_
            refine z_ior hC dX8_suspects_40 ?_
            refine z_nmI (fun y41 e41 => ?_)
            have hw := hw y41 e41
            refine z_istore_n (i := 1) (lv' := [some (.ref v0), some (.int y41), some (.int v2)]) hC rfl dX8_suspects_41 (by decide) (hok_v rfl rfl) rfl ?_
            refine z_mask (lv' := [some (.ref v0), some (.int y41), some (.int v2)]) [true, true, true] rfl ?_
            exact t_X8_suspects_b42 hC hr hlk hnm (fun hw => ih hw) hw
def w_X8_suspects (q : Int32 → hS → Prop) (S : hS) (v0 : Nat) : Prop := (∃ n4 : Nat, w_X8_suspects_b4 q n4 S v0 0 0)
set_option maxRecDepth 100000 in
set_option maxHeartbeats 4000000 in
theorem c_X8_suspects (l : Launch) (G : hG) (B : Nat) (S : hS) (v0 : Nat) (q : Int32 → hS → Prop) : Met l yX8_suspects (hws yX8_suspects cX8_suspects 3 (Option.some FieldType.int)) ({ frames := 4, cells := 0, slots := 0, locals := 127 }) (hPc G B S [.ref v0] (w_X8_suspects q S v0)) (hQ G B (iP q)) (0) (0) (fun r => B ≤ r) := by
  refine hMet (rm := { frames := 4, cells := 0, slots := 0, locals := 127 }) (lv := [some (.ref v0), none, none]) (own := RX8) (fr := 4) (lo := 127) (by decide) rfl rfl rfl (Nat.le_of_ble_eq_true rfl) rfl (fun hw p e R s m args below meth c hC hr hlk hnm => ?_)
  unfold w_X8_suspects at hw
  refine z_iconst hC ic_0 dX8_suspects_0 ?_
  refine z_istore_n (i := 1) (lv' := [some (.ref v0), some (.int 0), none]) hC rfl dX8_suspects_1 (by decide) (hok_v rfl rfl) rfl ?_
  refine z_iconst hC ic_0 dX8_suspects_2 ?_
  refine z_istore_n (i := 2) (lv' := [some (.ref v0), some (.int 0), some (.int 0)]) hC rfl dX8_suspects_3 (by decide) (hok_v rfl rfl) rfl ?_
  refine z_mask (lv' := [some (.ref v0), some (.int 0), some (.int 0)]) [true, true, true] rfl ?_
  obtain ⟨n4, hw⟩ := hw
  exact t_X8_suspects_b4 hC hr hlk hnm n4 hw
end
section
variable {p : Program} {l : Launch} {e : Env} {R : Room} {s : State} {m : MethodId} {args : Array Value} {below : List Frame} {meth : Method} {c : Code} {G : hG} {B mc ms : Nat}
def w_X8_remainAtMost_b46 (q : Int32 → hS → Prop) (K8 : hS → (Nat) → (Int32) → (Int32) → (Int32) → (Int32) → (Int32) → Prop) (S : hS) (v0 : Nat) (v1 : Int32) (v2 : Int32) (v3 : Int32) (v4 : Int32) (v5 : Int32) : Prop := ∀ y46 : Int32, y46 = v5 + 1 → K8 S v0 v1 v2 v3 v4 y46
set_option maxRecDepth 100000 in
set_option maxHeartbeats 4000000 in
theorem t_X8_remainAtMost_b46 (hC : zC p R s m args c cX8_remainAtMost 6 RX8 G B mc ms 3 103) (hr : meth.sig.returnType = (Option.some FieldType.int)) (hlk : meth.locks = false) (hnm : meth.name = "remainAtMost") {q : Int32 → hS → Prop} {K8 : hS → (Nat) → (Int32) → (Int32) → (Int32) → (Int32) → (Int32) → Prop} (hK8 : ∀ {S : hS} {v0 : Nat} {v1 : Int32} {v2 : Int32} {v3 : Int32} {v4 : Int32} {v5 : Int32}, K8 S v0 v1 v2 v3 v4 v5 → Z p l e R s m args below meth c (MQ below (hQ G B (iP q)) args s mc ms (fun r => B ≤ r)) G B mc ms 6 S 0 0 8 [some (.ref v0), some (.int v1), some (.int v2), some (.int v3), some (.int v4), some (.int v5)] []) {S : hS} {v0 : Nat} {v1 : Int32} {v2 : Int32} {v3 : Int32} {v4 : Int32} {v5 : Int32} (hw : w_X8_remainAtMost_b46 q K8 S v0 v1 v2 v3 v4 v5) : Z p l e R s m args below meth c (MQ below (hQ G B (iP q)) args s mc ms (fun r => B ≤ r)) G B mc ms 6 S 0 0 46 [some (.ref v0), some (.int v1), some (.int v2), some (.int v3), some (.int v4), some (.int v5)] [] := by
  unfold w_X8_remainAtMost_b46 at hw
  refine z_inc (i := 5) hC ic_1 dX8_remainAtMost_46 rfl (by decide) (hok_v rfl rfl) (fun y46 e46 => ?_)
  have hw := hw y46 e46
  refine z_goto (tgt := 8) hC dX8_remainAtMost_49 (by decide) ?_
  refine z_mask (lv' := [some (.ref v0), some (.int v1), some (.int v2), some (.int v3), some (.int v4), some (.int y46)]) [true, true, true, true, true, true] rfl ?_
  exact hK8 hw
def w_X8_remainAtMost_b8 (q : Int32 → hS → Prop) : Nat → hS → (Nat) → (Int32) → (Int32) → (Int32) → (Int32) → (Int32) → Prop
  | 0, _, _, _, _, _, _, _ => False
  | n + 1, S, v0, v1, v2, v3, v4, v5 => gI S v0 8 4 (fun x11 => (x11 ≤ v5 → q (if v3 < v4 then v4 else v3) S) ∧ (¬ x11 ≤ v5 → w_X11_hasBit (fun x20 S => (x20 = 0 → w_X8_remainAtMost_b46 q (fun S v0 v1 v2 v3 v4 v5 => w_X8_remainAtMost_b8 q n S v0 v1 v2 v3 v4 v5) S v0 v1 v2 v3 v4 v5) ∧ (¬ x20 = 0 → oK S v0 8 ∧ w_X8_leftOf (fun x30 S => (x30 < 1 → ∀ y43 : Int32, y43 = v4 + 1 → w_X8_remainAtMost_b46 q (fun S v0 v1 v2 v3 v4 v5 => w_X8_remainAtMost_b8 q n S v0 v1 v2 v3 v4 v5) S v0 v1 v2 v3 y43 v5) ∧ (¬ x30 < 1 → ∀ y37 : Int32, y37 = v3 + 1 → w_X8_remainAtMost_b46 q (fun S v0 v1 v2 v3 v4 v5 => w_X8_remainAtMost_b8 q n S v0 v1 v2 v3 v4 v5) S v0 v1 v2 y37 v4 v5)) S v0 v5 v2)) S v1 v5))
set_option maxRecDepth 100000 in
set_option maxHeartbeats 4000000 in
theorem t_X8_remainAtMost_b8 (hC : zC p R s m args c cX8_remainAtMost 6 RX8 G B mc ms 3 103) (hr : meth.sig.returnType = (Option.some FieldType.int)) (hlk : meth.locks = false) (hnm : meth.name = "remainAtMost") {q : Int32 → hS → Prop} (n : Nat) : ∀ {S : hS} {v0 : Nat} {v1 : Int32} {v2 : Int32} {v3 : Int32} {v4 : Int32} {v5 : Int32} (hw : w_X8_remainAtMost_b8 q n S v0 v1 v2 v3 v4 v5), Z p l e R s m args below meth c (MQ below (hQ G B (iP q)) args s mc ms (fun r => B ≤ r)) G B mc ms 6 S 0 0 8 [some (.ref v0), some (.int v1), some (.int v2), some (.int v3), some (.int v4), some (.int v5)] [] := by
  induction n with
  | zero => intro S v0 v1 v2 v3 v4 v5 hw; exact (by rw [w_X8_remainAtMost_b8] at hw; exact hw.elim)
  | succ n ih =>
    intro S v0 v1 v2 v3 v4 v5 hw
    rw [w_X8_remainAtMost_b8] at hw
    refine z_iload hC dX8_remainAtMost_8 rfl ?_
    refine z_aload_n hC dX8_remainAtMost_10 rfl rfl ?_
    refine z_getI hC FX8 4 lk_215 dX8_remainAtMost_11 (by decide) hw (fun x11 hw => ?_)
    refine z_icmp_ge (tgt := 52) hC dX8_remainAtMost_14 (by decide) (fun c14 => ?_) (fun c14 => ?_)
    · have hw := hw.1 c14
      refine z_iload_n hC dX8_remainAtMost_52 rfl rfl ?_
      refine z_iload hC dX8_remainAtMost_53 rfl ?_
      refine z_mmax hC lk_1214 lk_645 lk_134 lk_646 dX8_remainAtMost_55 (by decide) (Nat.le_of_ble_eq_true rfl) ?_
      exact z_iret hC hr hlk dX8_remainAtMost_58 ⟨_, rfl, hw⟩
    · have hw := hw.2 c14
      refine z_iload_n hC dX8_remainAtMost_17 rfl rfl ?_
      refine z_iload hC dX8_remainAtMost_18 rfl ?_
      refine z_callSN (ku' := 0) (kv' := 0) (n := 2) (As := [.int v1, .int v5]) (st := []) (host := "BellHeirs") hC (c_X11_hasBit l G B S v1 v5 _) hw (by decide +kernel) lk_680 lk_121 lk_681 hd_X11_hasBit.2 rfl rfl (Nat.le_of_ble_eq_true rfl) (Nat.le_of_ble_eq_true rfl) rfl (Nat.le_of_ble_eq_true rfl) dX8_remainAtMost_20 (Nat.le_refl 0) (Nat.le_refl 0) (kI (fun x20 S hw => ?_))
      refine z_if_eq (tgt := 46) hC dX8_remainAtMost_23 (by decide) (fun c23 => ?_) (fun c23 => ?_)
      · have hw := hw.1 c23
        refine z_mask (lv' := [some (.ref v0), some (.int v1), some (.int v2), some (.int v3), some (.int v4), some (.int v5)]) [true, true, true, true, true, true] rfl ?_
        exact t_X8_remainAtMost_b46 hC hr hlk hnm (fun hw => ih hw) hw
      · have hw := hw.2 c23
        refine z_aload_n hC dX8_remainAtMost_26 rfl rfl ?_
        refine z_iload hC dX8_remainAtMost_27 rfl ?_
        refine z_iload_n hC dX8_remainAtMost_29 rfl rfl ?_
        refine z_callV (ku' := 0) (kv' := 0) (n := 2) (As := [.int v5, .int v2]) (st := []) hC (c_X8_leftOf l G B S v0 v5 v2 _) hw.2 hw.1 rfl lk_1040 lk_628 lk_629 lk_122 lk_630 hd_X8_leftOf rfl rfl (Nat.le_of_ble_eq_true rfl) (Nat.le_of_ble_eq_true rfl) rfl (Nat.le_of_ble_eq_true rfl) dX8_remainAtMost_30 (Nat.le_refl 0) (Nat.le_refl 0) (kI (fun x30 S hw => ?_))
        refine z_iconst hC ic_1 dX8_remainAtMost_33 ?_
        refine z_icmp_lt (tgt := 43) hC dX8_remainAtMost_34 (by decide) (fun c34 => ?_) (fun c34 => ?_)
        · have hw := hw.1 c34
          refine z_inc (i := 4) hC ic_1 dX8_remainAtMost_43 rfl (by decide) (hok_v rfl rfl) (fun y43 e43 => ?_)
          have hw := hw y43 e43
          refine z_mask (lv' := [some (.ref v0), some (.int v1), some (.int v2), some (.int v3), some (.int y43), some (.int v5)]) [true, true, true, true, true, true] rfl ?_
          exact t_X8_remainAtMost_b46 hC hr hlk hnm (fun hw => ih hw) hw
        · have hw := hw.2 c34
          refine z_inc (i := 3) hC ic_1 dX8_remainAtMost_37 rfl (by decide) (hok_v rfl rfl) (fun y37 e37 => ?_)
          have hw := hw y37 e37
          refine z_goto (tgt := 46) hC dX8_remainAtMost_40 (by decide) ?_
          refine z_mask (lv' := [some (.ref v0), some (.int v1), some (.int v2), some (.int y37), some (.int v4), some (.int v5)]) [true, true, true, true, true, true] rfl ?_
          exact t_X8_remainAtMost_b46 hC hr hlk hnm (fun hw => ih hw) hw
def w_X8_remainAtMost (q : Int32 → hS → Prop) (S : hS) (v0 : Nat) (v1 : Int32) (v2 : Int32) : Prop := (∃ n8 : Nat, w_X8_remainAtMost_b8 q n8 S v0 v1 v2 0 0 0)
set_option maxRecDepth 100000 in
set_option maxHeartbeats 4000000 in
theorem c_X8_remainAtMost (l : Launch) (G : hG) (B : Nat) (S : hS) (v0 : Nat) (v1 : Int32) (v2 : Int32) (q : Int32 → hS → Prop) : Met l yX8_remainAtMost (hws yX8_remainAtMost cX8_remainAtMost 6 (Option.some FieldType.int)) ({ frames := 3, cells := 0, slots := 0, locals := 103 }) (hPc G B S [.ref v0, .int v1, .int v2] (w_X8_remainAtMost q S v0 v1 v2)) (hQ G B (iP q)) (0) (0) (fun r => B ≤ r) := by
  refine hMet (rm := { frames := 3, cells := 0, slots := 0, locals := 103 }) (lv := [some (.ref v0), some (.int v1), some (.int v2), none, none, none]) (own := RX8) (fr := 3) (lo := 103) (by decide) rfl rfl rfl (Nat.le_of_ble_eq_true rfl) rfl (fun hw p e R s m args below meth c hC hr hlk hnm => ?_)
  unfold w_X8_remainAtMost at hw
  refine z_iconst hC ic_0 dX8_remainAtMost_0 ?_
  refine z_istore_n (i := 3) (lv' := [some (.ref v0), some (.int v1), some (.int v2), some (.int 0), none, none]) hC rfl dX8_remainAtMost_1 (by decide) (hok_v rfl rfl) rfl ?_
  refine z_iconst hC ic_0 dX8_remainAtMost_2 ?_
  refine z_istore (i := 4) (lv' := [some (.ref v0), some (.int v1), some (.int v2), some (.int 0), some (.int 0), none]) hC dX8_remainAtMost_3 (by decide) (hok_v rfl rfl) rfl ?_
  refine z_iconst hC ic_0 dX8_remainAtMost_5 ?_
  refine z_istore (i := 5) (lv' := [some (.ref v0), some (.int v1), some (.int v2), some (.int 0), some (.int 0), some (.int 0)]) hC dX8_remainAtMost_6 (by decide) (hok_v rfl rfl) rfl ?_
  refine z_mask (lv' := [some (.ref v0), some (.int v1), some (.int v2), some (.int 0), some (.int 0), some (.int 0)]) [true, true, true, true, true, true] rfl ?_
  obtain ⟨n8, hw⟩ := hw
  exact t_X8_remainAtMost_b8 hC hr hlk hnm n8 hw
end
section
variable {p : Program} {l : Launch} {e : Env} {R : Room} {s : State} {m : MethodId} {args : Array Value} {below : List Frame} {meth : Method} {c : Code} {G : hG} {B mc ms : Nat}
def w_X9_init (q : hS → Prop) (S : hS) (v0 : Nat) : Prop := mkI S 400 400 (fun S o8 => pP S v0 9 0 o8 (fun S => pI S v0 9 1 0 (fun S => pI S v0 9 2 0 (fun S => pI S v0 9 3 0 (fun S => pI S v0 9 4 0 (fun S => pI S v0 9 5 0 (fun S => q S)))))))
set_option maxRecDepth 100000 in
set_option maxHeartbeats 4000000 in
theorem c_X9_init (l : Launch) (G : hG) (B : Nat) (S : hS) (v0 : Nat) (q : hS → Prop) : Met l yX9_init (hws yX9_init cX9_init 1 (Option.none : Option FieldType)) ({ frames := 1, cells := 1, slots := 400, locals := 60 }) (hPc G B S [.ref v0] (w_X9_init q S v0)) (hQ G B (vP q)) (1) (400) (fun r => B ≤ r) := by
  refine hMet (rm := { frames := 1, cells := 1, slots := 400, locals := 60 }) (lv := [some (.ref v0)]) (own := RX9) (fr := 1) (lo := 60) (by decide) rfl rfl rfl (Nat.le_of_ble_eq_true rfl) rfl (fun hw p e R s m args below meth c hC hr hlk hnm => ?_)
  unfold w_X9_init at hw
  refine z_less (ku' := 1) (kv' := 400) (Nat.le_refl _) (Nat.le_refl _) ?_
  refine z_aload_n hC dX9_init_0 rfl rfl ?_
  refine z_obj hC lk_310 lk_147 lk_148 dX9_init_1 (by decide) (Nat.le_of_ble_eq_true rfl) ?_
  refine z_aload_n hC dX9_init_4 rfl rfl ?_
  refine z_sipush hC si_400 dX9_init_5 ?_
  refine z_mkI (cap := 400) (ku' := 0) (kv' := 0) hC lk_198 dX9_init_8 (by decide) (by decide) (by decide) hw (fun S o8 hw => ?_)
  refine z_putPF hC FX9 0 lk_311 dX9_init_10 (by decide) rfl hnm rfl rfl rfl hw (fun S hw => ?_)
  refine z_aload_n hC dX9_init_13 rfl rfl ?_
  refine z_iconst hC ic_0 dX9_init_14 ?_
  refine z_putI hC FX9 1 lk_313 dX9_init_15 (by decide) rfl rfl hw (fun S hw => ?_)
  refine z_aload_n hC dX9_init_18 rfl rfl ?_
  refine z_iconst hC ic_0 dX9_init_19 ?_
  refine z_putI hC FX9 2 lk_315 dX9_init_20 (by decide) rfl rfl hw (fun S hw => ?_)
  refine z_aload_n hC dX9_init_23 rfl rfl ?_
  refine z_iconst hC ic_0 dX9_init_24 ?_
  refine z_putI hC FX9 3 lk_317 dX9_init_25 (by decide) rfl rfl hw (fun S hw => ?_)
  refine z_aload_n hC dX9_init_28 rfl rfl ?_
  refine z_iconst hC ic_0 dX9_init_29 ?_
  refine z_putI hC FX9 4 lk_319 dX9_init_30 (by decide) rfl rfl hw (fun S hw => ?_)
  refine z_aload_n hC dX9_init_33 rfl rfl ?_
  refine z_iconst hC ic_0 dX9_init_34 ?_
  refine z_putI hC FX9 5 lk_321 dX9_init_35 (by decide) rfl rfl hw (fun S hw => ?_)
  exact z_vret hC hr hlk dX9_init_38 ⟨rfl, hw⟩
end
section
variable {p : Program} {l : Launch} {e : Env} {R : Room} {s : State} {m : MethodId} {args : Array Value} {below : List Frame} {meth : Method} {c : Code} {G : hG} {B mc ms : Nat}
def w_X9_addFour_b3 (q : hS → Prop) : Nat → hS → (Nat) → (Int32) → (Int32) → Prop
  | 0, _, _, _, _ => False
  | n + 1, S, v0, v1, v2 => (v2 < 0 → q S) ∧ (¬ v2 < 0 → gI S v0 9 1 (fun x8 => (400 ≤ x8 → q S) ∧ (¬ 400 ≤ x8 → gP S v0 9 0 (fun x18 => gI S v0 9 1 (fun x22 => sI S x18 x22 ((v1 >>> (v2 &&& 31)) &&& 255) (fun S => gI S v0 9 1 (fun x35 => pI S v0 9 1 (x35 + 1) (fun S => ∀ y43 : Int32, y43 = v2 + (-8) → w_X9_addFour_b3 q n S v0 v1 y43))))))))
set_option maxRecDepth 100000 in
set_option maxHeartbeats 4000000 in
theorem t_X9_addFour_b3 (hC : zC p R s m args c cX9_addFour 3 RX9 G B mc ms 1 60) (hr : meth.sig.returnType = (Option.none : Option FieldType)) (hlk : meth.locks = false) (hnm : meth.name = "addFour") {q : hS → Prop} (n : Nat) : ∀ {S : hS} {v0 : Nat} {v1 : Int32} {v2 : Int32} (hw : w_X9_addFour_b3 q n S v0 v1 v2), Z p l e R s m args below meth c (MQ below (hQ G B (vP q)) args s mc ms (fun r => B ≤ r)) G B mc ms 3 S 0 0 3 [some (.ref v0), some (.int v1), some (.int v2)] [] := by
  induction n with
  | zero => intro S v0 v1 v2 hw; exact (by rw [w_X9_addFour_b3] at hw; exact hw.elim)
  | succ n ih =>
    intro S v0 v1 v2 hw
    rw [w_X9_addFour_b3] at hw
    refine z_iload_n hC dX9_addFour_3 rfl rfl ?_
    refine z_if_lt (tgt := 49) hC dX9_addFour_4 (by decide) (fun c4 => ?_) (fun c4 => ?_)
    · have hw := hw.1 c4
      exact z_vret hC hr hlk dX9_addFour_49 ⟨rfl, hw⟩
    · have hw := hw.2 c4
      refine z_aload_n hC dX9_addFour_7 rfl rfl ?_
      refine z_getI hC FX9 1 lk_313 dX9_addFour_8 (by decide) hw (fun x8 hw => ?_)
      refine z_sipush hC si_400 dX9_addFour_11 ?_
      refine z_icmp_ge (tgt := 49) hC dX9_addFour_14 (by decide) (fun c14 => ?_) (fun c14 => ?_)
      · have hw := hw.1 c14
        exact z_vret hC hr hlk dX9_addFour_49 ⟨rfl, hw⟩
      · have hw := hw.2 c14
        refine z_aload_n hC dX9_addFour_17 rfl rfl ?_
        refine z_getP hC FX9 0 lk_311 dX9_addFour_18 (by decide) hw (fun x18 hw => ?_)
        refine z_aload_n hC dX9_addFour_21 rfl rfl ?_
        refine z_getI hC FX9 1 lk_313 dX9_addFour_22 (by decide) hw (fun x22 hw => ?_)
        refine z_iload_n hC dX9_addFour_25 rfl rfl ?_
        refine z_iload_n hC dX9_addFour_26 rfl rfl ?_
        refine z_ishr hC dX9_addFour_27 ?_
        refine z_sipush hC si_255 dX9_addFour_28 ?_
        refine z_iand hC dX9_addFour_31 ?_
        refine z_astI hC dX9_addFour_32 hw (fun S hw => ?_)
        refine z_aload_n hC dX9_addFour_33 rfl rfl ?_
        refine z_dup hC rfl dX9_addFour_34 ?_
        refine z_getI hC FX9 1 lk_313 dX9_addFour_35 (by decide) hw (fun x35 hw => ?_)
        refine z_iconst hC ic_1 dX9_addFour_38 ?_
        refine z_iadd hC dX9_addFour_39 ?_
        refine z_putI hC FX9 1 lk_313 dX9_addFour_40 (by decide) rfl rfl hw (fun S hw => ?_)
        refine z_inc (i := 2) hC ic_m8 dX9_addFour_43 rfl (by decide) (hok_v rfl rfl) (fun y43 e43 => ?_)
        have hw := hw y43 e43
        refine z_goto (tgt := 3) hC dX9_addFour_46 (by decide) ?_
        refine z_mask (lv' := [some (.ref v0), some (.int v1), some (.int y43)]) [true, true, true] rfl ?_
        exact ih hw
def w_X9_addFour (q : hS → Prop) (S : hS) (v0 : Nat) (v1 : Int32) : Prop := (∃ n3 : Nat, w_X9_addFour_b3 q n3 S v0 v1 24)
set_option maxRecDepth 100000 in
set_option maxHeartbeats 4000000 in
theorem c_X9_addFour (l : Launch) (G : hG) (B : Nat) (S : hS) (v0 : Nat) (v1 : Int32) (q : hS → Prop) : Met l yX9_addFour (hws yX9_addFour cX9_addFour 3 (Option.none : Option FieldType)) ({ frames := 1, cells := 0, slots := 0, locals := 60 }) (hPc G B S [.ref v0, .int v1] (w_X9_addFour q S v0 v1)) (hQ G B (vP q)) (0) (0) (fun r => B ≤ r) := by
  refine hMet (rm := { frames := 1, cells := 0, slots := 0, locals := 60 }) (lv := [some (.ref v0), some (.int v1), none]) (own := RX9) (fr := 1) (lo := 60) (by decide) rfl rfl rfl (Nat.le_of_ble_eq_true rfl) rfl (fun hw p e R s m args below meth c hC hr hlk hnm => ?_)
  unfold w_X9_addFour at hw
  refine z_bipush hC bi_24 dX9_addFour_0 ?_
  refine z_istore_n (i := 2) (lv' := [some (.ref v0), some (.int v1), some (.int 24)]) hC rfl dX9_addFour_2 (by decide) (hok_v rfl rfl) rfl ?_
  refine z_mask (lv' := [some (.ref v0), some (.int v1), some (.int 24)]) [true, true, true] rfl ?_
  obtain ⟨n3, hw⟩ := hw
  exact t_X9_addFour_b3 hC hr hlk hnm n3 hw
end
section
variable {p : Program} {l : Launch} {e : Env} {R : Room} {s : State} {m : MethodId} {args : Array Value} {below : List Frame} {meth : Method} {c : Code} {G : hG} {B mc ms : Nat}
def w_X10_init_ (q : hS → Prop) (S : hS) (v0 : Nat) (v1 : Nat) : Prop := pI S v0 10 0 0 (fun S => pI S v0 10 1 0 (fun S => pI S v0 10 2 0 (fun S => gI S v1 10 0 (fun x22 => pI S v0 10 0 (if 0 < (if 12 < x22 then 12 else x22) then (if 12 < x22 then 12 else x22) else 0) (fun S => gI S v1 10 1 (fun x39 => pI S v0 10 1 (if 0 < (if 400 < x39 then 400 else x39) then (if 400 < x39 then 400 else x39) else 0) (fun S => gI S v0 10 0 (fun x56 => mkI S x56 12 (fun S o59 => pP S v0 10 3 o59 (fun S => gI S v0 10 0 (fun x66 => mkI S x66 12 (fun S o69 => pP S v0 10 4 o69 (fun S => gI S v0 10 0 (fun x76 => mkI S (x76 * 5) 60 (fun S o81 => pP S v0 10 5 o81 (fun S => gI S v0 10 1 (fun x88 => mkI S x88 400 (fun S o91 => pP S v0 10 6 o91 (fun S => gP S v1 10 3 (fun x97 => gP S v0 10 3 (fun x102 => gI S v0 10 0 (fun x107 => cI S x97 0 x102 0 x107 (fun S => gP S v1 10 4 (fun x114 => gP S v0 10 4 (fun x119 => gI S v0 10 0 (fun x124 => cI S x114 0 x119 0 x124 (fun S => gP S v1 10 5 (fun x131 => gP S v0 10 5 (fun x136 => gI S v0 10 0 (fun x141 => cI S x131 0 x136 0 (x141 * 5) (fun S => gP S v1 10 6 (fun x150 => gP S v0 10 6 (fun x155 => gI S v0 10 1 (fun x160 => cI S x150 0 x155 0 x160 (fun S => q S)))))))))))))))))))))))))))))))))))
set_option maxRecDepth 100000 in
set_option maxHeartbeats 4000000 in
theorem c_X10_init_ (l : Launch) (G : hG) (B : Nat) (S : hS) (v0 : Nat) (v1 : Nat) (q : hS → Prop) : Met l yX10_init_ (hws yX10_init_ cX10_init_ 2 (Option.none : Option FieldType)) ({ frames := 1, cells := 4, slots := 484, locals := 60 }) (hPc G B S [.ref v0, .ref v1] (w_X10_init_ q S v0 v1)) (hQ G B (vP q)) (4) (484) (fun r => B ≤ r) := by
  refine hMet (rm := { frames := 1, cells := 4, slots := 484, locals := 60 }) (lv := [some (.ref v0), some (.ref v1)]) (own := RX10) (fr := 1) (lo := 60) (by decide) rfl rfl rfl (Nat.le_of_ble_eq_true rfl) rfl (fun hw p e R s m args below meth c hC hr hlk hnm => ?_)
  unfold w_X10_init_ at hw
  refine z_less (ku' := 4) (kv' := 484) (Nat.le_refl _) (Nat.le_refl _) ?_
  refine z_aload_n hC dX10_init__0 rfl rfl ?_
  refine z_obj hC lk_346 lk_147 lk_148 dX10_init__1 (by decide) (Nat.le_of_ble_eq_true rfl) ?_
  refine z_aload_n hC dX10_init__4 rfl rfl ?_
  refine z_iconst hC ic_0 dX10_init__5 ?_
  refine z_putI hC FX10 0 lk_347 dX10_init__6 (by decide) rfl rfl hw (fun S hw => ?_)
  refine z_aload_n hC dX10_init__9 rfl rfl ?_
  refine z_iconst hC ic_0 dX10_init__10 ?_
  refine z_putI hC FX10 1 lk_351 dX10_init__11 (by decide) rfl rfl hw (fun S hw => ?_)
  refine z_aload_n hC dX10_init__14 rfl rfl ?_
  refine z_iconst hC ic_0 dX10_init__15 ?_
  refine z_putI hC FX10 2 lk_353 dX10_init__16 (by decide) rfl rfl hw (fun S hw => ?_)
  refine z_aload_n hC dX10_init__19 rfl rfl ?_
  refine z_iconst hC ic_0 dX10_init__20 ?_
  refine z_aload_n hC dX10_init__21 rfl rfl ?_
  refine z_getI hC FX10 0 lk_347 dX10_init__22 (by decide) hw (fun x22 hw => ?_)
  refine z_bipush hC bi_12 dX10_init__25 ?_
  refine z_mmin hC lk_939 lk_657 lk_134 lk_658 dX10_init__27 (by decide) (Nat.le_of_ble_eq_true rfl) ?_
  refine z_mmax hC lk_940 lk_645 lk_134 lk_646 dX10_init__30 (by decide) (Nat.le_of_ble_eq_true rfl) ?_
  refine z_putI hC FX10 0 lk_347 dX10_init__33 (by decide) rfl rfl hw (fun S hw => ?_)
  refine z_aload_n hC dX10_init__36 rfl rfl ?_
  refine z_iconst hC ic_0 dX10_init__37 ?_
  refine z_aload_n hC dX10_init__38 rfl rfl ?_
  refine z_getI hC FX10 1 lk_351 dX10_init__39 (by decide) hw (fun x39 hw => ?_)
  refine z_sipush hC si_400 dX10_init__42 ?_
  refine z_mmin hC lk_939 lk_657 lk_134 lk_658 dX10_init__45 (by decide) (Nat.le_of_ble_eq_true rfl) ?_
  refine z_mmax hC lk_940 lk_645 lk_134 lk_646 dX10_init__48 (by decide) (Nat.le_of_ble_eq_true rfl) ?_
  refine z_putI hC FX10 1 lk_351 dX10_init__51 (by decide) rfl rfl hw (fun S hw => ?_)
  refine z_aload_n hC dX10_init__54 rfl rfl ?_
  refine z_aload_n hC dX10_init__55 rfl rfl ?_
  refine z_getI hC FX10 0 lk_347 dX10_init__56 (by decide) hw (fun x56 hw => ?_)
  refine z_mkI (cap := 12) (ku' := 3) (kv' := 472) hC lk_198 dX10_init__59 (by decide) (by decide) (by decide) hw (fun S o59 hw => ?_)
  refine z_putPF hC FX10 3 lk_354 dX10_init__61 (by decide) rfl hnm rfl rfl rfl hw (fun S hw => ?_)
  refine z_aload_n hC dX10_init__64 rfl rfl ?_
  refine z_aload_n hC dX10_init__65 rfl rfl ?_
  refine z_getI hC FX10 0 lk_347 dX10_init__66 (by decide) hw (fun x66 hw => ?_)
  refine z_mkI (cap := 12) (ku' := 2) (kv' := 460) hC lk_198 dX10_init__69 (by decide) (by decide) (by decide) hw (fun S o69 hw => ?_)
  refine z_putPF hC FX10 4 lk_357 dX10_init__71 (by decide) rfl hnm rfl rfl rfl hw (fun S hw => ?_)
  refine z_aload_n hC dX10_init__74 rfl rfl ?_
  refine z_aload_n hC dX10_init__75 rfl rfl ?_
  refine z_getI hC FX10 0 lk_347 dX10_init__76 (by decide) hw (fun x76 hw => ?_)
  refine z_iconst hC ic_5 dX10_init__79 ?_
  refine z_imul hC dX10_init__80 ?_
  refine z_mkI (cap := 60) (ku' := 1) (kv' := 400) hC lk_198 dX10_init__81 (by decide) (by decide) (by decide) hw (fun S o81 hw => ?_)
  refine z_putPF hC FX10 5 lk_359 dX10_init__83 (by decide) rfl hnm rfl rfl rfl hw (fun S hw => ?_)
  refine z_aload_n hC dX10_init__86 rfl rfl ?_
  refine z_aload_n hC dX10_init__87 rfl rfl ?_
  refine z_getI hC FX10 1 lk_351 dX10_init__88 (by decide) hw (fun x88 hw => ?_)
  refine z_mkI (cap := 400) (ku' := 0) (kv' := 0) hC lk_198 dX10_init__91 (by decide) (by decide) (by decide) hw (fun S o91 hw => ?_)
  refine z_putPF hC FX10 6 lk_361 dX10_init__93 (by decide) rfl hnm rfl rfl rfl hw (fun S hw => ?_)
  refine z_aload_n hC dX10_init__96 rfl rfl ?_
  refine z_getP hC FX10 3 lk_354 dX10_init__97 (by decide) hw (fun x97 hw => ?_)
  refine z_iconst hC ic_0 dX10_init__100 ?_
  refine z_aload_n hC dX10_init__101 rfl rfl ?_
  refine z_getP hC FX10 3 lk_354 dX10_init__102 (by decide) hw (fun x102 hw => ?_)
  refine z_iconst hC ic_0 dX10_init__105 ?_
  refine z_aload_n hC dX10_init__106 rfl rfl ?_
  refine z_getI hC FX10 0 lk_347 dX10_init__107 (by decide) hw (fun x107 hw => ?_)
  refine z_copyI hC lk_1000 lk_1002 lk_1001 lk_139 dX10_init__110 (by decide) (Nat.le_of_ble_eq_true rfl) hw (fun S hw => ?_)
  refine z_aload_n hC dX10_init__113 rfl rfl ?_
  refine z_getP hC FX10 4 lk_357 dX10_init__114 (by decide) hw (fun x114 hw => ?_)
  refine z_iconst hC ic_0 dX10_init__117 ?_
  refine z_aload_n hC dX10_init__118 rfl rfl ?_
  refine z_getP hC FX10 4 lk_357 dX10_init__119 (by decide) hw (fun x119 hw => ?_)
  refine z_iconst hC ic_0 dX10_init__122 ?_
  refine z_aload_n hC dX10_init__123 rfl rfl ?_
  refine z_getI hC FX10 0 lk_347 dX10_init__124 (by decide) hw (fun x124 hw => ?_)
  refine z_copyI hC lk_1000 lk_1002 lk_1001 lk_139 dX10_init__127 (by decide) (Nat.le_of_ble_eq_true rfl) hw (fun S hw => ?_)
  refine z_aload_n hC dX10_init__130 rfl rfl ?_
  refine z_getP hC FX10 5 lk_359 dX10_init__131 (by decide) hw (fun x131 hw => ?_)
  refine z_iconst hC ic_0 dX10_init__134 ?_
  refine z_aload_n hC dX10_init__135 rfl rfl ?_
  refine z_getP hC FX10 5 lk_359 dX10_init__136 (by decide) hw (fun x136 hw => ?_)
  refine z_iconst hC ic_0 dX10_init__139 ?_
  refine z_aload_n hC dX10_init__140 rfl rfl ?_
  refine z_getI hC FX10 0 lk_347 dX10_init__141 (by decide) hw (fun x141 hw => ?_)
  refine z_iconst hC ic_5 dX10_init__144 ?_
  refine z_imul hC dX10_init__145 ?_
  refine z_copyI hC lk_1000 lk_1002 lk_1001 lk_139 dX10_init__146 (by decide) (Nat.le_of_ble_eq_true rfl) hw (fun S hw => ?_)
  refine z_aload_n hC dX10_init__149 rfl rfl ?_
  refine z_getP hC FX10 6 lk_361 dX10_init__150 (by decide) hw (fun x150 hw => ?_)
  refine z_iconst hC ic_0 dX10_init__153 ?_
  refine z_aload_n hC dX10_init__154 rfl rfl ?_
  refine z_getP hC FX10 6 lk_361 dX10_init__155 (by decide) hw (fun x155 hw => ?_)
  refine z_iconst hC ic_0 dX10_init__158 ?_
  refine z_aload_n hC dX10_init__159 rfl rfl ?_
  refine z_getI hC FX10 1 lk_351 dX10_init__160 (by decide) hw (fun x160 hw => ?_)
  refine z_copyI hC lk_1000 lk_1002 lk_1001 lk_139 dX10_init__163 (by decide) (Nat.le_of_ble_eq_true rfl) hw (fun S hw => ?_)
  exact z_vret hC hr hlk dX10_init__166 ⟨rfl, hw⟩
end
