section
variable {p : Program} {l : Launch} {e : Env} {R : Room} {s : State} {m : MethodId} {args : Array Value} {below : List Frame} {meth : Method} {c : Code} {G : hG} {B mc ms : Nat}
def w_X12_house_b24 (q : Int32 → hS → Prop) (S : hS) (v0 : Nat) : Prop := oK S v0 12 ∧ w_X12_tell (fun x26 S => q x26 S) S v0 (-1)
set_option maxRecDepth 100000 in
set_option maxHeartbeats 4000000 in
theorem t_X12_house_b24 (hC : zC p R s m args c cX12_house 5 RX12 G B mc ms 3 105) (hr : meth.sig.returnType = (Option.some FieldType.int)) (hlk : meth.locks = false) (hnm : meth.name = "house") {q : Int32 → hS → Prop} {S : hS} {v0 : Nat} (hw : w_X12_house_b24 q S v0) : Z p l e R s m args below meth c (MQ below (hQ G B (iP q)) args s mc ms (fun r => B ≤ r)) G B mc ms 5 S 0 0 24 [some (.ref v0), none, none, none, none] [] := by
  unfold w_X12_house_b24 at hw
  refine z_aload_n hC dX12_house_24 rfl rfl ?_
  refine z_iconst hC ic_m1 dX12_house_25 ?_
  refine z_callV (ku' := 0) (kv' := 0) (n := 1) (As := [.int (-1)]) (st := []) hC (c_X12_tell l G B S v0 (-1) _) hw.2 hw.1 rfl lk_1544 lk_1546 lk_41 lk_133 lk_1547 hd_X12_tell rfl rfl (Nat.le_of_ble_eq_true rfl) (Nat.le_of_ble_eq_true rfl) rfl (Nat.le_of_ble_eq_true rfl) dX12_house_26 (Nat.le_refl 0) (Nat.le_refl 0) (kI (fun x26 S hw => ?_))
  exact z_iret hC hr hlk dX12_house_29 ⟨_, rfl, hw⟩
def w_X12_house_b84 (q : Int32 → hS → Prop) : Nat → hS → (Nat) → (Int32) → (Int32) → Prop
  | 0, _, _, _, _ => False
  | n + 1, S, v0, v3, v4 => (8 ≤ v4 → gP S v0 12 3 (fun x130 => aI S x130 0 (fun x135 => sI S x130 0 (x135 + 1) (fun S => oK S v0 12 ∧ w_X12_settled (fun x141 S => q x141 S) S v0 v3)))) ∧ (¬ 8 ≤ v4 → gP S v0 12 3 (fun x92 => sI S x92 ((30 + (6 * v4)) + v3) 0 (fun S => gP S v0 12 3 (fun x108 => sI S x108 ((78 + (6 * v4)) + v3) 0 (fun S => ∀ y123 : Int32, y123 = v4 + 1 → w_X12_house_b84 q n S v0 v3 y123)))))
set_option maxRecDepth 100000 in
set_option maxHeartbeats 4000000 in
theorem t_X12_house_b84 (hC : zC p R s m args c cX12_house 5 RX12 G B mc ms 3 105) (hr : meth.sig.returnType = (Option.some FieldType.int)) (hlk : meth.locks = false) (hnm : meth.name = "house") {q : Int32 → hS → Prop} (n : Nat) : ∀ {S : hS} {v0 : Nat} {v3 : Int32} {v4 : Int32} (hw : w_X12_house_b84 q n S v0 v3 v4), Z p l e R s m args below meth c (MQ below (hQ G B (iP q)) args s mc ms (fun r => B ≤ r)) G B mc ms 5 S 0 0 84 [some (.ref v0), none, none, some (.int v3), some (.int v4)] [] := by
  induction n with
  | zero => intro S v0 v3 v4 hw; exact (by rw [w_X12_house_b84] at hw; exact hw.elim)
  | succ n ih =>
    intro S v0 v3 v4 hw
    rw [w_X12_house_b84] at hw
    refine z_iload hC dX12_house_84 rfl ?_
    refine z_bipush hC bi_8 dX12_house_86 ?_
    refine z_icmp_ge (tgt := 129) hC dX12_house_88 (by decide) (fun c88 => ?_) (fun c88 => ?_)
    · have hw := hw.1 c88
      refine z_aload_n hC dX12_house_129 rfl rfl ?_
      refine z_getP hC FX12 3 lk_1358 dX12_house_130 (by decide) hw (fun x130 hw => ?_)
      refine z_iconst hC ic_0 dX12_house_133 ?_
      refine z_dup2_11 hC rfl rfl dX12_house_134 ?_
      refine z_aldI hC dX12_house_135 hw (fun x135 hw => ?_)
      refine z_iconst hC ic_1 dX12_house_136 ?_
      refine z_iadd hC dX12_house_137 ?_
      refine z_astI hC dX12_house_138 hw (fun S hw => ?_)
      refine z_aload_n hC dX12_house_139 rfl rfl ?_
      refine z_iload_n hC dX12_house_140 rfl rfl ?_
      refine z_callV (ku' := 0) (kv' := 0) (n := 1) (As := [.int v3]) (st := []) hC (c_X12_settled l G B S v0 v3 _) hw.2 hw.1 rfl lk_1563 lk_1565 lk_43 lk_133 lk_1566 hd_X12_settled rfl rfl (Nat.le_of_ble_eq_true rfl) (Nat.le_of_ble_eq_true rfl) rfl (Nat.le_of_ble_eq_true rfl) dX12_house_141 (Nat.le_refl 0) (Nat.le_refl 0) (kI (fun x141 S hw => ?_))
      exact z_iret hC hr hlk dX12_house_144 ⟨_, rfl, hw⟩
    · have hw := hw.2 c88
      refine z_aload_n hC dX12_house_91 rfl rfl ?_
      refine z_getP hC FX12 3 lk_1358 dX12_house_92 (by decide) hw (fun x92 hw => ?_)
      refine z_bipush hC bi_30 dX12_house_95 ?_
      refine z_bipush hC bi_6 dX12_house_97 ?_
      refine z_iload hC dX12_house_99 rfl ?_
      refine z_imul hC dX12_house_101 ?_
      refine z_iadd hC dX12_house_102 ?_
      refine z_iload_n hC dX12_house_103 rfl rfl ?_
      refine z_iadd hC dX12_house_104 ?_
      refine z_iconst hC ic_0 dX12_house_105 ?_
      refine z_astI hC dX12_house_106 hw (fun S hw => ?_)
      refine z_aload_n hC dX12_house_107 rfl rfl ?_
      refine z_getP hC FX12 3 lk_1358 dX12_house_108 (by decide) hw (fun x108 hw => ?_)
      refine z_bipush hC bi_78 dX12_house_111 ?_
      refine z_bipush hC bi_6 dX12_house_113 ?_
      refine z_iload hC dX12_house_115 rfl ?_
      refine z_imul hC dX12_house_117 ?_
      refine z_iadd hC dX12_house_118 ?_
      refine z_iload_n hC dX12_house_119 rfl rfl ?_
      refine z_iadd hC dX12_house_120 ?_
      refine z_iconst hC ic_0 dX12_house_121 ?_
      refine z_astI hC dX12_house_122 hw (fun S hw => ?_)
      refine z_inc (i := 4) hC ic_1 dX12_house_123 rfl (by decide) (hok_v rfl rfl) (fun y123 e123 => ?_)
      have hw := hw y123 e123
      refine z_goto (tgt := 84) hC dX12_house_126 (by decide) ?_
      refine z_mask (lv' := [some (.ref v0), none, none, some (.int v3), some (.int y123)]) [true, false, false, true, true] rfl ?_
      exact ih hw
def w_X12_house (q : Int32 → hS → Prop) (S : hS) (v0 : Nat) (v1 : Int32) (v2 : Int32) : Prop := pI S v0 12 0 0 (fun S => w_X12_isPlace (fun x6 S => (x6 = 0 → w_X12_house_b24 q S v0) ∧ (¬ x6 = 0 → w_X12_in (fun x18 S => (¬ x18 = 0 → gP S v0 12 3 (fun x31 => aI S x31 0 (fun x35 => (¬ x35 = 6 → gP S v0 12 3 (fun x51 => sI S x51 (126 + x35) v1 (fun S => gP S v0 12 3 (fun x61 => sI S x61 (132 + x35) v2 (fun S => gP S v0 12 3 (fun x72 => sI S x72 (8 + x35) 0 (fun S => (∃ n84 : Nat, w_X12_house_b84 q n84 S v0 x35 0)))))))) ∧ (x35 = 6 → oK S v0 12 ∧ w_X12_tell (fun x46 S => q x46 S) S v0 (-5))))) ∧ (x18 = 0 → w_X12_house_b24 q S v0)) S (Int32.toInt64 v2) 0 99)) S v1)
set_option maxRecDepth 100000 in
set_option maxHeartbeats 4000000 in
theorem c_X12_house (l : Launch) (G : hG) (B : Nat) (S : hS) (v0 : Nat) (v1 : Int32) (v2 : Int32) (q : Int32 → hS → Prop) : Met l yX12_house (hws yX12_house cX12_house 5 (Option.some FieldType.int)) ({ frames := 3, cells := 0, slots := 0, locals := 105 }) (hPc G B S [.ref v0, .int v1, .int v2] (w_X12_house q S v0 v1 v2)) (hQ G B (iP q)) (0) (0) (fun r => B ≤ r) := by
  refine hMet (rm := { frames := 3, cells := 0, slots := 0, locals := 105 }) (lv := [some (.ref v0), some (.int v1), some (.int v2), none, none]) (own := RX12) (fr := 3) (lo := 105) (by decide) rfl rfl rfl (Nat.le_of_ble_eq_true rfl) rfl (fun hw p e R s m args below meth c hC hr hlk hnm => ?_)
  unfold w_X12_house at hw
  refine z_aload_n hC dX12_house_0 rfl rfl ?_
  refine z_iconst hC ic_0 dX12_house_1 ?_
  refine z_putI hC FX12 0 lk_1355 dX12_house_2 (by decide) rfl rfl hw (fun S hw => ?_)
  refine z_iload_n hC dX12_house_5 rfl rfl ?_
  refine z_callS (ku' := 0) (kv' := 0) (n := 1) (As := [.int v1]) (st := []) hC (c_X12_isPlace l G B S v1 _) hw lk_1571 lk_1572 lk_133 lk_1573 hd_X12_isPlace rfl rfl (Nat.le_of_ble_eq_true rfl) (Nat.le_of_ble_eq_true rfl) rfl (Nat.le_of_ble_eq_true rfl) dX12_house_6 (Nat.le_refl 0) (Nat.le_refl 0) (kI (fun x6 S hw => ?_))
  refine z_if_eq (tgt := 24) hC dX12_house_9 (by decide) (fun c9 => ?_) (fun c9 => ?_)
  · have hw := hw.1 c9
    refine z_mask (lv' := [some (.ref v0), none, none, none, none]) [true, false, false, false, false] rfl ?_
    exact t_X12_house_b24 hC hr hlk hnm hw
  · have hw := hw.2 c9
    refine z_iload_n hC dX12_house_12 rfl rfl ?_
    refine z_i2l hC rfl dX12_house_13 ?_
    refine z_lconst hC lc_0 dX12_house_14 ?_
    refine z_ldc2 hC lk_1575 dX12_house_15 ?_
    refine z_callS (ku' := 0) (kv' := 0) (n := 3) (As := [.long (Int32.toInt64 v2), .long 0, .long 99]) (st := []) hC (c_X12_in l G B S (Int32.toInt64 v2) 0 99 _) hw lk_1556 lk_1557 lk_133 lk_1558 hd_X12_in rfl rfl (Nat.le_of_ble_eq_true rfl) (Nat.le_of_ble_eq_true rfl) rfl (Nat.le_of_ble_eq_true rfl) dX12_house_18 (Nat.le_refl 0) (Nat.le_refl 0) (kI (fun x18 S hw => ?_))
    refine z_if_ne (tgt := 30) hC dX12_house_21 (by decide) (fun c21 => ?_) (fun c21 => ?_)
    · have hw := hw.1 c21
      refine z_aload_n hC dX12_house_30 rfl rfl ?_
      refine z_getP hC FX12 3 lk_1358 dX12_house_31 (by decide) hw (fun x31 hw => ?_)
      refine z_iconst hC ic_0 dX12_house_34 ?_
      refine z_aldI hC dX12_house_35 hw (fun x35 hw => ?_)
      refine z_istore_n (i := 3) (lv' := [some (.ref v0), some (.int v1), some (.int v2), some (.int x35), none]) hC rfl dX12_house_36 (by decide) (hok_v rfl rfl) rfl ?_
      refine z_iload_n hC dX12_house_37 rfl rfl ?_
      refine z_bipush hC bi_6 dX12_house_38 ?_
      refine z_icmp_ne (tgt := 50) hC dX12_house_40 (by decide) (fun c40 => ?_) (fun c40 => ?_)
      · have hw := hw.1 c40
        refine z_aload_n hC dX12_house_50 rfl rfl ?_
        refine z_getP hC FX12 3 lk_1358 dX12_house_51 (by decide) hw (fun x51 hw => ?_)
        refine z_bipush hC bi_126 dX12_house_54 ?_
        refine z_iload_n hC dX12_house_56 rfl rfl ?_
        refine z_iadd hC dX12_house_57 ?_
        refine z_iload_n hC dX12_house_58 rfl rfl ?_
        refine z_astI hC dX12_house_59 hw (fun S hw => ?_)
        refine z_aload_n hC dX12_house_60 rfl rfl ?_
        refine z_getP hC FX12 3 lk_1358 dX12_house_61 (by decide) hw (fun x61 hw => ?_)
        refine z_sipush hC si_132 dX12_house_64 ?_
        refine z_iload_n hC dX12_house_67 rfl rfl ?_
        refine z_iadd hC dX12_house_68 ?_
        refine z_iload_n hC dX12_house_69 rfl rfl ?_
        refine z_astI hC dX12_house_70 hw (fun S hw => ?_)
        refine z_aload_n hC dX12_house_71 rfl rfl ?_
        refine z_getP hC FX12 3 lk_1358 dX12_house_72 (by decide) hw (fun x72 hw => ?_)
        refine z_bipush hC bi_8 dX12_house_75 ?_
        refine z_iload_n hC dX12_house_77 rfl rfl ?_
        refine z_iadd hC dX12_house_78 ?_
        refine z_iconst hC ic_0 dX12_house_79 ?_
        refine z_astI hC dX12_house_80 hw (fun S hw => ?_)
        refine z_iconst hC ic_0 dX12_house_81 ?_
        refine z_istore (i := 4) (lv' := [some (.ref v0), some (.int v1), some (.int v2), some (.int x35), some (.int 0)]) hC dX12_house_82 (by decide) (hok_v rfl rfl) rfl ?_
        refine z_mask (lv' := [some (.ref v0), none, none, some (.int x35), some (.int 0)]) [true, false, false, true, true] rfl ?_
        obtain ⟨n84, hw⟩ := hw
        exact t_X12_house_b84 hC hr hlk hnm n84 hw
      · have hw := hw.2 c40
        refine z_aload_n hC dX12_house_43 rfl rfl ?_
        refine z_bipush hC bi_m5 dX12_house_44 ?_
        refine z_callV (ku' := 0) (kv' := 0) (n := 1) (As := [.int (-5)]) (st := []) hC (c_X12_tell l G B S v0 (-5) _) hw.2 hw.1 rfl lk_1544 lk_1546 lk_41 lk_133 lk_1547 hd_X12_tell rfl rfl (Nat.le_of_ble_eq_true rfl) (Nat.le_of_ble_eq_true rfl) rfl (Nat.le_of_ble_eq_true rfl) dX12_house_46 (Nat.le_refl 0) (Nat.le_refl 0) (kI (fun x46 S hw => ?_))
        exact z_iret hC hr hlk dX12_house_49 ⟨_, rfl, hw⟩
    · have hw := hw.2 c21
      refine z_mask (lv' := [some (.ref v0), none, none, none, none]) [true, false, false, false, false] rfl ?_
      exact t_X12_house_b24 hC hr hlk hnm hw
end
section
variable {p : Program} {l : Launch} {e : Env} {R : Room} {s : State} {m : MethodId} {args : Array Value} {below : List Frame} {meth : Method} {c : Code} {G : hG} {B mc ms : Nat}
def w_X12_rightsTo_b4 (q : Int32 → hS → Prop) : Nat → hS → (Nat) → (Int32) → (Int32) → (Int32) → Prop
  | 0, _, _, _, _, _ => False
  | n + 1, S, v0, v1, v2, v3 => gP S v0 12 3 (fun x6 => aI S x6 1 (fun x10 => (x10 ≤ v3 → q v2 S) ∧ (¬ x10 ≤ v3 → oK S v0 12 ∧ w_X12_rights (fun x18 S => ∀ y22 : Int32, y22 = (v2 + x18) → ∀ y23 : Int32, y23 = v3 + 1 → w_X12_rightsTo_b4 q n S v0 v1 y22 y23) S v0 v3 v1)))
set_option maxRecDepth 100000 in
set_option maxHeartbeats 4000000 in
theorem t_X12_rightsTo_b4 (hC : zC p R s m args c cX12_rightsTo 4 RX12 G B mc ms 2 82) (hr : meth.sig.returnType = (Option.some FieldType.int)) (hlk : meth.locks = false) (hnm : meth.name = "rightsTo") {q : Int32 → hS → Prop} (n : Nat) : ∀ {S : hS} {v0 : Nat} {v1 : Int32} {v2 : Int32} {v3 : Int32} (hw : w_X12_rightsTo_b4 q n S v0 v1 v2 v3), Z p l e R s m args below meth c (MQ below (hQ G B (iP q)) args s mc ms (fun r => B ≤ r)) G B mc ms 4 S 0 0 4 [some (.ref v0), some (.int v1), some (.int v2), some (.int v3)] [] := by
  induction n with
  | zero => intro S v0 v1 v2 v3 hw; exact (by rw [w_X12_rightsTo_b4] at hw; exact hw.elim)
  | succ n ih =>
    intro S v0 v1 v2 v3 hw
    rw [w_X12_rightsTo_b4] at hw
    refine z_iload_n hC dX12_rightsTo_4 rfl rfl ?_
    refine z_aload_n hC dX12_rightsTo_5 rfl rfl ?_
    refine z_getP hC FX12 3 lk_1358 dX12_rightsTo_6 (by decide) hw (fun x6 hw => ?_)
    refine z_iconst hC ic_1 dX12_rightsTo_9 ?_
    refine z_aldI hC dX12_rightsTo_10 hw (fun x10 hw => ?_)
    refine z_icmp_ge (tgt := 29) hC dX12_rightsTo_11 (by decide) (fun c11 => ?_) (fun c11 => ?_)
    · have hw := hw.1 c11
      refine z_iload_n hC dX12_rightsTo_29 rfl rfl ?_
      exact z_iret hC hr hlk dX12_rightsTo_30 ⟨_, rfl, hw⟩
    · have hw := hw.2 c11
      refine z_iload_n hC dX12_rightsTo_14 rfl rfl ?_
      refine z_aload_n hC dX12_rightsTo_15 rfl rfl ?_
      refine z_iload_n hC dX12_rightsTo_16 rfl rfl ?_
      refine z_iload_n hC dX12_rightsTo_17 rfl rfl ?_
      refine z_callV (ku' := 0) (kv' := 0) (n := 2) (As := [.int v3, .int v1]) (st := [.int v2]) hC (c_X12_rights l G B S v0 v3 v1 _) hw.2 hw.1 rfl lk_1588 lk_1590 lk_46 lk_133 lk_1591 hd_X12_rights rfl rfl (Nat.le_of_ble_eq_true rfl) (Nat.le_of_ble_eq_true rfl) rfl (Nat.le_of_ble_eq_true rfl) dX12_rightsTo_18 (Nat.le_refl 0) (Nat.le_refl 0) (kI (fun x18 S hw => ?_))
      refine z_iadd hC dX12_rightsTo_21 ?_
      refine z_nmI (fun y22 e22 => ?_)
      have hw := hw y22 e22
      refine z_istore_n (i := 2) (lv' := [some (.ref v0), some (.int v1), some (.int y22), some (.int v3)]) hC rfl dX12_rightsTo_22 (by decide) (hok_v rfl rfl) rfl ?_
      refine z_inc (i := 3) hC ic_1 dX12_rightsTo_23 rfl (by decide) (hok_v rfl rfl) (fun y23 e23 => ?_)
      have hw := hw y23 e23
      refine z_goto (tgt := 4) hC dX12_rightsTo_26 (by decide) ?_
      refine z_mask (lv' := [some (.ref v0), some (.int v1), some (.int y22), some (.int y23)]) [true, true, true, true] rfl ?_
      exact ih hw
def w_X12_rightsTo (q : Int32 → hS → Prop) (S : hS) (v0 : Nat) (v1 : Int32) : Prop := (∃ n4 : Nat, w_X12_rightsTo_b4 q n4 S v0 v1 0 0)
set_option maxRecDepth 100000 in
set_option maxHeartbeats 4000000 in
theorem c_X12_rightsTo (l : Launch) (G : hG) (B : Nat) (S : hS) (v0 : Nat) (v1 : Int32) (q : Int32 → hS → Prop) : Met l yX12_rightsTo (hws yX12_rightsTo cX12_rightsTo 4 (Option.some FieldType.int)) ({ frames := 2, cells := 0, slots := 0, locals := 82 }) (hPc G B S [.ref v0, .int v1] (w_X12_rightsTo q S v0 v1)) (hQ G B (iP q)) (0) (0) (fun r => B ≤ r) := by
  refine hMet (rm := { frames := 2, cells := 0, slots := 0, locals := 82 }) (lv := [some (.ref v0), some (.int v1), none, none]) (own := RX12) (fr := 2) (lo := 82) (by decide) rfl rfl rfl (Nat.le_of_ble_eq_true rfl) rfl (fun hw p e R s m args below meth c hC hr hlk hnm => ?_)
  unfold w_X12_rightsTo at hw
  refine z_iconst hC ic_0 dX12_rightsTo_0 ?_
  refine z_istore_n (i := 2) (lv' := [some (.ref v0), some (.int v1), some (.int 0), none]) hC rfl dX12_rightsTo_1 (by decide) (hok_v rfl rfl) rfl ?_
  refine z_iconst hC ic_0 dX12_rightsTo_2 ?_
  refine z_istore_n (i := 3) (lv' := [some (.ref v0), some (.int v1), some (.int 0), some (.int 0)]) hC rfl dX12_rightsTo_3 (by decide) (hok_v rfl rfl) rfl ?_
  refine z_mask (lv' := [some (.ref v0), some (.int v1), some (.int 0), some (.int 0)]) [true, true, true, true] rfl ?_
  obtain ⟨n4, hw⟩ := hw
  exact t_X12_rightsTo_b4 hC hr hlk hnm n4 hw
end
section
variable {p : Program} {l : Launch} {e : Env} {R : Room} {s : State} {m : MethodId} {args : Array Value} {below : List Frame} {meth : Method} {c : Code} {G : hG} {B mc ms : Nat}
def w_X12_reckon_b72 (q : Int64 → hS → Prop) (S : hS) (v0 : Nat) (v2 : Int64) (v4 : Int64) (t0 : Int32) (t1 : Nat) : Prop := pZ S t1 12 38 t0 (fun S => gI S v0 12 38 (fun x76 => (x76 = 0 → (¬ v4 = 0) ∧ q (v2 / v4) S) ∧ (¬ x76 = 0 → q 0 S)))
set_option maxRecDepth 100000 in
set_option maxHeartbeats 4000000 in
theorem t_X12_reckon_b72 (hC : zC p R s m args c cX12_reckon 6 RX12 G B mc ms 1 60) (hr : meth.sig.returnType = (Option.some FieldType.long)) (hlk : meth.locks = false) (hnm : meth.name = "reckon") {q : Int64 → hS → Prop} {S : hS} {v0 : Nat} {v2 : Int64} {v4 : Int64} {t0 : Int32} {t1 : Nat} (hw : w_X12_reckon_b72 q S v0 v2 v4 t0 t1) : Z p l e R s m args below meth c (MQ below (hQ G B (jP q)) args s mc ms (fun r => B ≤ r)) G B mc ms 6 S 0 0 72 [some (.ref v0), none, some (.long v2), none, some (.long v4), none] [.int t0, .ref t1] := by
  unfold w_X12_reckon_b72 at hw
  refine z_putZ hC FX12 38 lk_1393 dX12_reckon_72 (by decide) rfl rfl hw (fun S hw => ?_)
  refine z_aload_n hC dX12_reckon_75 rfl rfl ?_
  refine z_getI hC FX12 38 lk_1393 dX12_reckon_76 (by decide) hw (fun x76 hw => ?_)
  refine z_if_eq (tgt := 86) hC dX12_reckon_79 (by decide) (fun c79 => ?_) (fun c79 => ?_)
  · have hw := hw.1 c79
    refine z_lload_n hC dX12_reckon_86 rfl rfl ?_
    refine z_lload hC dX12_reckon_87 rfl ?_
    refine z_ldiv hC hw.1 dX12_reckon_89 ?_
    have hw := hw.2
    exact z_lret hC hr hlk dX12_reckon_90 ⟨_, rfl, hw⟩
  · have hw := hw.2 c79
    refine z_lconst hC lc_0 dX12_reckon_82 ?_
    refine z_goto (tgt := 90) hC dX12_reckon_83 (by decide) ?_
    exact z_lret hC hr hlk dX12_reckon_90 ⟨_, rfl, hw⟩
def w_X12_reckon_b104 (q : Int64 → hS → Prop) (S : hS) (v0 : Nat) (v2 : Int64) (v4 : Int64) (t0 : Int32) (t1 : Nat) : Prop := pZ S t1 12 38 t0 (fun S => gI S v0 12 38 (fun x108 => (x108 = 0 → (¬ v4 = 0) ∧ q (v2 - v2 / v4 * v4) S) ∧ (¬ x108 = 0 → q 0 S)))
set_option maxRecDepth 100000 in
set_option maxHeartbeats 4000000 in
theorem t_X12_reckon_b104 (hC : zC p R s m args c cX12_reckon 6 RX12 G B mc ms 1 60) (hr : meth.sig.returnType = (Option.some FieldType.long)) (hlk : meth.locks = false) (hnm : meth.name = "reckon") {q : Int64 → hS → Prop} {S : hS} {v0 : Nat} {v2 : Int64} {v4 : Int64} {t0 : Int32} {t1 : Nat} (hw : w_X12_reckon_b104 q S v0 v2 v4 t0 t1) : Z p l e R s m args below meth c (MQ below (hQ G B (jP q)) args s mc ms (fun r => B ≤ r)) G B mc ms 6 S 0 0 104 [some (.ref v0), none, some (.long v2), none, some (.long v4), none] [.int t0, .ref t1] := by
  unfold w_X12_reckon_b104 at hw
  refine z_putZ hC FX12 38 lk_1393 dX12_reckon_104 (by decide) rfl rfl hw (fun S hw => ?_)
  refine z_aload_n hC dX12_reckon_107 rfl rfl ?_
  refine z_getI hC FX12 38 lk_1393 dX12_reckon_108 (by decide) hw (fun x108 hw => ?_)
  refine z_if_eq (tgt := 118) hC dX12_reckon_111 (by decide) (fun c111 => ?_) (fun c111 => ?_)
  · have hw := hw.1 c111
    refine z_lload_n hC dX12_reckon_118 rfl rfl ?_
    refine z_lload hC dX12_reckon_119 rfl ?_
    refine z_lrem hC hw.1 dX12_reckon_121 ?_
    have hw := hw.2
    exact z_lret hC hr hlk dX12_reckon_122 ⟨_, rfl, hw⟩
  · have hw := hw.2 c111
    refine z_lconst hC lc_0 dX12_reckon_114 ?_
    refine z_goto (tgt := 122) hC dX12_reckon_115 (by decide) ?_
    exact z_lret hC hr hlk dX12_reckon_122 ⟨_, rfl, hw⟩
def w_X12_reckon (q : Int64 → hS → Prop) (S : hS) (v0 : Nat) (v1 : Int32) (v2 : Int64) (v4 : Int64) : Prop := ∀ y1 : Int32, y1 = v1 → ((y1.toInt = 20 → q (v2 + v4) S) ∧ (y1.toInt = 21 → q (v2 - v4) S) ∧ (y1.toInt = 22 → q (v2 * v4) S) ∧ (y1.toInt = 23 → (¬ (lg_cmp v4 0) = 0 → w_X12_reckon_b72 q S v0 v2 v4 0 v0) ∧ ((lg_cmp v4 0) = 0 → w_X12_reckon_b72 q S v0 v2 v4 1 v0)) ∧ (y1.toInt = 24 → (¬ (lg_cmp v4 0) = 0 → w_X12_reckon_b104 q S v0 v2 v4 0 v0) ∧ ((lg_cmp v4 0) = 0 → w_X12_reckon_b104 q S v0 v2 v4 1 v0)) ∧ (y1.toInt = 25 → (0 ≤ (lg_cmp v2 v4) → q 0 S) ∧ (¬ 0 ≤ (lg_cmp v2 v4) → q 1 S)) ∧ (y1.toInt = 26 → ((lg_cmp v2 v4) ≤ 0 → q 0 S) ∧ (¬ (lg_cmp v2 v4) ≤ 0 → q 1 S)) ∧ ((y1.toInt < 20 ∨ 26 < y1.toInt) → (¬ (lg_cmp v2 v4) = 0 → q 0 S) ∧ ((lg_cmp v2 v4) = 0 → q 1 S)))
set_option maxRecDepth 100000 in
set_option maxHeartbeats 4000000 in
theorem c_X12_reckon (l : Launch) (G : hG) (B : Nat) (S : hS) (v0 : Nat) (v1 : Int32) (v2 : Int64) (v4 : Int64) (q : Int64 → hS → Prop) : Met l yX12_reckon (hws yX12_reckon cX12_reckon 6 (Option.some FieldType.long)) ({ frames := 1, cells := 0, slots := 0, locals := 60 }) (hPc G B S [.ref v0, .int v1, .long v2, .long v4] (w_X12_reckon q S v0 v1 v2 v4)) (hQ G B (jP q)) (0) (0) (fun r => B ≤ r) := by
  refine hMet (rm := { frames := 1, cells := 0, slots := 0, locals := 60 }) (lv := [some (.ref v0), some (.int v1), some (.long v2), none, some (.long v4), none]) (own := RX12) (fr := 1) (lo := 60) (by decide) rfl rfl rfl (Nat.le_of_ble_eq_true rfl) rfl (fun hw p e R s m args below meth c hC hr hlk hnm => ?_)
  unfold w_X12_reckon at hw
  refine z_iload_n hC dX12_reckon_0 rfl rfl ?_
  refine z_nmI (fun y1 e1 => ?_)
  have hw := hw y1 e1
  by_cases q1_0 : y1.toInt = 20
  · have hw := hw.1 q1_0
    refine z_tabIn (tgt := 44) (off := 43) hC 20 dX12_reckon_1 q1_0 (by decide) rfl (by decide) ?_
    refine z_lload_n hC dX12_reckon_44 rfl rfl ?_
    refine z_lload hC dX12_reckon_45 rfl ?_
    refine z_ladd hC dX12_reckon_47 ?_
    exact z_lret hC hr hlk dX12_reckon_48 ⟨_, rfl, hw⟩
  by_cases q1_1 : y1.toInt = 21
  · have hw := hw.2.1 q1_1
    refine z_tabIn (tgt := 49) (off := 48) hC 21 dX12_reckon_1 q1_1 (by decide) rfl (by decide) ?_
    refine z_lload_n hC dX12_reckon_49 rfl rfl ?_
    refine z_lload hC dX12_reckon_50 rfl ?_
    refine z_lsub hC dX12_reckon_52 ?_
    exact z_lret hC hr hlk dX12_reckon_53 ⟨_, rfl, hw⟩
  by_cases q1_2 : y1.toInt = 22
  · have hw := hw.2.2.1 q1_2
    refine z_tabIn (tgt := 54) (off := 53) hC 22 dX12_reckon_1 q1_2 (by decide) rfl (by decide) ?_
    refine z_lload_n hC dX12_reckon_54 rfl rfl ?_
    refine z_lload hC dX12_reckon_55 rfl ?_
    refine z_lmul hC dX12_reckon_57 ?_
    exact z_lret hC hr hlk dX12_reckon_58 ⟨_, rfl, hw⟩
  by_cases q1_3 : y1.toInt = 23
  · have hw := hw.2.2.2.1 q1_3
    refine z_tabIn (tgt := 59) (off := 58) hC 23 dX12_reckon_1 q1_3 (by decide) rfl (by decide) ?_
    refine z_aload_n hC dX12_reckon_59 rfl rfl ?_
    refine z_lload hC dX12_reckon_60 rfl ?_
    refine z_lconst hC lc_0 dX12_reckon_62 ?_
    refine z_lcmp hC dX12_reckon_63 ?_
    refine z_if_ne (tgt := 71) hC dX12_reckon_64 (by decide) (fun c64 => ?_) (fun c64 => ?_)
    · have hw := hw.1 c64
      refine z_iconst hC ic_0 dX12_reckon_71 ?_
      refine z_mask (lv' := [some (.ref v0), none, some (.long v2), none, some (.long v4), none]) [true, false, true, false, true, false] rfl ?_
      exact t_X12_reckon_b72 hC hr hlk hnm hw
    · have hw := hw.2 c64
      refine z_iconst hC ic_1 dX12_reckon_67 ?_
      refine z_goto (tgt := 72) hC dX12_reckon_68 (by decide) ?_
      refine z_mask (lv' := [some (.ref v0), none, some (.long v2), none, some (.long v4), none]) [true, false, true, false, true, false] rfl ?_
      exact t_X12_reckon_b72 hC hr hlk hnm hw
  by_cases q1_4 : y1.toInt = 24
  · have hw := hw.2.2.2.2.1 q1_4
    refine z_tabIn (tgt := 91) (off := 90) hC 24 dX12_reckon_1 q1_4 (by decide) rfl (by decide) ?_
    refine z_aload_n hC dX12_reckon_91 rfl rfl ?_
    refine z_lload hC dX12_reckon_92 rfl ?_
    refine z_lconst hC lc_0 dX12_reckon_94 ?_
    refine z_lcmp hC dX12_reckon_95 ?_
    refine z_if_ne (tgt := 103) hC dX12_reckon_96 (by decide) (fun c96 => ?_) (fun c96 => ?_)
    · have hw := hw.1 c96
      refine z_iconst hC ic_0 dX12_reckon_103 ?_
      refine z_mask (lv' := [some (.ref v0), none, some (.long v2), none, some (.long v4), none]) [true, false, true, false, true, false] rfl ?_
      exact t_X12_reckon_b104 hC hr hlk hnm hw
    · have hw := hw.2 c96
      refine z_iconst hC ic_1 dX12_reckon_99 ?_
      refine z_goto (tgt := 104) hC dX12_reckon_100 (by decide) ?_
      refine z_mask (lv' := [some (.ref v0), none, some (.long v2), none, some (.long v4), none]) [true, false, true, false, true, false] rfl ?_
      exact t_X12_reckon_b104 hC hr hlk hnm hw
  by_cases q1_5 : y1.toInt = 25
  · have hw := hw.2.2.2.2.2.1 q1_5
    refine z_tabIn (tgt := 123) (off := 122) hC 25 dX12_reckon_1 q1_5 (by decide) rfl (by decide) ?_
    refine z_lload_n hC dX12_reckon_123 rfl rfl ?_
    refine z_lload hC dX12_reckon_124 rfl ?_
    refine z_lcmp hC dX12_reckon_126 ?_
    refine z_if_ge (tgt := 134) hC dX12_reckon_127 (by decide) (fun c127 => ?_) (fun c127 => ?_)
    · have hw := hw.1 c127
      refine z_lconst hC lc_0 dX12_reckon_134 ?_
      exact z_lret hC hr hlk dX12_reckon_135 ⟨_, rfl, hw⟩
    · have hw := hw.2 c127
      refine z_lconst hC lc_1 dX12_reckon_130 ?_
      refine z_goto (tgt := 135) hC dX12_reckon_131 (by decide) ?_
      exact z_lret hC hr hlk dX12_reckon_135 ⟨_, rfl, hw⟩
  by_cases q1_6 : y1.toInt = 26
  · have hw := hw.2.2.2.2.2.2.1 q1_6
    refine z_tabIn (tgt := 136) (off := 135) hC 26 dX12_reckon_1 q1_6 (by decide) rfl (by decide) ?_
    refine z_lload_n hC dX12_reckon_136 rfl rfl ?_
    refine z_lload hC dX12_reckon_137 rfl ?_
    refine z_lcmp hC dX12_reckon_139 ?_
    refine z_if_le (tgt := 147) hC dX12_reckon_140 (by decide) (fun c140 => ?_) (fun c140 => ?_)
    · have hw := hw.1 c140
      refine z_lconst hC lc_0 dX12_reckon_147 ?_
      exact z_lret hC hr hlk dX12_reckon_148 ⟨_, rfl, hw⟩
    · have hw := hw.2 c140
      refine z_lconst hC lc_1 dX12_reckon_143 ?_
      refine z_goto (tgt := 148) hC dX12_reckon_144 (by decide) ?_
      exact z_lret hC hr hlk dX12_reckon_148 ⟨_, rfl, hw⟩
  have o1 : y1.toInt < 20 ∨ 26 < y1.toInt := by omega
  have hw := hw.2.2.2.2.2.2.2 o1
  refine z_tabOut (tgt := 149) hC dX12_reckon_1 o1 (by decide) ?_
  refine z_lload_n hC dX12_reckon_149 rfl rfl ?_
  refine z_lload hC dX12_reckon_150 rfl ?_
  refine z_lcmp hC dX12_reckon_152 ?_
  refine z_if_ne (tgt := 160) hC dX12_reckon_153 (by decide) (fun c153 => ?_) (fun c153 => ?_)
  · have hw := hw.1 c153
    refine z_lconst hC lc_0 dX12_reckon_160 ?_
    exact z_lret hC hr hlk dX12_reckon_161 ⟨_, rfl, hw⟩
  · have hw := hw.2 c153
    refine z_lconst hC lc_1 dX12_reckon_156 ?_
    refine z_goto (tgt := 161) hC dX12_reckon_157 (by decide) ?_
    exact z_lret hC hr hlk dX12_reckon_161 ⟨_, rfl, hw⟩
end
section
variable {p : Program} {l : Launch} {e : Env} {R : Room} {s : State} {m : MethodId} {args : Array Value} {below : List Frame} {meth : Method} {c : Code} {G : hG} {B mc ms : Nat}
def w_X12_reckonAll_b378 (q : hS → Prop) (K10 : hS → (Nat) → (Int32) → (Int32) → (Int32) → Prop) (S : hS) (v0 : Nat) (v2 : Int32) (v3 : Int32) (v4 : Int32) : Prop := K10 S v0 v2 v3 v4
set_option maxRecDepth 100000 in
set_option maxHeartbeats 4000000 in
theorem t_X12_reckonAll_b378 (hC : zC p R s m args c cX12_reckonAll 7 RX12 G B mc ms 4 127) (hr : meth.sig.returnType = (Option.none : Option FieldType)) (hlk : meth.locks = false) (hnm : meth.name = "reckonAll") {q : hS → Prop} {K10 : hS → (Nat) → (Int32) → (Int32) → (Int32) → Prop} (hK10 : ∀ {S : hS} {v0 : Nat} {v2 : Int32} {v3 : Int32} {v4 : Int32}, K10 S v0 v2 v3 v4 → Z p l e R s m args below meth c (MQ below (hQ G B (vP q)) args s mc ms (fun r => B ≤ r)) G B mc ms 7 S 0 0 10 [some (.ref v0), none, some (.int v2), some (.int v3), some (.int v4), none, none] []) {S : hS} {v0 : Nat} {v2 : Int32} {v3 : Int32} {v4 : Int32} (hw : w_X12_reckonAll_b378 q K10 S v0 v2 v3 v4) : Z p l e R s m args below meth c (MQ below (hQ G B (vP q)) args s mc ms (fun r => B ≤ r)) G B mc ms 7 S 0 0 378 [some (.ref v0), none, some (.int v2), some (.int v3), some (.int v4), none, none] [] := by
  unfold w_X12_reckonAll_b378 at hw
  refine z_goto (tgt := 10) hC dX12_reckonAll_378 (by decide) ?_
  refine z_mask (lv' := [some (.ref v0), none, some (.int v2), some (.int v3), some (.int v4), none, none]) [true, false, true, true, true, false, false] rfl ?_
  exact hK10 hw
def w_X12_reckonAll_b232 (q : hS → Prop) (K10 : hS → (Nat) → (Int32) → (Int32) → (Int32) → Prop) (S : hS) (v0 : Nat) (v2 : Int32) (v3 : Int32) (v4 : Int32) (t0 : Int64) (t1 : Int32) (t2 : Nat) : Prop := sJ S t2 t1 t0 (fun S => ∀ y233 : Int32, y233 = v3 + 1 → w_X12_reckonAll_b378 q K10 S v0 v2 y233 v4)
set_option maxRecDepth 100000 in
set_option maxHeartbeats 4000000 in
theorem t_X12_reckonAll_b232 (hC : zC p R s m args c cX12_reckonAll 7 RX12 G B mc ms 4 127) (hr : meth.sig.returnType = (Option.none : Option FieldType)) (hlk : meth.locks = false) (hnm : meth.name = "reckonAll") {q : hS → Prop} {K10 : hS → (Nat) → (Int32) → (Int32) → (Int32) → Prop} (hK10 : ∀ {S : hS} {v0 : Nat} {v2 : Int32} {v3 : Int32} {v4 : Int32}, K10 S v0 v2 v3 v4 → Z p l e R s m args below meth c (MQ below (hQ G B (vP q)) args s mc ms (fun r => B ≤ r)) G B mc ms 7 S 0 0 10 [some (.ref v0), none, some (.int v2), some (.int v3), some (.int v4), none, none] []) {S : hS} {v0 : Nat} {v2 : Int32} {v3 : Int32} {v4 : Int32} {t0 : Int64} {t1 : Int32} {t2 : Nat} (hw : w_X12_reckonAll_b232 q K10 S v0 v2 v3 v4 t0 t1 t2) : Z p l e R s m args below meth c (MQ below (hQ G B (vP q)) args s mc ms (fun r => B ≤ r)) G B mc ms 7 S 0 0 232 [some (.ref v0), none, some (.int v2), some (.int v3), some (.int v4), none, none] [.long t0, .int t1, .ref t2] := by
  unfold w_X12_reckonAll_b232 at hw
  refine z_astJ hC dX12_reckonAll_232 hw (fun S hw => ?_)
  refine z_inc (i := 3) hC ic_1 dX12_reckonAll_233 rfl (by decide) (hok_v rfl rfl) (fun y233 e233 => ?_)
  have hw := hw y233 e233
  refine z_goto (tgt := 378) hC dX12_reckonAll_236 (by decide) ?_
  refine z_mask (lv' := [some (.ref v0), none, some (.int v2), some (.int y233), some (.int v4), none, none]) [true, false, true, true, true, false, false] rfl ?_
  exact t_X12_reckonAll_b378 hC hr hlk hnm hK10 hw
def w_X12_reckonAll_b186 (q : hS → Prop) (K10 : hS → (Nat) → (Int32) → (Int32) → (Int32) → Prop) (S : hS) (v0 : Nat) (v2 : Int32) (v3 : Int32) (v4 : Int32) (t0 : Int32) (t1 : Int32) (t2 : Nat) : Prop := w_X12_reckonAll_b232 q K10 S v0 v2 v3 v4 (Int32.toInt64 t0) t1 t2
set_option maxRecDepth 100000 in
set_option maxHeartbeats 4000000 in
theorem t_X12_reckonAll_b186 (hC : zC p R s m args c cX12_reckonAll 7 RX12 G B mc ms 4 127) (hr : meth.sig.returnType = (Option.none : Option FieldType)) (hlk : meth.locks = false) (hnm : meth.name = "reckonAll") {q : hS → Prop} {K10 : hS → (Nat) → (Int32) → (Int32) → (Int32) → Prop} (hK10 : ∀ {S : hS} {v0 : Nat} {v2 : Int32} {v3 : Int32} {v4 : Int32}, K10 S v0 v2 v3 v4 → Z p l e R s m args below meth c (MQ below (hQ G B (vP q)) args s mc ms (fun r => B ≤ r)) G B mc ms 7 S 0 0 10 [some (.ref v0), none, some (.int v2), some (.int v3), some (.int v4), none, none] []) {S : hS} {v0 : Nat} {v2 : Int32} {v3 : Int32} {v4 : Int32} {t0 : Int32} {t1 : Int32} {t2 : Nat} (hw : w_X12_reckonAll_b186 q K10 S v0 v2 v3 v4 t0 t1 t2) : Z p l e R s m args below meth c (MQ below (hQ G B (vP q)) args s mc ms (fun r => B ≤ r)) G B mc ms 7 S 0 0 186 [some (.ref v0), none, some (.int v2), some (.int v3), some (.int v4), none, none] [.int t0, .int t1, .ref t2] := by
  unfold w_X12_reckonAll_b186 at hw
  refine z_i2l hC rfl dX12_reckonAll_186 ?_
  refine z_goto (tgt := 232) hC dX12_reckonAll_187 (by decide) ?_
  refine z_mask (lv' := [some (.ref v0), none, some (.int v2), some (.int v3), some (.int v4), none, none]) [true, false, true, true, true, false, false] rfl ?_
  exact t_X12_reckonAll_b232 hC hr hlk hnm hK10 hw
def w_X12_reckonAll_b310 (q : hS → Prop) (K10 : hS → (Nat) → (Int32) → (Int32) → (Int32) → Prop) (S : hS) (v0 : Nat) (v2 : Int32) (v3 : Int32) (v4 : Int32) (t0 : Int32) (t1 : Nat) : Prop := pZ S t1 12 38 t0 (fun S => w_X12_reckonAll_b378 q K10 S v0 v2 v3 v4)
set_option maxRecDepth 100000 in
set_option maxHeartbeats 4000000 in
theorem t_X12_reckonAll_b310 (hC : zC p R s m args c cX12_reckonAll 7 RX12 G B mc ms 4 127) (hr : meth.sig.returnType = (Option.none : Option FieldType)) (hlk : meth.locks = false) (hnm : meth.name = "reckonAll") {q : hS → Prop} {K10 : hS → (Nat) → (Int32) → (Int32) → (Int32) → Prop} (hK10 : ∀ {S : hS} {v0 : Nat} {v2 : Int32} {v3 : Int32} {v4 : Int32}, K10 S v0 v2 v3 v4 → Z p l e R s m args below meth c (MQ below (hQ G B (vP q)) args s mc ms (fun r => B ≤ r)) G B mc ms 7 S 0 0 10 [some (.ref v0), none, some (.int v2), some (.int v3), some (.int v4), none, none] []) {S : hS} {v0 : Nat} {v2 : Int32} {v3 : Int32} {v4 : Int32} {t0 : Int32} {t1 : Nat} (hw : w_X12_reckonAll_b310 q K10 S v0 v2 v3 v4 t0 t1) : Z p l e R s m args below meth c (MQ below (hQ G B (vP q)) args s mc ms (fun r => B ≤ r)) G B mc ms 7 S 0 0 310 [some (.ref v0), none, some (.int v2), some (.int v3), some (.int v4), none, none] [.int t0, .ref t1] := by
  unfold w_X12_reckonAll_b310 at hw
  refine z_putZ hC FX12 38 lk_1393 dX12_reckonAll_310 (by decide) rfl rfl hw (fun S hw => ?_)
  refine z_goto (tgt := 378) hC dX12_reckonAll_313 (by decide) ?_
  refine z_mask (lv' := [some (.ref v0), none, some (.int v2), some (.int v3), some (.int v4), none, none]) [true, false, true, true, true, false, false] rfl ?_
  exact t_X12_reckonAll_b378 hC hr hlk hnm hK10 hw
def w_X12_reckonAll_b305 (q : hS → Prop) (K10 : hS → (Nat) → (Int32) → (Int32) → (Int32) → Prop) (S : hS) (v0 : Nat) (v2 : Int32) (v3 : Int32) (v4 : Int32) (t0 : Nat) : Prop := w_X12_reckonAll_b310 q K10 S v0 v2 v3 v4 1 t0
set_option maxRecDepth 100000 in
set_option maxHeartbeats 4000000 in
theorem t_X12_reckonAll_b305 (hC : zC p R s m args c cX12_reckonAll 7 RX12 G B mc ms 4 127) (hr : meth.sig.returnType = (Option.none : Option FieldType)) (hlk : meth.locks = false) (hnm : meth.name = "reckonAll") {q : hS → Prop} {K10 : hS → (Nat) → (Int32) → (Int32) → (Int32) → Prop} (hK10 : ∀ {S : hS} {v0 : Nat} {v2 : Int32} {v3 : Int32} {v4 : Int32}, K10 S v0 v2 v3 v4 → Z p l e R s m args below meth c (MQ below (hQ G B (vP q)) args s mc ms (fun r => B ≤ r)) G B mc ms 7 S 0 0 10 [some (.ref v0), none, some (.int v2), some (.int v3), some (.int v4), none, none] []) {S : hS} {v0 : Nat} {v2 : Int32} {v3 : Int32} {v4 : Int32} {t0 : Nat} (hw : w_X12_reckonAll_b305 q K10 S v0 v2 v3 v4 t0) : Z p l e R s m args below meth c (MQ below (hQ G B (vP q)) args s mc ms (fun r => B ≤ r)) G B mc ms 7 S 0 0 305 [some (.ref v0), none, some (.int v2), some (.int v3), some (.int v4), none, none] [.ref t0] := by
  unfold w_X12_reckonAll_b305 at hw
  refine z_iconst hC ic_1 dX12_reckonAll_305 ?_
  refine z_goto (tgt := 310) hC dX12_reckonAll_306 (by decide) ?_
  refine z_mask (lv' := [some (.ref v0), none, some (.int v2), some (.int v3), some (.int v4), none, none]) [true, false, true, true, true, false, false] rfl ?_
  exact t_X12_reckonAll_b310 hC hr hlk hnm hK10 hw
def w_X12_reckonAll_b364 (q : hS → Prop) (K10 : hS → (Nat) → (Int32) → (Int32) → (Int32) → Prop) (S : hS) (v0 : Nat) (v2 : Int32) (v3 : Int32) (v4 : Int32) (v6 : Int32) (t0 : Int64) (t1 : Int64) : Prop := (¬ (lg_cmp t1 t0) = 0 → ∀ y375 : Int32, y375 = v3 + (-1) → w_X12_reckonAll_b378 q K10 S v0 v2 y375 v4) ∧ ((lg_cmp t1 t0) = 0 → w_X12_reckonAll_b378 q K10 S v0 v2 v3 v6)
set_option maxRecDepth 100000 in
set_option maxHeartbeats 4000000 in
theorem t_X12_reckonAll_b364 (hC : zC p R s m args c cX12_reckonAll 7 RX12 G B mc ms 4 127) (hr : meth.sig.returnType = (Option.none : Option FieldType)) (hlk : meth.locks = false) (hnm : meth.name = "reckonAll") {q : hS → Prop} {K10 : hS → (Nat) → (Int32) → (Int32) → (Int32) → Prop} (hK10 : ∀ {S : hS} {v0 : Nat} {v2 : Int32} {v3 : Int32} {v4 : Int32}, K10 S v0 v2 v3 v4 → Z p l e R s m args below meth c (MQ below (hQ G B (vP q)) args s mc ms (fun r => B ≤ r)) G B mc ms 7 S 0 0 10 [some (.ref v0), none, some (.int v2), some (.int v3), some (.int v4), none, none] []) {S : hS} {v0 : Nat} {v2 : Int32} {v3 : Int32} {v4 : Int32} {v6 : Int32} {t0 : Int64} {t1 : Int64} (hw : w_X12_reckonAll_b364 q K10 S v0 v2 v3 v4 v6 t0 t1) : Z p l e R s m args below meth c (MQ below (hQ G B (vP q)) args s mc ms (fun r => B ≤ r)) G B mc ms 7 S 0 0 364 [some (.ref v0), none, some (.int v2), some (.int v3), some (.int v4), none, some (.int v6)] [.long t0, .long t1] := by
  unfold w_X12_reckonAll_b364 at hw
  refine z_lcmp hC dX12_reckonAll_364 ?_
  refine z_if_ne (tgt := 375) hC dX12_reckonAll_365 (by decide) (fun c365 => ?_) (fun c365 => ?_)
  · have hw := hw.1 c365
    refine z_inc (i := 3) hC ic_m1 dX12_reckonAll_375 rfl (by decide) (hok_v rfl rfl) (fun y375 e375 => ?_)
    have hw := hw y375 e375
    refine z_mask (lv' := [some (.ref v0), none, some (.int v2), some (.int y375), some (.int v4), none, none]) [true, false, true, true, true, false, false] rfl ?_
    exact t_X12_reckonAll_b378 hC hr hlk hnm hK10 hw
  · have hw := hw.2 c365
    refine z_iload hC dX12_reckonAll_368 rfl ?_
    refine z_istore (i := 4) (lv' := [some (.ref v0), none, some (.int v2), some (.int v3), some (.int v6), none, some (.int v6)]) hC dX12_reckonAll_370 (by decide) (hok_v rfl rfl) rfl ?_
    refine z_goto (tgt := 378) hC dX12_reckonAll_372 (by decide) ?_
    refine z_mask (lv' := [some (.ref v0), none, some (.int v2), some (.int v3), some (.int v6), none, none]) [true, false, true, true, true, false, false] rfl ?_
    exact t_X12_reckonAll_b378 hC hr hlk hnm hK10 hw
def w_X12_reckonAll_b95 (q : hS → Prop) (K10 : hS → (Nat) → (Int32) → (Int32) → (Int32) → Prop) (S : hS) (v0 : Nat) (v2 : Int32) (v3 : Int32) (v4 : Int32) (v5 : Int32) (t0 : Int32) : Prop := ∀ y97 : Int32, y97 = v4 + 1 → (20 ≤ v5 → (28 ≤ v5 → (¬ v5 = 28 → gP S v0 12 37 (fun x345 => aJ S x345 (v3 - 1) (fun x351 => (¬ v5 = 29 → w_X12_reckonAll_b364 q K10 S v0 v2 v3 y97 t0 1 x351) ∧ (v5 = 29 → w_X12_reckonAll_b364 q K10 S v0 v2 v3 y97 t0 0 x351)))) ∧ (v5 = 28 → gP S v0 12 37 (fun x324 => gP S v0 12 37 (fun x332 => aJ S x332 (v3 - 1) (fun x338 => sJ S x324 (v3 - 1) (1 - x338) (fun S => w_X12_reckonAll_b378 q K10 S v0 v2 v3 y97)))))) ∧ (¬ 28 ≤ v5 → ∀ y246 : Int32, y246 = v3 + (-1) → gP S v0 12 37 (fun x250 => gP S v0 12 37 (fun x260 => aJ S x260 (y246 - 1) (fun x266 => gP S v0 12 37 (fun x268 => aJ S x268 y246 (fun x272 => oK S v0 12 ∧ w_X12_reckon (fun x273 S => sJ S x250 (y246 - 1) x273 (fun S => gI S v0 12 38 (fun x279 => (¬ x279 = 0 → w_X12_reckonAll_b305 q K10 S v0 v2 y246 y97 v0) ∧ (x279 = 0 → gP S v0 12 37 (fun x286 => aJ S x286 (y246 - 1) (fun x292 => w_X12_in (fun x299 S => (¬ x299 = 0 → w_X12_reckonAll_b310 q K10 S v0 v2 y246 y97 0 v0) ∧ (x299 = 0 → w_X12_reckonAll_b305 q K10 S v0 v2 y246 y97 v0)) S x292 (-1000000000) 1000000000)))))) S v0 v5 x266 x272))))))) ∧ (¬ 20 ≤ v5 → gP S v0 12 37 (fun x108 => (¬ v5 = 0 → gI S v0 12 20 (fun x124 => (¬ x124 = 0 → (5 ≤ v5 → (¬ v5 = 7 → oK S v0 12 ∧ w_X12_isPerson (fun x193 S => (¬ x193 = 0 → (¬ v5 = 5 → oK S v0 12 ∧ w_X12_leftOfAll (fun x228 S => w_X12_reckonAll_b232 q K10 S v0 v2 v3 y97 (Int32.toInt64 x228) v3 x108) S v0 t0) ∧ (v5 = 5 → gP S v0 12 3 (fun x212 => aI S x212 (14 + t0) (fun x220 => w_X12_reckonAll_b232 q K10 S v0 v2 v3 y97 (Int32.toInt64 x220) v3 x108)))) ∧ (x193 = 0 → w_X12_reckonAll_b232 q K10 S v0 v2 v3 y97 (-1) v3 x108)) S v0 t0) ∧ (v5 = 7 → oK S v0 12 ∧ w_X12_isHouse (fun x166 S => (x166 = 0 → w_X12_reckonAll_b186 q K10 S v0 v2 v3 y97 (-1) v3 x108) ∧ (¬ x166 = 0 → gP S v0 12 3 (fun x173 => aI S x173 (8 + t0) (fun x181 => w_X12_reckonAll_b186 q K10 S v0 v2 v3 y97 x181 v3 x108)))) S v0 t0)) ∧ (¬ 5 ≤ v5 → gP S v0 12 36 (fun x147 => aJ S x147 v5 (fun x152 => w_X12_reckonAll_b232 q K10 S v0 v2 v3 y97 x152 v3 x108)))) ∧ (x124 = 0 → gP S v0 12 35 (fun x131 => aJ S x131 v5 (fun x136 => w_X12_reckonAll_b232 q K10 S v0 v2 v3 y97 x136 v3 x108))))) ∧ (v5 = 0 → w_X12_reckonAll_b232 q K10 S v0 v2 v3 y97 (Int32.toInt64 t0) v3 x108)))
set_option maxRecDepth 100000 in
set_option maxHeartbeats 4000000 in
theorem t_X12_reckonAll_b95 (hC : zC p R s m args c cX12_reckonAll 7 RX12 G B mc ms 4 127) (hr : meth.sig.returnType = (Option.none : Option FieldType)) (hlk : meth.locks = false) (hnm : meth.name = "reckonAll") {q : hS → Prop} {K10 : hS → (Nat) → (Int32) → (Int32) → (Int32) → Prop} (hK10 : ∀ {S : hS} {v0 : Nat} {v2 : Int32} {v3 : Int32} {v4 : Int32}, K10 S v0 v2 v3 v4 → Z p l e R s m args below meth c (MQ below (hQ G B (vP q)) args s mc ms (fun r => B ≤ r)) G B mc ms 7 S 0 0 10 [some (.ref v0), none, some (.int v2), some (.int v3), some (.int v4), none, none] []) {S : hS} {v0 : Nat} {v2 : Int32} {v3 : Int32} {v4 : Int32} {v5 : Int32} {t0 : Int32} (hw : w_X12_reckonAll_b95 q K10 S v0 v2 v3 v4 v5 t0) : Z p l e R s m args below meth c (MQ below (hQ G B (vP q)) args s mc ms (fun r => B ≤ r)) G B mc ms 7 S 0 0 95 [some (.ref v0), none, some (.int v2), some (.int v3), some (.int v4), some (.int v5), none] [.int t0] := by
  unfold w_X12_reckonAll_b95 at hw
  refine z_istore (i := 6) (lv' := [some (.ref v0), none, some (.int v2), some (.int v3), some (.int v4), some (.int v5), some (.int t0)]) hC dX12_reckonAll_95 (by decide) (hok_v rfl rfl) rfl ?_
  refine z_inc (i := 4) hC ic_1 dX12_reckonAll_97 rfl (by decide) (hok_v rfl rfl) (fun y97 e97 => ?_)
  have hw := hw y97 e97
  refine z_iload hC dX12_reckonAll_100 rfl ?_
  refine z_bipush hC bi_20 dX12_reckonAll_102 ?_
  refine z_icmp_ge (tgt := 239) hC dX12_reckonAll_104 (by decide) (fun c104 => ?_) (fun c104 => ?_)
  · have hw := hw.1 c104
    refine z_iload hC dX12_reckonAll_239 rfl ?_
    refine z_bipush hC bi_28 dX12_reckonAll_241 ?_
    refine z_icmp_ge (tgt := 316) hC dX12_reckonAll_243 (by decide) (fun c243 => ?_) (fun c243 => ?_)
    · have hw := hw.1 c243
      refine z_iload hC dX12_reckonAll_316 rfl ?_
      refine z_bipush hC bi_28 dX12_reckonAll_318 ?_
      refine z_icmp_ne (tgt := 344) hC dX12_reckonAll_320 (by decide) (fun c320 => ?_) (fun c320 => ?_)
      · have hw := hw.1 c320
        refine z_aload_n hC dX12_reckonAll_344 rfl rfl ?_
        refine z_getP hC FX12 37 lk_1392 dX12_reckonAll_345 (by decide) hw (fun x345 hw => ?_)
        refine z_iload_n hC dX12_reckonAll_348 rfl rfl ?_
        refine z_iconst hC ic_1 dX12_reckonAll_349 ?_
        refine z_isub hC dX12_reckonAll_350 ?_
        refine z_aldJ hC dX12_reckonAll_351 hw (fun x351 hw => ?_)
        refine z_iload hC dX12_reckonAll_352 rfl ?_
        refine z_bipush hC bi_29 dX12_reckonAll_354 ?_
        refine z_icmp_ne (tgt := 363) hC dX12_reckonAll_356 (by decide) (fun c356 => ?_) (fun c356 => ?_)
        · have hw := hw.1 c356
          refine z_lconst hC lc_1 dX12_reckonAll_363 ?_
          refine z_mask (lv' := [some (.ref v0), none, some (.int v2), some (.int v3), some (.int y97), none, some (.int t0)]) [true, false, true, true, true, false, true] rfl ?_
          exact t_X12_reckonAll_b364 hC hr hlk hnm hK10 hw
        · have hw := hw.2 c356
          refine z_lconst hC lc_0 dX12_reckonAll_359 ?_
          refine z_goto (tgt := 364) hC dX12_reckonAll_360 (by decide) ?_
          refine z_mask (lv' := [some (.ref v0), none, some (.int v2), some (.int v3), some (.int y97), none, some (.int t0)]) [true, false, true, true, true, false, true] rfl ?_
          exact t_X12_reckonAll_b364 hC hr hlk hnm hK10 hw
      · have hw := hw.2 c320
        refine z_aload_n hC dX12_reckonAll_323 rfl rfl ?_
        refine z_getP hC FX12 37 lk_1392 dX12_reckonAll_324 (by decide) hw (fun x324 hw => ?_)
        refine z_iload_n hC dX12_reckonAll_327 rfl rfl ?_
        refine z_iconst hC ic_1 dX12_reckonAll_328 ?_
        refine z_isub hC dX12_reckonAll_329 ?_
        refine z_lconst hC lc_1 dX12_reckonAll_330 ?_
        refine z_aload_n hC dX12_reckonAll_331 rfl rfl ?_
        refine z_getP hC FX12 37 lk_1392 dX12_reckonAll_332 (by decide) hw (fun x332 hw => ?_)
        refine z_iload_n hC dX12_reckonAll_335 rfl rfl ?_
        refine z_iconst hC ic_1 dX12_reckonAll_336 ?_
        refine z_isub hC dX12_reckonAll_337 ?_
        refine z_aldJ hC dX12_reckonAll_338 hw (fun x338 hw => ?_)
        refine z_lsub hC dX12_reckonAll_339 ?_
        refine z_astJ hC dX12_reckonAll_340 hw (fun S hw => ?_)
        refine z_goto (tgt := 378) hC dX12_reckonAll_341 (by decide) ?_
        refine z_mask (lv' := [some (.ref v0), none, some (.int v2), some (.int v3), some (.int y97), none, none]) [true, false, true, true, true, false, false] rfl ?_
        exact t_X12_reckonAll_b378 hC hr hlk hnm hK10 hw
    · have hw := hw.2 c243
      refine z_inc (i := 3) hC ic_m1 dX12_reckonAll_246 rfl (by decide) (hok_v rfl rfl) (fun y246 e246 => ?_)
      have hw := hw y246 e246
      refine z_aload_n hC dX12_reckonAll_249 rfl rfl ?_
      refine z_getP hC FX12 37 lk_1392 dX12_reckonAll_250 (by decide) hw (fun x250 hw => ?_)
      refine z_iload_n hC dX12_reckonAll_253 rfl rfl ?_
      refine z_iconst hC ic_1 dX12_reckonAll_254 ?_
      refine z_isub hC dX12_reckonAll_255 ?_
      refine z_aload_n hC dX12_reckonAll_256 rfl rfl ?_
      refine z_iload hC dX12_reckonAll_257 rfl ?_
      refine z_aload_n hC dX12_reckonAll_259 rfl rfl ?_
      refine z_getP hC FX12 37 lk_1392 dX12_reckonAll_260 (by decide) hw (fun x260 hw => ?_)
      refine z_iload_n hC dX12_reckonAll_263 rfl rfl ?_
      refine z_iconst hC ic_1 dX12_reckonAll_264 ?_
      refine z_isub hC dX12_reckonAll_265 ?_
      refine z_aldJ hC dX12_reckonAll_266 hw (fun x266 hw => ?_)
      refine z_aload_n hC dX12_reckonAll_267 rfl rfl ?_
      refine z_getP hC FX12 37 lk_1392 dX12_reckonAll_268 (by decide) hw (fun x268 hw => ?_)
      refine z_iload_n hC dX12_reckonAll_271 rfl rfl ?_
      refine z_aldJ hC dX12_reckonAll_272 hw (fun x272 hw => ?_)
      refine z_callV (ku' := 0) (kv' := 0) (n := 3) (As := [.int v5, .long x266, .long x272]) (st := [.int (y246 - 1), .ref x250]) hC (c_X12_reckon l G B S v0 v5 x266 x272 _) hw.2 hw.1 rfl lk_1622 lk_1624 lk_54 lk_133 lk_1625 hd_X12_reckon rfl rfl (Nat.le_of_ble_eq_true rfl) (Nat.le_of_ble_eq_true rfl) rfl (Nat.le_of_ble_eq_true rfl) dX12_reckonAll_273 (Nat.le_refl 0) (Nat.le_refl 0) (kJ (fun x273 S hw => ?_))
      refine z_astJ hC dX12_reckonAll_276 hw (fun S hw => ?_)
      refine z_aload_n hC dX12_reckonAll_277 rfl rfl ?_
      refine z_aload_n hC dX12_reckonAll_278 rfl rfl ?_
      refine z_getI hC FX12 38 lk_1393 dX12_reckonAll_279 (by decide) hw (fun x279 hw => ?_)
      refine z_if_ne (tgt := 305) hC dX12_reckonAll_282 (by decide) (fun c282 => ?_) (fun c282 => ?_)
      · have hw := hw.1 c282
        refine z_mask (lv' := [some (.ref v0), none, some (.int v2), some (.int y246), some (.int y97), none, none]) [true, false, true, true, true, false, false] rfl ?_
        exact t_X12_reckonAll_b305 hC hr hlk hnm hK10 hw
      · have hw := hw.2 c282
        refine z_aload_n hC dX12_reckonAll_285 rfl rfl ?_
        refine z_getP hC FX12 37 lk_1392 dX12_reckonAll_286 (by decide) hw (fun x286 hw => ?_)
        refine z_iload_n hC dX12_reckonAll_289 rfl rfl ?_
        refine z_iconst hC ic_1 dX12_reckonAll_290 ?_
        refine z_isub hC dX12_reckonAll_291 ?_
        refine z_aldJ hC dX12_reckonAll_292 hw (fun x292 hw => ?_)
        refine z_ldc2 hC lk_1626 dX12_reckonAll_293 ?_
        refine z_ldc2 hC lk_1627 dX12_reckonAll_296 ?_
        refine z_callS (ku' := 0) (kv' := 0) (n := 3) (As := [.long x292, .long (-1000000000), .long 1000000000]) (st := [.ref v0]) hC (c_X12_in l G B S x292 (-1000000000) 1000000000 _) hw lk_1556 lk_1557 lk_133 lk_1558 hd_X12_in rfl rfl (Nat.le_of_ble_eq_true rfl) (Nat.le_of_ble_eq_true rfl) rfl (Nat.le_of_ble_eq_true rfl) dX12_reckonAll_299 (Nat.le_refl 0) (Nat.le_refl 0) (kI (fun x299 S hw => ?_))
        refine z_if_ne (tgt := 309) hC dX12_reckonAll_302 (by decide) (fun c302 => ?_) (fun c302 => ?_)
        · have hw := hw.1 c302
          refine z_iconst hC ic_0 dX12_reckonAll_309 ?_
          refine z_mask (lv' := [some (.ref v0), none, some (.int v2), some (.int y246), some (.int y97), none, none]) [true, false, true, true, true, false, false] rfl ?_
          exact t_X12_reckonAll_b310 hC hr hlk hnm hK10 hw
        · have hw := hw.2 c302
          refine z_mask (lv' := [some (.ref v0), none, some (.int v2), some (.int y246), some (.int y97), none, none]) [true, false, true, true, true, false, false] rfl ?_
          exact t_X12_reckonAll_b305 hC hr hlk hnm hK10 hw
  · have hw := hw.2 c104
    refine z_aload_n hC dX12_reckonAll_107 rfl rfl ?_
    refine z_getP hC FX12 37 lk_1392 dX12_reckonAll_108 (by decide) hw (fun x108 hw => ?_)
    refine z_iload_n hC dX12_reckonAll_111 rfl rfl ?_
    refine z_iload hC dX12_reckonAll_112 rfl ?_
    refine z_if_ne (tgt := 123) hC dX12_reckonAll_114 (by decide) (fun c114 => ?_) (fun c114 => ?_)
    · have hw := hw.1 c114
      refine z_aload_n hC dX12_reckonAll_123 rfl rfl ?_
      refine z_getI hC FX12 20 lk_1375 dX12_reckonAll_124 (by decide) hw (fun x124 hw => ?_)
      refine z_if_ne (tgt := 140) hC dX12_reckonAll_127 (by decide) (fun c127 => ?_) (fun c127 => ?_)
      · have hw := hw.1 c127
        refine z_iload hC dX12_reckonAll_140 rfl ?_
        refine z_iconst hC ic_5 dX12_reckonAll_142 ?_
        refine z_icmp_ge (tgt := 156) hC dX12_reckonAll_143 (by decide) (fun c143 => ?_) (fun c143 => ?_)
        · have hw := hw.1 c143
          refine z_iload hC dX12_reckonAll_156 rfl ?_
          refine z_bipush hC bi_7 dX12_reckonAll_158 ?_
          refine z_icmp_ne (tgt := 190) hC dX12_reckonAll_160 (by decide) (fun c160 => ?_) (fun c160 => ?_)
          · have hw := hw.1 c160
            refine z_aload_n hC dX12_reckonAll_190 rfl rfl ?_
            refine z_iload hC dX12_reckonAll_191 rfl ?_
            refine z_callV (ku' := 0) (kv' := 0) (n := 1) (As := [.int t0]) (st := [.int v3, .ref x108]) hC (c_X12_isPerson l G B S v0 t0 _) hw.2 hw.1 rfl lk_1614 lk_1616 lk_52 lk_133 lk_1617 hd_X12_isPerson rfl rfl (Nat.le_of_ble_eq_true rfl) (Nat.le_of_ble_eq_true rfl) rfl (Nat.le_of_ble_eq_true rfl) dX12_reckonAll_193 (Nat.le_refl 0) (Nat.le_refl 0) (kI (fun x193 S hw => ?_))
            refine z_if_ne (tgt := 205) hC dX12_reckonAll_196 (by decide) (fun c196 => ?_) (fun c196 => ?_)
            · have hw := hw.1 c196
              refine z_iload hC dX12_reckonAll_205 rfl ?_
              refine z_iconst hC ic_5 dX12_reckonAll_207 ?_
              refine z_icmp_ne (tgt := 225) hC dX12_reckonAll_208 (by decide) (fun c208 => ?_) (fun c208 => ?_)
              · have hw := hw.1 c208
                refine z_aload_n hC dX12_reckonAll_225 rfl rfl ?_
                refine z_iload hC dX12_reckonAll_226 rfl ?_
                refine z_callV (ku' := 0) (kv' := 0) (n := 1) (As := [.int t0]) (st := [.int v3, .ref x108]) hC (c_X12_leftOfAll l G B S v0 t0 _) hw.2 hw.1 rfl lk_1618 lk_1620 lk_53 lk_133 lk_1621 hd_X12_leftOfAll rfl rfl (Nat.le_of_ble_eq_true rfl) (Nat.le_of_ble_eq_true rfl) rfl (Nat.le_of_ble_eq_true rfl) dX12_reckonAll_228 (Nat.le_refl 0) (Nat.le_refl 0) (kI (fun x228 S hw => ?_))
                refine z_i2l hC rfl dX12_reckonAll_231 ?_
                refine z_mask (lv' := [some (.ref v0), none, some (.int v2), some (.int v3), some (.int y97), none, none]) [true, false, true, true, true, false, false] rfl ?_
                exact t_X12_reckonAll_b232 hC hr hlk hnm hK10 hw
              · have hw := hw.2 c208
                refine z_aload_n hC dX12_reckonAll_211 rfl rfl ?_
                refine z_getP hC FX12 3 lk_1358 dX12_reckonAll_212 (by decide) hw (fun x212 hw => ?_)
                refine z_bipush hC bi_14 dX12_reckonAll_215 ?_
                refine z_iload hC dX12_reckonAll_217 rfl ?_
                refine z_iadd hC dX12_reckonAll_219 ?_
                refine z_aldI hC dX12_reckonAll_220 hw (fun x220 hw => ?_)
                refine z_i2l hC rfl dX12_reckonAll_221 ?_
                refine z_goto (tgt := 232) hC dX12_reckonAll_222 (by decide) ?_
                refine z_mask (lv' := [some (.ref v0), none, some (.int v2), some (.int v3), some (.int y97), none, none]) [true, false, true, true, true, false, false] rfl ?_
                exact t_X12_reckonAll_b232 hC hr hlk hnm hK10 hw
            · have hw := hw.2 c196
              refine z_ldc2 hC lk_1601 dX12_reckonAll_199 ?_
              refine z_goto (tgt := 232) hC dX12_reckonAll_202 (by decide) ?_
              refine z_mask (lv' := [some (.ref v0), none, some (.int v2), some (.int v3), some (.int y97), none, none]) [true, false, true, true, true, false, false] rfl ?_
              exact t_X12_reckonAll_b232 hC hr hlk hnm hK10 hw
          · have hw := hw.2 c160
            refine z_aload_n hC dX12_reckonAll_163 rfl rfl ?_
            refine z_iload hC dX12_reckonAll_164 rfl ?_
            refine z_callV (ku' := 0) (kv' := 0) (n := 1) (As := [.int t0]) (st := [.int v3, .ref x108]) hC (c_X12_isHouse l G B S v0 t0 _) hw.2 hw.1 rfl lk_1580 lk_1582 lk_44 lk_133 lk_1583 hd_X12_isHouse rfl rfl (Nat.le_of_ble_eq_true rfl) (Nat.le_of_ble_eq_true rfl) rfl (Nat.le_of_ble_eq_true rfl) dX12_reckonAll_166 (Nat.le_refl 0) (Nat.le_refl 0) (kI (fun x166 S hw => ?_))
            refine z_if_eq (tgt := 185) hC dX12_reckonAll_169 (by decide) (fun c169 => ?_) (fun c169 => ?_)
            · have hw := hw.1 c169
              refine z_iconst hC ic_m1 dX12_reckonAll_185 ?_
              refine z_mask (lv' := [some (.ref v0), none, some (.int v2), some (.int v3), some (.int y97), none, none]) [true, false, true, true, true, false, false] rfl ?_
              exact t_X12_reckonAll_b186 hC hr hlk hnm hK10 hw
            · have hw := hw.2 c169
              refine z_aload_n hC dX12_reckonAll_172 rfl rfl ?_
              refine z_getP hC FX12 3 lk_1358 dX12_reckonAll_173 (by decide) hw (fun x173 hw => ?_)
              refine z_bipush hC bi_8 dX12_reckonAll_176 ?_
              refine z_iload hC dX12_reckonAll_178 rfl ?_
              refine z_iadd hC dX12_reckonAll_180 ?_
              refine z_aldI hC dX12_reckonAll_181 hw (fun x181 hw => ?_)
              refine z_goto (tgt := 186) hC dX12_reckonAll_182 (by decide) ?_
              refine z_mask (lv' := [some (.ref v0), none, some (.int v2), some (.int v3), some (.int y97), none, none]) [true, false, true, true, true, false, false] rfl ?_
              exact t_X12_reckonAll_b186 hC hr hlk hnm hK10 hw
        · have hw := hw.2 c143
          refine z_aload_n hC dX12_reckonAll_146 rfl rfl ?_
          refine z_getP hC FX12 36 lk_1391 dX12_reckonAll_147 (by decide) hw (fun x147 hw => ?_)
          refine z_iload hC dX12_reckonAll_150 rfl ?_
          refine z_aldJ hC dX12_reckonAll_152 hw (fun x152 hw => ?_)
          refine z_goto (tgt := 232) hC dX12_reckonAll_153 (by decide) ?_
          refine z_mask (lv' := [some (.ref v0), none, some (.int v2), some (.int v3), some (.int y97), none, none]) [true, false, true, true, true, false, false] rfl ?_
          exact t_X12_reckonAll_b232 hC hr hlk hnm hK10 hw
      · have hw := hw.2 c127
        refine z_aload_n hC dX12_reckonAll_130 rfl rfl ?_
        refine z_getP hC FX12 35 lk_1390 dX12_reckonAll_131 (by decide) hw (fun x131 hw => ?_)
        refine z_iload hC dX12_reckonAll_134 rfl ?_
        refine z_aldJ hC dX12_reckonAll_136 hw (fun x136 hw => ?_)
        refine z_goto (tgt := 232) hC dX12_reckonAll_137 (by decide) ?_
        refine z_mask (lv' := [some (.ref v0), none, some (.int v2), some (.int v3), some (.int y97), none, none]) [true, false, true, true, true, false, false] rfl ?_
        exact t_X12_reckonAll_b232 hC hr hlk hnm hK10 hw
    · have hw := hw.2 c114
      refine z_iload hC dX12_reckonAll_117 rfl ?_
      refine z_i2l hC rfl dX12_reckonAll_119 ?_
      refine z_goto (tgt := 232) hC dX12_reckonAll_120 (by decide) ?_
      refine z_mask (lv' := [some (.ref v0), none, some (.int v2), some (.int v3), some (.int y97), none, none]) [true, false, true, true, true, false, false] rfl ?_
      exact t_X12_reckonAll_b232 hC hr hlk hnm hK10 hw
def w_X12_reckonAll_b57 (q : hS → Prop) (K10 : hS → (Nat) → (Int32) → (Int32) → (Int32) → Prop) (S : hS) (v0 : Nat) (v2 : Int32) (v3 : Int32) (v4 : Int32) (t0 : Int32) : Prop := gI S v0 12 20 (fun x60 => (x60 = 0 → gP S v0 12 3 (fun x77 => gI S v0 12 34 (fun x81 => aI S x77 (((x81 + 98) + (2 * v4)) + 1) (fun x94 => w_X12_reckonAll_b95 q K10 S v0 v2 v3 v4 t0 x94)))) ∧ (¬ x60 = 0 → gP S v0 12 25 (fun x67 => aI S x67 v4 (fun x72 => w_X12_reckonAll_b95 q K10 S v0 v2 v3 v4 t0 x72))))
set_option maxRecDepth 100000 in
set_option maxHeartbeats 4000000 in
theorem t_X12_reckonAll_b57 (hC : zC p R s m args c cX12_reckonAll 7 RX12 G B mc ms 4 127) (hr : meth.sig.returnType = (Option.none : Option FieldType)) (hlk : meth.locks = false) (hnm : meth.name = "reckonAll") {q : hS → Prop} {K10 : hS → (Nat) → (Int32) → (Int32) → (Int32) → Prop} (hK10 : ∀ {S : hS} {v0 : Nat} {v2 : Int32} {v3 : Int32} {v4 : Int32}, K10 S v0 v2 v3 v4 → Z p l e R s m args below meth c (MQ below (hQ G B (vP q)) args s mc ms (fun r => B ≤ r)) G B mc ms 7 S 0 0 10 [some (.ref v0), none, some (.int v2), some (.int v3), some (.int v4), none, none] []) {S : hS} {v0 : Nat} {v2 : Int32} {v3 : Int32} {v4 : Int32} {t0 : Int32} (hw : w_X12_reckonAll_b57 q K10 S v0 v2 v3 v4 t0) : Z p l e R s m args below meth c (MQ below (hQ G B (vP q)) args s mc ms (fun r => B ≤ r)) G B mc ms 7 S 0 0 57 [some (.ref v0), none, some (.int v2), some (.int v3), some (.int v4), none, none] [.int t0] := by
  unfold w_X12_reckonAll_b57 at hw
  refine z_istore (i := 5) (lv' := [some (.ref v0), none, some (.int v2), some (.int v3), some (.int v4), some (.int t0), none]) hC dX12_reckonAll_57 (by decide) (hok_v rfl rfl) rfl ?_
  refine z_aload_n hC dX12_reckonAll_59 rfl rfl ?_
  refine z_getI hC FX12 20 lk_1375 dX12_reckonAll_60 (by decide) hw (fun x60 hw => ?_)
  refine z_if_eq (tgt := 76) hC dX12_reckonAll_63 (by decide) (fun c63 => ?_) (fun c63 => ?_)
  · have hw := hw.1 c63
    refine z_aload_n hC dX12_reckonAll_76 rfl rfl ?_
    refine z_getP hC FX12 3 lk_1358 dX12_reckonAll_77 (by decide) hw (fun x77 hw => ?_)
    refine z_aload_n hC dX12_reckonAll_80 rfl rfl ?_
    refine z_getI hC FX12 34 lk_1389 dX12_reckonAll_81 (by decide) hw (fun x81 hw => ?_)
    refine z_bipush hC bi_98 dX12_reckonAll_84 ?_
    refine z_iadd hC dX12_reckonAll_86 ?_
    refine z_iconst hC ic_2 dX12_reckonAll_87 ?_
    refine z_iload hC dX12_reckonAll_88 rfl ?_
    refine z_imul hC dX12_reckonAll_90 ?_
    refine z_iadd hC dX12_reckonAll_91 ?_
    refine z_iconst hC ic_1 dX12_reckonAll_92 ?_
    refine z_iadd hC dX12_reckonAll_93 ?_
    refine z_aldI hC dX12_reckonAll_94 hw (fun x94 hw => ?_)
    refine z_mask (lv' := [some (.ref v0), none, some (.int v2), some (.int v3), some (.int v4), some (.int t0), none]) [true, false, true, true, true, true, false] rfl ?_
    exact t_X12_reckonAll_b95 hC hr hlk hnm hK10 hw
  · have hw := hw.2 c63
    refine z_aload_n hC dX12_reckonAll_66 rfl rfl ?_
    refine z_getP hC FX12 25 lk_1380 dX12_reckonAll_67 (by decide) hw (fun x67 hw => ?_)
    refine z_iload hC dX12_reckonAll_70 rfl ?_
    refine z_aldI hC dX12_reckonAll_72 hw (fun x72 hw => ?_)
    refine z_goto (tgt := 95) hC dX12_reckonAll_73 (by decide) ?_
    refine z_mask (lv' := [some (.ref v0), none, some (.int v2), some (.int v3), some (.int v4), some (.int t0), none]) [true, false, true, true, true, true, false] rfl ?_
    exact t_X12_reckonAll_b95 hC hr hlk hnm hK10 hw
def w_X12_reckonAll_b396 (q : hS → Prop) (S : hS) (t0 : Int64) (t1 : Nat) : Prop := pJ S t1 12 39 t0 (fun S => q S)
set_option maxRecDepth 100000 in
set_option maxHeartbeats 4000000 in
theorem t_X12_reckonAll_b396 (hC : zC p R s m args c cX12_reckonAll 7 RX12 G B mc ms 4 127) (hr : meth.sig.returnType = (Option.none : Option FieldType)) (hlk : meth.locks = false) (hnm : meth.name = "reckonAll") {q : hS → Prop} {S : hS} {t0 : Int64} {t1 : Nat} (hw : w_X12_reckonAll_b396 q S t0 t1) : Z p l e R s m args below meth c (MQ below (hQ G B (vP q)) args s mc ms (fun r => B ≤ r)) G B mc ms 7 S 0 0 396 [none, none, none, none, none, none, none] [.long t0, .ref t1] := by
  unfold w_X12_reckonAll_b396 at hw
  refine z_putJ hC FX12 39 lk_1394 dX12_reckonAll_396 (by decide) rfl rfl hw (fun S hw => ?_)
  exact z_vret hC hr hlk dX12_reckonAll_399 ⟨rfl, hw⟩
def w_X12_reckonAll_b381 (q : hS → Prop) (S : hS) (v0 : Nat) (v3 : Int32) : Prop := (v3 ≤ 0 → w_X12_reckonAll_b396 q S 0 v0) ∧ (¬ v3 ≤ 0 → gP S v0 12 37 (fun x387 => aJ S x387 0 (fun x391 => w_X12_reckonAll_b396 q S x391 v0)))
set_option maxRecDepth 100000 in
set_option maxHeartbeats 4000000 in
theorem t_X12_reckonAll_b381 (hC : zC p R s m args c cX12_reckonAll 7 RX12 G B mc ms 4 127) (hr : meth.sig.returnType = (Option.none : Option FieldType)) (hlk : meth.locks = false) (hnm : meth.name = "reckonAll") {q : hS → Prop} {S : hS} {v0 : Nat} {v3 : Int32} (hw : w_X12_reckonAll_b381 q S v0 v3) : Z p l e R s m args below meth c (MQ below (hQ G B (vP q)) args s mc ms (fun r => B ≤ r)) G B mc ms 7 S 0 0 381 [some (.ref v0), none, none, some (.int v3), none, none, none] [] := by
  unfold w_X12_reckonAll_b381 at hw
  refine z_aload_n hC dX12_reckonAll_381 rfl rfl ?_
  refine z_iload_n hC dX12_reckonAll_382 rfl rfl ?_
  refine z_if_le (tgt := 395) hC dX12_reckonAll_383 (by decide) (fun c383 => ?_) (fun c383 => ?_)
  · have hw := hw.1 c383
    refine z_lconst hC lc_0 dX12_reckonAll_395 ?_
    refine z_mask (lv' := [none, none, none, none, none, none, none]) [false, false, false, false, false, false, false] rfl ?_
    exact t_X12_reckonAll_b396 hC hr hlk hnm hw
  · have hw := hw.2 c383
    refine z_aload_n hC dX12_reckonAll_386 rfl rfl ?_
    refine z_getP hC FX12 37 lk_1392 dX12_reckonAll_387 (by decide) hw (fun x387 hw => ?_)
    refine z_iconst hC ic_0 dX12_reckonAll_390 ?_
    refine z_aldJ hC dX12_reckonAll_391 hw (fun x391 hw => ?_)
    refine z_goto (tgt := 396) hC dX12_reckonAll_392 (by decide) ?_
    refine z_mask (lv' := [none, none, none, none, none, none, none]) [false, false, false, false, false, false, false] rfl ?_
    exact t_X12_reckonAll_b396 hC hr hlk hnm hw
def w_X12_reckonAll_b10 (q : hS → Prop) : Nat → hS → (Nat) → (Int32) → (Int32) → (Int32) → Prop
  | 0, _, _, _, _, _ => False
  | n + 1, S, v0, v2, v3, v4 => (v2 ≤ v4 → w_X12_reckonAll_b381 q S v0 v3) ∧ (¬ v2 ≤ v4 → gI S v0 12 38 (fun x17 => (¬ x17 = 0 → w_X12_reckonAll_b381 q S v0 v3) ∧ (x17 = 0 → gI S v0 12 20 (fun x24 => (x24 = 0 → gP S v0 12 3 (fun x41 => gI S v0 12 34 (fun x45 => aI S x41 ((x45 + 98) + (2 * v4)) (fun x56 => w_X12_reckonAll_b57 q (fun S v0 v2 v3 v4 => w_X12_reckonAll_b10 q n S v0 v2 v3 v4) S v0 v2 v3 v4 x56)))) ∧ (¬ x24 = 0 → gP S v0 12 24 (fun x31 => aI S x31 v4 (fun x36 => w_X12_reckonAll_b57 q (fun S v0 v2 v3 v4 => w_X12_reckonAll_b10 q n S v0 v2 v3 v4) S v0 v2 v3 v4 x36)))))))
set_option maxRecDepth 100000 in
set_option maxHeartbeats 4000000 in
theorem t_X12_reckonAll_b10 (hC : zC p R s m args c cX12_reckonAll 7 RX12 G B mc ms 4 127) (hr : meth.sig.returnType = (Option.none : Option FieldType)) (hlk : meth.locks = false) (hnm : meth.name = "reckonAll") {q : hS → Prop} (n : Nat) : ∀ {S : hS} {v0 : Nat} {v2 : Int32} {v3 : Int32} {v4 : Int32} (hw : w_X12_reckonAll_b10 q n S v0 v2 v3 v4), Z p l e R s m args below meth c (MQ below (hQ G B (vP q)) args s mc ms (fun r => B ≤ r)) G B mc ms 7 S 0 0 10 [some (.ref v0), none, some (.int v2), some (.int v3), some (.int v4), none, none] [] := by
  induction n with
  | zero => intro S v0 v2 v3 v4 hw; exact (by rw [w_X12_reckonAll_b10] at hw; exact hw.elim)
  | succ n ih =>
    intro S v0 v2 v3 v4 hw
    rw [w_X12_reckonAll_b10] at hw
    refine z_iload hC dX12_reckonAll_10 rfl ?_
    refine z_iload_n hC dX12_reckonAll_12 rfl rfl ?_
    refine z_icmp_ge (tgt := 381) hC dX12_reckonAll_13 (by decide) (fun c13 => ?_) (fun c13 => ?_)
    · have hw := hw.1 c13
      refine z_mask (lv' := [some (.ref v0), none, none, some (.int v3), none, none, none]) [true, false, false, true, false, false, false] rfl ?_
      exact t_X12_reckonAll_b381 hC hr hlk hnm hw
    · have hw := hw.2 c13
      refine z_aload_n hC dX12_reckonAll_16 rfl rfl ?_
      refine z_getI hC FX12 38 lk_1393 dX12_reckonAll_17 (by decide) hw (fun x17 hw => ?_)
      refine z_if_ne (tgt := 381) hC dX12_reckonAll_20 (by decide) (fun c20 => ?_) (fun c20 => ?_)
      · have hw := hw.1 c20
        refine z_mask (lv' := [some (.ref v0), none, none, some (.int v3), none, none, none]) [true, false, false, true, false, false, false] rfl ?_
        exact t_X12_reckonAll_b381 hC hr hlk hnm hw
      · have hw := hw.2 c20
        refine z_aload_n hC dX12_reckonAll_23 rfl rfl ?_
        refine z_getI hC FX12 20 lk_1375 dX12_reckonAll_24 (by decide) hw (fun x24 hw => ?_)
        refine z_if_eq (tgt := 40) hC dX12_reckonAll_27 (by decide) (fun c27 => ?_) (fun c27 => ?_)
        · have hw := hw.1 c27
          refine z_aload_n hC dX12_reckonAll_40 rfl rfl ?_
          refine z_getP hC FX12 3 lk_1358 dX12_reckonAll_41 (by decide) hw (fun x41 hw => ?_)
          refine z_aload_n hC dX12_reckonAll_44 rfl rfl ?_
          refine z_getI hC FX12 34 lk_1389 dX12_reckonAll_45 (by decide) hw (fun x45 hw => ?_)
          refine z_bipush hC bi_98 dX12_reckonAll_48 ?_
          refine z_iadd hC dX12_reckonAll_50 ?_
          refine z_iconst hC ic_2 dX12_reckonAll_51 ?_
          refine z_iload hC dX12_reckonAll_52 rfl ?_
          refine z_imul hC dX12_reckonAll_54 ?_
          refine z_iadd hC dX12_reckonAll_55 ?_
          refine z_aldI hC dX12_reckonAll_56 hw (fun x56 hw => ?_)
          refine z_mask (lv' := [some (.ref v0), none, some (.int v2), some (.int v3), some (.int v4), none, none]) [true, false, true, true, true, false, false] rfl ?_
          exact t_X12_reckonAll_b57 hC hr hlk hnm (fun hw => ih hw) hw
        · have hw := hw.2 c27
          refine z_aload_n hC dX12_reckonAll_30 rfl rfl ?_
          refine z_getP hC FX12 24 lk_1379 dX12_reckonAll_31 (by decide) hw (fun x31 hw => ?_)
          refine z_iload hC dX12_reckonAll_34 rfl ?_
          refine z_aldI hC dX12_reckonAll_36 hw (fun x36 hw => ?_)
          refine z_goto (tgt := 57) hC dX12_reckonAll_37 (by decide) ?_
          refine z_mask (lv' := [some (.ref v0), none, some (.int v2), some (.int v3), some (.int v4), none, none]) [true, false, true, true, true, false, false] rfl ?_
          exact t_X12_reckonAll_b57 hC hr hlk hnm (fun hw => ih hw) hw
def w_X12_reckonAll (q : hS → Prop) (S : hS) (v0 : Nat) (v1 : Int32) (v2 : Int32) : Prop := pZ S v0 12 38 0 (fun S => (∃ n10 : Nat, w_X12_reckonAll_b10 q n10 S v0 v2 0 v1))
set_option maxRecDepth 100000 in
set_option maxHeartbeats 4000000 in
theorem c_X12_reckonAll (l : Launch) (G : hG) (B : Nat) (S : hS) (v0 : Nat) (v1 : Int32) (v2 : Int32) (q : hS → Prop) : Met l yX12_reckonAll (hws yX12_reckonAll cX12_reckonAll 7 (Option.none : Option FieldType)) ({ frames := 4, cells := 0, slots := 0, locals := 127 }) (hPc G B S [.ref v0, .int v1, .int v2] (w_X12_reckonAll q S v0 v1 v2)) (hQ G B (vP q)) (0) (0) (fun r => B ≤ r) := by
  refine hMet (rm := { frames := 4, cells := 0, slots := 0, locals := 127 }) (lv := [some (.ref v0), some (.int v1), some (.int v2), none, none, none, none]) (own := RX12) (fr := 4) (lo := 127) (by decide) rfl rfl rfl (Nat.le_of_ble_eq_true rfl) rfl (fun hw p e R s m args below meth c hC hr hlk hnm => ?_)
  unfold w_X12_reckonAll at hw
  refine z_aload_n hC dX12_reckonAll_0 rfl rfl ?_
  refine z_iconst hC ic_0 dX12_reckonAll_1 ?_
  refine z_putZ hC FX12 38 lk_1393 dX12_reckonAll_2 (by decide) rfl rfl hw (fun S hw => ?_)
  refine z_iconst hC ic_0 dX12_reckonAll_5 ?_
  refine z_istore_n (i := 3) (lv' := [some (.ref v0), some (.int v1), some (.int v2), some (.int 0), none, none, none]) hC rfl dX12_reckonAll_6 (by decide) (hok_v rfl rfl) rfl ?_
  refine z_iload_n hC dX12_reckonAll_7 rfl rfl ?_
  refine z_istore (i := 4) (lv' := [some (.ref v0), some (.int v1), some (.int v2), some (.int 0), some (.int v1), none, none]) hC dX12_reckonAll_8 (by decide) (hok_v rfl rfl) rfl ?_
  refine z_mask (lv' := [some (.ref v0), none, some (.int v2), some (.int 0), some (.int v1), none, none]) [true, false, true, true, true, false, false] rfl ?_
  obtain ⟨n10, hw⟩ := hw
  exact t_X12_reckonAll_b10 hC hr hlk hnm n10 hw
end
section
variable {p : Program} {l : Launch} {e : Env} {R : Room} {s : State} {m : MethodId} {args : Array Value} {below : List Frame} {meth : Method} {c : Code} {G : hG} {B mc ms : Nat}
def w_X12_isSo_b59 (q : Int32 → hS → Prop) (S : hS) (v0 : Nat) (v1 : Int32) : Prop := gP S v0 12 3 (fun x60 => aI S x60 v1 (fun x64 => (3 ≤ x64 → q 1 S) ∧ (¬ 3 ≤ x64 → gP S v0 12 3 (fun x71 => aI S x71 (v1 + 3) (fun x77 => gP S v0 12 3 (fun x79 => aI S x79 (v1 + 4) (fun x85 => oK S v0 12 ∧ w_X12_reckonAll (fun S => gJ S v0 12 39 (fun x91 => pJ S v0 12 40 x91 (fun S => gI S v0 12 38 (fun x98 => (¬ x98 = 0 → q 0 S) ∧ (x98 = 0 → q 1 S))))) S v0 x77 x85)))))))
set_option maxRecDepth 100000 in
set_option maxHeartbeats 4000000 in
theorem t_X12_isSo_b59 (hC : zC p R s m args c cX12_isSo 2 RX12 G B mc ms 5 153) (hr : meth.sig.returnType = (Option.some FieldType.boolean)) (hlk : meth.locks = false) (hnm : meth.name = "isSo") {q : Int32 → hS → Prop} {S : hS} {v0 : Nat} {v1 : Int32} (hw : w_X12_isSo_b59 q S v0 v1) : Z p l e R s m args below meth c (MQ below (hQ G B (iP q)) args s mc ms (fun r => B ≤ r)) G B mc ms 2 S 0 0 59 [some (.ref v0), some (.int v1)] [] := by
  unfold w_X12_isSo_b59 at hw
  refine z_aload_n hC dX12_isSo_59 rfl rfl ?_
  refine z_getP hC FX12 3 lk_1358 dX12_isSo_60 (by decide) hw (fun x60 hw => ?_)
  refine z_iload_n hC dX12_isSo_63 rfl rfl ?_
  refine z_aldI hC dX12_isSo_64 hw (fun x64 hw => ?_)
  refine z_iconst hC ic_3 dX12_isSo_65 ?_
  refine z_icmp_ge (tgt := 110) hC dX12_isSo_66 (by decide) (fun c66 => ?_) (fun c66 => ?_)
  · have hw := hw.1 c66
    refine z_iconst hC ic_1 dX12_isSo_110 ?_
    exact z_zret hC hr hlk (hz01 (Or.inr rfl)).1 dX12_isSo_111 ⟨_, rfl, hw⟩
  · have hw := hw.2 c66
    refine z_aload_n hC dX12_isSo_69 rfl rfl ?_
    refine z_aload_n hC dX12_isSo_70 rfl rfl ?_
    refine z_getP hC FX12 3 lk_1358 dX12_isSo_71 (by decide) hw (fun x71 hw => ?_)
    refine z_iload_n hC dX12_isSo_74 rfl rfl ?_
    refine z_iconst hC ic_3 dX12_isSo_75 ?_
    refine z_iadd hC dX12_isSo_76 ?_
    refine z_aldI hC dX12_isSo_77 hw (fun x77 hw => ?_)
    refine z_aload_n hC dX12_isSo_78 rfl rfl ?_
    refine z_getP hC FX12 3 lk_1358 dX12_isSo_79 (by decide) hw (fun x79 hw => ?_)
    refine z_iload_n hC dX12_isSo_82 rfl rfl ?_
    refine z_iconst hC ic_4 dX12_isSo_83 ?_
    refine z_iadd hC dX12_isSo_84 ?_
    refine z_aldI hC dX12_isSo_85 hw (fun x85 hw => ?_)
    refine z_callV (ku' := 0) (kv' := 0) (n := 2) (As := [.int x77, .int x85]) (st := []) hC (c_X12_reckonAll l G B S v0 x77 x85 _) hw.2 hw.1 rfl lk_1610 lk_1612 lk_51 lk_133 lk_1613 hd_X12_reckonAll rfl rfl (Nat.le_of_ble_eq_true rfl) (Nat.le_of_ble_eq_true rfl) rfl (Nat.le_of_ble_eq_true rfl) dX12_isSo_86 (Nat.le_refl 0) (Nat.le_refl 0) (kV (fun S hw => ?_))
    refine z_aload_n hC dX12_isSo_89 rfl rfl ?_
    refine z_aload_n hC dX12_isSo_90 rfl rfl ?_
    refine z_getJ hC FX12 39 lk_1394 dX12_isSo_91 (by decide) hw (fun x91 hw => ?_)
    refine z_putJ hC FX12 40 lk_1395 dX12_isSo_94 (by decide) rfl rfl hw (fun S hw => ?_)
    refine z_aload_n hC dX12_isSo_97 rfl rfl ?_
    refine z_getI hC FX12 38 lk_1393 dX12_isSo_98 (by decide) hw (fun x98 hw => ?_)
    refine z_if_ne (tgt := 108) hC dX12_isSo_101 (by decide) (fun c101 => ?_) (fun c101 => ?_)
    · have hw := hw.1 c101
      refine z_iconst hC ic_0 dX12_isSo_108 ?_
      exact z_zret hC hr hlk (hz01 (Or.inl rfl)).1 dX12_isSo_109 ⟨_, rfl, hw⟩
    · have hw := hw.2 c101
      refine z_iconst hC ic_1 dX12_isSo_104 ?_
      refine z_goto (tgt := 109) hC dX12_isSo_105 (by decide) ?_
      exact z_zret hC hr hlk (hz01 (Or.inr rfl)).1 dX12_isSo_109 ⟨_, rfl, hw⟩
def w_X12_isSo (q : Int32 → hS → Prop) (S : hS) (v0 : Nat) (v1 : Int32) : Prop := gP S v0 12 3 (fun x1 => aI S x1 (v1 + 5) (fun x7 => gP S v0 12 3 (fun x9 => aI S x9 (v1 + 6) (fun x16 => (x16 ≤ x7 → w_X12_isSo_b59 q S v0 v1) ∧ (¬ x16 ≤ x7 → gP S v0 12 3 (fun x22 => aI S x22 (v1 + 5) (fun x28 => gP S v0 12 3 (fun x30 => aI S x30 (v1 + 6) (fun x37 => oK S v0 12 ∧ w_X12_reckonAll (fun S => gI S v0 12 38 (fun x42 => (¬ x42 = 0 → q 0 S) ∧ (x42 = 0 → gJ S v0 12 39 (fun x49 => (¬ (lg_cmp x49 0) = 0 → w_X12_isSo_b59 q S v0 v1) ∧ ((lg_cmp x49 0) = 0 → q 0 S))))) S v0 x28 x37)))))))))
set_option maxRecDepth 100000 in
set_option maxHeartbeats 4000000 in
theorem c_X12_isSo (l : Launch) (G : hG) (B : Nat) (S : hS) (v0 : Nat) (v1 : Int32) (q : Int32 → hS → Prop) : Met l yX12_isSo (hws yX12_isSo cX12_isSo 2 (Option.some FieldType.boolean)) ({ frames := 5, cells := 0, slots := 0, locals := 153 }) (hPc G B S [.ref v0, .int v1] (w_X12_isSo q S v0 v1)) (hQ G B (iP q)) (0) (0) (fun r => B ≤ r) := by
  refine hMet (rm := { frames := 5, cells := 0, slots := 0, locals := 153 }) (lv := [some (.ref v0), some (.int v1)]) (own := RX12) (fr := 5) (lo := 153) (by decide) rfl rfl rfl (Nat.le_of_ble_eq_true rfl) rfl (fun hw p e R s m args below meth c hC hr hlk hnm => ?_)
  unfold w_X12_isSo at hw
  refine z_aload_n hC dX12_isSo_0 rfl rfl ?_
  refine z_getP hC FX12 3 lk_1358 dX12_isSo_1 (by decide) hw (fun x1 hw => ?_)
  refine z_iload_n hC dX12_isSo_4 rfl rfl ?_
  refine z_iconst hC ic_5 dX12_isSo_5 ?_
  refine z_iadd hC dX12_isSo_6 ?_
  refine z_aldI hC dX12_isSo_7 hw (fun x7 hw => ?_)
  refine z_aload_n hC dX12_isSo_8 rfl rfl ?_
  refine z_getP hC FX12 3 lk_1358 dX12_isSo_9 (by decide) hw (fun x9 hw => ?_)
  refine z_iload_n hC dX12_isSo_12 rfl rfl ?_
  refine z_bipush hC bi_6 dX12_isSo_13 ?_
  refine z_iadd hC dX12_isSo_15 ?_
  refine z_aldI hC dX12_isSo_16 hw (fun x16 hw => ?_)
  refine z_icmp_ge (tgt := 59) hC dX12_isSo_17 (by decide) (fun c17 => ?_) (fun c17 => ?_)
  · have hw := hw.1 c17
    refine z_mask (lv' := [some (.ref v0), some (.int v1)]) [true, true] rfl ?_
    exact t_X12_isSo_b59 hC hr hlk hnm hw
  · have hw := hw.2 c17
    refine z_aload_n hC dX12_isSo_20 rfl rfl ?_
    refine z_aload_n hC dX12_isSo_21 rfl rfl ?_
    refine z_getP hC FX12 3 lk_1358 dX12_isSo_22 (by decide) hw (fun x22 hw => ?_)
    refine z_iload_n hC dX12_isSo_25 rfl rfl ?_
    refine z_iconst hC ic_5 dX12_isSo_26 ?_
    refine z_iadd hC dX12_isSo_27 ?_
    refine z_aldI hC dX12_isSo_28 hw (fun x28 hw => ?_)
    refine z_aload_n hC dX12_isSo_29 rfl rfl ?_
    refine z_getP hC FX12 3 lk_1358 dX12_isSo_30 (by decide) hw (fun x30 hw => ?_)
    refine z_iload_n hC dX12_isSo_33 rfl rfl ?_
    refine z_bipush hC bi_6 dX12_isSo_34 ?_
    refine z_iadd hC dX12_isSo_36 ?_
    refine z_aldI hC dX12_isSo_37 hw (fun x37 hw => ?_)
    refine z_callV (ku' := 0) (kv' := 0) (n := 2) (As := [.int x28, .int x37]) (st := []) hC (c_X12_reckonAll l G B S v0 x28 x37 _) hw.2 hw.1 rfl lk_1610 lk_1612 lk_51 lk_133 lk_1613 hd_X12_reckonAll rfl rfl (Nat.le_of_ble_eq_true rfl) (Nat.le_of_ble_eq_true rfl) rfl (Nat.le_of_ble_eq_true rfl) dX12_isSo_38 (Nat.le_refl 0) (Nat.le_refl 0) (kV (fun S hw => ?_))
    refine z_aload_n hC dX12_isSo_41 rfl rfl ?_
    refine z_getI hC FX12 38 lk_1393 dX12_isSo_42 (by decide) hw (fun x42 hw => ?_)
    refine z_if_ne (tgt := 57) hC dX12_isSo_45 (by decide) (fun c45 => ?_) (fun c45 => ?_)
    · have hw := hw.1 c45
      refine z_iconst hC ic_0 dX12_isSo_57 ?_
      exact z_zret hC hr hlk (hz01 (Or.inl rfl)).1 dX12_isSo_58 ⟨_, rfl, hw⟩
    · have hw := hw.2 c45
      refine z_aload_n hC dX12_isSo_48 rfl rfl ?_
      refine z_getJ hC FX12 39 lk_1394 dX12_isSo_49 (by decide) hw (fun x49 hw => ?_)
      refine z_lconst hC lc_0 dX12_isSo_52 ?_
      refine z_lcmp hC dX12_isSo_53 ?_
      refine z_if_ne (tgt := 59) hC dX12_isSo_54 (by decide) (fun c54 => ?_) (fun c54 => ?_)
      · have hw := hw.1 c54
        refine z_mask (lv' := [some (.ref v0), some (.int v1)]) [true, true] rfl ?_
        exact t_X12_isSo_b59 hC hr hlk hnm hw
      · have hw := hw.2 c54
        refine z_iconst hC ic_0 dX12_isSo_57 ?_
        exact z_zret hC hr hlk (hz01 (Or.inl rfl)).1 dX12_isSo_58 ⟨_, rfl, hw⟩
end
section
variable {p : Program} {l : Launch} {e : Env} {R : Room} {s : State} {m : MethodId} {args : Array Value} {below : List Frame} {meth : Method} {c : Code} {G : hG} {B mc ms : Nat}
def w_X12_tells_b250 (q : Int64 → hS → Prop) (K185 : hS → (Nat) → (Int32) → (Int64) → (Int32) → Prop) (S : hS) (v0 : Nat) (v1 : Int32) (v8 : Int64) (v10 : Int32) : Prop := ∀ y250 : Int32, y250 = v10 + 1 → K185 S v0 v1 v8 y250
set_option maxRecDepth 100000 in
set_option maxHeartbeats 4000000 in
theorem t_X12_tells_b250 (hC : zC p R s m args c cX12_tells 12 RX12 G B mc ms 6 174) (hr : meth.sig.returnType = (Option.some FieldType.long)) (hlk : meth.locks = false) (hnm : meth.name = "tells") {q : Int64 → hS → Prop} {K185 : hS → (Nat) → (Int32) → (Int64) → (Int32) → Prop} (hK185 : ∀ {S : hS} {v0 : Nat} {v1 : Int32} {v8 : Int64} {v10 : Int32}, K185 S v0 v1 v8 v10 → Z p l e R s m args below meth c (MQ below (hQ G B (jP q)) args s mc ms (fun r => B ≤ r)) G B mc ms 12 S 0 0 185 [some (.ref v0), some (.int v1), none, none, none, none, none, none, some (.long v8), none, some (.int v10), none] []) {S : hS} {v0 : Nat} {v1 : Int32} {v8 : Int64} {v10 : Int32} (hw : w_X12_tells_b250 q K185 S v0 v1 v8 v10) : Z p l e R s m args below meth c (MQ below (hQ G B (jP q)) args s mc ms (fun r => B ≤ r)) G B mc ms 12 S 0 0 250 [some (.ref v0), some (.int v1), none, none, none, none, none, none, some (.long v8), none, some (.int v10), none] [] := by
  unfold w_X12_tells_b250 at hw
  refine z_inc (i := 10) hC ic_1 dX12_tells_250 rfl (by decide) (hok_n rfl) (fun y250 e250 => ?_)
  have hw := hw y250 e250
  refine z_goto (tgt := 185) hC dX12_tells_253 (by decide) ?_
  refine z_mask (lv' := [some (.ref v0), some (.int v1), none, none, none, none, none, none, some (.long v8), none, some (.int y250), none]) [true, true, false, false, false, false, false, false, true, false, true, false] rfl ?_
  exact hK185 hw
def w_X12_tells_b248 (q : Int64 → hS → Prop) (K185 : hS → (Nat) → (Int32) → (Int64) → (Int32) → Prop) (S : hS) (v0 : Nat) (v1 : Int32) (v10 : Int32) (t0 : Int64) : Prop := w_X12_tells_b250 q K185 S v0 v1 t0 v10
set_option maxRecDepth 100000 in
set_option maxHeartbeats 4000000 in
theorem t_X12_tells_b248 (hC : zC p R s m args c cX12_tells 12 RX12 G B mc ms 6 174) (hr : meth.sig.returnType = (Option.some FieldType.long)) (hlk : meth.locks = false) (hnm : meth.name = "tells") {q : Int64 → hS → Prop} {K185 : hS → (Nat) → (Int32) → (Int64) → (Int32) → Prop} (hK185 : ∀ {S : hS} {v0 : Nat} {v1 : Int32} {v8 : Int64} {v10 : Int32}, K185 S v0 v1 v8 v10 → Z p l e R s m args below meth c (MQ below (hQ G B (jP q)) args s mc ms (fun r => B ≤ r)) G B mc ms 12 S 0 0 185 [some (.ref v0), some (.int v1), none, none, none, none, none, none, some (.long v8), none, some (.int v10), none] []) {S : hS} {v0 : Nat} {v1 : Int32} {v10 : Int32} {t0 : Int64} (hw : w_X12_tells_b248 q K185 S v0 v1 v10 t0) : Z p l e R s m args below meth c (MQ below (hQ G B (jP q)) args s mc ms (fun r => B ≤ r)) G B mc ms 12 S 0 0 248 [some (.ref v0), some (.int v1), none, none, none, none, none, none, none, none, some (.int v10), none] [.long t0] := by
  unfold w_X12_tells_b248 at hw
  refine z_lstore (i := 8) (lv' := [some (.ref v0), some (.int v1), none, none, none, none, none, none, some (.long t0), none, some (.int v10), none]) hC dX12_tells_248 (by decide) (hok_n rfl) rfl ?_
  refine z_mask (lv' := [some (.ref v0), some (.int v1), none, none, none, none, none, none, some (.long t0), none, some (.int v10), none]) [true, true, false, false, false, false, false, false, true, false, true, false] rfl ?_
  exact t_X12_tells_b250 hC hr hlk hnm hK185 hw
def w_X12_tells_b185 (q : Int64 → hS → Prop) : Nat → hS → (Nat) → (Int32) → (Int64) → (Int32) → Prop
  | 0, _, _, _, _, _ => False
  | n + 1, S, v0, v1, v8, v10 => gP S v0 12 3 (fun x188 => gI S v0 12 34 (fun x192 => aI S x188 (x192 + 1) (fun x197 => (x197 ≤ v10 → q v8 S) ∧ (¬ x197 ≤ v10 → gI S v0 12 34 (fun x202 => ∀ y213 : Int32, y213 = ((x202 + 2) + (8 * v10)) → gP S v0 12 3 (fun x216 => aI S x216 y213 (fun x221 => (¬ x221 = v1 → w_X12_tells_b250 q (fun S v0 v1 v8 v10 => w_X12_tells_b185 q n S v0 v1 v8 v10) S v0 v1 v8 v10) ∧ (x221 = v1 → oK S v0 12 ∧ w_X12_isSo (fun x229 S => (x229 = 0 → w_X12_tells_b250 q (fun S v0 v1 v8 v10 => w_X12_tells_b185 q n S v0 v1 v8 v10) S v0 v1 v8 v10) ∧ (¬ x229 = 0 → (3 ≤ v1 → w_X12_tells_b248 q (fun S v0 v1 v8 v10 => w_X12_tells_b185 q n S v0 v1 v8 v10) S v0 v1 v10 1) ∧ (¬ 3 ≤ v1 → gJ S v0 12 40 (fun x241 => w_X12_tells_b248 q (fun S v0 v1 v8 v10 => w_X12_tells_b185 q n S v0 v1 v8 v10) S v0 v1 v10 x241)))) S v0 y213))))))))
set_option maxRecDepth 100000 in
set_option maxHeartbeats 4000000 in
theorem t_X12_tells_b185 (hC : zC p R s m args c cX12_tells 12 RX12 G B mc ms 6 174) (hr : meth.sig.returnType = (Option.some FieldType.long)) (hlk : meth.locks = false) (hnm : meth.name = "tells") {q : Int64 → hS → Prop} (n : Nat) : ∀ {S : hS} {v0 : Nat} {v1 : Int32} {v8 : Int64} {v10 : Int32} (hw : w_X12_tells_b185 q n S v0 v1 v8 v10), Z p l e R s m args below meth c (MQ below (hQ G B (jP q)) args s mc ms (fun r => B ≤ r)) G B mc ms 12 S 0 0 185 [some (.ref v0), some (.int v1), none, none, none, none, none, none, some (.long v8), none, some (.int v10), none] [] := by
  induction n with
  | zero => intro S v0 v1 v8 v10 hw; exact (by rw [w_X12_tells_b185] at hw; exact hw.elim)
  | succ n ih =>
    intro S v0 v1 v8 v10 hw
    rw [w_X12_tells_b185] at hw
    refine z_iload hC dX12_tells_185 rfl ?_
    refine z_aload_n hC dX12_tells_187 rfl rfl ?_
    refine z_getP hC FX12 3 lk_1358 dX12_tells_188 (by decide) hw (fun x188 hw => ?_)
    refine z_aload_n hC dX12_tells_191 rfl rfl ?_
    refine z_getI hC FX12 34 lk_1389 dX12_tells_192 (by decide) hw (fun x192 hw => ?_)
    refine z_iconst hC ic_1 dX12_tells_195 ?_
    refine z_iadd hC dX12_tells_196 ?_
    refine z_aldI hC dX12_tells_197 hw (fun x197 hw => ?_)
    refine z_icmp_ge (tgt := 256) hC dX12_tells_198 (by decide) (fun c198 => ?_) (fun c198 => ?_)
    · have hw := hw.1 c198
      refine z_lload hC dX12_tells_256 rfl ?_
      exact z_lret hC hr hlk dX12_tells_258 ⟨_, rfl, hw⟩
    · have hw := hw.2 c198
      refine z_aload_n hC dX12_tells_201 rfl rfl ?_
      refine z_getI hC FX12 34 lk_1389 dX12_tells_202 (by decide) hw (fun x202 hw => ?_)
      refine z_iconst hC ic_2 dX12_tells_205 ?_
      refine z_iadd hC dX12_tells_206 ?_
      refine z_bipush hC bi_8 dX12_tells_207 ?_
      refine z_iload hC dX12_tells_209 rfl ?_
      refine z_imul hC dX12_tells_211 ?_
      refine z_iadd hC dX12_tells_212 ?_
      refine z_nmI (fun y213 e213 => ?_)
      have hw := hw y213 e213
      refine z_istore (i := 11) (lv' := [some (.ref v0), some (.int v1), none, none, none, none, none, none, some (.long v8), none, some (.int v10), some (.int y213)]) hC dX12_tells_213 (by decide) (hok_v rfl rfl) rfl ?_
      refine z_aload_n hC dX12_tells_215 rfl rfl ?_
      refine z_getP hC FX12 3 lk_1358 dX12_tells_216 (by decide) hw (fun x216 hw => ?_)
      refine z_iload hC dX12_tells_219 rfl ?_
      refine z_aldI hC dX12_tells_221 hw (fun x221 hw => ?_)
      refine z_iload_n hC dX12_tells_222 rfl rfl ?_
      refine z_icmp_ne (tgt := 250) hC dX12_tells_223 (by decide) (fun c223 => ?_) (fun c223 => ?_)
      · have hw := hw.1 c223
        refine z_mask (lv' := [some (.ref v0), some (.int v1), none, none, none, none, none, none, some (.long v8), none, some (.int v10), none]) [true, true, false, false, false, false, false, false, true, false, true, false] rfl ?_
        exact t_X12_tells_b250 hC hr hlk hnm (fun hw => ih hw) hw
      · have hw := hw.2 c223
        refine z_aload_n hC dX12_tells_226 rfl rfl ?_
        refine z_iload hC dX12_tells_227 rfl ?_
        refine z_callV (ku' := 0) (kv' := 0) (n := 1) (As := [.int y213]) (st := []) hC (c_X12_isSo l G B S v0 y213 _) hw.2 hw.1 rfl lk_1606 lk_1608 lk_50 lk_133 lk_1609 hd_X12_isSo rfl rfl (Nat.le_of_ble_eq_true rfl) (Nat.le_of_ble_eq_true rfl) rfl (Nat.le_of_ble_eq_true rfl) dX12_tells_229 (Nat.le_refl 0) (Nat.le_refl 0) (kI (fun x229 S hw => ?_))
        refine z_if_eq (tgt := 250) hC dX12_tells_232 (by decide) (fun c232 => ?_) (fun c232 => ?_)
        · have hw := hw.1 c232
          refine z_mask (lv' := [some (.ref v0), some (.int v1), none, none, none, none, none, none, some (.long v8), none, some (.int v10), none]) [true, true, false, false, false, false, false, false, true, false, true, false] rfl ?_
          exact t_X12_tells_b250 hC hr hlk hnm (fun hw => ih hw) hw
        · have hw := hw.2 c232
          refine z_iload_n hC dX12_tells_235 rfl rfl ?_
          refine z_iconst hC ic_3 dX12_tells_236 ?_
          refine z_icmp_ge (tgt := 247) hC dX12_tells_237 (by decide) (fun c237 => ?_) (fun c237 => ?_)
          · have hw := hw.1 c237
            refine z_lconst hC lc_1 dX12_tells_247 ?_
            refine z_mask (lv' := [some (.ref v0), some (.int v1), none, none, none, none, none, none, none, none, some (.int v10), none]) [true, true, false, false, false, false, false, false, false, false, true, false] rfl ?_
            exact t_X12_tells_b248 hC hr hlk hnm (fun hw => ih hw) hw
          · have hw := hw.2 c237
            refine z_aload_n hC dX12_tells_240 rfl rfl ?_
            refine z_getJ hC FX12 40 lk_1395 dX12_tells_241 (by decide) hw (fun x241 hw => ?_)
            refine z_goto (tgt := 248) hC dX12_tells_244 (by decide) ?_
            refine z_mask (lv' := [some (.ref v0), some (.int v1), none, none, none, none, none, none, none, none, some (.int v10), none]) [true, true, false, false, false, false, false, false, false, false, true, false] rfl ?_
            exact t_X12_tells_b248 hC hr hlk hnm (fun hw => ih hw) hw
def w_X12_tells_b142 (q : Int64 → hS → Prop) (S : hS) (v0 : Nat) (v1 : Int32) (v4 : Int32) (v5 : Int32) (v6 : Int64) (t0 : Int64) (t1 : Int32) (t2 : Nat) : Prop := sJ S t2 t1 t0 (fun S => gP S v0 12 35 (fun x144 => sJ S x144 7 (Int32.toInt64 v4) (fun S => gP S v0 12 35 (fun x154 => sJ S x154 8 (Int32.toInt64 v5) (fun S => gP S v0 12 35 (fun x164 => gP S v0 12 3 (fun x170 => aI S x170 7 (fun x175 => sJ S x164 9 (Int32.toInt64 x175) (fun S => (∃ n185 : Nat, w_X12_tells_b185 q n185 S v0 v1 v6 0))))))))))
set_option maxRecDepth 100000 in
set_option maxHeartbeats 4000000 in
theorem t_X12_tells_b142 (hC : zC p R s m args c cX12_tells 12 RX12 G B mc ms 6 174) (hr : meth.sig.returnType = (Option.some FieldType.long)) (hlk : meth.locks = false) (hnm : meth.name = "tells") {q : Int64 → hS → Prop} {S : hS} {v0 : Nat} {v1 : Int32} {v4 : Int32} {v5 : Int32} {v6 : Int64} {t0 : Int64} {t1 : Int32} {t2 : Nat} (hw : w_X12_tells_b142 q S v0 v1 v4 v5 v6 t0 t1 t2) : Z p l e R s m args below meth c (MQ below (hQ G B (jP q)) args s mc ms (fun r => B ≤ r)) G B mc ms 12 S 0 0 142 [some (.ref v0), some (.int v1), none, none, some (.int v4), some (.int v5), some (.long v6), none, none, none, none, none] [.long t0, .int t1, .ref t2] := by
  unfold w_X12_tells_b142 at hw
  refine z_astJ hC dX12_tells_142 hw (fun S hw => ?_)
  refine z_aload_n hC dX12_tells_143 rfl rfl ?_
  refine z_getP hC FX12 35 lk_1390 dX12_tells_144 (by decide) hw (fun x144 hw => ?_)
  refine z_bipush hC bi_7 dX12_tells_147 ?_
  refine z_iload hC dX12_tells_149 rfl ?_
  refine z_i2l hC rfl dX12_tells_151 ?_
  refine z_astJ hC dX12_tells_152 hw (fun S hw => ?_)
  refine z_aload_n hC dX12_tells_153 rfl rfl ?_
  refine z_getP hC FX12 35 lk_1390 dX12_tells_154 (by decide) hw (fun x154 hw => ?_)
  refine z_bipush hC bi_8 dX12_tells_157 ?_
  refine z_iload hC dX12_tells_159 rfl ?_
  refine z_i2l hC rfl dX12_tells_161 ?_
  refine z_astJ hC dX12_tells_162 hw (fun S hw => ?_)
  refine z_aload_n hC dX12_tells_163 rfl rfl ?_
  refine z_getP hC FX12 35 lk_1390 dX12_tells_164 (by decide) hw (fun x164 hw => ?_)
  refine z_bipush hC bi_9 dX12_tells_167 ?_
  refine z_aload_n hC dX12_tells_169 rfl rfl ?_
  refine z_getP hC FX12 3 lk_1358 dX12_tells_170 (by decide) hw (fun x170 hw => ?_)
  refine z_bipush hC bi_7 dX12_tells_173 ?_
  refine z_aldI hC dX12_tells_175 hw (fun x175 hw => ?_)
  refine z_i2l hC rfl dX12_tells_176 ?_
  refine z_astJ hC dX12_tells_177 hw (fun S hw => ?_)
  refine z_lload hC dX12_tells_178 rfl ?_
  refine z_lstore (i := 8) (lv' := [some (.ref v0), some (.int v1), none, none, some (.int v4), some (.int v5), some (.long v6), none, some (.long v6), none, none, none]) hC dX12_tells_180 (by decide) (hok_n rfl) rfl ?_
  refine z_iconst hC ic_0 dX12_tells_182 ?_
  refine z_istore (i := 10) (lv' := [some (.ref v0), some (.int v1), none, none, some (.int v4), some (.int v5), some (.long v6), none, some (.long v6), none, some (.int 0), none]) hC dX12_tells_183 (by decide) (hok_n rfl) rfl ?_
  refine z_mask (lv' := [some (.ref v0), some (.int v1), none, none, none, none, none, none, some (.long v6), none, some (.int 0), none]) [true, true, false, false, false, false, false, false, true, false, true, false] rfl ?_
  obtain ⟨n185, hw⟩ := hw
  exact t_X12_tells_b185 hC hr hlk hnm n185 hw
def w_X12_tells_b93 (q : Int64 → hS → Prop) (S : hS) (v0 : Nat) (v1 : Int32) (v2 : Int32) (v3 : Int32) (v4 : Int32) (v5 : Int32) (v6 : Int64) (t0 : Int64) (t1 : Int32) (t2 : Nat) : Prop := sJ S t2 t1 t0 (fun S => gP S v0 12 35 (fun x95 => sJ S x95 4 (Int32.toInt64 v3) (fun S => gP S v0 12 35 (fun x103 => gP S v0 12 3 (fun x108 => aI S x108 (8 + v3) (fun x115 => sJ S x103 5 (Int32.toInt64 x115) (fun S => gP S v0 12 35 (fun x119 => (¬ v2 = (-1) → oK S v0 12 ∧ w_X12_leftOf (fun x138 S => w_X12_tells_b142 q S v0 v1 v4 v5 v6 (Int32.toInt64 x138) 6 x119) S v0 v2 v3) ∧ (v2 = (-1) → w_X12_tells_b142 q S v0 v1 v4 v5 v6 (-1) 6 x119)))))))))
set_option maxRecDepth 100000 in
set_option maxHeartbeats 4000000 in
theorem t_X12_tells_b93 (hC : zC p R s m args c cX12_tells 12 RX12 G B mc ms 6 174) (hr : meth.sig.returnType = (Option.some FieldType.long)) (hlk : meth.locks = false) (hnm : meth.name = "tells") {q : Int64 → hS → Prop} {S : hS} {v0 : Nat} {v1 : Int32} {v2 : Int32} {v3 : Int32} {v4 : Int32} {v5 : Int32} {v6 : Int64} {t0 : Int64} {t1 : Int32} {t2 : Nat} (hw : w_X12_tells_b93 q S v0 v1 v2 v3 v4 v5 v6 t0 t1 t2) : Z p l e R s m args below meth c (MQ below (hQ G B (jP q)) args s mc ms (fun r => B ≤ r)) G B mc ms 12 S 0 0 93 [some (.ref v0), some (.int v1), some (.int v2), some (.int v3), some (.int v4), some (.int v5), some (.long v6), none, none, none, none, none] [.long t0, .int t1, .ref t2] := by
  unfold w_X12_tells_b93 at hw
  refine z_astJ hC dX12_tells_93 hw (fun S hw => ?_)
  refine z_aload_n hC dX12_tells_94 rfl rfl ?_
  refine z_getP hC FX12 35 lk_1390 dX12_tells_95 (by decide) hw (fun x95 hw => ?_)
  refine z_iconst hC ic_4 dX12_tells_98 ?_
  refine z_iload_n hC dX12_tells_99 rfl rfl ?_
  refine z_i2l hC rfl dX12_tells_100 ?_
  refine z_astJ hC dX12_tells_101 hw (fun S hw => ?_)
  refine z_aload_n hC dX12_tells_102 rfl rfl ?_
  refine z_getP hC FX12 35 lk_1390 dX12_tells_103 (by decide) hw (fun x103 hw => ?_)
  refine z_iconst hC ic_5 dX12_tells_106 ?_
  refine z_aload_n hC dX12_tells_107 rfl rfl ?_
  refine z_getP hC FX12 3 lk_1358 dX12_tells_108 (by decide) hw (fun x108 hw => ?_)
  refine z_bipush hC bi_8 dX12_tells_111 ?_
  refine z_iload_n hC dX12_tells_113 rfl rfl ?_
  refine z_iadd hC dX12_tells_114 ?_
  refine z_aldI hC dX12_tells_115 hw (fun x115 hw => ?_)
  refine z_i2l hC rfl dX12_tells_116 ?_
  refine z_astJ hC dX12_tells_117 hw (fun S hw => ?_)
  refine z_aload_n hC dX12_tells_118 rfl rfl ?_
  refine z_getP hC FX12 35 lk_1390 dX12_tells_119 (by decide) hw (fun x119 hw => ?_)
  refine z_bipush hC bi_6 dX12_tells_122 ?_
  refine z_iload_n hC dX12_tells_124 rfl rfl ?_
  refine z_iconst hC ic_m1 dX12_tells_125 ?_
  refine z_icmp_ne (tgt := 135) hC dX12_tells_126 (by decide) (fun c126 => ?_) (fun c126 => ?_)
  · have hw := hw.1 c126
    refine z_aload_n hC dX12_tells_135 rfl rfl ?_
    refine z_iload_n hC dX12_tells_136 rfl rfl ?_
    refine z_iload_n hC dX12_tells_137 rfl rfl ?_
    refine z_callV (ku' := 0) (kv' := 0) (n := 2) (As := [.int v2, .int v3]) (st := [.int 6, .ref x119]) hC (c_X12_leftOf l G B S v0 v2 v3 _) hw.2 hw.1 rfl lk_1602 lk_1604 lk_49 lk_133 lk_1605 hd_X12_leftOf rfl rfl (Nat.le_of_ble_eq_true rfl) (Nat.le_of_ble_eq_true rfl) rfl (Nat.le_of_ble_eq_true rfl) dX12_tells_138 (Nat.le_refl 0) (Nat.le_refl 0) (kI (fun x138 S hw => ?_))
    refine z_i2l hC rfl dX12_tells_141 ?_
    refine z_mask (lv' := [some (.ref v0), some (.int v1), none, none, some (.int v4), some (.int v5), some (.long v6), none, none, none, none, none]) [true, true, false, false, true, true, true, false, false, false, false, false] rfl ?_
    exact t_X12_tells_b142 hC hr hlk hnm hw
  · have hw := hw.2 c126
    refine z_ldc2 hC lk_1601 dX12_tells_129 ?_
    refine z_goto (tgt := 142) hC dX12_tells_132 (by decide) ?_
    refine z_mask (lv' := [some (.ref v0), some (.int v1), none, none, some (.int v4), some (.int v5), some (.long v6), none, none, none, none, none]) [true, true, false, false, true, true, true, false, false, false, false, false] rfl ?_
    exact t_X12_tells_b142 hC hr hlk hnm hw
def w_X12_tells_b66 (q : Int64 → hS → Prop) (S : hS) (v0 : Nat) (v1 : Int32) (v2 : Int32) (v3 : Int32) (v4 : Int32) (v5 : Int32) (v6 : Int64) (t0 : Int64) (t1 : Int32) (t2 : Nat) : Prop := sJ S t2 t1 t0 (fun S => gP S v0 12 35 (fun x68 => (¬ v2 = (-1) → gP S v0 12 3 (fun x84 => aI S x84 (14 + v2) (fun x91 => w_X12_tells_b93 q S v0 v1 v2 v3 v4 v5 v6 (Int32.toInt64 x91) 3 x68))) ∧ (v2 = (-1) → w_X12_tells_b93 q S v0 v1 v2 v3 v4 v5 v6 (-1) 3 x68)))
set_option maxRecDepth 100000 in
set_option maxHeartbeats 4000000 in
theorem t_X12_tells_b66 (hC : zC p R s m args c cX12_tells 12 RX12 G B mc ms 6 174) (hr : meth.sig.returnType = (Option.some FieldType.long)) (hlk : meth.locks = false) (hnm : meth.name = "tells") {q : Int64 → hS → Prop} {S : hS} {v0 : Nat} {v1 : Int32} {v2 : Int32} {v3 : Int32} {v4 : Int32} {v5 : Int32} {v6 : Int64} {t0 : Int64} {t1 : Int32} {t2 : Nat} (hw : w_X12_tells_b66 q S v0 v1 v2 v3 v4 v5 v6 t0 t1 t2) : Z p l e R s m args below meth c (MQ below (hQ G B (jP q)) args s mc ms (fun r => B ≤ r)) G B mc ms 12 S 0 0 66 [some (.ref v0), some (.int v1), some (.int v2), some (.int v3), some (.int v4), some (.int v5), some (.long v6), none, none, none, none, none] [.long t0, .int t1, .ref t2] := by
  unfold w_X12_tells_b66 at hw
  refine z_astJ hC dX12_tells_66 hw (fun S hw => ?_)
  refine z_aload_n hC dX12_tells_67 rfl rfl ?_
  refine z_getP hC FX12 35 lk_1390 dX12_tells_68 (by decide) hw (fun x68 hw => ?_)
  refine z_iconst hC ic_3 dX12_tells_71 ?_
  refine z_iload_n hC dX12_tells_72 rfl rfl ?_
  refine z_iconst hC ic_m1 dX12_tells_73 ?_
  refine z_icmp_ne (tgt := 83) hC dX12_tells_74 (by decide) (fun c74 => ?_) (fun c74 => ?_)
  · have hw := hw.1 c74
    refine z_aload_n hC dX12_tells_83 rfl rfl ?_
    refine z_getP hC FX12 3 lk_1358 dX12_tells_84 (by decide) hw (fun x84 hw => ?_)
    refine z_bipush hC bi_14 dX12_tells_87 ?_
    refine z_iload_n hC dX12_tells_89 rfl rfl ?_
    refine z_iadd hC dX12_tells_90 ?_
    refine z_aldI hC dX12_tells_91 hw (fun x91 hw => ?_)
    refine z_i2l hC rfl dX12_tells_92 ?_
    refine z_mask (lv' := [some (.ref v0), some (.int v1), some (.int v2), some (.int v3), some (.int v4), some (.int v5), some (.long v6), none, none, none, none, none]) [true, true, true, true, true, true, true, false, false, false, false, false] rfl ?_
    exact t_X12_tells_b93 hC hr hlk hnm hw
  · have hw := hw.2 c74
    refine z_ldc2 hC lk_1601 dX12_tells_77 ?_
    refine z_goto (tgt := 93) hC dX12_tells_80 (by decide) ?_
    refine z_mask (lv' := [some (.ref v0), some (.int v1), some (.int v2), some (.int v3), some (.int v4), some (.int v5), some (.long v6), none, none, none, none, none]) [true, true, true, true, true, true, true, false, false, false, false, false] rfl ?_
    exact t_X12_tells_b93 hC hr hlk hnm hw
def w_X12_tells (q : Int64 → hS → Prop) (S : hS) (v0 : Nat) (v1 : Int32) (v2 : Int32) (v3 : Int32) (v4 : Int32) (v5 : Int32) (v6 : Int64) : Prop := gP S v0 12 3 (fun x1 => aI S x1 4 (fun x5 => (¬ x5 = (-1) → gP S v0 12 3 (fun x21 => aI S x21 4 (fun x25 => pI S v0 12 34 (185 + (900 * x25)) (fun S => gP S v0 12 35 (fun x32 => sJ S x32 1 (Int32.toInt64 v2) (fun S => gP S v0 12 35 (fun x40 => (¬ v2 = (-1) → gP S v0 12 3 (fun x56 => aI S x56 (146 + v2) (fun x64 => w_X12_tells_b66 q S v0 v1 v2 v3 v4 v5 v6 (Int32.toInt64 x64) 2 x40))) ∧ (v2 = (-1) → w_X12_tells_b66 q S v0 v1 v2 v3 v4 v5 v6 (-1) 2 x40)))))))) ∧ (x5 = (-1) → q v6 S)))
set_option maxRecDepth 100000 in
set_option maxHeartbeats 4000000 in
theorem c_X12_tells (l : Launch) (G : hG) (B : Nat) (S : hS) (v0 : Nat) (v1 : Int32) (v2 : Int32) (v3 : Int32) (v4 : Int32) (v5 : Int32) (v6 : Int64) (q : Int64 → hS → Prop) : Met l yX12_tells (hws yX12_tells cX12_tells 12 (Option.some FieldType.long)) ({ frames := 6, cells := 0, slots := 0, locals := 174 }) (hPc G B S [.ref v0, .int v1, .int v2, .int v3, .int v4, .int v5, .long v6] (w_X12_tells q S v0 v1 v2 v3 v4 v5 v6)) (hQ G B (jP q)) (0) (0) (fun r => B ≤ r) := by
  refine hMet (rm := { frames := 6, cells := 0, slots := 0, locals := 174 }) (lv := [some (.ref v0), some (.int v1), some (.int v2), some (.int v3), some (.int v4), some (.int v5), some (.long v6), none, none, none, none, none]) (own := RX12) (fr := 6) (lo := 174) (by decide) rfl rfl rfl (Nat.le_of_ble_eq_true rfl) rfl (fun hw p e R s m args below meth c hC hr hlk hnm => ?_)
  unfold w_X12_tells at hw
  refine z_aload_n hC dX12_tells_0 rfl rfl ?_
  refine z_getP hC FX12 3 lk_1358 dX12_tells_1 (by decide) hw (fun x1 hw => ?_)
  refine z_iconst hC ic_4 dX12_tells_4 ?_
  refine z_aldI hC dX12_tells_5 hw (fun x5 hw => ?_)
  refine z_iconst hC ic_m1 dX12_tells_6 ?_
  refine z_icmp_ne (tgt := 13) hC dX12_tells_7 (by decide) (fun c7 => ?_) (fun c7 => ?_)
  · have hw := hw.1 c7
    refine z_aload_n hC dX12_tells_13 rfl rfl ?_
    refine z_sipush hC si_185 dX12_tells_14 ?_
    refine z_sipush hC si_900 dX12_tells_17 ?_
    refine z_aload_n hC dX12_tells_20 rfl rfl ?_
    refine z_getP hC FX12 3 lk_1358 dX12_tells_21 (by decide) hw (fun x21 hw => ?_)
    refine z_iconst hC ic_4 dX12_tells_24 ?_
    refine z_aldI hC dX12_tells_25 hw (fun x25 hw => ?_)
    refine z_imul hC dX12_tells_26 ?_
    refine z_iadd hC dX12_tells_27 ?_
    refine z_putI hC FX12 34 lk_1389 dX12_tells_28 (by decide) rfl rfl hw (fun S hw => ?_)
    refine z_aload_n hC dX12_tells_31 rfl rfl ?_
    refine z_getP hC FX12 35 lk_1390 dX12_tells_32 (by decide) hw (fun x32 hw => ?_)
    refine z_iconst hC ic_1 dX12_tells_35 ?_
    refine z_iload_n hC dX12_tells_36 rfl rfl ?_
    refine z_i2l hC rfl dX12_tells_37 ?_
    refine z_astJ hC dX12_tells_38 hw (fun S hw => ?_)
    refine z_aload_n hC dX12_tells_39 rfl rfl ?_
    refine z_getP hC FX12 35 lk_1390 dX12_tells_40 (by decide) hw (fun x40 hw => ?_)
    refine z_iconst hC ic_2 dX12_tells_43 ?_
    refine z_iload_n hC dX12_tells_44 rfl rfl ?_
    refine z_iconst hC ic_m1 dX12_tells_45 ?_
    refine z_icmp_ne (tgt := 55) hC dX12_tells_46 (by decide) (fun c46 => ?_) (fun c46 => ?_)
    · have hw := hw.1 c46
      refine z_aload_n hC dX12_tells_55 rfl rfl ?_
      refine z_getP hC FX12 3 lk_1358 dX12_tells_56 (by decide) hw (fun x56 hw => ?_)
      refine z_sipush hC si_146 dX12_tells_59 ?_
      refine z_iload_n hC dX12_tells_62 rfl rfl ?_
      refine z_iadd hC dX12_tells_63 ?_
      refine z_aldI hC dX12_tells_64 hw (fun x64 hw => ?_)
      refine z_i2l hC rfl dX12_tells_65 ?_
      refine z_mask (lv' := [some (.ref v0), some (.int v1), some (.int v2), some (.int v3), some (.int v4), some (.int v5), some (.long v6), none, none, none, none, none]) [true, true, true, true, true, true, true, false, false, false, false, false] rfl ?_
      exact t_X12_tells_b66 hC hr hlk hnm hw
    · have hw := hw.2 c46
      refine z_ldc2 hC lk_1601 dX12_tells_49 ?_
      refine z_goto (tgt := 66) hC dX12_tells_52 (by decide) ?_
      refine z_mask (lv' := [some (.ref v0), some (.int v1), some (.int v2), some (.int v3), some (.int v4), some (.int v5), some (.long v6), none, none, none, none, none]) [true, true, true, true, true, true, true, false, false, false, false, false] rfl ?_
      exact t_X12_tells_b66 hC hr hlk hnm hw
  · have hw := hw.2 c7
    refine z_lload hC dX12_tells_10 rfl ?_
    exact z_lret hC hr hlk dX12_tells_12 ⟨_, rfl, hw⟩
end
section
variable {p : Program} {l : Launch} {e : Env} {R : Room} {s : State} {m : MethodId} {args : Array Value} {below : List Frame} {meth : Method} {c : Code} {G : hG} {B mc ms : Nat}
def w_X12_worthOf (q : Int32 → hS → Prop) (S : hS) (v0 : Nat) (v1 : Int32) (v2 : Int32) : Prop := oK S v0 12 ∧ w_X12_tells (fun x9 S => w_X12_within (fun x15 S => q x15 S) S x9 0 99) S v0 2 (-1) v1 v2 (-1) 10
set_option maxRecDepth 100000 in
set_option maxHeartbeats 4000000 in
theorem c_X12_worthOf (l : Launch) (G : hG) (B : Nat) (S : hS) (v0 : Nat) (v1 : Int32) (v2 : Int32) (q : Int32 → hS → Prop) : Met l yX12_worthOf (hws yX12_worthOf cX12_worthOf 3 (Option.some FieldType.int)) ({ frames := 7, cells := 0, slots := 0, locals := 205 }) (hPc G B S [.ref v0, .int v1, .int v2] (w_X12_worthOf q S v0 v1 v2)) (hQ G B (iP q)) (0) (0) (fun r => B ≤ r) := by
  refine hMet (rm := { frames := 7, cells := 0, slots := 0, locals := 205 }) (lv := [some (.ref v0), some (.int v1), some (.int v2)]) (own := RX12) (fr := 7) (lo := 205) (by decide) rfl rfl rfl (Nat.le_of_ble_eq_true rfl) rfl (fun hw p e R s m args below meth c hC hr hlk hnm => ?_)
  unfold w_X12_worthOf at hw
  refine z_aload_n hC dX12_worthOf_0 rfl rfl ?_
  refine z_iconst hC ic_2 dX12_worthOf_1 ?_
  refine z_iconst hC ic_m1 dX12_worthOf_2 ?_
  refine z_iload_n hC dX12_worthOf_3 rfl rfl ?_
  refine z_iload_n hC dX12_worthOf_4 rfl rfl ?_
  refine z_iconst hC ic_m1 dX12_worthOf_5 ?_
  refine z_ldc2 hC lk_1596 dX12_worthOf_6 ?_
  refine z_callV (ku' := 0) (kv' := 0) (n := 6) (As := [.int 2, .int (-1), .int v1, .int v2, .int (-1), .long 10]) (st := []) hC (c_X12_tells l G B S v0 2 (-1) v1 v2 (-1) 10 _) hw.2 hw.1 rfl lk_1597 lk_1599 lk_48 lk_133 lk_1600 hd_X12_tells rfl rfl (Nat.le_of_ble_eq_true rfl) (Nat.le_of_ble_eq_true rfl) rfl (Nat.le_of_ble_eq_true rfl) dX12_worthOf_9 (Nat.le_refl 0) (Nat.le_refl 0) (kJ (fun x9 S hw => ?_))
  refine z_iconst hC ic_0 dX12_worthOf_12 ?_
  refine z_bipush hC bi_99 dX12_worthOf_13 ?_
  refine z_callS (ku' := 0) (kv' := 0) (n := 3) (As := [.long x9, .int 0, .int 99]) (st := []) hC (c_X12_within l G B S x9 0 99 _) hw lk_1628 lk_1629 lk_133 lk_1630 hd_X12_within rfl rfl (Nat.le_of_ble_eq_true rfl) (Nat.le_of_ble_eq_true rfl) rfl (Nat.le_of_ble_eq_true rfl) dX12_worthOf_15 (Nat.le_refl 0) (Nat.le_refl 0) (kI (fun x15 S hw => ?_))
  exact z_iret hC hr hlk dX12_worthOf_18 ⟨_, rfl, hw⟩
end
section
variable {p : Program} {l : Launch} {e : Env} {R : Room} {s : State} {m : MethodId} {args : Array Value} {below : List Frame} {meth : Method} {c : Code} {G : hG} {B mc ms : Nat}
def w_X12_at (q : Int32 → hS → Prop) (S : hS) (v0 : Nat) (v1 : Int32) (v2 : Int32) : Prop := pI S v0 12 0 0 (fun S => oK S v0 12 ∧ w_X12_isHouse (fun x7 S => (¬ x7 = 0 → ∀ y16 : Int32, y16 = v2 → ((y16.toInt = 0 → gP S v0 12 3 (fun x53 => aI S x53 (126 + v1) (fun x60 => q x60 S))) ∧ (y16.toInt = 1 → gP S v0 12 3 (fun x63 => aI S x63 (132 + v1) (fun x71 => q x71 S))) ∧ (y16.toInt = 2 → gP S v0 12 3 (fun x74 => aI S x74 (8 + v1) (fun x81 => q x81 S))) ∧ (y16.toInt = 3 → oK S v0 12 ∧ w_X12_rightsTo (fun x85 S => q x85 S) S v0 v1) ∧ (y16.toInt = 4 → gP S v0 12 3 (fun x92 => aI S x92 5 (fun x96 => oK S v0 12 ∧ w_X12_worthOf (fun x97 S => q x97 S) S v0 v1 x96))) ∧ ((y16.toInt < 0 ∨ 4 < y16.toInt) → q (-1) S))) ∧ (x7 = 0 → q (-1) S)) S v0 v1)
set_option maxRecDepth 100000 in
set_option maxHeartbeats 4000000 in
theorem c_X12_at (l : Launch) (G : hG) (B : Nat) (S : hS) (v0 : Nat) (v1 : Int32) (v2 : Int32) (q : Int32 → hS → Prop) : Met l yX12_at (hws yX12_at cX12_at 3 (Option.some FieldType.int)) ({ frames := 8, cells := 0, slots := 0, locals := 227 }) (hPc G B S [.ref v0, .int v1, .int v2] (w_X12_at q S v0 v1 v2)) (hQ G B (iP q)) (0) (0) (fun r => B ≤ r) := by
  refine hMet (rm := { frames := 8, cells := 0, slots := 0, locals := 227 }) (lv := [some (.ref v0), some (.int v1), some (.int v2)]) (own := RX12) (fr := 8) (lo := 227) (by decide) rfl rfl rfl (Nat.le_of_ble_eq_true rfl) rfl (fun hw p e R s m args below meth c hC hr hlk hnm => ?_)
  unfold w_X12_at at hw
  refine z_aload_n hC dX12_at_0 rfl rfl ?_
  refine z_iconst hC ic_0 dX12_at_1 ?_
  refine z_putI hC FX12 0 lk_1355 dX12_at_2 (by decide) rfl rfl hw (fun S hw => ?_)
  refine z_aload_n hC dX12_at_5 rfl rfl ?_
  refine z_iload_n hC dX12_at_6 rfl rfl ?_
  refine z_callV (ku' := 0) (kv' := 0) (n := 1) (As := [.int v1]) (st := []) hC (c_X12_isHouse l G B S v0 v1 _) hw.2 hw.1 rfl lk_1580 lk_1582 lk_44 lk_133 lk_1583 hd_X12_isHouse rfl rfl (Nat.le_of_ble_eq_true rfl) (Nat.le_of_ble_eq_true rfl) rfl (Nat.le_of_ble_eq_true rfl) dX12_at_7 (Nat.le_refl 0) (Nat.le_refl 0) (kI (fun x7 S hw => ?_))
  refine z_if_ne (tgt := 15) hC dX12_at_10 (by decide) (fun c10 => ?_) (fun c10 => ?_)
  · have hw := hw.1 c10
    refine z_iload_n hC dX12_at_15 rfl rfl ?_
    refine z_nmI (fun y16 e16 => ?_)
    have hw := hw y16 e16
    by_cases q16_0 : y16.toInt = 0
    · have hw := hw.1 q16_0
      refine z_tabIn (tgt := 52) (off := 36) hC 0 dX12_at_16 q16_0 (by decide) rfl (by decide) ?_
      refine z_aload_n hC dX12_at_52 rfl rfl ?_
      refine z_getP hC FX12 3 lk_1358 dX12_at_53 (by decide) hw (fun x53 hw => ?_)
      refine z_bipush hC bi_126 dX12_at_56 ?_
      refine z_iload_n hC dX12_at_58 rfl rfl ?_
      refine z_iadd hC dX12_at_59 ?_
      refine z_aldI hC dX12_at_60 hw (fun x60 hw => ?_)
      exact z_iret hC hr hlk dX12_at_61 ⟨_, rfl, hw⟩
    by_cases q16_1 : y16.toInt = 1
    · have hw := hw.2.1 q16_1
      refine z_tabIn (tgt := 62) (off := 46) hC 1 dX12_at_16 q16_1 (by decide) rfl (by decide) ?_
      refine z_aload_n hC dX12_at_62 rfl rfl ?_
      refine z_getP hC FX12 3 lk_1358 dX12_at_63 (by decide) hw (fun x63 hw => ?_)
      refine z_sipush hC si_132 dX12_at_66 ?_
      refine z_iload_n hC dX12_at_69 rfl rfl ?_
      refine z_iadd hC dX12_at_70 ?_
      refine z_aldI hC dX12_at_71 hw (fun x71 hw => ?_)
      exact z_iret hC hr hlk dX12_at_72 ⟨_, rfl, hw⟩
    by_cases q16_2 : y16.toInt = 2
    · have hw := hw.2.2.1 q16_2
      refine z_tabIn (tgt := 73) (off := 57) hC 2 dX12_at_16 q16_2 (by decide) rfl (by decide) ?_
      refine z_aload_n hC dX12_at_73 rfl rfl ?_
      refine z_getP hC FX12 3 lk_1358 dX12_at_74 (by decide) hw (fun x74 hw => ?_)
      refine z_bipush hC bi_8 dX12_at_77 ?_
      refine z_iload_n hC dX12_at_79 rfl rfl ?_
      refine z_iadd hC dX12_at_80 ?_
      refine z_aldI hC dX12_at_81 hw (fun x81 hw => ?_)
      exact z_iret hC hr hlk dX12_at_82 ⟨_, rfl, hw⟩
    by_cases q16_3 : y16.toInt = 3
    · have hw := hw.2.2.2.1 q16_3
      refine z_tabIn (tgt := 83) (off := 67) hC 3 dX12_at_16 q16_3 (by decide) rfl (by decide) ?_
      refine z_aload_n hC dX12_at_83 rfl rfl ?_
      refine z_iload_n hC dX12_at_84 rfl rfl ?_
      refine z_callV (ku' := 0) (kv' := 0) (n := 1) (As := [.int v1]) (st := []) hC (c_X12_rightsTo l G B S v0 v1 _) hw.2 hw.1 rfl lk_1584 lk_1586 lk_45 lk_133 lk_1587 hd_X12_rightsTo rfl rfl (Nat.le_of_ble_eq_true rfl) (Nat.le_of_ble_eq_true rfl) rfl (Nat.le_of_ble_eq_true rfl) dX12_at_85 (Nat.le_refl 0) (Nat.le_refl 0) (kI (fun x85 S hw => ?_))
      exact z_iret hC hr hlk dX12_at_88 ⟨_, rfl, hw⟩
    by_cases q16_4 : y16.toInt = 4
    · have hw := hw.2.2.2.2.1 q16_4
      refine z_tabIn (tgt := 89) (off := 73) hC 4 dX12_at_16 q16_4 (by decide) rfl (by decide) ?_
      refine z_aload_n hC dX12_at_89 rfl rfl ?_
      refine z_iload_n hC dX12_at_90 rfl rfl ?_
      refine z_aload_n hC dX12_at_91 rfl rfl ?_
      refine z_getP hC FX12 3 lk_1358 dX12_at_92 (by decide) hw (fun x92 hw => ?_)
      refine z_iconst hC ic_5 dX12_at_95 ?_
      refine z_aldI hC dX12_at_96 hw (fun x96 hw => ?_)
      refine z_callV (ku' := 0) (kv' := 0) (n := 2) (As := [.int v1, .int x96]) (st := []) hC (c_X12_worthOf l G B S v0 v1 x96 _) hw.2 hw.1 rfl lk_1592 lk_1594 lk_47 lk_133 lk_1595 hd_X12_worthOf rfl rfl (Nat.le_of_ble_eq_true rfl) (Nat.le_of_ble_eq_true rfl) rfl (Nat.le_of_ble_eq_true rfl) dX12_at_97 (Nat.le_refl 0) (Nat.le_refl 0) (kI (fun x97 S hw => ?_))
      exact z_iret hC hr hlk dX12_at_100 ⟨_, rfl, hw⟩
    have o16 : y16.toInt < 0 ∨ 4 < y16.toInt := by omega
    have hw := hw.2.2.2.2.2 o16
    refine z_tabOut (tgt := 101) hC dX12_at_16 o16 (by decide) ?_
    refine z_iconst hC ic_m1 dX12_at_101 ?_
    exact z_iret hC hr hlk dX12_at_102 ⟨_, rfl, hw⟩
  · have hw := hw.2 c10
    refine z_iconst hC ic_m1 dX12_at_13 ?_
    exact z_iret hC hr hlk dX12_at_14 ⟨_, rfl, hw⟩
end
