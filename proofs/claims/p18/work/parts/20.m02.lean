section
variable {p : Program} {l : Launch} {e : Env} {R : Room} {s : State} {m : MethodId} {args : Array Value} {below : List Frame} {meth : Method} {c : Code} {G : hG} {B mc ms : Nat}
def w_X12_come_b124 (q : Int32 → hS → Prop) : Nat → hS → (Nat) → (Int32) → (Int32) → Prop
  | 0, _, _, _, _ => False
  | n + 1, S, v0, v4, v5 => (6 ≤ v5 → gP S v0 12 3 (fun x172 => aI S x172 1 (fun x177 => sI S x172 1 (x177 + 1) (fun S => q v4 S)))) ∧ (¬ 6 ≤ v5 → gP S v0 12 3 (fun x132 => sI S x132 ((30 + (6 * v4)) + v5) 0 (fun S => gP S v0 12 3 (fun x149 => sI S x149 ((78 + (6 * v4)) + v5) 0 (fun S => ∀ y165 : Int32, y165 = v5 + 1 → w_X12_come_b124 q n S v0 v4 y165)))))
set_option maxRecDepth 100000 in
set_option maxHeartbeats 4000000 in
theorem t_X12_come_b124 (hC : zC p R s m args c cX12_come 6 RX12 G B mc ms 3 105) (hr : meth.sig.returnType = (Option.some FieldType.int)) (hlk : meth.locks = false) (hnm : meth.name = "come") {q : Int32 → hS → Prop} (n : Nat) : ∀ {S : hS} {v0 : Nat} {v4 : Int32} {v5 : Int32} (hw : w_X12_come_b124 q n S v0 v4 v5), Z p l e R s m args below meth c (MQ below (hQ G B (iP q)) args s mc ms (fun r => B ≤ r)) G B mc ms 6 S 0 0 124 [some (.ref v0), none, none, none, some (.int v4), some (.int v5)] [] := by
  induction n with
  | zero => intro S v0 v4 v5 hw; exact (by rw [w_X12_come_b124] at hw; exact hw.elim)
  | succ n ih =>
    intro S v0 v4 v5 hw
    rw [w_X12_come_b124] at hw
    refine z_iload hC dX12_come_124 rfl ?_
    refine z_bipush hC bi_6 dX12_come_126 ?_
    refine z_icmp_ge (tgt := 171) hC dX12_come_128 (by decide) (fun c128 => ?_) (fun c128 => ?_)
    · have hw := hw.1 c128
      refine z_aload_n hC dX12_come_171 rfl rfl ?_
      refine z_getP hC FX12 3 lk_1358 dX12_come_172 (by decide) hw (fun x172 hw => ?_)
      refine z_iconst hC ic_1 dX12_come_175 ?_
      refine z_dup2_11 hC rfl rfl dX12_come_176 ?_
      refine z_aldI hC dX12_come_177 hw (fun x177 hw => ?_)
      refine z_iconst hC ic_1 dX12_come_178 ?_
      refine z_iadd hC dX12_come_179 ?_
      refine z_astI hC dX12_come_180 hw (fun S hw => ?_)
      refine z_iload hC dX12_come_181 rfl ?_
      exact z_iret hC hr hlk dX12_come_183 ⟨_, rfl, hw⟩
    · have hw := hw.2 c128
      refine z_aload_n hC dX12_come_131 rfl rfl ?_
      refine z_getP hC FX12 3 lk_1358 dX12_come_132 (by decide) hw (fun x132 hw => ?_)
      refine z_bipush hC bi_30 dX12_come_135 ?_
      refine z_bipush hC bi_6 dX12_come_137 ?_
      refine z_iload hC dX12_come_139 rfl ?_
      refine z_imul hC dX12_come_141 ?_
      refine z_iadd hC dX12_come_142 ?_
      refine z_iload hC dX12_come_143 rfl ?_
      refine z_iadd hC dX12_come_145 ?_
      refine z_iconst hC ic_0 dX12_come_146 ?_
      refine z_astI hC dX12_come_147 hw (fun S hw => ?_)
      refine z_aload_n hC dX12_come_148 rfl rfl ?_
      refine z_getP hC FX12 3 lk_1358 dX12_come_149 (by decide) hw (fun x149 hw => ?_)
      refine z_bipush hC bi_78 dX12_come_152 ?_
      refine z_bipush hC bi_6 dX12_come_154 ?_
      refine z_iload hC dX12_come_156 rfl ?_
      refine z_imul hC dX12_come_158 ?_
      refine z_iadd hC dX12_come_159 ?_
      refine z_iload hC dX12_come_160 rfl ?_
      refine z_iadd hC dX12_come_162 ?_
      refine z_iconst hC ic_0 dX12_come_163 ?_
      refine z_astI hC dX12_come_164 hw (fun S hw => ?_)
      refine z_inc (i := 5) hC ic_1 dX12_come_165 rfl (by decide) (hok_v rfl rfl) (fun y165 e165 => ?_)
      have hw := hw y165 e165
      refine z_goto (tgt := 124) hC dX12_come_168 (by decide) ?_
      refine z_mask (lv' := [some (.ref v0), none, none, none, some (.int v4), some (.int y165)]) [true, false, false, false, true, true] rfl ?_
      exact ih hw
def w_X12_come (q : Int32 → hS → Prop) (S : hS) (v0 : Nat) (v1 : Int32) (v2 : Int32) (v3 : Int32) : Prop := w_X12_isPlace (fun x1 S => (x1 = 0 → q (-1) S) ∧ (¬ x1 = 0 → w_X12_in (fun x13 S => (x13 = 0 → q (-1) S) ∧ (¬ x13 = 0 → w_X12_in (fun x25 S => (¬ x25 = 0 → gP S v0 12 3 (fun x34 => aI S x34 1 (fun x38 => (¬ x38 = 8 → gP S v0 12 3 (fun x52 => sI S x52 (138 + x38) v1 (fun S => gP S v0 12 3 (fun x64 => sI S x64 (146 + x38) v2 (fun S => gP S v0 12 3 (fun x76 => sI S x76 (14 + x38) v3 (fun S => gP S v0 12 3 (fun x87 => sI S x87 (154 + x38) (-1) (fun S => gP S v0 12 3 (fun x99 => sI S x99 (162 + x38) 0 (fun S => gP S v0 12 3 (fun x111 => sI S x111 (22 + x38) 0 (fun S => (∃ n124 : Nat, w_X12_come_b124 q n124 S v0 x38 0)))))))))))))) ∧ (x38 = 8 → q (-5) S)))) ∧ (x25 = 0 → q (-1) S)) S (Int32.toInt64 v3) 0 999)) S (Int32.toInt64 v2) 0 99)) S v1
set_option maxRecDepth 100000 in
set_option maxHeartbeats 4000000 in
theorem c_X12_come (l : Launch) (G : hG) (B : Nat) (S : hS) (v0 : Nat) (v1 : Int32) (v2 : Int32) (v3 : Int32) (q : Int32 → hS → Prop) : Met l yX12_come (hws yX12_come cX12_come 6 (Option.some FieldType.int)) ({ frames := 3, cells := 0, slots := 0, locals := 105 }) (hPc G B S [.ref v0, .int v1, .int v2, .int v3] (w_X12_come q S v0 v1 v2 v3)) (hQ G B (iP q)) (0) (0) (fun r => B ≤ r) := by
  refine hMet (rm := { frames := 3, cells := 0, slots := 0, locals := 105 }) (lv := [some (.ref v0), some (.int v1), some (.int v2), some (.int v3), none, none]) (own := RX12) (fr := 3) (lo := 105) (by decide) rfl rfl rfl (Nat.le_of_ble_eq_true rfl) rfl (fun hw p e R s m args below meth c hC hr hlk hnm => ?_)
  unfold w_X12_come at hw
  refine z_iload_n hC dX12_come_0 rfl rfl ?_
  refine z_callS (ku' := 0) (kv' := 0) (n := 1) (As := [.int v1]) (st := []) hC (c_X12_isPlace l G B S v1 _) hw lk_1571 lk_1572 lk_133 lk_1573 hd_X12_isPlace rfl rfl (Nat.le_of_ble_eq_true rfl) (Nat.le_of_ble_eq_true rfl) rfl (Nat.le_of_ble_eq_true rfl) dX12_come_1 (Nat.le_refl 0) (Nat.le_refl 0) (kI (fun x1 S hw => ?_))
  refine z_if_eq (tgt := 31) hC dX12_come_4 (by decide) (fun c4 => ?_) (fun c4 => ?_)
  · have hw := hw.1 c4
    refine z_iconst hC ic_m1 dX12_come_31 ?_
    exact z_iret hC hr hlk dX12_come_32 ⟨_, rfl, hw⟩
  · have hw := hw.2 c4
    refine z_iload_n hC dX12_come_7 rfl rfl ?_
    refine z_i2l hC rfl dX12_come_8 ?_
    refine z_lconst hC lc_0 dX12_come_9 ?_
    refine z_ldc2 hC lk_1575 dX12_come_10 ?_
    refine z_callS (ku' := 0) (kv' := 0) (n := 3) (As := [.long (Int32.toInt64 v2), .long 0, .long 99]) (st := []) hC (c_X12_in l G B S (Int32.toInt64 v2) 0 99 _) hw lk_1556 lk_1557 lk_133 lk_1558 hd_X12_in rfl rfl (Nat.le_of_ble_eq_true rfl) (Nat.le_of_ble_eq_true rfl) rfl (Nat.le_of_ble_eq_true rfl) dX12_come_13 (Nat.le_refl 0) (Nat.le_refl 0) (kI (fun x13 S hw => ?_))
    refine z_if_eq (tgt := 31) hC dX12_come_16 (by decide) (fun c16 => ?_) (fun c16 => ?_)
    · have hw := hw.1 c16
      refine z_iconst hC ic_m1 dX12_come_31 ?_
      exact z_iret hC hr hlk dX12_come_32 ⟨_, rfl, hw⟩
    · have hw := hw.2 c16
      refine z_iload_n hC dX12_come_19 rfl rfl ?_
      refine z_i2l hC rfl dX12_come_20 ?_
      refine z_lconst hC lc_0 dX12_come_21 ?_
      refine z_ldc2 hC lk_1639 dX12_come_22 ?_
      refine z_callS (ku' := 0) (kv' := 0) (n := 3) (As := [.long (Int32.toInt64 v3), .long 0, .long 999]) (st := []) hC (c_X12_in l G B S (Int32.toInt64 v3) 0 999 _) hw lk_1556 lk_1557 lk_133 lk_1558 hd_X12_in rfl rfl (Nat.le_of_ble_eq_true rfl) (Nat.le_of_ble_eq_true rfl) rfl (Nat.le_of_ble_eq_true rfl) dX12_come_25 (Nat.le_refl 0) (Nat.le_refl 0) (kI (fun x25 S hw => ?_))
      refine z_if_ne (tgt := 33) hC dX12_come_28 (by decide) (fun c28 => ?_) (fun c28 => ?_)
      · have hw := hw.1 c28
        refine z_aload_n hC dX12_come_33 rfl rfl ?_
        refine z_getP hC FX12 3 lk_1358 dX12_come_34 (by decide) hw (fun x34 hw => ?_)
        refine z_iconst hC ic_1 dX12_come_37 ?_
        refine z_aldI hC dX12_come_38 hw (fun x38 hw => ?_)
        refine z_istore (i := 4) (lv' := [some (.ref v0), some (.int v1), some (.int v2), some (.int v3), some (.int x38), none]) hC dX12_come_39 (by decide) (hok_v rfl rfl) rfl ?_
        refine z_iload hC dX12_come_41 rfl ?_
        refine z_bipush hC bi_8 dX12_come_43 ?_
        refine z_icmp_ne (tgt := 51) hC dX12_come_45 (by decide) (fun c45 => ?_) (fun c45 => ?_)
        · have hw := hw.1 c45
          refine z_aload_n hC dX12_come_51 rfl rfl ?_
          refine z_getP hC FX12 3 lk_1358 dX12_come_52 (by decide) hw (fun x52 hw => ?_)
          refine z_sipush hC si_138 dX12_come_55 ?_
          refine z_iload hC dX12_come_58 rfl ?_
          refine z_iadd hC dX12_come_60 ?_
          refine z_iload_n hC dX12_come_61 rfl rfl ?_
          refine z_astI hC dX12_come_62 hw (fun S hw => ?_)
          refine z_aload_n hC dX12_come_63 rfl rfl ?_
          refine z_getP hC FX12 3 lk_1358 dX12_come_64 (by decide) hw (fun x64 hw => ?_)
          refine z_sipush hC si_146 dX12_come_67 ?_
          refine z_iload hC dX12_come_70 rfl ?_
          refine z_iadd hC dX12_come_72 ?_
          refine z_iload_n hC dX12_come_73 rfl rfl ?_
          refine z_astI hC dX12_come_74 hw (fun S hw => ?_)
          refine z_aload_n hC dX12_come_75 rfl rfl ?_
          refine z_getP hC FX12 3 lk_1358 dX12_come_76 (by decide) hw (fun x76 hw => ?_)
          refine z_bipush hC bi_14 dX12_come_79 ?_
          refine z_iload hC dX12_come_81 rfl ?_
          refine z_iadd hC dX12_come_83 ?_
          refine z_iload_n hC dX12_come_84 rfl rfl ?_
          refine z_astI hC dX12_come_85 hw (fun S hw => ?_)
          refine z_aload_n hC dX12_come_86 rfl rfl ?_
          refine z_getP hC FX12 3 lk_1358 dX12_come_87 (by decide) hw (fun x87 hw => ?_)
          refine z_sipush hC si_154 dX12_come_90 ?_
          refine z_iload hC dX12_come_93 rfl ?_
          refine z_iadd hC dX12_come_95 ?_
          refine z_iconst hC ic_m1 dX12_come_96 ?_
          refine z_astI hC dX12_come_97 hw (fun S hw => ?_)
          refine z_aload_n hC dX12_come_98 rfl rfl ?_
          refine z_getP hC FX12 3 lk_1358 dX12_come_99 (by decide) hw (fun x99 hw => ?_)
          refine z_sipush hC si_162 dX12_come_102 ?_
          refine z_iload hC dX12_come_105 rfl ?_
          refine z_iadd hC dX12_come_107 ?_
          refine z_iconst hC ic_0 dX12_come_108 ?_
          refine z_astI hC dX12_come_109 hw (fun S hw => ?_)
          refine z_aload_n hC dX12_come_110 rfl rfl ?_
          refine z_getP hC FX12 3 lk_1358 dX12_come_111 (by decide) hw (fun x111 hw => ?_)
          refine z_bipush hC bi_22 dX12_come_114 ?_
          refine z_iload hC dX12_come_116 rfl ?_
          refine z_iadd hC dX12_come_118 ?_
          refine z_iconst hC ic_0 dX12_come_119 ?_
          refine z_astI hC dX12_come_120 hw (fun S hw => ?_)
          refine z_iconst hC ic_0 dX12_come_121 ?_
          refine z_istore (i := 5) (lv' := [some (.ref v0), some (.int v1), some (.int v2), some (.int v3), some (.int x38), some (.int 0)]) hC dX12_come_122 (by decide) (hok_v rfl rfl) rfl ?_
          refine z_mask (lv' := [some (.ref v0), none, none, none, some (.int x38), some (.int 0)]) [true, false, false, false, true, true] rfl ?_
          obtain ⟨n124, hw⟩ := hw
          exact t_X12_come_b124 hC hr hlk hnm n124 hw
        · have hw := hw.2 c45
          refine z_bipush hC bi_m5 dX12_come_48 ?_
          exact z_iret hC hr hlk dX12_come_50 ⟨_, rfl, hw⟩
      · have hw := hw.2 c28
        refine z_iconst hC ic_m1 dX12_come_31 ?_
        exact z_iret hC hr hlk dX12_come_32 ⟨_, rfl, hw⟩
end
section
variable {p : Program} {l : Launch} {e : Env} {R : Room} {s : State} {m : MethodId} {args : Array Value} {below : List Frame} {meth : Method} {c : Code} {G : hG} {B mc ms : Nat}
def w_X12_person (q : Int32 → hS → Prop) (S : hS) (v0 : Nat) (v1 : Int32) (v2 : Int32) (v3 : Int32) : Prop := pI S v0 12 0 0 (fun S => oK S v0 12 ∧ w_X12_come (fun x10 S => oK S v0 12 ∧ w_X12_settled (fun x13 S => q x13 S) S v0 x10) S v0 v1 v2 v3)
set_option maxRecDepth 100000 in
set_option maxHeartbeats 4000000 in
theorem c_X12_person (l : Launch) (G : hG) (B : Nat) (S : hS) (v0 : Nat) (v1 : Int32) (v2 : Int32) (v3 : Int32) (q : Int32 → hS → Prop) : Met l yX12_person (hws yX12_person cX12_person 4 (Option.some FieldType.int)) ({ frames := 4, cells := 0, slots := 0, locals := 130 }) (hPc G B S [.ref v0, .int v1, .int v2, .int v3] (w_X12_person q S v0 v1 v2 v3)) (hQ G B (iP q)) (0) (0) (fun r => B ≤ r) := by
  refine hMet (rm := { frames := 4, cells := 0, slots := 0, locals := 130 }) (lv := [some (.ref v0), some (.int v1), some (.int v2), some (.int v3)]) (own := RX12) (fr := 4) (lo := 130) (by decide) rfl rfl rfl (Nat.le_of_ble_eq_true rfl) rfl (fun hw p e R s m args below meth c hC hr hlk hnm => ?_)
  unfold w_X12_person at hw
  refine z_aload_n hC dX12_person_0 rfl rfl ?_
  refine z_iconst hC ic_0 dX12_person_1 ?_
  refine z_putI hC FX12 0 lk_1355 dX12_person_2 (by decide) rfl rfl hw (fun S hw => ?_)
  refine z_aload_n hC dX12_person_5 rfl rfl ?_
  refine z_aload_n hC dX12_person_6 rfl rfl ?_
  refine z_iload_n hC dX12_person_7 rfl rfl ?_
  refine z_iload_n hC dX12_person_8 rfl rfl ?_
  refine z_iload_n hC dX12_person_9 rfl rfl ?_
  refine z_callV (ku' := 0) (kv' := 0) (n := 3) (As := [.int v1, .int v2, .int v3]) (st := [.ref v0]) hC (c_X12_come l G B S v0 v1 v2 v3 _) hw.2 hw.1 rfl lk_1635 lk_1637 lk_55 lk_133 lk_1638 hd_X12_come rfl rfl (Nat.le_of_ble_eq_true rfl) (Nat.le_of_ble_eq_true rfl) rfl (Nat.le_of_ble_eq_true rfl) dX12_person_10 (Nat.le_refl 0) (Nat.le_refl 0) (kI (fun x10 S hw => ?_))
  refine z_callV (ku' := 0) (kv' := 0) (n := 1) (As := [.int x10]) (st := []) hC (c_X12_settled l G B S v0 x10 _) hw.2 hw.1 rfl lk_1563 lk_1565 lk_43 lk_133 lk_1566 hd_X12_settled rfl rfl (Nat.le_of_ble_eq_true rfl) (Nat.le_of_ble_eq_true rfl) rfl (Nat.le_of_ble_eq_true rfl) dX12_person_13 (Nat.le_refl 0) (Nat.le_refl 0) (kI (fun x13 S hw => ?_))
  exact z_iret hC hr hlk dX12_person_16 ⟨_, rfl, hw⟩
end
section
variable {p : Program} {l : Launch} {e : Env} {R : Room} {s : State} {m : MethodId} {args : Array Value} {below : List Frame} {meth : Method} {c : Code} {G : hG} {B mc ms : Nat}
def w_X12_of (q : Int32 → hS → Prop) (S : hS) (v0 : Nat) (v1 : Int32) (v2 : Int32) : Prop := pI S v0 12 0 0 (fun S => oK S v0 12 ∧ w_X12_isPerson (fun x7 S => (¬ x7 = 0 → ∀ y16 : Int32, y16 = v2 → ((y16.toInt = 0 → gP S v0 12 3 (fun x57 => aI S x57 (138 + v1) (fun x65 => q x65 S))) ∧ (y16.toInt = 1 → gP S v0 12 3 (fun x68 => aI S x68 (146 + v1) (fun x76 => q x76 S))) ∧ (y16.toInt = 2 → gP S v0 12 3 (fun x79 => aI S x79 (14 + v1) (fun x86 => q x86 S))) ∧ (y16.toInt = 3 → gP S v0 12 3 (fun x89 => aI S x89 (154 + v1) (fun x97 => q x97 S))) ∧ (y16.toInt = 4 → gP S v0 12 3 (fun x100 => aI S x100 (162 + v1) (fun x108 => q x108 S))) ∧ (y16.toInt = 5 → oK S v0 12 ∧ w_X12_lives (fun x112 S => (x112 = 0 → q 0 S) ∧ (¬ x112 = 0 → q 1 S)) S v0 v1) ∧ ((y16.toInt < 0 ∨ 5 < y16.toInt) → q (-1) S))) ∧ (x7 = 0 → q (-1) S)) S v0 v1)
set_option maxRecDepth 100000 in
set_option maxHeartbeats 4000000 in
theorem c_X12_of (l : Launch) (G : hG) (B : Nat) (S : hS) (v0 : Nat) (v1 : Int32) (v2 : Int32) (q : Int32 → hS → Prop) : Met l yX12_of (hws yX12_of cX12_of 3 (Option.some FieldType.int)) ({ frames := 3, cells := 0, slots := 0, locals := 106 }) (hPc G B S [.ref v0, .int v1, .int v2] (w_X12_of q S v0 v1 v2)) (hQ G B (iP q)) (0) (0) (fun r => B ≤ r) := by
  refine hMet (rm := { frames := 3, cells := 0, slots := 0, locals := 106 }) (lv := [some (.ref v0), some (.int v1), some (.int v2)]) (own := RX12) (fr := 3) (lo := 106) (by decide) rfl rfl rfl (Nat.le_of_ble_eq_true rfl) rfl (fun hw p e R s m args below meth c hC hr hlk hnm => ?_)
  unfold w_X12_of at hw
  refine z_aload_n hC dX12_of_0 rfl rfl ?_
  refine z_iconst hC ic_0 dX12_of_1 ?_
  refine z_putI hC FX12 0 lk_1355 dX12_of_2 (by decide) rfl rfl hw (fun S hw => ?_)
  refine z_aload_n hC dX12_of_5 rfl rfl ?_
  refine z_iload_n hC dX12_of_6 rfl rfl ?_
  refine z_callV (ku' := 0) (kv' := 0) (n := 1) (As := [.int v1]) (st := []) hC (c_X12_isPerson l G B S v0 v1 _) hw.2 hw.1 rfl lk_1614 lk_1616 lk_52 lk_133 lk_1617 hd_X12_isPerson rfl rfl (Nat.le_of_ble_eq_true rfl) (Nat.le_of_ble_eq_true rfl) rfl (Nat.le_of_ble_eq_true rfl) dX12_of_7 (Nat.le_refl 0) (Nat.le_refl 0) (kI (fun x7 S hw => ?_))
  refine z_if_ne (tgt := 15) hC dX12_of_10 (by decide) (fun c10 => ?_) (fun c10 => ?_)
  · have hw := hw.1 c10
    refine z_iload_n hC dX12_of_15 rfl rfl ?_
    refine z_nmI (fun y16 e16 => ?_)
    have hw := hw y16 e16
    by_cases q16_0 : y16.toInt = 0
    · have hw := hw.1 q16_0
      refine z_tabIn (tgt := 56) (off := 40) hC 0 dX12_of_16 q16_0 (by decide) rfl (by decide) ?_
      refine z_aload_n hC dX12_of_56 rfl rfl ?_
      refine z_getP hC FX12 3 lk_1358 dX12_of_57 (by decide) hw (fun x57 hw => ?_)
      refine z_sipush hC si_138 dX12_of_60 ?_
      refine z_iload_n hC dX12_of_63 rfl rfl ?_
      refine z_iadd hC dX12_of_64 ?_
      refine z_aldI hC dX12_of_65 hw (fun x65 hw => ?_)
      exact z_iret hC hr hlk dX12_of_66 ⟨_, rfl, hw⟩
    by_cases q16_1 : y16.toInt = 1
    · have hw := hw.2.1 q16_1
      refine z_tabIn (tgt := 67) (off := 51) hC 1 dX12_of_16 q16_1 (by decide) rfl (by decide) ?_
      refine z_aload_n hC dX12_of_67 rfl rfl ?_
      refine z_getP hC FX12 3 lk_1358 dX12_of_68 (by decide) hw (fun x68 hw => ?_)
      refine z_sipush hC si_146 dX12_of_71 ?_
      refine z_iload_n hC dX12_of_74 rfl rfl ?_
      refine z_iadd hC dX12_of_75 ?_
      refine z_aldI hC dX12_of_76 hw (fun x76 hw => ?_)
      exact z_iret hC hr hlk dX12_of_77 ⟨_, rfl, hw⟩
    by_cases q16_2 : y16.toInt = 2
    · have hw := hw.2.2.1 q16_2
      refine z_tabIn (tgt := 78) (off := 62) hC 2 dX12_of_16 q16_2 (by decide) rfl (by decide) ?_
      refine z_aload_n hC dX12_of_78 rfl rfl ?_
      refine z_getP hC FX12 3 lk_1358 dX12_of_79 (by decide) hw (fun x79 hw => ?_)
      refine z_bipush hC bi_14 dX12_of_82 ?_
      refine z_iload_n hC dX12_of_84 rfl rfl ?_
      refine z_iadd hC dX12_of_85 ?_
      refine z_aldI hC dX12_of_86 hw (fun x86 hw => ?_)
      exact z_iret hC hr hlk dX12_of_87 ⟨_, rfl, hw⟩
    by_cases q16_3 : y16.toInt = 3
    · have hw := hw.2.2.2.1 q16_3
      refine z_tabIn (tgt := 88) (off := 72) hC 3 dX12_of_16 q16_3 (by decide) rfl (by decide) ?_
      refine z_aload_n hC dX12_of_88 rfl rfl ?_
      refine z_getP hC FX12 3 lk_1358 dX12_of_89 (by decide) hw (fun x89 hw => ?_)
      refine z_sipush hC si_154 dX12_of_92 ?_
      refine z_iload_n hC dX12_of_95 rfl rfl ?_
      refine z_iadd hC dX12_of_96 ?_
      refine z_aldI hC dX12_of_97 hw (fun x97 hw => ?_)
      exact z_iret hC hr hlk dX12_of_98 ⟨_, rfl, hw⟩
    by_cases q16_4 : y16.toInt = 4
    · have hw := hw.2.2.2.2.1 q16_4
      refine z_tabIn (tgt := 99) (off := 83) hC 4 dX12_of_16 q16_4 (by decide) rfl (by decide) ?_
      refine z_aload_n hC dX12_of_99 rfl rfl ?_
      refine z_getP hC FX12 3 lk_1358 dX12_of_100 (by decide) hw (fun x100 hw => ?_)
      refine z_sipush hC si_162 dX12_of_103 ?_
      refine z_iload_n hC dX12_of_106 rfl rfl ?_
      refine z_iadd hC dX12_of_107 ?_
      refine z_aldI hC dX12_of_108 hw (fun x108 hw => ?_)
      exact z_iret hC hr hlk dX12_of_109 ⟨_, rfl, hw⟩
    by_cases q16_5 : y16.toInt = 5
    · have hw := hw.2.2.2.2.2.1 q16_5
      refine z_tabIn (tgt := 110) (off := 94) hC 5 dX12_of_16 q16_5 (by decide) rfl (by decide) ?_
      refine z_aload_n hC dX12_of_110 rfl rfl ?_
      refine z_iload_n hC dX12_of_111 rfl rfl ?_
      refine z_callV (ku' := 0) (kv' := 0) (n := 1) (As := [.int v1]) (st := []) hC (c_X12_lives l G B S v0 v1 _) hw.2 hw.1 rfl lk_1644 lk_1646 lk_56 lk_133 lk_1647 hd_X12_lives rfl rfl (Nat.le_of_ble_eq_true rfl) (Nat.le_of_ble_eq_true rfl) rfl (Nat.le_of_ble_eq_true rfl) dX12_of_112 (Nat.le_refl 0) (Nat.le_refl 0) (kI (fun x112 S hw => ?_))
      refine z_if_eq (tgt := 122) hC dX12_of_115 (by decide) (fun c115 => ?_) (fun c115 => ?_)
      · have hw := hw.1 c115
        refine z_iconst hC ic_0 dX12_of_122 ?_
        exact z_iret hC hr hlk dX12_of_123 ⟨_, rfl, hw⟩
      · have hw := hw.2 c115
        refine z_iconst hC ic_1 dX12_of_118 ?_
        refine z_goto (tgt := 123) hC dX12_of_119 (by decide) ?_
        exact z_iret hC hr hlk dX12_of_123 ⟨_, rfl, hw⟩
    have o16 : y16.toInt < 0 ∨ 5 < y16.toInt := by omega
    have hw := hw.2.2.2.2.2.2 o16
    refine z_tabOut (tgt := 124) hC dX12_of_16 o16 (by decide) ?_
    refine z_iconst hC ic_m1 dX12_of_124 ?_
    exact z_iret hC hr hlk dX12_of_125 ⟨_, rfl, hw⟩
  · have hw := hw.2 c10
    refine z_iconst hC ic_m1 dX12_of_13 ?_
    exact z_iret hC hr hlk dX12_of_14 ⟨_, rfl, hw⟩
end
section
variable {p : Program} {l : Launch} {e : Env} {R : Room} {s : State} {m : MethodId} {args : Array Value} {below : List Frame} {meth : Method} {c : Code} {G : hG} {B mc ms : Nat}
def w_X12_want_b24 (q : Int32 → hS → Prop) (S : hS) (v0 : Nat) (v1 : Int32) (v2 : Int32) : Prop := oK S v0 12 ∧ w_X12_isPerson (fun x26 S => (¬ x26 = 0 → gP S v0 12 3 (fun x40 => sI S x40 (154 + v1) v2 (fun S => oK S v0 12 ∧ w_X12_tell (fun x52 S => q x52 S) S v0 0))) ∧ (x26 = 0 → oK S v0 12 ∧ w_X12_tell (fun x35 S => q x35 S) S v0 (-2))) S v0 v1
set_option maxRecDepth 100000 in
set_option maxHeartbeats 4000000 in
theorem t_X12_want_b24 (hC : zC p R s m args c cX12_want 3 RX12 G B mc ms 3 106) (hr : meth.sig.returnType = (Option.some FieldType.int)) (hlk : meth.locks = false) (hnm : meth.name = "want") {q : Int32 → hS → Prop} {S : hS} {v0 : Nat} {v1 : Int32} {v2 : Int32} (hw : w_X12_want_b24 q S v0 v1 v2) : Z p l e R s m args below meth c (MQ below (hQ G B (iP q)) args s mc ms (fun r => B ≤ r)) G B mc ms 3 S 0 0 24 [some (.ref v0), some (.int v1), some (.int v2)] [] := by
  unfold w_X12_want_b24 at hw
  refine z_aload_n hC dX12_want_24 rfl rfl ?_
  refine z_iload_n hC dX12_want_25 rfl rfl ?_
  refine z_callV (ku' := 0) (kv' := 0) (n := 1) (As := [.int v1]) (st := []) hC (c_X12_isPerson l G B S v0 v1 _) hw.2 hw.1 rfl lk_1614 lk_1616 lk_52 lk_133 lk_1617 hd_X12_isPerson rfl rfl (Nat.le_of_ble_eq_true rfl) (Nat.le_of_ble_eq_true rfl) rfl (Nat.le_of_ble_eq_true rfl) dX12_want_26 (Nat.le_refl 0) (Nat.le_refl 0) (kI (fun x26 S hw => ?_))
  refine z_if_ne (tgt := 39) hC dX12_want_29 (by decide) (fun c29 => ?_) (fun c29 => ?_)
  · have hw := hw.1 c29
    refine z_aload_n hC dX12_want_39 rfl rfl ?_
    refine z_getP hC FX12 3 lk_1358 dX12_want_40 (by decide) hw (fun x40 hw => ?_)
    refine z_sipush hC si_154 dX12_want_43 ?_
    refine z_iload_n hC dX12_want_46 rfl rfl ?_
    refine z_iadd hC dX12_want_47 ?_
    refine z_iload_n hC dX12_want_48 rfl rfl ?_
    refine z_astI hC dX12_want_49 hw (fun S hw => ?_)
    refine z_aload_n hC dX12_want_50 rfl rfl ?_
    refine z_iconst hC ic_0 dX12_want_51 ?_
    refine z_callV (ku' := 0) (kv' := 0) (n := 1) (As := [.int 0]) (st := []) hC (c_X12_tell l G B S v0 0 _) hw.2 hw.1 rfl lk_1544 lk_1546 lk_41 lk_133 lk_1547 hd_X12_tell rfl rfl (Nat.le_of_ble_eq_true rfl) (Nat.le_of_ble_eq_true rfl) rfl (Nat.le_of_ble_eq_true rfl) dX12_want_52 (Nat.le_refl 0) (Nat.le_refl 0) (kI (fun x52 S hw => ?_))
    exact z_iret hC hr hlk dX12_want_55 ⟨_, rfl, hw⟩
  · have hw := hw.2 c29
    refine z_aload_n hC dX12_want_32 rfl rfl ?_
    refine z_bipush hC bi_m2 dX12_want_33 ?_
    refine z_callV (ku' := 0) (kv' := 0) (n := 1) (As := [.int (-2)]) (st := []) hC (c_X12_tell l G B S v0 (-2) _) hw.2 hw.1 rfl lk_1544 lk_1546 lk_41 lk_133 lk_1547 hd_X12_tell rfl rfl (Nat.le_of_ble_eq_true rfl) (Nat.le_of_ble_eq_true rfl) rfl (Nat.le_of_ble_eq_true rfl) dX12_want_35 (Nat.le_refl 0) (Nat.le_refl 0) (kI (fun x35 S hw => ?_))
    exact z_iret hC hr hlk dX12_want_38 ⟨_, rfl, hw⟩
def w_X12_want (q : Int32 → hS → Prop) (S : hS) (v0 : Nat) (v1 : Int32) (v2 : Int32) : Prop := pI S v0 12 0 0 (fun S => (v2 = (-1) → w_X12_want_b24 q S v0 v1 v2) ∧ (¬ v2 = (-1) → oK S v0 12 ∧ w_X12_isHouse (fun x12 S => (¬ x12 = 0 → w_X12_want_b24 q S v0 v1 v2) ∧ (x12 = 0 → oK S v0 12 ∧ w_X12_tell (fun x20 S => q x20 S) S v0 (-1))) S v0 v2))
set_option maxRecDepth 100000 in
set_option maxHeartbeats 4000000 in
theorem c_X12_want (l : Launch) (G : hG) (B : Nat) (S : hS) (v0 : Nat) (v1 : Int32) (v2 : Int32) (q : Int32 → hS → Prop) : Met l yX12_want (hws yX12_want cX12_want 3 (Option.some FieldType.int)) ({ frames := 3, cells := 0, slots := 0, locals := 106 }) (hPc G B S [.ref v0, .int v1, .int v2] (w_X12_want q S v0 v1 v2)) (hQ G B (iP q)) (0) (0) (fun r => B ≤ r) := by
  refine hMet (rm := { frames := 3, cells := 0, slots := 0, locals := 106 }) (lv := [some (.ref v0), some (.int v1), some (.int v2)]) (own := RX12) (fr := 3) (lo := 106) (by decide) rfl rfl rfl (Nat.le_of_ble_eq_true rfl) rfl (fun hw p e R s m args below meth c hC hr hlk hnm => ?_)
  unfold w_X12_want at hw
  refine z_aload_n hC dX12_want_0 rfl rfl ?_
  refine z_iconst hC ic_0 dX12_want_1 ?_
  refine z_putI hC FX12 0 lk_1355 dX12_want_2 (by decide) rfl rfl hw (fun S hw => ?_)
  refine z_iload_n hC dX12_want_5 rfl rfl ?_
  refine z_iconst hC ic_m1 dX12_want_6 ?_
  refine z_icmp_eq (tgt := 24) hC dX12_want_7 (by decide) (fun c7 => ?_) (fun c7 => ?_)
  · have hw := hw.1 c7
    refine z_mask (lv' := [some (.ref v0), some (.int v1), some (.int v2)]) [true, true, true] rfl ?_
    exact t_X12_want_b24 hC hr hlk hnm hw
  · have hw := hw.2 c7
    refine z_aload_n hC dX12_want_10 rfl rfl ?_
    refine z_iload_n hC dX12_want_11 rfl rfl ?_
    refine z_callV (ku' := 0) (kv' := 0) (n := 1) (As := [.int v2]) (st := []) hC (c_X12_isHouse l G B S v0 v2 _) hw.2 hw.1 rfl lk_1580 lk_1582 lk_44 lk_133 lk_1583 hd_X12_isHouse rfl rfl (Nat.le_of_ble_eq_true rfl) (Nat.le_of_ble_eq_true rfl) rfl (Nat.le_of_ble_eq_true rfl) dX12_want_12 (Nat.le_refl 0) (Nat.le_refl 0) (kI (fun x12 S hw => ?_))
    refine z_if_ne (tgt := 24) hC dX12_want_15 (by decide) (fun c15 => ?_) (fun c15 => ?_)
    · have hw := hw.1 c15
      refine z_mask (lv' := [some (.ref v0), some (.int v1), some (.int v2)]) [true, true, true] rfl ?_
      exact t_X12_want_b24 hC hr hlk hnm hw
    · have hw := hw.2 c15
      refine z_aload_n hC dX12_want_18 rfl rfl ?_
      refine z_iconst hC ic_m1 dX12_want_19 ?_
      refine z_callV (ku' := 0) (kv' := 0) (n := 1) (As := [.int (-1)]) (st := []) hC (c_X12_tell l G B S v0 (-1) _) hw.2 hw.1 rfl lk_1544 lk_1546 lk_41 lk_133 lk_1547 hd_X12_tell rfl rfl (Nat.le_of_ble_eq_true rfl) (Nat.le_of_ble_eq_true rfl) rfl (Nat.le_of_ble_eq_true rfl) dX12_want_20 (Nat.le_refl 0) (Nat.le_refl 0) (kI (fun x20 S hw => ?_))
      exact z_iret hC hr hlk dX12_want_23 ⟨_, rfl, hw⟩
end
section
variable {p : Program} {l : Launch} {e : Env} {R : Room} {s : State} {m : MethodId} {args : Array Value} {below : List Frame} {meth : Method} {c : Code} {G : hG} {B mc ms : Nat}
def w_X12_will_b44 (q : Int32 → hS → Prop) (S : hS) (v0 : Nat) : Prop := oK S v0 12 ∧ w_X12_tell (fun x46 S => q x46 S) S v0 (-1)
set_option maxRecDepth 100000 in
set_option maxHeartbeats 4000000 in
theorem t_X12_will_b44 (hC : zC p R s m args c cX12_will 3 RX12 G B mc ms 3 106) (hr : meth.sig.returnType = (Option.some FieldType.int)) (hlk : meth.locks = false) (hnm : meth.name = "will") {q : Int32 → hS → Prop} {S : hS} {v0 : Nat} (hw : w_X12_will_b44 q S v0) : Z p l e R s m args below meth c (MQ below (hQ G B (iP q)) args s mc ms (fun r => B ≤ r)) G B mc ms 3 S 0 0 44 [some (.ref v0), none, none] [] := by
  unfold w_X12_will_b44 at hw
  refine z_aload_n hC dX12_will_44 rfl rfl ?_
  refine z_iconst hC ic_m1 dX12_will_45 ?_
  refine z_callV (ku' := 0) (kv' := 0) (n := 1) (As := [.int (-1)]) (st := []) hC (c_X12_tell l G B S v0 (-1) _) hw.2 hw.1 rfl lk_1544 lk_1546 lk_41 lk_133 lk_1547 hd_X12_tell rfl rfl (Nat.le_of_ble_eq_true rfl) (Nat.le_of_ble_eq_true rfl) rfl (Nat.le_of_ble_eq_true rfl) dX12_will_46 (Nat.le_refl 0) (Nat.le_refl 0) (kI (fun x46 S hw => ?_))
  exact z_iret hC hr hlk dX12_will_49 ⟨_, rfl, hw⟩
def w_X12_will_b50 (q : Int32 → hS → Prop) (S : hS) (v0 : Nat) (v1 : Int32) (v2 : Int32) : Prop := oK S v0 12 ∧ w_X12_isPerson (fun x52 S => (x52 = 0 → oK S v0 12 ∧ w_X12_tell (fun x74 S => q x74 S) S v0 (-2)) ∧ (¬ x52 = 0 → oK S v0 12 ∧ w_X12_change (fun x65 S => q x65 S) S v0 (162 + v1) v2)) S v0 v1
set_option maxRecDepth 100000 in
set_option maxHeartbeats 4000000 in
theorem t_X12_will_b50 (hC : zC p R s m args c cX12_will 3 RX12 G B mc ms 3 106) (hr : meth.sig.returnType = (Option.some FieldType.int)) (hlk : meth.locks = false) (hnm : meth.name = "will") {q : Int32 → hS → Prop} {S : hS} {v0 : Nat} {v1 : Int32} {v2 : Int32} (hw : w_X12_will_b50 q S v0 v1 v2) : Z p l e R s m args below meth c (MQ below (hQ G B (iP q)) args s mc ms (fun r => B ≤ r)) G B mc ms 3 S 0 0 50 [some (.ref v0), some (.int v1), some (.int v2)] [] := by
  unfold w_X12_will_b50 at hw
  refine z_aload_n hC dX12_will_50 rfl rfl ?_
  refine z_iload_n hC dX12_will_51 rfl rfl ?_
  refine z_callV (ku' := 0) (kv' := 0) (n := 1) (As := [.int v1]) (st := []) hC (c_X12_isPerson l G B S v0 v1 _) hw.2 hw.1 rfl lk_1614 lk_1616 lk_52 lk_133 lk_1617 hd_X12_isPerson rfl rfl (Nat.le_of_ble_eq_true rfl) (Nat.le_of_ble_eq_true rfl) rfl (Nat.le_of_ble_eq_true rfl) dX12_will_52 (Nat.le_refl 0) (Nat.le_refl 0) (kI (fun x52 S hw => ?_))
  refine z_if_eq (tgt := 71) hC dX12_will_55 (by decide) (fun c55 => ?_) (fun c55 => ?_)
  · have hw := hw.1 c55
    refine z_aload_n hC dX12_will_71 rfl rfl ?_
    refine z_bipush hC bi_m2 dX12_will_72 ?_
    refine z_callV (ku' := 0) (kv' := 0) (n := 1) (As := [.int (-2)]) (st := []) hC (c_X12_tell l G B S v0 (-2) _) hw.2 hw.1 rfl lk_1544 lk_1546 lk_41 lk_133 lk_1547 hd_X12_tell rfl rfl (Nat.le_of_ble_eq_true rfl) (Nat.le_of_ble_eq_true rfl) rfl (Nat.le_of_ble_eq_true rfl) dX12_will_74 (Nat.le_refl 0) (Nat.le_refl 0) (kI (fun x74 S hw => ?_))
    exact z_iret hC hr hlk dX12_will_77 ⟨_, rfl, hw⟩
  · have hw := hw.2 c55
    refine z_aload_n hC dX12_will_58 rfl rfl ?_
    refine z_sipush hC si_162 dX12_will_59 ?_
    refine z_iload_n hC dX12_will_62 rfl rfl ?_
    refine z_iadd hC dX12_will_63 ?_
    refine z_iload_n hC dX12_will_64 rfl rfl ?_
    refine z_callV (ku' := 0) (kv' := 0) (n := 2) (As := [.int (162 + v1), .int v2]) (st := []) hC (c_X12_change l G B S v0 (162 + v1) v2 _) hw.2 hw.1 rfl lk_1660 lk_1662 lk_57 lk_133 lk_1663 hd_X12_change rfl rfl (Nat.le_of_ble_eq_true rfl) (Nat.le_of_ble_eq_true rfl) rfl (Nat.le_of_ble_eq_true rfl) dX12_will_65 (Nat.le_refl 0) (Nat.le_refl 0) (kI (fun x65 S hw => ?_))
    refine z_goto (tgt := 77) hC dX12_will_68 (by decide) ?_
    exact z_iret hC hr hlk dX12_will_77 ⟨_, rfl, hw⟩
def w_X12_will (q : Int32 → hS → Prop) (S : hS) (v0 : Nat) (v1 : Int32) (v2 : Int32) : Prop := pI S v0 12 0 0 (fun S => gP S v0 12 3 (fun x10 => aI S x10 1 (fun x14 => w_X12_in (fun x18 S => (x18 = 0 → w_X12_will_b44 q S v0) ∧ (¬ x18 = 0 → w_X12_in (fun x30 S => (x30 = 0 → w_X12_will_b50 q S v0 v1 v2) ∧ (¬ x30 = 0 → w_X12_is (fun x38 S => (x38 = 0 → w_X12_will_b50 q S v0 v1 v2) ∧ (¬ x38 = 0 → w_X12_will_b44 q S v0)) S v2 v1)) S (Int32.toInt64 v1) 0 7)) S (Int32.toInt64 v2) 0 ((1 <<< (Int32.toInt64 x14 &&& 63)) - 1))))
set_option maxRecDepth 100000 in
set_option maxHeartbeats 4000000 in
theorem c_X12_will (l : Launch) (G : hG) (B : Nat) (S : hS) (v0 : Nat) (v1 : Int32) (v2 : Int32) (q : Int32 → hS → Prop) : Met l yX12_will (hws yX12_will cX12_will 3 (Option.some FieldType.int)) ({ frames := 3, cells := 0, slots := 0, locals := 106 }) (hPc G B S [.ref v0, .int v1, .int v2] (w_X12_will q S v0 v1 v2)) (hQ G B (iP q)) (0) (0) (fun r => B ≤ r) := by
  refine hMet (rm := { frames := 3, cells := 0, slots := 0, locals := 106 }) (lv := [some (.ref v0), some (.int v1), some (.int v2)]) (own := RX12) (fr := 3) (lo := 106) (by decide) rfl rfl rfl (Nat.le_of_ble_eq_true rfl) rfl (fun hw p e R s m args below meth c hC hr hlk hnm => ?_)
  unfold w_X12_will at hw
  refine z_aload_n hC dX12_will_0 rfl rfl ?_
  refine z_iconst hC ic_0 dX12_will_1 ?_
  refine z_putI hC FX12 0 lk_1355 dX12_will_2 (by decide) rfl rfl hw (fun S hw => ?_)
  refine z_iload_n hC dX12_will_5 rfl rfl ?_
  refine z_i2l hC rfl dX12_will_6 ?_
  refine z_lconst hC lc_0 dX12_will_7 ?_
  refine z_lconst hC lc_1 dX12_will_8 ?_
  refine z_aload_n hC dX12_will_9 rfl rfl ?_
  refine z_getP hC FX12 3 lk_1358 dX12_will_10 (by decide) hw (fun x10 hw => ?_)
  refine z_iconst hC ic_1 dX12_will_13 ?_
  refine z_aldI hC dX12_will_14 hw (fun x14 hw => ?_)
  refine z_lshl hC rfl dX12_will_15 ?_
  refine z_lconst hC lc_1 dX12_will_16 ?_
  refine z_lsub hC dX12_will_17 ?_
  refine z_callS (ku' := 0) (kv' := 0) (n := 3) (As := [.long (Int32.toInt64 v2), .long 0, .long ((1 <<< (Int32.toInt64 x14 &&& 63)) - 1)]) (st := []) hC (c_X12_in l G B S (Int32.toInt64 v2) 0 ((1 <<< (Int32.toInt64 x14 &&& 63)) - 1) _) hw lk_1556 lk_1557 lk_133 lk_1558 hd_X12_in rfl rfl (Nat.le_of_ble_eq_true rfl) (Nat.le_of_ble_eq_true rfl) rfl (Nat.le_of_ble_eq_true rfl) dX12_will_18 (Nat.le_refl 0) (Nat.le_refl 0) (kI (fun x18 S hw => ?_))
  refine z_if_eq (tgt := 44) hC dX12_will_21 (by decide) (fun c21 => ?_) (fun c21 => ?_)
  · have hw := hw.1 c21
    refine z_mask (lv' := [some (.ref v0), none, none]) [true, false, false] rfl ?_
    exact t_X12_will_b44 hC hr hlk hnm hw
  · have hw := hw.2 c21
    refine z_iload_n hC dX12_will_24 rfl rfl ?_
    refine z_i2l hC rfl dX12_will_25 ?_
    refine z_lconst hC lc_0 dX12_will_26 ?_
    refine z_ldc2 hC lk_1656 dX12_will_27 ?_
    refine z_callS (ku' := 0) (kv' := 0) (n := 3) (As := [.long (Int32.toInt64 v1), .long 0, .long 7]) (st := []) hC (c_X12_in l G B S (Int32.toInt64 v1) 0 7 _) hw lk_1556 lk_1557 lk_133 lk_1558 hd_X12_in rfl rfl (Nat.le_of_ble_eq_true rfl) (Nat.le_of_ble_eq_true rfl) rfl (Nat.le_of_ble_eq_true rfl) dX12_will_30 (Nat.le_refl 0) (Nat.le_refl 0) (kI (fun x30 S hw => ?_))
    refine z_if_eq (tgt := 50) hC dX12_will_33 (by decide) (fun c33 => ?_) (fun c33 => ?_)
    · have hw := hw.1 c33
      refine z_mask (lv' := [some (.ref v0), some (.int v1), some (.int v2)]) [true, true, true] rfl ?_
      exact t_X12_will_b50 hC hr hlk hnm hw
    · have hw := hw.2 c33
      refine z_iload_n hC dX12_will_36 rfl rfl ?_
      refine z_iload_n hC dX12_will_37 rfl rfl ?_
      refine z_callS (ku' := 0) (kv' := 0) (n := 2) (As := [.int v2, .int v1]) (st := []) hC (c_X12_is l G B S v2 v1 _) hw lk_1657 lk_1658 lk_133 lk_1659 hd_X12_is rfl rfl (Nat.le_of_ble_eq_true rfl) (Nat.le_of_ble_eq_true rfl) rfl (Nat.le_of_ble_eq_true rfl) dX12_will_38 (Nat.le_refl 0) (Nat.le_refl 0) (kI (fun x38 S hw => ?_))
      refine z_if_eq (tgt := 50) hC dX12_will_41 (by decide) (fun c41 => ?_) (fun c41 => ?_)
      · have hw := hw.1 c41
        refine z_mask (lv' := [some (.ref v0), some (.int v1), some (.int v2)]) [true, true, true] rfl ?_
        exact t_X12_will_b50 hC hr hlk hnm hw
      · have hw := hw.2 c41
        refine z_mask (lv' := [some (.ref v0), none, none]) [true, false, false] rfl ?_
        exact t_X12_will_b44 hC hr hlk hnm hw
end
section
variable {p : Program} {l : Launch} {e : Env} {R : Room} {s : State} {m : MethodId} {args : Array Value} {below : List Frame} {meth : Method} {c : Code} {G : hG} {B mc ms : Nat}
def w_X12_right_b39 (q : Int32 → hS → Prop) (S : hS) (v0 : Nat) : Prop := oK S v0 12 ∧ w_X12_tell (fun x42 S => q x42 S) S v0 (-2)
set_option maxRecDepth 100000 in
set_option maxHeartbeats 4000000 in
theorem t_X12_right_b39 (hC : zC p R s m args c cX12_right 4 RX12 G B mc ms 3 106) (hr : meth.sig.returnType = (Option.some FieldType.int)) (hlk : meth.locks = false) (hnm : meth.name = "right") {q : Int32 → hS → Prop} {S : hS} {v0 : Nat} (hw : w_X12_right_b39 q S v0) : Z p l e R s m args below meth c (MQ below (hQ G B (iP q)) args s mc ms (fun r => B ≤ r)) G B mc ms 4 S 0 0 39 [some (.ref v0), none, none, none] [] := by
  unfold w_X12_right_b39 at hw
  refine z_aload_n hC dX12_right_39 rfl rfl ?_
  refine z_bipush hC bi_m2 dX12_right_40 ?_
  refine z_callV (ku' := 0) (kv' := 0) (n := 1) (As := [.int (-2)]) (st := []) hC (c_X12_tell l G B S v0 (-2) _) hw.2 hw.1 rfl lk_1544 lk_1546 lk_41 lk_133 lk_1547 hd_X12_tell rfl rfl (Nat.le_of_ble_eq_true rfl) (Nat.le_of_ble_eq_true rfl) rfl (Nat.le_of_ble_eq_true rfl) dX12_right_42 (Nat.le_refl 0) (Nat.le_refl 0) (kI (fun x42 S hw => ?_))
  exact z_iret hC hr hlk dX12_right_45 ⟨_, rfl, hw⟩
def w_X12_right_b72 (q : Int32 → hS → Prop) (S : hS) (v0 : Nat) : Prop := oK S v0 12 ∧ w_X12_tell (fun x75 S => q x75 S) S v0 (-3)
set_option maxRecDepth 100000 in
set_option maxHeartbeats 4000000 in
theorem t_X12_right_b72 (hC : zC p R s m args c cX12_right 4 RX12 G B mc ms 3 106) (hr : meth.sig.returnType = (Option.some FieldType.int)) (hlk : meth.locks = false) (hnm : meth.name = "right") {q : Int32 → hS → Prop} {S : hS} {v0 : Nat} (hw : w_X12_right_b72 q S v0) : Z p l e R s m args below meth c (MQ below (hQ G B (iP q)) args s mc ms (fun r => B ≤ r)) G B mc ms 4 S 0 0 72 [some (.ref v0), none, none, none] [] := by
  unfold w_X12_right_b72 at hw
  refine z_aload_n hC dX12_right_72 rfl rfl ?_
  refine z_bipush hC bi_m3 dX12_right_73 ?_
  refine z_callV (ku' := 0) (kv' := 0) (n := 1) (As := [.int (-3)]) (st := []) hC (c_X12_tell l G B S v0 (-3) _) hw.2 hw.1 rfl lk_1544 lk_1546 lk_41 lk_133 lk_1547 hd_X12_tell rfl rfl (Nat.le_of_ble_eq_true rfl) (Nat.le_of_ble_eq_true rfl) rfl (Nat.le_of_ble_eq_true rfl) dX12_right_75 (Nat.le_refl 0) (Nat.le_refl 0) (kI (fun x75 S hw => ?_))
  exact z_iret hC hr hlk dX12_right_78 ⟨_, rfl, hw⟩
def w_X12_right (q : Int32 → hS → Prop) (S : hS) (v0 : Nat) (v1 : Int32) (v2 : Int32) (v3 : Int32) : Prop := pI S v0 12 0 0 (fun S => w_X12_in (fun x11 S => (¬ x11 = 0 → oK S v0 12 ∧ w_X12_isPerson (fun x25 S => (x25 = 0 → w_X12_right_b39 q S v0) ∧ (¬ x25 = 0 → oK S v0 12 ∧ w_X12_isHouse (fun x33 S => (¬ x33 = 0 → oK S v0 12 ∧ w_X12_lives (fun x48 S => (x48 = 0 → w_X12_right_b72 q S v0) ∧ (¬ x48 = 0 → gP S v0 12 3 (fun x56 => aI S x56 ((78 + (6 * v1)) + v2) (fun x68 => (x68 ≤ v3 → pI S v0 12 8 0 (fun S => oK S v0 12 ∧ w_X12_change (fun x95 S => q x95 S) S v0 ((30 + (6 * v1)) + v2) v3)) ∧ (¬ x68 ≤ v3 → w_X12_right_b72 q S v0))))) S v0 v1) ∧ (x33 = 0 → w_X12_right_b39 q S v0)) S v0 v2)) S v0 v1) ∧ (x11 = 0 → oK S v0 12 ∧ w_X12_tell (fun x19 S => q x19 S) S v0 (-1))) S (Int32.toInt64 v3) 0 99)
set_option maxRecDepth 100000 in
set_option maxHeartbeats 4000000 in
theorem c_X12_right (l : Launch) (G : hG) (B : Nat) (S : hS) (v0 : Nat) (v1 : Int32) (v2 : Int32) (v3 : Int32) (q : Int32 → hS → Prop) : Met l yX12_right (hws yX12_right cX12_right 4 (Option.some FieldType.int)) ({ frames := 3, cells := 0, slots := 0, locals := 106 }) (hPc G B S [.ref v0, .int v1, .int v2, .int v3] (w_X12_right q S v0 v1 v2 v3)) (hQ G B (iP q)) (0) (0) (fun r => B ≤ r) := by
  refine hMet (rm := { frames := 3, cells := 0, slots := 0, locals := 106 }) (lv := [some (.ref v0), some (.int v1), some (.int v2), some (.int v3)]) (own := RX12) (fr := 3) (lo := 106) (by decide) rfl rfl rfl (Nat.le_of_ble_eq_true rfl) rfl (fun hw p e R s m args below meth c hC hr hlk hnm => ?_)
  unfold w_X12_right at hw
  refine z_aload_n hC dX12_right_0 rfl rfl ?_
  refine z_iconst hC ic_0 dX12_right_1 ?_
  refine z_putI hC FX12 0 lk_1355 dX12_right_2 (by decide) rfl rfl hw (fun S hw => ?_)
  refine z_iload_n hC dX12_right_5 rfl rfl ?_
  refine z_i2l hC rfl dX12_right_6 ?_
  refine z_lconst hC lc_0 dX12_right_7 ?_
  refine z_ldc2 hC lk_1575 dX12_right_8 ?_
  refine z_callS (ku' := 0) (kv' := 0) (n := 3) (As := [.long (Int32.toInt64 v3), .long 0, .long 99]) (st := []) hC (c_X12_in l G B S (Int32.toInt64 v3) 0 99 _) hw lk_1556 lk_1557 lk_133 lk_1558 hd_X12_in rfl rfl (Nat.le_of_ble_eq_true rfl) (Nat.le_of_ble_eq_true rfl) rfl (Nat.le_of_ble_eq_true rfl) dX12_right_11 (Nat.le_refl 0) (Nat.le_refl 0) (kI (fun x11 S hw => ?_))
  refine z_if_ne (tgt := 23) hC dX12_right_14 (by decide) (fun c14 => ?_) (fun c14 => ?_)
  · have hw := hw.1 c14
    refine z_aload_n hC dX12_right_23 rfl rfl ?_
    refine z_iload_n hC dX12_right_24 rfl rfl ?_
    refine z_callV (ku' := 0) (kv' := 0) (n := 1) (As := [.int v1]) (st := []) hC (c_X12_isPerson l G B S v0 v1 _) hw.2 hw.1 rfl lk_1614 lk_1616 lk_52 lk_133 lk_1617 hd_X12_isPerson rfl rfl (Nat.le_of_ble_eq_true rfl) (Nat.le_of_ble_eq_true rfl) rfl (Nat.le_of_ble_eq_true rfl) dX12_right_25 (Nat.le_refl 0) (Nat.le_refl 0) (kI (fun x25 S hw => ?_))
    refine z_if_eq (tgt := 39) hC dX12_right_28 (by decide) (fun c28 => ?_) (fun c28 => ?_)
    · have hw := hw.1 c28
      refine z_mask (lv' := [some (.ref v0), none, none, none]) [true, false, false, false] rfl ?_
      exact t_X12_right_b39 hC hr hlk hnm hw
    · have hw := hw.2 c28
      refine z_aload_n hC dX12_right_31 rfl rfl ?_
      refine z_iload_n hC dX12_right_32 rfl rfl ?_
      refine z_callV (ku' := 0) (kv' := 0) (n := 1) (As := [.int v2]) (st := []) hC (c_X12_isHouse l G B S v0 v2 _) hw.2 hw.1 rfl lk_1580 lk_1582 lk_44 lk_133 lk_1583 hd_X12_isHouse rfl rfl (Nat.le_of_ble_eq_true rfl) (Nat.le_of_ble_eq_true rfl) rfl (Nat.le_of_ble_eq_true rfl) dX12_right_33 (Nat.le_refl 0) (Nat.le_refl 0) (kI (fun x33 S hw => ?_))
      refine z_if_ne (tgt := 46) hC dX12_right_36 (by decide) (fun c36 => ?_) (fun c36 => ?_)
      · have hw := hw.1 c36
        refine z_aload_n hC dX12_right_46 rfl rfl ?_
        refine z_iload_n hC dX12_right_47 rfl rfl ?_
        refine z_callV (ku' := 0) (kv' := 0) (n := 1) (As := [.int v1]) (st := []) hC (c_X12_lives l G B S v0 v1 _) hw.2 hw.1 rfl lk_1644 lk_1646 lk_56 lk_133 lk_1647 hd_X12_lives rfl rfl (Nat.le_of_ble_eq_true rfl) (Nat.le_of_ble_eq_true rfl) rfl (Nat.le_of_ble_eq_true rfl) dX12_right_48 (Nat.le_refl 0) (Nat.le_refl 0) (kI (fun x48 S hw => ?_))
        refine z_if_eq (tgt := 72) hC dX12_right_51 (by decide) (fun c51 => ?_) (fun c51 => ?_)
        · have hw := hw.1 c51
          refine z_mask (lv' := [some (.ref v0), none, none, none]) [true, false, false, false] rfl ?_
          exact t_X12_right_b72 hC hr hlk hnm hw
        · have hw := hw.2 c51
          refine z_iload_n hC dX12_right_54 rfl rfl ?_
          refine z_aload_n hC dX12_right_55 rfl rfl ?_
          refine z_getP hC FX12 3 lk_1358 dX12_right_56 (by decide) hw (fun x56 hw => ?_)
          refine z_bipush hC bi_78 dX12_right_59 ?_
          refine z_bipush hC bi_6 dX12_right_61 ?_
          refine z_iload_n hC dX12_right_63 rfl rfl ?_
          refine z_imul hC dX12_right_64 ?_
          refine z_iadd hC dX12_right_65 ?_
          refine z_iload_n hC dX12_right_66 rfl rfl ?_
          refine z_iadd hC dX12_right_67 ?_
          refine z_aldI hC dX12_right_68 hw (fun x68 hw => ?_)
          refine z_icmp_ge (tgt := 79) hC dX12_right_69 (by decide) (fun c69 => ?_) (fun c69 => ?_)
          · have hw := hw.1 c69
            refine z_aload_n hC dX12_right_79 rfl rfl ?_
            refine z_iconst hC ic_0 dX12_right_80 ?_
            refine z_putI hC FX12 8 lk_1363 dX12_right_81 (by decide) rfl rfl hw (fun S hw => ?_)
            refine z_aload_n hC dX12_right_84 rfl rfl ?_
            refine z_bipush hC bi_30 dX12_right_85 ?_
            refine z_bipush hC bi_6 dX12_right_87 ?_
            refine z_iload_n hC dX12_right_89 rfl rfl ?_
            refine z_imul hC dX12_right_90 ?_
            refine z_iadd hC dX12_right_91 ?_
            refine z_iload_n hC dX12_right_92 rfl rfl ?_
            refine z_iadd hC dX12_right_93 ?_
            refine z_iload_n hC dX12_right_94 rfl rfl ?_
            refine z_callV (ku' := 0) (kv' := 0) (n := 2) (As := [.int ((30 + (6 * v1)) + v2), .int v3]) (st := []) hC (c_X12_change l G B S v0 ((30 + (6 * v1)) + v2) v3 _) hw.2 hw.1 rfl lk_1660 lk_1662 lk_57 lk_133 lk_1663 hd_X12_change rfl rfl (Nat.le_of_ble_eq_true rfl) (Nat.le_of_ble_eq_true rfl) rfl (Nat.le_of_ble_eq_true rfl) dX12_right_95 (Nat.le_refl 0) (Nat.le_refl 0) (kI (fun x95 S hw => ?_))
            exact z_iret hC hr hlk dX12_right_98 ⟨_, rfl, hw⟩
          · have hw := hw.2 c69
            refine z_mask (lv' := [some (.ref v0), none, none, none]) [true, false, false, false] rfl ?_
            exact t_X12_right_b72 hC hr hlk hnm hw
      · have hw := hw.2 c36
        refine z_mask (lv' := [some (.ref v0), none, none, none]) [true, false, false, false] rfl ?_
        exact t_X12_right_b39 hC hr hlk hnm hw
  · have hw := hw.2 c14
    refine z_aload_n hC dX12_right_17 rfl rfl ?_
    refine z_iconst hC ic_m1 dX12_right_18 ?_
    refine z_callV (ku' := 0) (kv' := 0) (n := 1) (As := [.int (-1)]) (st := []) hC (c_X12_tell l G B S v0 (-1) _) hw.2 hw.1 rfl lk_1544 lk_1546 lk_41 lk_133 lk_1547 hd_X12_tell rfl rfl (Nat.le_of_ble_eq_true rfl) (Nat.le_of_ble_eq_true rfl) rfl (Nat.le_of_ble_eq_true rfl) dX12_right_19 (Nat.le_refl 0) (Nat.le_refl 0) (kI (fun x19 S hw => ?_))
    exact z_iret hC hr hlk dX12_right_22 ⟨_, rfl, hw⟩
end
section
variable {p : Program} {l : Launch} {e : Env} {R : Room} {s : State} {m : MethodId} {args : Array Value} {below : List Frame} {meth : Method} {c : Code} {G : hG} {B mc ms : Nat}
def w_X12_tellsOpening_b78 (q : Int32 → hS → Prop) (K4 : hS → (Nat) → (Int32) → (Int32) → Prop) (S : hS) (v0 : Nat) (v2 : Int32) (t0 : Int32) : Prop := ∀ y79 : Int32, y79 = v2 + 1 → K4 S v0 t0 y79
set_option maxRecDepth 100000 in
set_option maxHeartbeats 4000000 in
theorem t_X12_tellsOpening_b78 (hC : zC p R s m args c cX12_tellsOpening 3 RX12 G B mc ms 1 60) (hr : meth.sig.returnType = (Option.some FieldType.boolean)) (hlk : meth.locks = false) (hnm : meth.name = "tellsOpening") {q : Int32 → hS → Prop} {K4 : hS → (Nat) → (Int32) → (Int32) → Prop} (hK4 : ∀ {S : hS} {v0 : Nat} {v1 : Int32} {v2 : Int32}, K4 S v0 v1 v2 → Z p l e R s m args below meth c (MQ below (hQ G B (iP q)) args s mc ms (fun r => B ≤ r)) G B mc ms 3 S 0 0 4 [some (.ref v0), some (.int v1), some (.int v2)] []) {S : hS} {v0 : Nat} {v2 : Int32} {t0 : Int32} (hw : w_X12_tellsOpening_b78 q K4 S v0 v2 t0) : Z p l e R s m args below meth c (MQ below (hQ G B (iP q)) args s mc ms (fun r => B ≤ r)) G B mc ms 3 S 0 0 78 [some (.ref v0), none, some (.int v2)] [.int t0] := by
  unfold w_X12_tellsOpening_b78 at hw
  refine z_istore_n (i := 1) (lv' := [some (.ref v0), some (.int t0), some (.int v2)]) hC rfl dX12_tellsOpening_78 (by decide) (hok_v rfl rfl) rfl ?_
  refine z_inc (i := 2) hC ic_1 dX12_tellsOpening_79 rfl (by decide) (hok_v rfl rfl) (fun y79 e79 => ?_)
  have hw := hw y79 e79
  refine z_goto (tgt := 4) hC dX12_tellsOpening_82 (by decide) ?_
  refine z_mask (lv' := [some (.ref v0), some (.int t0), some (.int y79)]) [true, true, true] rfl ?_
  exact hK4 hw
def w_X12_tellsOpening_b73 (q : Int32 → hS → Prop) (K4 : hS → (Nat) → (Int32) → (Int32) → Prop) (S : hS) (v0 : Nat) (v2 : Int32) : Prop := w_X12_tellsOpening_b78 q K4 S v0 v2 1
set_option maxRecDepth 100000 in
set_option maxHeartbeats 4000000 in
theorem t_X12_tellsOpening_b73 (hC : zC p R s m args c cX12_tellsOpening 3 RX12 G B mc ms 1 60) (hr : meth.sig.returnType = (Option.some FieldType.boolean)) (hlk : meth.locks = false) (hnm : meth.name = "tellsOpening") {q : Int32 → hS → Prop} {K4 : hS → (Nat) → (Int32) → (Int32) → Prop} (hK4 : ∀ {S : hS} {v0 : Nat} {v1 : Int32} {v2 : Int32}, K4 S v0 v1 v2 → Z p l e R s m args below meth c (MQ below (hQ G B (iP q)) args s mc ms (fun r => B ≤ r)) G B mc ms 3 S 0 0 4 [some (.ref v0), some (.int v1), some (.int v2)] []) {S : hS} {v0 : Nat} {v2 : Int32} (hw : w_X12_tellsOpening_b73 q K4 S v0 v2) : Z p l e R s m args below meth c (MQ below (hQ G B (iP q)) args s mc ms (fun r => B ≤ r)) G B mc ms 3 S 0 0 73 [some (.ref v0), none, some (.int v2)] [] := by
  unfold w_X12_tellsOpening_b73 at hw
  refine z_iconst hC ic_1 dX12_tellsOpening_73 ?_
  refine z_goto (tgt := 78) hC dX12_tellsOpening_74 (by decide) ?_
  refine z_mask (lv' := [some (.ref v0), none, some (.int v2)]) [true, false, true] rfl ?_
  exact t_X12_tellsOpening_b78 hC hr hlk hnm hK4 hw
def w_X12_tellsOpening_b4 (q : Int32 → hS → Prop) : Nat → hS → (Nat) → (Int32) → (Int32) → Prop
  | 0, _, _, _, _ => False
  | n + 1, S, v0, v1, v2 => gP S v0 12 3 (fun x5 => aI S x5 4 (fun x9 => (x9 = (-1) → (v1 = 0 ∨ v1 = 1) ∧ q v1 S) ∧ (¬ x9 = (-1) → gP S v0 12 3 (fun x16 => gP S v0 12 3 (fun x26 => aI S x26 4 (fun x30 => aI S x16 ((185 + (900 * x30)) + 1) (fun x35 => (x35 ≤ v2 → (v1 = 0 ∨ v1 = 1) ∧ q v1 S) ∧ (¬ x35 ≤ v2 → (¬ v1 = 0 → w_X12_tellsOpening_b73 q (fun S v0 v1 v2 => w_X12_tellsOpening_b4 q n S v0 v1 v2) S v0 v2) ∧ (v1 = 0 → gP S v0 12 3 (fun x44 => gP S v0 12 3 (fun x54 => aI S x54 4 (fun x58 => aI S x44 (((185 + (900 * x58)) + 2) + (8 * v2)) (fun x68 => (¬ x68 = 3 → w_X12_tellsOpening_b78 q (fun S v0 v1 v2 => w_X12_tellsOpening_b4 q n S v0 v1 v2) S v0 v2 0) ∧ (x68 = 3 → w_X12_tellsOpening_b73 q (fun S v0 v1 v2 => w_X12_tellsOpening_b4 q n S v0 v1 v2) S v0 v2))))))))))))))
set_option maxRecDepth 100000 in
set_option maxHeartbeats 4000000 in
theorem t_X12_tellsOpening_b4 (hC : zC p R s m args c cX12_tellsOpening 3 RX12 G B mc ms 1 60) (hr : meth.sig.returnType = (Option.some FieldType.boolean)) (hlk : meth.locks = false) (hnm : meth.name = "tellsOpening") {q : Int32 → hS → Prop} (n : Nat) : ∀ {S : hS} {v0 : Nat} {v1 : Int32} {v2 : Int32} (hw : w_X12_tellsOpening_b4 q n S v0 v1 v2), Z p l e R s m args below meth c (MQ below (hQ G B (iP q)) args s mc ms (fun r => B ≤ r)) G B mc ms 3 S 0 0 4 [some (.ref v0), some (.int v1), some (.int v2)] [] := by
  induction n with
  | zero => intro S v0 v1 v2 hw; exact (by rw [w_X12_tellsOpening_b4] at hw; exact hw.elim)
  | succ n ih =>
    intro S v0 v1 v2 hw
    rw [w_X12_tellsOpening_b4] at hw
    refine z_aload_n hC dX12_tellsOpening_4 rfl rfl ?_
    refine z_getP hC FX12 3 lk_1358 dX12_tellsOpening_5 (by decide) hw (fun x5 hw => ?_)
    refine z_iconst hC ic_4 dX12_tellsOpening_8 ?_
    refine z_aldI hC dX12_tellsOpening_9 hw (fun x9 hw => ?_)
    refine z_iconst hC ic_m1 dX12_tellsOpening_10 ?_
    refine z_icmp_eq (tgt := 85) hC dX12_tellsOpening_11 (by decide) (fun c11 => ?_) (fun c11 => ?_)
    · have hw := hw.1 c11
      refine z_iload_n hC dX12_tellsOpening_85 rfl rfl ?_
      exact z_zret hC hr hlk (hz01 hw.1).1 dX12_tellsOpening_86 ⟨_, rfl, hw.2⟩
    · have hw := hw.2 c11
      refine z_iload_n hC dX12_tellsOpening_14 rfl rfl ?_
      refine z_aload_n hC dX12_tellsOpening_15 rfl rfl ?_
      refine z_getP hC FX12 3 lk_1358 dX12_tellsOpening_16 (by decide) hw (fun x16 hw => ?_)
      refine z_sipush hC si_185 dX12_tellsOpening_19 ?_
      refine z_sipush hC si_900 dX12_tellsOpening_22 ?_
      refine z_aload_n hC dX12_tellsOpening_25 rfl rfl ?_
      refine z_getP hC FX12 3 lk_1358 dX12_tellsOpening_26 (by decide) hw (fun x26 hw => ?_)
      refine z_iconst hC ic_4 dX12_tellsOpening_29 ?_
      refine z_aldI hC dX12_tellsOpening_30 hw (fun x30 hw => ?_)
      refine z_imul hC dX12_tellsOpening_31 ?_
      refine z_iadd hC dX12_tellsOpening_32 ?_
      refine z_iconst hC ic_1 dX12_tellsOpening_33 ?_
      refine z_iadd hC dX12_tellsOpening_34 ?_
      refine z_aldI hC dX12_tellsOpening_35 hw (fun x35 hw => ?_)
      refine z_icmp_ge (tgt := 85) hC dX12_tellsOpening_36 (by decide) (fun c36 => ?_) (fun c36 => ?_)
      · have hw := hw.1 c36
        refine z_iload_n hC dX12_tellsOpening_85 rfl rfl ?_
        exact z_zret hC hr hlk (hz01 hw.1).1 dX12_tellsOpening_86 ⟨_, rfl, hw.2⟩
      · have hw := hw.2 c36
        refine z_iload_n hC dX12_tellsOpening_39 rfl rfl ?_
        refine z_if_ne (tgt := 73) hC dX12_tellsOpening_40 (by decide) (fun c40 => ?_) (fun c40 => ?_)
        · have hw := hw.1 c40
          refine z_mask (lv' := [some (.ref v0), none, some (.int v2)]) [true, false, true] rfl ?_
          exact t_X12_tellsOpening_b73 hC hr hlk hnm (fun hw => ih hw) hw
        · have hw := hw.2 c40
          refine z_aload_n hC dX12_tellsOpening_43 rfl rfl ?_
          refine z_getP hC FX12 3 lk_1358 dX12_tellsOpening_44 (by decide) hw (fun x44 hw => ?_)
          refine z_sipush hC si_185 dX12_tellsOpening_47 ?_
          refine z_sipush hC si_900 dX12_tellsOpening_50 ?_
          refine z_aload_n hC dX12_tellsOpening_53 rfl rfl ?_
          refine z_getP hC FX12 3 lk_1358 dX12_tellsOpening_54 (by decide) hw (fun x54 hw => ?_)
          refine z_iconst hC ic_4 dX12_tellsOpening_57 ?_
          refine z_aldI hC dX12_tellsOpening_58 hw (fun x58 hw => ?_)
          refine z_imul hC dX12_tellsOpening_59 ?_
          refine z_iadd hC dX12_tellsOpening_60 ?_
          refine z_iconst hC ic_2 dX12_tellsOpening_61 ?_
          refine z_iadd hC dX12_tellsOpening_62 ?_
          refine z_bipush hC bi_8 dX12_tellsOpening_63 ?_
          refine z_iload_n hC dX12_tellsOpening_65 rfl rfl ?_
          refine z_imul hC dX12_tellsOpening_66 ?_
          refine z_iadd hC dX12_tellsOpening_67 ?_
          refine z_aldI hC dX12_tellsOpening_68 hw (fun x68 hw => ?_)
          refine z_iconst hC ic_3 dX12_tellsOpening_69 ?_
          refine z_icmp_ne (tgt := 77) hC dX12_tellsOpening_70 (by decide) (fun c70 => ?_) (fun c70 => ?_)
          · have hw := hw.1 c70
            refine z_iconst hC ic_0 dX12_tellsOpening_77 ?_
            refine z_mask (lv' := [some (.ref v0), none, some (.int v2)]) [true, false, true] rfl ?_
            exact t_X12_tellsOpening_b78 hC hr hlk hnm (fun hw => ih hw) hw
          · have hw := hw.2 c70
            refine z_mask (lv' := [some (.ref v0), none, some (.int v2)]) [true, false, true] rfl ?_
            exact t_X12_tellsOpening_b73 hC hr hlk hnm (fun hw => ih hw) hw
def w_X12_tellsOpening (q : Int32 → hS → Prop) (S : hS) (v0 : Nat) : Prop := (∃ n4 : Nat, w_X12_tellsOpening_b4 q n4 S v0 0 0)
set_option maxRecDepth 100000 in
set_option maxHeartbeats 4000000 in
theorem c_X12_tellsOpening (l : Launch) (G : hG) (B : Nat) (S : hS) (v0 : Nat) (q : Int32 → hS → Prop) : Met l yX12_tellsOpening (hws yX12_tellsOpening cX12_tellsOpening 3 (Option.some FieldType.boolean)) ({ frames := 1, cells := 0, slots := 0, locals := 60 }) (hPc G B S [.ref v0] (w_X12_tellsOpening q S v0)) (hQ G B (iP q)) (0) (0) (fun r => B ≤ r) := by
  refine hMet (rm := { frames := 1, cells := 0, slots := 0, locals := 60 }) (lv := [some (.ref v0), none, none]) (own := RX12) (fr := 1) (lo := 60) (by decide) rfl rfl rfl (Nat.le_of_ble_eq_true rfl) rfl (fun hw p e R s m args below meth c hC hr hlk hnm => ?_)
  unfold w_X12_tellsOpening at hw
  refine z_iconst hC ic_0 dX12_tellsOpening_0 ?_
  refine z_istore_n (i := 1) (lv' := [some (.ref v0), some (.int 0), none]) hC rfl dX12_tellsOpening_1 (by decide) (hok_v rfl rfl) rfl ?_
  refine z_iconst hC ic_0 dX12_tellsOpening_2 ?_
  refine z_istore_n (i := 2) (lv' := [some (.ref v0), some (.int 0), some (.int 0)]) hC rfl dX12_tellsOpening_3 (by decide) (hok_v rfl rfl) rfl ?_
  refine z_mask (lv' := [some (.ref v0), some (.int 0), some (.int 0)]) [true, true, true] rfl ?_
  obtain ⟨n4, hw⟩ := hw
  exact t_X12_tellsOpening_b4 hC hr hlk hnm n4 hw
end
section
variable {p : Program} {l : Launch} {e : Env} {R : Room} {s : State} {m : MethodId} {args : Array Value} {below : List Frame} {meth : Method} {c : Code} {G : hG} {B mc ms : Nat}
def w_X12_yearNow (q : Int32 → hS → Prop) (S : hS) (v0 : Nat) : Prop := gP S v0 12 3 (fun x1 => aI S x1 5 (fun x5 => q x5 S))
set_option maxRecDepth 100000 in
set_option maxHeartbeats 4000000 in
theorem c_X12_yearNow (l : Launch) (G : hG) (B : Nat) (S : hS) (v0 : Nat) (q : Int32 → hS → Prop) : Met l yX12_yearNow (hws yX12_yearNow cX12_yearNow 1 (Option.some FieldType.int)) ({ frames := 1, cells := 0, slots := 0, locals := 60 }) (hPc G B S [.ref v0] (w_X12_yearNow q S v0)) (hQ G B (iP q)) (0) (0) (fun r => B ≤ r) := by
  refine hMet (rm := { frames := 1, cells := 0, slots := 0, locals := 60 }) (lv := [some (.ref v0)]) (own := RX12) (fr := 1) (lo := 60) (by decide) rfl rfl rfl (Nat.le_of_ble_eq_true rfl) rfl (fun hw p e R s m args below meth c hC hr hlk hnm => ?_)
  unfold w_X12_yearNow at hw
  refine z_aload_n hC dX12_yearNow_0 rfl rfl ?_
  refine z_getP hC FX12 3 lk_1358 dX12_yearNow_1 (by decide) hw (fun x1 hw => ?_)
  refine z_iconst hC ic_5 dX12_yearNow_4 ?_
  refine z_aldI hC dX12_yearNow_5 hw (fun x5 hw => ?_)
  exact z_iret hC hr hlk dX12_yearNow_6 ⟨_, rfl, hw⟩
end
section
variable {p : Program} {l : Launch} {e : Env} {R : Room} {s : State} {m : MethodId} {args : Array Value} {below : List Frame} {meth : Method} {c : Code} {G : hG} {B mc ms : Nat}
def w_X12_isOpen (q : Int32 → hS → Prop) (S : hS) (v0 : Nat) (v1 : Int32) (v2 : Int32) : Prop := oK S v0 12 ∧ w_X12_tellsOpening (fun x1 S => (x1 = 0 → gP S v0 12 3 (fun x34 => aI S x34 (8 + v2) (fun x41 => (10 ≤ x41 → q 0 S) ∧ (¬ 10 ≤ x41 → q 1 S)))) ∧ (¬ x1 = 0 → oK S v0 12 ∧ w_X12_yearNow (fun x12 S => oK S v0 12 ∧ w_X12_tells (fun x17 S => (¬ (lg_cmp x17 1) = 0 → q 0 S) ∧ ((lg_cmp x17 1) = 0 → q 1 S)) S v0 3 v1 v2 x12 (-1) 0) S v0)) S v0
set_option maxRecDepth 100000 in
set_option maxHeartbeats 4000000 in
theorem c_X12_isOpen (l : Launch) (G : hG) (B : Nat) (S : hS) (v0 : Nat) (v1 : Int32) (v2 : Int32) (q : Int32 → hS → Prop) : Met l yX12_isOpen (hws yX12_isOpen cX12_isOpen 3 (Option.some FieldType.boolean)) ({ frames := 7, cells := 0, slots := 0, locals := 205 }) (hPc G B S [.ref v0, .int v1, .int v2] (w_X12_isOpen q S v0 v1 v2)) (hQ G B (iP q)) (0) (0) (fun r => B ≤ r) := by
  refine hMet (rm := { frames := 7, cells := 0, slots := 0, locals := 205 }) (lv := [some (.ref v0), some (.int v1), some (.int v2)]) (own := RX12) (fr := 7) (lo := 205) (by decide) rfl rfl rfl (Nat.le_of_ble_eq_true rfl) rfl (fun hw p e R s m args below meth c hC hr hlk hnm => ?_)
  unfold w_X12_isOpen at hw
  refine z_aload_n hC dX12_isOpen_0 rfl rfl ?_
  refine z_callV (ku' := 0) (kv' := 0) (n := 0) (As := []) (st := []) hC (c_X12_tellsOpening l G B S v0 _) hw.2 hw.1 rfl lk_1676 lk_1678 lk_59 lk_133 lk_1679 hd_X12_tellsOpening rfl rfl (Nat.le_of_ble_eq_true rfl) (Nat.le_of_ble_eq_true rfl) rfl (Nat.le_of_ble_eq_true rfl) dX12_isOpen_1 (Nat.le_refl 0) (Nat.le_refl 0) (kI (fun x1 S hw => ?_))
  refine z_if_eq (tgt := 33) hC dX12_isOpen_4 (by decide) (fun c4 => ?_) (fun c4 => ?_)
  · have hw := hw.1 c4
    refine z_aload_n hC dX12_isOpen_33 rfl rfl ?_
    refine z_getP hC FX12 3 lk_1358 dX12_isOpen_34 (by decide) hw (fun x34 hw => ?_)
    refine z_bipush hC bi_8 dX12_isOpen_37 ?_
    refine z_iload_n hC dX12_isOpen_39 rfl rfl ?_
    refine z_iadd hC dX12_isOpen_40 ?_
    refine z_aldI hC dX12_isOpen_41 hw (fun x41 hw => ?_)
    refine z_bipush hC bi_10 dX12_isOpen_42 ?_
    refine z_icmp_ge (tgt := 51) hC dX12_isOpen_44 (by decide) (fun c44 => ?_) (fun c44 => ?_)
    · have hw := hw.1 c44
      refine z_iconst hC ic_0 dX12_isOpen_51 ?_
      exact z_zret hC hr hlk (hz01 (Or.inl rfl)).1 dX12_isOpen_52 ⟨_, rfl, hw⟩
    · have hw := hw.2 c44
      refine z_iconst hC ic_1 dX12_isOpen_47 ?_
      refine z_goto (tgt := 52) hC dX12_isOpen_48 (by decide) ?_
      exact z_zret hC hr hlk (hz01 (Or.inr rfl)).1 dX12_isOpen_52 ⟨_, rfl, hw⟩
  · have hw := hw.2 c4
    refine z_aload_n hC dX12_isOpen_7 rfl rfl ?_
    refine z_iconst hC ic_3 dX12_isOpen_8 ?_
    refine z_iload_n hC dX12_isOpen_9 rfl rfl ?_
    refine z_iload_n hC dX12_isOpen_10 rfl rfl ?_
    refine z_aload_n hC dX12_isOpen_11 rfl rfl ?_
    refine z_callV (ku' := 0) (kv' := 0) (n := 0) (As := []) (st := [.int v2, .int v1, .int 3, .ref v0]) hC (c_X12_yearNow l G B S v0 _) hw.2 hw.1 rfl lk_1680 lk_1682 lk_60 lk_133 lk_1683 hd_X12_yearNow rfl rfl (Nat.le_of_ble_eq_true rfl) (Nat.le_of_ble_eq_true rfl) rfl (Nat.le_of_ble_eq_true rfl) dX12_isOpen_12 (Nat.le_refl 0) (Nat.le_refl 0) (kI (fun x12 S hw => ?_))
    refine z_iconst hC ic_m1 dX12_isOpen_15 ?_
    refine z_lconst hC lc_0 dX12_isOpen_16 ?_
    refine z_callV (ku' := 0) (kv' := 0) (n := 6) (As := [.int 3, .int v1, .int v2, .int x12, .int (-1), .long 0]) (st := []) hC (c_X12_tells l G B S v0 3 v1 v2 x12 (-1) 0 _) hw.2 hw.1 rfl lk_1597 lk_1599 lk_48 lk_133 lk_1600 hd_X12_tells rfl rfl (Nat.le_of_ble_eq_true rfl) (Nat.le_of_ble_eq_true rfl) rfl (Nat.le_of_ble_eq_true rfl) dX12_isOpen_17 (Nat.le_refl 0) (Nat.le_refl 0) (kJ (fun x17 S hw => ?_))
    refine z_lconst hC lc_1 dX12_isOpen_20 ?_
    refine z_lcmp hC dX12_isOpen_21 ?_
    refine z_if_ne (tgt := 29) hC dX12_isOpen_22 (by decide) (fun c22 => ?_) (fun c22 => ?_)
    · have hw := hw.1 c22
      refine z_iconst hC ic_0 dX12_isOpen_29 ?_
      refine z_goto (tgt := 52) hC dX12_isOpen_30 (by decide) ?_
      exact z_zret hC hr hlk (hz01 (Or.inl rfl)).1 dX12_isOpen_52 ⟨_, rfl, hw⟩
    · have hw := hw.2 c22
      refine z_iconst hC ic_1 dX12_isOpen_25 ?_
      refine z_goto (tgt := 52) hC dX12_isOpen_26 (by decide) ?_
      exact z_zret hC hr hlk (hz01 (Or.inr rfl)).1 dX12_isOpen_52 ⟨_, rfl, hw⟩
end
section
variable {p : Program} {l : Launch} {e : Env} {R : Room} {s : State} {m : MethodId} {args : Array Value} {below : List Frame} {meth : Method} {c : Code} {G : hG} {B mc ms : Nat}
def w_X12_tiresOf (q : Int32 → hS → Prop) (S : hS) (v0 : Nat) (v1 : Int32) (v2 : Int32) : Prop := oK S v0 12 ∧ w_X12_yearNow (fun x5 S => oK S v0 12 ∧ w_X12_tells (fun x10 S => w_X12_within (fun x16 S => q x16 S) S x10 0 20) S v0 0 v1 v2 x5 (-1) 1) S v0
set_option maxRecDepth 100000 in
set_option maxHeartbeats 4000000 in
theorem c_X12_tiresOf (l : Launch) (G : hG) (B : Nat) (S : hS) (v0 : Nat) (v1 : Int32) (v2 : Int32) (q : Int32 → hS → Prop) : Met l yX12_tiresOf (hws yX12_tiresOf cX12_tiresOf 3 (Option.some FieldType.int)) ({ frames := 7, cells := 0, slots := 0, locals := 205 }) (hPc G B S [.ref v0, .int v1, .int v2] (w_X12_tiresOf q S v0 v1 v2)) (hQ G B (iP q)) (0) (0) (fun r => B ≤ r) := by
  refine hMet (rm := { frames := 7, cells := 0, slots := 0, locals := 205 }) (lv := [some (.ref v0), some (.int v1), some (.int v2)]) (own := RX12) (fr := 7) (lo := 205) (by decide) rfl rfl rfl (Nat.le_of_ble_eq_true rfl) rfl (fun hw p e R s m args below meth c hC hr hlk hnm => ?_)
  unfold w_X12_tiresOf at hw
  refine z_aload_n hC dX12_tiresOf_0 rfl rfl ?_
  refine z_iconst hC ic_0 dX12_tiresOf_1 ?_
  refine z_iload_n hC dX12_tiresOf_2 rfl rfl ?_
  refine z_iload_n hC dX12_tiresOf_3 rfl rfl ?_
  refine z_aload_n hC dX12_tiresOf_4 rfl rfl ?_
  refine z_callV (ku' := 0) (kv' := 0) (n := 0) (As := []) (st := [.int v2, .int v1, .int 0, .ref v0]) hC (c_X12_yearNow l G B S v0 _) hw.2 hw.1 rfl lk_1680 lk_1682 lk_60 lk_133 lk_1683 hd_X12_yearNow rfl rfl (Nat.le_of_ble_eq_true rfl) (Nat.le_of_ble_eq_true rfl) rfl (Nat.le_of_ble_eq_true rfl) dX12_tiresOf_5 (Nat.le_refl 0) (Nat.le_refl 0) (kI (fun x5 S hw => ?_))
  refine z_iconst hC ic_m1 dX12_tiresOf_8 ?_
  refine z_lconst hC lc_1 dX12_tiresOf_9 ?_
  refine z_callV (ku' := 0) (kv' := 0) (n := 6) (As := [.int 0, .int v1, .int v2, .int x5, .int (-1), .long 1]) (st := []) hC (c_X12_tells l G B S v0 0 v1 v2 x5 (-1) 1 _) hw.2 hw.1 rfl lk_1597 lk_1599 lk_48 lk_133 lk_1600 hd_X12_tells rfl rfl (Nat.le_of_ble_eq_true rfl) (Nat.le_of_ble_eq_true rfl) rfl (Nat.le_of_ble_eq_true rfl) dX12_tiresOf_10 (Nat.le_refl 0) (Nat.le_refl 0) (kJ (fun x10 S hw => ?_))
  refine z_iconst hC ic_0 dX12_tiresOf_13 ?_
  refine z_bipush hC bi_20 dX12_tiresOf_14 ?_
  refine z_callS (ku' := 0) (kv' := 0) (n := 3) (As := [.long x10, .int 0, .int 20]) (st := []) hC (c_X12_within l G B S x10 0 20 _) hw lk_1628 lk_1629 lk_133 lk_1630 hd_X12_within rfl rfl (Nat.le_of_ble_eq_true rfl) (Nat.le_of_ble_eq_true rfl) rfl (Nat.le_of_ble_eq_true rfl) dX12_tiresOf_16 (Nat.le_refl 0) (Nat.le_refl 0) (kI (fun x16 S hw => ?_))
  exact z_iret hC hr hlk dX12_tiresOf_19 ⟨_, rfl, hw⟩
end
section
variable {p : Program} {l : Launch} {e : Env} {R : Room} {s : State} {m : MethodId} {args : Array Value} {below : List Frame} {meth : Method} {c : Code} {G : hG} {B mc ms : Nat}
def w_X12_has (q : Int32 → hS → Prop) (S : hS) (v0 : Nat) (v1 : Int32) (v2 : Int32) (v3 : Int32) : Prop := pI S v0 12 0 0 (fun S => oK S v0 12 ∧ w_X12_isPerson (fun x7 S => (x7 = 0 → q (-1) S) ∧ (¬ x7 = 0 → oK S v0 12 ∧ w_X12_isHouse (fun x15 S => (¬ x15 = 0 → ∀ y24 : Int32, y24 = v3 → ((y24.toInt = 0 → oK S v0 12 ∧ w_X12_rights (fun x63 S => q x63 S) S v0 v1 v2) ∧ (y24.toInt = 1 → gP S v0 12 3 (fun x68 => aI S x68 ((78 + (6 * v1)) + v2) (fun x80 => q x80 S))) ∧ (y24.toInt = 2 → oK S v0 12 ∧ w_X12_leftOf (fun x85 S => q x85 S) S v0 v1 v2) ∧ (y24.toInt = 3 → oK S v0 12 ∧ w_X12_isOpen (fun x92 S => (x92 = 0 → q 0 S) ∧ (¬ x92 = 0 → q 1 S)) S v0 v1 v2) ∧ (y24.toInt = 4 → oK S v0 12 ∧ w_X12_tiresOf (fun x107 S => q x107 S) S v0 v1 v2) ∧ ((y24.toInt < 0 ∨ 4 < y24.toInt) → q (-1) S))) ∧ (x15 = 0 → q (-1) S)) S v0 v2)) S v0 v1)
set_option maxRecDepth 100000 in
set_option maxHeartbeats 4000000 in
theorem c_X12_has (l : Launch) (G : hG) (B : Nat) (S : hS) (v0 : Nat) (v1 : Int32) (v2 : Int32) (v3 : Int32) (q : Int32 → hS → Prop) : Met l yX12_has (hws yX12_has cX12_has 4 (Option.some FieldType.int)) ({ frames := 8, cells := 0, slots := 0, locals := 227 }) (hPc G B S [.ref v0, .int v1, .int v2, .int v3] (w_X12_has q S v0 v1 v2 v3)) (hQ G B (iP q)) (0) (0) (fun r => B ≤ r) := by
  refine hMet (rm := { frames := 8, cells := 0, slots := 0, locals := 227 }) (lv := [some (.ref v0), some (.int v1), some (.int v2), some (.int v3)]) (own := RX12) (fr := 8) (lo := 227) (by decide) rfl rfl rfl (Nat.le_of_ble_eq_true rfl) rfl (fun hw p e R s m args below meth c hC hr hlk hnm => ?_)
  unfold w_X12_has at hw
  refine z_aload_n hC dX12_has_0 rfl rfl ?_
  refine z_iconst hC ic_0 dX12_has_1 ?_
  refine z_putI hC FX12 0 lk_1355 dX12_has_2 (by decide) rfl rfl hw (fun S hw => ?_)
  refine z_aload_n hC dX12_has_5 rfl rfl ?_
  refine z_iload_n hC dX12_has_6 rfl rfl ?_
  refine z_callV (ku' := 0) (kv' := 0) (n := 1) (As := [.int v1]) (st := []) hC (c_X12_isPerson l G B S v0 v1 _) hw.2 hw.1 rfl lk_1614 lk_1616 lk_52 lk_133 lk_1617 hd_X12_isPerson rfl rfl (Nat.le_of_ble_eq_true rfl) (Nat.le_of_ble_eq_true rfl) rfl (Nat.le_of_ble_eq_true rfl) dX12_has_7 (Nat.le_refl 0) (Nat.le_refl 0) (kI (fun x7 S hw => ?_))
  refine z_if_eq (tgt := 21) hC dX12_has_10 (by decide) (fun c10 => ?_) (fun c10 => ?_)
  · have hw := hw.1 c10
    refine z_iconst hC ic_m1 dX12_has_21 ?_
    exact z_iret hC hr hlk dX12_has_22 ⟨_, rfl, hw⟩
  · have hw := hw.2 c10
    refine z_aload_n hC dX12_has_13 rfl rfl ?_
    refine z_iload_n hC dX12_has_14 rfl rfl ?_
    refine z_callV (ku' := 0) (kv' := 0) (n := 1) (As := [.int v2]) (st := []) hC (c_X12_isHouse l G B S v0 v2 _) hw.2 hw.1 rfl lk_1580 lk_1582 lk_44 lk_133 lk_1583 hd_X12_isHouse rfl rfl (Nat.le_of_ble_eq_true rfl) (Nat.le_of_ble_eq_true rfl) rfl (Nat.le_of_ble_eq_true rfl) dX12_has_15 (Nat.le_refl 0) (Nat.le_refl 0) (kI (fun x15 S hw => ?_))
    refine z_if_ne (tgt := 23) hC dX12_has_18 (by decide) (fun c18 => ?_) (fun c18 => ?_)
    · have hw := hw.1 c18
      refine z_iload_n hC dX12_has_23 rfl rfl ?_
      refine z_nmI (fun y24 e24 => ?_)
      have hw := hw y24 e24
      by_cases q24_0 : y24.toInt = 0
      · have hw := hw.1 q24_0
        refine z_tabIn (tgt := 60) (off := 36) hC 0 dX12_has_24 q24_0 (by decide) rfl (by decide) ?_
        refine z_aload_n hC dX12_has_60 rfl rfl ?_
        refine z_iload_n hC dX12_has_61 rfl rfl ?_
        refine z_iload_n hC dX12_has_62 rfl rfl ?_
        refine z_callV (ku' := 0) (kv' := 0) (n := 2) (As := [.int v1, .int v2]) (st := []) hC (c_X12_rights l G B S v0 v1 v2 _) hw.2 hw.1 rfl lk_1588 lk_1590 lk_46 lk_133 lk_1591 hd_X12_rights rfl rfl (Nat.le_of_ble_eq_true rfl) (Nat.le_of_ble_eq_true rfl) rfl (Nat.le_of_ble_eq_true rfl) dX12_has_63 (Nat.le_refl 0) (Nat.le_refl 0) (kI (fun x63 S hw => ?_))
        exact z_iret hC hr hlk dX12_has_66 ⟨_, rfl, hw⟩
      by_cases q24_1 : y24.toInt = 1
      · have hw := hw.2.1 q24_1
        refine z_tabIn (tgt := 67) (off := 43) hC 1 dX12_has_24 q24_1 (by decide) rfl (by decide) ?_
        refine z_aload_n hC dX12_has_67 rfl rfl ?_
        refine z_getP hC FX12 3 lk_1358 dX12_has_68 (by decide) hw (fun x68 hw => ?_)
        refine z_bipush hC bi_78 dX12_has_71 ?_
        refine z_bipush hC bi_6 dX12_has_73 ?_
        refine z_iload_n hC dX12_has_75 rfl rfl ?_
        refine z_imul hC dX12_has_76 ?_
        refine z_iadd hC dX12_has_77 ?_
        refine z_iload_n hC dX12_has_78 rfl rfl ?_
        refine z_iadd hC dX12_has_79 ?_
        refine z_aldI hC dX12_has_80 hw (fun x80 hw => ?_)
        exact z_iret hC hr hlk dX12_has_81 ⟨_, rfl, hw⟩
      by_cases q24_2 : y24.toInt = 2
      · have hw := hw.2.2.1 q24_2
        refine z_tabIn (tgt := 82) (off := 58) hC 2 dX12_has_24 q24_2 (by decide) rfl (by decide) ?_
        refine z_aload_n hC dX12_has_82 rfl rfl ?_
        refine z_iload_n hC dX12_has_83 rfl rfl ?_
        refine z_iload_n hC dX12_has_84 rfl rfl ?_
        refine z_callV (ku' := 0) (kv' := 0) (n := 2) (As := [.int v1, .int v2]) (st := []) hC (c_X12_leftOf l G B S v0 v1 v2 _) hw.2 hw.1 rfl lk_1602 lk_1604 lk_49 lk_133 lk_1605 hd_X12_leftOf rfl rfl (Nat.le_of_ble_eq_true rfl) (Nat.le_of_ble_eq_true rfl) rfl (Nat.le_of_ble_eq_true rfl) dX12_has_85 (Nat.le_refl 0) (Nat.le_refl 0) (kI (fun x85 S hw => ?_))
        exact z_iret hC hr hlk dX12_has_88 ⟨_, rfl, hw⟩
      by_cases q24_3 : y24.toInt = 3
      · have hw := hw.2.2.2.1 q24_3
        refine z_tabIn (tgt := 89) (off := 65) hC 3 dX12_has_24 q24_3 (by decide) rfl (by decide) ?_
        refine z_aload_n hC dX12_has_89 rfl rfl ?_
        refine z_iload_n hC dX12_has_90 rfl rfl ?_
        refine z_iload_n hC dX12_has_91 rfl rfl ?_
        refine z_callV (ku' := 0) (kv' := 0) (n := 2) (As := [.int v1, .int v2]) (st := []) hC (c_X12_isOpen l G B S v0 v1 v2 _) hw.2 hw.1 rfl lk_1672 lk_1674 lk_58 lk_133 lk_1675 hd_X12_isOpen rfl rfl (Nat.le_of_ble_eq_true rfl) (Nat.le_of_ble_eq_true rfl) rfl (Nat.le_of_ble_eq_true rfl) dX12_has_92 (Nat.le_refl 0) (Nat.le_refl 0) (kI (fun x92 S hw => ?_))
        refine z_if_eq (tgt := 102) hC dX12_has_95 (by decide) (fun c95 => ?_) (fun c95 => ?_)
        · have hw := hw.1 c95
          refine z_iconst hC ic_0 dX12_has_102 ?_
          exact z_iret hC hr hlk dX12_has_103 ⟨_, rfl, hw⟩
        · have hw := hw.2 c95
          refine z_iconst hC ic_1 dX12_has_98 ?_
          refine z_goto (tgt := 103) hC dX12_has_99 (by decide) ?_
          exact z_iret hC hr hlk dX12_has_103 ⟨_, rfl, hw⟩
      by_cases q24_4 : y24.toInt = 4
      · have hw := hw.2.2.2.2.1 q24_4
        refine z_tabIn (tgt := 104) (off := 80) hC 4 dX12_has_24 q24_4 (by decide) rfl (by decide) ?_
        refine z_aload_n hC dX12_has_104 rfl rfl ?_
        refine z_iload_n hC dX12_has_105 rfl rfl ?_
        refine z_iload_n hC dX12_has_106 rfl rfl ?_
        refine z_callV (ku' := 0) (kv' := 0) (n := 2) (As := [.int v1, .int v2]) (st := []) hC (c_X12_tiresOf l G B S v0 v1 v2 _) hw.2 hw.1 rfl lk_1684 lk_1686 lk_61 lk_133 lk_1687 hd_X12_tiresOf rfl rfl (Nat.le_of_ble_eq_true rfl) (Nat.le_of_ble_eq_true rfl) rfl (Nat.le_of_ble_eq_true rfl) dX12_has_107 (Nat.le_refl 0) (Nat.le_refl 0) (kI (fun x107 S hw => ?_))
        exact z_iret hC hr hlk dX12_has_110 ⟨_, rfl, hw⟩
      have o24 : y24.toInt < 0 ∨ 4 < y24.toInt := by omega
      have hw := hw.2.2.2.2.2 o24
      refine z_tabOut (tgt := 111) hC dX12_has_24 o24 (by decide) ?_
      refine z_iconst hC ic_m1 dX12_has_111 ?_
      exact z_iret hC hr hlk dX12_has_112 ⟨_, rfl, hw⟩
    · have hw := hw.2 c18
      refine z_iconst hC ic_m1 dX12_has_21 ?_
      exact z_iret hC hr hlk dX12_has_22 ⟨_, rfl, hw⟩
end
section
variable {p : Program} {l : Launch} {e : Env} {R : Room} {s : State} {m : MethodId} {args : Array Value} {below : List Frame} {meth : Method} {c : Code} {G : hG} {B mc ms : Nat}
def w_X12_terms_b60 (q : Int32 → hS → Prop) (S : hS) (v0 : Nat) (v1 : Int32) (v2 : Int32) (t0 : Int32) : Prop := (¬ t0 = 0 → pI S v0 12 8 0 (fun S => oK S v0 12 ∧ w_X12_change (fun x81 S => q x81 S) S v0 (5 + v1) v2)) ∧ (t0 = 0 → oK S v0 12 ∧ w_X12_tell (fun x67 S => q x67 S) S v0 (-1))
set_option maxRecDepth 100000 in
set_option maxHeartbeats 4000000 in
theorem t_X12_terms_b60 (hC : zC p R s m args c cX12_terms 4 RX12 G B mc ms 2 85) (hr : meth.sig.returnType = (Option.some FieldType.int)) (hlk : meth.locks = false) (hnm : meth.name = "terms") {q : Int32 → hS → Prop} {S : hS} {v0 : Nat} {v1 : Int32} {v2 : Int32} {t0 : Int32} (hw : w_X12_terms_b60 q S v0 v1 v2 t0) : Z p l e R s m args below meth c (MQ below (hQ G B (iP q)) args s mc ms (fun r => B ≤ r)) G B mc ms 4 S 0 0 60 [some (.ref v0), some (.int v1), some (.int v2), none] [.int t0] := by
  unfold w_X12_terms_b60 at hw
  refine z_istore_n (i := 3) (lv' := [some (.ref v0), some (.int v1), some (.int v2), some (.int t0)]) hC rfl dX12_terms_60 (by decide) (hok_v rfl rfl) rfl ?_
  refine z_iload_n hC dX12_terms_61 rfl rfl ?_
  refine z_if_ne (tgt := 71) hC dX12_terms_62 (by decide) (fun c62 => ?_) (fun c62 => ?_)
  · have hw := hw.1 c62
    refine z_aload_n hC dX12_terms_71 rfl rfl ?_
    refine z_iconst hC ic_0 dX12_terms_72 ?_
    refine z_putI hC FX12 8 lk_1363 dX12_terms_73 (by decide) rfl rfl hw (fun S hw => ?_)
    refine z_aload_n hC dX12_terms_76 rfl rfl ?_
    refine z_iconst hC ic_5 dX12_terms_77 ?_
    refine z_iload_n hC dX12_terms_78 rfl rfl ?_
    refine z_iadd hC dX12_terms_79 ?_
    refine z_iload_n hC dX12_terms_80 rfl rfl ?_
    refine z_callV (ku' := 0) (kv' := 0) (n := 2) (As := [.int (5 + v1), .int v2]) (st := []) hC (c_X12_change l G B S v0 (5 + v1) v2 _) hw.2 hw.1 rfl lk_1660 lk_1662 lk_57 lk_133 lk_1663 hd_X12_change rfl rfl (Nat.le_of_ble_eq_true rfl) (Nat.le_of_ble_eq_true rfl) rfl (Nat.le_of_ble_eq_true rfl) dX12_terms_81 (Nat.le_refl 0) (Nat.le_refl 0) (kI (fun x81 S hw => ?_))
    exact z_iret hC hr hlk dX12_terms_84 ⟨_, rfl, hw⟩
  · have hw := hw.2 c62
    refine z_aload_n hC dX12_terms_65 rfl rfl ?_
    refine z_iconst hC ic_m1 dX12_terms_66 ?_
    refine z_callV (ku' := 0) (kv' := 0) (n := 1) (As := [.int (-1)]) (st := []) hC (c_X12_tell l G B S v0 (-1) _) hw.2 hw.1 rfl lk_1544 lk_1546 lk_41 lk_133 lk_1547 hd_X12_tell rfl rfl (Nat.le_of_ble_eq_true rfl) (Nat.le_of_ble_eq_true rfl) rfl (Nat.le_of_ble_eq_true rfl) dX12_terms_67 (Nat.le_refl 0) (Nat.le_refl 0) (kI (fun x67 S hw => ?_))
    exact z_iret hC hr hlk dX12_terms_70 ⟨_, rfl, hw⟩
def w_X12_terms_b59 (q : Int32 → hS → Prop) (S : hS) (v0 : Nat) (v1 : Int32) (v2 : Int32) : Prop := w_X12_terms_b60 q S v0 v1 v2 0
set_option maxRecDepth 100000 in
set_option maxHeartbeats 4000000 in
theorem t_X12_terms_b59 (hC : zC p R s m args c cX12_terms 4 RX12 G B mc ms 2 85) (hr : meth.sig.returnType = (Option.some FieldType.int)) (hlk : meth.locks = false) (hnm : meth.name = "terms") {q : Int32 → hS → Prop} {S : hS} {v0 : Nat} {v1 : Int32} {v2 : Int32} (hw : w_X12_terms_b59 q S v0 v1 v2) : Z p l e R s m args below meth c (MQ below (hQ G B (iP q)) args s mc ms (fun r => B ≤ r)) G B mc ms 4 S 0 0 59 [some (.ref v0), some (.int v1), some (.int v2), none] [] := by
  unfold w_X12_terms_b59 at hw
  refine z_iconst hC ic_0 dX12_terms_59 ?_
  refine z_mask (lv' := [some (.ref v0), some (.int v1), some (.int v2), none]) [true, true, true, false] rfl ?_
  exact t_X12_terms_b60 hC hr hlk hnm hw
def w_X12_terms (q : Int32 → hS → Prop) (S : hS) (v0 : Nat) (v1 : Int32) (v2 : Int32) : Prop := pI S v0 12 0 0 (fun S => (¬ v1 = 0 → (¬ v1 = 1 → (¬ v1 = 2 → w_X12_terms_b59 q S v0 v1 v2) ∧ (v1 = 2 → w_X12_in (fun x49 S => (x49 = 0 → w_X12_terms_b59 q S v0 v1 v2) ∧ (¬ x49 = 0 → w_X12_terms_b60 q S v0 v1 v2 1)) S (Int32.toInt64 v2) 0 9)) ∧ (v1 = 1 → w_X12_in (fun x32 S => w_X12_terms_b60 q S v0 v1 v2 x32) S (Int32.toInt64 v2) 0 10)) ∧ (v1 = 0 → w_X12_in (fun x15 S => w_X12_terms_b60 q S v0 v1 v2 x15) S (Int32.toInt64 v2) 0 999))
set_option maxRecDepth 100000 in
set_option maxHeartbeats 4000000 in
theorem c_X12_terms (l : Launch) (G : hG) (B : Nat) (S : hS) (v0 : Nat) (v1 : Int32) (v2 : Int32) (q : Int32 → hS → Prop) : Met l yX12_terms (hws yX12_terms cX12_terms 4 (Option.some FieldType.int)) ({ frames := 2, cells := 0, slots := 0, locals := 85 }) (hPc G B S [.ref v0, .int v1, .int v2] (w_X12_terms q S v0 v1 v2)) (hQ G B (iP q)) (0) (0) (fun r => B ≤ r) := by
  refine hMet (rm := { frames := 2, cells := 0, slots := 0, locals := 85 }) (lv := [some (.ref v0), some (.int v1), some (.int v2), none]) (own := RX12) (fr := 2) (lo := 85) (by decide) rfl rfl rfl (Nat.le_of_ble_eq_true rfl) rfl (fun hw p e R s m args below meth c hC hr hlk hnm => ?_)
  unfold w_X12_terms at hw
  refine z_aload_n hC dX12_terms_0 rfl rfl ?_
  refine z_iconst hC ic_0 dX12_terms_1 ?_
  refine z_putI hC FX12 0 lk_1355 dX12_terms_2 (by decide) rfl rfl hw (fun S hw => ?_)
  refine z_iload_n hC dX12_terms_5 rfl rfl ?_
  refine z_if_ne (tgt := 21) hC dX12_terms_6 (by decide) (fun c6 => ?_) (fun c6 => ?_)
  · have hw := hw.1 c6
    refine z_iload_n hC dX12_terms_21 rfl rfl ?_
    refine z_iconst hC ic_1 dX12_terms_22 ?_
    refine z_icmp_ne (tgt := 38) hC dX12_terms_23 (by decide) (fun c23 => ?_) (fun c23 => ?_)
    · have hw := hw.1 c23
      refine z_iload_n hC dX12_terms_38 rfl rfl ?_
      refine z_iconst hC ic_2 dX12_terms_39 ?_
      refine z_icmp_ne (tgt := 59) hC dX12_terms_40 (by decide) (fun c40 => ?_) (fun c40 => ?_)
      · have hw := hw.1 c40
        refine z_mask (lv' := [some (.ref v0), some (.int v1), some (.int v2), none]) [true, true, true, false] rfl ?_
        exact t_X12_terms_b59 hC hr hlk hnm hw
      · have hw := hw.2 c40
        refine z_iload_n hC dX12_terms_43 rfl rfl ?_
        refine z_i2l hC rfl dX12_terms_44 ?_
        refine z_lconst hC lc_0 dX12_terms_45 ?_
        refine z_ldc2 hC lk_1692 dX12_terms_46 ?_
        refine z_callS (ku' := 0) (kv' := 0) (n := 3) (As := [.long (Int32.toInt64 v2), .long 0, .long 9]) (st := []) hC (c_X12_in l G B S (Int32.toInt64 v2) 0 9 _) hw lk_1556 lk_1557 lk_133 lk_1558 hd_X12_in rfl rfl (Nat.le_of_ble_eq_true rfl) (Nat.le_of_ble_eq_true rfl) rfl (Nat.le_of_ble_eq_true rfl) dX12_terms_49 (Nat.le_refl 0) (Nat.le_refl 0) (kI (fun x49 S hw => ?_))
        refine z_if_eq (tgt := 59) hC dX12_terms_52 (by decide) (fun c52 => ?_) (fun c52 => ?_)
        · have hw := hw.1 c52
          refine z_mask (lv' := [some (.ref v0), some (.int v1), some (.int v2), none]) [true, true, true, false] rfl ?_
          exact t_X12_terms_b59 hC hr hlk hnm hw
        · have hw := hw.2 c52
          refine z_iconst hC ic_1 dX12_terms_55 ?_
          refine z_goto (tgt := 60) hC dX12_terms_56 (by decide) ?_
          refine z_mask (lv' := [some (.ref v0), some (.int v1), some (.int v2), none]) [true, true, true, false] rfl ?_
          exact t_X12_terms_b60 hC hr hlk hnm hw
    · have hw := hw.2 c23
      refine z_iload_n hC dX12_terms_26 rfl rfl ?_
      refine z_i2l hC rfl dX12_terms_27 ?_
      refine z_lconst hC lc_0 dX12_terms_28 ?_
      refine z_ldc2 hC lk_1596 dX12_terms_29 ?_
      refine z_callS (ku' := 0) (kv' := 0) (n := 3) (As := [.long (Int32.toInt64 v2), .long 0, .long 10]) (st := []) hC (c_X12_in l G B S (Int32.toInt64 v2) 0 10 _) hw lk_1556 lk_1557 lk_133 lk_1558 hd_X12_in rfl rfl (Nat.le_of_ble_eq_true rfl) (Nat.le_of_ble_eq_true rfl) rfl (Nat.le_of_ble_eq_true rfl) dX12_terms_32 (Nat.le_refl 0) (Nat.le_refl 0) (kI (fun x32 S hw => ?_))
      refine z_goto (tgt := 60) hC dX12_terms_35 (by decide) ?_
      refine z_mask (lv' := [some (.ref v0), some (.int v1), some (.int v2), none]) [true, true, true, false] rfl ?_
      exact t_X12_terms_b60 hC hr hlk hnm hw
  · have hw := hw.2 c6
    refine z_iload_n hC dX12_terms_9 rfl rfl ?_
    refine z_i2l hC rfl dX12_terms_10 ?_
    refine z_lconst hC lc_0 dX12_terms_11 ?_
    refine z_ldc2 hC lk_1639 dX12_terms_12 ?_
    refine z_callS (ku' := 0) (kv' := 0) (n := 3) (As := [.long (Int32.toInt64 v2), .long 0, .long 999]) (st := []) hC (c_X12_in l G B S (Int32.toInt64 v2) 0 999 _) hw lk_1556 lk_1557 lk_133 lk_1558 hd_X12_in rfl rfl (Nat.le_of_ble_eq_true rfl) (Nat.le_of_ble_eq_true rfl) rfl (Nat.le_of_ble_eq_true rfl) dX12_terms_15 (Nat.le_refl 0) (Nat.le_refl 0) (kI (fun x15 S hw => ?_))
    refine z_goto (tgt := 60) hC dX12_terms_18 (by decide) ?_
    refine z_mask (lv' := [some (.ref v0), some (.int v1), some (.int v2), none]) [true, true, true, false] rfl ?_
    exact t_X12_terms_b60 hC hr hlk hnm hw
end
section
variable {p : Program} {l : Launch} {e : Env} {R : Room} {s : State} {m : MethodId} {args : Array Value} {below : List Frame} {meth : Method} {c : Code} {G : hG} {B mc ms : Nat}
def w_X12_row_b117 (q : Int32 → hS → Prop) (K35 : hS → (Nat) → (Int32) → (Int32) → (Int32) → Prop) (S : hS) (v0 : Nat) (v1 : Int32) (v2 : Int32) (v3 : Int32) : Prop := ∀ y117 : Int32, y117 = v3 + 4 → K35 S v0 v1 v2 y117
set_option maxRecDepth 100000 in
set_option maxHeartbeats 4000000 in
theorem t_X12_row_b117 (hC : zC p R s m args c cX12_row 4 RX12 G B mc ms 4 130) (hr : meth.sig.returnType = (Option.some FieldType.int)) (hlk : meth.locks = false) (hnm : meth.name = "row") {q : Int32 → hS → Prop} {K35 : hS → (Nat) → (Int32) → (Int32) → (Int32) → Prop} (hK35 : ∀ {S : hS} {v0 : Nat} {v1 : Int32} {v2 : Int32} {v3 : Int32}, K35 S v0 v1 v2 v3 → Z p l e R s m args below meth c (MQ below (hQ G B (iP q)) args s mc ms (fun r => B ≤ r)) G B mc ms 4 S 0 0 35 [some (.ref v0), some (.int v1), some (.int v2), some (.int v3)] []) {S : hS} {v0 : Nat} {v1 : Int32} {v2 : Int32} {v3 : Int32} (hw : w_X12_row_b117 q K35 S v0 v1 v2 v3) : Z p l e R s m args below meth c (MQ below (hQ G B (iP q)) args s mc ms (fun r => B ≤ r)) G B mc ms 4 S 0 0 117 [some (.ref v0), some (.int v1), some (.int v2), some (.int v3)] [] := by
  unfold w_X12_row_b117 at hw
  refine z_inc (i := 3) hC ic_4 dX12_row_117 rfl (by decide) (hok_v rfl rfl) (fun y117 e117 => ?_)
  have hw := hw y117 e117
  refine z_goto (tgt := 35) hC dX12_row_120 (by decide) ?_
  refine z_mask (lv' := [some (.ref v0), some (.int v1), some (.int v2), some (.int y117)]) [true, true, true, true] rfl ?_
  exact hK35 hw
def w_X12_row_b107 (q : Int32 → hS → Prop) (K35 : hS → (Nat) → (Int32) → (Int32) → (Int32) → Prop) (S : hS) (v0 : Nat) (v1 : Int32) (v2 : Int32) (v3 : Int32) : Prop := gI S v0 12 11 (fun x109 => pI S v0 12 11 (x109 + 1) (fun S => w_X12_row_b117 q K35 S v0 v1 v2 v3))
set_option maxRecDepth 100000 in
set_option maxHeartbeats 4000000 in
theorem t_X12_row_b107 (hC : zC p R s m args c cX12_row 4 RX12 G B mc ms 4 130) (hr : meth.sig.returnType = (Option.some FieldType.int)) (hlk : meth.locks = false) (hnm : meth.name = "row") {q : Int32 → hS → Prop} {K35 : hS → (Nat) → (Int32) → (Int32) → (Int32) → Prop} (hK35 : ∀ {S : hS} {v0 : Nat} {v1 : Int32} {v2 : Int32} {v3 : Int32}, K35 S v0 v1 v2 v3 → Z p l e R s m args below meth c (MQ below (hQ G B (iP q)) args s mc ms (fun r => B ≤ r)) G B mc ms 4 S 0 0 35 [some (.ref v0), some (.int v1), some (.int v2), some (.int v3)] []) {S : hS} {v0 : Nat} {v1 : Int32} {v2 : Int32} {v3 : Int32} (hw : w_X12_row_b107 q K35 S v0 v1 v2 v3) : Z p l e R s m args below meth c (MQ below (hQ G B (iP q)) args s mc ms (fun r => B ≤ r)) G B mc ms 4 S 0 0 107 [some (.ref v0), some (.int v1), some (.int v2), some (.int v3)] [] := by
  unfold w_X12_row_b107 at hw
  refine z_aload_n hC dX12_row_107 rfl rfl ?_
  refine z_dup hC rfl dX12_row_108 ?_
  refine z_getI hC FX12 11 lk_1366 dX12_row_109 (by decide) hw (fun x109 hw => ?_)
  refine z_iconst hC ic_1 dX12_row_112 ?_
  refine z_iadd hC dX12_row_113 ?_
  refine z_putI hC FX12 11 lk_1366 dX12_row_114 (by decide) rfl rfl hw (fun S hw => ?_)
  refine z_mask (lv' := [some (.ref v0), some (.int v1), some (.int v2), some (.int v3)]) [true, true, true, true] rfl ?_
  exact t_X12_row_b117 hC hr hlk hnm hK35 hw
def w_X12_row_b35 (q : Int32 → hS → Prop) : Nat → hS → (Nat) → (Int32) → (Int32) → (Int32) → Prop
  | 0, _, _, _, _, _ => False
  | n + 1, S, v0, v1, v2, v3 => (v1 ≤ v3 → oK S v0 12 ∧ w_X12_settled (fun x125 S => q x125 S) S v0 v2) ∧ (¬ v1 ≤ v3 → (v1 ≤ (v3 + 3) → w_X12_row_b107 q (fun S v0 v1 v2 v3 => w_X12_row_b35 q n S v0 v1 v2 v3) S v0 v1 v2 v3) ∧ (¬ v1 ≤ (v3 + 3) → gP S v0 12 12 (fun x48 => aI S x48 (v3 + 3) (fun x54 => (10 ≤ x54 → w_X12_row_b107 q (fun S v0 v1 v2 v3 => w_X12_row_b35 q n S v0 v1 v2 v3) S v0 v1 v2 v3) ∧ (¬ 10 ≤ x54 → gP S v0 12 12 (fun x62 => aI S x62 v3 (fun x66 => gP S v0 12 12 (fun x68 => aI S x68 (v3 + 1) (fun x74 => gP S v0 12 12 (fun x78 => aI S x78 (v3 + 2) (fun x84 => gP S v0 12 12 (fun x87 => aI S x87 (v3 + 3) (fun x93 => oK S v0 12 ∧ w_X12_come (fun x95 S => (x95 < 0 → w_X12_row_b107 q (fun S v0 v1 v2 v3 => w_X12_row_b35 q n S v0 v1 v2 v3) S v0 v1 v2 v3) ∧ (¬ x95 < 0 → ∀ y101 : Int32, y101 = v2 + 1 → w_X12_row_b117 q (fun S v0 v1 v2 v3 => w_X12_row_b35 q n S v0 v1 v2 v3) S v0 v1 y101 v3)) S v0 x66 x74 ((10 * x84) + x93))))))))))))))
set_option maxRecDepth 100000 in
set_option maxHeartbeats 4000000 in
theorem t_X12_row_b35 (hC : zC p R s m args c cX12_row 4 RX12 G B mc ms 4 130) (hr : meth.sig.returnType = (Option.some FieldType.int)) (hlk : meth.locks = false) (hnm : meth.name = "row") {q : Int32 → hS → Prop} (n : Nat) : ∀ {S : hS} {v0 : Nat} {v1 : Int32} {v2 : Int32} {v3 : Int32} (hw : w_X12_row_b35 q n S v0 v1 v2 v3), Z p l e R s m args below meth c (MQ below (hQ G B (iP q)) args s mc ms (fun r => B ≤ r)) G B mc ms 4 S 0 0 35 [some (.ref v0), some (.int v1), some (.int v2), some (.int v3)] [] := by
  induction n with
  | zero => intro S v0 v1 v2 v3 hw; exact (by rw [w_X12_row_b35] at hw; exact hw.elim)
  | succ n ih =>
    intro S v0 v1 v2 v3 hw
    rw [w_X12_row_b35] at hw
    refine z_iload_n hC dX12_row_35 rfl rfl ?_
    refine z_iload_n hC dX12_row_36 rfl rfl ?_
    refine z_icmp_ge (tgt := 123) hC dX12_row_37 (by decide) (fun c37 => ?_) (fun c37 => ?_)
    · have hw := hw.1 c37
      refine z_aload_n hC dX12_row_123 rfl rfl ?_
      refine z_iload_n hC dX12_row_124 rfl rfl ?_
      refine z_callV (ku' := 0) (kv' := 0) (n := 1) (As := [.int v2]) (st := []) hC (c_X12_settled l G B S v0 v2 _) hw.2 hw.1 rfl lk_1563 lk_1565 lk_43 lk_133 lk_1566 hd_X12_settled rfl rfl (Nat.le_of_ble_eq_true rfl) (Nat.le_of_ble_eq_true rfl) rfl (Nat.le_of_ble_eq_true rfl) dX12_row_125 (Nat.le_refl 0) (Nat.le_refl 0) (kI (fun x125 S hw => ?_))
      exact z_iret hC hr hlk dX12_row_128 ⟨_, rfl, hw⟩
    · have hw := hw.2 c37
      refine z_iload_n hC dX12_row_40 rfl rfl ?_
      refine z_iconst hC ic_3 dX12_row_41 ?_
      refine z_iadd hC dX12_row_42 ?_
      refine z_iload_n hC dX12_row_43 rfl rfl ?_
      refine z_icmp_ge (tgt := 107) hC dX12_row_44 (by decide) (fun c44 => ?_) (fun c44 => ?_)
      · have hw := hw.1 c44
        refine z_mask (lv' := [some (.ref v0), some (.int v1), some (.int v2), some (.int v3)]) [true, true, true, true] rfl ?_
        exact t_X12_row_b107 hC hr hlk hnm (fun hw => ih hw) hw
      · have hw := hw.2 c44
        refine z_aload_n hC dX12_row_47 rfl rfl ?_
        refine z_getP hC FX12 12 lk_1367 dX12_row_48 (by decide) hw (fun x48 hw => ?_)
        refine z_iload_n hC dX12_row_51 rfl rfl ?_
        refine z_iconst hC ic_3 dX12_row_52 ?_
        refine z_iadd hC dX12_row_53 ?_
        refine z_aldI hC dX12_row_54 hw (fun x54 hw => ?_)
        refine z_bipush hC bi_10 dX12_row_55 ?_
        refine z_icmp_ge (tgt := 107) hC dX12_row_57 (by decide) (fun c57 => ?_) (fun c57 => ?_)
        · have hw := hw.1 c57
          refine z_mask (lv' := [some (.ref v0), some (.int v1), some (.int v2), some (.int v3)]) [true, true, true, true] rfl ?_
          exact t_X12_row_b107 hC hr hlk hnm (fun hw => ih hw) hw
        · have hw := hw.2 c57
          refine z_aload_n hC dX12_row_60 rfl rfl ?_
          refine z_aload_n hC dX12_row_61 rfl rfl ?_
          refine z_getP hC FX12 12 lk_1367 dX12_row_62 (by decide) hw (fun x62 hw => ?_)
          refine z_iload_n hC dX12_row_65 rfl rfl ?_
          refine z_aldI hC dX12_row_66 hw (fun x66 hw => ?_)
          refine z_aload_n hC dX12_row_67 rfl rfl ?_
          refine z_getP hC FX12 12 lk_1367 dX12_row_68 (by decide) hw (fun x68 hw => ?_)
          refine z_iload_n hC dX12_row_71 rfl rfl ?_
          refine z_iconst hC ic_1 dX12_row_72 ?_
          refine z_iadd hC dX12_row_73 ?_
          refine z_aldI hC dX12_row_74 hw (fun x74 hw => ?_)
          refine z_bipush hC bi_10 dX12_row_75 ?_
          refine z_aload_n hC dX12_row_77 rfl rfl ?_
          refine z_getP hC FX12 12 lk_1367 dX12_row_78 (by decide) hw (fun x78 hw => ?_)
          refine z_iload_n hC dX12_row_81 rfl rfl ?_
          refine z_iconst hC ic_2 dX12_row_82 ?_
          refine z_iadd hC dX12_row_83 ?_
          refine z_aldI hC dX12_row_84 hw (fun x84 hw => ?_)
          refine z_imul hC dX12_row_85 ?_
          refine z_aload_n hC dX12_row_86 rfl rfl ?_
          refine z_getP hC FX12 12 lk_1367 dX12_row_87 (by decide) hw (fun x87 hw => ?_)
          refine z_iload_n hC dX12_row_90 rfl rfl ?_
          refine z_iconst hC ic_3 dX12_row_91 ?_
          refine z_iadd hC dX12_row_92 ?_
          refine z_aldI hC dX12_row_93 hw (fun x93 hw => ?_)
          refine z_iadd hC dX12_row_94 ?_
          refine z_callV (ku' := 0) (kv' := 0) (n := 3) (As := [.int x66, .int x74, .int ((10 * x84) + x93)]) (st := []) hC (c_X12_come l G B S v0 x66 x74 ((10 * x84) + x93) _) hw.2 hw.1 rfl lk_1635 lk_1637 lk_55 lk_133 lk_1638 hd_X12_come rfl rfl (Nat.le_of_ble_eq_true rfl) (Nat.le_of_ble_eq_true rfl) rfl (Nat.le_of_ble_eq_true rfl) dX12_row_95 (Nat.le_refl 0) (Nat.le_refl 0) (kI (fun x95 S hw => ?_))
          refine z_if_lt (tgt := 107) hC dX12_row_98 (by decide) (fun c98 => ?_) (fun c98 => ?_)
          · have hw := hw.1 c98
            refine z_mask (lv' := [some (.ref v0), some (.int v1), some (.int v2), some (.int v3)]) [true, true, true, true] rfl ?_
            exact t_X12_row_b107 hC hr hlk hnm (fun hw => ih hw) hw
          · have hw := hw.2 c98
            refine z_inc (i := 2) hC ic_1 dX12_row_101 rfl (by decide) (hok_v rfl rfl) (fun y101 e101 => ?_)
            have hw := hw y101 e101
            refine z_goto (tgt := 117) hC dX12_row_104 (by decide) ?_
            refine z_mask (lv' := [some (.ref v0), some (.int v1), some (.int y101), some (.int v3)]) [true, true, true, true] rfl ?_
            exact t_X12_row_b117 hC hr hlk hnm (fun hw => ih hw) hw
def w_X12_row (q : Int32 → hS → Prop) (S : hS) (v0 : Nat) : Prop := pI S v0 12 0 0 (fun S => gI S v0 12 13 (fun x6 => pI S v0 12 13 0 (fun S => (¬ x6 = 0 → pI S v0 12 11 0 (fun S => (∃ n35 : Nat, w_X12_row_b35 q n35 S v0 x6 0 0))) ∧ (x6 = 0 → oK S v0 12 ∧ w_X12_tell (fun x22 S => q x22 S) S v0 (-6)))))
set_option maxRecDepth 100000 in
set_option maxHeartbeats 4000000 in
theorem c_X12_row (l : Launch) (G : hG) (B : Nat) (S : hS) (v0 : Nat) (q : Int32 → hS → Prop) : Met l yX12_row (hws yX12_row cX12_row 4 (Option.some FieldType.int)) ({ frames := 4, cells := 0, slots := 0, locals := 130 }) (hPc G B S [.ref v0] (w_X12_row q S v0)) (hQ G B (iP q)) (0) (0) (fun r => B ≤ r) := by
  refine hMet (rm := { frames := 4, cells := 0, slots := 0, locals := 130 }) (lv := [some (.ref v0), none, none, none]) (own := RX12) (fr := 4) (lo := 130) (by decide) rfl rfl rfl (Nat.le_of_ble_eq_true rfl) rfl (fun hw p e R s m args below meth c hC hr hlk hnm => ?_)
  unfold w_X12_row at hw
  refine z_aload_n hC dX12_row_0 rfl rfl ?_
  refine z_iconst hC ic_0 dX12_row_1 ?_
  refine z_putI hC FX12 0 lk_1355 dX12_row_2 (by decide) rfl rfl hw (fun S hw => ?_)
  refine z_aload_n hC dX12_row_5 rfl rfl ?_
  refine z_getI hC FX12 13 lk_1368 dX12_row_6 (by decide) hw (fun x6 hw => ?_)
  refine z_istore_n (i := 1) (lv' := [some (.ref v0), some (.int x6), none, none]) hC rfl dX12_row_9 (by decide) (hok_v rfl rfl) rfl ?_
  refine z_aload_n hC dX12_row_10 rfl rfl ?_
  refine z_iconst hC ic_0 dX12_row_11 ?_
  refine z_putI hC FX12 13 lk_1368 dX12_row_12 (by decide) rfl rfl hw (fun S hw => ?_)
  refine z_iload_n hC dX12_row_15 rfl rfl ?_
  refine z_if_ne (tgt := 26) hC dX12_row_16 (by decide) (fun c16 => ?_) (fun c16 => ?_)
  · have hw := hw.1 c16
    refine z_aload_n hC dX12_row_26 rfl rfl ?_
    refine z_iconst hC ic_0 dX12_row_27 ?_
    refine z_putI hC FX12 11 lk_1366 dX12_row_28 (by decide) rfl rfl hw (fun S hw => ?_)
    refine z_iconst hC ic_0 dX12_row_31 ?_
    refine z_istore_n (i := 2) (lv' := [some (.ref v0), some (.int x6), some (.int 0), none]) hC rfl dX12_row_32 (by decide) (hok_v rfl rfl) rfl ?_
    refine z_iconst hC ic_0 dX12_row_33 ?_
    refine z_istore_n (i := 3) (lv' := [some (.ref v0), some (.int x6), some (.int 0), some (.int 0)]) hC rfl dX12_row_34 (by decide) (hok_v rfl rfl) rfl ?_
    refine z_mask (lv' := [some (.ref v0), some (.int x6), some (.int 0), some (.int 0)]) [true, true, true, true] rfl ?_
    obtain ⟨n35, hw⟩ := hw
    exact t_X12_row_b35 hC hr hlk hnm n35 hw
  · have hw := hw.2 c16
    refine z_aload_n hC dX12_row_19 rfl rfl ?_
    refine z_bipush hC bi_m6 dX12_row_20 ?_
    refine z_callV (ku' := 0) (kv' := 0) (n := 1) (As := [.int (-6)]) (st := []) hC (c_X12_tell l G B S v0 (-6) _) hw.2 hw.1 rfl lk_1544 lk_1546 lk_41 lk_133 lk_1547 hd_X12_tell rfl rfl (Nat.le_of_ble_eq_true rfl) (Nat.le_of_ble_eq_true rfl) rfl (Nat.le_of_ble_eq_true rfl) dX12_row_22 (Nat.le_refl 0) (Nat.le_refl 0) (kI (fun x22 S hw => ?_))
    exact z_iret hC hr hlk dX12_row_25 ⟨_, rfl, hw⟩
end
section
variable {p : Program} {l : Launch} {e : Env} {R : Room} {s : State} {m : MethodId} {args : Array Value} {below : List Frame} {meth : Method} {c : Code} {G : hG} {B mc ms : Nat}
def w_X12_rust (q : Int32 → hS → Prop) (S : hS) (v0 : Nat) : Prop := pI S v0 12 0 0 (fun S => gI S v0 12 11 (fun x6 => q x6 S))
set_option maxRecDepth 100000 in
set_option maxHeartbeats 4000000 in
theorem c_X12_rust (l : Launch) (G : hG) (B : Nat) (S : hS) (v0 : Nat) (q : Int32 → hS → Prop) : Met l yX12_rust (hws yX12_rust cX12_rust 1 (Option.some FieldType.int)) ({ frames := 1, cells := 0, slots := 0, locals := 60 }) (hPc G B S [.ref v0] (w_X12_rust q S v0)) (hQ G B (iP q)) (0) (0) (fun r => B ≤ r) := by
  refine hMet (rm := { frames := 1, cells := 0, slots := 0, locals := 60 }) (lv := [some (.ref v0)]) (own := RX12) (fr := 1) (lo := 60) (by decide) rfl rfl rfl (Nat.le_of_ble_eq_true rfl) rfl (fun hw p e R s m args below meth c hC hr hlk hnm => ?_)
  unfold w_X12_rust at hw
  refine z_aload_n hC dX12_rust_0 rfl rfl ?_
  refine z_iconst hC ic_0 dX12_rust_1 ?_
  refine z_putI hC FX12 0 lk_1355 dX12_rust_2 (by decide) rfl rfl hw (fun S hw => ?_)
  refine z_aload_n hC dX12_rust_5 rfl rfl ?_
  refine z_getI hC FX12 11 lk_1366 dX12_rust_6 (by decide) hw (fun x6 hw => ?_)
  exact z_iret hC hr hlk dX12_rust_9 ⟨_, rfl, hw⟩
end
section
variable {p : Program} {l : Launch} {e : Env} {R : Room} {s : State} {m : MethodId} {args : Array Value} {below : List Frame} {meth : Method} {c : Code} {G : hG} {B mc ms : Nat}
def w_X12_four_b3 (q : hS → Prop) : Nat → hS → (Nat) → (Int32) → (Int32) → Prop
  | 0, _, _, _, _ => False
  | n + 1, S, v0, v1, v2 => (v2 < 0 → q S) ∧ (¬ v2 < 0 → gP S v0 12 12 (fun x8 => gI S v0 12 13 (fun x12 => sI S x8 x12 ((v1 >>> (v2 &&& 31)) &&& 255) (fun S => gI S v0 12 13 (fun x25 => pI S v0 12 13 (x25 + 1) (fun S => ∀ y33 : Int32, y33 = v2 + (-8) → w_X12_four_b3 q n S v0 v1 y33))))))
set_option maxRecDepth 100000 in
set_option maxHeartbeats 4000000 in
theorem t_X12_four_b3 (hC : zC p R s m args c cX12_four 3 RX12 G B mc ms 1 60) (hr : meth.sig.returnType = (Option.none : Option FieldType)) (hlk : meth.locks = false) (hnm : meth.name = "four") {q : hS → Prop} (n : Nat) : ∀ {S : hS} {v0 : Nat} {v1 : Int32} {v2 : Int32} (hw : w_X12_four_b3 q n S v0 v1 v2), Z p l e R s m args below meth c (MQ below (hQ G B (vP q)) args s mc ms (fun r => B ≤ r)) G B mc ms 3 S 0 0 3 [some (.ref v0), some (.int v1), some (.int v2)] [] := by
  induction n with
  | zero => intro S v0 v1 v2 hw; exact (by rw [w_X12_four_b3] at hw; exact hw.elim)
  | succ n ih =>
    intro S v0 v1 v2 hw
    rw [w_X12_four_b3] at hw
    refine z_iload_n hC dX12_four_3 rfl rfl ?_
    refine z_if_lt (tgt := 39) hC dX12_four_4 (by decide) (fun c4 => ?_) (fun c4 => ?_)
    · have hw := hw.1 c4
      exact z_vret hC hr hlk dX12_four_39 ⟨rfl, hw⟩
    · have hw := hw.2 c4
      refine z_aload_n hC dX12_four_7 rfl rfl ?_
      refine z_getP hC FX12 12 lk_1367 dX12_four_8 (by decide) hw (fun x8 hw => ?_)
      refine z_aload_n hC dX12_four_11 rfl rfl ?_
      refine z_getI hC FX12 13 lk_1368 dX12_four_12 (by decide) hw (fun x12 hw => ?_)
      refine z_iload_n hC dX12_four_15 rfl rfl ?_
      refine z_iload_n hC dX12_four_16 rfl rfl ?_
      refine z_ishr hC dX12_four_17 ?_
      refine z_sipush hC si_255 dX12_four_18 ?_
      refine z_iand hC dX12_four_21 ?_
      refine z_astI hC dX12_four_22 hw (fun S hw => ?_)
      refine z_aload_n hC dX12_four_23 rfl rfl ?_
      refine z_dup hC rfl dX12_four_24 ?_
      refine z_getI hC FX12 13 lk_1368 dX12_four_25 (by decide) hw (fun x25 hw => ?_)
      refine z_iconst hC ic_1 dX12_four_28 ?_
      refine z_iadd hC dX12_four_29 ?_
      refine z_putI hC FX12 13 lk_1368 dX12_four_30 (by decide) rfl rfl hw (fun S hw => ?_)
      refine z_inc (i := 2) hC ic_m8 dX12_four_33 rfl (by decide) (hok_v rfl rfl) (fun y33 e33 => ?_)
      have hw := hw y33 e33
      refine z_goto (tgt := 3) hC dX12_four_36 (by decide) ?_
      refine z_mask (lv' := [some (.ref v0), some (.int v1), some (.int y33)]) [true, true, true] rfl ?_
      exact ih hw
def w_X12_four (q : hS → Prop) (S : hS) (v0 : Nat) (v1 : Int32) : Prop := (∃ n3 : Nat, w_X12_four_b3 q n3 S v0 v1 24)
set_option maxRecDepth 100000 in
set_option maxHeartbeats 4000000 in
theorem c_X12_four (l : Launch) (G : hG) (B : Nat) (S : hS) (v0 : Nat) (v1 : Int32) (q : hS → Prop) : Met l yX12_four (hws yX12_four cX12_four 3 (Option.none : Option FieldType)) ({ frames := 1, cells := 0, slots := 0, locals := 60 }) (hPc G B S [.ref v0, .int v1] (w_X12_four q S v0 v1)) (hQ G B (vP q)) (0) (0) (fun r => B ≤ r) := by
  refine hMet (rm := { frames := 1, cells := 0, slots := 0, locals := 60 }) (lv := [some (.ref v0), some (.int v1), none]) (own := RX12) (fr := 1) (lo := 60) (by decide) rfl rfl rfl (Nat.le_of_ble_eq_true rfl) rfl (fun hw p e R s m args below meth c hC hr hlk hnm => ?_)
  unfold w_X12_four at hw
  refine z_bipush hC bi_24 dX12_four_0 ?_
  refine z_istore_n (i := 2) (lv' := [some (.ref v0), some (.int v1), some (.int 24)]) hC rfl dX12_four_2 (by decide) (hok_v rfl rfl) rfl ?_
  refine z_mask (lv' := [some (.ref v0), some (.int v1), some (.int 24)]) [true, true, true] rfl ?_
  obtain ⟨n3, hw⟩ := hw
  exact t_X12_four_b3 hC hr hlk hnm n3 hw
end
section
variable {p : Program} {l : Launch} {e : Env} {R : Room} {s : State} {m : MethodId} {args : Array Value} {below : List Frame} {meth : Method} {c : Code} {G : hG} {B mc ms : Nat}
def w_X12_feed (q : Int32 → hS → Prop) (S : hS) (v0 : Nat) (v1 : Int32) (v2 : Int32) (v3 : Int32) (v4 : Int32) (v5 : Int32) : Prop := pI S v0 12 0 0 (fun S => gI S v0 12 13 (fun x6 => ((x6 + 20) ≤ 400 → oK S v0 12 ∧ w_X12_four (fun S => oK S v0 12 ∧ w_X12_four (fun S => oK S v0 12 ∧ w_X12_four (fun S => oK S v0 12 ∧ w_X12_four (fun S => oK S v0 12 ∧ w_X12_four (fun S => gI S v0 12 13 (fun x48 => q x48 S)) S v0 v5) S v0 v4) S v0 v3) S v0 v2) S v0 v1) ∧ (¬ (x6 + 20) ≤ 400 → q (-1) S)))
set_option maxRecDepth 100000 in
set_option maxHeartbeats 4000000 in
theorem c_X12_feed (l : Launch) (G : hG) (B : Nat) (S : hS) (v0 : Nat) (v1 : Int32) (v2 : Int32) (v3 : Int32) (v4 : Int32) (v5 : Int32) (q : Int32 → hS → Prop) : Met l yX12_feed (hws yX12_feed cX12_feed 6 (Option.some FieldType.int)) ({ frames := 2, cells := 0, slots := 0, locals := 82 }) (hPc G B S [.ref v0, .int v1, .int v2, .int v3, .int v4, .int v5] (w_X12_feed q S v0 v1 v2 v3 v4 v5)) (hQ G B (iP q)) (0) (0) (fun r => B ≤ r) := by
  refine hMet (rm := { frames := 2, cells := 0, slots := 0, locals := 82 }) (lv := [some (.ref v0), some (.int v1), some (.int v2), some (.int v3), some (.int v4), some (.int v5)]) (own := RX12) (fr := 2) (lo := 82) (by decide) rfl rfl rfl (Nat.le_of_ble_eq_true rfl) rfl (fun hw p e R s m args below meth c hC hr hlk hnm => ?_)
  unfold w_X12_feed at hw
  refine z_aload_n hC dX12_feed_0 rfl rfl ?_
  refine z_iconst hC ic_0 dX12_feed_1 ?_
  refine z_putI hC FX12 0 lk_1355 dX12_feed_2 (by decide) rfl rfl hw (fun S hw => ?_)
  refine z_aload_n hC dX12_feed_5 rfl rfl ?_
  refine z_getI hC FX12 13 lk_1368 dX12_feed_6 (by decide) hw (fun x6 hw => ?_)
  refine z_bipush hC bi_20 dX12_feed_9 ?_
  refine z_iadd hC dX12_feed_11 ?_
  refine z_sipush hC si_400 dX12_feed_12 ?_
  refine z_icmp_le (tgt := 20) hC dX12_feed_15 (by decide) (fun c15 => ?_) (fun c15 => ?_)
  · have hw := hw.1 c15
    refine z_aload_n hC dX12_feed_20 rfl rfl ?_
    refine z_iload_n hC dX12_feed_21 rfl rfl ?_
    refine z_callV (ku' := 0) (kv' := 0) (n := 1) (As := [.int v1]) (st := []) hC (c_X12_four l G B S v0 v1 _) hw.2 hw.1 rfl lk_1705 lk_1707 lk_62 lk_133 lk_1708 hd_X12_four rfl rfl (Nat.le_of_ble_eq_true rfl) (Nat.le_of_ble_eq_true rfl) rfl (Nat.le_of_ble_eq_true rfl) dX12_feed_22 (Nat.le_refl 0) (Nat.le_refl 0) (kV (fun S hw => ?_))
    refine z_aload_n hC dX12_feed_25 rfl rfl ?_
    refine z_iload_n hC dX12_feed_26 rfl rfl ?_
    refine z_callV (ku' := 0) (kv' := 0) (n := 1) (As := [.int v2]) (st := []) hC (c_X12_four l G B S v0 v2 _) hw.2 hw.1 rfl lk_1705 lk_1707 lk_62 lk_133 lk_1708 hd_X12_four rfl rfl (Nat.le_of_ble_eq_true rfl) (Nat.le_of_ble_eq_true rfl) rfl (Nat.le_of_ble_eq_true rfl) dX12_feed_27 (Nat.le_refl 0) (Nat.le_refl 0) (kV (fun S hw => ?_))
    refine z_aload_n hC dX12_feed_30 rfl rfl ?_
    refine z_iload_n hC dX12_feed_31 rfl rfl ?_
    refine z_callV (ku' := 0) (kv' := 0) (n := 1) (As := [.int v3]) (st := []) hC (c_X12_four l G B S v0 v3 _) hw.2 hw.1 rfl lk_1705 lk_1707 lk_62 lk_133 lk_1708 hd_X12_four rfl rfl (Nat.le_of_ble_eq_true rfl) (Nat.le_of_ble_eq_true rfl) rfl (Nat.le_of_ble_eq_true rfl) dX12_feed_32 (Nat.le_refl 0) (Nat.le_refl 0) (kV (fun S hw => ?_))
    refine z_aload_n hC dX12_feed_35 rfl rfl ?_
    refine z_iload hC dX12_feed_36 rfl ?_
    refine z_callV (ku' := 0) (kv' := 0) (n := 1) (As := [.int v4]) (st := []) hC (c_X12_four l G B S v0 v4 _) hw.2 hw.1 rfl lk_1705 lk_1707 lk_62 lk_133 lk_1708 hd_X12_four rfl rfl (Nat.le_of_ble_eq_true rfl) (Nat.le_of_ble_eq_true rfl) rfl (Nat.le_of_ble_eq_true rfl) dX12_feed_38 (Nat.le_refl 0) (Nat.le_refl 0) (kV (fun S hw => ?_))
    refine z_aload_n hC dX12_feed_41 rfl rfl ?_
    refine z_iload hC dX12_feed_42 rfl ?_
    refine z_callV (ku' := 0) (kv' := 0) (n := 1) (As := [.int v5]) (st := []) hC (c_X12_four l G B S v0 v5 _) hw.2 hw.1 rfl lk_1705 lk_1707 lk_62 lk_133 lk_1708 hd_X12_four rfl rfl (Nat.le_of_ble_eq_true rfl) (Nat.le_of_ble_eq_true rfl) rfl (Nat.le_of_ble_eq_true rfl) dX12_feed_44 (Nat.le_refl 0) (Nat.le_refl 0) (kV (fun S hw => ?_))
    refine z_aload_n hC dX12_feed_47 rfl rfl ?_
    refine z_getI hC FX12 13 lk_1368 dX12_feed_48 (by decide) hw (fun x48 hw => ?_)
    exact z_iret hC hr hlk dX12_feed_51 ⟨_, rfl, hw⟩
  · have hw := hw.2 c15
    refine z_iconst hC ic_m1 dX12_feed_18 ?_
    exact z_iret hC hr hlk dX12_feed_19 ⟨_, rfl, hw⟩
end
section
variable {p : Program} {l : Launch} {e : Env} {R : Room} {s : State} {m : MethodId} {args : Array Value} {below : List Frame} {meth : Method} {c : Code} {G : hG} {B mc ms : Nat}
def w_X12_end (q : Int32 → hS → Prop) (S : hS) (v0 : Nat) (v1 : Int32) : Prop := pI S v0 12 0 0 (fun S => (v1 < 0 → q (-1) S) ∧ (¬ v1 < 0 → gI S v0 12 13 (fun x11 => (v1 ≤ x11 → pI S v0 12 13 v1 (fun S => q v1 S)) ∧ (¬ v1 ≤ x11 → q (-1) S))))
set_option maxRecDepth 100000 in
set_option maxHeartbeats 4000000 in
theorem c_X12_end (l : Launch) (G : hG) (B : Nat) (S : hS) (v0 : Nat) (v1 : Int32) (q : Int32 → hS → Prop) : Met l yX12_end (hws yX12_end cX12_end 2 (Option.some FieldType.int)) ({ frames := 1, cells := 0, slots := 0, locals := 60 }) (hPc G B S [.ref v0, .int v1] (w_X12_end q S v0 v1)) (hQ G B (iP q)) (0) (0) (fun r => B ≤ r) := by
  refine hMet (rm := { frames := 1, cells := 0, slots := 0, locals := 60 }) (lv := [some (.ref v0), some (.int v1)]) (own := RX12) (fr := 1) (lo := 60) (by decide) rfl rfl rfl (Nat.le_of_ble_eq_true rfl) rfl (fun hw p e R s m args below meth c hC hr hlk hnm => ?_)
  unfold w_X12_end at hw
  refine z_aload_n hC dX12_end_0 rfl rfl ?_
  refine z_iconst hC ic_0 dX12_end_1 ?_
  refine z_putI hC FX12 0 lk_1355 dX12_end_2 (by decide) rfl rfl hw (fun S hw => ?_)
  refine z_iload_n hC dX12_end_5 rfl rfl ?_
  refine z_if_lt (tgt := 17) hC dX12_end_6 (by decide) (fun c6 => ?_) (fun c6 => ?_)
  · have hw := hw.1 c6
    refine z_iconst hC ic_m1 dX12_end_17 ?_
    exact z_iret hC hr hlk dX12_end_18 ⟨_, rfl, hw⟩
  · have hw := hw.2 c6
    refine z_iload_n hC dX12_end_9 rfl rfl ?_
    refine z_aload_n hC dX12_end_10 rfl rfl ?_
    refine z_getI hC FX12 13 lk_1368 dX12_end_11 (by decide) hw (fun x11 hw => ?_)
    refine z_icmp_le (tgt := 19) hC dX12_end_14 (by decide) (fun c14 => ?_) (fun c14 => ?_)
    · have hw := hw.1 c14
      refine z_aload_n hC dX12_end_19 rfl rfl ?_
      refine z_iload_n hC dX12_end_20 rfl rfl ?_
      refine z_putI hC FX12 13 lk_1368 dX12_end_21 (by decide) rfl rfl hw (fun S hw => ?_)
      refine z_iload_n hC dX12_end_24 rfl rfl ?_
      exact z_iret hC hr hlk dX12_end_25 ⟨_, rfl, hw⟩
    · have hw := hw.2 c14
      refine z_iconst hC ic_m1 dX12_end_17 ?_
      exact z_iret hC hr hlk dX12_end_18 ⟨_, rfl, hw⟩
end
section
variable {p : Program} {l : Launch} {e : Env} {R : Room} {s : State} {m : MethodId} {args : Array Value} {below : List Frame} {meth : Method} {c : Code} {G : hG} {B mc ms : Nat}
def w_X12_isSmall (q : Int32 → hS → Prop) (S : hS) (v0 : Int32) : Prop := (v0 < 97 → q 0 S) ∧ (¬ v0 < 97 → (122 < v0 → q 0 S) ∧ (¬ 122 < v0 → q 1 S))
set_option maxRecDepth 100000 in
set_option maxHeartbeats 4000000 in
theorem c_X12_isSmall (l : Launch) (G : hG) (B : Nat) (S : hS) (v0 : Int32) (q : Int32 → hS → Prop) : Met l yX12_isSmall (hws yX12_isSmall cX12_isSmall 1 (Option.some FieldType.boolean)) ({ frames := 1, cells := 0, slots := 0, locals := 60 }) (hPc G B S [.int v0] (w_X12_isSmall q S v0)) (hQ G B (iP q)) (0) (0) (fun r => B ≤ r) := by
  refine hMet (rm := { frames := 1, cells := 0, slots := 0, locals := 60 }) (lv := [some (.int v0)]) (own := RX12) (fr := 1) (lo := 60) (by decide) rfl rfl rfl (Nat.le_of_ble_eq_true rfl) rfl (fun hw p e R s m args below meth c hC hr hlk hnm => ?_)
  unfold w_X12_isSmall at hw
  refine z_iload_n hC dX12_isSmall_0 rfl rfl ?_
  refine z_bipush hC bi_97 dX12_isSmall_1 ?_
  refine z_icmp_lt (tgt := 16) hC dX12_isSmall_3 (by decide) (fun c3 => ?_) (fun c3 => ?_)
  · have hw := hw.1 c3
    refine z_iconst hC ic_0 dX12_isSmall_16 ?_
    exact z_zret hC hr hlk (hz01 (Or.inl rfl)).1 dX12_isSmall_17 ⟨_, rfl, hw⟩
  · have hw := hw.2 c3
    refine z_iload_n hC dX12_isSmall_6 rfl rfl ?_
    refine z_bipush hC bi_122 dX12_isSmall_7 ?_
    refine z_icmp_gt (tgt := 16) hC dX12_isSmall_9 (by decide) (fun c9 => ?_) (fun c9 => ?_)
    · have hw := hw.1 c9
      refine z_iconst hC ic_0 dX12_isSmall_16 ?_
      exact z_zret hC hr hlk (hz01 (Or.inl rfl)).1 dX12_isSmall_17 ⟨_, rfl, hw⟩
    · have hw := hw.2 c9
      refine z_iconst hC ic_1 dX12_isSmall_12 ?_
      refine z_goto (tgt := 17) hC dX12_isSmall_13 (by decide) ?_
      exact z_zret hC hr hlk (hz01 (Or.inr rfl)).1 dX12_isSmall_17 ⟨_, rfl, hw⟩
end
section
variable {p : Program} {l : Launch} {e : Env} {R : Room} {s : State} {m : MethodId} {args : Array Value} {below : List Frame} {meth : Method} {c : Code} {G : hG} {B mc ms : Nat}
def w_X12_isDigit (q : Int32 → hS → Prop) (S : hS) (v0 : Int32) : Prop := (v0 < 48 → q 0 S) ∧ (¬ v0 < 48 → (57 < v0 → q 0 S) ∧ (¬ 57 < v0 → q 1 S))
set_option maxRecDepth 100000 in
set_option maxHeartbeats 4000000 in
theorem c_X12_isDigit (l : Launch) (G : hG) (B : Nat) (S : hS) (v0 : Int32) (q : Int32 → hS → Prop) : Met l yX12_isDigit (hws yX12_isDigit cX12_isDigit 1 (Option.some FieldType.boolean)) ({ frames := 1, cells := 0, slots := 0, locals := 60 }) (hPc G B S [.int v0] (w_X12_isDigit q S v0)) (hQ G B (iP q)) (0) (0) (fun r => B ≤ r) := by
  refine hMet (rm := { frames := 1, cells := 0, slots := 0, locals := 60 }) (lv := [some (.int v0)]) (own := RX12) (fr := 1) (lo := 60) (by decide) rfl rfl rfl (Nat.le_of_ble_eq_true rfl) rfl (fun hw p e R s m args below meth c hC hr hlk hnm => ?_)
  unfold w_X12_isDigit at hw
  refine z_iload_n hC dX12_isDigit_0 rfl rfl ?_
  refine z_bipush hC bi_48 dX12_isDigit_1 ?_
  refine z_icmp_lt (tgt := 16) hC dX12_isDigit_3 (by decide) (fun c3 => ?_) (fun c3 => ?_)
  · have hw := hw.1 c3
    refine z_iconst hC ic_0 dX12_isDigit_16 ?_
    exact z_zret hC hr hlk (hz01 (Or.inl rfl)).1 dX12_isDigit_17 ⟨_, rfl, hw⟩
  · have hw := hw.2 c3
    refine z_iload_n hC dX12_isDigit_6 rfl rfl ?_
    refine z_bipush hC bi_57 dX12_isDigit_7 ?_
    refine z_icmp_gt (tgt := 16) hC dX12_isDigit_9 (by decide) (fun c9 => ?_) (fun c9 => ?_)
    · have hw := hw.1 c9
      refine z_iconst hC ic_0 dX12_isDigit_16 ?_
      exact z_zret hC hr hlk (hz01 (Or.inl rfl)).1 dX12_isDigit_17 ⟨_, rfl, hw⟩
    · have hw := hw.2 c9
      refine z_iconst hC ic_1 dX12_isDigit_12 ?_
      refine z_goto (tgt := 17) hC dX12_isDigit_13 (by decide) ?_
      exact z_zret hC hr hlk (hz01 (Or.inr rfl)).1 dX12_isDigit_17 ⟨_, rfl, hw⟩
end
