section
variable {p : Program} {l : Launch} {e : Env} {R : Room} {s : State} {m : MethodId} {args : Array Value} {below : List Frame} {meth : Method} {c : Code} {G : hG} {B mc ms : Nat}
def w_X12_clue (q : Int32 → hS → Prop) (S : hS) (v0 : Nat) (v1 : Int32) (v2 : Int32) : Prop := pI S v0 12 0 0 (fun S => w_X12_in (fun x11 S => (¬ x11 = 0 → oK S v0 12 ∧ w_X12_isHouse (fun x25 S => (¬ x25 = 0 → gP S v0 12 3 (fun x39 => aI S x39 2 (fun x43 => (¬ x43 = 6 → gP S v0 12 3 (fun x59 => sI S x59 (170 + (2 * x43)) v1 (fun S => gP S v0 12 3 (fun x72 => sI S x72 ((170 + (2 * x43)) + 1) v2 (fun S => gP S v0 12 3 (fun x87 => aI S x87 2 (fun x92 => sI S x87 2 (x92 + 1) (fun S => oK S v0 12 ∧ w_X12_tell (fun x100 S => q x100 S) S v0 (x43 + 1))))))))) ∧ (x43 = 6 → oK S v0 12 ∧ w_X12_tell (fun x54 S => q x54 S) S v0 (-5))))) ∧ (x25 = 0 → oK S v0 12 ∧ w_X12_tell (fun x34 S => q x34 S) S v0 (-2))) S v0 v1) ∧ (x11 = 0 → oK S v0 12 ∧ w_X12_tell (fun x19 S => q x19 S) S v0 (-1))) S (Int32.toInt64 v2) 0 99)
set_option maxRecDepth 100000 in
set_option maxHeartbeats 4000000 in
theorem c_X12_clue (l : Launch) (G : hG) (B : Nat) (S : hS) (v0 : Nat) (v1 : Int32) (v2 : Int32) (q : Int32 → hS → Prop) : Met l yX12_clue (hws yX12_clue cX12_clue 4 (Option.some FieldType.int)) ({ frames := 3, cells := 0, slots := 0, locals := 106 }) (hPc G B S [.ref v0, .int v1, .int v2] (w_X12_clue q S v0 v1 v2)) (hQ G B (iP q)) (0) (0) (fun r => B ≤ r) := by
  refine hMet (rm := { frames := 3, cells := 0, slots := 0, locals := 106 }) (lv := [some (.ref v0), some (.int v1), some (.int v2), none]) (own := RX12) (fr := 3) (lo := 106) (by decide) rfl rfl rfl (Nat.le_of_ble_eq_true rfl) rfl (fun hw p e R s m args below meth c hC hr hlk hnm => ?_)
  unfold w_X12_clue at hw
  refine z_aload_n hC dX12_clue_0 rfl rfl ?_
  refine z_iconst hC ic_0 dX12_clue_1 ?_
  refine z_putI hC FX12 0 lk_1355 dX12_clue_2 (by decide) rfl rfl hw (fun S hw => ?_)
  refine z_iload_n hC dX12_clue_5 rfl rfl ?_
  refine z_i2l hC rfl dX12_clue_6 ?_
  refine z_lconst hC lc_0 dX12_clue_7 ?_
  refine z_ldc2 hC lk_1575 dX12_clue_8 ?_
  refine z_callS (ku' := 0) (kv' := 0) (n := 3) (As := [.long (Int32.toInt64 v2), .long 0, .long 99]) (st := []) hC (c_X12_in l G B S (Int32.toInt64 v2) 0 99 _) hw lk_1556 lk_1557 lk_133 lk_1558 hd_X12_in rfl rfl (Nat.le_of_ble_eq_true rfl) (Nat.le_of_ble_eq_true rfl) rfl (Nat.le_of_ble_eq_true rfl) dX12_clue_11 (Nat.le_refl 0) (Nat.le_refl 0) (kI (fun x11 S hw => ?_))
  refine z_if_ne (tgt := 23) hC dX12_clue_14 (by decide) (fun c14 => ?_) (fun c14 => ?_)
  · have hw := hw.1 c14
    refine z_aload_n hC dX12_clue_23 rfl rfl ?_
    refine z_iload_n hC dX12_clue_24 rfl rfl ?_
    refine z_callV (ku' := 0) (kv' := 0) (n := 1) (As := [.int v1]) (st := []) hC (c_X12_isHouse l G B S v0 v1 _) hw.2 hw.1 rfl lk_1580 lk_1582 lk_44 lk_133 lk_1583 hd_X12_isHouse rfl rfl (Nat.le_of_ble_eq_true rfl) (Nat.le_of_ble_eq_true rfl) rfl (Nat.le_of_ble_eq_true rfl) dX12_clue_25 (Nat.le_refl 0) (Nat.le_refl 0) (kI (fun x25 S hw => ?_))
    refine z_if_ne (tgt := 38) hC dX12_clue_28 (by decide) (fun c28 => ?_) (fun c28 => ?_)
    · have hw := hw.1 c28
      refine z_aload_n hC dX12_clue_38 rfl rfl ?_
      refine z_getP hC FX12 3 lk_1358 dX12_clue_39 (by decide) hw (fun x39 hw => ?_)
      refine z_iconst hC ic_2 dX12_clue_42 ?_
      refine z_aldI hC dX12_clue_43 hw (fun x43 hw => ?_)
      refine z_istore_n (i := 3) (lv' := [some (.ref v0), some (.int v1), some (.int v2), some (.int x43)]) hC rfl dX12_clue_44 (by decide) (hok_v rfl rfl) rfl ?_
      refine z_iload_n hC dX12_clue_45 rfl rfl ?_
      refine z_bipush hC bi_6 dX12_clue_46 ?_
      refine z_icmp_ne (tgt := 58) hC dX12_clue_48 (by decide) (fun c48 => ?_) (fun c48 => ?_)
      · have hw := hw.1 c48
        refine z_aload_n hC dX12_clue_58 rfl rfl ?_
        refine z_getP hC FX12 3 lk_1358 dX12_clue_59 (by decide) hw (fun x59 hw => ?_)
        refine z_sipush hC si_170 dX12_clue_62 ?_
        refine z_iconst hC ic_2 dX12_clue_65 ?_
        refine z_iload_n hC dX12_clue_66 rfl rfl ?_
        refine z_imul hC dX12_clue_67 ?_
        refine z_iadd hC dX12_clue_68 ?_
        refine z_iload_n hC dX12_clue_69 rfl rfl ?_
        refine z_astI hC dX12_clue_70 hw (fun S hw => ?_)
        refine z_aload_n hC dX12_clue_71 rfl rfl ?_
        refine z_getP hC FX12 3 lk_1358 dX12_clue_72 (by decide) hw (fun x72 hw => ?_)
        refine z_sipush hC si_170 dX12_clue_75 ?_
        refine z_iconst hC ic_2 dX12_clue_78 ?_
        refine z_iload_n hC dX12_clue_79 rfl rfl ?_
        refine z_imul hC dX12_clue_80 ?_
        refine z_iadd hC dX12_clue_81 ?_
        refine z_iconst hC ic_1 dX12_clue_82 ?_
        refine z_iadd hC dX12_clue_83 ?_
        refine z_iload_n hC dX12_clue_84 rfl rfl ?_
        refine z_astI hC dX12_clue_85 hw (fun S hw => ?_)
        refine z_aload_n hC dX12_clue_86 rfl rfl ?_
        refine z_getP hC FX12 3 lk_1358 dX12_clue_87 (by decide) hw (fun x87 hw => ?_)
        refine z_iconst hC ic_2 dX12_clue_90 ?_
        refine z_dup2_11 hC rfl rfl dX12_clue_91 ?_
        refine z_aldI hC dX12_clue_92 hw (fun x92 hw => ?_)
        refine z_iconst hC ic_1 dX12_clue_93 ?_
        refine z_iadd hC dX12_clue_94 ?_
        refine z_astI hC dX12_clue_95 hw (fun S hw => ?_)
        refine z_aload_n hC dX12_clue_96 rfl rfl ?_
        refine z_iload_n hC dX12_clue_97 rfl rfl ?_
        refine z_iconst hC ic_1 dX12_clue_98 ?_
        refine z_iadd hC dX12_clue_99 ?_
        refine z_callV (ku' := 0) (kv' := 0) (n := 1) (As := [.int (x43 + 1)]) (st := []) hC (c_X12_tell l G B S v0 (x43 + 1) _) hw.2 hw.1 rfl lk_1544 lk_1546 lk_41 lk_133 lk_1547 hd_X12_tell rfl rfl (Nat.le_of_ble_eq_true rfl) (Nat.le_of_ble_eq_true rfl) rfl (Nat.le_of_ble_eq_true rfl) dX12_clue_100 (Nat.le_refl 0) (Nat.le_refl 0) (kI (fun x100 S hw => ?_))
        exact z_iret hC hr hlk dX12_clue_103 ⟨_, rfl, hw⟩
      · have hw := hw.2 c48
        refine z_aload_n hC dX12_clue_51 rfl rfl ?_
        refine z_bipush hC bi_m5 dX12_clue_52 ?_
        refine z_callV (ku' := 0) (kv' := 0) (n := 1) (As := [.int (-5)]) (st := []) hC (c_X12_tell l G B S v0 (-5) _) hw.2 hw.1 rfl lk_1544 lk_1546 lk_41 lk_133 lk_1547 hd_X12_tell rfl rfl (Nat.le_of_ble_eq_true rfl) (Nat.le_of_ble_eq_true rfl) rfl (Nat.le_of_ble_eq_true rfl) dX12_clue_54 (Nat.le_refl 0) (Nat.le_refl 0) (kI (fun x54 S hw => ?_))
        exact z_iret hC hr hlk dX12_clue_57 ⟨_, rfl, hw⟩
    · have hw := hw.2 c28
      refine z_aload_n hC dX12_clue_31 rfl rfl ?_
      refine z_bipush hC bi_m2 dX12_clue_32 ?_
      refine z_callV (ku' := 0) (kv' := 0) (n := 1) (As := [.int (-2)]) (st := []) hC (c_X12_tell l G B S v0 (-2) _) hw.2 hw.1 rfl lk_1544 lk_1546 lk_41 lk_133 lk_1547 hd_X12_tell rfl rfl (Nat.le_of_ble_eq_true rfl) (Nat.le_of_ble_eq_true rfl) rfl (Nat.le_of_ble_eq_true rfl) dX12_clue_34 (Nat.le_refl 0) (Nat.le_refl 0) (kI (fun x34 S hw => ?_))
      exact z_iret hC hr hlk dX12_clue_37 ⟨_, rfl, hw⟩
  · have hw := hw.2 c14
    refine z_aload_n hC dX12_clue_17 rfl rfl ?_
    refine z_iconst hC ic_m1 dX12_clue_18 ?_
    refine z_callV (ku' := 0) (kv' := 0) (n := 1) (As := [.int (-1)]) (st := []) hC (c_X12_tell l G B S v0 (-1) _) hw.2 hw.1 rfl lk_1544 lk_1546 lk_41 lk_133 lk_1547 hd_X12_tell rfl rfl (Nat.le_of_ble_eq_true rfl) (Nat.le_of_ble_eq_true rfl) rfl (Nat.le_of_ble_eq_true rfl) dX12_clue_19 (Nat.le_refl 0) (Nat.le_refl 0) (kI (fun x19 S hw => ?_))
    exact z_iret hC hr hlk dX12_clue_22 ⟨_, rfl, hw⟩
end
section
variable {p : Program} {l : Launch} {e : Env} {R : Room} {s : State} {m : MethodId} {args : Array Value} {below : List Frame} {meth : Method} {c : Code} {G : hG} {B mc ms : Nat}
def w_X12_forget (q : Int32 → hS → Prop) (S : hS) (v0 : Nat) : Prop := pI S v0 12 0 0 (fun S => gP S v0 12 3 (fun x6 => aI S x6 2 (fun x10 => gP S v0 12 3 (fun x13 => sI S x13 2 0 (fun S => q x10 S)))))
set_option maxRecDepth 100000 in
set_option maxHeartbeats 4000000 in
theorem c_X12_forget (l : Launch) (G : hG) (B : Nat) (S : hS) (v0 : Nat) (q : Int32 → hS → Prop) : Met l yX12_forget (hws yX12_forget cX12_forget 2 (Option.some FieldType.int)) ({ frames := 1, cells := 0, slots := 0, locals := 60 }) (hPc G B S [.ref v0] (w_X12_forget q S v0)) (hQ G B (iP q)) (0) (0) (fun r => B ≤ r) := by
  refine hMet (rm := { frames := 1, cells := 0, slots := 0, locals := 60 }) (lv := [some (.ref v0), none]) (own := RX12) (fr := 1) (lo := 60) (by decide) rfl rfl rfl (Nat.le_of_ble_eq_true rfl) rfl (fun hw p e R s m args below meth c hC hr hlk hnm => ?_)
  unfold w_X12_forget at hw
  refine z_aload_n hC dX12_forget_0 rfl rfl ?_
  refine z_iconst hC ic_0 dX12_forget_1 ?_
  refine z_putI hC FX12 0 lk_1355 dX12_forget_2 (by decide) rfl rfl hw (fun S hw => ?_)
  refine z_aload_n hC dX12_forget_5 rfl rfl ?_
  refine z_getP hC FX12 3 lk_1358 dX12_forget_6 (by decide) hw (fun x6 hw => ?_)
  refine z_iconst hC ic_2 dX12_forget_9 ?_
  refine z_aldI hC dX12_forget_10 hw (fun x10 hw => ?_)
  refine z_istore_n (i := 1) (lv' := [some (.ref v0), some (.int x10)]) hC rfl dX12_forget_11 (by decide) (hok_v rfl rfl) rfl ?_
  refine z_aload_n hC dX12_forget_12 rfl rfl ?_
  refine z_getP hC FX12 3 lk_1358 dX12_forget_13 (by decide) hw (fun x13 hw => ?_)
  refine z_iconst hC ic_2 dX12_forget_16 ?_
  refine z_iconst hC ic_0 dX12_forget_17 ?_
  refine z_astI hC dX12_forget_18 hw (fun S hw => ?_)
  refine z_iload_n hC dX12_forget_19 rfl rfl ?_
  exact z_iret hC hr hlk dX12_forget_20 ⟨_, rfl, hw⟩
end
section
variable {p : Program} {l : Launch} {e : Env} {R : Room} {s : State} {m : MethodId} {args : Array Value} {below : List Frame} {meth : Method} {c : Code} {G : hG} {B mc ms : Nat}
def w_X12_timesTold_b36 (q : Int32 → hS → Prop) (K4 : hS → (Nat) → (Int32) → (Int32) → (Int32) → Prop) (S : hS) (v0 : Nat) (v1 : Int32) (v3 : Int32) (t0 : Int32) (t1 : Int32) : Prop := ∀ y37 : Int32, y37 = (t1 + t0) → ∀ y38 : Int32, y38 = v3 + 1 → K4 S v0 v1 y37 y38
set_option maxRecDepth 100000 in
set_option maxHeartbeats 4000000 in
theorem t_X12_timesTold_b36 (hC : zC p R s m args c cX12_timesTold 4 RX12 G B mc ms 1 60) (hr : meth.sig.returnType = (Option.some FieldType.int)) (hlk : meth.locks = false) (hnm : meth.name = "timesTold") {q : Int32 → hS → Prop} {K4 : hS → (Nat) → (Int32) → (Int32) → (Int32) → Prop} (hK4 : ∀ {S : hS} {v0 : Nat} {v1 : Int32} {v2 : Int32} {v3 : Int32}, K4 S v0 v1 v2 v3 → Z p l e R s m args below meth c (MQ below (hQ G B (iP q)) args s mc ms (fun r => B ≤ r)) G B mc ms 4 S 0 0 4 [some (.ref v0), some (.int v1), some (.int v2), some (.int v3)] []) {S : hS} {v0 : Nat} {v1 : Int32} {v3 : Int32} {t0 : Int32} {t1 : Int32} (hw : w_X12_timesTold_b36 q K4 S v0 v1 v3 t0 t1) : Z p l e R s m args below meth c (MQ below (hQ G B (iP q)) args s mc ms (fun r => B ≤ r)) G B mc ms 4 S 0 0 36 [some (.ref v0), some (.int v1), none, some (.int v3)] [.int t0, .int t1] := by
  unfold w_X12_timesTold_b36 at hw
  refine z_iadd hC dX12_timesTold_36 ?_
  refine z_nmI (fun y37 e37 => ?_)
  have hw := hw y37 e37
  refine z_istore_n (i := 2) (lv' := [some (.ref v0), some (.int v1), some (.int y37), some (.int v3)]) hC rfl dX12_timesTold_37 (by decide) (hok_v rfl rfl) rfl ?_
  refine z_inc (i := 3) hC ic_1 dX12_timesTold_38 rfl (by decide) (hok_v rfl rfl) (fun y38 e38 => ?_)
  have hw := hw y38 e38
  refine z_goto (tgt := 4) hC dX12_timesTold_41 (by decide) ?_
  refine z_mask (lv' := [some (.ref v0), some (.int v1), some (.int y37), some (.int y38)]) [true, true, true, true] rfl ?_
  exact hK4 hw
def w_X12_timesTold_b4 (q : Int32 → hS → Prop) : Nat → hS → (Nat) → (Int32) → (Int32) → (Int32) → Prop
  | 0, _, _, _, _, _ => False
  | n + 1, S, v0, v1, v2, v3 => gP S v0 12 3 (fun x6 => aI S x6 2 (fun x10 => (x10 ≤ v3 → q v2 S) ∧ (¬ x10 ≤ v3 → gP S v0 12 3 (fun x16 => aI S x16 (170 + (2 * v3)) (fun x26 => (¬ x26 = v1 → w_X12_timesTold_b36 q (fun S v0 v1 v2 v3 => w_X12_timesTold_b4 q n S v0 v1 v2 v3) S v0 v1 v3 0 v2) ∧ (x26 = v1 → w_X12_timesTold_b36 q (fun S v0 v1 v2 v3 => w_X12_timesTold_b4 q n S v0 v1 v2 v3) S v0 v1 v3 1 v2))))))
set_option maxRecDepth 100000 in
set_option maxHeartbeats 4000000 in
theorem t_X12_timesTold_b4 (hC : zC p R s m args c cX12_timesTold 4 RX12 G B mc ms 1 60) (hr : meth.sig.returnType = (Option.some FieldType.int)) (hlk : meth.locks = false) (hnm : meth.name = "timesTold") {q : Int32 → hS → Prop} (n : Nat) : ∀ {S : hS} {v0 : Nat} {v1 : Int32} {v2 : Int32} {v3 : Int32} (hw : w_X12_timesTold_b4 q n S v0 v1 v2 v3), Z p l e R s m args below meth c (MQ below (hQ G B (iP q)) args s mc ms (fun r => B ≤ r)) G B mc ms 4 S 0 0 4 [some (.ref v0), some (.int v1), some (.int v2), some (.int v3)] [] := by
  induction n with
  | zero => intro S v0 v1 v2 v3 hw; exact (by rw [w_X12_timesTold_b4] at hw; exact hw.elim)
  | succ n ih =>
    intro S v0 v1 v2 v3 hw
    rw [w_X12_timesTold_b4] at hw
    refine z_iload_n hC dX12_timesTold_4 rfl rfl ?_
    refine z_aload_n hC dX12_timesTold_5 rfl rfl ?_
    refine z_getP hC FX12 3 lk_1358 dX12_timesTold_6 (by decide) hw (fun x6 hw => ?_)
    refine z_iconst hC ic_2 dX12_timesTold_9 ?_
    refine z_aldI hC dX12_timesTold_10 hw (fun x10 hw => ?_)
    refine z_icmp_ge (tgt := 44) hC dX12_timesTold_11 (by decide) (fun c11 => ?_) (fun c11 => ?_)
    · have hw := hw.1 c11
      refine z_iload_n hC dX12_timesTold_44 rfl rfl ?_
      exact z_iret hC hr hlk dX12_timesTold_45 ⟨_, rfl, hw⟩
    · have hw := hw.2 c11
      refine z_iload_n hC dX12_timesTold_14 rfl rfl ?_
      refine z_aload_n hC dX12_timesTold_15 rfl rfl ?_
      refine z_getP hC FX12 3 lk_1358 dX12_timesTold_16 (by decide) hw (fun x16 hw => ?_)
      refine z_sipush hC si_170 dX12_timesTold_19 ?_
      refine z_iconst hC ic_2 dX12_timesTold_22 ?_
      refine z_iload_n hC dX12_timesTold_23 rfl rfl ?_
      refine z_imul hC dX12_timesTold_24 ?_
      refine z_iadd hC dX12_timesTold_25 ?_
      refine z_aldI hC dX12_timesTold_26 hw (fun x26 hw => ?_)
      refine z_iload_n hC dX12_timesTold_27 rfl rfl ?_
      refine z_icmp_ne (tgt := 35) hC dX12_timesTold_28 (by decide) (fun c28 => ?_) (fun c28 => ?_)
      · have hw := hw.1 c28
        refine z_iconst hC ic_0 dX12_timesTold_35 ?_
        refine z_mask (lv' := [some (.ref v0), some (.int v1), none, some (.int v3)]) [true, true, false, true] rfl ?_
        exact t_X12_timesTold_b36 hC hr hlk hnm (fun hw => ih hw) hw
      · have hw := hw.2 c28
        refine z_iconst hC ic_1 dX12_timesTold_31 ?_
        refine z_goto (tgt := 36) hC dX12_timesTold_32 (by decide) ?_
        refine z_mask (lv' := [some (.ref v0), some (.int v1), none, some (.int v3)]) [true, true, false, true] rfl ?_
        exact t_X12_timesTold_b36 hC hr hlk hnm (fun hw => ih hw) hw
def w_X12_timesTold (q : Int32 → hS → Prop) (S : hS) (v0 : Nat) (v1 : Int32) : Prop := (∃ n4 : Nat, w_X12_timesTold_b4 q n4 S v0 v1 0 0)
set_option maxRecDepth 100000 in
set_option maxHeartbeats 4000000 in
theorem c_X12_timesTold (l : Launch) (G : hG) (B : Nat) (S : hS) (v0 : Nat) (v1 : Int32) (q : Int32 → hS → Prop) : Met l yX12_timesTold (hws yX12_timesTold cX12_timesTold 4 (Option.some FieldType.int)) ({ frames := 1, cells := 0, slots := 0, locals := 60 }) (hPc G B S [.ref v0, .int v1] (w_X12_timesTold q S v0 v1)) (hQ G B (iP q)) (0) (0) (fun r => B ≤ r) := by
  refine hMet (rm := { frames := 1, cells := 0, slots := 0, locals := 60 }) (lv := [some (.ref v0), some (.int v1), none, none]) (own := RX12) (fr := 1) (lo := 60) (by decide) rfl rfl rfl (Nat.le_of_ble_eq_true rfl) rfl (fun hw p e R s m args below meth c hC hr hlk hnm => ?_)
  unfold w_X12_timesTold at hw
  refine z_iconst hC ic_0 dX12_timesTold_0 ?_
  refine z_istore_n (i := 2) (lv' := [some (.ref v0), some (.int v1), some (.int 0), none]) hC rfl dX12_timesTold_1 (by decide) (hok_v rfl rfl) rfl ?_
  refine z_iconst hC ic_0 dX12_timesTold_2 ?_
  refine z_istore_n (i := 3) (lv' := [some (.ref v0), some (.int v1), some (.int 0), some (.int 0)]) hC rfl dX12_timesTold_3 (by decide) (hok_v rfl rfl) rfl ?_
  refine z_mask (lv' := [some (.ref v0), some (.int v1), some (.int 0), some (.int 0)]) [true, true, true, true] rfl ?_
  obtain ⟨n4, hw⟩ := hw
  exact t_X12_timesTold_b4 hC hr hlk hnm n4 hw
end
section
variable {p : Program} {l : Launch} {e : Env} {R : Room} {s : State} {m : MethodId} {args : Array Value} {below : List Frame} {meth : Method} {c : Code} {G : hG} {B mc ms : Nat}
def w_X12_canHaveRung_b103 (q : Int32 → hS → Prop) (K20 : hS → (Nat) → (Int32) → (Int32) → (Int32) → (Int32) → Prop) (S : hS) (v0 : Nat) (v1 : Int32) (v4 : Int32) (v5 : Int32) (t0 : Int32) : Prop := gP S v0 12 3 (fun x105 => aI S x105 (126 + v5) (fun x113 => ∀ y115 : Int32, y115 = v4 + 1 → K20 S v0 v1 t0 x113 y115))
set_option maxRecDepth 100000 in
set_option maxHeartbeats 4000000 in
theorem t_X12_canHaveRung_b103 (hC : zC p R s m args c cX12_canHaveRung 6 RX12 G B mc ms 3 104) (hr : meth.sig.returnType = (Option.some FieldType.boolean)) (hlk : meth.locks = false) (hnm : meth.name = "canHaveRung") {q : Int32 → hS → Prop} {K20 : hS → (Nat) → (Int32) → (Int32) → (Int32) → (Int32) → Prop} (hK20 : ∀ {S : hS} {v0 : Nat} {v1 : Int32} {v2 : Int32} {v3 : Int32} {v4 : Int32}, K20 S v0 v1 v2 v3 v4 → Z p l e R s m args below meth c (MQ below (hQ G B (iP q)) args s mc ms (fun r => B ≤ r)) G B mc ms 6 S 0 0 20 [some (.ref v0), some (.int v1), some (.int v2), some (.int v3), some (.int v4), none] []) {S : hS} {v0 : Nat} {v1 : Int32} {v4 : Int32} {v5 : Int32} {t0 : Int32} (hw : w_X12_canHaveRung_b103 q K20 S v0 v1 v4 v5 t0) : Z p l e R s m args below meth c (MQ below (hQ G B (iP q)) args s mc ms (fun r => B ≤ r)) G B mc ms 6 S 0 0 103 [some (.ref v0), some (.int v1), none, none, some (.int v4), some (.int v5)] [.int t0] := by
  unfold w_X12_canHaveRung_b103 at hw
  refine z_istore_n (i := 2) (lv' := [some (.ref v0), some (.int v1), some (.int t0), none, some (.int v4), some (.int v5)]) hC rfl dX12_canHaveRung_103 (by decide) (hok_v rfl rfl) rfl ?_
  refine z_aload_n hC dX12_canHaveRung_104 rfl rfl ?_
  refine z_getP hC FX12 3 lk_1358 dX12_canHaveRung_105 (by decide) hw (fun x105 hw => ?_)
  refine z_bipush hC bi_126 dX12_canHaveRung_108 ?_
  refine z_iload hC dX12_canHaveRung_110 rfl ?_
  refine z_iadd hC dX12_canHaveRung_112 ?_
  refine z_aldI hC dX12_canHaveRung_113 hw (fun x113 hw => ?_)
  refine z_istore_n (i := 3) (lv' := [some (.ref v0), some (.int v1), some (.int t0), some (.int x113), some (.int v4), some (.int v5)]) hC rfl dX12_canHaveRung_114 (by decide) (hok_v rfl rfl) rfl ?_
  refine z_inc (i := 4) hC ic_1 dX12_canHaveRung_115 rfl (by decide) (hok_v rfl rfl) (fun y115 e115 => ?_)
  have hw := hw y115 e115
  refine z_goto (tgt := 20) hC dX12_canHaveRung_118 (by decide) ?_
  refine z_mask (lv' := [some (.ref v0), some (.int v1), some (.int t0), some (.int x113), some (.int y115), none]) [true, true, true, true, true, false] rfl ?_
  exact hK20 hw
def w_X12_canHaveRung_b102 (q : Int32 → hS → Prop) (K20 : hS → (Nat) → (Int32) → (Int32) → (Int32) → (Int32) → Prop) (S : hS) (v0 : Nat) (v1 : Int32) (v4 : Int32) (v5 : Int32) : Prop := w_X12_canHaveRung_b103 q K20 S v0 v1 v4 v5 0
set_option maxRecDepth 100000 in
set_option maxHeartbeats 4000000 in
theorem t_X12_canHaveRung_b102 (hC : zC p R s m args c cX12_canHaveRung 6 RX12 G B mc ms 3 104) (hr : meth.sig.returnType = (Option.some FieldType.boolean)) (hlk : meth.locks = false) (hnm : meth.name = "canHaveRung") {q : Int32 → hS → Prop} {K20 : hS → (Nat) → (Int32) → (Int32) → (Int32) → (Int32) → Prop} (hK20 : ∀ {S : hS} {v0 : Nat} {v1 : Int32} {v2 : Int32} {v3 : Int32} {v4 : Int32}, K20 S v0 v1 v2 v3 v4 → Z p l e R s m args below meth c (MQ below (hQ G B (iP q)) args s mc ms (fun r => B ≤ r)) G B mc ms 6 S 0 0 20 [some (.ref v0), some (.int v1), some (.int v2), some (.int v3), some (.int v4), none] []) {S : hS} {v0 : Nat} {v1 : Int32} {v4 : Int32} {v5 : Int32} (hw : w_X12_canHaveRung_b102 q K20 S v0 v1 v4 v5) : Z p l e R s m args below meth c (MQ below (hQ G B (iP q)) args s mc ms (fun r => B ≤ r)) G B mc ms 6 S 0 0 102 [some (.ref v0), some (.int v1), none, none, some (.int v4), some (.int v5)] [] := by
  unfold w_X12_canHaveRung_b102 at hw
  refine z_iconst hC ic_0 dX12_canHaveRung_102 ?_
  refine z_mask (lv' := [some (.ref v0), some (.int v1), none, none, some (.int v4), some (.int v5)]) [true, true, false, false, true, true] rfl ?_
  exact t_X12_canHaveRung_b103 hC hr hlk hnm hK20 hw
def w_X12_canHaveRung_b20 (q : Int32 → hS → Prop) : Nat → hS → (Nat) → (Int32) → (Int32) → (Int32) → (Int32) → Prop
  | 0, _, _, _, _, _, _ => False
  | n + 1, S, v0, v1, v2, v3, v4 => gP S v0 12 3 (fun x23 => aI S x23 2 (fun x27 => (x27 ≤ v4 → (v2 = 0 ∨ v2 = 1) ∧ q v2 S) ∧ (¬ x27 ≤ v4 → gP S v0 12 3 (fun x32 => aI S x32 (170 + (2 * v4)) (fun x43 => (v2 = 0 → w_X12_canHaveRung_b102 q (fun S v0 v1 v2 v3 v4 => w_X12_canHaveRung_b20 q n S v0 v1 v2 v3 v4) S v0 v1 v4 x43) ∧ (¬ v2 = 0 → gP S v0 12 3 (fun x52 => aI S x52 (126 + x43) (fun x60 => w_X12_stepsOf (fun x61 S => gP S v0 12 3 (fun x65 => aI S x65 ((170 + (2 * v4)) + 1) (fun x78 => (x78 < x61 → w_X12_canHaveRung_b102 q (fun S v0 v1 v2 v3 v4 => w_X12_canHaveRung_b20 q n S v0 v1 v2 v3 v4) S v0 v1 v4 x43) ∧ (¬ x78 < x61 → oK S v0 12 ∧ w_X12_leftOf (fun x86 S => oK S v0 12 ∧ w_X12_timesTold (fun x92 S => (x86 < x92 → w_X12_canHaveRung_b102 q (fun S v0 v1 v2 v3 v4 => w_X12_canHaveRung_b20 q n S v0 v1 v2 v3 v4) S v0 v1 v4 x43) ∧ (¬ x86 < x92 → w_X12_canHaveRung_b103 q (fun S v0 v1 v2 v3 v4 => w_X12_canHaveRung_b20 q n S v0 v1 v2 v3 v4) S v0 v1 v4 x43 1)) S v0 x43) S v0 v1 x43)))) S v3 x60))))))))
set_option maxRecDepth 100000 in
set_option maxHeartbeats 4000000 in
theorem t_X12_canHaveRung_b20 (hC : zC p R s m args c cX12_canHaveRung 6 RX12 G B mc ms 3 104) (hr : meth.sig.returnType = (Option.some FieldType.boolean)) (hlk : meth.locks = false) (hnm : meth.name = "canHaveRung") {q : Int32 → hS → Prop} (n : Nat) : ∀ {S : hS} {v0 : Nat} {v1 : Int32} {v2 : Int32} {v3 : Int32} {v4 : Int32} (hw : w_X12_canHaveRung_b20 q n S v0 v1 v2 v3 v4), Z p l e R s m args below meth c (MQ below (hQ G B (iP q)) args s mc ms (fun r => B ≤ r)) G B mc ms 6 S 0 0 20 [some (.ref v0), some (.int v1), some (.int v2), some (.int v3), some (.int v4), none] [] := by
  induction n with
  | zero => intro S v0 v1 v2 v3 v4 hw; exact (by rw [w_X12_canHaveRung_b20] at hw; exact hw.elim)
  | succ n ih =>
    intro S v0 v1 v2 v3 v4 hw
    rw [w_X12_canHaveRung_b20] at hw
    refine z_iload hC dX12_canHaveRung_20 rfl ?_
    refine z_aload_n hC dX12_canHaveRung_22 rfl rfl ?_
    refine z_getP hC FX12 3 lk_1358 dX12_canHaveRung_23 (by decide) hw (fun x23 hw => ?_)
    refine z_iconst hC ic_2 dX12_canHaveRung_26 ?_
    refine z_aldI hC dX12_canHaveRung_27 hw (fun x27 hw => ?_)
    refine z_icmp_ge (tgt := 121) hC dX12_canHaveRung_28 (by decide) (fun c28 => ?_) (fun c28 => ?_)
    · have hw := hw.1 c28
      refine z_iload_n hC dX12_canHaveRung_121 rfl rfl ?_
      exact z_zret hC hr hlk (hz01 hw.1).1 dX12_canHaveRung_122 ⟨_, rfl, hw.2⟩
    · have hw := hw.2 c28
      refine z_aload_n hC dX12_canHaveRung_31 rfl rfl ?_
      refine z_getP hC FX12 3 lk_1358 dX12_canHaveRung_32 (by decide) hw (fun x32 hw => ?_)
      refine z_sipush hC si_170 dX12_canHaveRung_35 ?_
      refine z_iconst hC ic_2 dX12_canHaveRung_38 ?_
      refine z_iload hC dX12_canHaveRung_39 rfl ?_
      refine z_imul hC dX12_canHaveRung_41 ?_
      refine z_iadd hC dX12_canHaveRung_42 ?_
      refine z_aldI hC dX12_canHaveRung_43 hw (fun x43 hw => ?_)
      refine z_istore (i := 5) (lv' := [some (.ref v0), some (.int v1), some (.int v2), some (.int v3), some (.int v4), some (.int x43)]) hC dX12_canHaveRung_44 (by decide) (hok_v rfl rfl) rfl ?_
      refine z_iload_n hC dX12_canHaveRung_46 rfl rfl ?_
      refine z_if_eq (tgt := 102) hC dX12_canHaveRung_47 (by decide) (fun c47 => ?_) (fun c47 => ?_)
      · have hw := hw.1 c47
        refine z_mask (lv' := [some (.ref v0), some (.int v1), none, none, some (.int v4), some (.int x43)]) [true, true, false, false, true, true] rfl ?_
        exact t_X12_canHaveRung_b102 hC hr hlk hnm (fun hw => ih hw) hw
      · have hw := hw.2 c47
        refine z_iload_n hC dX12_canHaveRung_50 rfl rfl ?_
        refine z_aload_n hC dX12_canHaveRung_51 rfl rfl ?_
        refine z_getP hC FX12 3 lk_1358 dX12_canHaveRung_52 (by decide) hw (fun x52 hw => ?_)
        refine z_bipush hC bi_126 dX12_canHaveRung_55 ?_
        refine z_iload hC dX12_canHaveRung_57 rfl ?_
        refine z_iadd hC dX12_canHaveRung_59 ?_
        refine z_aldI hC dX12_canHaveRung_60 hw (fun x60 hw => ?_)
        refine z_callS (ku' := 0) (kv' := 0) (n := 2) (As := [.int v3, .int x60]) (st := []) hC (c_X12_stepsOf l G B S v3 x60 _) hw lk_1935 lk_1936 lk_133 lk_1937 hd_X12_stepsOf rfl rfl (Nat.le_of_ble_eq_true rfl) (Nat.le_of_ble_eq_true rfl) rfl (Nat.le_of_ble_eq_true rfl) dX12_canHaveRung_61 (Nat.le_refl 0) (Nat.le_refl 0) (kI (fun x61 S hw => ?_))
        refine z_aload_n hC dX12_canHaveRung_64 rfl rfl ?_
        refine z_getP hC FX12 3 lk_1358 dX12_canHaveRung_65 (by decide) hw (fun x65 hw => ?_)
        refine z_sipush hC si_170 dX12_canHaveRung_68 ?_
        refine z_iconst hC ic_2 dX12_canHaveRung_71 ?_
        refine z_iload hC dX12_canHaveRung_72 rfl ?_
        refine z_imul hC dX12_canHaveRung_74 ?_
        refine z_iadd hC dX12_canHaveRung_75 ?_
        refine z_iconst hC ic_1 dX12_canHaveRung_76 ?_
        refine z_iadd hC dX12_canHaveRung_77 ?_
        refine z_aldI hC dX12_canHaveRung_78 hw (fun x78 hw => ?_)
        refine z_icmp_gt (tgt := 102) hC dX12_canHaveRung_79 (by decide) (fun c79 => ?_) (fun c79 => ?_)
        · have hw := hw.1 c79
          refine z_mask (lv' := [some (.ref v0), some (.int v1), none, none, some (.int v4), some (.int x43)]) [true, true, false, false, true, true] rfl ?_
          exact t_X12_canHaveRung_b102 hC hr hlk hnm (fun hw => ih hw) hw
        · have hw := hw.2 c79
          refine z_aload_n hC dX12_canHaveRung_82 rfl rfl ?_
          refine z_iload_n hC dX12_canHaveRung_83 rfl rfl ?_
          refine z_iload hC dX12_canHaveRung_84 rfl ?_
          refine z_callV (ku' := 0) (kv' := 0) (n := 2) (As := [.int v1, .int x43]) (st := []) hC (c_X12_leftOf l G B S v0 v1 x43 _) hw.2 hw.1 rfl lk_1602 lk_1604 lk_49 lk_133 lk_1605 hd_X12_leftOf rfl rfl (Nat.le_of_ble_eq_true rfl) (Nat.le_of_ble_eq_true rfl) rfl (Nat.le_of_ble_eq_true rfl) dX12_canHaveRung_86 (Nat.le_refl 0) (Nat.le_refl 0) (kI (fun x86 S hw => ?_))
          refine z_aload_n hC dX12_canHaveRung_89 rfl rfl ?_
          refine z_iload hC dX12_canHaveRung_90 rfl ?_
          refine z_callV (ku' := 0) (kv' := 0) (n := 1) (As := [.int x43]) (st := [.int x86]) hC (c_X12_timesTold l G B S v0 x43 _) hw.2 hw.1 rfl lk_1974 lk_1976 lk_108 lk_133 lk_1977 hd_X12_timesTold rfl rfl (Nat.le_of_ble_eq_true rfl) (Nat.le_of_ble_eq_true rfl) rfl (Nat.le_of_ble_eq_true rfl) dX12_canHaveRung_92 (Nat.le_refl 0) (Nat.le_refl 0) (kI (fun x92 S hw => ?_))
          refine z_icmp_lt (tgt := 102) hC dX12_canHaveRung_95 (by decide) (fun c95 => ?_) (fun c95 => ?_)
          · have hw := hw.1 c95
            refine z_mask (lv' := [some (.ref v0), some (.int v1), none, none, some (.int v4), some (.int x43)]) [true, true, false, false, true, true] rfl ?_
            exact t_X12_canHaveRung_b102 hC hr hlk hnm (fun hw => ih hw) hw
          · have hw := hw.2 c95
            refine z_iconst hC ic_1 dX12_canHaveRung_98 ?_
            refine z_goto (tgt := 103) hC dX12_canHaveRung_99 (by decide) ?_
            refine z_mask (lv' := [some (.ref v0), some (.int v1), none, none, some (.int v4), some (.int x43)]) [true, true, false, false, true, true] rfl ?_
            exact t_X12_canHaveRung_b103 hC hr hlk hnm (fun hw => ih hw) hw
def w_X12_canHaveRung (q : Int32 → hS → Prop) (S : hS) (v0 : Nat) (v1 : Int32) : Prop := oK S v0 12 ∧ w_X12_lives (fun x2 S => gP S v0 12 3 (fun x7 => aI S x7 (138 + v1) (fun x15 => (∃ n20 : Nat, w_X12_canHaveRung_b20 q n20 S v0 v1 x2 x15 0)))) S v0 v1
set_option maxRecDepth 100000 in
set_option maxHeartbeats 4000000 in
theorem c_X12_canHaveRung (l : Launch) (G : hG) (B : Nat) (S : hS) (v0 : Nat) (v1 : Int32) (q : Int32 → hS → Prop) : Met l yX12_canHaveRung (hws yX12_canHaveRung cX12_canHaveRung 6 (Option.some FieldType.boolean)) ({ frames := 3, cells := 0, slots := 0, locals := 104 }) (hPc G B S [.ref v0, .int v1] (w_X12_canHaveRung q S v0 v1)) (hQ G B (iP q)) (0) (0) (fun r => B ≤ r) := by
  refine hMet (rm := { frames := 3, cells := 0, slots := 0, locals := 104 }) (lv := [some (.ref v0), some (.int v1), none, none, none, none]) (own := RX12) (fr := 3) (lo := 104) (by decide) rfl rfl rfl (Nat.le_of_ble_eq_true rfl) rfl (fun hw p e R s m args below meth c hC hr hlk hnm => ?_)
  unfold w_X12_canHaveRung at hw
  refine z_aload_n hC dX12_canHaveRung_0 rfl rfl ?_
  refine z_iload_n hC dX12_canHaveRung_1 rfl rfl ?_
  refine z_callV (ku' := 0) (kv' := 0) (n := 1) (As := [.int v1]) (st := []) hC (c_X12_lives l G B S v0 v1 _) hw.2 hw.1 rfl lk_1644 lk_1646 lk_56 lk_133 lk_1647 hd_X12_lives rfl rfl (Nat.le_of_ble_eq_true rfl) (Nat.le_of_ble_eq_true rfl) rfl (Nat.le_of_ble_eq_true rfl) dX12_canHaveRung_2 (Nat.le_refl 0) (Nat.le_refl 0) (kI (fun x2 S hw => ?_))
  refine z_istore_n (i := 2) (lv' := [some (.ref v0), some (.int v1), some (.int x2), none, none, none]) hC rfl dX12_canHaveRung_5 (by decide) (hok_v rfl rfl) rfl ?_
  refine z_aload_n hC dX12_canHaveRung_6 rfl rfl ?_
  refine z_getP hC FX12 3 lk_1358 dX12_canHaveRung_7 (by decide) hw (fun x7 hw => ?_)
  refine z_sipush hC si_138 dX12_canHaveRung_10 ?_
  refine z_iload_n hC dX12_canHaveRung_13 rfl rfl ?_
  refine z_iadd hC dX12_canHaveRung_14 ?_
  refine z_aldI hC dX12_canHaveRung_15 hw (fun x15 hw => ?_)
  refine z_istore_n (i := 3) (lv' := [some (.ref v0), some (.int v1), some (.int x2), some (.int x15), none, none]) hC rfl dX12_canHaveRung_16 (by decide) (hok_v rfl rfl) rfl ?_
  refine z_iconst hC ic_0 dX12_canHaveRung_17 ?_
  refine z_istore (i := 4) (lv' := [some (.ref v0), some (.int v1), some (.int x2), some (.int x15), some (.int 0), none]) hC dX12_canHaveRung_18 (by decide) (hok_v rfl rfl) rfl ?_
  refine z_mask (lv' := [some (.ref v0), some (.int v1), some (.int x2), some (.int x15), some (.int 0), none]) [true, true, true, true, true, false] rfl ?_
  obtain ⟨n20, hw⟩ := hw
  exact t_X12_canHaveRung_b20 hC hr hlk hnm n20 hw
end
section
variable {p : Program} {l : Launch} {e : Env} {R : Room} {s : State} {m : MethodId} {args : Array Value} {below : List Frame} {meth : Method} {c : Code} {G : hG} {B mc ms : Nat}
def w_X12_whoCan_b30 (q : Int32 → hS → Prop) (K4 : hS → (Nat) → (Int32) → (Int32) → Prop) (S : hS) (v0 : Nat) (v2 : Int32) (t0 : Int32) (t1 : Int32) : Prop := ∀ y31 : Int32, y31 = (t1 ||| t0) → ∀ y32 : Int32, y32 = v2 + 1 → K4 S v0 y31 y32
set_option maxRecDepth 100000 in
set_option maxHeartbeats 4000000 in
theorem t_X12_whoCan_b30 (hC : zC p R s m args c cX12_whoCan 3 RX12 G B mc ms 4 129) (hr : meth.sig.returnType = (Option.some FieldType.int)) (hlk : meth.locks = false) (hnm : meth.name = "whoCan") {q : Int32 → hS → Prop} {K4 : hS → (Nat) → (Int32) → (Int32) → Prop} (hK4 : ∀ {S : hS} {v0 : Nat} {v1 : Int32} {v2 : Int32}, K4 S v0 v1 v2 → Z p l e R s m args below meth c (MQ below (hQ G B (iP q)) args s mc ms (fun r => B ≤ r)) G B mc ms 3 S 0 0 4 [some (.ref v0), some (.int v1), some (.int v2)] []) {S : hS} {v0 : Nat} {v2 : Int32} {t0 : Int32} {t1 : Int32} (hw : w_X12_whoCan_b30 q K4 S v0 v2 t0 t1) : Z p l e R s m args below meth c (MQ below (hQ G B (iP q)) args s mc ms (fun r => B ≤ r)) G B mc ms 3 S 0 0 30 [some (.ref v0), none, some (.int v2)] [.int t0, .int t1] := by
  unfold w_X12_whoCan_b30 at hw
  refine z_ior hC dX12_whoCan_30 ?_
  refine z_nmI (fun y31 e31 => ?_)
  have hw := hw y31 e31
  refine z_istore_n (i := 1) (lv' := [some (.ref v0), some (.int y31), some (.int v2)]) hC rfl dX12_whoCan_31 (by decide) (hok_v rfl rfl) rfl ?_
  refine z_inc (i := 2) hC ic_1 dX12_whoCan_32 rfl (by decide) (hok_v rfl rfl) (fun y32 e32 => ?_)
  have hw := hw y32 e32
  refine z_goto (tgt := 4) hC dX12_whoCan_35 (by decide) ?_
  refine z_mask (lv' := [some (.ref v0), some (.int y31), some (.int y32)]) [true, true, true] rfl ?_
  exact hK4 hw
def w_X12_whoCan_b4 (q : Int32 → hS → Prop) : Nat → hS → (Nat) → (Int32) → (Int32) → Prop
  | 0, _, _, _, _ => False
  | n + 1, S, v0, v1, v2 => gP S v0 12 3 (fun x6 => aI S x6 1 (fun x10 => (x10 ≤ v2 → q v1 S) ∧ (¬ x10 ≤ v2 → oK S v0 12 ∧ w_X12_canHaveRung (fun x17 S => (x17 = 0 → w_X12_whoCan_b30 q (fun S v0 v1 v2 => w_X12_whoCan_b4 q n S v0 v1 v2) S v0 v2 0 v1) ∧ (¬ x17 = 0 → w_X12_whoCan_b30 q (fun S v0 v1 v2 => w_X12_whoCan_b4 q n S v0 v1 v2) S v0 v2 (1 <<< (v2 &&& 31)) v1)) S v0 v2)))
set_option maxRecDepth 100000 in
set_option maxHeartbeats 4000000 in
theorem t_X12_whoCan_b4 (hC : zC p R s m args c cX12_whoCan 3 RX12 G B mc ms 4 129) (hr : meth.sig.returnType = (Option.some FieldType.int)) (hlk : meth.locks = false) (hnm : meth.name = "whoCan") {q : Int32 → hS → Prop} (n : Nat) : ∀ {S : hS} {v0 : Nat} {v1 : Int32} {v2 : Int32} (hw : w_X12_whoCan_b4 q n S v0 v1 v2), Z p l e R s m args below meth c (MQ below (hQ G B (iP q)) args s mc ms (fun r => B ≤ r)) G B mc ms 3 S 0 0 4 [some (.ref v0), some (.int v1), some (.int v2)] [] := by
  induction n with
  | zero => intro S v0 v1 v2 hw; exact (by rw [w_X12_whoCan_b4] at hw; exact hw.elim)
  | succ n ih =>
    intro S v0 v1 v2 hw
    rw [w_X12_whoCan_b4] at hw
    refine z_iload_n hC dX12_whoCan_4 rfl rfl ?_
    refine z_aload_n hC dX12_whoCan_5 rfl rfl ?_
    refine z_getP hC FX12 3 lk_1358 dX12_whoCan_6 (by decide) hw (fun x6 hw => ?_)
    refine z_iconst hC ic_1 dX12_whoCan_9 ?_
    refine z_aldI hC dX12_whoCan_10 hw (fun x10 hw => ?_)
    refine z_icmp_ge (tgt := 38) hC dX12_whoCan_11 (by decide) (fun c11 => ?_) (fun c11 => ?_)
    · have hw := hw.1 c11
      refine z_iload_n hC dX12_whoCan_38 rfl rfl ?_
      exact z_iret hC hr hlk dX12_whoCan_39 ⟨_, rfl, hw⟩
    · have hw := hw.2 c11
      refine z_iload_n hC dX12_whoCan_14 rfl rfl ?_
      refine z_aload_n hC dX12_whoCan_15 rfl rfl ?_
      refine z_iload_n hC dX12_whoCan_16 rfl rfl ?_
      refine z_callV (ku' := 0) (kv' := 0) (n := 1) (As := [.int v2]) (st := [.int v1]) hC (c_X12_canHaveRung l G B S v0 v2 _) hw.2 hw.1 rfl lk_1970 lk_1972 lk_107 lk_133 lk_1973 hd_X12_canHaveRung rfl rfl (Nat.le_of_ble_eq_true rfl) (Nat.le_of_ble_eq_true rfl) rfl (Nat.le_of_ble_eq_true rfl) dX12_whoCan_17 (Nat.le_refl 0) (Nat.le_refl 0) (kI (fun x17 S hw => ?_))
      refine z_if_eq (tgt := 29) hC dX12_whoCan_20 (by decide) (fun c20 => ?_) (fun c20 => ?_)
      · have hw := hw.1 c20
        refine z_iconst hC ic_0 dX12_whoCan_29 ?_
        refine z_mask (lv' := [some (.ref v0), none, some (.int v2)]) [true, false, true] rfl ?_
        exact t_X12_whoCan_b30 hC hr hlk hnm (fun hw => ih hw) hw
      · have hw := hw.2 c20
        refine z_iconst hC ic_1 dX12_whoCan_23 ?_
        refine z_iload_n hC dX12_whoCan_24 rfl rfl ?_
        refine z_ishl hC dX12_whoCan_25 ?_
        refine z_goto (tgt := 30) hC dX12_whoCan_26 (by decide) ?_
        refine z_mask (lv' := [some (.ref v0), none, some (.int v2)]) [true, false, true] rfl ?_
        exact t_X12_whoCan_b30 hC hr hlk hnm (fun hw => ih hw) hw
def w_X12_whoCan (q : Int32 → hS → Prop) (S : hS) (v0 : Nat) : Prop := (∃ n4 : Nat, w_X12_whoCan_b4 q n4 S v0 0 0)
set_option maxRecDepth 100000 in
set_option maxHeartbeats 4000000 in
theorem c_X12_whoCan (l : Launch) (G : hG) (B : Nat) (S : hS) (v0 : Nat) (q : Int32 → hS → Prop) : Met l yX12_whoCan (hws yX12_whoCan cX12_whoCan 3 (Option.some FieldType.int)) ({ frames := 4, cells := 0, slots := 0, locals := 129 }) (hPc G B S [.ref v0] (w_X12_whoCan q S v0)) (hQ G B (iP q)) (0) (0) (fun r => B ≤ r) := by
  refine hMet (rm := { frames := 4, cells := 0, slots := 0, locals := 129 }) (lv := [some (.ref v0), none, none]) (own := RX12) (fr := 4) (lo := 129) (by decide) rfl rfl rfl (Nat.le_of_ble_eq_true rfl) rfl (fun hw p e R s m args below meth c hC hr hlk hnm => ?_)
  unfold w_X12_whoCan at hw
  refine z_iconst hC ic_0 dX12_whoCan_0 ?_
  refine z_istore_n (i := 1) (lv' := [some (.ref v0), some (.int 0), none]) hC rfl dX12_whoCan_1 (by decide) (hok_v rfl rfl) rfl ?_
  refine z_iconst hC ic_0 dX12_whoCan_2 ?_
  refine z_istore_n (i := 2) (lv' := [some (.ref v0), some (.int 0), some (.int 0)]) hC rfl dX12_whoCan_3 (by decide) (hok_v rfl rfl) rfl ?_
  refine z_mask (lv' := [some (.ref v0), some (.int 0), some (.int 0)]) [true, true, true] rfl ?_
  obtain ⟨n4, hw⟩ := hw
  exact t_X12_whoCan_b4 hC hr hlk hnm n4 hw
end
section
variable {p : Program} {l : Launch} {e : Env} {R : Room} {s : State} {m : MethodId} {args : Array Value} {below : List Frame} {meth : Method} {c : Code} {G : hG} {B mc ms : Nat}
def w_X12_who (q : Int32 → hS → Prop) (S : hS) (v0 : Nat) : Prop := pI S v0 12 0 0 (fun S => oK S v0 12 ∧ w_X12_whoCan (fun x6 S => q x6 S) S v0)
set_option maxRecDepth 100000 in
set_option maxHeartbeats 4000000 in
theorem c_X12_who (l : Launch) (G : hG) (B : Nat) (S : hS) (v0 : Nat) (q : Int32 → hS → Prop) : Met l yX12_who (hws yX12_who cX12_who 1 (Option.some FieldType.int)) ({ frames := 5, cells := 0, slots := 0, locals := 151 }) (hPc G B S [.ref v0] (w_X12_who q S v0)) (hQ G B (iP q)) (0) (0) (fun r => B ≤ r) := by
  refine hMet (rm := { frames := 5, cells := 0, slots := 0, locals := 151 }) (lv := [some (.ref v0)]) (own := RX12) (fr := 5) (lo := 151) (by decide) rfl rfl rfl (Nat.le_of_ble_eq_true rfl) rfl (fun hw p e R s m args below meth c hC hr hlk hnm => ?_)
  unfold w_X12_who at hw
  refine z_aload_n hC dX12_who_0 rfl rfl ?_
  refine z_iconst hC ic_0 dX12_who_1 ?_
  refine z_putI hC FX12 0 lk_1355 dX12_who_2 (by decide) rfl rfl hw (fun S hw => ?_)
  refine z_aload_n hC dX12_who_5 rfl rfl ?_
  refine z_callV (ku' := 0) (kv' := 0) (n := 0) (As := []) (st := []) hC (c_X12_whoCan l G B S v0 _) hw.2 hw.1 rfl lk_1966 lk_1968 lk_106 lk_133 lk_1969 hd_X12_whoCan rfl rfl (Nat.le_of_ble_eq_true rfl) (Nat.le_of_ble_eq_true rfl) rfl (Nat.le_of_ble_eq_true rfl) dX12_who_6 (Nat.le_refl 0) (Nat.le_refl 0) (kI (fun x6 S hw => ?_))
  exact z_iret hC hr hlk dX12_who_9 ⟨_, rfl, hw⟩
end
section
variable {p : Program} {l : Launch} {e : Env} {R : Room} {s : State} {m : MethodId} {args : Array Value} {below : List Frame} {meth : Method} {c : Code} {G : hG} {B mc ms : Nat}
def w_X12_look_b91 (q : Int32 → hS → Prop) (K36 : hS → (Nat) → (Int32) → (Int32) → (Int32) → (Int32) → (Int32) → Prop) (K53 : hS → (Nat) → (Int32) → (Int32) → (Int32) → (Int32) → (Int32) → (Int32) → (Int32) → Prop) (S : hS) (v0 : Nat) (v1 : Int32) (v2 : Int32) (v3 : Int32) (v4 : Int32) (v5 : Int32) (v7 : Int32) (t0 : Int32) (t1 : Int32) : Prop := ∀ y92 : Int32, y92 = (t1 + t0) → ∀ y94 : Int32, y94 = v7 + 1 → K53 S v0 v1 v2 v3 v4 v5 y92 y94
set_option maxRecDepth 100000 in
set_option maxHeartbeats 4000000 in
theorem t_X12_look_b91 (hC : zC p R s m args c cX12_look 8 RX12 G B mc ms 5 151) (hr : meth.sig.returnType = (Option.some FieldType.int)) (hlk : meth.locks = false) (hnm : meth.name = "look") {q : Int32 → hS → Prop} {K36 : hS → (Nat) → (Int32) → (Int32) → (Int32) → (Int32) → (Int32) → Prop} (hK36 : ∀ {S : hS} {v0 : Nat} {v1 : Int32} {v2 : Int32} {v3 : Int32} {v4 : Int32} {v5 : Int32}, K36 S v0 v1 v2 v3 v4 v5 → Z p l e R s m args below meth c (MQ below (hQ G B (iP q)) args s mc ms (fun r => B ≤ r)) G B mc ms 8 S 0 0 36 [some (.ref v0), some (.int v1), some (.int v2), some (.int v3), some (.int v4), some (.int v5), none, none] []) {K53 : hS → (Nat) → (Int32) → (Int32) → (Int32) → (Int32) → (Int32) → (Int32) → (Int32) → Prop} (hK53 : ∀ {S : hS} {v0 : Nat} {v1 : Int32} {v2 : Int32} {v3 : Int32} {v4 : Int32} {v5 : Int32} {v6 : Int32} {v7 : Int32}, K53 S v0 v1 v2 v3 v4 v5 v6 v7 → Z p l e R s m args below meth c (MQ below (hQ G B (iP q)) args s mc ms (fun r => B ≤ r)) G B mc ms 8 S 0 0 53 [some (.ref v0), some (.int v1), some (.int v2), some (.int v3), some (.int v4), some (.int v5), some (.int v6), some (.int v7)] []) {S : hS} {v0 : Nat} {v1 : Int32} {v2 : Int32} {v3 : Int32} {v4 : Int32} {v5 : Int32} {v7 : Int32} {t0 : Int32} {t1 : Int32} (hw : w_X12_look_b91 q K36 K53 S v0 v1 v2 v3 v4 v5 v7 t0 t1) : Z p l e R s m args below meth c (MQ below (hQ G B (iP q)) args s mc ms (fun r => B ≤ r)) G B mc ms 8 S 0 0 91 [some (.ref v0), some (.int v1), some (.int v2), some (.int v3), some (.int v4), some (.int v5), none, some (.int v7)] [.int t0, .int t1] := by
  unfold w_X12_look_b91 at hw
  refine z_iadd hC dX12_look_91 ?_
  refine z_nmI (fun y92 e92 => ?_)
  have hw := hw y92 e92
  refine z_istore (i := 6) (lv' := [some (.ref v0), some (.int v1), some (.int v2), some (.int v3), some (.int v4), some (.int v5), some (.int y92), some (.int v7)]) hC dX12_look_92 (by decide) (hok_v rfl rfl) rfl ?_
  refine z_inc (i := 7) hC ic_1 dX12_look_94 rfl (by decide) (hok_v rfl rfl) (fun y94 e94 => ?_)
  have hw := hw y94 e94
  refine z_goto (tgt := 53) hC dX12_look_97 (by decide) ?_
  refine z_mask (lv' := [some (.ref v0), some (.int v1), some (.int v2), some (.int v3), some (.int v4), some (.int v5), some (.int y92), some (.int y94)]) [true, true, true, true, true, true, true, true] rfl ?_
  exact hK53 hw
def w_X12_look_b90 (q : Int32 → hS → Prop) (K36 : hS → (Nat) → (Int32) → (Int32) → (Int32) → (Int32) → (Int32) → Prop) (K53 : hS → (Nat) → (Int32) → (Int32) → (Int32) → (Int32) → (Int32) → (Int32) → (Int32) → Prop) (S : hS) (v0 : Nat) (v1 : Int32) (v2 : Int32) (v3 : Int32) (v4 : Int32) (v5 : Int32) (v7 : Int32) (t0 : Int32) : Prop := w_X12_look_b91 q K36 K53 S v0 v1 v2 v3 v4 v5 v7 0 t0
set_option maxRecDepth 100000 in
set_option maxHeartbeats 4000000 in
theorem t_X12_look_b90 (hC : zC p R s m args c cX12_look 8 RX12 G B mc ms 5 151) (hr : meth.sig.returnType = (Option.some FieldType.int)) (hlk : meth.locks = false) (hnm : meth.name = "look") {q : Int32 → hS → Prop} {K36 : hS → (Nat) → (Int32) → (Int32) → (Int32) → (Int32) → (Int32) → Prop} (hK36 : ∀ {S : hS} {v0 : Nat} {v1 : Int32} {v2 : Int32} {v3 : Int32} {v4 : Int32} {v5 : Int32}, K36 S v0 v1 v2 v3 v4 v5 → Z p l e R s m args below meth c (MQ below (hQ G B (iP q)) args s mc ms (fun r => B ≤ r)) G B mc ms 8 S 0 0 36 [some (.ref v0), some (.int v1), some (.int v2), some (.int v3), some (.int v4), some (.int v5), none, none] []) {K53 : hS → (Nat) → (Int32) → (Int32) → (Int32) → (Int32) → (Int32) → (Int32) → (Int32) → Prop} (hK53 : ∀ {S : hS} {v0 : Nat} {v1 : Int32} {v2 : Int32} {v3 : Int32} {v4 : Int32} {v5 : Int32} {v6 : Int32} {v7 : Int32}, K53 S v0 v1 v2 v3 v4 v5 v6 v7 → Z p l e R s m args below meth c (MQ below (hQ G B (iP q)) args s mc ms (fun r => B ≤ r)) G B mc ms 8 S 0 0 53 [some (.ref v0), some (.int v1), some (.int v2), some (.int v3), some (.int v4), some (.int v5), some (.int v6), some (.int v7)] []) {S : hS} {v0 : Nat} {v1 : Int32} {v2 : Int32} {v3 : Int32} {v4 : Int32} {v5 : Int32} {v7 : Int32} {t0 : Int32} (hw : w_X12_look_b90 q K36 K53 S v0 v1 v2 v3 v4 v5 v7 t0) : Z p l e R s m args below meth c (MQ below (hQ G B (iP q)) args s mc ms (fun r => B ≤ r)) G B mc ms 8 S 0 0 90 [some (.ref v0), some (.int v1), some (.int v2), some (.int v3), some (.int v4), some (.int v5), none, some (.int v7)] [.int t0] := by
  unfold w_X12_look_b90 at hw
  refine z_iconst hC ic_0 dX12_look_90 ?_
  refine z_mask (lv' := [some (.ref v0), some (.int v1), some (.int v2), some (.int v3), some (.int v4), some (.int v5), none, some (.int v7)]) [true, true, true, true, true, true, false, true] rfl ?_
  exact t_X12_look_b91 hC hr hlk hnm hK36 hK53 hw
def w_X12_look_b153 (q : Int32 → hS → Prop) (K36 : hS → (Nat) → (Int32) → (Int32) → (Int32) → (Int32) → (Int32) → Prop) (S : hS) (v0 : Nat) (v1 : Int32) (v2 : Int32) (v4 : Int32) (v5 : Int32) (t0 : Int32) : Prop := ∀ y154 : Int32, y154 = v5 + 1 → K36 S v0 v1 v2 t0 v4 y154
set_option maxRecDepth 100000 in
set_option maxHeartbeats 4000000 in
theorem t_X12_look_b153 (hC : zC p R s m args c cX12_look 8 RX12 G B mc ms 5 151) (hr : meth.sig.returnType = (Option.some FieldType.int)) (hlk : meth.locks = false) (hnm : meth.name = "look") {q : Int32 → hS → Prop} {K36 : hS → (Nat) → (Int32) → (Int32) → (Int32) → (Int32) → (Int32) → Prop} (hK36 : ∀ {S : hS} {v0 : Nat} {v1 : Int32} {v2 : Int32} {v3 : Int32} {v4 : Int32} {v5 : Int32}, K36 S v0 v1 v2 v3 v4 v5 → Z p l e R s m args below meth c (MQ below (hQ G B (iP q)) args s mc ms (fun r => B ≤ r)) G B mc ms 8 S 0 0 36 [some (.ref v0), some (.int v1), some (.int v2), some (.int v3), some (.int v4), some (.int v5), none, none] []) {S : hS} {v0 : Nat} {v1 : Int32} {v2 : Int32} {v4 : Int32} {v5 : Int32} {t0 : Int32} (hw : w_X12_look_b153 q K36 S v0 v1 v2 v4 v5 t0) : Z p l e R s m args below meth c (MQ below (hQ G B (iP q)) args s mc ms (fun r => B ≤ r)) G B mc ms 8 S 0 0 153 [some (.ref v0), some (.int v1), some (.int v2), none, some (.int v4), some (.int v5), none, none] [.int t0] := by
  unfold w_X12_look_b153 at hw
  refine z_istore_n (i := 3) (lv' := [some (.ref v0), some (.int v1), some (.int v2), some (.int t0), some (.int v4), some (.int v5), none, none]) hC rfl dX12_look_153 (by decide) (hok_v rfl rfl) rfl ?_
  refine z_inc (i := 5) hC ic_1 dX12_look_154 rfl (by decide) (hok_v rfl rfl) (fun y154 e154 => ?_)
  have hw := hw y154 e154
  refine z_goto (tgt := 36) hC dX12_look_157 (by decide) ?_
  refine z_mask (lv' := [some (.ref v0), some (.int v1), some (.int v2), some (.int t0), some (.int v4), some (.int y154), none, none]) [true, true, true, true, true, true, false, false] rfl ?_
  exact hK36 hw
def w_X12_look_b139 (q : Int32 → hS → Prop) (K36 : hS → (Nat) → (Int32) → (Int32) → (Int32) → (Int32) → (Int32) → Prop) (S : hS) (v0 : Nat) (v1 : Int32) (v2 : Int32) (v3 : Int32) (v5 : Int32) (v7 : Int32) (t0 : Int32) : Prop := (v3 ≤ v7 → w_X12_look_b153 q K36 S v0 v1 v2 t0 v5 v3) ∧ (¬ v3 ≤ v7 → w_X12_look_b153 q K36 S v0 v1 v2 t0 v5 v7)
set_option maxRecDepth 100000 in
set_option maxHeartbeats 4000000 in
theorem t_X12_look_b139 (hC : zC p R s m args c cX12_look 8 RX12 G B mc ms 5 151) (hr : meth.sig.returnType = (Option.some FieldType.int)) (hlk : meth.locks = false) (hnm : meth.name = "look") {q : Int32 → hS → Prop} {K36 : hS → (Nat) → (Int32) → (Int32) → (Int32) → (Int32) → (Int32) → Prop} (hK36 : ∀ {S : hS} {v0 : Nat} {v1 : Int32} {v2 : Int32} {v3 : Int32} {v4 : Int32} {v5 : Int32}, K36 S v0 v1 v2 v3 v4 v5 → Z p l e R s m args below meth c (MQ below (hQ G B (iP q)) args s mc ms (fun r => B ≤ r)) G B mc ms 8 S 0 0 36 [some (.ref v0), some (.int v1), some (.int v2), some (.int v3), some (.int v4), some (.int v5), none, none] []) {S : hS} {v0 : Nat} {v1 : Int32} {v2 : Int32} {v3 : Int32} {v5 : Int32} {v7 : Int32} {t0 : Int32} (hw : w_X12_look_b139 q K36 S v0 v1 v2 v3 v5 v7 t0) : Z p l e R s m args below meth c (MQ below (hQ G B (iP q)) args s mc ms (fun r => B ≤ r)) G B mc ms 8 S 0 0 139 [some (.ref v0), some (.int v1), some (.int v2), some (.int v3), none, some (.int v5), none, some (.int v7)] [.int t0] := by
  unfold w_X12_look_b139 at hw
  refine z_istore (i := 4) (lv' := [some (.ref v0), some (.int v1), some (.int v2), some (.int v3), some (.int t0), some (.int v5), none, some (.int v7)]) hC dX12_look_139 (by decide) (hok_v rfl rfl) rfl ?_
  refine z_iload hC dX12_look_141 rfl ?_
  refine z_iload_n hC dX12_look_143 rfl rfl ?_
  refine z_icmp_ge (tgt := 152) hC dX12_look_144 (by decide) (fun c144 => ?_) (fun c144 => ?_)
  · have hw := hw.1 c144
    refine z_iload_n hC dX12_look_152 rfl rfl ?_
    refine z_mask (lv' := [some (.ref v0), some (.int v1), some (.int v2), none, some (.int t0), some (.int v5), none, none]) [true, true, true, false, true, true, false, false] rfl ?_
    exact t_X12_look_b153 hC hr hlk hnm hK36 hw
  · have hw := hw.2 c144
    refine z_iload hC dX12_look_147 rfl ?_
    refine z_goto (tgt := 153) hC dX12_look_149 (by decide) ?_
    refine z_mask (lv' := [some (.ref v0), some (.int v1), some (.int v2), none, some (.int t0), some (.int v5), none, none]) [true, true, true, false, true, true, false, false] rfl ?_
    exact t_X12_look_b153 hC hr hlk hnm hK36 hw
def w_X12_look_b124 (q : Int32 → hS → Prop) (K36 : hS → (Nat) → (Int32) → (Int32) → (Int32) → (Int32) → (Int32) → Prop) (S : hS) (v0 : Nat) (v1 : Int32) (v2 : Int32) (v3 : Int32) (v4 : Int32) (v5 : Int32) (t0 : Int32) : Prop := (v3 ≤ t0 → w_X12_look_b139 q K36 S v0 v1 v2 v3 v5 t0 v4) ∧ (¬ v3 ≤ t0 → w_X12_look_b139 q K36 S v0 v1 v2 v3 v5 t0 v5)
set_option maxRecDepth 100000 in
set_option maxHeartbeats 4000000 in
theorem t_X12_look_b124 (hC : zC p R s m args c cX12_look 8 RX12 G B mc ms 5 151) (hr : meth.sig.returnType = (Option.some FieldType.int)) (hlk : meth.locks = false) (hnm : meth.name = "look") {q : Int32 → hS → Prop} {K36 : hS → (Nat) → (Int32) → (Int32) → (Int32) → (Int32) → (Int32) → Prop} (hK36 : ∀ {S : hS} {v0 : Nat} {v1 : Int32} {v2 : Int32} {v3 : Int32} {v4 : Int32} {v5 : Int32}, K36 S v0 v1 v2 v3 v4 v5 → Z p l e R s m args below meth c (MQ below (hQ G B (iP q)) args s mc ms (fun r => B ≤ r)) G B mc ms 8 S 0 0 36 [some (.ref v0), some (.int v1), some (.int v2), some (.int v3), some (.int v4), some (.int v5), none, none] []) {S : hS} {v0 : Nat} {v1 : Int32} {v2 : Int32} {v3 : Int32} {v4 : Int32} {v5 : Int32} {t0 : Int32} (hw : w_X12_look_b124 q K36 S v0 v1 v2 v3 v4 v5 t0) : Z p l e R s m args below meth c (MQ below (hQ G B (iP q)) args s mc ms (fun r => B ≤ r)) G B mc ms 8 S 0 0 124 [some (.ref v0), some (.int v1), some (.int v2), some (.int v3), some (.int v4), some (.int v5), none, none] [.int t0] := by
  unfold w_X12_look_b124 at hw
  refine z_istore (i := 7) (lv' := [some (.ref v0), some (.int v1), some (.int v2), some (.int v3), some (.int v4), some (.int v5), none, some (.int t0)]) hC dX12_look_124 (by decide) (hok_n rfl) rfl ?_
  refine z_iload hC dX12_look_126 rfl ?_
  refine z_iload_n hC dX12_look_128 rfl rfl ?_
  refine z_icmp_ge (tgt := 137) hC dX12_look_129 (by decide) (fun c129 => ?_) (fun c129 => ?_)
  · have hw := hw.1 c129
    refine z_iload hC dX12_look_137 rfl ?_
    refine z_mask (lv' := [some (.ref v0), some (.int v1), some (.int v2), some (.int v3), none, some (.int v5), none, some (.int t0)]) [true, true, true, true, false, true, false, true] rfl ?_
    exact t_X12_look_b139 hC hr hlk hnm hK36 hw
  · have hw := hw.2 c129
    refine z_iload hC dX12_look_132 rfl ?_
    refine z_goto (tgt := 139) hC dX12_look_134 (by decide) ?_
    refine z_mask (lv' := [some (.ref v0), some (.int v1), some (.int v2), some (.int v3), none, some (.int v5), none, some (.int t0)]) [true, true, true, true, false, true, false, true] rfl ?_
    exact t_X12_look_b139 hC hr hlk hnm hK36 hw
def w_X12_look_b53 (q : Int32 → hS → Prop) (K36 : hS → (Nat) → (Int32) → (Int32) → (Int32) → (Int32) → (Int32) → Prop) : Nat → hS → (Nat) → (Int32) → (Int32) → (Int32) → (Int32) → (Int32) → (Int32) → (Int32) → Prop
  | 0, _, _, _, _, _, _, _, _, _ => False
  | n + 1, S, v0, v1, v2, v3, v4, v5, v6, v7 => gP S v0 12 3 (fun x56 => aI S x56 1 (fun x60 => (x60 ≤ v7 → w_X12_ones (fun x103 S => (v6 ≤ (x103 - v6) → w_X12_ones (fun x118 S => w_X12_look_b124 q K36 S v0 v1 v2 v3 v4 v5 (x118 - v6)) S v2) ∧ (¬ v6 ≤ (x103 - v6) → w_X12_look_b124 q K36 S v0 v1 v2 v3 v4 v5 v6)) S v2) ∧ (¬ x60 ≤ v7 → w_X12_is (fun x69 S => (x69 = 0 → w_X12_look_b90 q K36 (fun S v0 v1 v2 v3 v4 v5 v6 v7 => w_X12_look_b53 q K36 n S v0 v1 v2 v3 v4 v5 v6 v7) S v0 v1 v2 v3 v4 v5 v7 v6) ∧ (¬ x69 = 0 → oK S v0 12 ∧ w_X12_leftOf (fun x80 S => (x80 ≤ 0 → w_X12_look_b90 q K36 (fun S v0 v1 v2 v3 v4 v5 v6 v7 => w_X12_look_b53 q K36 n S v0 v1 v2 v3 v4 v5 v6 v7) S v0 v1 v2 v3 v4 v5 v7 v6) ∧ (¬ x80 ≤ 0 → w_X12_look_b91 q K36 (fun S v0 v1 v2 v3 v4 v5 v6 v7 => w_X12_look_b53 q K36 n S v0 v1 v2 v3 v4 v5 v6 v7) S v0 v1 v2 v3 v4 v5 v7 1 v6)) S v0 v7 v5)) S v2 v7)))
set_option maxRecDepth 100000 in
set_option maxHeartbeats 4000000 in
theorem t_X12_look_b53 (hC : zC p R s m args c cX12_look 8 RX12 G B mc ms 5 151) (hr : meth.sig.returnType = (Option.some FieldType.int)) (hlk : meth.locks = false) (hnm : meth.name = "look") {q : Int32 → hS → Prop} {K36 : hS → (Nat) → (Int32) → (Int32) → (Int32) → (Int32) → (Int32) → Prop} (hK36 : ∀ {S : hS} {v0 : Nat} {v1 : Int32} {v2 : Int32} {v3 : Int32} {v4 : Int32} {v5 : Int32}, K36 S v0 v1 v2 v3 v4 v5 → Z p l e R s m args below meth c (MQ below (hQ G B (iP q)) args s mc ms (fun r => B ≤ r)) G B mc ms 8 S 0 0 36 [some (.ref v0), some (.int v1), some (.int v2), some (.int v3), some (.int v4), some (.int v5), none, none] []) (n : Nat) : ∀ {S : hS} {v0 : Nat} {v1 : Int32} {v2 : Int32} {v3 : Int32} {v4 : Int32} {v5 : Int32} {v6 : Int32} {v7 : Int32} (hw : w_X12_look_b53 q K36 n S v0 v1 v2 v3 v4 v5 v6 v7), Z p l e R s m args below meth c (MQ below (hQ G B (iP q)) args s mc ms (fun r => B ≤ r)) G B mc ms 8 S 0 0 53 [some (.ref v0), some (.int v1), some (.int v2), some (.int v3), some (.int v4), some (.int v5), some (.int v6), some (.int v7)] [] := by
  induction n with
  | zero => intro S v0 v1 v2 v3 v4 v5 v6 v7 hw; exact (by rw [w_X12_look_b53] at hw; exact hw.elim)
  | succ n ih =>
    intro S v0 v1 v2 v3 v4 v5 v6 v7 hw
    rw [w_X12_look_b53] at hw
    refine z_iload hC dX12_look_53 rfl ?_
    refine z_aload_n hC dX12_look_55 rfl rfl ?_
    refine z_getP hC FX12 3 lk_1358 dX12_look_56 (by decide) hw (fun x56 hw => ?_)
    refine z_iconst hC ic_1 dX12_look_59 ?_
    refine z_aldI hC dX12_look_60 hw (fun x60 hw => ?_)
    refine z_icmp_ge (tgt := 100) hC dX12_look_61 (by decide) (fun c61 => ?_) (fun c61 => ?_)
    · have hw := hw.1 c61
      refine z_iload hC dX12_look_100 rfl ?_
      refine z_iload_n hC dX12_look_102 rfl rfl ?_
      refine z_callS (ku' := 0) (kv' := 0) (n := 1) (As := [.int v2]) (st := [.int v6]) hC (c_X12_ones l G B S v2 _) hw lk_1908 lk_1909 lk_133 lk_1910 hd_X12_ones rfl rfl (Nat.le_of_ble_eq_true rfl) (Nat.le_of_ble_eq_true rfl) rfl (Nat.le_of_ble_eq_true rfl) dX12_look_103 (Nat.le_refl 0) (Nat.le_refl 0) (kI (fun x103 S hw => ?_))
      refine z_iload hC dX12_look_106 rfl ?_
      refine z_isub hC dX12_look_108 ?_
      refine z_icmp_le (tgt := 117) hC dX12_look_109 (by decide) (fun c109 => ?_) (fun c109 => ?_)
      · have hw := hw.1 c109
        refine z_iload_n hC dX12_look_117 rfl rfl ?_
        refine z_callS (ku' := 0) (kv' := 0) (n := 1) (As := [.int v2]) (st := []) hC (c_X12_ones l G B S v2 _) hw lk_1908 lk_1909 lk_133 lk_1910 hd_X12_ones rfl rfl (Nat.le_of_ble_eq_true rfl) (Nat.le_of_ble_eq_true rfl) rfl (Nat.le_of_ble_eq_true rfl) dX12_look_118 (Nat.le_refl 0) (Nat.le_refl 0) (kI (fun x118 S hw => ?_))
        refine z_iload hC dX12_look_121 rfl ?_
        refine z_isub hC dX12_look_123 ?_
        refine z_mask (lv' := [some (.ref v0), some (.int v1), some (.int v2), some (.int v3), some (.int v4), some (.int v5), none, none]) [true, true, true, true, true, true, false, false] rfl ?_
        exact t_X12_look_b124 hC hr hlk hnm hK36 hw
      · have hw := hw.2 c109
        refine z_iload hC dX12_look_112 rfl ?_
        refine z_goto (tgt := 124) hC dX12_look_114 (by decide) ?_
        refine z_mask (lv' := [some (.ref v0), some (.int v1), some (.int v2), some (.int v3), some (.int v4), some (.int v5), none, none]) [true, true, true, true, true, true, false, false] rfl ?_
        exact t_X12_look_b124 hC hr hlk hnm hK36 hw
    · have hw := hw.2 c61
      refine z_iload hC dX12_look_64 rfl ?_
      refine z_iload_n hC dX12_look_66 rfl rfl ?_
      refine z_iload hC dX12_look_67 rfl ?_
      refine z_callS (ku' := 0) (kv' := 0) (n := 2) (As := [.int v2, .int v7]) (st := [.int v6]) hC (c_X12_is l G B S v2 v7 _) hw lk_1657 lk_1658 lk_133 lk_1659 hd_X12_is rfl rfl (Nat.le_of_ble_eq_true rfl) (Nat.le_of_ble_eq_true rfl) rfl (Nat.le_of_ble_eq_true rfl) dX12_look_69 (Nat.le_refl 0) (Nat.le_refl 0) (kI (fun x69 S hw => ?_))
      refine z_if_eq (tgt := 90) hC dX12_look_72 (by decide) (fun c72 => ?_) (fun c72 => ?_)
      · have hw := hw.1 c72
        refine z_mask (lv' := [some (.ref v0), some (.int v1), some (.int v2), some (.int v3), some (.int v4), some (.int v5), none, some (.int v7)]) [true, true, true, true, true, true, false, true] rfl ?_
        exact t_X12_look_b90 hC hr hlk hnm hK36 (fun hw => ih hw) hw
      · have hw := hw.2 c72
        refine z_aload_n hC dX12_look_75 rfl rfl ?_
        refine z_iload hC dX12_look_76 rfl ?_
        refine z_iload hC dX12_look_78 rfl ?_
        refine z_callV (ku' := 0) (kv' := 0) (n := 2) (As := [.int v7, .int v5]) (st := [.int v6]) hC (c_X12_leftOf l G B S v0 v7 v5 _) hw.2 hw.1 rfl lk_1602 lk_1604 lk_49 lk_133 lk_1605 hd_X12_leftOf rfl rfl (Nat.le_of_ble_eq_true rfl) (Nat.le_of_ble_eq_true rfl) rfl (Nat.le_of_ble_eq_true rfl) dX12_look_80 (Nat.le_refl 0) (Nat.le_refl 0) (kI (fun x80 S hw => ?_))
        refine z_if_le (tgt := 90) hC dX12_look_83 (by decide) (fun c83 => ?_) (fun c83 => ?_)
        · have hw := hw.1 c83
          refine z_mask (lv' := [some (.ref v0), some (.int v1), some (.int v2), some (.int v3), some (.int v4), some (.int v5), none, some (.int v7)]) [true, true, true, true, true, true, false, true] rfl ?_
          exact t_X12_look_b90 hC hr hlk hnm hK36 (fun hw => ih hw) hw
        · have hw := hw.2 c83
          refine z_iconst hC ic_1 dX12_look_86 ?_
          refine z_goto (tgt := 91) hC dX12_look_87 (by decide) ?_
          refine z_mask (lv' := [some (.ref v0), some (.int v1), some (.int v2), some (.int v3), some (.int v4), some (.int v5), none, some (.int v7)]) [true, true, true, true, true, true, false, true] rfl ?_
          exact t_X12_look_b91 hC hr hlk hnm hK36 (fun hw => ih hw) hw
def w_X12_look_b170 (q : Int32 → hS → Prop) (S : hS) (v4 : Int32) : Prop := q v4 S
set_option maxRecDepth 100000 in
set_option maxHeartbeats 4000000 in
theorem t_X12_look_b170 (hC : zC p R s m args c cX12_look 8 RX12 G B mc ms 5 151) (hr : meth.sig.returnType = (Option.some FieldType.int)) (hlk : meth.locks = false) (hnm : meth.name = "look") {q : Int32 → hS → Prop} {S : hS} {v4 : Int32} (hw : w_X12_look_b170 q S v4) : Z p l e R s m args below meth c (MQ below (hQ G B (iP q)) args s mc ms (fun r => B ≤ r)) G B mc ms 8 S 0 0 170 [none, none, none, none, some (.int v4), none, none, none] [] := by
  unfold w_X12_look_b170 at hw
  refine z_iload hC dX12_look_170 rfl ?_
  refine z_goto (tgt := 176) hC dX12_look_172 (by decide) ?_
  exact z_iret hC hr hlk dX12_look_176 ⟨_, rfl, hw⟩
def w_X12_look_b36 (q : Int32 → hS → Prop) : Nat → hS → (Nat) → (Int32) → (Int32) → (Int32) → (Int32) → (Int32) → Prop
  | 0, _, _, _, _, _, _, _ => False
  | n + 1, S, v0, v1, v2, v3, v4, v5 => gP S v0 12 3 (fun x39 => aI S x39 0 (fun x43 => (x43 ≤ v5 → (v4 = (-1) → w_X12_look_b170 q S v4) ∧ (¬ v4 = (-1) → (¬ v1 = 0 → q v3 S) ∧ (v1 = 0 → w_X12_look_b170 q S v4))) ∧ (¬ x43 ≤ v5 → (∃ n53 : Nat, w_X12_look_b53 q (fun S v0 v1 v2 v3 v4 v5 => w_X12_look_b36 q n S v0 v1 v2 v3 v4 v5) n53 S v0 v1 v2 v3 v4 v5 0 0))))
set_option maxRecDepth 100000 in
set_option maxHeartbeats 4000000 in
theorem t_X12_look_b36 (hC : zC p R s m args c cX12_look 8 RX12 G B mc ms 5 151) (hr : meth.sig.returnType = (Option.some FieldType.int)) (hlk : meth.locks = false) (hnm : meth.name = "look") {q : Int32 → hS → Prop} (n : Nat) : ∀ {S : hS} {v0 : Nat} {v1 : Int32} {v2 : Int32} {v3 : Int32} {v4 : Int32} {v5 : Int32} (hw : w_X12_look_b36 q n S v0 v1 v2 v3 v4 v5), Z p l e R s m args below meth c (MQ below (hQ G B (iP q)) args s mc ms (fun r => B ≤ r)) G B mc ms 8 S 0 0 36 [some (.ref v0), some (.int v1), some (.int v2), some (.int v3), some (.int v4), some (.int v5), none, none] [] := by
  induction n with
  | zero => intro S v0 v1 v2 v3 v4 v5 hw; exact (by rw [w_X12_look_b36] at hw; exact hw.elim)
  | succ n ih =>
    intro S v0 v1 v2 v3 v4 v5 hw
    rw [w_X12_look_b36] at hw
    refine z_iload hC dX12_look_36 rfl ?_
    refine z_aload_n hC dX12_look_38 rfl rfl ?_
    refine z_getP hC FX12 3 lk_1358 dX12_look_39 (by decide) hw (fun x39 hw => ?_)
    refine z_iconst hC ic_0 dX12_look_42 ?_
    refine z_aldI hC dX12_look_43 hw (fun x43 hw => ?_)
    refine z_icmp_ge (tgt := 160) hC dX12_look_44 (by decide) (fun c44 => ?_) (fun c44 => ?_)
    · have hw := hw.1 c44
      refine z_iload hC dX12_look_160 rfl ?_
      refine z_iconst hC ic_m1 dX12_look_162 ?_
      refine z_icmp_eq (tgt := 170) hC dX12_look_163 (by decide) (fun c163 => ?_) (fun c163 => ?_)
      · have hw := hw.1 c163
        refine z_mask (lv' := [none, none, none, none, some (.int v4), none, none, none]) [false, false, false, false, true, false, false, false] rfl ?_
        exact t_X12_look_b170 hC hr hlk hnm hw
      · have hw := hw.2 c163
        refine z_iload_n hC dX12_look_166 rfl rfl ?_
        refine z_if_ne (tgt := 175) hC dX12_look_167 (by decide) (fun c167 => ?_) (fun c167 => ?_)
        · have hw := hw.1 c167
          refine z_iload_n hC dX12_look_175 rfl rfl ?_
          exact z_iret hC hr hlk dX12_look_176 ⟨_, rfl, hw⟩
        · have hw := hw.2 c167
          refine z_mask (lv' := [none, none, none, none, some (.int v4), none, none, none]) [false, false, false, false, true, false, false, false] rfl ?_
          exact t_X12_look_b170 hC hr hlk hnm hw
    · have hw := hw.2 c44
      refine z_iconst hC ic_0 dX12_look_47 ?_
      refine z_istore (i := 6) (lv' := [some (.ref v0), some (.int v1), some (.int v2), some (.int v3), some (.int v4), some (.int v5), some (.int 0), none]) hC dX12_look_48 (by decide) (hok_v rfl rfl) rfl ?_
      refine z_iconst hC ic_0 dX12_look_50 ?_
      refine z_istore (i := 7) (lv' := [some (.ref v0), some (.int v1), some (.int v2), some (.int v3), some (.int v4), some (.int v5), some (.int 0), some (.int 0)]) hC dX12_look_51 (by decide) (hok_v rfl rfl) rfl ?_
      refine z_mask (lv' := [some (.ref v0), some (.int v1), some (.int v2), some (.int v3), some (.int v4), some (.int v5), some (.int 0), some (.int 0)]) [true, true, true, true, true, true, true, true] rfl ?_
      obtain ⟨n53, hw⟩ := hw
      exact t_X12_look_b53 hC hr hlk hnm (fun hw => ih hw) n53 hw
def w_X12_look (q : Int32 → hS → Prop) (S : hS) (v0 : Nat) (v1 : Int32) : Prop := pI S v0 12 0 0 (fun S => oK S v0 12 ∧ w_X12_whoCan (fun x6 S => w_X12_in (fun x14 S => (x14 = 0 → q (-1) S) ∧ (¬ x14 = 0 → (¬ x6 = 0 → (∃ n36 : Nat, w_X12_look_b36 q n36 S v0 v1 x6 100000000 (-1) 0)) ∧ (x6 = 0 → q (-1) S))) S (Int32.toInt64 v1) 0 1) S v0)
set_option maxRecDepth 100000 in
set_option maxHeartbeats 4000000 in
theorem c_X12_look (l : Launch) (G : hG) (B : Nat) (S : hS) (v0 : Nat) (v1 : Int32) (q : Int32 → hS → Prop) : Met l yX12_look (hws yX12_look cX12_look 8 (Option.some FieldType.int)) ({ frames := 5, cells := 0, slots := 0, locals := 151 }) (hPc G B S [.ref v0, .int v1] (w_X12_look q S v0 v1)) (hQ G B (iP q)) (0) (0) (fun r => B ≤ r) := by
  refine hMet (rm := { frames := 5, cells := 0, slots := 0, locals := 151 }) (lv := [some (.ref v0), some (.int v1), none, none, none, none, none, none]) (own := RX12) (fr := 5) (lo := 151) (by decide) rfl rfl rfl (Nat.le_of_ble_eq_true rfl) rfl (fun hw p e R s m args below meth c hC hr hlk hnm => ?_)
  unfold w_X12_look at hw
  refine z_aload_n hC dX12_look_0 rfl rfl ?_
  refine z_iconst hC ic_0 dX12_look_1 ?_
  refine z_putI hC FX12 0 lk_1355 dX12_look_2 (by decide) rfl rfl hw (fun S hw => ?_)
  refine z_aload_n hC dX12_look_5 rfl rfl ?_
  refine z_callV (ku' := 0) (kv' := 0) (n := 0) (As := []) (st := []) hC (c_X12_whoCan l G B S v0 _) hw.2 hw.1 rfl lk_1966 lk_1968 lk_106 lk_133 lk_1969 hd_X12_whoCan rfl rfl (Nat.le_of_ble_eq_true rfl) (Nat.le_of_ble_eq_true rfl) rfl (Nat.le_of_ble_eq_true rfl) dX12_look_6 (Nat.le_refl 0) (Nat.le_refl 0) (kI (fun x6 S hw => ?_))
  refine z_istore_n (i := 2) (lv' := [some (.ref v0), some (.int v1), some (.int x6), none, none, none, none, none]) hC rfl dX12_look_9 (by decide) (hok_v rfl rfl) rfl ?_
  refine z_iload_n hC dX12_look_10 rfl rfl ?_
  refine z_i2l hC rfl dX12_look_11 ?_
  refine z_lconst hC lc_0 dX12_look_12 ?_
  refine z_lconst hC lc_1 dX12_look_13 ?_
  refine z_callS (ku' := 0) (kv' := 0) (n := 3) (As := [.long (Int32.toInt64 v1), .long 0, .long 1]) (st := []) hC (c_X12_in l G B S (Int32.toInt64 v1) 0 1 _) hw lk_1556 lk_1557 lk_133 lk_1558 hd_X12_in rfl rfl (Nat.le_of_ble_eq_true rfl) (Nat.le_of_ble_eq_true rfl) rfl (Nat.le_of_ble_eq_true rfl) dX12_look_14 (Nat.le_refl 0) (Nat.le_refl 0) (kI (fun x14 S hw => ?_))
  refine z_if_eq (tgt := 24) hC dX12_look_17 (by decide) (fun c17 => ?_) (fun c17 => ?_)
  · have hw := hw.1 c17
    refine z_iconst hC ic_m1 dX12_look_24 ?_
    exact z_iret hC hr hlk dX12_look_25 ⟨_, rfl, hw⟩
  · have hw := hw.2 c17
    refine z_iload_n hC dX12_look_20 rfl rfl ?_
    refine z_if_ne (tgt := 26) hC dX12_look_21 (by decide) (fun c21 => ?_) (fun c21 => ?_)
    · have hw := hw.1 c21
      refine z_ldcw hC lk_1982 dX12_look_26 ?_
      refine z_istore_n (i := 3) (lv' := [some (.ref v0), some (.int v1), some (.int x6), some (.int 100000000), none, none, none, none]) hC rfl dX12_look_29 (by decide) (hok_v rfl rfl) rfl ?_
      refine z_iconst hC ic_m1 dX12_look_30 ?_
      refine z_istore (i := 4) (lv' := [some (.ref v0), some (.int v1), some (.int x6), some (.int 100000000), some (.int (-1)), none, none, none]) hC dX12_look_31 (by decide) (hok_v rfl rfl) rfl ?_
      refine z_iconst hC ic_0 dX12_look_33 ?_
      refine z_istore (i := 5) (lv' := [some (.ref v0), some (.int v1), some (.int x6), some (.int 100000000), some (.int (-1)), some (.int 0), none, none]) hC dX12_look_34 (by decide) (hok_v rfl rfl) rfl ?_
      refine z_mask (lv' := [some (.ref v0), some (.int v1), some (.int x6), some (.int 100000000), some (.int (-1)), some (.int 0), none, none]) [true, true, true, true, true, true, false, false] rfl ?_
      obtain ⟨n36, hw⟩ := hw
      exact t_X12_look_b36 hC hr hlk hnm n36 hw
    · have hw := hw.2 c21
      refine z_iconst hC ic_m1 dX12_look_24 ?_
      exact z_iret hC hr hlk dX12_look_25 ⟨_, rfl, hw⟩
end
section
variable {p : Program} {l : Launch} {e : Env} {R : Room} {s : State} {m : MethodId} {args : Array Value} {below : List Frame} {meth : Method} {c : Code} {G : hG} {B mc ms : Nat}
def w_X12_amend_b88 (q : Int32 → hS → Prop) (K35 : hS → (Nat) → (Int32) → (Int32) → (Int32) → (Int32) → (Int32) → Prop) (K54 : hS → (Nat) → (Int32) → (Int32) → (Int32) → (Int32) → (Int32) → (Int32) → (Int32) → Prop) (S : hS) (v0 : Nat) (v1 : Int32) (v2 : Int32) (v3 : Int32) (v4 : Int32) (v5 : Int32) (v7 : Int32) (t0 : Int32) (t1 : Int32) : Prop := ∀ y89 : Int32, y89 = (t1 + t0) → ∀ y91 : Int32, y91 = v7 + 1 → K54 S v0 v1 v2 v3 v4 v5 y89 y91
set_option maxRecDepth 100000 in
set_option maxHeartbeats 4000000 in
theorem t_X12_amend_b88 (hC : zC p R s m args c cX12_amend 8 RX12 G B mc ms 3 106) (hr : meth.sig.returnType = (Option.some FieldType.int)) (hlk : meth.locks = false) (hnm : meth.name = "amend") {q : Int32 → hS → Prop} {K35 : hS → (Nat) → (Int32) → (Int32) → (Int32) → (Int32) → (Int32) → Prop} (hK35 : ∀ {S : hS} {v0 : Nat} {v1 : Int32} {v2 : Int32} {v3 : Int32} {v4 : Int32} {v5 : Int32}, K35 S v0 v1 v2 v3 v4 v5 → Z p l e R s m args below meth c (MQ below (hQ G B (iP q)) args s mc ms (fun r => B ≤ r)) G B mc ms 8 S 0 0 35 [some (.ref v0), some (.int v1), some (.int v2), some (.int v3), some (.int v4), some (.int v5), none, none] []) {K54 : hS → (Nat) → (Int32) → (Int32) → (Int32) → (Int32) → (Int32) → (Int32) → (Int32) → Prop} (hK54 : ∀ {S : hS} {v0 : Nat} {v1 : Int32} {v2 : Int32} {v3 : Int32} {v4 : Int32} {v5 : Int32} {v6 : Int32} {v7 : Int32}, K54 S v0 v1 v2 v3 v4 v5 v6 v7 → Z p l e R s m args below meth c (MQ below (hQ G B (iP q)) args s mc ms (fun r => B ≤ r)) G B mc ms 8 S 0 0 54 [some (.ref v0), some (.int v1), some (.int v2), some (.int v3), some (.int v4), some (.int v5), some (.int v6), some (.int v7)] []) {S : hS} {v0 : Nat} {v1 : Int32} {v2 : Int32} {v3 : Int32} {v4 : Int32} {v5 : Int32} {v7 : Int32} {t0 : Int32} {t1 : Int32} (hw : w_X12_amend_b88 q K35 K54 S v0 v1 v2 v3 v4 v5 v7 t0 t1) : Z p l e R s m args below meth c (MQ below (hQ G B (iP q)) args s mc ms (fun r => B ≤ r)) G B mc ms 8 S 0 0 88 [some (.ref v0), some (.int v1), some (.int v2), some (.int v3), some (.int v4), some (.int v5), none, some (.int v7)] [.int t0, .int t1] := by
  unfold w_X12_amend_b88 at hw
  refine z_iadd hC dX12_amend_88 ?_
  refine z_nmI (fun y89 e89 => ?_)
  have hw := hw y89 e89
  refine z_istore (i := 6) (lv' := [some (.ref v0), some (.int v1), some (.int v2), some (.int v3), some (.int v4), some (.int v5), some (.int y89), some (.int v7)]) hC dX12_amend_89 (by decide) (hok_v rfl rfl) rfl ?_
  refine z_inc (i := 7) hC ic_1 dX12_amend_91 rfl (by decide) (hok_v rfl rfl) (fun y91 e91 => ?_)
  have hw := hw y91 e91
  refine z_goto (tgt := 54) hC dX12_amend_94 (by decide) ?_
  refine z_mask (lv' := [some (.ref v0), some (.int v1), some (.int v2), some (.int v3), some (.int v4), some (.int v5), some (.int y89), some (.int y91)]) [true, true, true, true, true, true, true, true] rfl ?_
  exact hK54 hw
def w_X12_amend_b156 (q : Int32 → hS → Prop) (K35 : hS → (Nat) → (Int32) → (Int32) → (Int32) → (Int32) → (Int32) → Prop) (S : hS) (v0 : Nat) (v1 : Int32) (v2 : Int32) (v4 : Int32) (v5 : Int32) (t0 : Int32) : Prop := ∀ y157 : Int32, y157 = v5 + 1 → K35 S v0 v1 v2 t0 v4 y157
set_option maxRecDepth 100000 in
set_option maxHeartbeats 4000000 in
theorem t_X12_amend_b156 (hC : zC p R s m args c cX12_amend 8 RX12 G B mc ms 3 106) (hr : meth.sig.returnType = (Option.some FieldType.int)) (hlk : meth.locks = false) (hnm : meth.name = "amend") {q : Int32 → hS → Prop} {K35 : hS → (Nat) → (Int32) → (Int32) → (Int32) → (Int32) → (Int32) → Prop} (hK35 : ∀ {S : hS} {v0 : Nat} {v1 : Int32} {v2 : Int32} {v3 : Int32} {v4 : Int32} {v5 : Int32}, K35 S v0 v1 v2 v3 v4 v5 → Z p l e R s m args below meth c (MQ below (hQ G B (iP q)) args s mc ms (fun r => B ≤ r)) G B mc ms 8 S 0 0 35 [some (.ref v0), some (.int v1), some (.int v2), some (.int v3), some (.int v4), some (.int v5), none, none] []) {S : hS} {v0 : Nat} {v1 : Int32} {v2 : Int32} {v4 : Int32} {v5 : Int32} {t0 : Int32} (hw : w_X12_amend_b156 q K35 S v0 v1 v2 v4 v5 t0) : Z p l e R s m args below meth c (MQ below (hQ G B (iP q)) args s mc ms (fun r => B ≤ r)) G B mc ms 8 S 0 0 156 [some (.ref v0), some (.int v1), some (.int v2), none, some (.int v4), some (.int v5), none, none] [.int t0] := by
  unfold w_X12_amend_b156 at hw
  refine z_istore_n (i := 3) (lv' := [some (.ref v0), some (.int v1), some (.int v2), some (.int t0), some (.int v4), some (.int v5), none, none]) hC rfl dX12_amend_156 (by decide) (hok_v rfl rfl) rfl ?_
  refine z_inc (i := 5) hC ic_1 dX12_amend_157 rfl (by decide) (hok_v rfl rfl) (fun y157 e157 => ?_)
  have hw := hw y157 e157
  refine z_goto (tgt := 35) hC dX12_amend_160 (by decide) ?_
  refine z_mask (lv' := [some (.ref v0), some (.int v1), some (.int v2), some (.int t0), some (.int v4), some (.int y157), none, none]) [true, true, true, true, true, true, false, false] rfl ?_
  exact hK35 hw
def w_X12_amend_b140 (q : Int32 → hS → Prop) (K35 : hS → (Nat) → (Int32) → (Int32) → (Int32) → (Int32) → (Int32) → Prop) (S : hS) (v0 : Nat) (v1 : Int32) (v2 : Int32) (v3 : Int32) (v5 : Int32) (v7 : Int32) (t0 : Int32) : Prop := (v7 = 0 → w_X12_amend_b156 q K35 S v0 v1 v2 t0 v5 v3) ∧ (¬ v7 = 0 → w_X12_ones (fun x149 S => w_X12_amend_b156 q K35 S v0 v1 v2 t0 v5 x149) S v5)
set_option maxRecDepth 100000 in
set_option maxHeartbeats 4000000 in
theorem t_X12_amend_b140 (hC : zC p R s m args c cX12_amend 8 RX12 G B mc ms 3 106) (hr : meth.sig.returnType = (Option.some FieldType.int)) (hlk : meth.locks = false) (hnm : meth.name = "amend") {q : Int32 → hS → Prop} {K35 : hS → (Nat) → (Int32) → (Int32) → (Int32) → (Int32) → (Int32) → Prop} (hK35 : ∀ {S : hS} {v0 : Nat} {v1 : Int32} {v2 : Int32} {v3 : Int32} {v4 : Int32} {v5 : Int32}, K35 S v0 v1 v2 v3 v4 v5 → Z p l e R s m args below meth c (MQ below (hQ G B (iP q)) args s mc ms (fun r => B ≤ r)) G B mc ms 8 S 0 0 35 [some (.ref v0), some (.int v1), some (.int v2), some (.int v3), some (.int v4), some (.int v5), none, none] []) {S : hS} {v0 : Nat} {v1 : Int32} {v2 : Int32} {v3 : Int32} {v5 : Int32} {v7 : Int32} {t0 : Int32} (hw : w_X12_amend_b140 q K35 S v0 v1 v2 v3 v5 v7 t0) : Z p l e R s m args below meth c (MQ below (hQ G B (iP q)) args s mc ms (fun r => B ≤ r)) G B mc ms 8 S 0 0 140 [some (.ref v0), some (.int v1), some (.int v2), some (.int v3), none, some (.int v5), none, some (.int v7)] [.int t0] := by
  unfold w_X12_amend_b140 at hw
  refine z_istore (i := 4) (lv' := [some (.ref v0), some (.int v1), some (.int v2), some (.int v3), some (.int t0), some (.int v5), none, some (.int v7)]) hC dX12_amend_140 (by decide) (hok_v rfl rfl) rfl ?_
  refine z_iload hC dX12_amend_142 rfl ?_
  refine z_if_eq (tgt := 155) hC dX12_amend_144 (by decide) (fun c144 => ?_) (fun c144 => ?_)
  · have hw := hw.1 c144
    refine z_iload_n hC dX12_amend_155 rfl rfl ?_
    refine z_mask (lv' := [some (.ref v0), some (.int v1), some (.int v2), none, some (.int t0), some (.int v5), none, none]) [true, true, true, false, true, true, false, false] rfl ?_
    exact t_X12_amend_b156 hC hr hlk hnm hK35 hw
  · have hw := hw.2 c144
    refine z_iload hC dX12_amend_147 rfl ?_
    refine z_callS (ku' := 0) (kv' := 0) (n := 1) (As := [.int v5]) (st := []) hC (c_X12_ones l G B S v5 _) hw lk_1908 lk_1909 lk_133 lk_1910 hd_X12_ones rfl rfl (Nat.le_of_ble_eq_true rfl) (Nat.le_of_ble_eq_true rfl) rfl (Nat.le_of_ble_eq_true rfl) dX12_amend_149 (Nat.le_refl 0) (Nat.le_refl 0) (kI (fun x149 S hw => ?_))
    refine z_goto (tgt := 156) hC dX12_amend_152 (by decide) ?_
    refine z_mask (lv' := [some (.ref v0), some (.int v1), some (.int v2), none, some (.int t0), some (.int v5), none, none]) [true, true, true, false, true, true, false, false] rfl ?_
    exact t_X12_amend_b156 hC hr hlk hnm hK35 hw
def w_X12_amend_b126 (q : Int32 → hS → Prop) (K35 : hS → (Nat) → (Int32) → (Int32) → (Int32) → (Int32) → (Int32) → Prop) (S : hS) (v0 : Nat) (v1 : Int32) (v2 : Int32) (v3 : Int32) (v4 : Int32) (v5 : Int32) (t0 : Int32) : Prop := (t0 = 0 → w_X12_amend_b140 q K35 S v0 v1 v2 v3 v5 t0 v4) ∧ (¬ t0 = 0 → w_X12_amend_b140 q K35 S v0 v1 v2 v3 v5 t0 v5)
set_option maxRecDepth 100000 in
set_option maxHeartbeats 4000000 in
theorem t_X12_amend_b126 (hC : zC p R s m args c cX12_amend 8 RX12 G B mc ms 3 106) (hr : meth.sig.returnType = (Option.some FieldType.int)) (hlk : meth.locks = false) (hnm : meth.name = "amend") {q : Int32 → hS → Prop} {K35 : hS → (Nat) → (Int32) → (Int32) → (Int32) → (Int32) → (Int32) → Prop} (hK35 : ∀ {S : hS} {v0 : Nat} {v1 : Int32} {v2 : Int32} {v3 : Int32} {v4 : Int32} {v5 : Int32}, K35 S v0 v1 v2 v3 v4 v5 → Z p l e R s m args below meth c (MQ below (hQ G B (iP q)) args s mc ms (fun r => B ≤ r)) G B mc ms 8 S 0 0 35 [some (.ref v0), some (.int v1), some (.int v2), some (.int v3), some (.int v4), some (.int v5), none, none] []) {S : hS} {v0 : Nat} {v1 : Int32} {v2 : Int32} {v3 : Int32} {v4 : Int32} {v5 : Int32} {t0 : Int32} (hw : w_X12_amend_b126 q K35 S v0 v1 v2 v3 v4 v5 t0) : Z p l e R s m args below meth c (MQ below (hQ G B (iP q)) args s mc ms (fun r => B ≤ r)) G B mc ms 8 S 0 0 126 [some (.ref v0), some (.int v1), some (.int v2), some (.int v3), some (.int v4), some (.int v5), none, none] [.int t0] := by
  unfold w_X12_amend_b126 at hw
  refine z_istore (i := 7) (lv' := [some (.ref v0), some (.int v1), some (.int v2), some (.int v3), some (.int v4), some (.int v5), none, some (.int t0)]) hC dX12_amend_126 (by decide) (hok_n rfl) rfl ?_
  refine z_iload hC dX12_amend_128 rfl ?_
  refine z_if_eq (tgt := 138) hC dX12_amend_130 (by decide) (fun c130 => ?_) (fun c130 => ?_)
  · have hw := hw.1 c130
    refine z_iload hC dX12_amend_138 rfl ?_
    refine z_mask (lv' := [some (.ref v0), some (.int v1), some (.int v2), some (.int v3), none, some (.int v5), none, some (.int t0)]) [true, true, true, true, false, true, false, true] rfl ?_
    exact t_X12_amend_b140 hC hr hlk hnm hK35 hw
  · have hw := hw.2 c130
    refine z_iload hC dX12_amend_133 rfl ?_
    refine z_goto (tgt := 140) hC dX12_amend_135 (by decide) ?_
    refine z_mask (lv' := [some (.ref v0), some (.int v1), some (.int v2), some (.int v3), none, some (.int v5), none, some (.int t0)]) [true, true, true, true, false, true, false, true] rfl ?_
    exact t_X12_amend_b140 hC hr hlk hnm hK35 hw
def w_X12_amend_b125 (q : Int32 → hS → Prop) (K35 : hS → (Nat) → (Int32) → (Int32) → (Int32) → (Int32) → (Int32) → Prop) (S : hS) (v0 : Nat) (v1 : Int32) (v2 : Int32) (v3 : Int32) (v4 : Int32) (v5 : Int32) : Prop := w_X12_amend_b126 q K35 S v0 v1 v2 v3 v4 v5 0
set_option maxRecDepth 100000 in
set_option maxHeartbeats 4000000 in
theorem t_X12_amend_b125 (hC : zC p R s m args c cX12_amend 8 RX12 G B mc ms 3 106) (hr : meth.sig.returnType = (Option.some FieldType.int)) (hlk : meth.locks = false) (hnm : meth.name = "amend") {q : Int32 → hS → Prop} {K35 : hS → (Nat) → (Int32) → (Int32) → (Int32) → (Int32) → (Int32) → Prop} (hK35 : ∀ {S : hS} {v0 : Nat} {v1 : Int32} {v2 : Int32} {v3 : Int32} {v4 : Int32} {v5 : Int32}, K35 S v0 v1 v2 v3 v4 v5 → Z p l e R s m args below meth c (MQ below (hQ G B (iP q)) args s mc ms (fun r => B ≤ r)) G B mc ms 8 S 0 0 35 [some (.ref v0), some (.int v1), some (.int v2), some (.int v3), some (.int v4), some (.int v5), none, none] []) {S : hS} {v0 : Nat} {v1 : Int32} {v2 : Int32} {v3 : Int32} {v4 : Int32} {v5 : Int32} (hw : w_X12_amend_b125 q K35 S v0 v1 v2 v3 v4 v5) : Z p l e R s m args below meth c (MQ below (hQ G B (iP q)) args s mc ms (fun r => B ≤ r)) G B mc ms 8 S 0 0 125 [some (.ref v0), some (.int v1), some (.int v2), some (.int v3), some (.int v4), some (.int v5), none, none] [] := by
  unfold w_X12_amend_b125 at hw
  refine z_iconst hC ic_0 dX12_amend_125 ?_
  refine z_mask (lv' := [some (.ref v0), some (.int v1), some (.int v2), some (.int v3), some (.int v4), some (.int v5), none, none]) [true, true, true, true, true, true, false, false] rfl ?_
  exact t_X12_amend_b126 hC hr hlk hnm hK35 hw
def w_X12_amend_b54 (q : Int32 → hS → Prop) (K35 : hS → (Nat) → (Int32) → (Int32) → (Int32) → (Int32) → (Int32) → Prop) : Nat → hS → (Nat) → (Int32) → (Int32) → (Int32) → (Int32) → (Int32) → (Int32) → (Int32) → Prop
  | 0, _, _, _, _, _, _, _, _, _ => False
  | n + 1, S, v0, v1, v2, v3, v4, v5, v6, v7 => gP S v0 12 3 (fun x57 => aI S x57 1 (fun x61 => (x61 ≤ v7 → gP S v0 12 3 (fun x100 => aI S x100 (132 + v1) (fun x108 => (x108 < v6 → w_X12_amend_b125 q K35 S v0 v1 v2 v3 v4 v5) ∧ (¬ x108 < v6 → w_X12_ones (fun x114 S => (v3 ≤ x114 → w_X12_amend_b125 q K35 S v0 v1 v2 v3 v4 v5) ∧ (¬ v3 ≤ x114 → w_X12_amend_b126 q K35 S v0 v1 v2 v3 v4 v5 1)) S v5)))) ∧ (¬ x61 ≤ v7 → w_X12_is (fun x71 S => (x71 = 0 → oK S v0 12 ∧ w_X12_rights (fun x85 S => w_X12_amend_b88 q K35 (fun S v0 v1 v2 v3 v4 v5 v6 v7 => w_X12_amend_b54 q K35 n S v0 v1 v2 v3 v4 v5 v6 v7) S v0 v1 v2 v3 v4 v5 v7 x85 v6) S v0 v7 v1) ∧ (¬ x71 = 0 → w_X12_amend_b88 q K35 (fun S v0 v1 v2 v3 v4 v5 v6 v7 => w_X12_amend_b54 q K35 n S v0 v1 v2 v3 v4 v5 v6 v7) S v0 v1 v2 v3 v4 v5 v7 0 v6)) S v5 v7)))
set_option maxRecDepth 100000 in
set_option maxHeartbeats 4000000 in
theorem t_X12_amend_b54 (hC : zC p R s m args c cX12_amend 8 RX12 G B mc ms 3 106) (hr : meth.sig.returnType = (Option.some FieldType.int)) (hlk : meth.locks = false) (hnm : meth.name = "amend") {q : Int32 → hS → Prop} {K35 : hS → (Nat) → (Int32) → (Int32) → (Int32) → (Int32) → (Int32) → Prop} (hK35 : ∀ {S : hS} {v0 : Nat} {v1 : Int32} {v2 : Int32} {v3 : Int32} {v4 : Int32} {v5 : Int32}, K35 S v0 v1 v2 v3 v4 v5 → Z p l e R s m args below meth c (MQ below (hQ G B (iP q)) args s mc ms (fun r => B ≤ r)) G B mc ms 8 S 0 0 35 [some (.ref v0), some (.int v1), some (.int v2), some (.int v3), some (.int v4), some (.int v5), none, none] []) (n : Nat) : ∀ {S : hS} {v0 : Nat} {v1 : Int32} {v2 : Int32} {v3 : Int32} {v4 : Int32} {v5 : Int32} {v6 : Int32} {v7 : Int32} (hw : w_X12_amend_b54 q K35 n S v0 v1 v2 v3 v4 v5 v6 v7), Z p l e R s m args below meth c (MQ below (hQ G B (iP q)) args s mc ms (fun r => B ≤ r)) G B mc ms 8 S 0 0 54 [some (.ref v0), some (.int v1), some (.int v2), some (.int v3), some (.int v4), some (.int v5), some (.int v6), some (.int v7)] [] := by
  induction n with
  | zero => intro S v0 v1 v2 v3 v4 v5 v6 v7 hw; exact (by rw [w_X12_amend_b54] at hw; exact hw.elim)
  | succ n ih =>
    intro S v0 v1 v2 v3 v4 v5 v6 v7 hw
    rw [w_X12_amend_b54] at hw
    refine z_iload hC dX12_amend_54 rfl ?_
    refine z_aload_n hC dX12_amend_56 rfl rfl ?_
    refine z_getP hC FX12 3 lk_1358 dX12_amend_57 (by decide) hw (fun x57 hw => ?_)
    refine z_iconst hC ic_1 dX12_amend_60 ?_
    refine z_aldI hC dX12_amend_61 hw (fun x61 hw => ?_)
    refine z_icmp_ge (tgt := 97) hC dX12_amend_62 (by decide) (fun c62 => ?_) (fun c62 => ?_)
    · have hw := hw.1 c62
      refine z_iload hC dX12_amend_97 rfl ?_
      refine z_aload_n hC dX12_amend_99 rfl rfl ?_
      refine z_getP hC FX12 3 lk_1358 dX12_amend_100 (by decide) hw (fun x100 hw => ?_)
      refine z_sipush hC si_132 dX12_amend_103 ?_
      refine z_iload_n hC dX12_amend_106 rfl rfl ?_
      refine z_iadd hC dX12_amend_107 ?_
      refine z_aldI hC dX12_amend_108 hw (fun x108 hw => ?_)
      refine z_icmp_gt (tgt := 125) hC dX12_amend_109 (by decide) (fun c109 => ?_) (fun c109 => ?_)
      · have hw := hw.1 c109
        refine z_mask (lv' := [some (.ref v0), some (.int v1), some (.int v2), some (.int v3), some (.int v4), some (.int v5), none, none]) [true, true, true, true, true, true, false, false] rfl ?_
        exact t_X12_amend_b125 hC hr hlk hnm hK35 hw
      · have hw := hw.2 c109
        refine z_iload hC dX12_amend_112 rfl ?_
        refine z_callS (ku' := 0) (kv' := 0) (n := 1) (As := [.int v5]) (st := []) hC (c_X12_ones l G B S v5 _) hw lk_1908 lk_1909 lk_133 lk_1910 hd_X12_ones rfl rfl (Nat.le_of_ble_eq_true rfl) (Nat.le_of_ble_eq_true rfl) rfl (Nat.le_of_ble_eq_true rfl) dX12_amend_114 (Nat.le_refl 0) (Nat.le_refl 0) (kI (fun x114 S hw => ?_))
        refine z_iload_n hC dX12_amend_117 rfl rfl ?_
        refine z_icmp_ge (tgt := 125) hC dX12_amend_118 (by decide) (fun c118 => ?_) (fun c118 => ?_)
        · have hw := hw.1 c118
          refine z_mask (lv' := [some (.ref v0), some (.int v1), some (.int v2), some (.int v3), some (.int v4), some (.int v5), none, none]) [true, true, true, true, true, true, false, false] rfl ?_
          exact t_X12_amend_b125 hC hr hlk hnm hK35 hw
        · have hw := hw.2 c118
          refine z_iconst hC ic_1 dX12_amend_121 ?_
          refine z_goto (tgt := 126) hC dX12_amend_122 (by decide) ?_
          refine z_mask (lv' := [some (.ref v0), some (.int v1), some (.int v2), some (.int v3), some (.int v4), some (.int v5), none, none]) [true, true, true, true, true, true, false, false] rfl ?_
          exact t_X12_amend_b126 hC hr hlk hnm hK35 hw
    · have hw := hw.2 c62
      refine z_iload hC dX12_amend_65 rfl ?_
      refine z_iload hC dX12_amend_67 rfl ?_
      refine z_iload hC dX12_amend_69 rfl ?_
      refine z_callS (ku' := 0) (kv' := 0) (n := 2) (As := [.int v5, .int v7]) (st := [.int v6]) hC (c_X12_is l G B S v5 v7 _) hw lk_1657 lk_1658 lk_133 lk_1659 hd_X12_is rfl rfl (Nat.le_of_ble_eq_true rfl) (Nat.le_of_ble_eq_true rfl) rfl (Nat.le_of_ble_eq_true rfl) dX12_amend_71 (Nat.le_refl 0) (Nat.le_refl 0) (kI (fun x71 S hw => ?_))
      refine z_if_eq (tgt := 81) hC dX12_amend_74 (by decide) (fun c74 => ?_) (fun c74 => ?_)
      · have hw := hw.1 c74
        refine z_aload_n hC dX12_amend_81 rfl rfl ?_
        refine z_iload hC dX12_amend_82 rfl ?_
        refine z_iload_n hC dX12_amend_84 rfl rfl ?_
        refine z_callV (ku' := 0) (kv' := 0) (n := 2) (As := [.int v7, .int v1]) (st := [.int v6]) hC (c_X12_rights l G B S v0 v7 v1 _) hw.2 hw.1 rfl lk_1588 lk_1590 lk_46 lk_133 lk_1591 hd_X12_rights rfl rfl (Nat.le_of_ble_eq_true rfl) (Nat.le_of_ble_eq_true rfl) rfl (Nat.le_of_ble_eq_true rfl) dX12_amend_85 (Nat.le_refl 0) (Nat.le_refl 0) (kI (fun x85 S hw => ?_))
        refine z_mask (lv' := [some (.ref v0), some (.int v1), some (.int v2), some (.int v3), some (.int v4), some (.int v5), none, some (.int v7)]) [true, true, true, true, true, true, false, true] rfl ?_
        exact t_X12_amend_b88 hC hr hlk hnm hK35 (fun hw => ih hw) hw
      · have hw := hw.2 c74
        refine z_iconst hC ic_0 dX12_amend_77 ?_
        refine z_goto (tgt := 88) hC dX12_amend_78 (by decide) ?_
        refine z_mask (lv' := [some (.ref v0), some (.int v1), some (.int v2), some (.int v3), some (.int v4), some (.int v5), none, some (.int v7)]) [true, true, true, true, true, true, false, true] rfl ?_
        exact t_X12_amend_b88 hC hr hlk hnm hK35 (fun hw => ih hw) hw
def w_X12_amend_b35 (q : Int32 → hS → Prop) : Nat → hS → (Nat) → (Int32) → (Int32) → (Int32) → (Int32) → (Int32) → Prop
  | 0, _, _, _, _, _, _, _ => False
  | n + 1, S, v0, v1, v2, v3, v4, v5 => gP S v0 12 3 (fun x39 => aI S x39 1 (fun x43 => ((1 <<< (x43 &&& 31)) ≤ v5 → (¬ v2 = 0 → q v4 S) ∧ (v2 = 0 → q v3 S)) ∧ (¬ (1 <<< (x43 &&& 31)) ≤ v5 → (∃ n54 : Nat, w_X12_amend_b54 q (fun S v0 v1 v2 v3 v4 v5 => w_X12_amend_b35 q n S v0 v1 v2 v3 v4 v5) n54 S v0 v1 v2 v3 v4 v5 0 0))))
set_option maxRecDepth 100000 in
set_option maxHeartbeats 4000000 in
theorem t_X12_amend_b35 (hC : zC p R s m args c cX12_amend 8 RX12 G B mc ms 3 106) (hr : meth.sig.returnType = (Option.some FieldType.int)) (hlk : meth.locks = false) (hnm : meth.name = "amend") {q : Int32 → hS → Prop} (n : Nat) : ∀ {S : hS} {v0 : Nat} {v1 : Int32} {v2 : Int32} {v3 : Int32} {v4 : Int32} {v5 : Int32} (hw : w_X12_amend_b35 q n S v0 v1 v2 v3 v4 v5), Z p l e R s m args below meth c (MQ below (hQ G B (iP q)) args s mc ms (fun r => B ≤ r)) G B mc ms 8 S 0 0 35 [some (.ref v0), some (.int v1), some (.int v2), some (.int v3), some (.int v4), some (.int v5), none, none] [] := by
  induction n with
  | zero => intro S v0 v1 v2 v3 v4 v5 hw; exact (by rw [w_X12_amend_b35] at hw; exact hw.elim)
  | succ n ih =>
    intro S v0 v1 v2 v3 v4 v5 hw
    rw [w_X12_amend_b35] at hw
    refine z_iload hC dX12_amend_35 rfl ?_
    refine z_iconst hC ic_1 dX12_amend_37 ?_
    refine z_aload_n hC dX12_amend_38 rfl rfl ?_
    refine z_getP hC FX12 3 lk_1358 dX12_amend_39 (by decide) hw (fun x39 hw => ?_)
    refine z_iconst hC ic_1 dX12_amend_42 ?_
    refine z_aldI hC dX12_amend_43 hw (fun x43 hw => ?_)
    refine z_ishl hC dX12_amend_44 ?_
    refine z_icmp_ge (tgt := 163) hC dX12_amend_45 (by decide) (fun c45 => ?_) (fun c45 => ?_)
    · have hw := hw.1 c45
      refine z_iload_n hC dX12_amend_163 rfl rfl ?_
      refine z_if_ne (tgt := 171) hC dX12_amend_164 (by decide) (fun c164 => ?_) (fun c164 => ?_)
      · have hw := hw.1 c164
        refine z_iload hC dX12_amend_171 rfl ?_
        exact z_iret hC hr hlk dX12_amend_173 ⟨_, rfl, hw⟩
      · have hw := hw.2 c164
        refine z_iload_n hC dX12_amend_167 rfl rfl ?_
        refine z_goto (tgt := 173) hC dX12_amend_168 (by decide) ?_
        exact z_iret hC hr hlk dX12_amend_173 ⟨_, rfl, hw⟩
    · have hw := hw.2 c45
      refine z_iconst hC ic_0 dX12_amend_48 ?_
      refine z_istore (i := 6) (lv' := [some (.ref v0), some (.int v1), some (.int v2), some (.int v3), some (.int v4), some (.int v5), some (.int 0), none]) hC dX12_amend_49 (by decide) (hok_v rfl rfl) rfl ?_
      refine z_iconst hC ic_0 dX12_amend_51 ?_
      refine z_istore (i := 7) (lv' := [some (.ref v0), some (.int v1), some (.int v2), some (.int v3), some (.int v4), some (.int v5), some (.int 0), some (.int 0)]) hC dX12_amend_52 (by decide) (hok_v rfl rfl) rfl ?_
      refine z_mask (lv' := [some (.ref v0), some (.int v1), some (.int v2), some (.int v3), some (.int v4), some (.int v5), some (.int 0), some (.int 0)]) [true, true, true, true, true, true, true, true] rfl ?_
      obtain ⟨n54, hw⟩ := hw
      exact t_X12_amend_b54 hC hr hlk hnm (fun hw => ih hw) n54 hw
def w_X12_amend (q : Int32 → hS → Prop) (S : hS) (v0 : Nat) (v1 : Int32) (v2 : Int32) : Prop := pI S v0 12 0 0 (fun S => oK S v0 12 ∧ w_X12_isHouse (fun x7 S => (x7 = 0 → q (-1) S) ∧ (¬ x7 = 0 → w_X12_in (fun x17 S => (¬ x17 = 0 → (∃ n35 : Nat, w_X12_amend_b35 q n35 S v0 v1 v2 100000000 0 0)) ∧ (x17 = 0 → q (-1) S)) S (Int32.toInt64 v2) 0 1)) S v0 v1)
set_option maxRecDepth 100000 in
set_option maxHeartbeats 4000000 in
theorem c_X12_amend (l : Launch) (G : hG) (B : Nat) (S : hS) (v0 : Nat) (v1 : Int32) (v2 : Int32) (q : Int32 → hS → Prop) : Met l yX12_amend (hws yX12_amend cX12_amend 8 (Option.some FieldType.int)) ({ frames := 3, cells := 0, slots := 0, locals := 106 }) (hPc G B S [.ref v0, .int v1, .int v2] (w_X12_amend q S v0 v1 v2)) (hQ G B (iP q)) (0) (0) (fun r => B ≤ r) := by
  refine hMet (rm := { frames := 3, cells := 0, slots := 0, locals := 106 }) (lv := [some (.ref v0), some (.int v1), some (.int v2), none, none, none, none, none]) (own := RX12) (fr := 3) (lo := 106) (by decide) rfl rfl rfl (Nat.le_of_ble_eq_true rfl) rfl (fun hw p e R s m args below meth c hC hr hlk hnm => ?_)
  unfold w_X12_amend at hw
  refine z_aload_n hC dX12_amend_0 rfl rfl ?_
  refine z_iconst hC ic_0 dX12_amend_1 ?_
  refine z_putI hC FX12 0 lk_1355 dX12_amend_2 (by decide) rfl rfl hw (fun S hw => ?_)
  refine z_aload_n hC dX12_amend_5 rfl rfl ?_
  refine z_iload_n hC dX12_amend_6 rfl rfl ?_
  refine z_callV (ku' := 0) (kv' := 0) (n := 1) (As := [.int v1]) (st := []) hC (c_X12_isHouse l G B S v0 v1 _) hw.2 hw.1 rfl lk_1580 lk_1582 lk_44 lk_133 lk_1583 hd_X12_isHouse rfl rfl (Nat.le_of_ble_eq_true rfl) (Nat.le_of_ble_eq_true rfl) rfl (Nat.le_of_ble_eq_true rfl) dX12_amend_7 (Nat.le_refl 0) (Nat.le_refl 0) (kI (fun x7 S hw => ?_))
  refine z_if_eq (tgt := 23) hC dX12_amend_10 (by decide) (fun c10 => ?_) (fun c10 => ?_)
  · have hw := hw.1 c10
    refine z_iconst hC ic_m1 dX12_amend_23 ?_
    exact z_iret hC hr hlk dX12_amend_24 ⟨_, rfl, hw⟩
  · have hw := hw.2 c10
    refine z_iload_n hC dX12_amend_13 rfl rfl ?_
    refine z_i2l hC rfl dX12_amend_14 ?_
    refine z_lconst hC lc_0 dX12_amend_15 ?_
    refine z_lconst hC lc_1 dX12_amend_16 ?_
    refine z_callS (ku' := 0) (kv' := 0) (n := 3) (As := [.long (Int32.toInt64 v2), .long 0, .long 1]) (st := []) hC (c_X12_in l G B S (Int32.toInt64 v2) 0 1 _) hw lk_1556 lk_1557 lk_133 lk_1558 hd_X12_in rfl rfl (Nat.le_of_ble_eq_true rfl) (Nat.le_of_ble_eq_true rfl) rfl (Nat.le_of_ble_eq_true rfl) dX12_amend_17 (Nat.le_refl 0) (Nat.le_refl 0) (kI (fun x17 S hw => ?_))
    refine z_if_ne (tgt := 25) hC dX12_amend_20 (by decide) (fun c20 => ?_) (fun c20 => ?_)
    · have hw := hw.1 c20
      refine z_ldcw hC lk_1982 dX12_amend_25 ?_
      refine z_istore_n (i := 3) (lv' := [some (.ref v0), some (.int v1), some (.int v2), some (.int 100000000), none, none, none, none]) hC rfl dX12_amend_28 (by decide) (hok_v rfl rfl) rfl ?_
      refine z_iconst hC ic_0 dX12_amend_29 ?_
      refine z_istore (i := 4) (lv' := [some (.ref v0), some (.int v1), some (.int v2), some (.int 100000000), some (.int 0), none, none, none]) hC dX12_amend_30 (by decide) (hok_v rfl rfl) rfl ?_
      refine z_iconst hC ic_0 dX12_amend_32 ?_
      refine z_istore (i := 5) (lv' := [some (.ref v0), some (.int v1), some (.int v2), some (.int 100000000), some (.int 0), some (.int 0), none, none]) hC dX12_amend_33 (by decide) (hok_v rfl rfl) rfl ?_
      refine z_mask (lv' := [some (.ref v0), some (.int v1), some (.int v2), some (.int 100000000), some (.int 0), some (.int 0), none, none]) [true, true, true, true, true, true, false, false] rfl ?_
      obtain ⟨n35, hw⟩ := hw
      exact t_X12_amend_b35 hC hr hlk hnm n35 hw
    · have hw := hw.2 c20
      refine z_iconst hC ic_m1 dX12_amend_23 ?_
      exact z_iret hC hr hlk dX12_amend_24 ⟨_, rfl, hw⟩
end
