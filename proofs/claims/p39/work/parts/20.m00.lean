section
variable {p : Program} {l : Launch} {e : Env} {R : Room} {s : State} {m : MethodId} {args : Array Value} {below : List Frame} {meth : Method} {c : Code} {G : hG} {B mc ms : Nat}
def w_X12_in (q : Int32 → hS → Prop) (S : hS) (v0 : Int64) (v2 : Int64) (v4 : Int64) : Prop := ((lg_cmp v0 v2) < 0 → q 0 S) ∧ (¬ (lg_cmp v0 v2) < 0 → (0 < (lg_cmp v0 v4) → q 0 S) ∧ (¬ 0 < (lg_cmp v0 v4) → q 1 S))
set_option maxRecDepth 100000 in
set_option maxHeartbeats 4000000 in
theorem c_X12_in (l : Launch) (G : hG) (B : Nat) (S : hS) (v0 : Int64) (v2 : Int64) (v4 : Int64) (q : Int32 → hS → Prop) : Met l yX12_in (hws yX12_in cX12_in 6 (Option.some FieldType.boolean)) ({ frames := 1, cells := 0, slots := 0, locals := 60 }) (hPc G B S [.long v0, .long v2, .long v4] (w_X12_in q S v0 v2 v4)) (hQ G B (iP q)) 0 0 (fun r => B ≤ r) := by
  refine hMet (rm := { frames := 1, cells := 0, slots := 0, locals := 60 }) (lv := [some (.long v0), none, some (.long v2), none, some (.long v4), none]) (own := RX12) (fr := 1) (lo := 60) (by decide) rfl rfl rfl (Nat.le_of_ble_eq_true rfl) rfl (fun hw p e R s m args below meth c hC hr hlk hnm => ?_)
  unfold w_X12_in at hw
  refine z_lload_n hC dX12_in_0 rfl rfl ?_
  refine z_lload_n hC dX12_in_1 rfl rfl ?_
  refine z_lcmp hC dX12_in_2 ?_
  refine z_if_lt (tgt := 17) hC dX12_in_3 (by decide) (fun c3 => ?_) (fun c3 => ?_)
  · have hw := hw.1 c3
    refine z_iconst hC ic_0 dX12_in_17 ?_
    exact z_zret hC hr hlk (hz01 (Or.inl rfl)).1 dX12_in_18 ⟨_, rfl, hw⟩
  · have hw := hw.2 c3
    refine z_lload_n hC dX12_in_6 rfl rfl ?_
    refine z_lload hC dX12_in_7 rfl ?_
    refine z_lcmp hC dX12_in_9 ?_
    refine z_if_gt (tgt := 17) hC dX12_in_10 (by decide) (fun c10 => ?_) (fun c10 => ?_)
    · have hw := hw.1 c10
      refine z_iconst hC ic_0 dX12_in_17 ?_
      exact z_zret hC hr hlk (hz01 (Or.inl rfl)).1 dX12_in_18 ⟨_, rfl, hw⟩
    · have hw := hw.2 c10
      refine z_iconst hC ic_1 dX12_in_13 ?_
      refine z_goto (tgt := 18) hC dX12_in_14 (by decide) ?_
      exact z_zret hC hr hlk (hz01 (Or.inr rfl)).1 dX12_in_18 ⟨_, rfl, hw⟩
theorem hd_X12_in : yX12_in.cls = RX12 ∧ (yX12_in.cls ≠ "java/lang/invoke/MethodHandle" ∧ yX12_in.cls ≠ "java/lang/invoke/VarHandle" ∧ (parseMethodDescriptor yX12_in.desc).map (fun d => d.parameters.length) = some 3) := by decide +kernel
end
section
variable {p : Program} {l : Launch} {e : Env} {R : Room} {s : State} {m : MethodId} {args : Array Value} {below : List Frame} {meth : Method} {c : Code} {G : hG} {B mc ms : Nat}
def w_X12_is (q : Int32 → hS → Prop) (S : hS) (v0 : Int32) (v1 : Int32) : Prop := (¬ ((v0 >>> (v1 &&& 31)) &&& 1) = 1 → q 0 S) ∧ (((v0 >>> (v1 &&& 31)) &&& 1) = 1 → q 1 S)
set_option maxRecDepth 100000 in
set_option maxHeartbeats 4000000 in
theorem c_X12_is (l : Launch) (G : hG) (B : Nat) (S : hS) (v0 : Int32) (v1 : Int32) (q : Int32 → hS → Prop) : Met l yX12_is (hws yX12_is cX12_is 2 (Option.some FieldType.boolean)) ({ frames := 1, cells := 0, slots := 0, locals := 60 }) (hPc G B S [.int v0, .int v1] (w_X12_is q S v0 v1)) (hQ G B (iP q)) 0 0 (fun r => B ≤ r) := by
  refine hMet (rm := { frames := 1, cells := 0, slots := 0, locals := 60 }) (lv := [some (.int v0), some (.int v1)]) (own := RX12) (fr := 1) (lo := 60) (by decide) rfl rfl rfl (Nat.le_of_ble_eq_true rfl) rfl (fun hw p e R s m args below meth c hC hr hlk hnm => ?_)
  unfold w_X12_is at hw
  refine z_iload_n hC dX12_is_0 rfl rfl ?_
  refine z_iload_n hC dX12_is_1 rfl rfl ?_
  refine z_ishr hC dX12_is_2 ?_
  refine z_iconst hC ic_1 dX12_is_3 ?_
  refine z_iand hC dX12_is_4 ?_
  refine z_iconst hC ic_1 dX12_is_5 ?_
  refine z_icmp_ne (tgt := 13) hC dX12_is_6 (by decide) (fun c6 => ?_) (fun c6 => ?_)
  · have hw := hw.1 c6
    refine z_iconst hC ic_0 dX12_is_13 ?_
    exact z_zret hC hr hlk (hz01 (Or.inl rfl)).1 dX12_is_14 ⟨_, rfl, hw⟩
  · have hw := hw.2 c6
    refine z_iconst hC ic_1 dX12_is_9 ?_
    refine z_goto (tgt := 14) hC dX12_is_10 (by decide) ?_
    exact z_zret hC hr hlk (hz01 (Or.inr rfl)).1 dX12_is_14 ⟨_, rfl, hw⟩
theorem hd_X12_is : yX12_is.cls = RX12 ∧ (yX12_is.cls ≠ "java/lang/invoke/MethodHandle" ∧ yX12_is.cls ≠ "java/lang/invoke/VarHandle" ∧ (parseMethodDescriptor yX12_is.desc).map (fun d => d.parameters.length) = some 2) := by decide +kernel
end
section
variable {p : Program} {l : Launch} {e : Env} {R : Room} {s : State} {m : MethodId} {args : Array Value} {below : List Frame} {meth : Method} {c : Code} {G : hG} {B mc ms : Nat}
def w_X12_ones_b4 (q : Int32 → hS → Prop) : Nat → hS → (Int32) → (Int32) → (Int32) → Prop
  | 0, _, _, _, _ => False
  | n + 1, S, v0, v1, v2 => (8 ≤ v2 → q v1 S) ∧ (¬ 8 ≤ v2 → ∀ y17 : Int32, y17 = (v1 + ((v0 >>> (v2 &&& 31)) &&& 1)) → ∀ y18 : Int32, y18 = v2 + 1 → w_X12_ones_b4 q n S v0 y17 y18)
set_option maxRecDepth 100000 in
set_option maxHeartbeats 4000000 in
theorem t_X12_ones_b4 (hC : zC p R s m args c cX12_ones 3 RX12 G B mc ms 1 60) (hr : meth.sig.returnType = (Option.some FieldType.int)) (hlk : meth.locks = false) (hnm : meth.name = "ones") {q : Int32 → hS → Prop} (n : Nat) : ∀ {S : hS} {v0 : Int32} {v1 : Int32} {v2 : Int32} (hw : w_X12_ones_b4 q n S v0 v1 v2), Z p l e R s m args below meth c (MQ below (hQ G B (iP q)) args s mc ms (fun r => B ≤ r)) G B mc ms 3 S 0 0 4 [some (.int v0), some (.int v1), some (.int v2)] [] := by
  induction n with
  | zero => intro S v0 v1 v2 hw; exact (by rw [w_X12_ones_b4] at hw; exact hw.elim)
  | succ n ih =>
    intro S v0 v1 v2 hw
    rw [w_X12_ones_b4] at hw
    refine z_iload_n hC dX12_ones_4 rfl rfl ?_
    refine z_bipush hC bi_8 dX12_ones_5 ?_
    refine z_icmp_ge (tgt := 24) hC dX12_ones_7 (by decide) (fun c7 => ?_) (fun c7 => ?_)
    · have hw := hw.1 c7
      refine z_iload_n hC dX12_ones_24 rfl rfl ?_
      exact z_iret hC hr hlk dX12_ones_25 ⟨_, rfl, hw⟩
    · have hw := hw.2 c7
      refine z_iload_n hC dX12_ones_10 rfl rfl ?_
      refine z_iload_n hC dX12_ones_11 rfl rfl ?_
      refine z_iload_n hC dX12_ones_12 rfl rfl ?_
      refine z_ishr hC dX12_ones_13 ?_
      refine z_iconst hC ic_1 dX12_ones_14 ?_
      refine z_iand hC dX12_ones_15 ?_
      refine z_iadd hC dX12_ones_16 ?_
      refine z_nmI (fun y17 e17 => ?_)
      have hw := hw y17 e17
      refine z_istore_n (i := 1) (lv' := [some (.int v0), some (.int y17), some (.int v2)]) hC rfl dX12_ones_17 (by decide) (hok_v rfl rfl) rfl ?_
      refine z_inc (i := 2) hC ic_1 dX12_ones_18 rfl (by decide) (hok_v rfl rfl) (fun y18 e18 => ?_)
      have hw := hw y18 e18
      refine z_goto (tgt := 4) hC dX12_ones_21 (by decide) ?_
      refine z_mask (lv' := [some (.int v0), some (.int y17), some (.int y18)]) [true, true, true] rfl ?_
      exact ih hw
def w_X12_ones (q : Int32 → hS → Prop) (S : hS) (v0 : Int32) : Prop := (∃ n4 : Nat, w_X12_ones_b4 q n4 S v0 0 0)
set_option maxRecDepth 100000 in
set_option maxHeartbeats 4000000 in
theorem c_X12_ones (l : Launch) (G : hG) (B : Nat) (S : hS) (v0 : Int32) (q : Int32 → hS → Prop) : Met l yX12_ones (hws yX12_ones cX12_ones 3 (Option.some FieldType.int)) ({ frames := 1, cells := 0, slots := 0, locals := 60 }) (hPc G B S [.int v0] (w_X12_ones q S v0)) (hQ G B (iP q)) 0 0 (fun r => B ≤ r) := by
  refine hMet (rm := { frames := 1, cells := 0, slots := 0, locals := 60 }) (lv := [some (.int v0), none, none]) (own := RX12) (fr := 1) (lo := 60) (by decide) rfl rfl rfl (Nat.le_of_ble_eq_true rfl) rfl (fun hw p e R s m args below meth c hC hr hlk hnm => ?_)
  unfold w_X12_ones at hw
  refine z_iconst hC ic_0 dX12_ones_0 ?_
  refine z_istore_n (i := 1) (lv' := [some (.int v0), some (.int 0), none]) hC rfl dX12_ones_1 (by decide) (hok_v rfl rfl) rfl ?_
  refine z_iconst hC ic_0 dX12_ones_2 ?_
  refine z_istore_n (i := 2) (lv' := [some (.int v0), some (.int 0), some (.int 0)]) hC rfl dX12_ones_3 (by decide) (hok_v rfl rfl) rfl ?_
  refine z_mask (lv' := [some (.int v0), some (.int 0), some (.int 0)]) [true, true, true] rfl ?_
  obtain ⟨n4, hw⟩ := hw
  exact t_X12_ones_b4 hC hr hlk hnm n4 hw
theorem hd_X12_ones : yX12_ones.cls = RX12 ∧ (yX12_ones.cls ≠ "java/lang/invoke/MethodHandle" ∧ yX12_ones.cls ≠ "java/lang/invoke/VarHandle" ∧ (parseMethodDescriptor yX12_ones.desc).map (fun d => d.parameters.length) = some 1) := by decide +kernel
end
section
variable {p : Program} {l : Launch} {e : Env} {R : Room} {s : State} {m : MethodId} {args : Array Value} {below : List Frame} {meth : Method} {c : Code} {G : hG} {B mc ms : Nat}
def w_X12_within (q : Int32 → hS → Prop) (S : hS) (v0 : Int64) (v2 : Int32) (v3 : Int32) : Prop := (0 ≤ (lg_cmp v0 (Int32.toInt64 v2)) → ((lg_cmp v0 (Int32.toInt64 v3)) ≤ 0 → q (Int64.toInt32 v0) S) ∧ (¬ (lg_cmp v0 (Int32.toInt64 v3)) ≤ 0 → q v3 S)) ∧ (¬ 0 ≤ (lg_cmp v0 (Int32.toInt64 v2)) → q v2 S)
set_option maxRecDepth 100000 in
set_option maxHeartbeats 4000000 in
theorem c_X12_within (l : Launch) (G : hG) (B : Nat) (S : hS) (v0 : Int64) (v2 : Int32) (v3 : Int32) (q : Int32 → hS → Prop) : Met l yX12_within (hws yX12_within cX12_within 4 (Option.some FieldType.int)) ({ frames := 1, cells := 0, slots := 0, locals := 60 }) (hPc G B S [.long v0, .int v2, .int v3] (w_X12_within q S v0 v2 v3)) (hQ G B (iP q)) 0 0 (fun r => B ≤ r) := by
  refine hMet (rm := { frames := 1, cells := 0, slots := 0, locals := 60 }) (lv := [some (.long v0), none, some (.int v2), some (.int v3)]) (own := RX12) (fr := 1) (lo := 60) (by decide) rfl rfl rfl (Nat.le_of_ble_eq_true rfl) rfl (fun hw p e R s m args below meth c hC hr hlk hnm => ?_)
  unfold w_X12_within at hw
  refine z_lload_n hC dX12_within_0 rfl rfl ?_
  refine z_iload_n hC dX12_within_1 rfl rfl ?_
  refine z_i2l hC rfl dX12_within_2 ?_
  refine z_lcmp hC dX12_within_3 ?_
  refine z_if_ge (tgt := 11) hC dX12_within_4 (by decide) (fun c4 => ?_) (fun c4 => ?_)
  · have hw := hw.1 c4
    refine z_lload_n hC dX12_within_11 rfl rfl ?_
    refine z_iload_n hC dX12_within_12 rfl rfl ?_
    refine z_i2l hC rfl dX12_within_13 ?_
    refine z_lcmp hC dX12_within_14 ?_
    refine z_if_le (tgt := 22) hC dX12_within_15 (by decide) (fun c15 => ?_) (fun c15 => ?_)
    · have hw := hw.1 c15
      refine z_lload_n hC dX12_within_22 rfl rfl ?_
      refine z_l2i hC rfl dX12_within_23 ?_
      exact z_iret hC hr hlk dX12_within_24 ⟨_, rfl, hw⟩
    · have hw := hw.2 c15
      refine z_iload_n hC dX12_within_18 rfl rfl ?_
      refine z_goto (tgt := 24) hC dX12_within_19 (by decide) ?_
      exact z_iret hC hr hlk dX12_within_24 ⟨_, rfl, hw⟩
  · have hw := hw.2 c4
    refine z_iload_n hC dX12_within_7 rfl rfl ?_
    refine z_goto (tgt := 24) hC dX12_within_8 (by decide) ?_
    exact z_iret hC hr hlk dX12_within_24 ⟨_, rfl, hw⟩
theorem hd_X12_within : yX12_within.cls = RX12 ∧ (yX12_within.cls ≠ "java/lang/invoke/MethodHandle" ∧ yX12_within.cls ≠ "java/lang/invoke/VarHandle" ∧ (parseMethodDescriptor yX12_within.desc).map (fun d => d.parameters.length) = some 3) := by decide +kernel
end
section
variable {p : Program} {l : Launch} {e : Env} {R : Room} {s : State} {m : MethodId} {args : Array Value} {below : List Frame} {meth : Method} {c : Code} {G : hG} {B mc ms : Nat}
def w_X12_tell_b10 (q : Int32 → hS → Prop) (S : hS) (v0 : Nat) (v1 : Int32) (t0 : Int32) (t1 : Nat) : Prop := pI S t1 12 1 t0 (fun S => (0 ≤ v1 → q v1 S) ∧ (¬ 0 ≤ v1 → gP S v0 12 2 (fun x18 => aI S x18 (-v1) (fun x24 => sI S x18 (-v1) (x24 + 1) (fun S => q v1 S)))))
set_option maxRecDepth 100000 in
set_option maxHeartbeats 4000000 in
theorem t_X12_tell_b10 (hC : zC p R s m args c cX12_tell 2 RX12 G B mc ms 1 60) (hr : meth.sig.returnType = (Option.some FieldType.int)) (hlk : meth.locks = false) (hnm : meth.name = "tell") {q : Int32 → hS → Prop} {S : hS} {v0 : Nat} {v1 : Int32} {t0 : Int32} {t1 : Nat} (hw : w_X12_tell_b10 q S v0 v1 t0 t1) : Z p l e R s m args below meth c (MQ below (hQ G B (iP q)) args s mc ms (fun r => B ≤ r)) G B mc ms 2 S 0 0 10 [some (.ref v0), some (.int v1)] [.int t0, .ref t1] := by
  unfold w_X12_tell_b10 at hw
  refine z_putI hC FX12 1 lk_1356 dX12_tell_10 (by decide) rfl rfl hw (fun S hw => ?_)
  refine z_iload_n hC dX12_tell_13 rfl rfl ?_
  refine z_if_ge (tgt := 28) hC dX12_tell_14 (by decide) (fun c14 => ?_) (fun c14 => ?_)
  · have hw := hw.1 c14
    refine z_iload_n hC dX12_tell_28 rfl rfl ?_
    exact z_iret hC hr hlk dX12_tell_29 ⟨_, rfl, hw⟩
  · have hw := hw.2 c14
    refine z_aload_n hC dX12_tell_17 rfl rfl ?_
    refine z_getP hC FX12 2 lk_1357 dX12_tell_18 (by decide) hw (fun x18 hw => ?_)
    refine z_iload_n hC dX12_tell_21 rfl rfl ?_
    refine z_ineg hC dX12_tell_22 ?_
    refine z_dup2_11 hC rfl rfl dX12_tell_23 ?_
    refine z_aldI hC dX12_tell_24 hw (fun x24 hw => ?_)
    refine z_iconst hC ic_1 dX12_tell_25 ?_
    refine z_iadd hC dX12_tell_26 ?_
    refine z_astI hC dX12_tell_27 hw (fun S hw => ?_)
    refine z_iload_n hC dX12_tell_28 rfl rfl ?_
    exact z_iret hC hr hlk dX12_tell_29 ⟨_, rfl, hw⟩
def w_X12_tell (q : Int32 → hS → Prop) (S : hS) (v0 : Nat) (v1 : Int32) : Prop := (0 ≤ v1 → w_X12_tell_b10 q S v0 v1 0 v0) ∧ (¬ 0 ≤ v1 → w_X12_tell_b10 q S v0 v1 v1 v0)
set_option maxRecDepth 100000 in
set_option maxHeartbeats 4000000 in
theorem c_X12_tell (l : Launch) (G : hG) (B : Nat) (S : hS) (v0 : Nat) (v1 : Int32) (q : Int32 → hS → Prop) : Met l yX12_tell (hws yX12_tell cX12_tell 2 (Option.some FieldType.int)) ({ frames := 1, cells := 0, slots := 0, locals := 60 }) (hPc G B S [.ref v0, .int v1] (w_X12_tell q S v0 v1)) (hQ G B (iP q)) 0 0 (fun r => B ≤ r) := by
  refine hMet (rm := { frames := 1, cells := 0, slots := 0, locals := 60 }) (lv := [some (.ref v0), some (.int v1)]) (own := RX12) (fr := 1) (lo := 60) (by decide) rfl rfl rfl (Nat.le_of_ble_eq_true rfl) rfl (fun hw p e R s m args below meth c hC hr hlk hnm => ?_)
  unfold w_X12_tell at hw
  refine z_aload_n hC dX12_tell_0 rfl rfl ?_
  refine z_iload_n hC dX12_tell_1 rfl rfl ?_
  refine z_if_ge (tgt := 9) hC dX12_tell_2 (by decide) (fun c2 => ?_) (fun c2 => ?_)
  · have hw := hw.1 c2
    refine z_iconst hC ic_0 dX12_tell_9 ?_
    refine z_mask (lv' := [some (.ref v0), some (.int v1)]) [true, true] rfl ?_
    exact t_X12_tell_b10 hC hr hlk hnm hw
  · have hw := hw.2 c2
    refine z_iload_n hC dX12_tell_5 rfl rfl ?_
    refine z_goto (tgt := 10) hC dX12_tell_6 (by decide) ?_
    refine z_mask (lv' := [some (.ref v0), some (.int v1)]) [true, true] rfl ?_
    exact t_X12_tell_b10 hC hr hlk hnm hw
theorem hd_X12_tell : yX12_tell.cls = RX12 ∧ (yX12_tell.cls ≠ "java/lang/invoke/MethodHandle" ∧ yX12_tell.cls ≠ "java/lang/invoke/VarHandle" ∧ (parseMethodDescriptor yX12_tell.desc).map (fun d => d.parameters.length) = some 1) := by decide +kernel
end
section
variable {p : Program} {l : Launch} {e : Env} {R : Room} {s : State} {m : MethodId} {args : Array Value} {below : List Frame} {meth : Method} {c : Code} {G : hG} {B mc ms : Nat}
def w_X12_change (q : Int32 → hS → Prop) (S : hS) (v0 : Nat) (v1 : Int32) (v2 : Int32) : Prop := gP S v0 12 3 (fun x1 => aI S x1 v1 (fun x5 => gP S v0 12 3 (fun x8 => sI S x8 v1 v2 (fun S => pI S v0 12 1 0 (fun S => q x5 S)))))
set_option maxRecDepth 100000 in
set_option maxHeartbeats 4000000 in
theorem c_X12_change (l : Launch) (G : hG) (B : Nat) (S : hS) (v0 : Nat) (v1 : Int32) (v2 : Int32) (q : Int32 → hS → Prop) : Met l yX12_change (hws yX12_change cX12_change 4 (Option.some FieldType.int)) ({ frames := 1, cells := 0, slots := 0, locals := 60 }) (hPc G B S [.ref v0, .int v1, .int v2] (w_X12_change q S v0 v1 v2)) (hQ G B (iP q)) 0 0 (fun r => B ≤ r) := by
  refine hMet (rm := { frames := 1, cells := 0, slots := 0, locals := 60 }) (lv := [some (.ref v0), some (.int v1), some (.int v2), none]) (own := RX12) (fr := 1) (lo := 60) (by decide) rfl rfl rfl (Nat.le_of_ble_eq_true rfl) rfl (fun hw p e R s m args below meth c hC hr hlk hnm => ?_)
  unfold w_X12_change at hw
  refine z_aload_n hC dX12_change_0 rfl rfl ?_
  refine z_getP hC FX12 3 lk_1358 dX12_change_1 (by decide) hw (fun x1 hw => ?_)
  refine z_iload_n hC dX12_change_4 rfl rfl ?_
  refine z_aldI hC dX12_change_5 hw (fun x5 hw => ?_)
  refine z_istore_n (i := 3) (lv' := [some (.ref v0), some (.int v1), some (.int v2), some (.int x5)]) hC rfl dX12_change_6 (by decide) (hok_v rfl rfl) rfl ?_
  refine z_aload_n hC dX12_change_7 rfl rfl ?_
  refine z_getP hC FX12 3 lk_1358 dX12_change_8 (by decide) hw (fun x8 hw => ?_)
  refine z_iload_n hC dX12_change_11 rfl rfl ?_
  refine z_iload_n hC dX12_change_12 rfl rfl ?_
  refine z_astI hC dX12_change_13 hw (fun S hw => ?_)
  refine z_aload_n hC dX12_change_14 rfl rfl ?_
  refine z_iconst hC ic_0 dX12_change_15 ?_
  refine z_putI hC FX12 1 lk_1356 dX12_change_16 (by decide) rfl rfl hw (fun S hw => ?_)
  refine z_iload_n hC dX12_change_19 rfl rfl ?_
  exact z_iret hC hr hlk dX12_change_20 ⟨_, rfl, hw⟩
theorem hd_X12_change : yX12_change.cls = RX12 ∧ (yX12_change.cls ≠ "java/lang/invoke/MethodHandle" ∧ yX12_change.cls ≠ "java/lang/invoke/VarHandle" ∧ (parseMethodDescriptor yX12_change.desc).map (fun d => d.parameters.length) = some 2) := by decide +kernel
end
section
variable {p : Program} {l : Launch} {e : Env} {R : Room} {s : State} {m : MethodId} {args : Array Value} {below : List Frame} {meth : Method} {c : Code} {G : hG} {B mc ms : Nat}
def w_X12_settled_b13 (q : Int32 → hS → Prop) (S : hS) (v0 : Nat) (v1 : Int32) (t0 : Int32) (t1 : Nat) : Prop := pI S t1 12 8 t0 (fun S => oK S v0 12 ∧ w_X12_tell (fun x18 S => q x18 S) S v0 v1)
set_option maxRecDepth 100000 in
set_option maxHeartbeats 4000000 in
theorem t_X12_settled_b13 (hC : zC p R s m args c cX12_settled 2 RX12 G B mc ms 2 81) (hr : meth.sig.returnType = (Option.some FieldType.int)) (hlk : meth.locks = false) (hnm : meth.name = "settled") {q : Int32 → hS → Prop} {S : hS} {v0 : Nat} {v1 : Int32} {t0 : Int32} {t1 : Nat} (hw : w_X12_settled_b13 q S v0 v1 t0 t1) : Z p l e R s m args below meth c (MQ below (hQ G B (iP q)) args s mc ms (fun r => B ≤ r)) G B mc ms 2 S 0 0 13 [some (.ref v0), some (.int v1)] [.int t0, .ref t1] := by
  unfold w_X12_settled_b13 at hw
  refine z_putI hC FX12 8 lk_1363 dX12_settled_13 (by decide) rfl rfl hw (fun S hw => ?_)
  refine z_aload_n hC dX12_settled_16 rfl rfl ?_
  refine z_iload_n hC dX12_settled_17 rfl rfl ?_
  refine z_callV (n := 1) (As := [.int v1]) (st := []) hC (c_X12_tell l G B S v0 v1 _) hw.2 hw.1 rfl lk_1544 lk_1546 lk_41 lk_133 lk_1547 hd_X12_tell rfl rfl (by decide) (by decide) rfl (Nat.le_of_ble_eq_true rfl) dX12_settled_18 (Nat.le_refl 0) (Nat.le_refl 0) (kI (fun x18 S hw => ?_))
  exact z_iret hC hr hlk dX12_settled_21 ⟨_, rfl, hw⟩
def w_X12_settled (q : Int32 → hS → Prop) (S : hS) (v0 : Nat) (v1 : Int32) : Prop := (0 ≤ v1 → w_X12_settled_b13 q S v0 v1 0 v0) ∧ (¬ 0 ≤ v1 → gI S v0 12 8 (fun x6 => w_X12_settled_b13 q S v0 v1 x6 v0))
set_option maxRecDepth 100000 in
set_option maxHeartbeats 4000000 in
theorem c_X12_settled (l : Launch) (G : hG) (B : Nat) (S : hS) (v0 : Nat) (v1 : Int32) (q : Int32 → hS → Prop) : Met l yX12_settled (hws yX12_settled cX12_settled 2 (Option.some FieldType.int)) ({ frames := 2, cells := 0, slots := 0, locals := 81 }) (hPc G B S [.ref v0, .int v1] (w_X12_settled q S v0 v1)) (hQ G B (iP q)) 0 0 (fun r => B ≤ r) := by
  refine hMet (rm := { frames := 2, cells := 0, slots := 0, locals := 81 }) (lv := [some (.ref v0), some (.int v1)]) (own := RX12) (fr := 2) (lo := 81) (by decide) rfl rfl rfl (Nat.le_of_ble_eq_true rfl) rfl (fun hw p e R s m args below meth c hC hr hlk hnm => ?_)
  unfold w_X12_settled at hw
  refine z_aload_n hC dX12_settled_0 rfl rfl ?_
  refine z_iload_n hC dX12_settled_1 rfl rfl ?_
  refine z_if_ge (tgt := 12) hC dX12_settled_2 (by decide) (fun c2 => ?_) (fun c2 => ?_)
  · have hw := hw.1 c2
    refine z_iconst hC ic_0 dX12_settled_12 ?_
    refine z_mask (lv' := [some (.ref v0), some (.int v1)]) [true, true] rfl ?_
    exact t_X12_settled_b13 hC hr hlk hnm hw
  · have hw := hw.2 c2
    refine z_aload_n hC dX12_settled_5 rfl rfl ?_
    refine z_getI hC FX12 8 lk_1363 dX12_settled_6 (by decide) hw (fun x6 hw => ?_)
    refine z_goto (tgt := 13) hC dX12_settled_9 (by decide) ?_
    refine z_mask (lv' := [some (.ref v0), some (.int v1)]) [true, true] rfl ?_
    exact t_X12_settled_b13 hC hr hlk hnm hw
theorem hd_X12_settled : yX12_settled.cls = RX12 ∧ (yX12_settled.cls ≠ "java/lang/invoke/MethodHandle" ∧ yX12_settled.cls ≠ "java/lang/invoke/VarHandle" ∧ (parseMethodDescriptor yX12_settled.desc).map (fun d => d.parameters.length) = some 1) := by decide +kernel
end
section
variable {p : Program} {l : Launch} {e : Env} {R : Room} {s : State} {m : MethodId} {args : Array Value} {below : List Frame} {meth : Method} {c : Code} {G : hG} {B mc ms : Nat}
def w_X12_keepAll_b2 (q : hS → Prop) : Nat → hS → (Nat) → (Int32) → (Int32) → Prop
  | 0, _, _, _, _ => False
  | n + 1, S, v0, v1, v2 => (121 ≤ v2 → q S) ∧ (¬ 121 ≤ v2 → gP S v0 12 6 (fun x9 => gP S v0 12 3 (fun x19 => aI S x19 (5 + v2) (fun x25 => sI S x9 ((121 * v1) + v2) x25 (fun S => ∀ y27 : Int32, y27 = v2 + 1 → w_X12_keepAll_b2 q n S v0 v1 y27)))))
set_option maxRecDepth 100000 in
set_option maxHeartbeats 4000000 in
theorem t_X12_keepAll_b2 (hC : zC p R s m args c cX12_keepAll 3 RX12 G B mc ms 1 60) (hr : meth.sig.returnType = (Option.none : Option FieldType)) (hlk : meth.locks = false) (hnm : meth.name = "keepAll") {q : hS → Prop} (n : Nat) : ∀ {S : hS} {v0 : Nat} {v1 : Int32} {v2 : Int32} (hw : w_X12_keepAll_b2 q n S v0 v1 v2), Z p l e R s m args below meth c (MQ below (hQ G B (vP q)) args s mc ms (fun r => B ≤ r)) G B mc ms 3 S 0 0 2 [some (.ref v0), some (.int v1), some (.int v2)] [] := by
  induction n with
  | zero => intro S v0 v1 v2 hw; exact (by rw [w_X12_keepAll_b2] at hw; exact hw.elim)
  | succ n ih =>
    intro S v0 v1 v2 hw
    rw [w_X12_keepAll_b2] at hw
    refine z_iload_n hC dX12_keepAll_2 rfl rfl ?_
    refine z_bipush hC bi_121 dX12_keepAll_3 ?_
    refine z_icmp_ge (tgt := 33) hC dX12_keepAll_5 (by decide) (fun c5 => ?_) (fun c5 => ?_)
    · have hw := hw.1 c5
      exact z_vret hC hr hlk dX12_keepAll_33 ⟨rfl, hw⟩
    · have hw := hw.2 c5
      refine z_aload_n hC dX12_keepAll_8 rfl rfl ?_
      refine z_getP hC FX12 6 lk_1361 dX12_keepAll_9 (by decide) hw (fun x9 hw => ?_)
      refine z_bipush hC bi_121 dX12_keepAll_12 ?_
      refine z_iload_n hC dX12_keepAll_14 rfl rfl ?_
      refine z_imul hC dX12_keepAll_15 ?_
      refine z_iload_n hC dX12_keepAll_16 rfl rfl ?_
      refine z_iadd hC dX12_keepAll_17 ?_
      refine z_aload_n hC dX12_keepAll_18 rfl rfl ?_
      refine z_getP hC FX12 3 lk_1358 dX12_keepAll_19 (by decide) hw (fun x19 hw => ?_)
      refine z_iconst hC ic_5 dX12_keepAll_22 ?_
      refine z_iload_n hC dX12_keepAll_23 rfl rfl ?_
      refine z_iadd hC dX12_keepAll_24 ?_
      refine z_aldI hC dX12_keepAll_25 hw (fun x25 hw => ?_)
      refine z_astI hC dX12_keepAll_26 hw (fun S hw => ?_)
      refine z_inc (i := 2) hC ic_1 dX12_keepAll_27 rfl (by decide) (hok_v rfl rfl) (fun y27 e27 => ?_)
      have hw := hw y27 e27
      refine z_goto (tgt := 2) hC dX12_keepAll_30 (by decide) ?_
      refine z_mask (lv' := [some (.ref v0), some (.int v1), some (.int y27)]) [true, true, true] rfl ?_
      exact ih hw
def w_X12_keepAll (q : hS → Prop) (S : hS) (v0 : Nat) (v1 : Int32) : Prop := (∃ n2 : Nat, w_X12_keepAll_b2 q n2 S v0 v1 0)
set_option maxRecDepth 100000 in
set_option maxHeartbeats 4000000 in
theorem c_X12_keepAll (l : Launch) (G : hG) (B : Nat) (S : hS) (v0 : Nat) (v1 : Int32) (q : hS → Prop) : Met l yX12_keepAll (hws yX12_keepAll cX12_keepAll 3 (Option.none : Option FieldType)) ({ frames := 1, cells := 0, slots := 0, locals := 60 }) (hPc G B S [.ref v0, .int v1] (w_X12_keepAll q S v0 v1)) (hQ G B (vP q)) 0 0 (fun r => B ≤ r) := by
  refine hMet (rm := { frames := 1, cells := 0, slots := 0, locals := 60 }) (lv := [some (.ref v0), some (.int v1), none]) (own := RX12) (fr := 1) (lo := 60) (by decide) rfl rfl rfl (Nat.le_of_ble_eq_true rfl) rfl (fun hw p e R s m args below meth c hC hr hlk hnm => ?_)
  unfold w_X12_keepAll at hw
  refine z_iconst hC ic_0 dX12_keepAll_0 ?_
  refine z_istore_n (i := 2) (lv' := [some (.ref v0), some (.int v1), some (.int 0)]) hC rfl dX12_keepAll_1 (by decide) (hok_v rfl rfl) rfl ?_
  refine z_mask (lv' := [some (.ref v0), some (.int v1), some (.int 0)]) [true, true, true] rfl ?_
  obtain ⟨n2, hw⟩ := hw
  exact t_X12_keepAll_b2 hC hr hlk hnm n2 hw
theorem hd_X12_keepAll : yX12_keepAll.cls = RX12 ∧ (yX12_keepAll.cls ≠ "java/lang/invoke/MethodHandle" ∧ yX12_keepAll.cls ≠ "java/lang/invoke/VarHandle" ∧ (parseMethodDescriptor yX12_keepAll.desc).map (fun d => d.parameters.length) = some 1) := by decide +kernel
end
section
variable {p : Program} {l : Launch} {e : Env} {R : Room} {s : State} {m : MethodId} {args : Array Value} {below : List Frame} {meth : Method} {c : Code} {G : hG} {B mc ms : Nat}
def w_X12_putBack_b2 (q : hS → Prop) : Nat → hS → (Nat) → (Int32) → (Int32) → Prop
  | 0, _, _, _, _ => False
  | n + 1, S, v0, v1, v2 => (121 ≤ v2 → q S) ∧ (¬ 121 ≤ v2 → gP S v0 12 3 (fun x9 => gP S v0 12 6 (fun x16 => aI S x16 ((121 * v1) + v2) (fun x25 => sI S x9 (5 + v2) x25 (fun S => ∀ y27 : Int32, y27 = v2 + 1 → w_X12_putBack_b2 q n S v0 v1 y27)))))
set_option maxRecDepth 100000 in
set_option maxHeartbeats 4000000 in
theorem t_X12_putBack_b2 (hC : zC p R s m args c cX12_putBack 3 RX12 G B mc ms 1 60) (hr : meth.sig.returnType = (Option.none : Option FieldType)) (hlk : meth.locks = false) (hnm : meth.name = "putBack") {q : hS → Prop} (n : Nat) : ∀ {S : hS} {v0 : Nat} {v1 : Int32} {v2 : Int32} (hw : w_X12_putBack_b2 q n S v0 v1 v2), Z p l e R s m args below meth c (MQ below (hQ G B (vP q)) args s mc ms (fun r => B ≤ r)) G B mc ms 3 S 0 0 2 [some (.ref v0), some (.int v1), some (.int v2)] [] := by
  induction n with
  | zero => intro S v0 v1 v2 hw; exact (by rw [w_X12_putBack_b2] at hw; exact hw.elim)
  | succ n ih =>
    intro S v0 v1 v2 hw
    rw [w_X12_putBack_b2] at hw
    refine z_iload_n hC dX12_putBack_2 rfl rfl ?_
    refine z_bipush hC bi_121 dX12_putBack_3 ?_
    refine z_icmp_ge (tgt := 33) hC dX12_putBack_5 (by decide) (fun c5 => ?_) (fun c5 => ?_)
    · have hw := hw.1 c5
      exact z_vret hC hr hlk dX12_putBack_33 ⟨rfl, hw⟩
    · have hw := hw.2 c5
      refine z_aload_n hC dX12_putBack_8 rfl rfl ?_
      refine z_getP hC FX12 3 lk_1358 dX12_putBack_9 (by decide) hw (fun x9 hw => ?_)
      refine z_iconst hC ic_5 dX12_putBack_12 ?_
      refine z_iload_n hC dX12_putBack_13 rfl rfl ?_
      refine z_iadd hC dX12_putBack_14 ?_
      refine z_aload_n hC dX12_putBack_15 rfl rfl ?_
      refine z_getP hC FX12 6 lk_1361 dX12_putBack_16 (by decide) hw (fun x16 hw => ?_)
      refine z_bipush hC bi_121 dX12_putBack_19 ?_
      refine z_iload_n hC dX12_putBack_21 rfl rfl ?_
      refine z_imul hC dX12_putBack_22 ?_
      refine z_iload_n hC dX12_putBack_23 rfl rfl ?_
      refine z_iadd hC dX12_putBack_24 ?_
      refine z_aldI hC dX12_putBack_25 hw (fun x25 hw => ?_)
      refine z_astI hC dX12_putBack_26 hw (fun S hw => ?_)
      refine z_inc (i := 2) hC ic_1 dX12_putBack_27 rfl (by decide) (hok_v rfl rfl) (fun y27 e27 => ?_)
      have hw := hw y27 e27
      refine z_goto (tgt := 2) hC dX12_putBack_30 (by decide) ?_
      refine z_mask (lv' := [some (.ref v0), some (.int v1), some (.int y27)]) [true, true, true] rfl ?_
      exact ih hw
def w_X12_putBack (q : hS → Prop) (S : hS) (v0 : Nat) (v1 : Int32) : Prop := (∃ n2 : Nat, w_X12_putBack_b2 q n2 S v0 v1 0)
set_option maxRecDepth 100000 in
set_option maxHeartbeats 4000000 in
theorem c_X12_putBack (l : Launch) (G : hG) (B : Nat) (S : hS) (v0 : Nat) (v1 : Int32) (q : hS → Prop) : Met l yX12_putBack (hws yX12_putBack cX12_putBack 3 (Option.none : Option FieldType)) ({ frames := 1, cells := 0, slots := 0, locals := 60 }) (hPc G B S [.ref v0, .int v1] (w_X12_putBack q S v0 v1)) (hQ G B (vP q)) 0 0 (fun r => B ≤ r) := by
  refine hMet (rm := { frames := 1, cells := 0, slots := 0, locals := 60 }) (lv := [some (.ref v0), some (.int v1), none]) (own := RX12) (fr := 1) (lo := 60) (by decide) rfl rfl rfl (Nat.le_of_ble_eq_true rfl) rfl (fun hw p e R s m args below meth c hC hr hlk hnm => ?_)
  unfold w_X12_putBack at hw
  refine z_iconst hC ic_0 dX12_putBack_0 ?_
  refine z_istore_n (i := 2) (lv' := [some (.ref v0), some (.int v1), some (.int 0)]) hC rfl dX12_putBack_1 (by decide) (hok_v rfl rfl) rfl ?_
  refine z_mask (lv' := [some (.ref v0), some (.int v1), some (.int 0)]) [true, true, true] rfl ?_
  obtain ⟨n2, hw⟩ := hw
  exact t_X12_putBack_b2 hC hr hlk hnm n2 hw
theorem hd_X12_putBack : yX12_putBack.cls = RX12 ∧ (yX12_putBack.cls ≠ "java/lang/invoke/MethodHandle" ∧ yX12_putBack.cls ≠ "java/lang/invoke/VarHandle" ∧ (parseMethodDescriptor yX12_putBack.desc).map (fun d => d.parameters.length) = some 1) := by decide +kernel
end
section
variable {p : Program} {l : Launch} {e : Env} {R : Room} {s : State} {m : MethodId} {args : Array Value} {below : List Frame} {meth : Method} {c : Code} {G : hG} {B mc ms : Nat}
def w_X12_remember_b77 (q : hS → Prop) (S : hS) (v0 : Nat) (v1 : Int32) : Prop := gI S v0 12 8 (fun x79 => oK S v0 12 ∧ w_X12_keepAll (fun S => gP S v0 12 7 (fun x86 => gI S v0 12 8 (fun x90 => sI S x86 x90 v1 (fun S => gI S v0 12 8 (fun x97 => pI S v0 12 8 (x97 + 1) (fun S => q S)))))) S v0 x79)
set_option maxRecDepth 100000 in
set_option maxHeartbeats 4000000 in
theorem t_X12_remember_b77 (hC : zC p R s m args c cX12_remember 3 RX12 G B mc ms 2 82) (hr : meth.sig.returnType = (Option.none : Option FieldType)) (hlk : meth.locks = false) (hnm : meth.name = "remember") {q : hS → Prop} {S : hS} {v0 : Nat} {v1 : Int32} (hw : w_X12_remember_b77 q S v0 v1) : Z p l e R s m args below meth c (MQ below (hQ G B (vP q)) args s mc ms (fun r => B ≤ r)) G B mc ms 3 S 0 0 77 [some (.ref v0), some (.int v1), none] [] := by
  unfold w_X12_remember_b77 at hw
  refine z_aload_n hC dX12_remember_77 rfl rfl ?_
  refine z_aload_n hC dX12_remember_78 rfl rfl ?_
  refine z_getI hC FX12 8 lk_1363 dX12_remember_79 (by decide) hw (fun x79 hw => ?_)
  refine z_callV (n := 1) (As := [.int x79]) (st := []) hC (c_X12_keepAll l G B S v0 x79 _) hw.2 hw.1 rfl lk_1876 lk_1878 lk_93 lk_133 lk_1879 hd_X12_keepAll rfl rfl (by decide) (by decide) rfl (Nat.le_of_ble_eq_true rfl) dX12_remember_82 (Nat.le_refl 0) (Nat.le_refl 0) (kV (fun S hw => ?_))
  refine z_aload_n hC dX12_remember_85 rfl rfl ?_
  refine z_getP hC FX12 7 lk_1362 dX12_remember_86 (by decide) hw (fun x86 hw => ?_)
  refine z_aload_n hC dX12_remember_89 rfl rfl ?_
  refine z_getI hC FX12 8 lk_1363 dX12_remember_90 (by decide) hw (fun x90 hw => ?_)
  refine z_iload_n hC dX12_remember_93 rfl rfl ?_
  refine z_astI hC dX12_remember_94 hw (fun S hw => ?_)
  refine z_aload_n hC dX12_remember_95 rfl rfl ?_
  refine z_dup hC rfl dX12_remember_96 ?_
  refine z_getI hC FX12 8 lk_1363 dX12_remember_97 (by decide) hw (fun x97 hw => ?_)
  refine z_iconst hC ic_1 dX12_remember_100 ?_
  refine z_iadd hC dX12_remember_101 ?_
  refine z_putI hC FX12 8 lk_1363 dX12_remember_102 (by decide) rfl rfl hw (fun S hw => ?_)
  exact z_vret hC hr hlk dX12_remember_105 ⟨rfl, hw⟩
def w_X12_remember_b41 (q : hS → Prop) : Nat → hS → (Nat) → (Int32) → (Int32) → Prop
  | 0, _, _, _, _ => False
  | n + 1, S, v0, v1, v2 => (15 ≤ v2 → gI S v0 12 8 (fun x69 => pI S v0 12 8 (x69 - 1) (fun S => w_X12_remember_b77 q S v0 v1))) ∧ (¬ 15 ≤ v2 → gP S v0 12 7 (fun x48 => gP S v0 12 7 (fun x53 => aI S x53 (v2 + 1) (fun x59 => sI S x48 v2 x59 (fun S => ∀ y61 : Int32, y61 = v2 + 1 → w_X12_remember_b41 q n S v0 v1 y61)))))
set_option maxRecDepth 100000 in
set_option maxHeartbeats 4000000 in
theorem t_X12_remember_b41 (hC : zC p R s m args c cX12_remember 3 RX12 G B mc ms 2 82) (hr : meth.sig.returnType = (Option.none : Option FieldType)) (hlk : meth.locks = false) (hnm : meth.name = "remember") {q : hS → Prop} (n : Nat) : ∀ {S : hS} {v0 : Nat} {v1 : Int32} {v2 : Int32} (hw : w_X12_remember_b41 q n S v0 v1 v2), Z p l e R s m args below meth c (MQ below (hQ G B (vP q)) args s mc ms (fun r => B ≤ r)) G B mc ms 3 S 0 0 41 [some (.ref v0), some (.int v1), some (.int v2)] [] := by
  induction n with
  | zero => intro S v0 v1 v2 hw; exact (by rw [w_X12_remember_b41] at hw; exact hw.elim)
  | succ n ih =>
    intro S v0 v1 v2 hw
    rw [w_X12_remember_b41] at hw
    refine z_iload_n hC dX12_remember_41 rfl rfl ?_
    refine z_bipush hC bi_15 dX12_remember_42 ?_
    refine z_icmp_ge (tgt := 67) hC dX12_remember_44 (by decide) (fun c44 => ?_) (fun c44 => ?_)
    · have hw := hw.1 c44
      refine z_aload_n hC dX12_remember_67 rfl rfl ?_
      refine z_dup hC rfl dX12_remember_68 ?_
      refine z_getI hC FX12 8 lk_1363 dX12_remember_69 (by decide) hw (fun x69 hw => ?_)
      refine z_iconst hC ic_1 dX12_remember_72 ?_
      refine z_isub hC dX12_remember_73 ?_
      refine z_putI hC FX12 8 lk_1363 dX12_remember_74 (by decide) rfl rfl hw (fun S hw => ?_)
      refine z_mask (lv' := [some (.ref v0), some (.int v1), none]) [true, true, false] rfl ?_
      exact t_X12_remember_b77 hC hr hlk hnm hw
    · have hw := hw.2 c44
      refine z_aload_n hC dX12_remember_47 rfl rfl ?_
      refine z_getP hC FX12 7 lk_1362 dX12_remember_48 (by decide) hw (fun x48 hw => ?_)
      refine z_iload_n hC dX12_remember_51 rfl rfl ?_
      refine z_aload_n hC dX12_remember_52 rfl rfl ?_
      refine z_getP hC FX12 7 lk_1362 dX12_remember_53 (by decide) hw (fun x53 hw => ?_)
      refine z_iload_n hC dX12_remember_56 rfl rfl ?_
      refine z_iconst hC ic_1 dX12_remember_57 ?_
      refine z_iadd hC dX12_remember_58 ?_
      refine z_aldI hC dX12_remember_59 hw (fun x59 hw => ?_)
      refine z_astI hC dX12_remember_60 hw (fun S hw => ?_)
      refine z_inc (i := 2) hC ic_1 dX12_remember_61 rfl (by decide) (hok_v rfl rfl) (fun y61 e61 => ?_)
      have hw := hw y61 e61
      refine z_goto (tgt := 41) hC dX12_remember_64 (by decide) ?_
      refine z_mask (lv' := [some (.ref v0), some (.int v1), some (.int y61)]) [true, true, true] rfl ?_
      exact ih hw
def w_X12_remember_b11 (q : hS → Prop) : Nat → hS → (Nat) → (Int32) → (Int32) → Prop
  | 0, _, _, _, _ => False
  | n + 1, S, v0, v1, v2 => (1815 ≤ v2 → (∃ n41 : Nat, w_X12_remember_b41 q n41 S v0 v1 0)) ∧ (¬ 1815 ≤ v2 → gP S v0 12 6 (fun x19 => gP S v0 12 6 (fun x24 => aI S x24 (v2 + 121) (fun x31 => sI S x19 v2 x31 (fun S => ∀ y33 : Int32, y33 = v2 + 1 → w_X12_remember_b11 q n S v0 v1 y33)))))
set_option maxRecDepth 100000 in
set_option maxHeartbeats 4000000 in
theorem t_X12_remember_b11 (hC : zC p R s m args c cX12_remember 3 RX12 G B mc ms 2 82) (hr : meth.sig.returnType = (Option.none : Option FieldType)) (hlk : meth.locks = false) (hnm : meth.name = "remember") {q : hS → Prop} (n : Nat) : ∀ {S : hS} {v0 : Nat} {v1 : Int32} {v2 : Int32} (hw : w_X12_remember_b11 q n S v0 v1 v2), Z p l e R s m args below meth c (MQ below (hQ G B (vP q)) args s mc ms (fun r => B ≤ r)) G B mc ms 3 S 0 0 11 [some (.ref v0), some (.int v1), some (.int v2)] [] := by
  induction n with
  | zero => intro S v0 v1 v2 hw; exact (by rw [w_X12_remember_b11] at hw; exact hw.elim)
  | succ n ih =>
    intro S v0 v1 v2 hw
    rw [w_X12_remember_b11] at hw
    refine z_iload_n hC dX12_remember_11 rfl rfl ?_
    refine z_sipush hC si_1815 dX12_remember_12 ?_
    refine z_icmp_ge (tgt := 39) hC dX12_remember_15 (by decide) (fun c15 => ?_) (fun c15 => ?_)
    · have hw := hw.1 c15
      refine z_iconst hC ic_0 dX12_remember_39 ?_
      refine z_istore_n (i := 2) (lv' := [some (.ref v0), some (.int v1), some (.int 0)]) hC rfl dX12_remember_40 (by decide) (hok_v rfl rfl) rfl ?_
      refine z_mask (lv' := [some (.ref v0), some (.int v1), some (.int 0)]) [true, true, true] rfl ?_
      obtain ⟨n41, hw⟩ := hw
      exact t_X12_remember_b41 hC hr hlk hnm n41 hw
    · have hw := hw.2 c15
      refine z_aload_n hC dX12_remember_18 rfl rfl ?_
      refine z_getP hC FX12 6 lk_1361 dX12_remember_19 (by decide) hw (fun x19 hw => ?_)
      refine z_iload_n hC dX12_remember_22 rfl rfl ?_
      refine z_aload_n hC dX12_remember_23 rfl rfl ?_
      refine z_getP hC FX12 6 lk_1361 dX12_remember_24 (by decide) hw (fun x24 hw => ?_)
      refine z_iload_n hC dX12_remember_27 rfl rfl ?_
      refine z_bipush hC bi_121 dX12_remember_28 ?_
      refine z_iadd hC dX12_remember_30 ?_
      refine z_aldI hC dX12_remember_31 hw (fun x31 hw => ?_)
      refine z_astI hC dX12_remember_32 hw (fun S hw => ?_)
      refine z_inc (i := 2) hC ic_1 dX12_remember_33 rfl (by decide) (hok_v rfl rfl) (fun y33 e33 => ?_)
      have hw := hw y33 e33
      refine z_goto (tgt := 11) hC dX12_remember_36 (by decide) ?_
      refine z_mask (lv' := [some (.ref v0), some (.int v1), some (.int y33)]) [true, true, true] rfl ?_
      exact ih hw
def w_X12_remember (q : hS → Prop) (S : hS) (v0 : Nat) (v1 : Int32) : Prop := gI S v0 12 8 (fun x1 => (¬ x1 = 16 → w_X12_remember_b77 q S v0 v1) ∧ (x1 = 16 → (∃ n11 : Nat, w_X12_remember_b11 q n11 S v0 v1 0)))
set_option maxRecDepth 100000 in
set_option maxHeartbeats 4000000 in
theorem c_X12_remember (l : Launch) (G : hG) (B : Nat) (S : hS) (v0 : Nat) (v1 : Int32) (q : hS → Prop) : Met l yX12_remember (hws yX12_remember cX12_remember 3 (Option.none : Option FieldType)) ({ frames := 2, cells := 0, slots := 0, locals := 82 }) (hPc G B S [.ref v0, .int v1] (w_X12_remember q S v0 v1)) (hQ G B (vP q)) 0 0 (fun r => B ≤ r) := by
  refine hMet (rm := { frames := 2, cells := 0, slots := 0, locals := 82 }) (lv := [some (.ref v0), some (.int v1), none]) (own := RX12) (fr := 2) (lo := 82) (by decide) rfl rfl rfl (Nat.le_of_ble_eq_true rfl) rfl (fun hw p e R s m args below meth c hC hr hlk hnm => ?_)
  unfold w_X12_remember at hw
  refine z_aload_n hC dX12_remember_0 rfl rfl ?_
  refine z_getI hC FX12 8 lk_1363 dX12_remember_1 (by decide) hw (fun x1 hw => ?_)
  refine z_bipush hC bi_16 dX12_remember_4 ?_
  refine z_icmp_ne (tgt := 77) hC dX12_remember_6 (by decide) (fun c6 => ?_) (fun c6 => ?_)
  · have hw := hw.1 c6
    refine z_mask (lv' := [some (.ref v0), some (.int v1), none]) [true, true, false] rfl ?_
    exact t_X12_remember_b77 hC hr hlk hnm hw
  · have hw := hw.2 c6
    refine z_iconst hC ic_0 dX12_remember_9 ?_
    refine z_istore_n (i := 2) (lv' := [some (.ref v0), some (.int v1), some (.int 0)]) hC rfl dX12_remember_10 (by decide) (hok_v rfl rfl) rfl ?_
    refine z_mask (lv' := [some (.ref v0), some (.int v1), some (.int 0)]) [true, true, true] rfl ?_
    obtain ⟨n11, hw⟩ := hw
    exact t_X12_remember_b11 hC hr hlk hnm n11 hw
theorem hd_X12_remember : yX12_remember.cls = RX12 ∧ (yX12_remember.cls ≠ "java/lang/invoke/MethodHandle" ∧ yX12_remember.cls ≠ "java/lang/invoke/VarHandle" ∧ (parseMethodDescriptor yX12_remember.desc).map (fun d => d.parameters.length) = some 1) := by decide +kernel
end
section
variable {p : Program} {l : Launch} {e : Env} {R : Room} {s : State} {m : MethodId} {args : Array Value} {below : List Frame} {meth : Method} {c : Code} {G : hG} {B mc ms : Nat}
def w_X12_undo (q : Int32 → hS → Prop) (S : hS) (v0 : Nat) : Prop := pI S v0 12 0 0 (fun S => gI S v0 12 8 (fun x6 => (¬ x6 = 0 → gI S v0 12 8 (fun x21 => pI S v0 12 8 (x21 - 1) (fun S => gI S v0 12 8 (fun x31 => oK S v0 12 ∧ w_X12_putBack (fun S => gP S v0 12 7 (fun x39 => gI S v0 12 8 (fun x43 => aI S x39 x43 (fun x46 => oK S v0 12 ∧ w_X12_tell (fun x47 S => q x47 S) S v0 x46)))) S v0 x31)))) ∧ (x6 = 0 → oK S v0 12 ∧ w_X12_tell (fun x15 S => q x15 S) S v0 (-3))))
set_option maxRecDepth 100000 in
set_option maxHeartbeats 4000000 in
theorem c_X12_undo (l : Launch) (G : hG) (B : Nat) (S : hS) (v0 : Nat) (q : Int32 → hS → Prop) : Met l yX12_undo (hws yX12_undo cX12_undo 1 (Option.some FieldType.int)) ({ frames := 2, cells := 0, slots := 0, locals := 82 }) (hPc G B S [.ref v0] (w_X12_undo q S v0)) (hQ G B (iP q)) 0 0 (fun r => B ≤ r) := by
  refine hMet (rm := { frames := 2, cells := 0, slots := 0, locals := 82 }) (lv := [some (.ref v0)]) (own := RX12) (fr := 2) (lo := 82) (by decide) rfl rfl rfl (Nat.le_of_ble_eq_true rfl) rfl (fun hw p e R s m args below meth c hC hr hlk hnm => ?_)
  unfold w_X12_undo at hw
  refine z_aload_n hC dX12_undo_0 rfl rfl ?_
  refine z_iconst hC ic_0 dX12_undo_1 ?_
  refine z_putI hC FX12 0 lk_1355 dX12_undo_2 (by decide) rfl rfl hw (fun S hw => ?_)
  refine z_aload_n hC dX12_undo_5 rfl rfl ?_
  refine z_getI hC FX12 8 lk_1363 dX12_undo_6 (by decide) hw (fun x6 hw => ?_)
  refine z_if_ne (tgt := 19) hC dX12_undo_9 (by decide) (fun c9 => ?_) (fun c9 => ?_)
  · have hw := hw.1 c9
    refine z_aload_n hC dX12_undo_19 rfl rfl ?_
    refine z_dup hC rfl dX12_undo_20 ?_
    refine z_getI hC FX12 8 lk_1363 dX12_undo_21 (by decide) hw (fun x21 hw => ?_)
    refine z_iconst hC ic_1 dX12_undo_24 ?_
    refine z_isub hC dX12_undo_25 ?_
    refine z_putI hC FX12 8 lk_1363 dX12_undo_26 (by decide) rfl rfl hw (fun S hw => ?_)
    refine z_aload_n hC dX12_undo_29 rfl rfl ?_
    refine z_aload_n hC dX12_undo_30 rfl rfl ?_
    refine z_getI hC FX12 8 lk_1363 dX12_undo_31 (by decide) hw (fun x31 hw => ?_)
    refine z_callV (n := 1) (As := [.int x31]) (st := []) hC (c_X12_putBack l G B S v0 x31 _) hw.2 hw.1 rfl lk_1548 lk_1550 lk_42 lk_133 lk_1551 hd_X12_putBack rfl rfl (by decide) (by decide) rfl (Nat.le_of_ble_eq_true rfl) dX12_undo_34 (Nat.le_refl 0) (Nat.le_refl 0) (kV (fun S hw => ?_))
    refine z_aload_n hC dX12_undo_37 rfl rfl ?_
    refine z_aload_n hC dX12_undo_38 rfl rfl ?_
    refine z_getP hC FX12 7 lk_1362 dX12_undo_39 (by decide) hw (fun x39 hw => ?_)
    refine z_aload_n hC dX12_undo_42 rfl rfl ?_
    refine z_getI hC FX12 8 lk_1363 dX12_undo_43 (by decide) hw (fun x43 hw => ?_)
    refine z_aldI hC dX12_undo_46 hw (fun x46 hw => ?_)
    refine z_callV (n := 1) (As := [.int x46]) (st := []) hC (c_X12_tell l G B S v0 x46 _) hw.2 hw.1 rfl lk_1544 lk_1546 lk_41 lk_133 lk_1547 hd_X12_tell rfl rfl (by decide) (by decide) rfl (Nat.le_of_ble_eq_true rfl) dX12_undo_47 (Nat.le_refl 0) (Nat.le_refl 0) (kI (fun x47 S hw => ?_))
    exact z_iret hC hr hlk dX12_undo_50 ⟨_, rfl, hw⟩
  · have hw := hw.2 c9
    refine z_aload_n hC dX12_undo_12 rfl rfl ?_
    refine z_bipush hC bi_m3 dX12_undo_13 ?_
    refine z_callV (n := 1) (As := [.int (-3)]) (st := []) hC (c_X12_tell l G B S v0 (-3) _) hw.2 hw.1 rfl lk_1544 lk_1546 lk_41 lk_133 lk_1547 hd_X12_tell rfl rfl (by decide) (by decide) rfl (Nat.le_of_ble_eq_true rfl) dX12_undo_15 (Nat.le_refl 0) (Nat.le_refl 0) (kI (fun x15 S hw => ?_))
    exact z_iret hC hr hlk dX12_undo_18 ⟨_, rfl, hw⟩
theorem hd_X12_undo : yX12_undo.cls = RX12 ∧ (yX12_undo.cls ≠ "java/lang/invoke/MethodHandle" ∧ yX12_undo.cls ≠ "java/lang/invoke/VarHandle" ∧ (parseMethodDescriptor yX12_undo.desc).map (fun d => d.parameters.length) = some 0) := by decide +kernel
end
section
variable {p : Program} {l : Launch} {e : Env} {R : Room} {s : State} {m : MethodId} {args : Array Value} {below : List Frame} {meth : Method} {c : Code} {G : hG} {B mc ms : Nat}
def w_X12_image_b23 (q : Int32 → hS → Prop) : Nat → hS → (Nat) → (Int32) → (Int32) → Prop
  | 0, _, _, _, _ => False
  | n + 1, S, v0, v1, v2 => (5585 ≤ v2 → gP S v0 12 5 (fun x55 => sZ S x55 v1 1 (fun S => oK S v0 12 ∧ w_X12_tell (fun x63 S => q x63 S) S v0 0))) ∧ (¬ 5585 ≤ v2 → gP S v0 12 4 (fun x31 => gP S v0 12 3 (fun x42 => aI S x42 v2 (fun x46 => sI S x31 ((5585 * v1) + v2) x46 (fun S => ∀ y48 : Int32, y48 = v2 + 1 → w_X12_image_b23 q n S v0 v1 y48)))))
set_option maxRecDepth 100000 in
set_option maxHeartbeats 4000000 in
theorem t_X12_image_b23 (hC : zC p R s m args c cX12_image 3 RX12 G B mc ms 2 85) (hr : meth.sig.returnType = (Option.some FieldType.int)) (hlk : meth.locks = false) (hnm : meth.name = "image") {q : Int32 → hS → Prop} (n : Nat) : ∀ {S : hS} {v0 : Nat} {v1 : Int32} {v2 : Int32} (hw : w_X12_image_b23 q n S v0 v1 v2), Z p l e R s m args below meth c (MQ below (hQ G B (iP q)) args s mc ms (fun r => B ≤ r)) G B mc ms 3 S 0 0 23 [some (.ref v0), some (.int v1), some (.int v2)] [] := by
  induction n with
  | zero => intro S v0 v1 v2 hw; exact (by rw [w_X12_image_b23] at hw; exact hw.elim)
  | succ n ih =>
    intro S v0 v1 v2 hw
    rw [w_X12_image_b23] at hw
    refine z_iload_n hC dX12_image_23 rfl rfl ?_
    refine z_sipush hC si_5585 dX12_image_24 ?_
    refine z_icmp_ge (tgt := 54) hC dX12_image_27 (by decide) (fun c27 => ?_) (fun c27 => ?_)
    · have hw := hw.1 c27
      refine z_aload_n hC dX12_image_54 rfl rfl ?_
      refine z_getP hC FX12 5 lk_1360 dX12_image_55 (by decide) hw (fun x55 hw => ?_)
      refine z_iload_n hC dX12_image_58 rfl rfl ?_
      refine z_iconst hC ic_1 dX12_image_59 ?_
      refine z_astZ hC dX12_image_60 hw (fun S hw => ?_)
      refine z_aload_n hC dX12_image_61 rfl rfl ?_
      refine z_iconst hC ic_0 dX12_image_62 ?_
      refine z_callV (n := 1) (As := [.int 0]) (st := []) hC (c_X12_tell l G B S v0 0 _) hw.2 hw.1 rfl lk_1544 lk_1546 lk_41 lk_133 lk_1547 hd_X12_tell rfl rfl (by decide) (by decide) rfl (Nat.le_of_ble_eq_true rfl) dX12_image_63 (Nat.le_refl 0) (Nat.le_refl 0) (kI (fun x63 S hw => ?_))
      exact z_iret hC hr hlk dX12_image_66 ⟨_, rfl, hw⟩
    · have hw := hw.2 c27
      refine z_aload_n hC dX12_image_30 rfl rfl ?_
      refine z_getP hC FX12 4 lk_1359 dX12_image_31 (by decide) hw (fun x31 hw => ?_)
      refine z_sipush hC si_5585 dX12_image_34 ?_
      refine z_iload_n hC dX12_image_37 rfl rfl ?_
      refine z_imul hC dX12_image_38 ?_
      refine z_iload_n hC dX12_image_39 rfl rfl ?_
      refine z_iadd hC dX12_image_40 ?_
      refine z_aload_n hC dX12_image_41 rfl rfl ?_
      refine z_getP hC FX12 3 lk_1358 dX12_image_42 (by decide) hw (fun x42 hw => ?_)
      refine z_iload_n hC dX12_image_45 rfl rfl ?_
      refine z_aldI hC dX12_image_46 hw (fun x46 hw => ?_)
      refine z_astI hC dX12_image_47 hw (fun S hw => ?_)
      refine z_inc (i := 2) hC ic_1 dX12_image_48 rfl (by decide) (hok_v rfl rfl) (fun y48 e48 => ?_)
      have hw := hw y48 e48
      refine z_goto (tgt := 23) hC dX12_image_51 (by decide) ?_
      refine z_mask (lv' := [some (.ref v0), some (.int v1), some (.int y48)]) [true, true, true] rfl ?_
      exact ih hw
def w_X12_image (q : Int32 → hS → Prop) (S : hS) (v0 : Nat) (v1 : Int32) : Prop := pI S v0 12 0 0 (fun S => w_X12_in (fun x9 S => (¬ x9 = 0 → (∃ n23 : Nat, w_X12_image_b23 q n23 S v0 v1 0)) ∧ (x9 = 0 → oK S v0 12 ∧ w_X12_tell (fun x17 S => q x17 S) S v0 (-1))) S (Int32.toInt64 v1) 0 1)
set_option maxRecDepth 100000 in
set_option maxHeartbeats 4000000 in
theorem c_X12_image (l : Launch) (G : hG) (B : Nat) (S : hS) (v0 : Nat) (v1 : Int32) (q : Int32 → hS → Prop) : Met l yX12_image (hws yX12_image cX12_image 3 (Option.some FieldType.int)) ({ frames := 2, cells := 0, slots := 0, locals := 85 }) (hPc G B S [.ref v0, .int v1] (w_X12_image q S v0 v1)) (hQ G B (iP q)) 0 0 (fun r => B ≤ r) := by
  refine hMet (rm := { frames := 2, cells := 0, slots := 0, locals := 85 }) (lv := [some (.ref v0), some (.int v1), none]) (own := RX12) (fr := 2) (lo := 85) (by decide) rfl rfl rfl (Nat.le_of_ble_eq_true rfl) rfl (fun hw p e R s m args below meth c hC hr hlk hnm => ?_)
  unfold w_X12_image at hw
  refine z_aload_n hC dX12_image_0 rfl rfl ?_
  refine z_iconst hC ic_0 dX12_image_1 ?_
  refine z_putI hC FX12 0 lk_1355 dX12_image_2 (by decide) rfl rfl hw (fun S hw => ?_)
  refine z_iload_n hC dX12_image_5 rfl rfl ?_
  refine z_i2l hC rfl dX12_image_6 ?_
  refine z_lconst hC lc_0 dX12_image_7 ?_
  refine z_lconst hC lc_1 dX12_image_8 ?_
  refine z_callS (n := 3) (As := [.long (Int32.toInt64 v1), .long 0, .long 1]) (st := []) hC (c_X12_in l G B S (Int32.toInt64 v1) 0 1 _) hw lk_1556 lk_1557 lk_133 lk_1558 hd_X12_in rfl rfl (by decide) (by decide) rfl (Nat.le_of_ble_eq_true rfl) dX12_image_9 (Nat.le_refl 0) (Nat.le_refl 0) (kI (fun x9 S hw => ?_))
  refine z_if_ne (tgt := 21) hC dX12_image_12 (by decide) (fun c12 => ?_) (fun c12 => ?_)
  · have hw := hw.1 c12
    refine z_iconst hC ic_0 dX12_image_21 ?_
    refine z_istore_n (i := 2) (lv' := [some (.ref v0), some (.int v1), some (.int 0)]) hC rfl dX12_image_22 (by decide) (hok_v rfl rfl) rfl ?_
    refine z_mask (lv' := [some (.ref v0), some (.int v1), some (.int 0)]) [true, true, true] rfl ?_
    obtain ⟨n23, hw⟩ := hw
    exact t_X12_image_b23 hC hr hlk hnm n23 hw
  · have hw := hw.2 c12
    refine z_aload_n hC dX12_image_15 rfl rfl ?_
    refine z_iconst hC ic_m1 dX12_image_16 ?_
    refine z_callV (n := 1) (As := [.int (-1)]) (st := []) hC (c_X12_tell l G B S v0 (-1) _) hw.2 hw.1 rfl lk_1544 lk_1546 lk_41 lk_133 lk_1547 hd_X12_tell rfl rfl (by decide) (by decide) rfl (Nat.le_of_ble_eq_true rfl) dX12_image_17 (Nat.le_refl 0) (Nat.le_refl 0) (kI (fun x17 S hw => ?_))
    exact z_iret hC hr hlk dX12_image_20 ⟨_, rfl, hw⟩
theorem hd_X12_image : yX12_image.cls = RX12 ∧ (yX12_image.cls ≠ "java/lang/invoke/MethodHandle" ∧ yX12_image.cls ≠ "java/lang/invoke/VarHandle" ∧ (parseMethodDescriptor yX12_image.desc).map (fun d => d.parameters.length) = some 1) := by decide +kernel
end
section
variable {p : Program} {l : Launch} {e : Env} {R : Room} {s : State} {m : MethodId} {args : Array Value} {below : List Frame} {meth : Method} {c : Code} {G : hG} {B mc ms : Nat}
def w_X12_back_b39 (q : Int32 → hS → Prop) : Nat → hS → (Nat) → (Int32) → (Int32) → Prop
  | 0, _, _, _, _ => False
  | n + 1, S, v0, v1, v2 => (5585 ≤ v2 → oK S v0 12 ∧ w_X12_settled (fun x72 S => q x72 S) S v0 0) ∧ (¬ 5585 ≤ v2 → gP S v0 12 3 (fun x47 => gP S v0 12 4 (fun x52 => aI S x52 ((5585 * v1) + v2) (fun x62 => sI S x47 v2 x62 (fun S => ∀ y64 : Int32, y64 = v2 + 1 → w_X12_back_b39 q n S v0 v1 y64)))))
set_option maxRecDepth 100000 in
set_option maxHeartbeats 4000000 in
theorem t_X12_back_b39 (hC : zC p R s m args c cX12_back 3 RX12 G B mc ms 3 102) (hr : meth.sig.returnType = (Option.some FieldType.int)) (hlk : meth.locks = false) (hnm : meth.name = "back") {q : Int32 → hS → Prop} (n : Nat) : ∀ {S : hS} {v0 : Nat} {v1 : Int32} {v2 : Int32} (hw : w_X12_back_b39 q n S v0 v1 v2), Z p l e R s m args below meth c (MQ below (hQ G B (iP q)) args s mc ms (fun r => B ≤ r)) G B mc ms 3 S 0 0 39 [some (.ref v0), some (.int v1), some (.int v2)] [] := by
  induction n with
  | zero => intro S v0 v1 v2 hw; exact (by rw [w_X12_back_b39] at hw; exact hw.elim)
  | succ n ih =>
    intro S v0 v1 v2 hw
    rw [w_X12_back_b39] at hw
    refine z_iload_n hC dX12_back_39 rfl rfl ?_
    refine z_sipush hC si_5585 dX12_back_40 ?_
    refine z_icmp_ge (tgt := 70) hC dX12_back_43 (by decide) (fun c43 => ?_) (fun c43 => ?_)
    · have hw := hw.1 c43
      refine z_aload_n hC dX12_back_70 rfl rfl ?_
      refine z_iconst hC ic_0 dX12_back_71 ?_
      refine z_callV (n := 1) (As := [.int 0]) (st := []) hC (c_X12_settled l G B S v0 0 _) hw.2 hw.1 rfl lk_1563 lk_1565 lk_43 lk_133 lk_1566 hd_X12_settled rfl rfl (by decide) (by decide) rfl (Nat.le_of_ble_eq_true rfl) dX12_back_72 (Nat.le_refl 0) (Nat.le_refl 0) (kI (fun x72 S hw => ?_))
      exact z_iret hC hr hlk dX12_back_75 ⟨_, rfl, hw⟩
    · have hw := hw.2 c43
      refine z_aload_n hC dX12_back_46 rfl rfl ?_
      refine z_getP hC FX12 3 lk_1358 dX12_back_47 (by decide) hw (fun x47 hw => ?_)
      refine z_iload_n hC dX12_back_50 rfl rfl ?_
      refine z_aload_n hC dX12_back_51 rfl rfl ?_
      refine z_getP hC FX12 4 lk_1359 dX12_back_52 (by decide) hw (fun x52 hw => ?_)
      refine z_sipush hC si_5585 dX12_back_55 ?_
      refine z_iload_n hC dX12_back_58 rfl rfl ?_
      refine z_imul hC dX12_back_59 ?_
      refine z_iload_n hC dX12_back_60 rfl rfl ?_
      refine z_iadd hC dX12_back_61 ?_
      refine z_aldI hC dX12_back_62 hw (fun x62 hw => ?_)
      refine z_astI hC dX12_back_63 hw (fun S hw => ?_)
      refine z_inc (i := 2) hC ic_1 dX12_back_64 rfl (by decide) (hok_v rfl rfl) (fun y64 e64 => ?_)
      have hw := hw y64 e64
      refine z_goto (tgt := 39) hC dX12_back_67 (by decide) ?_
      refine z_mask (lv' := [some (.ref v0), some (.int v1), some (.int y64)]) [true, true, true] rfl ?_
      exact ih hw
def w_X12_back (q : Int32 → hS → Prop) (S : hS) (v0 : Nat) (v1 : Int32) : Prop := pI S v0 12 0 0 (fun S => w_X12_in (fun x9 S => (¬ x9 = 0 → gP S v0 12 5 (fun x22 => aZ S x22 v1 (fun x26 => (¬ x26 = 0 → (∃ n39 : Nat, w_X12_back_b39 q n39 S v0 v1 0)) ∧ (x26 = 0 → oK S v0 12 ∧ w_X12_tell (fun x33 S => q x33 S) S v0 (-2))))) ∧ (x9 = 0 → oK S v0 12 ∧ w_X12_tell (fun x17 S => q x17 S) S v0 (-1))) S (Int32.toInt64 v1) 0 1)
set_option maxRecDepth 100000 in
set_option maxHeartbeats 4000000 in
theorem c_X12_back (l : Launch) (G : hG) (B : Nat) (S : hS) (v0 : Nat) (v1 : Int32) (q : Int32 → hS → Prop) : Met l yX12_back (hws yX12_back cX12_back 3 (Option.some FieldType.int)) ({ frames := 3, cells := 0, slots := 0, locals := 102 }) (hPc G B S [.ref v0, .int v1] (w_X12_back q S v0 v1)) (hQ G B (iP q)) 0 0 (fun r => B ≤ r) := by
  refine hMet (rm := { frames := 3, cells := 0, slots := 0, locals := 102 }) (lv := [some (.ref v0), some (.int v1), none]) (own := RX12) (fr := 3) (lo := 102) (by decide) rfl rfl rfl (Nat.le_of_ble_eq_true rfl) rfl (fun hw p e R s m args below meth c hC hr hlk hnm => ?_)
  unfold w_X12_back at hw
  refine z_aload_n hC dX12_back_0 rfl rfl ?_
  refine z_iconst hC ic_0 dX12_back_1 ?_
  refine z_putI hC FX12 0 lk_1355 dX12_back_2 (by decide) rfl rfl hw (fun S hw => ?_)
  refine z_iload_n hC dX12_back_5 rfl rfl ?_
  refine z_i2l hC rfl dX12_back_6 ?_
  refine z_lconst hC lc_0 dX12_back_7 ?_
  refine z_lconst hC lc_1 dX12_back_8 ?_
  refine z_callS (n := 3) (As := [.long (Int32.toInt64 v1), .long 0, .long 1]) (st := []) hC (c_X12_in l G B S (Int32.toInt64 v1) 0 1 _) hw lk_1556 lk_1557 lk_133 lk_1558 hd_X12_in rfl rfl (by decide) (by decide) rfl (Nat.le_of_ble_eq_true rfl) dX12_back_9 (Nat.le_refl 0) (Nat.le_refl 0) (kI (fun x9 S hw => ?_))
  refine z_if_ne (tgt := 21) hC dX12_back_12 (by decide) (fun c12 => ?_) (fun c12 => ?_)
  · have hw := hw.1 c12
    refine z_aload_n hC dX12_back_21 rfl rfl ?_
    refine z_getP hC FX12 5 lk_1360 dX12_back_22 (by decide) hw (fun x22 hw => ?_)
    refine z_iload_n hC dX12_back_25 rfl rfl ?_
    refine z_aldZ hC dX12_back_26 hw (fun x26 hw => ?_)
    refine z_if_ne (tgt := 37) hC dX12_back_27 (by decide) (fun c27 => ?_) (fun c27 => ?_)
    · have hw := hw.1 c27
      refine z_iconst hC ic_0 dX12_back_37 ?_
      refine z_istore_n (i := 2) (lv' := [some (.ref v0), some (.int v1), some (.int 0)]) hC rfl dX12_back_38 (by decide) (hok_v rfl rfl) rfl ?_
      refine z_mask (lv' := [some (.ref v0), some (.int v1), some (.int 0)]) [true, true, true] rfl ?_
      obtain ⟨n39, hw⟩ := hw
      exact t_X12_back_b39 hC hr hlk hnm n39 hw
    · have hw := hw.2 c27
      refine z_aload_n hC dX12_back_30 rfl rfl ?_
      refine z_bipush hC bi_m2 dX12_back_31 ?_
      refine z_callV (n := 1) (As := [.int (-2)]) (st := []) hC (c_X12_tell l G B S v0 (-2) _) hw.2 hw.1 rfl lk_1544 lk_1546 lk_41 lk_133 lk_1547 hd_X12_tell rfl rfl (by decide) (by decide) rfl (Nat.le_of_ble_eq_true rfl) dX12_back_33 (Nat.le_refl 0) (Nat.le_refl 0) (kI (fun x33 S hw => ?_))
      exact z_iret hC hr hlk dX12_back_36 ⟨_, rfl, hw⟩
  · have hw := hw.2 c12
    refine z_aload_n hC dX12_back_15 rfl rfl ?_
    refine z_iconst hC ic_m1 dX12_back_16 ?_
    refine z_callV (n := 1) (As := [.int (-1)]) (st := []) hC (c_X12_tell l G B S v0 (-1) _) hw.2 hw.1 rfl lk_1544 lk_1546 lk_41 lk_133 lk_1547 hd_X12_tell rfl rfl (by decide) (by decide) rfl (Nat.le_of_ble_eq_true rfl) dX12_back_17 (Nat.le_refl 0) (Nat.le_refl 0) (kI (fun x17 S hw => ?_))
    exact z_iret hC hr hlk dX12_back_20 ⟨_, rfl, hw⟩
theorem hd_X12_back : yX12_back.cls = RX12 ∧ (yX12_back.cls ≠ "java/lang/invoke/MethodHandle" ∧ yX12_back.cls ≠ "java/lang/invoke/VarHandle" ∧ (parseMethodDescriptor yX12_back.desc).map (fun d => d.parameters.length) = some 1) := by decide +kernel
end
section
variable {p : Program} {l : Launch} {e : Env} {R : Room} {s : State} {m : MethodId} {args : Array Value} {below : List Frame} {meth : Method} {c : Code} {G : hG} {B mc ms : Nat}
def w_X12_isHouse (q : Int32 → hS → Prop) (S : hS) (v0 : Nat) (v1 : Int32) : Prop := gP S v0 12 3 (fun x4 => aI S x4 0 (fun x8 => w_X12_in (fun x12 S => (x12 = 0 ∨ x12 = 1) ∧ q x12 S) S (Int32.toInt64 v1) 0 ((Int32.toInt64 x8) - 1)))
set_option maxRecDepth 100000 in
set_option maxHeartbeats 4000000 in
theorem c_X12_isHouse (l : Launch) (G : hG) (B : Nat) (S : hS) (v0 : Nat) (v1 : Int32) (q : Int32 → hS → Prop) : Met l yX12_isHouse (hws yX12_isHouse cX12_isHouse 2 (Option.some FieldType.boolean)) ({ frames := 2, cells := 0, slots := 0, locals := 85 }) (hPc G B S [.ref v0, .int v1] (w_X12_isHouse q S v0 v1)) (hQ G B (iP q)) 0 0 (fun r => B ≤ r) := by
  refine hMet (rm := { frames := 2, cells := 0, slots := 0, locals := 85 }) (lv := [some (.ref v0), some (.int v1)]) (own := RX12) (fr := 2) (lo := 85) (by decide) rfl rfl rfl (Nat.le_of_ble_eq_true rfl) rfl (fun hw p e R s m args below meth c hC hr hlk hnm => ?_)
  unfold w_X12_isHouse at hw
  refine z_iload_n hC dX12_isHouse_0 rfl rfl ?_
  refine z_i2l hC rfl dX12_isHouse_1 ?_
  refine z_lconst hC lc_0 dX12_isHouse_2 ?_
  refine z_aload_n hC dX12_isHouse_3 rfl rfl ?_
  refine z_getP hC FX12 3 lk_1358 dX12_isHouse_4 (by decide) hw (fun x4 hw => ?_)
  refine z_iconst hC ic_0 dX12_isHouse_7 ?_
  refine z_aldI hC dX12_isHouse_8 hw (fun x8 hw => ?_)
  refine z_i2l hC rfl dX12_isHouse_9 ?_
  refine z_lconst hC lc_1 dX12_isHouse_10 ?_
  refine z_lsub hC dX12_isHouse_11 ?_
  refine z_callS (n := 3) (As := [.long (Int32.toInt64 v1), .long 0, .long ((Int32.toInt64 x8) - 1)]) (st := []) hC (c_X12_in l G B S (Int32.toInt64 v1) 0 ((Int32.toInt64 x8) - 1) _) hw lk_1556 lk_1557 lk_133 lk_1558 hd_X12_in rfl rfl (by decide) (by decide) rfl (Nat.le_of_ble_eq_true rfl) dX12_isHouse_12 (Nat.le_refl 0) (Nat.le_refl 0) (kI (fun x12 S hw => ?_))
  exact z_zret hC hr hlk (hz01 hw.1).1 dX12_isHouse_15 ⟨_, rfl, hw.2⟩
theorem hd_X12_isHouse : yX12_isHouse.cls = RX12 ∧ (yX12_isHouse.cls ≠ "java/lang/invoke/MethodHandle" ∧ yX12_isHouse.cls ≠ "java/lang/invoke/VarHandle" ∧ (parseMethodDescriptor yX12_isHouse.desc).map (fun d => d.parameters.length) = some 1) := by decide +kernel
end
section
variable {p : Program} {l : Launch} {e : Env} {R : Room} {s : State} {m : MethodId} {args : Array Value} {below : List Frame} {meth : Method} {c : Code} {G : hG} {B mc ms : Nat}
def w_X12_isPerson (q : Int32 → hS → Prop) (S : hS) (v0 : Nat) (v1 : Int32) : Prop := gP S v0 12 3 (fun x4 => aI S x4 1 (fun x8 => w_X12_in (fun x12 S => (x12 = 0 ∨ x12 = 1) ∧ q x12 S) S (Int32.toInt64 v1) 0 ((Int32.toInt64 x8) - 1)))
set_option maxRecDepth 100000 in
set_option maxHeartbeats 4000000 in
theorem c_X12_isPerson (l : Launch) (G : hG) (B : Nat) (S : hS) (v0 : Nat) (v1 : Int32) (q : Int32 → hS → Prop) : Met l yX12_isPerson (hws yX12_isPerson cX12_isPerson 2 (Option.some FieldType.boolean)) ({ frames := 2, cells := 0, slots := 0, locals := 85 }) (hPc G B S [.ref v0, .int v1] (w_X12_isPerson q S v0 v1)) (hQ G B (iP q)) 0 0 (fun r => B ≤ r) := by
  refine hMet (rm := { frames := 2, cells := 0, slots := 0, locals := 85 }) (lv := [some (.ref v0), some (.int v1)]) (own := RX12) (fr := 2) (lo := 85) (by decide) rfl rfl rfl (Nat.le_of_ble_eq_true rfl) rfl (fun hw p e R s m args below meth c hC hr hlk hnm => ?_)
  unfold w_X12_isPerson at hw
  refine z_iload_n hC dX12_isPerson_0 rfl rfl ?_
  refine z_i2l hC rfl dX12_isPerson_1 ?_
  refine z_lconst hC lc_0 dX12_isPerson_2 ?_
  refine z_aload_n hC dX12_isPerson_3 rfl rfl ?_
  refine z_getP hC FX12 3 lk_1358 dX12_isPerson_4 (by decide) hw (fun x4 hw => ?_)
  refine z_iconst hC ic_1 dX12_isPerson_7 ?_
  refine z_aldI hC dX12_isPerson_8 hw (fun x8 hw => ?_)
  refine z_i2l hC rfl dX12_isPerson_9 ?_
  refine z_lconst hC lc_1 dX12_isPerson_10 ?_
  refine z_lsub hC dX12_isPerson_11 ?_
  refine z_callS (n := 3) (As := [.long (Int32.toInt64 v1), .long 0, .long ((Int32.toInt64 x8) - 1)]) (st := []) hC (c_X12_in l G B S (Int32.toInt64 v1) 0 ((Int32.toInt64 x8) - 1) _) hw lk_1556 lk_1557 lk_133 lk_1558 hd_X12_in rfl rfl (by decide) (by decide) rfl (Nat.le_of_ble_eq_true rfl) dX12_isPerson_12 (Nat.le_refl 0) (Nat.le_refl 0) (kI (fun x12 S hw => ?_))
  exact z_zret hC hr hlk (hz01 hw.1).1 dX12_isPerson_15 ⟨_, rfl, hw.2⟩
theorem hd_X12_isPerson : yX12_isPerson.cls = RX12 ∧ (yX12_isPerson.cls ≠ "java/lang/invoke/MethodHandle" ∧ yX12_isPerson.cls ≠ "java/lang/invoke/VarHandle" ∧ (parseMethodDescriptor yX12_isPerson.desc).map (fun d => d.parameters.length) = some 1) := by decide +kernel
end
section
variable {p : Program} {l : Launch} {e : Env} {R : Room} {s : State} {m : MethodId} {args : Array Value} {below : List Frame} {meth : Method} {c : Code} {G : hG} {B mc ms : Nat}
def w_X12_isPlace (q : Int32 → hS → Prop) (S : hS) (v0 : Int32) : Prop := w_X12_in (fun x6 S => (x6 = 0 ∨ x6 = 1) ∧ q x6 S) S (Int32.toInt64 v0) 0 24
set_option maxRecDepth 100000 in
set_option maxHeartbeats 4000000 in
theorem c_X12_isPlace (l : Launch) (G : hG) (B : Nat) (S : hS) (v0 : Int32) (q : Int32 → hS → Prop) : Met l yX12_isPlace (hws yX12_isPlace cX12_isPlace 1 (Option.some FieldType.boolean)) ({ frames := 2, cells := 0, slots := 0, locals := 85 }) (hPc G B S [.int v0] (w_X12_isPlace q S v0)) (hQ G B (iP q)) 0 0 (fun r => B ≤ r) := by
  refine hMet (rm := { frames := 2, cells := 0, slots := 0, locals := 85 }) (lv := [some (.int v0)]) (own := RX12) (fr := 2) (lo := 85) (by decide) rfl rfl rfl (Nat.le_of_ble_eq_true rfl) rfl (fun hw p e R s m args below meth c hC hr hlk hnm => ?_)
  unfold w_X12_isPlace at hw
  refine z_iload_n hC dX12_isPlace_0 rfl rfl ?_
  refine z_i2l hC rfl dX12_isPlace_1 ?_
  refine z_lconst hC lc_0 dX12_isPlace_2 ?_
  refine z_ldc2 hC lk_1574 dX12_isPlace_3 ?_
  refine z_callS (n := 3) (As := [.long (Int32.toInt64 v0), .long 0, .long 24]) (st := []) hC (c_X12_in l G B S (Int32.toInt64 v0) 0 24 _) hw lk_1556 lk_1557 lk_133 lk_1558 hd_X12_in rfl rfl (by decide) (by decide) rfl (Nat.le_of_ble_eq_true rfl) dX12_isPlace_6 (Nat.le_refl 0) (Nat.le_refl 0) (kI (fun x6 S hw => ?_))
  exact z_zret hC hr hlk (hz01 hw.1).1 dX12_isPlace_9 ⟨_, rfl, hw.2⟩
theorem hd_X12_isPlace : yX12_isPlace.cls = RX12 ∧ (yX12_isPlace.cls ≠ "java/lang/invoke/MethodHandle" ∧ yX12_isPlace.cls ≠ "java/lang/invoke/VarHandle" ∧ (parseMethodDescriptor yX12_isPlace.desc).map (fun d => d.parameters.length) = some 1) := by decide +kernel
end
section
variable {p : Program} {l : Launch} {e : Env} {R : Room} {s : State} {m : MethodId} {args : Array Value} {below : List Frame} {meth : Method} {c : Code} {G : hG} {B mc ms : Nat}
def w_X12_lives (q : Int32 → hS → Prop) (S : hS) (v0 : Nat) (v1 : Int32) : Prop := gP S v0 12 3 (fun x1 => aI S x1 (22 + v1) (fun x8 => (¬ x8 = 0 → q 0 S) ∧ (x8 = 0 → q 1 S)))
set_option maxRecDepth 100000 in
set_option maxHeartbeats 4000000 in
theorem c_X12_lives (l : Launch) (G : hG) (B : Nat) (S : hS) (v0 : Nat) (v1 : Int32) (q : Int32 → hS → Prop) : Met l yX12_lives (hws yX12_lives cX12_lives 2 (Option.some FieldType.boolean)) ({ frames := 1, cells := 0, slots := 0, locals := 60 }) (hPc G B S [.ref v0, .int v1] (w_X12_lives q S v0 v1)) (hQ G B (iP q)) 0 0 (fun r => B ≤ r) := by
  refine hMet (rm := { frames := 1, cells := 0, slots := 0, locals := 60 }) (lv := [some (.ref v0), some (.int v1)]) (own := RX12) (fr := 1) (lo := 60) (by decide) rfl rfl rfl (Nat.le_of_ble_eq_true rfl) rfl (fun hw p e R s m args below meth c hC hr hlk hnm => ?_)
  unfold w_X12_lives at hw
  refine z_aload_n hC dX12_lives_0 rfl rfl ?_
  refine z_getP hC FX12 3 lk_1358 dX12_lives_1 (by decide) hw (fun x1 hw => ?_)
  refine z_bipush hC bi_22 dX12_lives_4 ?_
  refine z_iload_n hC dX12_lives_6 rfl rfl ?_
  refine z_iadd hC dX12_lives_7 ?_
  refine z_aldI hC dX12_lives_8 hw (fun x8 hw => ?_)
  refine z_if_ne (tgt := 16) hC dX12_lives_9 (by decide) (fun c9 => ?_) (fun c9 => ?_)
  · have hw := hw.1 c9
    refine z_iconst hC ic_0 dX12_lives_16 ?_
    exact z_zret hC hr hlk (hz01 (Or.inl rfl)).1 dX12_lives_17 ⟨_, rfl, hw⟩
  · have hw := hw.2 c9
    refine z_iconst hC ic_1 dX12_lives_12 ?_
    refine z_goto (tgt := 17) hC dX12_lives_13 (by decide) ?_
    exact z_zret hC hr hlk (hz01 (Or.inr rfl)).1 dX12_lives_17 ⟨_, rfl, hw⟩
theorem hd_X12_lives : yX12_lives.cls = RX12 ∧ (yX12_lives.cls ≠ "java/lang/invoke/MethodHandle" ∧ yX12_lives.cls ≠ "java/lang/invoke/VarHandle" ∧ (parseMethodDescriptor yX12_lives.desc).map (fun d => d.parameters.length) = some 1) := by decide +kernel
end
section
variable {p : Program} {l : Launch} {e : Env} {R : Room} {s : State} {m : MethodId} {args : Array Value} {below : List Frame} {meth : Method} {c : Code} {G : hG} {B mc ms : Nat}
def w_X12_living_b30 (q : Int32 → hS → Prop) (K4 : hS → Nat → Int32 → Int32 → Prop) (S : hS) (v0 : Nat) (v2 : Int32) (t0 : Int32) (t1 : Int32) : Prop := ∀ y31 : Int32, y31 = (t1 ||| t0) → ∀ y32 : Int32, y32 = v2 + 1 → K4 S v0 y31 y32
set_option maxRecDepth 100000 in
set_option maxHeartbeats 4000000 in
theorem t_X12_living_b30 (hC : zC p R s m args c cX12_living 3 RX12 G B mc ms 2 81) (hr : meth.sig.returnType = (Option.some FieldType.int)) (hlk : meth.locks = false) (hnm : meth.name = "living") {q : Int32 → hS → Prop} {K4 : hS → Nat → Int32 → Int32 → Prop} (hK4 : ∀ {S : hS} {v0 : Nat} {v1 : Int32} {v2 : Int32}, K4 S v0 v1 v2 → Z p l e R s m args below meth c (MQ below (hQ G B (iP q)) args s mc ms (fun r => B ≤ r)) G B mc ms 3 S 0 0 4 [some (.ref v0), some (.int v1), some (.int v2)] []) {S : hS} {v0 : Nat} {v2 : Int32} {t0 : Int32} {t1 : Int32} (hw : w_X12_living_b30 q K4 S v0 v2 t0 t1) : Z p l e R s m args below meth c (MQ below (hQ G B (iP q)) args s mc ms (fun r => B ≤ r)) G B mc ms 3 S 0 0 30 [some (.ref v0), none, some (.int v2)] [.int t0, .int t1] := by
  unfold w_X12_living_b30 at hw
  refine z_ior hC dX12_living_30 ?_
  refine z_nmI (fun y31 e31 => ?_)
  have hw := hw y31 e31
  refine z_istore_n (i := 1) (lv' := [some (.ref v0), some (.int y31), some (.int v2)]) hC rfl dX12_living_31 (by decide) (hok_v rfl rfl) rfl ?_
  refine z_inc (i := 2) hC ic_1 dX12_living_32 rfl (by decide) (hok_v rfl rfl) (fun y32 e32 => ?_)
  have hw := hw y32 e32
  refine z_goto (tgt := 4) hC dX12_living_35 (by decide) ?_
  refine z_mask (lv' := [some (.ref v0), some (.int y31), some (.int y32)]) [true, true, true] rfl ?_
  exact hK4 hw
def w_X12_living_b4 (q : Int32 → hS → Prop) : Nat → hS → (Nat) → (Int32) → (Int32) → Prop
  | 0, _, _, _, _ => False
  | n + 1, S, v0, v1, v2 => gP S v0 12 3 (fun x6 => aI S x6 1 (fun x10 => (x10 ≤ v2 → q v1 S) ∧ (¬ x10 ≤ v2 → oK S v0 12 ∧ w_X12_lives (fun x17 S => (x17 = 0 → w_X12_living_b30 q (fun S v0 v1 v2 => w_X12_living_b4 q n S v0 v1 v2) S v0 v2 0 v1) ∧ (¬ x17 = 0 → w_X12_living_b30 q (fun S v0 v1 v2 => w_X12_living_b4 q n S v0 v1 v2) S v0 v2 (1 <<< (v2 &&& 31)) v1)) S v0 v2)))
set_option maxRecDepth 100000 in
set_option maxHeartbeats 4000000 in
theorem t_X12_living_b4 (hC : zC p R s m args c cX12_living 3 RX12 G B mc ms 2 81) (hr : meth.sig.returnType = (Option.some FieldType.int)) (hlk : meth.locks = false) (hnm : meth.name = "living") {q : Int32 → hS → Prop} (n : Nat) : ∀ {S : hS} {v0 : Nat} {v1 : Int32} {v2 : Int32} (hw : w_X12_living_b4 q n S v0 v1 v2), Z p l e R s m args below meth c (MQ below (hQ G B (iP q)) args s mc ms (fun r => B ≤ r)) G B mc ms 3 S 0 0 4 [some (.ref v0), some (.int v1), some (.int v2)] [] := by
  induction n with
  | zero => intro S v0 v1 v2 hw; exact (by rw [w_X12_living_b4] at hw; exact hw.elim)
  | succ n ih =>
    intro S v0 v1 v2 hw
    rw [w_X12_living_b4] at hw
    refine z_iload_n hC dX12_living_4 rfl rfl ?_
    refine z_aload_n hC dX12_living_5 rfl rfl ?_
    refine z_getP hC FX12 3 lk_1358 dX12_living_6 (by decide) hw (fun x6 hw => ?_)
    refine z_iconst hC ic_1 dX12_living_9 ?_
    refine z_aldI hC dX12_living_10 hw (fun x10 hw => ?_)
    refine z_icmp_ge (tgt := 38) hC dX12_living_11 (by decide) (fun c11 => ?_) (fun c11 => ?_)
    · have hw := hw.1 c11
      refine z_iload_n hC dX12_living_38 rfl rfl ?_
      exact z_iret hC hr hlk dX12_living_39 ⟨_, rfl, hw⟩
    · have hw := hw.2 c11
      refine z_iload_n hC dX12_living_14 rfl rfl ?_
      refine z_aload_n hC dX12_living_15 rfl rfl ?_
      refine z_iload_n hC dX12_living_16 rfl rfl ?_
      refine z_callV (n := 1) (As := [.int v2]) (st := [.int v1]) hC (c_X12_lives l G B S v0 v2 _) hw.2 hw.1 rfl lk_1644 lk_1646 lk_56 lk_133 lk_1647 hd_X12_lives rfl rfl (by decide) (by decide) rfl (Nat.le_of_ble_eq_true rfl) dX12_living_17 (Nat.le_refl 0) (Nat.le_refl 0) (kI (fun x17 S hw => ?_))
      refine z_if_eq (tgt := 29) hC dX12_living_20 (by decide) (fun c20 => ?_) (fun c20 => ?_)
      · have hw := hw.1 c20
        refine z_iconst hC ic_0 dX12_living_29 ?_
        refine z_mask (lv' := [some (.ref v0), none, some (.int v2)]) [true, false, true] rfl ?_
        exact t_X12_living_b30 hC hr hlk hnm (fun hw => ih hw) hw
      · have hw := hw.2 c20
        refine z_iconst hC ic_1 dX12_living_23 ?_
        refine z_iload_n hC dX12_living_24 rfl rfl ?_
        refine z_ishl hC dX12_living_25 ?_
        refine z_goto (tgt := 30) hC dX12_living_26 (by decide) ?_
        refine z_mask (lv' := [some (.ref v0), none, some (.int v2)]) [true, false, true] rfl ?_
        exact t_X12_living_b30 hC hr hlk hnm (fun hw => ih hw) hw
def w_X12_living (q : Int32 → hS → Prop) (S : hS) (v0 : Nat) : Prop := (∃ n4 : Nat, w_X12_living_b4 q n4 S v0 0 0)
set_option maxRecDepth 100000 in
set_option maxHeartbeats 4000000 in
theorem c_X12_living (l : Launch) (G : hG) (B : Nat) (S : hS) (v0 : Nat) (q : Int32 → hS → Prop) : Met l yX12_living (hws yX12_living cX12_living 3 (Option.some FieldType.int)) ({ frames := 2, cells := 0, slots := 0, locals := 81 }) (hPc G B S [.ref v0] (w_X12_living q S v0)) (hQ G B (iP q)) 0 0 (fun r => B ≤ r) := by
  refine hMet (rm := { frames := 2, cells := 0, slots := 0, locals := 81 }) (lv := [some (.ref v0), none, none]) (own := RX12) (fr := 2) (lo := 81) (by decide) rfl rfl rfl (Nat.le_of_ble_eq_true rfl) rfl (fun hw p e R s m args below meth c hC hr hlk hnm => ?_)
  unfold w_X12_living at hw
  refine z_iconst hC ic_0 dX12_living_0 ?_
  refine z_istore_n (i := 1) (lv' := [some (.ref v0), some (.int 0), none]) hC rfl dX12_living_1 (by decide) (hok_v rfl rfl) rfl ?_
  refine z_iconst hC ic_0 dX12_living_2 ?_
  refine z_istore_n (i := 2) (lv' := [some (.ref v0), some (.int 0), some (.int 0)]) hC rfl dX12_living_3 (by decide) (hok_v rfl rfl) rfl ?_
  refine z_mask (lv' := [some (.ref v0), some (.int 0), some (.int 0)]) [true, true, true] rfl ?_
  obtain ⟨n4, hw⟩ := hw
  exact t_X12_living_b4 hC hr hlk hnm n4 hw
theorem hd_X12_living : yX12_living.cls = RX12 ∧ (yX12_living.cls ≠ "java/lang/invoke/MethodHandle" ∧ yX12_living.cls ≠ "java/lang/invoke/VarHandle" ∧ (parseMethodDescriptor yX12_living.desc).map (fun d => d.parameters.length) = some 0) := by decide +kernel
end
section
variable {p : Program} {l : Launch} {e : Env} {R : Room} {s : State} {m : MethodId} {args : Array Value} {below : List Frame} {meth : Method} {c : Code} {G : hG} {B mc ms : Nat}
def w_X12_rights (q : Int32 → hS → Prop) (S : hS) (v0 : Nat) (v1 : Int32) (v2 : Int32) : Prop := gP S v0 12 3 (fun x1 => aI S x1 ((30 + (6 * v1)) + v2) (fun x13 => q x13 S))
set_option maxRecDepth 100000 in
set_option maxHeartbeats 4000000 in
theorem c_X12_rights (l : Launch) (G : hG) (B : Nat) (S : hS) (v0 : Nat) (v1 : Int32) (v2 : Int32) (q : Int32 → hS → Prop) : Met l yX12_rights (hws yX12_rights cX12_rights 3 (Option.some FieldType.int)) ({ frames := 1, cells := 0, slots := 0, locals := 60 }) (hPc G B S [.ref v0, .int v1, .int v2] (w_X12_rights q S v0 v1 v2)) (hQ G B (iP q)) 0 0 (fun r => B ≤ r) := by
  refine hMet (rm := { frames := 1, cells := 0, slots := 0, locals := 60 }) (lv := [some (.ref v0), some (.int v1), some (.int v2)]) (own := RX12) (fr := 1) (lo := 60) (by decide) rfl rfl rfl (Nat.le_of_ble_eq_true rfl) rfl (fun hw p e R s m args below meth c hC hr hlk hnm => ?_)
  unfold w_X12_rights at hw
  refine z_aload_n hC dX12_rights_0 rfl rfl ?_
  refine z_getP hC FX12 3 lk_1358 dX12_rights_1 (by decide) hw (fun x1 hw => ?_)
  refine z_bipush hC bi_30 dX12_rights_4 ?_
  refine z_bipush hC bi_6 dX12_rights_6 ?_
  refine z_iload_n hC dX12_rights_8 rfl rfl ?_
  refine z_imul hC dX12_rights_9 ?_
  refine z_iadd hC dX12_rights_10 ?_
  refine z_iload_n hC dX12_rights_11 rfl rfl ?_
  refine z_iadd hC dX12_rights_12 ?_
  refine z_aldI hC dX12_rights_13 hw (fun x13 hw => ?_)
  exact z_iret hC hr hlk dX12_rights_14 ⟨_, rfl, hw⟩
theorem hd_X12_rights : yX12_rights.cls = RX12 ∧ (yX12_rights.cls ≠ "java/lang/invoke/MethodHandle" ∧ yX12_rights.cls ≠ "java/lang/invoke/VarHandle" ∧ (parseMethodDescriptor yX12_rights.desc).map (fun d => d.parameters.length) = some 2) := by decide +kernel
end
section
variable {p : Program} {l : Launch} {e : Env} {R : Room} {s : State} {m : MethodId} {args : Array Value} {below : List Frame} {meth : Method} {c : Code} {G : hG} {B mc ms : Nat}
def w_X12_leftOf (q : Int32 → hS → Prop) (S : hS) (v0 : Nat) (v1 : Int32) (v2 : Int32) : Prop := oK S v0 12 ∧ w_X12_rights (fun x3 S => gP S v0 12 3 (fun x7 => aI S x7 ((78 + (6 * v1)) + v2) (fun x19 => q (x3 - x19) S))) S v0 v1 v2
set_option maxRecDepth 100000 in
set_option maxHeartbeats 4000000 in
theorem c_X12_leftOf (l : Launch) (G : hG) (B : Nat) (S : hS) (v0 : Nat) (v1 : Int32) (v2 : Int32) (q : Int32 → hS → Prop) : Met l yX12_leftOf (hws yX12_leftOf cX12_leftOf 3 (Option.some FieldType.int)) ({ frames := 2, cells := 0, slots := 0, locals := 82 }) (hPc G B S [.ref v0, .int v1, .int v2] (w_X12_leftOf q S v0 v1 v2)) (hQ G B (iP q)) 0 0 (fun r => B ≤ r) := by
  refine hMet (rm := { frames := 2, cells := 0, slots := 0, locals := 82 }) (lv := [some (.ref v0), some (.int v1), some (.int v2)]) (own := RX12) (fr := 2) (lo := 82) (by decide) rfl rfl rfl (Nat.le_of_ble_eq_true rfl) rfl (fun hw p e R s m args below meth c hC hr hlk hnm => ?_)
  unfold w_X12_leftOf at hw
  refine z_aload_n hC dX12_leftOf_0 rfl rfl ?_
  refine z_iload_n hC dX12_leftOf_1 rfl rfl ?_
  refine z_iload_n hC dX12_leftOf_2 rfl rfl ?_
  refine z_callV (n := 2) (As := [.int v1, .int v2]) (st := []) hC (c_X12_rights l G B S v0 v1 v2 _) hw.2 hw.1 rfl lk_1588 lk_1590 lk_46 lk_133 lk_1591 hd_X12_rights rfl rfl (by decide) (by decide) rfl (Nat.le_of_ble_eq_true rfl) dX12_leftOf_3 (Nat.le_refl 0) (Nat.le_refl 0) (kI (fun x3 S hw => ?_))
  refine z_aload_n hC dX12_leftOf_6 rfl rfl ?_
  refine z_getP hC FX12 3 lk_1358 dX12_leftOf_7 (by decide) hw (fun x7 hw => ?_)
  refine z_bipush hC bi_78 dX12_leftOf_10 ?_
  refine z_bipush hC bi_6 dX12_leftOf_12 ?_
  refine z_iload_n hC dX12_leftOf_14 rfl rfl ?_
  refine z_imul hC dX12_leftOf_15 ?_
  refine z_iadd hC dX12_leftOf_16 ?_
  refine z_iload_n hC dX12_leftOf_17 rfl rfl ?_
  refine z_iadd hC dX12_leftOf_18 ?_
  refine z_aldI hC dX12_leftOf_19 hw (fun x19 hw => ?_)
  refine z_isub hC dX12_leftOf_20 ?_
  exact z_iret hC hr hlk dX12_leftOf_21 ⟨_, rfl, hw⟩
theorem hd_X12_leftOf : yX12_leftOf.cls = RX12 ∧ (yX12_leftOf.cls ≠ "java/lang/invoke/MethodHandle" ∧ yX12_leftOf.cls ≠ "java/lang/invoke/VarHandle" ∧ (parseMethodDescriptor yX12_leftOf.desc).map (fun d => d.parameters.length) = some 2) := by decide +kernel
end
section
variable {p : Program} {l : Launch} {e : Env} {R : Room} {s : State} {m : MethodId} {args : Array Value} {below : List Frame} {meth : Method} {c : Code} {G : hG} {B mc ms : Nat}
def w_X12_leftOfAll_b4 (q : Int32 → hS → Prop) : Nat → hS → (Nat) → (Int32) → (Int32) → (Int32) → Prop
  | 0, _, _, _, _, _ => False
  | n + 1, S, v0, v1, v2, v3 => gP S v0 12 3 (fun x6 => aI S x6 0 (fun x10 => (x10 ≤ v3 → q v2 S) ∧ (¬ x10 ≤ v3 → oK S v0 12 ∧ w_X12_leftOf (fun x18 S => ∀ y22 : Int32, y22 = (v2 + x18) → ∀ y23 : Int32, y23 = v3 + 1 → w_X12_leftOfAll_b4 q n S v0 v1 y22 y23) S v0 v1 v3)))
set_option maxRecDepth 100000 in
set_option maxHeartbeats 4000000 in
theorem t_X12_leftOfAll_b4 (hC : zC p R s m args c cX12_leftOfAll 4 RX12 G B mc ms 3 104) (hr : meth.sig.returnType = (Option.some FieldType.int)) (hlk : meth.locks = false) (hnm : meth.name = "leftOfAll") {q : Int32 → hS → Prop} (n : Nat) : ∀ {S : hS} {v0 : Nat} {v1 : Int32} {v2 : Int32} {v3 : Int32} (hw : w_X12_leftOfAll_b4 q n S v0 v1 v2 v3), Z p l e R s m args below meth c (MQ below (hQ G B (iP q)) args s mc ms (fun r => B ≤ r)) G B mc ms 4 S 0 0 4 [some (.ref v0), some (.int v1), some (.int v2), some (.int v3)] [] := by
  induction n with
  | zero => intro S v0 v1 v2 v3 hw; exact (by rw [w_X12_leftOfAll_b4] at hw; exact hw.elim)
  | succ n ih =>
    intro S v0 v1 v2 v3 hw
    rw [w_X12_leftOfAll_b4] at hw
    refine z_iload_n hC dX12_leftOfAll_4 rfl rfl ?_
    refine z_aload_n hC dX12_leftOfAll_5 rfl rfl ?_
    refine z_getP hC FX12 3 lk_1358 dX12_leftOfAll_6 (by decide) hw (fun x6 hw => ?_)
    refine z_iconst hC ic_0 dX12_leftOfAll_9 ?_
    refine z_aldI hC dX12_leftOfAll_10 hw (fun x10 hw => ?_)
    refine z_icmp_ge (tgt := 29) hC dX12_leftOfAll_11 (by decide) (fun c11 => ?_) (fun c11 => ?_)
    · have hw := hw.1 c11
      refine z_iload_n hC dX12_leftOfAll_29 rfl rfl ?_
      exact z_iret hC hr hlk dX12_leftOfAll_30 ⟨_, rfl, hw⟩
    · have hw := hw.2 c11
      refine z_iload_n hC dX12_leftOfAll_14 rfl rfl ?_
      refine z_aload_n hC dX12_leftOfAll_15 rfl rfl ?_
      refine z_iload_n hC dX12_leftOfAll_16 rfl rfl ?_
      refine z_iload_n hC dX12_leftOfAll_17 rfl rfl ?_
      refine z_callV (n := 2) (As := [.int v1, .int v3]) (st := [.int v2]) hC (c_X12_leftOf l G B S v0 v1 v3 _) hw.2 hw.1 rfl lk_1602 lk_1604 lk_49 lk_133 lk_1605 hd_X12_leftOf rfl rfl (by decide) (by decide) rfl (Nat.le_of_ble_eq_true rfl) dX12_leftOfAll_18 (Nat.le_refl 0) (Nat.le_refl 0) (kI (fun x18 S hw => ?_))
      refine z_iadd hC dX12_leftOfAll_21 ?_
      refine z_nmI (fun y22 e22 => ?_)
      have hw := hw y22 e22
      refine z_istore_n (i := 2) (lv' := [some (.ref v0), some (.int v1), some (.int y22), some (.int v3)]) hC rfl dX12_leftOfAll_22 (by decide) (hok_v rfl rfl) rfl ?_
      refine z_inc (i := 3) hC ic_1 dX12_leftOfAll_23 rfl (by decide) (hok_v rfl rfl) (fun y23 e23 => ?_)
      have hw := hw y23 e23
      refine z_goto (tgt := 4) hC dX12_leftOfAll_26 (by decide) ?_
      refine z_mask (lv' := [some (.ref v0), some (.int v1), some (.int y22), some (.int y23)]) [true, true, true, true] rfl ?_
      exact ih hw
def w_X12_leftOfAll (q : Int32 → hS → Prop) (S : hS) (v0 : Nat) (v1 : Int32) : Prop := (∃ n4 : Nat, w_X12_leftOfAll_b4 q n4 S v0 v1 0 0)
set_option maxRecDepth 100000 in
set_option maxHeartbeats 4000000 in
theorem c_X12_leftOfAll (l : Launch) (G : hG) (B : Nat) (S : hS) (v0 : Nat) (v1 : Int32) (q : Int32 → hS → Prop) : Met l yX12_leftOfAll (hws yX12_leftOfAll cX12_leftOfAll 4 (Option.some FieldType.int)) ({ frames := 3, cells := 0, slots := 0, locals := 104 }) (hPc G B S [.ref v0, .int v1] (w_X12_leftOfAll q S v0 v1)) (hQ G B (iP q)) 0 0 (fun r => B ≤ r) := by
  refine hMet (rm := { frames := 3, cells := 0, slots := 0, locals := 104 }) (lv := [some (.ref v0), some (.int v1), none, none]) (own := RX12) (fr := 3) (lo := 104) (by decide) rfl rfl rfl (Nat.le_of_ble_eq_true rfl) rfl (fun hw p e R s m args below meth c hC hr hlk hnm => ?_)
  unfold w_X12_leftOfAll at hw
  refine z_iconst hC ic_0 dX12_leftOfAll_0 ?_
  refine z_istore_n (i := 2) (lv' := [some (.ref v0), some (.int v1), some (.int 0), none]) hC rfl dX12_leftOfAll_1 (by decide) (hok_v rfl rfl) rfl ?_
  refine z_iconst hC ic_0 dX12_leftOfAll_2 ?_
  refine z_istore_n (i := 3) (lv' := [some (.ref v0), some (.int v1), some (.int 0), some (.int 0)]) hC rfl dX12_leftOfAll_3 (by decide) (hok_v rfl rfl) rfl ?_
  refine z_mask (lv' := [some (.ref v0), some (.int v1), some (.int 0), some (.int 0)]) [true, true, true, true] rfl ?_
  obtain ⟨n4, hw⟩ := hw
  exact t_X12_leftOfAll_b4 hC hr hlk hnm n4 hw
theorem hd_X12_leftOfAll : yX12_leftOfAll.cls = RX12 ∧ (yX12_leftOfAll.cls ≠ "java/lang/invoke/MethodHandle" ∧ yX12_leftOfAll.cls ≠ "java/lang/invoke/VarHandle" ∧ (parseMethodDescriptor yX12_leftOfAll.desc).map (fun d => d.parameters.length) = some 1) := by decide +kernel
end
section
variable {p : Program} {l : Launch} {e : Env} {R : Room} {s : State} {m : MethodId} {args : Array Value} {below : List Frame} {meth : Method} {c : Code} {G : hG} {B mc ms : Nat}
def w_X12_stepsOf_b26 (q : Int32 → hS → Prop) (S : hS) (v3 : Int32) (t0 : Int32) : Prop := (0 ≤ v3 → q (t0 + v3) S) ∧ (¬ 0 ≤ v3 → q (t0 + (-v3)) S)
set_option maxRecDepth 100000 in
set_option maxHeartbeats 4000000 in
theorem t_X12_stepsOf_b26 (hC : zC p R s m args c cX12_stepsOf 4 RX12 G B mc ms 1 60) (hr : meth.sig.returnType = (Option.some FieldType.int)) (hlk : meth.locks = false) (hnm : meth.name = "stepsOf") {q : Int32 → hS → Prop} {S : hS} {v3 : Int32} {t0 : Int32} (hw : w_X12_stepsOf_b26 q S v3 t0) : Z p l e R s m args below meth c (MQ below (hQ G B (iP q)) args s mc ms (fun r => B ≤ r)) G B mc ms 4 S 0 0 26 [none, none, none, some (.int v3)] [.int t0] := by
  unfold w_X12_stepsOf_b26 at hw
  refine z_iload_n hC dX12_stepsOf_26 rfl rfl ?_
  refine z_if_ge (tgt := 35) hC dX12_stepsOf_27 (by decide) (fun c27 => ?_) (fun c27 => ?_)
  · have hw := hw.1 c27
    refine z_iload_n hC dX12_stepsOf_35 rfl rfl ?_
    refine z_iadd hC dX12_stepsOf_36 ?_
    exact z_iret hC hr hlk dX12_stepsOf_37 ⟨_, rfl, hw⟩
  · have hw := hw.2 c27
    refine z_iload_n hC dX12_stepsOf_30 rfl rfl ?_
    refine z_ineg hC dX12_stepsOf_31 ?_
    refine z_goto (tgt := 36) hC dX12_stepsOf_32 (by decide) ?_
    refine z_iadd hC dX12_stepsOf_36 ?_
    exact z_iret hC hr hlk dX12_stepsOf_37 ⟨_, rfl, hw⟩
def w_X12_stepsOf (q : Int32 → hS → Prop) (S : hS) (v0 : Int32) (v1 : Int32) : Prop := ∀ y7 : Int32, y7 = ((v0 - v0 / 5 * 5) - (v1 - v1 / 5 * 5)) → ∀ y15 : Int32, y15 = ((v0 / 5) - (v1 / 5)) → (0 ≤ y7 → w_X12_stepsOf_b26 q S y15 y7) ∧ (¬ 0 ≤ y7 → w_X12_stepsOf_b26 q S y15 (-y7))
set_option maxRecDepth 100000 in
set_option maxHeartbeats 4000000 in
theorem c_X12_stepsOf (l : Launch) (G : hG) (B : Nat) (S : hS) (v0 : Int32) (v1 : Int32) (q : Int32 → hS → Prop) : Met l yX12_stepsOf (hws yX12_stepsOf cX12_stepsOf 4 (Option.some FieldType.int)) ({ frames := 1, cells := 0, slots := 0, locals := 60 }) (hPc G B S [.int v0, .int v1] (w_X12_stepsOf q S v0 v1)) (hQ G B (iP q)) 0 0 (fun r => B ≤ r) := by
  refine hMet (rm := { frames := 1, cells := 0, slots := 0, locals := 60 }) (lv := [some (.int v0), some (.int v1), none, none]) (own := RX12) (fr := 1) (lo := 60) (by decide) rfl rfl rfl (Nat.le_of_ble_eq_true rfl) rfl (fun hw p e R s m args below meth c hC hr hlk hnm => ?_)
  unfold w_X12_stepsOf at hw
  refine z_iload_n hC dX12_stepsOf_0 rfl rfl ?_
  refine z_iconst hC ic_5 dX12_stepsOf_1 ?_
  refine z_irem hC (by decide) dX12_stepsOf_2 ?_
  refine z_iload_n hC dX12_stepsOf_3 rfl rfl ?_
  refine z_iconst hC ic_5 dX12_stepsOf_4 ?_
  refine z_irem hC (by decide) dX12_stepsOf_5 ?_
  refine z_isub hC dX12_stepsOf_6 ?_
  refine z_nmI (fun y7 e7 => ?_)
  have hw := hw y7 e7
  refine z_istore_n (i := 2) (lv' := [some (.int v0), some (.int v1), some (.int y7), none]) hC rfl dX12_stepsOf_7 (by decide) (hok_v rfl rfl) rfl ?_
  refine z_iload_n hC dX12_stepsOf_8 rfl rfl ?_
  refine z_iconst hC ic_5 dX12_stepsOf_9 ?_
  refine z_idiv hC (by decide) dX12_stepsOf_10 ?_
  refine z_iload_n hC dX12_stepsOf_11 rfl rfl ?_
  refine z_iconst hC ic_5 dX12_stepsOf_12 ?_
  refine z_idiv hC (by decide) dX12_stepsOf_13 ?_
  refine z_isub hC dX12_stepsOf_14 ?_
  refine z_nmI (fun y15 e15 => ?_)
  have hw := hw y15 e15
  refine z_istore_n (i := 3) (lv' := [some (.int v0), some (.int v1), some (.int y7), some (.int y15)]) hC rfl dX12_stepsOf_15 (by decide) (hok_v rfl rfl) rfl ?_
  refine z_iload_n hC dX12_stepsOf_16 rfl rfl ?_
  refine z_if_ge (tgt := 25) hC dX12_stepsOf_17 (by decide) (fun c17 => ?_) (fun c17 => ?_)
  · have hw := hw.1 c17
    refine z_iload_n hC dX12_stepsOf_25 rfl rfl ?_
    refine z_mask (lv' := [none, none, none, some (.int y15)]) [false, false, false, true] rfl ?_
    exact t_X12_stepsOf_b26 hC hr hlk hnm hw
  · have hw := hw.2 c17
    refine z_iload_n hC dX12_stepsOf_20 rfl rfl ?_
    refine z_ineg hC dX12_stepsOf_21 ?_
    refine z_goto (tgt := 26) hC dX12_stepsOf_22 (by decide) ?_
    refine z_mask (lv' := [none, none, none, some (.int y15)]) [false, false, false, true] rfl ?_
    exact t_X12_stepsOf_b26 hC hr hlk hnm hw
theorem hd_X12_stepsOf : yX12_stepsOf.cls = RX12 ∧ (yX12_stepsOf.cls ≠ "java/lang/invoke/MethodHandle" ∧ yX12_stepsOf.cls ≠ "java/lang/invoke/VarHandle" ∧ (parseMethodDescriptor yX12_stepsOf.desc).map (fun d => d.parameters.length) = some 2) := by decide +kernel
end
section
variable {p : Program} {l : Launch} {e : Env} {R : Room} {s : State} {m : MethodId} {args : Array Value} {below : List Frame} {meth : Method} {c : Code} {G : hG} {B mc ms : Nat}
def w_X12_house_b24 (q : Int32 → hS → Prop) (S : hS) (v0 : Nat) : Prop := oK S v0 12 ∧ w_X12_tell (fun x26 S => q x26 S) S v0 (-1)
set_option maxRecDepth 100000 in
set_option maxHeartbeats 4000000 in
theorem t_X12_house_b24 (hC : zC p R s m args c cX12_house 5 RX12 G B mc ms 3 105) (hr : meth.sig.returnType = (Option.some FieldType.int)) (hlk : meth.locks = false) (hnm : meth.name = "house") {q : Int32 → hS → Prop} {S : hS} {v0 : Nat} (hw : w_X12_house_b24 q S v0) : Z p l e R s m args below meth c (MQ below (hQ G B (iP q)) args s mc ms (fun r => B ≤ r)) G B mc ms 5 S 0 0 24 [some (.ref v0), none, none, none, none] [] := by
  unfold w_X12_house_b24 at hw
  refine z_aload_n hC dX12_house_24 rfl rfl ?_
  refine z_iconst hC ic_m1 dX12_house_25 ?_
  refine z_callV (n := 1) (As := [.int (-1)]) (st := []) hC (c_X12_tell l G B S v0 (-1) _) hw.2 hw.1 rfl lk_1544 lk_1546 lk_41 lk_133 lk_1547 hd_X12_tell rfl rfl (by decide) (by decide) rfl (Nat.le_of_ble_eq_true rfl) dX12_house_26 (Nat.le_refl 0) (Nat.le_refl 0) (kI (fun x26 S hw => ?_))
  exact z_iret hC hr hlk dX12_house_29 ⟨_, rfl, hw⟩
def w_X12_house_b84 (q : Int32 → hS → Prop) : Nat → hS → (Nat) → (Int32) → (Int32) → Prop
  | 0, _, _, _, _ => False
  | n + 1, S, v0, v3, v4 => (8 ≤ v4 → gP S v0 12 3 (fun x130 => aI S x130 0 (fun x135 => sI S x130 0 (x135 + 1) (fun S => oK S v0 12 ∧ w_X12_settled (fun x141 S => q x141 S) S v0 v3)))) ∧ (¬ 8 ≤ v4 → gP S v0 12 3 (fun x92 => sI S x92 ((30 + (6 * v4)) + v3) 0 (fun S => gP S v0 12 3 (fun x108 => sI S x108 ((78 + (6 * v4)) + v3) 0 (fun S => ∀ y123 : Int32, y123 = v4 + 1 → w_X12_house_b84 q n S v0 v3 y123)))))
set_option maxRecDepth 100000 in
set_option maxHeartbeats 4000000 in
theorem t_X12_house_b84 (hC : zC p R s m args c cX12_house 5 RX12 G B mc ms 3 105) (hr : meth.sig.returnType = (Option.some FieldType.int)) (hlk : meth.locks = false) (hnm : meth.name = "house") {q : Int32 → hS → Prop} (n : Nat) : ∀ {S : hS} {v0 : Nat} {v3 : Int32} {v4 : Int32} (hw : w_X12_house_b84 q n S v0 v3 v4), Z p l e R s m args below meth c (MQ below (hQ G B (iP q)) args s mc ms (fun r => B ≤ r)) G B mc ms 5 S 0 0 84 [some (.ref v0), none, none, some (.int v3), some (.int v4)] [] := by
  induction n with
  | zero => intro S v0 v3 v4 hw; exact (by rw [w_X12_house_b84] at hw; exact hw.elim)
  | succ n ih =>
    intro S v0 v3 v4 hw
    rw [w_X12_house_b84] at hw
    refine z_iload hC dX12_house_84 rfl ?_
    refine z_bipush hC bi_8 dX12_house_86 ?_
    refine z_icmp_ge (tgt := 129) hC dX12_house_88 (by decide) (fun c88 => ?_) (fun c88 => ?_)
    · have hw := hw.1 c88
      refine z_aload_n hC dX12_house_129 rfl rfl ?_
      refine z_getP hC FX12 3 lk_1358 dX12_house_130 (by decide) hw (fun x130 hw => ?_)
      refine z_iconst hC ic_0 dX12_house_133 ?_
      refine z_dup2_11 hC rfl rfl dX12_house_134 ?_
      refine z_aldI hC dX12_house_135 hw (fun x135 hw => ?_)
      refine z_iconst hC ic_1 dX12_house_136 ?_
      refine z_iadd hC dX12_house_137 ?_
      refine z_astI hC dX12_house_138 hw (fun S hw => ?_)
      refine z_aload_n hC dX12_house_139 rfl rfl ?_
      refine z_iload_n hC dX12_house_140 rfl rfl ?_
      refine z_callV (n := 1) (As := [.int v3]) (st := []) hC (c_X12_settled l G B S v0 v3 _) hw.2 hw.1 rfl lk_1563 lk_1565 lk_43 lk_133 lk_1566 hd_X12_settled rfl rfl (by decide) (by decide) rfl (Nat.le_of_ble_eq_true rfl) dX12_house_141 (Nat.le_refl 0) (Nat.le_refl 0) (kI (fun x141 S hw => ?_))
      exact z_iret hC hr hlk dX12_house_144 ⟨_, rfl, hw⟩
    · have hw := hw.2 c88
      refine z_aload_n hC dX12_house_91 rfl rfl ?_
      refine z_getP hC FX12 3 lk_1358 dX12_house_92 (by decide) hw (fun x92 hw => ?_)
      refine z_bipush hC bi_30 dX12_house_95 ?_
      refine z_bipush hC bi_6 dX12_house_97 ?_
      refine z_iload hC dX12_house_99 rfl ?_
      refine z_imul hC dX12_house_101 ?_
      refine z_iadd hC dX12_house_102 ?_
      refine z_iload_n hC dX12_house_103 rfl rfl ?_
      refine z_iadd hC dX12_house_104 ?_
      refine z_iconst hC ic_0 dX12_house_105 ?_
      refine z_astI hC dX12_house_106 hw (fun S hw => ?_)
      refine z_aload_n hC dX12_house_107 rfl rfl ?_
      refine z_getP hC FX12 3 lk_1358 dX12_house_108 (by decide) hw (fun x108 hw => ?_)
      refine z_bipush hC bi_78 dX12_house_111 ?_
      refine z_bipush hC bi_6 dX12_house_113 ?_
      refine z_iload hC dX12_house_115 rfl ?_
      refine z_imul hC dX12_house_117 ?_
      refine z_iadd hC dX12_house_118 ?_
      refine z_iload_n hC dX12_house_119 rfl rfl ?_
      refine z_iadd hC dX12_house_120 ?_
      refine z_iconst hC ic_0 dX12_house_121 ?_
      refine z_astI hC dX12_house_122 hw (fun S hw => ?_)
      refine z_inc (i := 4) hC ic_1 dX12_house_123 rfl (by decide) (hok_v rfl rfl) (fun y123 e123 => ?_)
      have hw := hw y123 e123
      refine z_goto (tgt := 84) hC dX12_house_126 (by decide) ?_
      refine z_mask (lv' := [some (.ref v0), none, none, some (.int v3), some (.int y123)]) [true, false, false, true, true] rfl ?_
      exact ih hw
def w_X12_house (q : Int32 → hS → Prop) (S : hS) (v0 : Nat) (v1 : Int32) (v2 : Int32) : Prop := pI S v0 12 0 0 (fun S => w_X12_isPlace (fun x6 S => (x6 = 0 → w_X12_house_b24 q S v0) ∧ (¬ x6 = 0 → w_X12_in (fun x18 S => (¬ x18 = 0 → gP S v0 12 3 (fun x31 => aI S x31 0 (fun x35 => (¬ x35 = 6 → gP S v0 12 3 (fun x51 => sI S x51 (126 + x35) v1 (fun S => gP S v0 12 3 (fun x61 => sI S x61 (132 + x35) v2 (fun S => gP S v0 12 3 (fun x72 => sI S x72 (8 + x35) 0 (fun S => (∃ n84 : Nat, w_X12_house_b84 q n84 S v0 x35 0)))))))) ∧ (x35 = 6 → oK S v0 12 ∧ w_X12_tell (fun x46 S => q x46 S) S v0 (-5))))) ∧ (x18 = 0 → w_X12_house_b24 q S v0)) S (Int32.toInt64 v2) 0 99)) S v1)
set_option maxRecDepth 100000 in
set_option maxHeartbeats 4000000 in
theorem c_X12_house (l : Launch) (G : hG) (B : Nat) (S : hS) (v0 : Nat) (v1 : Int32) (v2 : Int32) (q : Int32 → hS → Prop) : Met l yX12_house (hws yX12_house cX12_house 5 (Option.some FieldType.int)) ({ frames := 3, cells := 0, slots := 0, locals := 105 }) (hPc G B S [.ref v0, .int v1, .int v2] (w_X12_house q S v0 v1 v2)) (hQ G B (iP q)) 0 0 (fun r => B ≤ r) := by
  refine hMet (rm := { frames := 3, cells := 0, slots := 0, locals := 105 }) (lv := [some (.ref v0), some (.int v1), some (.int v2), none, none]) (own := RX12) (fr := 3) (lo := 105) (by decide) rfl rfl rfl (Nat.le_of_ble_eq_true rfl) rfl (fun hw p e R s m args below meth c hC hr hlk hnm => ?_)
  unfold w_X12_house at hw
  refine z_aload_n hC dX12_house_0 rfl rfl ?_
  refine z_iconst hC ic_0 dX12_house_1 ?_
  refine z_putI hC FX12 0 lk_1355 dX12_house_2 (by decide) rfl rfl hw (fun S hw => ?_)
  refine z_iload_n hC dX12_house_5 rfl rfl ?_
  refine z_callS (n := 1) (As := [.int v1]) (st := []) hC (c_X12_isPlace l G B S v1 _) hw lk_1571 lk_1572 lk_133 lk_1573 hd_X12_isPlace rfl rfl (by decide) (by decide) rfl (Nat.le_of_ble_eq_true rfl) dX12_house_6 (Nat.le_refl 0) (Nat.le_refl 0) (kI (fun x6 S hw => ?_))
  refine z_if_eq (tgt := 24) hC dX12_house_9 (by decide) (fun c9 => ?_) (fun c9 => ?_)
  · have hw := hw.1 c9
    refine z_mask (lv' := [some (.ref v0), none, none, none, none]) [true, false, false, false, false] rfl ?_
    exact t_X12_house_b24 hC hr hlk hnm hw
  · have hw := hw.2 c9
    refine z_iload_n hC dX12_house_12 rfl rfl ?_
    refine z_i2l hC rfl dX12_house_13 ?_
    refine z_lconst hC lc_0 dX12_house_14 ?_
    refine z_ldc2 hC lk_1575 dX12_house_15 ?_
    refine z_callS (n := 3) (As := [.long (Int32.toInt64 v2), .long 0, .long 99]) (st := []) hC (c_X12_in l G B S (Int32.toInt64 v2) 0 99 _) hw lk_1556 lk_1557 lk_133 lk_1558 hd_X12_in rfl rfl (by decide) (by decide) rfl (Nat.le_of_ble_eq_true rfl) dX12_house_18 (Nat.le_refl 0) (Nat.le_refl 0) (kI (fun x18 S hw => ?_))
    refine z_if_ne (tgt := 30) hC dX12_house_21 (by decide) (fun c21 => ?_) (fun c21 => ?_)
    · have hw := hw.1 c21
      refine z_aload_n hC dX12_house_30 rfl rfl ?_
      refine z_getP hC FX12 3 lk_1358 dX12_house_31 (by decide) hw (fun x31 hw => ?_)
      refine z_iconst hC ic_0 dX12_house_34 ?_
      refine z_aldI hC dX12_house_35 hw (fun x35 hw => ?_)
      refine z_istore_n (i := 3) (lv' := [some (.ref v0), some (.int v1), some (.int v2), some (.int x35), none]) hC rfl dX12_house_36 (by decide) (hok_v rfl rfl) rfl ?_
      refine z_iload_n hC dX12_house_37 rfl rfl ?_
      refine z_bipush hC bi_6 dX12_house_38 ?_
      refine z_icmp_ne (tgt := 50) hC dX12_house_40 (by decide) (fun c40 => ?_) (fun c40 => ?_)
      · have hw := hw.1 c40
        refine z_aload_n hC dX12_house_50 rfl rfl ?_
        refine z_getP hC FX12 3 lk_1358 dX12_house_51 (by decide) hw (fun x51 hw => ?_)
        refine z_bipush hC bi_126 dX12_house_54 ?_
        refine z_iload_n hC dX12_house_56 rfl rfl ?_
        refine z_iadd hC dX12_house_57 ?_
        refine z_iload_n hC dX12_house_58 rfl rfl ?_
        refine z_astI hC dX12_house_59 hw (fun S hw => ?_)
        refine z_aload_n hC dX12_house_60 rfl rfl ?_
        refine z_getP hC FX12 3 lk_1358 dX12_house_61 (by decide) hw (fun x61 hw => ?_)
        refine z_sipush hC si_132 dX12_house_64 ?_
        refine z_iload_n hC dX12_house_67 rfl rfl ?_
        refine z_iadd hC dX12_house_68 ?_
        refine z_iload_n hC dX12_house_69 rfl rfl ?_
        refine z_astI hC dX12_house_70 hw (fun S hw => ?_)
        refine z_aload_n hC dX12_house_71 rfl rfl ?_
        refine z_getP hC FX12 3 lk_1358 dX12_house_72 (by decide) hw (fun x72 hw => ?_)
        refine z_bipush hC bi_8 dX12_house_75 ?_
        refine z_iload_n hC dX12_house_77 rfl rfl ?_
        refine z_iadd hC dX12_house_78 ?_
        refine z_iconst hC ic_0 dX12_house_79 ?_
        refine z_astI hC dX12_house_80 hw (fun S hw => ?_)
        refine z_iconst hC ic_0 dX12_house_81 ?_
        refine z_istore (i := 4) (lv' := [some (.ref v0), some (.int v1), some (.int v2), some (.int x35), some (.int 0)]) hC dX12_house_82 (by decide) (hok_v rfl rfl) rfl ?_
        refine z_mask (lv' := [some (.ref v0), none, none, some (.int x35), some (.int 0)]) [true, false, false, true, true] rfl ?_
        obtain ⟨n84, hw⟩ := hw
        exact t_X12_house_b84 hC hr hlk hnm n84 hw
      · have hw := hw.2 c40
        refine z_aload_n hC dX12_house_43 rfl rfl ?_
        refine z_bipush hC bi_m5 dX12_house_44 ?_
        refine z_callV (n := 1) (As := [.int (-5)]) (st := []) hC (c_X12_tell l G B S v0 (-5) _) hw.2 hw.1 rfl lk_1544 lk_1546 lk_41 lk_133 lk_1547 hd_X12_tell rfl rfl (by decide) (by decide) rfl (Nat.le_of_ble_eq_true rfl) dX12_house_46 (Nat.le_refl 0) (Nat.le_refl 0) (kI (fun x46 S hw => ?_))
        exact z_iret hC hr hlk dX12_house_49 ⟨_, rfl, hw⟩
    · have hw := hw.2 c21
      refine z_mask (lv' := [some (.ref v0), none, none, none, none]) [true, false, false, false, false] rfl ?_
      exact t_X12_house_b24 hC hr hlk hnm hw
theorem hd_X12_house : yX12_house.cls = RX12 ∧ (yX12_house.cls ≠ "java/lang/invoke/MethodHandle" ∧ yX12_house.cls ≠ "java/lang/invoke/VarHandle" ∧ (parseMethodDescriptor yX12_house.desc).map (fun d => d.parameters.length) = some 2) := by decide +kernel
end
section
variable {p : Program} {l : Launch} {e : Env} {R : Room} {s : State} {m : MethodId} {args : Array Value} {below : List Frame} {meth : Method} {c : Code} {G : hG} {B mc ms : Nat}
def w_X12_rightsTo_b4 (q : Int32 → hS → Prop) : Nat → hS → (Nat) → (Int32) → (Int32) → (Int32) → Prop
  | 0, _, _, _, _, _ => False
  | n + 1, S, v0, v1, v2, v3 => gP S v0 12 3 (fun x6 => aI S x6 1 (fun x10 => (x10 ≤ v3 → q v2 S) ∧ (¬ x10 ≤ v3 → oK S v0 12 ∧ w_X12_rights (fun x18 S => ∀ y22 : Int32, y22 = (v2 + x18) → ∀ y23 : Int32, y23 = v3 + 1 → w_X12_rightsTo_b4 q n S v0 v1 y22 y23) S v0 v3 v1)))
set_option maxRecDepth 100000 in
set_option maxHeartbeats 4000000 in
theorem t_X12_rightsTo_b4 (hC : zC p R s m args c cX12_rightsTo 4 RX12 G B mc ms 2 82) (hr : meth.sig.returnType = (Option.some FieldType.int)) (hlk : meth.locks = false) (hnm : meth.name = "rightsTo") {q : Int32 → hS → Prop} (n : Nat) : ∀ {S : hS} {v0 : Nat} {v1 : Int32} {v2 : Int32} {v3 : Int32} (hw : w_X12_rightsTo_b4 q n S v0 v1 v2 v3), Z p l e R s m args below meth c (MQ below (hQ G B (iP q)) args s mc ms (fun r => B ≤ r)) G B mc ms 4 S 0 0 4 [some (.ref v0), some (.int v1), some (.int v2), some (.int v3)] [] := by
  induction n with
  | zero => intro S v0 v1 v2 v3 hw; exact (by rw [w_X12_rightsTo_b4] at hw; exact hw.elim)
  | succ n ih =>
    intro S v0 v1 v2 v3 hw
    rw [w_X12_rightsTo_b4] at hw
    refine z_iload_n hC dX12_rightsTo_4 rfl rfl ?_
    refine z_aload_n hC dX12_rightsTo_5 rfl rfl ?_
    refine z_getP hC FX12 3 lk_1358 dX12_rightsTo_6 (by decide) hw (fun x6 hw => ?_)
    refine z_iconst hC ic_1 dX12_rightsTo_9 ?_
    refine z_aldI hC dX12_rightsTo_10 hw (fun x10 hw => ?_)
    refine z_icmp_ge (tgt := 29) hC dX12_rightsTo_11 (by decide) (fun c11 => ?_) (fun c11 => ?_)
    · have hw := hw.1 c11
      refine z_iload_n hC dX12_rightsTo_29 rfl rfl ?_
      exact z_iret hC hr hlk dX12_rightsTo_30 ⟨_, rfl, hw⟩
    · have hw := hw.2 c11
      refine z_iload_n hC dX12_rightsTo_14 rfl rfl ?_
      refine z_aload_n hC dX12_rightsTo_15 rfl rfl ?_
      refine z_iload_n hC dX12_rightsTo_16 rfl rfl ?_
      refine z_iload_n hC dX12_rightsTo_17 rfl rfl ?_
      refine z_callV (n := 2) (As := [.int v3, .int v1]) (st := [.int v2]) hC (c_X12_rights l G B S v0 v3 v1 _) hw.2 hw.1 rfl lk_1588 lk_1590 lk_46 lk_133 lk_1591 hd_X12_rights rfl rfl (by decide) (by decide) rfl (Nat.le_of_ble_eq_true rfl) dX12_rightsTo_18 (Nat.le_refl 0) (Nat.le_refl 0) (kI (fun x18 S hw => ?_))
      refine z_iadd hC dX12_rightsTo_21 ?_
      refine z_nmI (fun y22 e22 => ?_)
      have hw := hw y22 e22
      refine z_istore_n (i := 2) (lv' := [some (.ref v0), some (.int v1), some (.int y22), some (.int v3)]) hC rfl dX12_rightsTo_22 (by decide) (hok_v rfl rfl) rfl ?_
      refine z_inc (i := 3) hC ic_1 dX12_rightsTo_23 rfl (by decide) (hok_v rfl rfl) (fun y23 e23 => ?_)
      have hw := hw y23 e23
      refine z_goto (tgt := 4) hC dX12_rightsTo_26 (by decide) ?_
      refine z_mask (lv' := [some (.ref v0), some (.int v1), some (.int y22), some (.int y23)]) [true, true, true, true] rfl ?_
      exact ih hw
def w_X12_rightsTo (q : Int32 → hS → Prop) (S : hS) (v0 : Nat) (v1 : Int32) : Prop := (∃ n4 : Nat, w_X12_rightsTo_b4 q n4 S v0 v1 0 0)
set_option maxRecDepth 100000 in
set_option maxHeartbeats 4000000 in
theorem c_X12_rightsTo (l : Launch) (G : hG) (B : Nat) (S : hS) (v0 : Nat) (v1 : Int32) (q : Int32 → hS → Prop) : Met l yX12_rightsTo (hws yX12_rightsTo cX12_rightsTo 4 (Option.some FieldType.int)) ({ frames := 2, cells := 0, slots := 0, locals := 82 }) (hPc G B S [.ref v0, .int v1] (w_X12_rightsTo q S v0 v1)) (hQ G B (iP q)) 0 0 (fun r => B ≤ r) := by
  refine hMet (rm := { frames := 2, cells := 0, slots := 0, locals := 82 }) (lv := [some (.ref v0), some (.int v1), none, none]) (own := RX12) (fr := 2) (lo := 82) (by decide) rfl rfl rfl (Nat.le_of_ble_eq_true rfl) rfl (fun hw p e R s m args below meth c hC hr hlk hnm => ?_)
  unfold w_X12_rightsTo at hw
  refine z_iconst hC ic_0 dX12_rightsTo_0 ?_
  refine z_istore_n (i := 2) (lv' := [some (.ref v0), some (.int v1), some (.int 0), none]) hC rfl dX12_rightsTo_1 (by decide) (hok_v rfl rfl) rfl ?_
  refine z_iconst hC ic_0 dX12_rightsTo_2 ?_
  refine z_istore_n (i := 3) (lv' := [some (.ref v0), some (.int v1), some (.int 0), some (.int 0)]) hC rfl dX12_rightsTo_3 (by decide) (hok_v rfl rfl) rfl ?_
  refine z_mask (lv' := [some (.ref v0), some (.int v1), some (.int 0), some (.int 0)]) [true, true, true, true] rfl ?_
  obtain ⟨n4, hw⟩ := hw
  exact t_X12_rightsTo_b4 hC hr hlk hnm n4 hw
theorem hd_X12_rightsTo : yX12_rightsTo.cls = RX12 ∧ (yX12_rightsTo.cls ≠ "java/lang/invoke/MethodHandle" ∧ yX12_rightsTo.cls ≠ "java/lang/invoke/VarHandle" ∧ (parseMethodDescriptor yX12_rightsTo.desc).map (fun d => d.parameters.length) = some 1) := by decide +kernel
end
