section
variable {p : Program} {l : Launch} {e : Env} {R : Room} {s : State} {m : MethodId} {args : Array Value} {below : List Frame} {meth : Method} {c : Code} {G : hG} {B mc ms : Nat}
def w_X6_init (q : hS → Prop) (S : hS) (v0 : Nat) : Prop := mkI S 52 52 (fun S o7 => pP S v0 6 0 o7 (fun S => q S))
set_option maxRecDepth 100000 in
set_option maxHeartbeats 4000000 in
theorem c_X6_init (l : Launch) (G : hG) (B : Nat) (S : hS) (v0 : Nat) (q : hS → Prop) : Met l yX6_init (hws yX6_init cX6_init 1 (Option.none : Option FieldType)) ({ frames := 1, cells := 1, slots := 52, locals := 60 }) (hPc G B S [.ref v0] (w_X6_init q S v0)) (hQ G B (vP q)) (1) (52) (fun r => B ≤ r) := by
  refine hMet (rm := { frames := 1, cells := 1, slots := 52, locals := 60 }) (lv := [some (.ref v0)]) (own := RX6) (fr := 1) (lo := 60) (by decide) rfl rfl rfl (Nat.le_of_ble_eq_true rfl) rfl (fun hw p e R s m args below meth c hC hr hlk hnm => ?_)
  unfold w_X6_init at hw
  refine z_less (ku' := 1) (kv' := 52) (Nat.le_refl _) (Nat.le_refl _) ?_
  refine z_aload_n hC dX6_init_0 rfl rfl ?_
  refine z_obj hC lk_403 lk_147 lk_148 dX6_init_1 (by decide) (Nat.le_of_ble_eq_true rfl) ?_
  refine z_aload_n hC dX6_init_4 rfl rfl ?_
  refine z_bipush hC bi_52 dX6_init_5 ?_
  refine z_mkI (cap := 52) (ku' := 0) (kv' := 0) hC lk_198 dX6_init_7 (by decide) (by decide) (by decide) hw (fun S o7 hw => ?_)
  refine z_putPF hC FX6 0 lk_404 dX6_init_9 (by decide) rfl hnm rfl rfl rfl hw (fun S hw => ?_)
  exact z_vret hC hr hlk dX6_init_12 ⟨rfl, hw⟩
end
section
variable {p : Program} {l : Launch} {e : Env} {R : Room} {s : State} {m : MethodId} {args : Array Value} {below : List Frame} {meth : Method} {c : Code} {G : hG} {B mc ms : Nat}
def w_X0_init (q : hS → Prop) (S : hS) (v0 : Nat) : Prop := nO S 6 FX6_0 (fun S o5 => w_X6_init (fun S => pP S v0 0 0 o5 (fun S => mkI S 9 9 (fun S o18 => pP S v0 0 1 o18 (fun S => q S)))) S o5)
set_option maxRecDepth 100000 in
set_option maxHeartbeats 4000000 in
theorem c_X0_init (l : Launch) (G : hG) (B : Nat) (S : hS) (v0 : Nat) (q : hS → Prop) : Met l yX0_init (hws yX0_init cX0_init 1 (Option.none : Option FieldType)) ({ frames := 2, cells := 3, slots := 62, locals := 80 }) (hPc G B S [.ref v0] (w_X0_init q S v0)) (hQ G B (vP q)) (3) (62) (fun r => B ≤ r) := by
  refine hMet (rm := { frames := 2, cells := 3, slots := 62, locals := 80 }) (lv := [some (.ref v0)]) (own := RX0) (fr := 2) (lo := 80) (by decide) rfl rfl rfl (Nat.le_of_ble_eq_true rfl) rfl (fun hw p e R s m args below meth c hC hr hlk hnm => ?_)
  unfold w_X0_init at hw
  refine z_less (ku' := 3) (kv' := 62) (Nat.le_refl _) (Nat.le_refl _) ?_
  refine z_aload_n hC dX0_init_0 rfl rfl ?_
  refine z_obj hC lk_397 lk_147 lk_148 dX0_init_1 (by decide) (Nat.le_of_ble_eq_true rfl) ?_
  refine z_aload_n hC dX0_init_4 rfl rfl ?_
  refine z_nO (ku' := 2) (kv' := 61) hC FX6 lk_398 lk_399 lk_129 FX6_d dX0_init_5 (by decide) (by decide) hw (fun S o5 hw => ?_)
  refine z_dup hC rfl dX0_init_8 ?_
  refine z_callIN (ku' := 1) (kv' := 9) (n := 0) (As := []) (st := [.ref o5, .ref v0]) (host := "BellHeirs") hC rfl (c_X6_init l G B S o5 _) hw (by decide +kernel) lk_401 lk_129 lk_402 rfl hd_X6_init.2 rfl rfl (Nat.le_of_ble_eq_true rfl) (Nat.le_of_ble_eq_true rfl) rfl (Nat.le_of_ble_eq_true rfl) dX0_init_9 (by decide) (by decide) (kV (fun S hw => ?_))
  refine z_putPF hC FX0 0 lk_408 dX0_init_12 (by decide) rfl hnm rfl rfl rfl hw (fun S hw => ?_)
  refine z_aload_n hC dX0_init_15 rfl rfl ?_
  refine z_bipush hC bi_9 dX0_init_16 ?_
  refine z_mkI (cap := 9) (ku' := 0) (kv' := 0) hC lk_198 dX0_init_18 (by decide) (by decide) (by decide) hw (fun S o18 hw => ?_)
  refine z_putPF hC FX0 1 lk_409 dX0_init_20 (by decide) rfl hnm rfl rfl rfl hw (fun S hw => ?_)
  exact z_vret hC hr hlk dX0_init_23 ⟨rfl, hw⟩
end
section
variable {p : Program} {l : Launch} {e : Env} {R : Room} {s : State} {m : MethodId} {args : Array Value} {below : List Frame} {meth : Method} {c : Code} {G : hG} {B mc ms : Nat}
def w_X8_hasPerson (q : Int32 → hS → Prop) (S : hS) (v0 : Nat) (v1 : Int32) : Prop := (v1 < 0 → q 0 S) ∧ (¬ v1 < 0 → gI S v0 8 4 (fun x6 => (x6 ≤ v1 → q 0 S) ∧ (¬ x6 ≤ v1 → q 1 S)))
set_option maxRecDepth 100000 in
set_option maxHeartbeats 4000000 in
theorem c_X8_hasPerson (l : Launch) (G : hG) (B : Nat) (S : hS) (v0 : Nat) (v1 : Int32) (q : Int32 → hS → Prop) : Met l yX8_hasPerson (hws yX8_hasPerson cX8_hasPerson 2 (Option.some FieldType.boolean)) ({ frames := 1, cells := 0, slots := 0, locals := 60 }) (hPc G B S [.ref v0, .int v1] (w_X8_hasPerson q S v0 v1)) (hQ G B (iP q)) (0) (0) (fun r => B ≤ r) := by
  refine hMet (rm := { frames := 1, cells := 0, slots := 0, locals := 60 }) (lv := [some (.ref v0), some (.int v1)]) (own := RX8) (fr := 1) (lo := 60) (by decide) rfl rfl rfl (Nat.le_of_ble_eq_true rfl) rfl (fun hw p e R s m args below meth c hC hr hlk hnm => ?_)
  unfold w_X8_hasPerson at hw
  refine z_iload_n hC dX8_hasPerson_0 rfl rfl ?_
  refine z_if_lt (tgt := 16) hC dX8_hasPerson_1 (by decide) (fun c1 => ?_) (fun c1 => ?_)
  · have hw := hw.1 c1
    refine z_iconst hC ic_0 dX8_hasPerson_16 ?_
    exact z_zret hC hr hlk (hz01 (Or.inl rfl)).1 dX8_hasPerson_17 ⟨_, rfl, hw⟩
  · have hw := hw.2 c1
    refine z_iload_n hC dX8_hasPerson_4 rfl rfl ?_
    refine z_aload_n hC dX8_hasPerson_5 rfl rfl ?_
    refine z_getI hC FX8 4 lk_215 dX8_hasPerson_6 (by decide) hw (fun x6 hw => ?_)
    refine z_icmp_ge (tgt := 16) hC dX8_hasPerson_9 (by decide) (fun c9 => ?_) (fun c9 => ?_)
    · have hw := hw.1 c9
      refine z_iconst hC ic_0 dX8_hasPerson_16 ?_
      exact z_zret hC hr hlk (hz01 (Or.inl rfl)).1 dX8_hasPerson_17 ⟨_, rfl, hw⟩
    · have hw := hw.2 c9
      refine z_iconst hC ic_1 dX8_hasPerson_12 ?_
      refine z_goto (tgt := 17) hC dX8_hasPerson_13 (by decide) ?_
      exact z_zret hC hr hlk (hz01 (Or.inr rfl)).1 dX8_hasPerson_17 ⟨_, rfl, hw⟩
end
section
variable {p : Program} {l : Launch} {e : Env} {R : Room} {s : State} {m : MethodId} {args : Array Value} {below : List Frame} {meth : Method} {c : Code} {G : hG} {B mc ms : Nat}
def w_X8_hasHouse (q : Int32 → hS → Prop) (S : hS) (v0 : Nat) (v1 : Int32) : Prop := (v1 < 0 → q 0 S) ∧ (¬ v1 < 0 → gI S v0 8 1 (fun x6 => (x6 ≤ v1 → q 0 S) ∧ (¬ x6 ≤ v1 → q 1 S)))
set_option maxRecDepth 100000 in
set_option maxHeartbeats 4000000 in
theorem c_X8_hasHouse (l : Launch) (G : hG) (B : Nat) (S : hS) (v0 : Nat) (v1 : Int32) (q : Int32 → hS → Prop) : Met l yX8_hasHouse (hws yX8_hasHouse cX8_hasHouse 2 (Option.some FieldType.boolean)) ({ frames := 1, cells := 0, slots := 0, locals := 60 }) (hPc G B S [.ref v0, .int v1] (w_X8_hasHouse q S v0 v1)) (hQ G B (iP q)) (0) (0) (fun r => B ≤ r) := by
  refine hMet (rm := { frames := 1, cells := 0, slots := 0, locals := 60 }) (lv := [some (.ref v0), some (.int v1)]) (own := RX8) (fr := 1) (lo := 60) (by decide) rfl rfl rfl (Nat.le_of_ble_eq_true rfl) rfl (fun hw p e R s m args below meth c hC hr hlk hnm => ?_)
  unfold w_X8_hasHouse at hw
  refine z_iload_n hC dX8_hasHouse_0 rfl rfl ?_
  refine z_if_lt (tgt := 16) hC dX8_hasHouse_1 (by decide) (fun c1 => ?_) (fun c1 => ?_)
  · have hw := hw.1 c1
    refine z_iconst hC ic_0 dX8_hasHouse_16 ?_
    exact z_zret hC hr hlk (hz01 (Or.inl rfl)).1 dX8_hasHouse_17 ⟨_, rfl, hw⟩
  · have hw := hw.2 c1
    refine z_iload_n hC dX8_hasHouse_4 rfl rfl ?_
    refine z_aload_n hC dX8_hasHouse_5 rfl rfl ?_
    refine z_getI hC FX8 1 lk_205 dX8_hasHouse_6 (by decide) hw (fun x6 hw => ?_)
    refine z_icmp_ge (tgt := 16) hC dX8_hasHouse_9 (by decide) (fun c9 => ?_) (fun c9 => ?_)
    · have hw := hw.1 c9
      refine z_iconst hC ic_0 dX8_hasHouse_16 ?_
      exact z_zret hC hr hlk (hz01 (Or.inl rfl)).1 dX8_hasHouse_17 ⟨_, rfl, hw⟩
    · have hw := hw.2 c9
      refine z_iconst hC ic_1 dX8_hasHouse_12 ?_
      refine z_goto (tgt := 17) hC dX8_hasHouse_13 (by decide) ?_
      exact z_zret hC hr hlk (hz01 (Or.inr rfl)).1 dX8_hasHouse_17 ⟨_, rfl, hw⟩
end
section
variable {p : Program} {l : Launch} {e : Env} {R : Room} {s : State} {m : MethodId} {args : Array Value} {below : List Frame} {meth : Method} {c : Code} {G : hG} {B mc ms : Nat}
def w_X11_slot (q : Int32 → hS → Prop) (S : hS) (v0 : Int32) (v1 : Int32) : Prop := q ((v0 * 6) + v1) S
set_option maxRecDepth 100000 in
set_option maxHeartbeats 4000000 in
theorem c_X11_slot (l : Launch) (G : hG) (B : Nat) (S : hS) (v0 : Int32) (v1 : Int32) (q : Int32 → hS → Prop) : Met l yX11_slot (hws yX11_slot cX11_slot 2 (Option.some FieldType.int)) ({ frames := 1, cells := 0, slots := 0, locals := 60 }) (hPc G B S [.int v0, .int v1] (w_X11_slot q S v0 v1)) (hQ G B (iP q)) (0) (0) (fun r => B ≤ r) := by
  refine hMet (rm := { frames := 1, cells := 0, slots := 0, locals := 60 }) (lv := [some (.int v0), some (.int v1)]) (own := RX11) (fr := 1) (lo := 60) (by decide) rfl rfl rfl (Nat.le_of_ble_eq_true rfl) rfl (fun hw p e R s m args below meth c hC hr hlk hnm => ?_)
  unfold w_X11_slot at hw
  refine z_iload_n hC dX11_slot_0 rfl rfl ?_
  refine z_bipush hC bi_6 dX11_slot_1 ?_
  refine z_imul hC dX11_slot_3 ?_
  refine z_iload_n hC dX11_slot_4 rfl rfl ?_
  refine z_iadd hC dX11_slot_5 ?_
  exact z_iret hC hr hlk dX11_slot_6 ⟨_, rfl, hw⟩
end
section
variable {p : Program} {l : Launch} {e : Env} {R : Room} {s : State} {m : MethodId} {args : Array Value} {below : List Frame} {meth : Method} {c : Code} {G : hG} {B mc ms : Nat}
def w_X8_leftOf (q : Int32 → hS → Prop) (S : hS) (v0 : Nat) (v1 : Int32) (v2 : Int32) : Prop := oK S v0 8 ∧ w_X8_hasPerson (fun x2 S => (x2 = 0 → q 0 S) ∧ (¬ x2 = 0 → oK S v0 8 ∧ w_X8_hasHouse (fun x10 S => (¬ x10 = 0 → gP S v0 8 0 (fun x19 => gP S x19 2 0 (fun x22 => w_X11_slot (fun x27 S => aI S x22 x27 (fun x30 => gP S v0 8 0 (fun x32 => gP S x32 2 1 (fun x35 => w_X11_slot (fun x40 S => aI S x35 x40 (fun x43 => q (x30 - x43) S)) S v1 v2)))) S v1 v2))) ∧ (x10 = 0 → q 0 S)) S v0 v2)) S v0 v1
set_option maxRecDepth 100000 in
set_option maxHeartbeats 4000000 in
theorem c_X8_leftOf (l : Launch) (G : hG) (B : Nat) (S : hS) (v0 : Nat) (v1 : Int32) (v2 : Int32) (q : Int32 → hS → Prop) : Met l yX8_leftOf (hws yX8_leftOf cX8_leftOf 3 (Option.some FieldType.int)) ({ frames := 2, cells := 0, slots := 0, locals := 81 }) (hPc G B S [.ref v0, .int v1, .int v2] (w_X8_leftOf q S v0 v1 v2)) (hQ G B (iP q)) (0) (0) (fun r => B ≤ r) := by
  refine hMet (rm := { frames := 2, cells := 0, slots := 0, locals := 81 }) (lv := [some (.ref v0), some (.int v1), some (.int v2)]) (own := RX8) (fr := 2) (lo := 81) (by decide) rfl rfl rfl (Nat.le_of_ble_eq_true rfl) rfl (fun hw p e R s m args below meth c hC hr hlk hnm => ?_)
  unfold w_X8_leftOf at hw
  refine z_aload_n hC dX8_leftOf_0 rfl rfl ?_
  refine z_iload_n hC dX8_leftOf_1 rfl rfl ?_
  refine z_callV (ku' := 0) (kv' := 0) (n := 1) (As := [.int v1]) (st := []) hC (c_X8_hasPerson l G B S v0 v1 _) hw.2 hw.1 rfl lk_612 lk_613 lk_614 lk_122 lk_615 hd_X8_hasPerson rfl rfl (Nat.le_of_ble_eq_true rfl) (Nat.le_of_ble_eq_true rfl) rfl (Nat.le_of_ble_eq_true rfl) dX8_leftOf_2 (Nat.le_refl 0) (Nat.le_refl 0) (kI (fun x2 S hw => ?_))
  refine z_if_eq (tgt := 16) hC dX8_leftOf_5 (by decide) (fun c5 => ?_) (fun c5 => ?_)
  · have hw := hw.1 c5
    refine z_iconst hC ic_0 dX8_leftOf_16 ?_
    exact z_iret hC hr hlk dX8_leftOf_17 ⟨_, rfl, hw⟩
  · have hw := hw.2 c5
    refine z_aload_n hC dX8_leftOf_8 rfl rfl ?_
    refine z_iload_n hC dX8_leftOf_9 rfl rfl ?_
    refine z_callV (ku' := 0) (kv' := 0) (n := 1) (As := [.int v2]) (st := []) hC (c_X8_hasHouse l G B S v0 v2 _) hw.2 hw.1 rfl lk_616 lk_601 lk_602 lk_122 lk_603 hd_X8_hasHouse rfl rfl (Nat.le_of_ble_eq_true rfl) (Nat.le_of_ble_eq_true rfl) rfl (Nat.le_of_ble_eq_true rfl) dX8_leftOf_10 (Nat.le_refl 0) (Nat.le_refl 0) (kI (fun x10 S hw => ?_))
    refine z_if_ne (tgt := 18) hC dX8_leftOf_13 (by decide) (fun c13 => ?_) (fun c13 => ?_)
    · have hw := hw.1 c13
      refine z_aload_n hC dX8_leftOf_18 rfl rfl ?_
      refine z_getP hC FX8 0 lk_201 dX8_leftOf_19 (by decide) hw (fun x19 hw => ?_)
      refine z_getP hC FX2 0 lk_162 dX8_leftOf_22 (by decide) hw (fun x22 hw => ?_)
      refine z_iload_n hC dX8_leftOf_25 rfl rfl ?_
      refine z_iload_n hC dX8_leftOf_26 rfl rfl ?_
      refine z_callSN (ku' := 0) (kv' := 0) (n := 2) (As := [.int v1, .int v2]) (st := [.ref x22]) (host := "BellHeirs") hC (c_X11_slot l G B S v1 v2 _) hw (by decide +kernel) lk_590 lk_121 lk_591 hd_X11_slot.2 rfl rfl (Nat.le_of_ble_eq_true rfl) (Nat.le_of_ble_eq_true rfl) rfl (Nat.le_of_ble_eq_true rfl) dX8_leftOf_27 (Nat.le_refl 0) (Nat.le_refl 0) (kI (fun x27 S hw => ?_))
      refine z_aldI hC dX8_leftOf_30 hw (fun x30 hw => ?_)
      refine z_aload_n hC dX8_leftOf_31 rfl rfl ?_
      refine z_getP hC FX8 0 lk_201 dX8_leftOf_32 (by decide) hw (fun x32 hw => ?_)
      refine z_getP hC FX2 1 lk_167 dX8_leftOf_35 (by decide) hw (fun x35 hw => ?_)
      refine z_iload_n hC dX8_leftOf_38 rfl rfl ?_
      refine z_iload_n hC dX8_leftOf_39 rfl rfl ?_
      refine z_callSN (ku' := 0) (kv' := 0) (n := 2) (As := [.int v1, .int v2]) (st := [.ref x35, .int x30]) (host := "BellHeirs") hC (c_X11_slot l G B S v1 v2 _) hw (by decide +kernel) lk_590 lk_121 lk_591 hd_X11_slot.2 rfl rfl (Nat.le_of_ble_eq_true rfl) (Nat.le_of_ble_eq_true rfl) rfl (Nat.le_of_ble_eq_true rfl) dX8_leftOf_40 (Nat.le_refl 0) (Nat.le_refl 0) (kI (fun x40 S hw => ?_))
      refine z_aldI hC dX8_leftOf_43 hw (fun x43 hw => ?_)
      refine z_isub hC dX8_leftOf_44 ?_
      exact z_iret hC hr hlk dX8_leftOf_45 ⟨_, rfl, hw⟩
    · have hw := hw.2 c13
      refine z_iconst hC ic_0 dX8_leftOf_16 ?_
      exact z_iret hC hr hlk dX8_leftOf_17 ⟨_, rfl, hw⟩
end
section
variable {p : Program} {l : Launch} {e : Env} {R : Room} {s : State} {m : MethodId} {args : Array Value} {below : List Frame} {meth : Method} {c : Code} {G : hG} {B mc ms : Nat}
def w_X0_setWords_b113 (q : hS → Prop) (S : hS) (v0 : Nat) (v1 : Nat) (v4 : Int32) (t0 : Int32) (t1 : Int32) (t2 : Nat) : Prop := sI S t2 t1 t0 (fun S => gP S v0 0 1 (fun x115 => gP S v1 8 0 (fun x121 => gI S x121 2 5 (fun x124 => sI S x115 6 x124 (fun S => gP S v0 0 1 (fun x129 => sI S x129 7 v4 (fun S => gP S v0 0 1 (fun x138 => gI S v1 8 13 (fun x144 => sI S x138 8 x144 (fun S => q S))))))))))
set_option maxRecDepth 100000 in
set_option maxHeartbeats 4000000 in
theorem t_X0_setWords_b113 (hC : zC p R s m args c cX0_setWords 6 RX0 G B mc ms 3 103) (hr : meth.sig.returnType = (Option.none : Option FieldType)) (hlk : meth.locks = false) (hnm : meth.name = "setWords") {q : hS → Prop} {S : hS} {v0 : Nat} {v1 : Nat} {v4 : Int32} {t0 : Int32} {t1 : Int32} {t2 : Nat} (hw : w_X0_setWords_b113 q S v0 v1 v4 t0 t1 t2) : Z p l e R s m args below meth c (MQ below (hQ G B (vP q)) args s mc ms (fun r => B ≤ r)) G B mc ms 6 S 0 0 113 [some (.ref v0), some (.ref v1), none, none, some (.int v4), none] [.int t0, .int t1, .ref t2] := by
  unfold w_X0_setWords_b113 at hw
  refine z_astI hC dX0_setWords_113 hw (fun S hw => ?_)
  refine z_aload_n hC dX0_setWords_114 rfl rfl ?_
  refine z_getP hC FX0 1 lk_409 dX0_setWords_115 (by decide) hw (fun x115 hw => ?_)
  refine z_bipush hC bi_6 dX0_setWords_118 ?_
  refine z_aload_n hC dX0_setWords_120 rfl rfl ?_
  refine z_getP hC FX8 0 lk_204 dX0_setWords_121 (by decide) hw (fun x121 hw => ?_)
  refine z_getI hC FX2 5 lk_184 dX0_setWords_124 (by decide) hw (fun x124 hw => ?_)
  refine z_astI hC dX0_setWords_127 hw (fun S hw => ?_)
  refine z_aload_n hC dX0_setWords_128 rfl rfl ?_
  refine z_getP hC FX0 1 lk_409 dX0_setWords_129 (by decide) hw (fun x129 hw => ?_)
  refine z_bipush hC bi_7 dX0_setWords_132 ?_
  refine z_iload hC dX0_setWords_134 rfl ?_
  refine z_astI hC dX0_setWords_136 hw (fun S hw => ?_)
  refine z_aload_n hC dX0_setWords_137 rfl rfl ?_
  refine z_getP hC FX0 1 lk_409 dX0_setWords_138 (by decide) hw (fun x138 hw => ?_)
  refine z_bipush hC bi_8 dX0_setWords_141 ?_
  refine z_aload_n hC dX0_setWords_143 rfl rfl ?_
  refine z_getI hC FX8 13 lk_240 dX0_setWords_144 (by decide) hw (fun x144 hw => ?_)
  refine z_astI hC dX0_setWords_147 hw (fun S hw => ?_)
  exact z_vret hC hr hlk dX0_setWords_148 ⟨rfl, hw⟩
def w_X0_setWords_b92 (q : hS → Prop) (S : hS) (v0 : Nat) (v1 : Nat) (v2 : Int32) (v3 : Int32) (v4 : Int32) (v5 : Int32) (t0 : Int32) (t1 : Int32) (t2 : Nat) : Prop := sI S t2 t1 t0 (fun S => gP S v0 0 1 (fun x94 => (v5 = 0 → w_X0_setWords_b113 q S v0 v1 v4 (-1) 5 x94) ∧ (¬ v5 = 0 → oK S v1 8 ∧ w_X8_leftOf (fun x106 S => w_X0_setWords_b113 q S v0 v1 v4 x106 5 x94) S v1 v2 v3)))
set_option maxRecDepth 100000 in
set_option maxHeartbeats 4000000 in
theorem t_X0_setWords_b92 (hC : zC p R s m args c cX0_setWords 6 RX0 G B mc ms 3 103) (hr : meth.sig.returnType = (Option.none : Option FieldType)) (hlk : meth.locks = false) (hnm : meth.name = "setWords") {q : hS → Prop} {S : hS} {v0 : Nat} {v1 : Nat} {v2 : Int32} {v3 : Int32} {v4 : Int32} {v5 : Int32} {t0 : Int32} {t1 : Int32} {t2 : Nat} (hw : w_X0_setWords_b92 q S v0 v1 v2 v3 v4 v5 t0 t1 t2) : Z p l e R s m args below meth c (MQ below (hQ G B (vP q)) args s mc ms (fun r => B ≤ r)) G B mc ms 6 S 0 0 92 [some (.ref v0), some (.ref v1), some (.int v2), some (.int v3), some (.int v4), some (.int v5)] [.int t0, .int t1, .ref t2] := by
  unfold w_X0_setWords_b92 at hw
  refine z_astI hC dX0_setWords_92 hw (fun S hw => ?_)
  refine z_aload_n hC dX0_setWords_93 rfl rfl ?_
  refine z_getP hC FX0 1 lk_409 dX0_setWords_94 (by decide) hw (fun x94 hw => ?_)
  refine z_iconst hC ic_5 dX0_setWords_97 ?_
  refine z_iload hC dX0_setWords_98 rfl ?_
  refine z_if_eq (tgt := 112) hC dX0_setWords_100 (by decide) (fun c100 => ?_) (fun c100 => ?_)
  · have hw := hw.1 c100
    refine z_iconst hC ic_m1 dX0_setWords_112 ?_
    refine z_mask (lv' := [some (.ref v0), some (.ref v1), none, none, some (.int v4), none]) [true, true, false, false, true, false] rfl ?_
    exact t_X0_setWords_b113 hC hr hlk hnm hw
  · have hw := hw.2 c100
    refine z_aload_n hC dX0_setWords_103 rfl rfl ?_
    refine z_iload_n hC dX0_setWords_104 rfl rfl ?_
    refine z_iload_n hC dX0_setWords_105 rfl rfl ?_
    refine z_callV (ku' := 0) (kv' := 0) (n := 2) (As := [.int v2, .int v3]) (st := [.int 5, .ref x94]) hC (c_X8_leftOf l G B S v1 v2 v3 _) hw.2 hw.1 rfl lk_627 lk_628 lk_629 lk_122 lk_630 hd_X8_leftOf rfl rfl (Nat.le_of_ble_eq_true rfl) (Nat.le_of_ble_eq_true rfl) rfl (Nat.le_of_ble_eq_true rfl) dX0_setWords_106 (Nat.le_refl 0) (Nat.le_refl 0) (kI (fun x106 S hw => ?_))
    refine z_goto (tgt := 113) hC dX0_setWords_109 (by decide) ?_
    refine z_mask (lv' := [some (.ref v0), some (.ref v1), none, none, some (.int v4), none]) [true, true, false, false, true, false] rfl ?_
    exact t_X0_setWords_b113 hC hr hlk hnm hw
def w_X0_setWords_b58 (q : hS → Prop) (S : hS) (v0 : Nat) (v1 : Nat) (v2 : Int32) (v3 : Int32) (v4 : Int32) (v5 : Int32) (t0 : Int32) (t1 : Int32) (t2 : Nat) : Prop := sI S t2 t1 t0 (fun S => gP S v0 0 1 (fun x60 => sI S x60 3 v3 (fun S => gP S v0 0 1 (fun x67 => oK S v1 8 ∧ w_X8_hasHouse (fun x73 S => (x73 = 0 → w_X0_setWords_b92 q S v0 v1 v2 v3 v4 v5 (-1) 4 x67) ∧ (¬ x73 = 0 → gP S v1 8 0 (fun x80 => gP S x80 2 2 (fun x83 => aI S x83 v3 (fun x87 => w_X0_setWords_b92 q S v0 v1 v2 v3 v4 v5 x87 4 x67))))) S v1 v3))))
set_option maxRecDepth 100000 in
set_option maxHeartbeats 4000000 in
theorem t_X0_setWords_b58 (hC : zC p R s m args c cX0_setWords 6 RX0 G B mc ms 3 103) (hr : meth.sig.returnType = (Option.none : Option FieldType)) (hlk : meth.locks = false) (hnm : meth.name = "setWords") {q : hS → Prop} {S : hS} {v0 : Nat} {v1 : Nat} {v2 : Int32} {v3 : Int32} {v4 : Int32} {v5 : Int32} {t0 : Int32} {t1 : Int32} {t2 : Nat} (hw : w_X0_setWords_b58 q S v0 v1 v2 v3 v4 v5 t0 t1 t2) : Z p l e R s m args below meth c (MQ below (hQ G B (vP q)) args s mc ms (fun r => B ≤ r)) G B mc ms 6 S 0 0 58 [some (.ref v0), some (.ref v1), some (.int v2), some (.int v3), some (.int v4), some (.int v5)] [.int t0, .int t1, .ref t2] := by
  unfold w_X0_setWords_b58 at hw
  refine z_astI hC dX0_setWords_58 hw (fun S hw => ?_)
  refine z_aload_n hC dX0_setWords_59 rfl rfl ?_
  refine z_getP hC FX0 1 lk_409 dX0_setWords_60 (by decide) hw (fun x60 hw => ?_)
  refine z_iconst hC ic_3 dX0_setWords_63 ?_
  refine z_iload_n hC dX0_setWords_64 rfl rfl ?_
  refine z_astI hC dX0_setWords_65 hw (fun S hw => ?_)
  refine z_aload_n hC dX0_setWords_66 rfl rfl ?_
  refine z_getP hC FX0 1 lk_409 dX0_setWords_67 (by decide) hw (fun x67 hw => ?_)
  refine z_iconst hC ic_4 dX0_setWords_70 ?_
  refine z_aload_n hC dX0_setWords_71 rfl rfl ?_
  refine z_iload_n hC dX0_setWords_72 rfl rfl ?_
  refine z_callV (ku' := 0) (kv' := 0) (n := 1) (As := [.int v3]) (st := [.int 4, .ref x67]) hC (c_X8_hasHouse l G B S v1 v3 _) hw.2 hw.1 rfl lk_626 lk_601 lk_602 lk_122 lk_603 hd_X8_hasHouse rfl rfl (Nat.le_of_ble_eq_true rfl) (Nat.le_of_ble_eq_true rfl) rfl (Nat.le_of_ble_eq_true rfl) dX0_setWords_73 (Nat.le_refl 0) (Nat.le_refl 0) (kI (fun x73 S hw => ?_))
  refine z_if_eq (tgt := 91) hC dX0_setWords_76 (by decide) (fun c76 => ?_) (fun c76 => ?_)
  · have hw := hw.1 c76
    refine z_iconst hC ic_m1 dX0_setWords_91 ?_
    refine z_mask (lv' := [some (.ref v0), some (.ref v1), some (.int v2), some (.int v3), some (.int v4), some (.int v5)]) [true, true, true, true, true, true] rfl ?_
    exact t_X0_setWords_b92 hC hr hlk hnm hw
  · have hw := hw.2 c76
    refine z_aload_n hC dX0_setWords_79 rfl rfl ?_
    refine z_getP hC FX8 0 lk_204 dX0_setWords_80 (by decide) hw (fun x80 hw => ?_)
    refine z_getP hC FX2 2 lk_172 dX0_setWords_83 (by decide) hw (fun x83 hw => ?_)
    refine z_iload_n hC dX0_setWords_86 rfl rfl ?_
    refine z_aldI hC dX0_setWords_87 hw (fun x87 hw => ?_)
    refine z_goto (tgt := 92) hC dX0_setWords_88 (by decide) ?_
    refine z_mask (lv' := [some (.ref v0), some (.ref v1), some (.int v2), some (.int v3), some (.int v4), some (.int v5)]) [true, true, true, true, true, true] rfl ?_
    exact t_X0_setWords_b92 hC hr hlk hnm hw
def w_X0_setWords_b34 (q : hS → Prop) (S : hS) (v0 : Nat) (v1 : Nat) (v2 : Int32) (v3 : Int32) (v4 : Int32) (v5 : Int32) (t0 : Int32) (t1 : Int32) (t2 : Nat) : Prop := sI S t2 t1 t0 (fun S => gP S v0 0 1 (fun x36 => (v5 = 0 → w_X0_setWords_b58 q S v0 v1 v2 v3 v4 v5 (-1) 2 x36) ∧ (¬ v5 = 0 → gP S v1 8 0 (fun x46 => gP S x46 2 3 (fun x49 => aI S x49 v2 (fun x53 => w_X0_setWords_b58 q S v0 v1 v2 v3 v4 v5 x53 2 x36))))))
set_option maxRecDepth 100000 in
set_option maxHeartbeats 4000000 in
theorem t_X0_setWords_b34 (hC : zC p R s m args c cX0_setWords 6 RX0 G B mc ms 3 103) (hr : meth.sig.returnType = (Option.none : Option FieldType)) (hlk : meth.locks = false) (hnm : meth.name = "setWords") {q : hS → Prop} {S : hS} {v0 : Nat} {v1 : Nat} {v2 : Int32} {v3 : Int32} {v4 : Int32} {v5 : Int32} {t0 : Int32} {t1 : Int32} {t2 : Nat} (hw : w_X0_setWords_b34 q S v0 v1 v2 v3 v4 v5 t0 t1 t2) : Z p l e R s m args below meth c (MQ below (hQ G B (vP q)) args s mc ms (fun r => B ≤ r)) G B mc ms 6 S 0 0 34 [some (.ref v0), some (.ref v1), some (.int v2), some (.int v3), some (.int v4), some (.int v5)] [.int t0, .int t1, .ref t2] := by
  unfold w_X0_setWords_b34 at hw
  refine z_astI hC dX0_setWords_34 hw (fun S hw => ?_)
  refine z_aload_n hC dX0_setWords_35 rfl rfl ?_
  refine z_getP hC FX0 1 lk_409 dX0_setWords_36 (by decide) hw (fun x36 hw => ?_)
  refine z_iconst hC ic_2 dX0_setWords_39 ?_
  refine z_iload hC dX0_setWords_40 rfl ?_
  refine z_if_eq (tgt := 57) hC dX0_setWords_42 (by decide) (fun c42 => ?_) (fun c42 => ?_)
  · have hw := hw.1 c42
    refine z_iconst hC ic_m1 dX0_setWords_57 ?_
    refine z_mask (lv' := [some (.ref v0), some (.ref v1), some (.int v2), some (.int v3), some (.int v4), some (.int v5)]) [true, true, true, true, true, true] rfl ?_
    exact t_X0_setWords_b58 hC hr hlk hnm hw
  · have hw := hw.2 c42
    refine z_aload_n hC dX0_setWords_45 rfl rfl ?_
    refine z_getP hC FX8 0 lk_204 dX0_setWords_46 (by decide) hw (fun x46 hw => ?_)
    refine z_getP hC FX2 3 lk_177 dX0_setWords_49 (by decide) hw (fun x49 hw => ?_)
    refine z_iload_n hC dX0_setWords_52 rfl rfl ?_
    refine z_aldI hC dX0_setWords_53 hw (fun x53 hw => ?_)
    refine z_goto (tgt := 58) hC dX0_setWords_54 (by decide) ?_
    refine z_mask (lv' := [some (.ref v0), some (.ref v1), some (.int v2), some (.int v3), some (.int v4), some (.int v5)]) [true, true, true, true, true, true] rfl ?_
    exact t_X0_setWords_b58 hC hr hlk hnm hw
def w_X0_setWords (q : hS → Prop) (S : hS) (v0 : Nat) (v1 : Nat) (v2 : Int32) (v3 : Int32) (v4 : Int32) : Prop := oK S v1 8 ∧ w_X8_hasPerson (fun x2 S => gP S v0 0 1 (fun x8 => sI S x8 0 v2 (fun S => gP S v0 0 1 (fun x15 => (x2 = 0 → w_X0_setWords_b34 q S v0 v1 v2 v3 v4 x2 (-1) 1 x15) ∧ (¬ x2 = 0 → gP S v1 8 6 (fun x25 => aI S x25 v2 (fun x29 => w_X0_setWords_b34 q S v0 v1 v2 v3 v4 x2 x29 1 x15))))))) S v1 v2
set_option maxRecDepth 100000 in
set_option maxHeartbeats 4000000 in
theorem c_X0_setWords (l : Launch) (G : hG) (B : Nat) (S : hS) (v0 : Nat) (v1 : Nat) (v2 : Int32) (v3 : Int32) (v4 : Int32) (q : hS → Prop) : Met l yX0_setWords (hws yX0_setWords cX0_setWords 6 (Option.none : Option FieldType)) ({ frames := 3, cells := 0, slots := 0, locals := 103 }) (hPc G B S [.ref v0, .ref v1, .int v2, .int v3, .int v4] (w_X0_setWords q S v0 v1 v2 v3 v4)) (hQ G B (vP q)) (0) (0) (fun r => B ≤ r) := by
  refine hMet (rm := { frames := 3, cells := 0, slots := 0, locals := 103 }) (lv := [some (.ref v0), some (.ref v1), some (.int v2), some (.int v3), some (.int v4), none]) (own := RX0) (fr := 3) (lo := 103) (by decide) rfl rfl rfl (Nat.le_of_ble_eq_true rfl) rfl (fun hw p e R s m args below meth c hC hr hlk hnm => ?_)
  unfold w_X0_setWords at hw
  refine z_aload_n hC dX0_setWords_0 rfl rfl ?_
  refine z_iload_n hC dX0_setWords_1 rfl rfl ?_
  refine z_callV (ku' := 0) (kv' := 0) (n := 1) (As := [.int v2]) (st := []) hC (c_X8_hasPerson l G B S v1 v2 _) hw.2 hw.1 rfl lk_625 lk_613 lk_614 lk_122 lk_615 hd_X8_hasPerson rfl rfl (Nat.le_of_ble_eq_true rfl) (Nat.le_of_ble_eq_true rfl) rfl (Nat.le_of_ble_eq_true rfl) dX0_setWords_2 (Nat.le_refl 0) (Nat.le_refl 0) (kI (fun x2 S hw => ?_))
  refine z_istore (i := 5) (lv' := [some (.ref v0), some (.ref v1), some (.int v2), some (.int v3), some (.int v4), some (.int x2)]) hC dX0_setWords_5 (by decide) (hok_v rfl rfl) rfl ?_
  refine z_aload_n hC dX0_setWords_7 rfl rfl ?_
  refine z_getP hC FX0 1 lk_409 dX0_setWords_8 (by decide) hw (fun x8 hw => ?_)
  refine z_iconst hC ic_0 dX0_setWords_11 ?_
  refine z_iload_n hC dX0_setWords_12 rfl rfl ?_
  refine z_astI hC dX0_setWords_13 hw (fun S hw => ?_)
  refine z_aload_n hC dX0_setWords_14 rfl rfl ?_
  refine z_getP hC FX0 1 lk_409 dX0_setWords_15 (by decide) hw (fun x15 hw => ?_)
  refine z_iconst hC ic_1 dX0_setWords_18 ?_
  refine z_iload hC dX0_setWords_19 rfl ?_
  refine z_if_eq (tgt := 33) hC dX0_setWords_21 (by decide) (fun c21 => ?_) (fun c21 => ?_)
  · have hw := hw.1 c21
    refine z_iconst hC ic_m1 dX0_setWords_33 ?_
    refine z_mask (lv' := [some (.ref v0), some (.ref v1), some (.int v2), some (.int v3), some (.int v4), some (.int x2)]) [true, true, true, true, true, true] rfl ?_
    exact t_X0_setWords_b34 hC hr hlk hnm hw
  · have hw := hw.2 c21
    refine z_aload_n hC dX0_setWords_24 rfl rfl ?_
    refine z_getP hC FX8 6 lk_225 dX0_setWords_25 (by decide) hw (fun x25 hw => ?_)
    refine z_iload_n hC dX0_setWords_28 rfl rfl ?_
    refine z_aldI hC dX0_setWords_29 hw (fun x29 hw => ?_)
    refine z_goto (tgt := 34) hC dX0_setWords_30 (by decide) ?_
    refine z_mask (lv' := [some (.ref v0), some (.ref v1), some (.int v2), some (.int v3), some (.int v4), some (.int x2)]) [true, true, true, true, true, true] rfl ?_
    exact t_X0_setWords_b34 hC hr hlk hnm hw
end
section
variable {p : Program} {l : Launch} {e : Env} {R : Room} {s : State} {m : MethodId} {args : Array Value} {below : List Frame} {meth : Method} {c : Code} {G : hG} {B mc ms : Nat}
def w_X8_lawInForce (q : Option Nat → hS → Prop) (S : hS) (v0 : Nat) : Prop := gI S v0 8 16 (fun x1 => (x1 < 0 → q none S) ∧ (¬ x1 < 0 → gI S v0 8 16 (fun x8 => gI S v0 8 14 (fun x12 => (x12 ≤ x8 → q none S) ∧ (¬ x12 ≤ x8 → gI S v0 8 16 (fun x19 => (6 ≤ x19 → q none S) ∧ (¬ 6 ≤ x19 → gP S v0 8 15 (fun x28 => gI S v0 8 16 (fun x32 => aR S 5 x28 x32 (fun x35 => q x35 S))))))))))
set_option maxRecDepth 100000 in
set_option maxHeartbeats 4000000 in
theorem c_X8_lawInForce (l : Launch) (G : hG) (B : Nat) (S : hS) (v0 : Nat) (q : Option Nat → hS → Prop) : Met l yX8_lawInForce (hws yX8_lawInForce cX8_lawInForce 1 (Option.some (FieldType.object "BellHeirs$Text"))) ({ frames := 1, cells := 0, slots := 0, locals := 60 }) (hPc G B S [.ref v0] (w_X8_lawInForce q S v0)) (hQ G B (rP q)) (0) (0) (fun r => B ≤ r) := by
  refine hMet (rm := { frames := 1, cells := 0, slots := 0, locals := 60 }) (lv := [some (.ref v0)]) (own := RX8) (fr := 1) (lo := 60) (by decide) rfl rfl rfl (Nat.le_of_ble_eq_true rfl) rfl (fun hw p e R s m args below meth c hC hr hlk hnm => ?_)
  unfold w_X8_lawInForce at hw
  refine z_aload_n hC dX8_lawInForce_0 rfl rfl ?_
  refine z_getI hC FX8 16 lk_245 dX8_lawInForce_1 (by decide) hw (fun x1 hw => ?_)
  refine z_if_lt (tgt := 39) hC dX8_lawInForce_4 (by decide) (fun c4 => ?_) (fun c4 => ?_)
  · have hw := hw.1 c4
    refine z_null hC dX8_lawInForce_39 ?_
    exact z_aret (x := none) hC hr (Or.inl ⟨_, rfl⟩) hlk dX8_lawInForce_40 ⟨_, rfl, hw⟩
  · have hw := hw.2 c4
    refine z_aload_n hC dX8_lawInForce_7 rfl rfl ?_
    refine z_getI hC FX8 16 lk_245 dX8_lawInForce_8 (by decide) hw (fun x8 hw => ?_)
    refine z_aload_n hC dX8_lawInForce_11 rfl rfl ?_
    refine z_getI hC FX8 14 lk_242 dX8_lawInForce_12 (by decide) hw (fun x12 hw => ?_)
    refine z_icmp_ge (tgt := 39) hC dX8_lawInForce_15 (by decide) (fun c15 => ?_) (fun c15 => ?_)
    · have hw := hw.1 c15
      refine z_null hC dX8_lawInForce_39 ?_
      exact z_aret (x := none) hC hr (Or.inl ⟨_, rfl⟩) hlk dX8_lawInForce_40 ⟨_, rfl, hw⟩
    · have hw := hw.2 c15
      refine z_aload_n hC dX8_lawInForce_18 rfl rfl ?_
      refine z_getI hC FX8 16 lk_245 dX8_lawInForce_19 (by decide) hw (fun x19 hw => ?_)
      refine z_bipush hC bi_6 dX8_lawInForce_22 ?_
      refine z_icmp_ge (tgt := 39) hC dX8_lawInForce_24 (by decide) (fun c24 => ?_) (fun c24 => ?_)
      · have hw := hw.1 c24
        refine z_null hC dX8_lawInForce_39 ?_
        exact z_aret (x := none) hC hr (Or.inl ⟨_, rfl⟩) hlk dX8_lawInForce_40 ⟨_, rfl, hw⟩
      · have hw := hw.2 c24
        refine z_aload_n hC dX8_lawInForce_27 rfl rfl ?_
        refine z_getP hC FX8 15 lk_244 dX8_lawInForce_28 (by decide) hw (fun x28 hw => ?_)
        refine z_aload_n hC dX8_lawInForce_31 rfl rfl ?_
        refine z_getI hC FX8 16 lk_245 dX8_lawInForce_32 (by decide) hw (fun x32 hw => ?_)
        refine z_aldR (kd := 5) hC dX8_lawInForce_35 hw rfl (fun x35 hw => ?_)
        refine z_goto (tgt := 40) hC dX8_lawInForce_36 (by decide) ?_
        exact z_aret (x := x35) hC hr (Or.inl ⟨_, rfl⟩) hlk dX8_lawInForce_40 ⟨_, rfl, hw⟩
end
section
variable {p : Program} {l : Launch} {e : Env} {R : Room} {s : State} {m : MethodId} {args : Array Value} {below : List Frame} {meth : Method} {c : Code} {G : hG} {B mc ms : Nat}
def w_X6_reckon_b173 (q : Int32 → hS → Prop) (S : hS) : Prop := q 2000000000 S
set_option maxRecDepth 100000 in
set_option maxHeartbeats 4000000 in
theorem t_X6_reckon_b173 (hC : zC p R s m args c cX6_reckon 5 RX6 G B mc ms 1 60) (hr : meth.sig.returnType = (Option.some FieldType.int)) (hlk : meth.locks = false) (hnm : meth.name = "reckon") {q : Int32 → hS → Prop} {S : hS} (hw : w_X6_reckon_b173 q S ) : Z p l e R s m args below meth c (MQ below (hQ G B (iP q)) args s mc ms (fun r => B ≤ r)) G B mc ms 5 S 0 0 173 [none, none, none, none, none] [] := by
  unfold w_X6_reckon_b173 at hw
  refine z_ldc hC lk_643 dX6_reckon_173 ?_
  refine z_goto (tgt := 180) hC dX6_reckon_175 (by decide) ?_
  exact z_iret hC hr hlk dX6_reckon_180 ⟨_, rfl, hw⟩
def w_X6_reckon_b157 (q : Int32 → hS → Prop) (S : hS) (v3 : Int64) : Prop := (0 < (lg_cmp v3 1000000000) → w_X6_reckon_b173 q S) ∧ (¬ 0 < (lg_cmp v3 1000000000) → (0 ≤ (lg_cmp v3 (-1000000000)) → q (Int64.toInt32 v3) S) ∧ (¬ 0 ≤ (lg_cmp v3 (-1000000000)) → w_X6_reckon_b173 q S))
set_option maxRecDepth 100000 in
set_option maxHeartbeats 4000000 in
theorem t_X6_reckon_b157 (hC : zC p R s m args c cX6_reckon 5 RX6 G B mc ms 1 60) (hr : meth.sig.returnType = (Option.some FieldType.int)) (hlk : meth.locks = false) (hnm : meth.name = "reckon") {q : Int32 → hS → Prop} {S : hS} {v3 : Int64} (hw : w_X6_reckon_b157 q S v3) : Z p l e R s m args below meth c (MQ below (hQ G B (iP q)) args s mc ms (fun r => B ≤ r)) G B mc ms 5 S 0 0 157 [none, none, none, some (.long v3), none] [] := by
  unfold w_X6_reckon_b157 at hw
  refine z_lload_n hC dX6_reckon_157 rfl rfl ?_
  refine z_ldc2 hC lk_651 dX6_reckon_158 ?_
  refine z_lcmp hC dX6_reckon_161 ?_
  refine z_if_gt (tgt := 173) hC dX6_reckon_162 (by decide) (fun c162 => ?_) (fun c162 => ?_)
  · have hw := hw.1 c162
    refine z_mask (lv' := [none, none, none, none, none]) [false, false, false, false, false] rfl ?_
    exact t_X6_reckon_b173 hC hr hlk hnm hw
  · have hw := hw.2 c162
    refine z_lload_n hC dX6_reckon_165 rfl rfl ?_
    refine z_ldc2 hC lk_652 dX6_reckon_166 ?_
    refine z_lcmp hC dX6_reckon_169 ?_
    refine z_if_ge (tgt := 178) hC dX6_reckon_170 (by decide) (fun c170 => ?_) (fun c170 => ?_)
    · have hw := hw.1 c170
      refine z_lload_n hC dX6_reckon_178 rfl rfl ?_
      refine z_l2i hC rfl dX6_reckon_179 ?_
      exact z_iret hC hr hlk dX6_reckon_180 ⟨_, rfl, hw⟩
    · have hw := hw.2 c170
      refine z_mask (lv' := [none, none, none, none, none]) [false, false, false, false, false] rfl ?_
      exact t_X6_reckon_b173 hC hr hlk hnm hw
def w_X6_reckon_b89 (q : Int32 → hS → Prop) (S : hS) (t0 : Int64) : Prop := w_X6_reckon_b157 q S t0
set_option maxRecDepth 100000 in
set_option maxHeartbeats 4000000 in
theorem t_X6_reckon_b89 (hC : zC p R s m args c cX6_reckon 5 RX6 G B mc ms 1 60) (hr : meth.sig.returnType = (Option.some FieldType.int)) (hlk : meth.locks = false) (hnm : meth.name = "reckon") {q : Int32 → hS → Prop} {S : hS} {t0 : Int64} (hw : w_X6_reckon_b89 q S t0) : Z p l e R s m args below meth c (MQ below (hQ G B (iP q)) args s mc ms (fun r => B ≤ r)) G B mc ms 5 S 0 0 89 [none, none, none, none, none] [.long t0] := by
  unfold w_X6_reckon_b89 at hw
  refine z_lstore_n (i := 3) (lv' := [none, none, none, some (.long t0), none]) hC rfl dX6_reckon_89 (by decide) (hok_n rfl) rfl ?_
  refine z_goto (tgt := 157) hC dX6_reckon_90 (by decide) ?_
  refine z_mask (lv' := [none, none, none, some (.long t0), none]) [false, false, false, true, false] rfl ?_
  exact t_X6_reckon_b157 hC hr hlk hnm hw
def w_X6_reckon_b107 (q : Int32 → hS → Prop) (S : hS) (t0 : Int64) : Prop := w_X6_reckon_b157 q S t0
set_option maxRecDepth 100000 in
set_option maxHeartbeats 4000000 in
theorem t_X6_reckon_b107 (hC : zC p R s m args c cX6_reckon 5 RX6 G B mc ms 1 60) (hr : meth.sig.returnType = (Option.some FieldType.int)) (hlk : meth.locks = false) (hnm : meth.name = "reckon") {q : Int32 → hS → Prop} {S : hS} {t0 : Int64} (hw : w_X6_reckon_b107 q S t0) : Z p l e R s m args below meth c (MQ below (hQ G B (iP q)) args s mc ms (fun r => B ≤ r)) G B mc ms 5 S 0 0 107 [none, none, none, none, none] [.long t0] := by
  unfold w_X6_reckon_b107 at hw
  refine z_lstore_n (i := 3) (lv' := [none, none, none, some (.long t0), none]) hC rfl dX6_reckon_107 (by decide) (hok_n rfl) rfl ?_
  refine z_goto (tgt := 157) hC dX6_reckon_108 (by decide) ?_
  refine z_mask (lv' := [none, none, none, some (.long t0), none]) [false, false, false, true, false] rfl ?_
  exact t_X6_reckon_b157 hC hr hlk hnm hw
def w_X6_reckon_b121 (q : Int32 → hS → Prop) (S : hS) (t0 : Int64) : Prop := w_X6_reckon_b157 q S t0
set_option maxRecDepth 100000 in
set_option maxHeartbeats 4000000 in
theorem t_X6_reckon_b121 (hC : zC p R s m args c cX6_reckon 5 RX6 G B mc ms 1 60) (hr : meth.sig.returnType = (Option.some FieldType.int)) (hlk : meth.locks = false) (hnm : meth.name = "reckon") {q : Int32 → hS → Prop} {S : hS} {t0 : Int64} (hw : w_X6_reckon_b121 q S t0) : Z p l e R s m args below meth c (MQ below (hQ G B (iP q)) args s mc ms (fun r => B ≤ r)) G B mc ms 5 S 0 0 121 [none, none, none, none, none] [.long t0] := by
  unfold w_X6_reckon_b121 at hw
  refine z_lstore_n (i := 3) (lv' := [none, none, none, some (.long t0), none]) hC rfl dX6_reckon_121 (by decide) (hok_n rfl) rfl ?_
  refine z_goto (tgt := 157) hC dX6_reckon_122 (by decide) ?_
  refine z_mask (lv' := [none, none, none, some (.long t0), none]) [false, false, false, true, false] rfl ?_
  exact t_X6_reckon_b157 hC hr hlk hnm hw
def w_X6_reckon_b135 (q : Int32 → hS → Prop) (S : hS) (t0 : Int64) : Prop := w_X6_reckon_b157 q S t0
set_option maxRecDepth 100000 in
set_option maxHeartbeats 4000000 in
theorem t_X6_reckon_b135 (hC : zC p R s m args c cX6_reckon 5 RX6 G B mc ms 1 60) (hr : meth.sig.returnType = (Option.some FieldType.int)) (hlk : meth.locks = false) (hnm : meth.name = "reckon") {q : Int32 → hS → Prop} {S : hS} {t0 : Int64} (hw : w_X6_reckon_b135 q S t0) : Z p l e R s m args below meth c (MQ below (hQ G B (iP q)) args s mc ms (fun r => B ≤ r)) G B mc ms 5 S 0 0 135 [none, none, none, none, none] [.long t0] := by
  unfold w_X6_reckon_b135 at hw
  refine z_lstore_n (i := 3) (lv' := [none, none, none, some (.long t0), none]) hC rfl dX6_reckon_135 (by decide) (hok_n rfl) rfl ?_
  refine z_goto (tgt := 157) hC dX6_reckon_136 (by decide) ?_
  refine z_mask (lv' := [none, none, none, some (.long t0), none]) [false, false, false, true, false] rfl ?_
  exact t_X6_reckon_b157 hC hr hlk hnm hw
def w_X6_reckon_b149 (q : Int32 → hS → Prop) (S : hS) (t0 : Int64) : Prop := w_X6_reckon_b157 q S t0
set_option maxRecDepth 100000 in
set_option maxHeartbeats 4000000 in
theorem t_X6_reckon_b149 (hC : zC p R s m args c cX6_reckon 5 RX6 G B mc ms 1 60) (hr : meth.sig.returnType = (Option.some FieldType.int)) (hlk : meth.locks = false) (hnm : meth.name = "reckon") {q : Int32 → hS → Prop} {S : hS} {t0 : Int64} (hw : w_X6_reckon_b149 q S t0) : Z p l e R s m args below meth c (MQ below (hQ G B (iP q)) args s mc ms (fun r => B ≤ r)) G B mc ms 5 S 0 0 149 [none, none, none, none, none] [.long t0] := by
  unfold w_X6_reckon_b149 at hw
  refine z_lstore_n (i := 3) (lv' := [none, none, none, some (.long t0), none]) hC rfl dX6_reckon_149 (by decide) (hok_n rfl) rfl ?_
  refine z_goto (tgt := 157) hC dX6_reckon_150 (by decide) ?_
  refine z_mask (lv' := [none, none, none, some (.long t0), none]) [false, false, false, true, false] rfl ?_
  exact t_X6_reckon_b157 hC hr hlk hnm hw
def w_X6_reckon (q : Int32 → hS → Prop) (S : hS) (v0 : Int32) (v1 : Int32) (v2 : Int32) : Prop := ∀ y1 : Int32, y1 = v0 → ((y1.toInt = 2 → ∀ y53 : Int64, y53 = ((Int32.toInt64 v1) + (Int32.toInt64 v2)) → w_X6_reckon_b157 q S y53) ∧ (y1.toInt = 3 → ∀ y62 : Int64, y62 = ((Int32.toInt64 v1) - (Int32.toInt64 v2)) → w_X6_reckon_b157 q S y62) ∧ (y1.toInt = 4 → ∀ y71 : Int64, y71 = ((Int32.toInt64 v1) * (Int32.toInt64 v2)) → w_X6_reckon_b157 q S y71) ∧ (y1.toInt = 5 → (¬ v2 = 0 → (¬ v2 = 0) ∧ w_X6_reckon_b89 q S (Int32.toInt64 (v1 / v2))) ∧ (v2 = 0 → w_X6_reckon_b89 q S 2000000000)) ∧ (y1.toInt = 6 → (¬ v2 = 0 → (¬ v2 = 0) ∧ w_X6_reckon_b107 q S (Int32.toInt64 (v1 - v1 / v2 * v2))) ∧ (v2 = 0 → w_X6_reckon_b107 q S 2000000000)) ∧ (y1.toInt = 7 → (v2 ≤ v1 → w_X6_reckon_b121 q S 0) ∧ (¬ v2 ≤ v1 → w_X6_reckon_b121 q S 1)) ∧ (y1.toInt = 8 → (v1 ≤ v2 → w_X6_reckon_b135 q S 0) ∧ (¬ v1 ≤ v2 → w_X6_reckon_b135 q S 1)) ∧ (y1.toInt = 9 → (¬ v1 = v2 → w_X6_reckon_b149 q S 0) ∧ (v1 = v2 → w_X6_reckon_b149 q S 1)) ∧ ((y1.toInt < 2 ∨ 9 < y1.toInt) → w_X6_reckon_b157 q S 2000000000))
set_option maxRecDepth 100000 in
set_option maxHeartbeats 4000000 in
theorem c_X6_reckon (l : Launch) (G : hG) (B : Nat) (S : hS) (v0 : Int32) (v1 : Int32) (v2 : Int32) (q : Int32 → hS → Prop) : Met l yX6_reckon (hws yX6_reckon cX6_reckon 5 (Option.some FieldType.int)) ({ frames := 1, cells := 0, slots := 0, locals := 60 }) (hPc G B S [.int v0, .int v1, .int v2] (w_X6_reckon q S v0 v1 v2)) (hQ G B (iP q)) (0) (0) (fun r => B ≤ r) := by
  refine hMet (rm := { frames := 1, cells := 0, slots := 0, locals := 60 }) (lv := [some (.int v0), some (.int v1), some (.int v2), none, none]) (own := RX6) (fr := 1) (lo := 60) (by decide) rfl rfl rfl (Nat.le_of_ble_eq_true rfl) rfl (fun hw p e R s m args below meth c hC hr hlk hnm => ?_)
  unfold w_X6_reckon at hw
  refine z_iload_n hC dX6_reckon_0 rfl rfl ?_
  refine z_nmI (fun y1 e1 => ?_)
  have hw := hw y1 e1
  by_cases q1_0 : y1.toInt = 2
  · have hw := hw.1 q1_0
    refine z_tabIn (tgt := 48) (off := 47) hC 2 dX6_reckon_1 q1_0 (by decide) rfl (by decide) ?_
    refine z_iload_n hC dX6_reckon_48 rfl rfl ?_
    refine z_i2l hC rfl dX6_reckon_49 ?_
    refine z_iload_n hC dX6_reckon_50 rfl rfl ?_
    refine z_i2l hC rfl dX6_reckon_51 ?_
    refine z_ladd hC dX6_reckon_52 ?_
    refine z_nmJ (fun y53 e53 => ?_)
    have hw := hw y53 e53
    refine z_lstore_n (i := 3) (lv' := [some (.int v0), some (.int v1), some (.int v2), some (.long y53), none]) hC rfl dX6_reckon_53 (by decide) (hok_v rfl rfl) rfl ?_
    refine z_goto (tgt := 157) hC dX6_reckon_54 (by decide) ?_
    refine z_mask (lv' := [none, none, none, some (.long y53), none]) [false, false, false, true, false] rfl ?_
    exact t_X6_reckon_b157 hC hr hlk hnm hw
  by_cases q1_1 : y1.toInt = 3
  · have hw := hw.2.1 q1_1
    refine z_tabIn (tgt := 57) (off := 56) hC 3 dX6_reckon_1 q1_1 (by decide) rfl (by decide) ?_
    refine z_iload_n hC dX6_reckon_57 rfl rfl ?_
    refine z_i2l hC rfl dX6_reckon_58 ?_
    refine z_iload_n hC dX6_reckon_59 rfl rfl ?_
    refine z_i2l hC rfl dX6_reckon_60 ?_
    refine z_lsub hC dX6_reckon_61 ?_
    refine z_nmJ (fun y62 e62 => ?_)
    have hw := hw y62 e62
    refine z_lstore_n (i := 3) (lv' := [some (.int v0), some (.int v1), some (.int v2), some (.long y62), none]) hC rfl dX6_reckon_62 (by decide) (hok_v rfl rfl) rfl ?_
    refine z_goto (tgt := 157) hC dX6_reckon_63 (by decide) ?_
    refine z_mask (lv' := [none, none, none, some (.long y62), none]) [false, false, false, true, false] rfl ?_
    exact t_X6_reckon_b157 hC hr hlk hnm hw
  by_cases q1_2 : y1.toInt = 4
  · have hw := hw.2.2.1 q1_2
    refine z_tabIn (tgt := 66) (off := 65) hC 4 dX6_reckon_1 q1_2 (by decide) rfl (by decide) ?_
    refine z_iload_n hC dX6_reckon_66 rfl rfl ?_
    refine z_i2l hC rfl dX6_reckon_67 ?_
    refine z_iload_n hC dX6_reckon_68 rfl rfl ?_
    refine z_i2l hC rfl dX6_reckon_69 ?_
    refine z_lmul hC dX6_reckon_70 ?_
    refine z_nmJ (fun y71 e71 => ?_)
    have hw := hw y71 e71
    refine z_lstore_n (i := 3) (lv' := [some (.int v0), some (.int v1), some (.int v2), some (.long y71), none]) hC rfl dX6_reckon_71 (by decide) (hok_v rfl rfl) rfl ?_
    refine z_goto (tgt := 157) hC dX6_reckon_72 (by decide) ?_
    refine z_mask (lv' := [none, none, none, some (.long y71), none]) [false, false, false, true, false] rfl ?_
    exact t_X6_reckon_b157 hC hr hlk hnm hw
  by_cases q1_3 : y1.toInt = 5
  · have hw := hw.2.2.2.1 q1_3
    refine z_tabIn (tgt := 75) (off := 74) hC 5 dX6_reckon_1 q1_3 (by decide) rfl (by decide) ?_
    refine z_iload_n hC dX6_reckon_75 rfl rfl ?_
    refine z_if_ne (tgt := 85) hC dX6_reckon_76 (by decide) (fun c76 => ?_) (fun c76 => ?_)
    · have hw := hw.1 c76
      refine z_iload_n hC dX6_reckon_85 rfl rfl ?_
      refine z_iload_n hC dX6_reckon_86 rfl rfl ?_
      refine z_idiv hC hw.1 dX6_reckon_87 ?_
      have hw := hw.2
      refine z_i2l hC rfl dX6_reckon_88 ?_
      refine z_mask (lv' := [none, none, none, none, none]) [false, false, false, false, false] rfl ?_
      exact t_X6_reckon_b89 hC hr hlk hnm hw
    · have hw := hw.2 c76
      refine z_ldc2 hC lk_650 dX6_reckon_79 ?_
      refine z_goto (tgt := 89) hC dX6_reckon_82 (by decide) ?_
      refine z_mask (lv' := [none, none, none, none, none]) [false, false, false, false, false] rfl ?_
      exact t_X6_reckon_b89 hC hr hlk hnm hw
  by_cases q1_4 : y1.toInt = 6
  · have hw := hw.2.2.2.2.1 q1_4
    refine z_tabIn (tgt := 93) (off := 92) hC 6 dX6_reckon_1 q1_4 (by decide) rfl (by decide) ?_
    refine z_iload_n hC dX6_reckon_93 rfl rfl ?_
    refine z_if_ne (tgt := 103) hC dX6_reckon_94 (by decide) (fun c94 => ?_) (fun c94 => ?_)
    · have hw := hw.1 c94
      refine z_iload_n hC dX6_reckon_103 rfl rfl ?_
      refine z_iload_n hC dX6_reckon_104 rfl rfl ?_
      refine z_irem hC hw.1 dX6_reckon_105 ?_
      have hw := hw.2
      refine z_i2l hC rfl dX6_reckon_106 ?_
      refine z_mask (lv' := [none, none, none, none, none]) [false, false, false, false, false] rfl ?_
      exact t_X6_reckon_b107 hC hr hlk hnm hw
    · have hw := hw.2 c94
      refine z_ldc2 hC lk_650 dX6_reckon_97 ?_
      refine z_goto (tgt := 107) hC dX6_reckon_100 (by decide) ?_
      refine z_mask (lv' := [none, none, none, none, none]) [false, false, false, false, false] rfl ?_
      exact t_X6_reckon_b107 hC hr hlk hnm hw
  by_cases q1_5 : y1.toInt = 7
  · have hw := hw.2.2.2.2.2.1 q1_5
    refine z_tabIn (tgt := 111) (off := 110) hC 7 dX6_reckon_1 q1_5 (by decide) rfl (by decide) ?_
    refine z_iload_n hC dX6_reckon_111 rfl rfl ?_
    refine z_iload_n hC dX6_reckon_112 rfl rfl ?_
    refine z_icmp_ge (tgt := 120) hC dX6_reckon_113 (by decide) (fun c113 => ?_) (fun c113 => ?_)
    · have hw := hw.1 c113
      refine z_lconst hC lc_0 dX6_reckon_120 ?_
      refine z_mask (lv' := [none, none, none, none, none]) [false, false, false, false, false] rfl ?_
      exact t_X6_reckon_b121 hC hr hlk hnm hw
    · have hw := hw.2 c113
      refine z_lconst hC lc_1 dX6_reckon_116 ?_
      refine z_goto (tgt := 121) hC dX6_reckon_117 (by decide) ?_
      refine z_mask (lv' := [none, none, none, none, none]) [false, false, false, false, false] rfl ?_
      exact t_X6_reckon_b121 hC hr hlk hnm hw
  by_cases q1_6 : y1.toInt = 8
  · have hw := hw.2.2.2.2.2.2.1 q1_6
    refine z_tabIn (tgt := 125) (off := 124) hC 8 dX6_reckon_1 q1_6 (by decide) rfl (by decide) ?_
    refine z_iload_n hC dX6_reckon_125 rfl rfl ?_
    refine z_iload_n hC dX6_reckon_126 rfl rfl ?_
    refine z_icmp_le (tgt := 134) hC dX6_reckon_127 (by decide) (fun c127 => ?_) (fun c127 => ?_)
    · have hw := hw.1 c127
      refine z_lconst hC lc_0 dX6_reckon_134 ?_
      refine z_mask (lv' := [none, none, none, none, none]) [false, false, false, false, false] rfl ?_
      exact t_X6_reckon_b135 hC hr hlk hnm hw
    · have hw := hw.2 c127
      refine z_lconst hC lc_1 dX6_reckon_130 ?_
      refine z_goto (tgt := 135) hC dX6_reckon_131 (by decide) ?_
      refine z_mask (lv' := [none, none, none, none, none]) [false, false, false, false, false] rfl ?_
      exact t_X6_reckon_b135 hC hr hlk hnm hw
  by_cases q1_7 : y1.toInt = 9
  · have hw := hw.2.2.2.2.2.2.2.1 q1_7
    refine z_tabIn (tgt := 139) (off := 138) hC 9 dX6_reckon_1 q1_7 (by decide) rfl (by decide) ?_
    refine z_iload_n hC dX6_reckon_139 rfl rfl ?_
    refine z_iload_n hC dX6_reckon_140 rfl rfl ?_
    refine z_icmp_ne (tgt := 148) hC dX6_reckon_141 (by decide) (fun c141 => ?_) (fun c141 => ?_)
    · have hw := hw.1 c141
      refine z_lconst hC lc_0 dX6_reckon_148 ?_
      refine z_mask (lv' := [none, none, none, none, none]) [false, false, false, false, false] rfl ?_
      exact t_X6_reckon_b149 hC hr hlk hnm hw
    · have hw := hw.2 c141
      refine z_lconst hC lc_1 dX6_reckon_144 ?_
      refine z_goto (tgt := 149) hC dX6_reckon_145 (by decide) ?_
      refine z_mask (lv' := [none, none, none, none, none]) [false, false, false, false, false] rfl ?_
      exact t_X6_reckon_b149 hC hr hlk hnm hw
  have o1 : y1.toInt < 2 ∨ 9 < y1.toInt := by omega
  have hw := hw.2.2.2.2.2.2.2.2 o1
  refine z_tabOut (tgt := 153) hC dX6_reckon_1 o1 (by decide) ?_
  refine z_ldc2 hC lk_650 dX6_reckon_153 ?_
  refine z_lstore_n (i := 3) (lv' := [some (.int v0), some (.int v1), some (.int v2), some (.long 2000000000), none]) hC rfl dX6_reckon_156 (by decide) (hok_v rfl rfl) rfl ?_
  refine z_mask (lv' := [none, none, none, some (.long 2000000000), none]) [false, false, false, true, false] rfl ?_
  exact t_X6_reckon_b157 hC hr hlk hnm hw
end
section
variable {p : Program} {l : Launch} {e : Env} {R : Room} {s : State} {m : MethodId} {args : Array Value} {below : List Frame} {meth : Method} {c : Code} {G : hG} {B mc ms : Nat}
def w_X6_weigh_b306 (q : Int32 → hS → Prop) (K64 : hS → (Nat) → (Nat) → (Nat) → (Int32) → (Int32) → (Int32) → Prop) (S : hS) (v0 : Nat) (v1 : Nat) (v4 : Nat) (v6 : Int32) (v7 : Int32) (v8 : Int32) : Prop := ∀ y306 : Int32, y306 = v8 + 1 → K64 S v0 v1 v4 v6 v7 y306
set_option maxRecDepth 100000 in
set_option maxHeartbeats 4000000 in
theorem t_X6_weigh_b306 (hC : zC p R s m args c cX6_weigh 12 RX6 G B mc ms 2 84) (hr : meth.sig.returnType = (Option.some FieldType.int)) (hlk : meth.locks = false) (hnm : meth.name = "weigh") {q : Int32 → hS → Prop} {K64 : hS → (Nat) → (Nat) → (Nat) → (Int32) → (Int32) → (Int32) → Prop} (hK64 : ∀ {S : hS} {v0 : Nat} {v1 : Nat} {v4 : Nat} {v6 : Int32} {v7 : Int32} {v8 : Int32}, K64 S v0 v1 v4 v6 v7 v8 → Z p l e R s m args below meth c (MQ below (hQ G B (iP q)) args s mc ms (fun r => B ≤ r)) G B mc ms 12 S 0 0 64 [some (.ref v0), some (.ref v1), none, none, some (.ref v4), none, some (.int v6), some (.int v7), some (.int v8), none, none, none] []) {S : hS} {v0 : Nat} {v1 : Nat} {v4 : Nat} {v6 : Int32} {v7 : Int32} {v8 : Int32} (hw : w_X6_weigh_b306 q K64 S v0 v1 v4 v6 v7 v8) : Z p l e R s m args below meth c (MQ below (hQ G B (iP q)) args s mc ms (fun r => B ≤ r)) G B mc ms 12 S 0 0 306 [some (.ref v0), some (.ref v1), none, none, some (.ref v4), none, some (.int v6), some (.int v7), some (.int v8), none, none, none] [] := by
  unfold w_X6_weigh_b306 at hw
  refine z_inc (i := 8) hC ic_1 dX6_weigh_306 rfl (by decide) (hok_v rfl rfl) (fun y306 e306 => ?_)
  have hw := hw y306 e306
  refine z_goto (tgt := 64) hC dX6_weigh_309 (by decide) ?_
  refine z_mask (lv' := [some (.ref v0), some (.ref v1), none, none, some (.ref v4), none, some (.int v6), some (.int v7), some (.int y306), none, none, none]) [true, true, false, false, true, false, true, true, true, false, false, false] rfl ?_
  exact hK64 hw
def w_X6_weigh_b163 (q : Int32 → hS → Prop) (K64 : hS → (Nat) → (Nat) → (Nat) → (Int32) → (Int32) → (Int32) → Prop) (S : hS) (v0 : Nat) (v1 : Nat) (v4 : Nat) (v6 : Int32) (v7 : Int32) (v8 : Int32) (t0 : Int32) (t1 : Int32) (t2 : Nat) : Prop := sI S t2 t1 t0 (fun S => w_X6_weigh_b306 q K64 S v0 v1 v4 v6 v7 v8)
set_option maxRecDepth 100000 in
set_option maxHeartbeats 4000000 in
theorem t_X6_weigh_b163 (hC : zC p R s m args c cX6_weigh 12 RX6 G B mc ms 2 84) (hr : meth.sig.returnType = (Option.some FieldType.int)) (hlk : meth.locks = false) (hnm : meth.name = "weigh") {q : Int32 → hS → Prop} {K64 : hS → (Nat) → (Nat) → (Nat) → (Int32) → (Int32) → (Int32) → Prop} (hK64 : ∀ {S : hS} {v0 : Nat} {v1 : Nat} {v4 : Nat} {v6 : Int32} {v7 : Int32} {v8 : Int32}, K64 S v0 v1 v4 v6 v7 v8 → Z p l e R s m args below meth c (MQ below (hQ G B (iP q)) args s mc ms (fun r => B ≤ r)) G B mc ms 12 S 0 0 64 [some (.ref v0), some (.ref v1), none, none, some (.ref v4), none, some (.int v6), some (.int v7), some (.int v8), none, none, none] []) {S : hS} {v0 : Nat} {v1 : Nat} {v4 : Nat} {v6 : Int32} {v7 : Int32} {v8 : Int32} {t0 : Int32} {t1 : Int32} {t2 : Nat} (hw : w_X6_weigh_b163 q K64 S v0 v1 v4 v6 v7 v8 t0 t1 t2) : Z p l e R s m args below meth c (MQ below (hQ G B (iP q)) args s mc ms (fun r => B ≤ r)) G B mc ms 12 S 0 0 163 [some (.ref v0), some (.ref v1), none, none, some (.ref v4), none, some (.int v6), some (.int v7), some (.int v8), none, none, none] [.int t0, .int t1, .ref t2] := by
  unfold w_X6_weigh_b163 at hw
  refine z_astI hC dX6_weigh_163 hw (fun S hw => ?_)
  refine z_goto (tgt := 306) hC dX6_weigh_164 (by decide) ?_
  refine z_mask (lv' := [some (.ref v0), some (.ref v1), none, none, some (.ref v4), none, some (.int v6), some (.int v7), some (.int v8), none, none, none]) [true, true, false, false, true, false, true, true, true, false, false, false] rfl ?_
  exact t_X6_weigh_b306 hC hr hlk hnm hK64 hw
def w_X6_weigh_b142 (q : Int32 → hS → Prop) (K64 : hS → (Nat) → (Nat) → (Nat) → (Int32) → (Int32) → (Int32) → Prop) (S : hS) (v0 : Nat) (v1 : Nat) (v4 : Nat) (v6 : Int32) (v7 : Int32) (v8 : Int32) (v9 : Int32) (v10 : Int32) : Prop := gP S v0 6 0 (fun x143 => (¬ v9 = 0 → aI S v4 v10 (fun x162 => w_X6_weigh_b163 q K64 S v0 v1 v4 v6 v7 v8 x162 v7 x143)) ∧ (v9 = 0 → w_X6_weigh_b163 q K64 S v0 v1 v4 v6 v7 v8 v10 v7 x143))
set_option maxRecDepth 100000 in
set_option maxHeartbeats 4000000 in
theorem t_X6_weigh_b142 (hC : zC p R s m args c cX6_weigh 12 RX6 G B mc ms 2 84) (hr : meth.sig.returnType = (Option.some FieldType.int)) (hlk : meth.locks = false) (hnm : meth.name = "weigh") {q : Int32 → hS → Prop} {K64 : hS → (Nat) → (Nat) → (Nat) → (Int32) → (Int32) → (Int32) → Prop} (hK64 : ∀ {S : hS} {v0 : Nat} {v1 : Nat} {v4 : Nat} {v6 : Int32} {v7 : Int32} {v8 : Int32}, K64 S v0 v1 v4 v6 v7 v8 → Z p l e R s m args below meth c (MQ below (hQ G B (iP q)) args s mc ms (fun r => B ≤ r)) G B mc ms 12 S 0 0 64 [some (.ref v0), some (.ref v1), none, none, some (.ref v4), none, some (.int v6), some (.int v7), some (.int v8), none, none, none] []) {S : hS} {v0 : Nat} {v1 : Nat} {v4 : Nat} {v6 : Int32} {v7 : Int32} {v8 : Int32} {v9 : Int32} {v10 : Int32} (hw : w_X6_weigh_b142 q K64 S v0 v1 v4 v6 v7 v8 v9 v10) : Z p l e R s m args below meth c (MQ below (hQ G B (iP q)) args s mc ms (fun r => B ≤ r)) G B mc ms 12 S 0 0 142 [some (.ref v0), some (.ref v1), none, none, some (.ref v4), none, some (.int v6), some (.int v7), some (.int v8), some (.int v9), some (.int v10), none] [] := by
  unfold w_X6_weigh_b142 at hw
  refine z_aload_n hC dX6_weigh_142 rfl rfl ?_
  refine z_getP hC FX6 0 lk_404 dX6_weigh_143 (by decide) hw (fun x143 hw => ?_)
  refine z_iload hC dX6_weigh_146 rfl ?_
  refine z_iload hC dX6_weigh_148 rfl ?_
  refine z_if_ne (tgt := 158) hC dX6_weigh_150 (by decide) (fun c150 => ?_) (fun c150 => ?_)
  · have hw := hw.1 c150
    refine z_aload hC dX6_weigh_158 rfl ?_
    refine z_iload hC dX6_weigh_160 rfl ?_
    refine z_aldI hC dX6_weigh_162 hw (fun x162 hw => ?_)
    refine z_mask (lv' := [some (.ref v0), some (.ref v1), none, none, some (.ref v4), none, some (.int v6), some (.int v7), some (.int v8), none, none, none]) [true, true, false, false, true, false, true, true, true, false, false, false] rfl ?_
    exact t_X6_weigh_b163 hC hr hlk hnm hK64 hw
  · have hw := hw.2 c150
    refine z_iload hC dX6_weigh_153 rfl ?_
    refine z_goto (tgt := 163) hC dX6_weigh_155 (by decide) ?_
    refine z_mask (lv' := [some (.ref v0), some (.ref v1), none, none, some (.ref v4), none, some (.int v6), some (.int v7), some (.int v8), none, none, none]) [true, true, false, false, true, false, true, true, true, false, false, false] rfl ?_
    exact t_X6_weigh_b163 hC hr hlk hnm hK64 hw
def w_X6_weigh_b250 (q : Int32 → hS → Prop) (K64 : hS → (Nat) → (Nat) → (Nat) → (Int32) → (Int32) → (Int32) → Prop) (S : hS) (v0 : Nat) (v1 : Nat) (v4 : Nat) (v6 : Int32) (v7 : Int32) (v8 : Int32) : Prop := w_X6_weigh_b306 q K64 S v0 v1 v4 v6 v7 v8
set_option maxRecDepth 100000 in
set_option maxHeartbeats 4000000 in
theorem t_X6_weigh_b250 (hC : zC p R s m args c cX6_weigh 12 RX6 G B mc ms 2 84) (hr : meth.sig.returnType = (Option.some FieldType.int)) (hlk : meth.locks = false) (hnm : meth.name = "weigh") {q : Int32 → hS → Prop} {K64 : hS → (Nat) → (Nat) → (Nat) → (Int32) → (Int32) → (Int32) → Prop} (hK64 : ∀ {S : hS} {v0 : Nat} {v1 : Nat} {v4 : Nat} {v6 : Int32} {v7 : Int32} {v8 : Int32}, K64 S v0 v1 v4 v6 v7 v8 → Z p l e R s m args below meth c (MQ below (hQ G B (iP q)) args s mc ms (fun r => B ≤ r)) G B mc ms 12 S 0 0 64 [some (.ref v0), some (.ref v1), none, none, some (.ref v4), none, some (.int v6), some (.int v7), some (.int v8), none, none, none] []) {S : hS} {v0 : Nat} {v1 : Nat} {v4 : Nat} {v6 : Int32} {v7 : Int32} {v8 : Int32} (hw : w_X6_weigh_b250 q K64 S v0 v1 v4 v6 v7 v8) : Z p l e R s m args below meth c (MQ below (hQ G B (iP q)) args s mc ms (fun r => B ≤ r)) G B mc ms 12 S 0 0 250 [some (.ref v0), some (.ref v1), none, none, some (.ref v4), none, some (.int v6), some (.int v7), some (.int v8), none, none, none] [] := by
  unfold w_X6_weigh_b250 at hw
  refine z_goto (tgt := 306) hC dX6_weigh_250 (by decide) ?_
  refine z_mask (lv' := [some (.ref v0), some (.ref v1), none, none, some (.ref v4), none, some (.int v6), some (.int v7), some (.int v8), none, none, none]) [true, true, false, false, true, false, true, true, true, false, false, false] rfl ?_
  exact t_X6_weigh_b306 hC hr hlk hnm hK64 hw
def w_X6_weigh_b212 (q : Int32 → hS → Prop) (K64 : hS → (Nat) → (Nat) → (Nat) → (Int32) → (Int32) → (Int32) → Prop) (S : hS) (v0 : Nat) (v1 : Nat) (v4 : Nat) (v6 : Int32) (v7 : Int32) (v8 : Int32) (v10 : Int32) (t0 : Int32) : Prop := gP S v0 6 0 (fun x215 => aI S x215 v7 (fun x220 => (¬ x220 = t0 → ∀ y248 : Int32, y248 = (if 0 < (v7 - 1) then (v7 - 1) else 0) → w_X6_weigh_b250 q K64 S v0 v1 v4 v6 y248 v8) ∧ (x220 = t0 → ∀ y235 : Int32, y235 = (if v8 < (v10 - 1) then (v10 - 1) else v8) → w_X6_weigh_b250 q K64 S v0 v1 v4 v6 v7 y235)))
set_option maxRecDepth 100000 in
set_option maxHeartbeats 4000000 in
theorem t_X6_weigh_b212 (hC : zC p R s m args c cX6_weigh 12 RX6 G B mc ms 2 84) (hr : meth.sig.returnType = (Option.some FieldType.int)) (hlk : meth.locks = false) (hnm : meth.name = "weigh") {q : Int32 → hS → Prop} {K64 : hS → (Nat) → (Nat) → (Nat) → (Int32) → (Int32) → (Int32) → Prop} (hK64 : ∀ {S : hS} {v0 : Nat} {v1 : Nat} {v4 : Nat} {v6 : Int32} {v7 : Int32} {v8 : Int32}, K64 S v0 v1 v4 v6 v7 v8 → Z p l e R s m args below meth c (MQ below (hQ G B (iP q)) args s mc ms (fun r => B ≤ r)) G B mc ms 12 S 0 0 64 [some (.ref v0), some (.ref v1), none, none, some (.ref v4), none, some (.int v6), some (.int v7), some (.int v8), none, none, none] []) {S : hS} {v0 : Nat} {v1 : Nat} {v4 : Nat} {v6 : Int32} {v7 : Int32} {v8 : Int32} {v10 : Int32} {t0 : Int32} (hw : w_X6_weigh_b212 q K64 S v0 v1 v4 v6 v7 v8 v10 t0) : Z p l e R s m args below meth c (MQ below (hQ G B (iP q)) args s mc ms (fun r => B ≤ r)) G B mc ms 12 S 0 0 212 [some (.ref v0), some (.ref v1), none, none, some (.ref v4), none, some (.int v6), some (.int v7), some (.int v8), none, some (.int v10), none] [.int t0] := by
  unfold w_X6_weigh_b212 at hw
  refine z_istore (i := 11) (lv' := [some (.ref v0), some (.ref v1), none, none, some (.ref v4), none, some (.int v6), some (.int v7), some (.int v8), none, some (.int v10), some (.int t0)]) hC dX6_weigh_212 (by decide) (hok_v rfl rfl) rfl ?_
  refine z_aload_n hC dX6_weigh_214 rfl rfl ?_
  refine z_getP hC FX6 0 lk_404 dX6_weigh_215 (by decide) hw (fun x215 hw => ?_)
  refine z_iload hC dX6_weigh_218 rfl ?_
  refine z_aldI hC dX6_weigh_220 hw (fun x220 hw => ?_)
  refine z_iload hC dX6_weigh_221 rfl ?_
  refine z_icmp_ne (tgt := 240) hC dX6_weigh_223 (by decide) (fun c223 => ?_) (fun c223 => ?_)
  · have hw := hw.1 c223
    refine z_iconst hC ic_0 dX6_weigh_240 ?_
    refine z_iload hC dX6_weigh_241 rfl ?_
    refine z_iconst hC ic_1 dX6_weigh_243 ?_
    refine z_isub hC dX6_weigh_244 ?_
    refine z_mmax hC lk_644 lk_645 lk_134 lk_646 dX6_weigh_245 (by decide) (Nat.le_of_ble_eq_true rfl) ?_
    refine z_nmI (fun y248 e248 => ?_)
    have hw := hw y248 e248
    refine z_istore (i := 7) (lv' := [some (.ref v0), some (.ref v1), none, none, some (.ref v4), none, some (.int v6), some (.int y248), some (.int v8), none, some (.int v10), some (.int t0)]) hC dX6_weigh_248 (by decide) (hok_v rfl rfl) rfl ?_
    refine z_mask (lv' := [some (.ref v0), some (.ref v1), none, none, some (.ref v4), none, some (.int v6), some (.int y248), some (.int v8), none, none, none]) [true, true, false, false, true, false, true, true, true, false, false, false] rfl ?_
    exact t_X6_weigh_b250 hC hr hlk hnm hK64 hw
  · have hw := hw.2 c223
    refine z_iload hC dX6_weigh_226 rfl ?_
    refine z_iload hC dX6_weigh_228 rfl ?_
    refine z_iconst hC ic_1 dX6_weigh_230 ?_
    refine z_isub hC dX6_weigh_231 ?_
    refine z_mmax hC lk_644 lk_645 lk_134 lk_646 dX6_weigh_232 (by decide) (Nat.le_of_ble_eq_true rfl) ?_
    refine z_nmI (fun y235 e235 => ?_)
    have hw := hw y235 e235
    refine z_istore (i := 8) (lv' := [some (.ref v0), some (.ref v1), none, none, some (.ref v4), none, some (.int v6), some (.int v7), some (.int y235), none, some (.int v10), some (.int t0)]) hC dX6_weigh_235 (by decide) (hok_v rfl rfl) rfl ?_
    refine z_goto (tgt := 250) hC dX6_weigh_237 (by decide) ?_
    refine z_mask (lv' := [some (.ref v0), some (.ref v1), none, none, some (.ref v4), none, some (.int v6), some (.int v7), some (.int y235), none, none, none]) [true, true, false, false, true, false, true, true, true, false, false, false] rfl ?_
    exact t_X6_weigh_b250 hC hr hlk hnm hK64 hw
def w_X6_weigh_b312 (q : Int32 → hS → Prop) (S : hS) (v0 : Nat) (v7 : Int32) : Prop := gP S v0 6 0 (fun x313 => aI S x313 v7 (fun x318 => q x318 S))
set_option maxRecDepth 100000 in
set_option maxHeartbeats 4000000 in
theorem t_X6_weigh_b312 (hC : zC p R s m args c cX6_weigh 12 RX6 G B mc ms 2 84) (hr : meth.sig.returnType = (Option.some FieldType.int)) (hlk : meth.locks = false) (hnm : meth.name = "weigh") {q : Int32 → hS → Prop} {S : hS} {v0 : Nat} {v7 : Int32} (hw : w_X6_weigh_b312 q S v0 v7) : Z p l e R s m args below meth c (MQ below (hQ G B (iP q)) args s mc ms (fun r => B ≤ r)) G B mc ms 12 S 0 0 312 [some (.ref v0), none, none, none, none, none, none, some (.int v7), none, none, none, none] [] := by
  unfold w_X6_weigh_b312 at hw
  refine z_aload_n hC dX6_weigh_312 rfl rfl ?_
  refine z_getP hC FX6 0 lk_404 dX6_weigh_313 (by decide) hw (fun x313 hw => ?_)
  refine z_iload hC dX6_weigh_316 rfl ?_
  refine z_aldI hC dX6_weigh_318 hw (fun x318 hw => ?_)
  exact z_iret hC hr hlk dX6_weigh_319 ⟨_, rfl, hw⟩
def w_X6_weigh_b64 (q : Int32 → hS → Prop) : Nat → hS → (Nat) → (Nat) → (Nat) → (Int32) → (Int32) → (Int32) → Prop
  | 0, _, _, _, _, _, _, _ => False
  | n + 1, S, v0, v1, v4, v6, v7, v8 => (v6 ≤ v8 → w_X6_weigh_b312 q S v0 v7) ∧ (¬ v6 ≤ v8 → gI S v1 10 1 (fun x74 => (x74 ≤ v8 → w_X6_weigh_b312 q S v0 v7) ∧ (¬ x74 ≤ v8 → gP S v1 10 6 (fun x81 => aI S x81 v8 (fun x86 => ∀ y91 : Int32, y91 = (x86 / 2048) → gP S v1 10 6 (fun x94 => aI S x94 v8 (fun x99 => ∀ y104 : Int32, y104 = (x99 - x99 / 2048 * 2048) → (1 < y91 → (¬ y91 = 10 → (y91 < 11 → ∀ y261 : Int32, y261 = (if 1 < (v7 - 1) then (v7 - 1) else 1) → gP S v0 6 0 (fun x264 => gP S v0 6 0 (fun x272 => aI S x272 y261 (fun x277 => gP S v0 6 0 (fun x279 => aI S x279 (y261 + 1) (fun x286 => w_X6_reckon (fun x287 S => sI S x264 y261 x287 (fun S => gP S v0 6 0 (fun x292 => aI S x292 y261 (fun x297 => (¬ x297 = 2000000000 → w_X6_weigh_b306 q (fun S v0 v1 v4 v6 v7 v8 => w_X6_weigh_b64 q n S v0 v1 v4 v6 v7 v8) S v0 v1 v4 v6 y261 v8) ∧ (x297 = 2000000000 → q 2000000000 S))))) S y91 x277 x286)))))) ∧ (¬ y91 < 11 → (¬ y91 = 11 → w_X6_weigh_b212 q (fun S v0 v1 v4 v6 v7 v8 => w_X6_weigh_b64 q n S v0 v1 v4 v6 v7 v8) S v0 v1 v4 v6 v7 v8 y104 0) ∧ (y91 = 11 → w_X6_weigh_b212 q (fun S v0 v1 v4 v6 v7 v8 => w_X6_weigh_b64 q n S v0 v1 v4 v6 v7 v8) S v0 v1 v4 v6 v7 v8 y104 1))) ∧ (y91 = 10 → gP S v0 6 0 (fun x175 => gP S v0 6 0 (fun x182 => aI S x182 v7 (fun x187 => sI S x175 v7 (1 - x187) (fun S => w_X6_weigh_b306 q (fun S v0 v1 v4 v6 v7 v8 => w_X6_weigh_b64 q n S v0 v1 v4 v6 v7 v8) S v0 v1 v4 v6 v7 v8)))))) ∧ (¬ 1 < y91 → ∀ y112 : Int32, y112 = v7 + 1 → gP S v0 6 0 (fun x118 => aN S x118 (fun x121 => (x121 ≤ y112 → q 2000000000 S) ∧ (¬ x121 ≤ y112 → (¬ y91 = 1 → w_X6_weigh_b142 q (fun S v0 v1 v4 v6 v7 v8 => w_X6_weigh_b64 q n S v0 v1 v4 v6 v7 v8) S v0 v1 v4 v6 y112 v8 y91 y104) ∧ (y91 = 1 → aN S v4 (fun x135 => (y104 < x135 → w_X6_weigh_b142 q (fun S v0 v1 v4 v6 v7 v8 => w_X6_weigh_b64 q n S v0 v1 v4 v6 v7 v8) S v0 v1 v4 v6 y112 v8 y91 y104) ∧ (¬ y104 < x135 → q 2000000000 S))))))))))))))
set_option maxRecDepth 100000 in
set_option maxHeartbeats 4000000 in
theorem t_X6_weigh_b64 (hC : zC p R s m args c cX6_weigh 12 RX6 G B mc ms 2 84) (hr : meth.sig.returnType = (Option.some FieldType.int)) (hlk : meth.locks = false) (hnm : meth.name = "weigh") {q : Int32 → hS → Prop} (n : Nat) : ∀ {S : hS} {v0 : Nat} {v1 : Nat} {v4 : Nat} {v6 : Int32} {v7 : Int32} {v8 : Int32} (hw : w_X6_weigh_b64 q n S v0 v1 v4 v6 v7 v8), Z p l e R s m args below meth c (MQ below (hQ G B (iP q)) args s mc ms (fun r => B ≤ r)) G B mc ms 12 S 0 0 64 [some (.ref v0), some (.ref v1), none, none, some (.ref v4), none, some (.int v6), some (.int v7), some (.int v8), none, none, none] [] := by
  induction n with
  | zero => intro S v0 v1 v4 v6 v7 v8 hw; exact (by rw [w_X6_weigh_b64] at hw; exact hw.elim)
  | succ n ih =>
    intro S v0 v1 v4 v6 v7 v8 hw
    rw [w_X6_weigh_b64] at hw
    refine z_iload hC dX6_weigh_64 rfl ?_
    refine z_iload hC dX6_weigh_66 rfl ?_
    refine z_icmp_ge (tgt := 312) hC dX6_weigh_68 (by decide) (fun c68 => ?_) (fun c68 => ?_)
    · have hw := hw.1 c68
      refine z_mask (lv' := [some (.ref v0), none, none, none, none, none, none, some (.int v7), none, none, none, none]) [true, false, false, false, false, false, false, true, false, false, false, false] rfl ?_
      exact t_X6_weigh_b312 hC hr hlk hnm hw
    · have hw := hw.2 c68
      refine z_iload hC dX6_weigh_71 rfl ?_
      refine z_aload_n hC dX6_weigh_73 rfl rfl ?_
      refine z_getI hC FX10 1 lk_352 dX6_weigh_74 (by decide) hw (fun x74 hw => ?_)
      refine z_icmp_ge (tgt := 312) hC dX6_weigh_77 (by decide) (fun c77 => ?_) (fun c77 => ?_)
      · have hw := hw.1 c77
        refine z_mask (lv' := [some (.ref v0), none, none, none, none, none, none, some (.int v7), none, none, none, none]) [true, false, false, false, false, false, false, true, false, false, false, false] rfl ?_
        exact t_X6_weigh_b312 hC hr hlk hnm hw
      · have hw := hw.2 c77
        refine z_aload_n hC dX6_weigh_80 rfl rfl ?_
        refine z_getP hC FX10 6 lk_362 dX6_weigh_81 (by decide) hw (fun x81 hw => ?_)
        refine z_iload hC dX6_weigh_84 rfl ?_
        refine z_aldI hC dX6_weigh_86 hw (fun x86 hw => ?_)
        refine z_sipush hC si_2048 dX6_weigh_87 ?_
        refine z_idiv hC (by decide) dX6_weigh_90 ?_
        refine z_nmI (fun y91 e91 => ?_)
        have hw := hw y91 e91
        refine z_istore (i := 9) (lv' := [some (.ref v0), some (.ref v1), none, none, some (.ref v4), none, some (.int v6), some (.int v7), some (.int v8), some (.int y91), none, none]) hC dX6_weigh_91 (by decide) (hok_v rfl rfl) rfl ?_
        refine z_aload_n hC dX6_weigh_93 rfl rfl ?_
        refine z_getP hC FX10 6 lk_362 dX6_weigh_94 (by decide) hw (fun x94 hw => ?_)
        refine z_iload hC dX6_weigh_97 rfl ?_
        refine z_aldI hC dX6_weigh_99 hw (fun x99 hw => ?_)
        refine z_sipush hC si_2048 dX6_weigh_100 ?_
        refine z_irem hC (by decide) dX6_weigh_103 ?_
        refine z_nmI (fun y104 e104 => ?_)
        have hw := hw y104 e104
        refine z_istore (i := 10) (lv' := [some (.ref v0), some (.ref v1), none, none, some (.ref v4), none, some (.int v6), some (.int v7), some (.int v8), some (.int y91), some (.int y104), none]) hC dX6_weigh_104 (by decide) (hok_v rfl rfl) rfl ?_
        refine z_iload hC dX6_weigh_106 rfl ?_
        refine z_iconst hC ic_1 dX6_weigh_108 ?_
        refine z_icmp_gt (tgt := 167) hC dX6_weigh_109 (by decide) (fun c109 => ?_) (fun c109 => ?_)
        · have hw := hw.1 c109
          refine z_iload hC dX6_weigh_167 rfl ?_
          refine z_bipush hC bi_10 dX6_weigh_169 ?_
          refine z_icmp_ne (tgt := 193) hC dX6_weigh_171 (by decide) (fun c171 => ?_) (fun c171 => ?_)
          · have hw := hw.1 c171
            refine z_iload hC dX6_weigh_193 rfl ?_
            refine z_bipush hC bi_11 dX6_weigh_195 ?_
            refine z_icmp_lt (tgt := 253) hC dX6_weigh_197 (by decide) (fun c197 => ?_) (fun c197 => ?_)
            · have hw := hw.1 c197
              refine z_iconst hC ic_1 dX6_weigh_253 ?_
              refine z_iload hC dX6_weigh_254 rfl ?_
              refine z_iconst hC ic_1 dX6_weigh_256 ?_
              refine z_isub hC dX6_weigh_257 ?_
              refine z_mmax hC lk_644 lk_645 lk_134 lk_646 dX6_weigh_258 (by decide) (Nat.le_of_ble_eq_true rfl) ?_
              refine z_nmI (fun y261 e261 => ?_)
              have hw := hw y261 e261
              refine z_istore (i := 7) (lv' := [some (.ref v0), some (.ref v1), none, none, some (.ref v4), none, some (.int v6), some (.int y261), some (.int v8), some (.int y91), some (.int y104), none]) hC dX6_weigh_261 (by decide) (hok_v rfl rfl) rfl ?_
              refine z_aload_n hC dX6_weigh_263 rfl rfl ?_
              refine z_getP hC FX6 0 lk_404 dX6_weigh_264 (by decide) hw (fun x264 hw => ?_)
              refine z_iload hC dX6_weigh_267 rfl ?_
              refine z_iload hC dX6_weigh_269 rfl ?_
              refine z_aload_n hC dX6_weigh_271 rfl rfl ?_
              refine z_getP hC FX6 0 lk_404 dX6_weigh_272 (by decide) hw (fun x272 hw => ?_)
              refine z_iload hC dX6_weigh_275 rfl ?_
              refine z_aldI hC dX6_weigh_277 hw (fun x277 hw => ?_)
              refine z_aload_n hC dX6_weigh_278 rfl rfl ?_
              refine z_getP hC FX6 0 lk_404 dX6_weigh_279 (by decide) hw (fun x279 hw => ?_)
              refine z_iload hC dX6_weigh_282 rfl ?_
              refine z_iconst hC ic_1 dX6_weigh_284 ?_
              refine z_iadd hC dX6_weigh_285 ?_
              refine z_aldI hC dX6_weigh_286 hw (fun x286 hw => ?_)
              refine z_callS (ku' := 0) (kv' := 0) (n := 3) (As := [.int y91, .int x277, .int x286]) (st := [.int y261, .ref x264]) hC (c_X6_reckon l G B S y91 x277 x286 _) hw lk_647 lk_648 lk_129 lk_649 hd_X6_reckon rfl rfl (Nat.le_of_ble_eq_true rfl) (Nat.le_of_ble_eq_true rfl) rfl (Nat.le_of_ble_eq_true rfl) dX6_weigh_287 (Nat.le_refl 0) (Nat.le_refl 0) (kI (fun x287 S hw => ?_))
              refine z_astI hC dX6_weigh_290 hw (fun S hw => ?_)
              refine z_aload_n hC dX6_weigh_291 rfl rfl ?_
              refine z_getP hC FX6 0 lk_404 dX6_weigh_292 (by decide) hw (fun x292 hw => ?_)
              refine z_iload hC dX6_weigh_295 rfl ?_
              refine z_aldI hC dX6_weigh_297 hw (fun x297 hw => ?_)
              refine z_ldc hC lk_643 dX6_weigh_298 ?_
              refine z_icmp_ne (tgt := 306) hC dX6_weigh_300 (by decide) (fun c300 => ?_) (fun c300 => ?_)
              · have hw := hw.1 c300
                refine z_mask (lv' := [some (.ref v0), some (.ref v1), none, none, some (.ref v4), none, some (.int v6), some (.int y261), some (.int v8), none, none, none]) [true, true, false, false, true, false, true, true, true, false, false, false] rfl ?_
                exact t_X6_weigh_b306 hC hr hlk hnm (fun hw => ih hw) hw
              · have hw := hw.2 c300
                refine z_ldc hC lk_643 dX6_weigh_303 ?_
                exact z_iret hC hr hlk dX6_weigh_305 ⟨_, rfl, hw⟩
            · have hw := hw.2 c197
              refine z_iload hC dX6_weigh_200 rfl ?_
              refine z_bipush hC bi_11 dX6_weigh_202 ?_
              refine z_icmp_ne (tgt := 211) hC dX6_weigh_204 (by decide) (fun c204 => ?_) (fun c204 => ?_)
              · have hw := hw.1 c204
                refine z_iconst hC ic_0 dX6_weigh_211 ?_
                refine z_mask (lv' := [some (.ref v0), some (.ref v1), none, none, some (.ref v4), none, some (.int v6), some (.int v7), some (.int v8), none, some (.int y104), none]) [true, true, false, false, true, false, true, true, true, false, true, false] rfl ?_
                exact t_X6_weigh_b212 hC hr hlk hnm (fun hw => ih hw) hw
              · have hw := hw.2 c204
                refine z_iconst hC ic_1 dX6_weigh_207 ?_
                refine z_goto (tgt := 212) hC dX6_weigh_208 (by decide) ?_
                refine z_mask (lv' := [some (.ref v0), some (.ref v1), none, none, some (.ref v4), none, some (.int v6), some (.int v7), some (.int v8), none, some (.int y104), none]) [true, true, false, false, true, false, true, true, true, false, true, false] rfl ?_
                exact t_X6_weigh_b212 hC hr hlk hnm (fun hw => ih hw) hw
          · have hw := hw.2 c171
            refine z_aload_n hC dX6_weigh_174 rfl rfl ?_
            refine z_getP hC FX6 0 lk_404 dX6_weigh_175 (by decide) hw (fun x175 hw => ?_)
            refine z_iload hC dX6_weigh_178 rfl ?_
            refine z_iconst hC ic_1 dX6_weigh_180 ?_
            refine z_aload_n hC dX6_weigh_181 rfl rfl ?_
            refine z_getP hC FX6 0 lk_404 dX6_weigh_182 (by decide) hw (fun x182 hw => ?_)
            refine z_iload hC dX6_weigh_185 rfl ?_
            refine z_aldI hC dX6_weigh_187 hw (fun x187 hw => ?_)
            refine z_isub hC dX6_weigh_188 ?_
            refine z_astI hC dX6_weigh_189 hw (fun S hw => ?_)
            refine z_goto (tgt := 306) hC dX6_weigh_190 (by decide) ?_
            refine z_mask (lv' := [some (.ref v0), some (.ref v1), none, none, some (.ref v4), none, some (.int v6), some (.int v7), some (.int v8), none, none, none]) [true, true, false, false, true, false, true, true, true, false, false, false] rfl ?_
            exact t_X6_weigh_b306 hC hr hlk hnm (fun hw => ih hw) hw
        · have hw := hw.2 c109
          refine z_inc (i := 7) hC ic_1 dX6_weigh_112 rfl (by decide) (hok_v rfl rfl) (fun y112 e112 => ?_)
          have hw := hw y112 e112
          refine z_iload hC dX6_weigh_115 rfl ?_
          refine z_aload_n hC dX6_weigh_117 rfl rfl ?_
          refine z_getP hC FX6 0 lk_404 dX6_weigh_118 (by decide) hw (fun x118 hw => ?_)
          refine z_alen hC dX6_weigh_121 hw (fun x121 hw => ?_)
          refine z_icmp_ge (tgt := 139) hC dX6_weigh_122 (by decide) (fun c122 => ?_) (fun c122 => ?_)
          · have hw := hw.1 c122
            refine z_ldc hC lk_643 dX6_weigh_139 ?_
            exact z_iret hC hr hlk dX6_weigh_141 ⟨_, rfl, hw⟩
          · have hw := hw.2 c122
            refine z_iload hC dX6_weigh_125 rfl ?_
            refine z_iconst hC ic_1 dX6_weigh_127 ?_
            refine z_icmp_ne (tgt := 142) hC dX6_weigh_128 (by decide) (fun c128 => ?_) (fun c128 => ?_)
            · have hw := hw.1 c128
              refine z_mask (lv' := [some (.ref v0), some (.ref v1), none, none, some (.ref v4), none, some (.int v6), some (.int y112), some (.int v8), some (.int y91), some (.int y104), none]) [true, true, false, false, true, false, true, true, true, true, true, false] rfl ?_
              exact t_X6_weigh_b142 hC hr hlk hnm (fun hw => ih hw) hw
            · have hw := hw.2 c128
              refine z_iload hC dX6_weigh_131 rfl ?_
              refine z_aload hC dX6_weigh_133 rfl ?_
              refine z_alen hC dX6_weigh_135 hw (fun x135 hw => ?_)
              refine z_icmp_lt (tgt := 142) hC dX6_weigh_136 (by decide) (fun c136 => ?_) (fun c136 => ?_)
              · have hw := hw.1 c136
                refine z_mask (lv' := [some (.ref v0), some (.ref v1), none, none, some (.ref v4), none, some (.int v6), some (.int y112), some (.int v8), some (.int y91), some (.int y104), none]) [true, true, false, false, true, false, true, true, true, true, true, false] rfl ?_
                exact t_X6_weigh_b142 hC hr hlk hnm (fun hw => ih hw) hw
              · have hw := hw.2 c136
                refine z_ldc hC lk_643 dX6_weigh_139 ?_
                exact z_iret hC hr hlk dX6_weigh_141 ⟨_, rfl, hw⟩
def w_X6_weigh (q : Int32 → hS → Prop) (S : hS) (v0 : Nat) (v1 : Nat) (v2 : Int32) (v3 : Int32) (v4 : Nat) : Prop := (v2 < 0 → q 2000000000 S) ∧ (¬ v2 < 0 → gI S v1 10 0 (fun x6 => (x6 ≤ v2 → q 2000000000 S) ∧ (¬ x6 ≤ v2 → (v3 < 0 → q 2000000000 S) ∧ (¬ v3 < 0 → (v3 ≤ 3 → gP S v1 10 5 (fun x25 => aI S x25 ((v2 * 5) + v3) (fun x33 => gP S v1 10 5 (fun x37 => aI S x37 (((v2 * 5) + v3) + 1) (fun x47 => gP S v0 6 0 (fun x54 => sI S x54 0 1 (fun S => (∃ n64 : Nat, w_X6_weigh_b64 q n64 S v0 v1 v4 x47 0 x33)))))))) ∧ (¬ v3 ≤ 3 → q 2000000000 S)))))
set_option maxRecDepth 100000 in
set_option maxHeartbeats 4000000 in
theorem c_X6_weigh (l : Launch) (G : hG) (B : Nat) (S : hS) (v0 : Nat) (v1 : Nat) (v2 : Int32) (v3 : Int32) (v4 : Nat) (q : Int32 → hS → Prop) : Met l yX6_weigh (hws yX6_weigh cX6_weigh 12 (Option.some FieldType.int)) ({ frames := 2, cells := 0, slots := 0, locals := 84 }) (hPc G B S [.ref v0, .ref v1, .int v2, .int v3, .ref v4] (w_X6_weigh q S v0 v1 v2 v3 v4)) (hQ G B (iP q)) (0) (0) (fun r => B ≤ r) := by
  refine hMet (rm := { frames := 2, cells := 0, slots := 0, locals := 84 }) (lv := [some (.ref v0), some (.ref v1), some (.int v2), some (.int v3), some (.ref v4), none, none, none, none, none, none, none]) (own := RX6) (fr := 2) (lo := 84) (by decide) rfl rfl rfl (Nat.le_of_ble_eq_true rfl) rfl (fun hw p e R s m args below meth c hC hr hlk hnm => ?_)
  unfold w_X6_weigh at hw
  refine z_iload_n hC dX6_weigh_0 rfl rfl ?_
  refine z_if_lt (tgt := 21) hC dX6_weigh_1 (by decide) (fun c1 => ?_) (fun c1 => ?_)
  · have hw := hw.1 c1
    refine z_ldc hC lk_643 dX6_weigh_21 ?_
    exact z_iret hC hr hlk dX6_weigh_23 ⟨_, rfl, hw⟩
  · have hw := hw.2 c1
    refine z_iload_n hC dX6_weigh_4 rfl rfl ?_
    refine z_aload_n hC dX6_weigh_5 rfl rfl ?_
    refine z_getI hC FX10 0 lk_348 dX6_weigh_6 (by decide) hw (fun x6 hw => ?_)
    refine z_icmp_ge (tgt := 21) hC dX6_weigh_9 (by decide) (fun c9 => ?_) (fun c9 => ?_)
    · have hw := hw.1 c9
      refine z_ldc hC lk_643 dX6_weigh_21 ?_
      exact z_iret hC hr hlk dX6_weigh_23 ⟨_, rfl, hw⟩
    · have hw := hw.2 c9
      refine z_iload_n hC dX6_weigh_12 rfl rfl ?_
      refine z_if_lt (tgt := 21) hC dX6_weigh_13 (by decide) (fun c13 => ?_) (fun c13 => ?_)
      · have hw := hw.1 c13
        refine z_ldc hC lk_643 dX6_weigh_21 ?_
        exact z_iret hC hr hlk dX6_weigh_23 ⟨_, rfl, hw⟩
      · have hw := hw.2 c13
        refine z_iload_n hC dX6_weigh_16 rfl rfl ?_
        refine z_iconst hC ic_3 dX6_weigh_17 ?_
        refine z_icmp_le (tgt := 24) hC dX6_weigh_18 (by decide) (fun c18 => ?_) (fun c18 => ?_)
        · have hw := hw.1 c18
          refine z_aload_n hC dX6_weigh_24 rfl rfl ?_
          refine z_getP hC FX10 5 lk_360 dX6_weigh_25 (by decide) hw (fun x25 hw => ?_)
          refine z_iload_n hC dX6_weigh_28 rfl rfl ?_
          refine z_iconst hC ic_5 dX6_weigh_29 ?_
          refine z_imul hC dX6_weigh_30 ?_
          refine z_iload_n hC dX6_weigh_31 rfl rfl ?_
          refine z_iadd hC dX6_weigh_32 ?_
          refine z_aldI hC dX6_weigh_33 hw (fun x33 hw => ?_)
          refine z_istore (i := 5) (lv' := [some (.ref v0), some (.ref v1), some (.int v2), some (.int v3), some (.ref v4), some (.int x33), none, none, none, none, none, none]) hC dX6_weigh_34 (by decide) (hok_v rfl rfl) rfl ?_
          refine z_aload_n hC dX6_weigh_36 rfl rfl ?_
          refine z_getP hC FX10 5 lk_360 dX6_weigh_37 (by decide) hw (fun x37 hw => ?_)
          refine z_iload_n hC dX6_weigh_40 rfl rfl ?_
          refine z_iconst hC ic_5 dX6_weigh_41 ?_
          refine z_imul hC dX6_weigh_42 ?_
          refine z_iload_n hC dX6_weigh_43 rfl rfl ?_
          refine z_iadd hC dX6_weigh_44 ?_
          refine z_iconst hC ic_1 dX6_weigh_45 ?_
          refine z_iadd hC dX6_weigh_46 ?_
          refine z_aldI hC dX6_weigh_47 hw (fun x47 hw => ?_)
          refine z_istore (i := 6) (lv' := [some (.ref v0), some (.ref v1), some (.int v2), some (.int v3), some (.ref v4), some (.int x33), some (.int x47), none, none, none, none, none]) hC dX6_weigh_48 (by decide) (hok_v rfl rfl) rfl ?_
          refine z_iconst hC ic_0 dX6_weigh_50 ?_
          refine z_istore (i := 7) (lv' := [some (.ref v0), some (.ref v1), some (.int v2), some (.int v3), some (.ref v4), some (.int x33), some (.int x47), some (.int 0), none, none, none, none]) hC dX6_weigh_51 (by decide) (hok_v rfl rfl) rfl ?_
          refine z_aload_n hC dX6_weigh_53 rfl rfl ?_
          refine z_getP hC FX6 0 lk_404 dX6_weigh_54 (by decide) hw (fun x54 hw => ?_)
          refine z_iconst hC ic_0 dX6_weigh_57 ?_
          refine z_iconst hC ic_1 dX6_weigh_58 ?_
          refine z_astI hC dX6_weigh_59 hw (fun S hw => ?_)
          refine z_iload hC dX6_weigh_60 rfl ?_
          refine z_istore (i := 8) (lv' := [some (.ref v0), some (.ref v1), some (.int v2), some (.int v3), some (.ref v4), some (.int x33), some (.int x47), some (.int 0), some (.int x33), none, none, none]) hC dX6_weigh_62 (by decide) (hok_v rfl rfl) rfl ?_
          refine z_mask (lv' := [some (.ref v0), some (.ref v1), none, none, some (.ref v4), none, some (.int x47), some (.int 0), some (.int x33), none, none, none]) [true, true, false, false, true, false, true, true, true, false, false, false] rfl ?_
          obtain ⟨n64, hw⟩ := hw
          exact t_X6_weigh_b64 hC hr hlk hnm n64 hw
        · have hw := hw.2 c18
          refine z_ldc hC lk_643 dX6_weigh_21 ?_
          exact z_iret hC hr hlk dX6_weigh_23 ⟨_, rfl, hw⟩
end
section
variable {p : Program} {l : Launch} {e : Env} {R : Room} {s : State} {m : MethodId} {args : Array Value} {below : List Frame} {meth : Method} {c : Code} {G : hG} {B mc ms : Nat}
def w_X0_lastTold_b103 (q : Int32 → hS → Prop) (K29 : hS → (Nat) → (Option Nat) → (Int32) → (Int32) → Prop) (S : hS) (v0 : Nat) (v1 : Option Nat) (v2 : Int32) (v4 : Int32) : Prop := ∀ y103 : Int32, y103 = v4 + (-1) → K29 S v0 v1 v2 y103
set_option maxRecDepth 100000 in
set_option maxHeartbeats 4000000 in
theorem t_X0_lastTold_b103 (hC : zC p R s m args c cX0_lastTold 6 RX0 G B mc ms 3 115) (hr : meth.sig.returnType = (Option.some FieldType.int)) (hlk : meth.locks = false) (hnm : meth.name = "lastTold") {q : Int32 → hS → Prop} {K29 : hS → (Nat) → (Option Nat) → (Int32) → (Int32) → Prop} (hK29 : ∀ {S : hS} {v0 : Nat} {v1 : Option Nat} {v2 : Int32} {v4 : Int32}, K29 S v0 v1 v2 v4 → Z p l e R s m args below meth c (MQ below (hQ G B (iP q)) args s mc ms (fun r => B ≤ r)) G B mc ms 6 S 0 0 29 [some (.ref v0), some (va_rf v1), some (.int v2), none, some (.int v4), none] []) {S : hS} {v0 : Nat} {v1 : Option Nat} {v2 : Int32} {v4 : Int32} (hw : w_X0_lastTold_b103 q K29 S v0 v1 v2 v4) : Z p l e R s m args below meth c (MQ below (hQ G B (iP q)) args s mc ms (fun r => B ≤ r)) G B mc ms 6 S 0 0 103 [some (.ref v0), some (va_rf v1), some (.int v2), none, some (.int v4), none] [] := by
  unfold w_X0_lastTold_b103 at hw
  refine z_inc (i := 4) hC ic_m1 dX0_lastTold_103 rfl (by decide) (hok_n rfl) (fun y103 e103 => ?_)
  have hw := hw y103 e103
  refine z_goto (tgt := 29) hC dX0_lastTold_106 (by decide) ?_
  refine z_mask (lv' := [some (.ref v0), some (va_rf v1), some (.int v2), none, some (.int y103), none]) [true, true, true, false, true, false] rfl ?_
  exact hK29 hw
def w_X0_lastTold_b29 (q : Int32 → hS → Prop) : Nat → hS → (Nat) → (Option Nat) → (Int32) → (Int32) → Prop
  | 0, _, _, _, _, _ => False
  | n + 1, S, v0, v1, v2, v4 => (v4 < 0 → tSt [1, 5, 10] v2 (fun x113 => q x113 S)) ∧ (¬ v4 < 0 → dQ v1 (fun o35 => gP S o35 10 3 (fun x35 => aI S x35 v4 (fun x40 => (¬ x40 = v2 → w_X0_lastTold_b103 q (fun S v0 v1 v2 v4 => w_X0_lastTold_b29 q n S v0 v1 v2 v4) S v0 (some o35) v2 v4) ∧ (x40 = v2 → gP S v0 0 0 (fun x46 => gP S v0 0 1 (fun x54 => oK S x46 6 ∧ w_X6_weigh (fun x57 S => (¬ x57 = 1 → w_X0_lastTold_b103 q (fun S v0 v1 v2 v4 => w_X0_lastTold_b29 q n S v0 v1 v2 v4) S v0 (some o35) v2 v4) ∧ (x57 = 1 → gP S v0 0 0 (fun x65 => gP S v0 0 1 (fun x73 => oK S x65 6 ∧ w_X6_weigh (fun x76 S => (x76 = 2000000000 → w_X0_lastTold_b103 q (fun S v0 v1 v2 v4 => w_X0_lastTold_b29 q n S v0 v1 v2 v4) S v0 (some o35) v2 v4) ∧ (¬ x76 = 2000000000 → tSt [20, 999, 99] v2 (fun x95 => q (if 0 < (if x95 < x76 then x95 else x76) then (if x95 < x76 then x95 else x76) else 0) S))) S x65 o35 v4 0 x73)))) S x46 o35 v4 3 x54)))))))
set_option maxRecDepth 100000 in
set_option maxHeartbeats 4000000 in
theorem t_X0_lastTold_b29 (hC : zC p R s m args c cX0_lastTold 6 RX0 G B mc ms 3 115) (hr : meth.sig.returnType = (Option.some FieldType.int)) (hlk : meth.locks = false) (hnm : meth.name = "lastTold") {q : Int32 → hS → Prop} (n : Nat) : ∀ {S : hS} {v0 : Nat} {v1 : Option Nat} {v2 : Int32} {v4 : Int32} (hw : w_X0_lastTold_b29 q n S v0 v1 v2 v4), Z p l e R s m args below meth c (MQ below (hQ G B (iP q)) args s mc ms (fun r => B ≤ r)) G B mc ms 6 S 0 0 29 [some (.ref v0), some (va_rf v1), some (.int v2), none, some (.int v4), none] [] := by
  induction n with
  | zero => intro S v0 v1 v2 v4 hw; exact (by rw [w_X0_lastTold_b29] at hw; exact hw.elim)
  | succ n ih =>
    intro S v0 v1 v2 v4 hw
    rw [w_X0_lastTold_b29] at hw
    refine z_iload hC dX0_lastTold_29 rfl ?_
    refine z_if_lt (tgt := 109) hC dX0_lastTold_31 (by decide) (fun c31 => ?_) (fun c31 => ?_)
    · have hw := hw.1 c31
      refine z_gets hC 0 rfl lk_660 dX0_lastTold_109 ?_
      refine z_iload_n hC dX0_lastTold_112 rfl rfl ?_
      refine z_aldT hC 0 rfl dX0_lastTold_113 hw (fun x113 hw => ?_)
      exact z_iret hC hr hlk dX0_lastTold_114 ⟨_, rfl, hw⟩
    · have hw := hw.2 c31
      refine z_qload_n hC dX0_lastTold_34 rfl rfl ?_
      obtain ⟨o35, e35, hz35⟩ := hw
      subst e35
      have hw := hz35
      refine z_getP hC FX10 3 lk_355 dX0_lastTold_35 (by decide) hw (fun x35 hw => ?_)
      refine z_iload hC dX0_lastTold_38 rfl ?_
      refine z_aldI hC dX0_lastTold_40 hw (fun x40 hw => ?_)
      refine z_iload_n hC dX0_lastTold_41 rfl rfl ?_
      refine z_icmp_ne (tgt := 103) hC dX0_lastTold_42 (by decide) (fun c42 => ?_) (fun c42 => ?_)
      · have hw := hw.1 c42
        refine z_mask (lv' := [some (.ref v0), some (va_rf (some o35)), some (.int v2), none, some (.int v4), none]) [true, true, true, false, true, false] rfl ?_
        exact t_X0_lastTold_b103 hC hr hlk hnm (fun hw => ih hw) hw
      · have hw := hw.2 c42
        refine z_aload_n hC dX0_lastTold_45 rfl rfl ?_
        refine z_getP hC FX0 0 lk_408 dX0_lastTold_46 (by decide) hw (fun x46 hw => ?_)
        refine z_aload_n hC dX0_lastTold_49 rfl rfl ?_
        refine z_iload hC dX0_lastTold_50 rfl ?_
        refine z_iconst hC ic_3 dX0_lastTold_52 ?_
        refine z_aload_n hC dX0_lastTold_53 rfl rfl ?_
        refine z_getP hC FX0 1 lk_409 dX0_lastTold_54 (by decide) hw (fun x54 hw => ?_)
        refine z_callV (ku' := 0) (kv' := 0) (n := 4) (As := [.ref o35, .int v4, .int 3, .ref x54]) (st := []) hC (c_X6_weigh l G B S x46 o35 v4 3 x54 _) hw.2 hw.1 rfl lk_639 lk_640 lk_641 lk_129 lk_642 hd_X6_weigh rfl rfl (Nat.le_of_ble_eq_true rfl) (Nat.le_of_ble_eq_true rfl) rfl (Nat.le_of_ble_eq_true rfl) dX0_lastTold_57 (Nat.le_refl 0) (Nat.le_refl 0) (kI (fun x57 S hw => ?_))
        refine z_iconst hC ic_1 dX0_lastTold_60 ?_
        refine z_icmp_ne (tgt := 103) hC dX0_lastTold_61 (by decide) (fun c61 => ?_) (fun c61 => ?_)
        · have hw := hw.1 c61
          refine z_mask (lv' := [some (.ref v0), some (va_rf (some o35)), some (.int v2), none, some (.int v4), none]) [true, true, true, false, true, false] rfl ?_
          exact t_X0_lastTold_b103 hC hr hlk hnm (fun hw => ih hw) hw
        · have hw := hw.2 c61
          refine z_aload_n hC dX0_lastTold_64 rfl rfl ?_
          refine z_getP hC FX0 0 lk_408 dX0_lastTold_65 (by decide) hw (fun x65 hw => ?_)
          refine z_aload_n hC dX0_lastTold_68 rfl rfl ?_
          refine z_iload hC dX0_lastTold_69 rfl ?_
          refine z_iconst hC ic_0 dX0_lastTold_71 ?_
          refine z_aload_n hC dX0_lastTold_72 rfl rfl ?_
          refine z_getP hC FX0 1 lk_409 dX0_lastTold_73 (by decide) hw (fun x73 hw => ?_)
          refine z_callV (ku' := 0) (kv' := 0) (n := 4) (As := [.ref o35, .int v4, .int 0, .ref x73]) (st := []) hC (c_X6_weigh l G B S x65 o35 v4 0 x73 _) hw.2 hw.1 rfl lk_639 lk_640 lk_641 lk_129 lk_642 hd_X6_weigh rfl rfl (Nat.le_of_ble_eq_true rfl) (Nat.le_of_ble_eq_true rfl) rfl (Nat.le_of_ble_eq_true rfl) dX0_lastTold_76 (Nat.le_refl 0) (Nat.le_refl 0) (kI (fun x76 S hw => ?_))
          refine z_istore (i := 5) (lv' := [some (.ref v0), some (.ref o35), some (.int v2), none, some (.int v4), some (.int x76)]) hC dX0_lastTold_79 (by decide) (hok_v rfl rfl) rfl ?_
          refine z_iload hC dX0_lastTold_81 rfl ?_
          refine z_ldc hC lk_653 dX0_lastTold_83 ?_
          refine z_icmp_eq (tgt := 103) hC dX0_lastTold_85 (by decide) (fun c85 => ?_) (fun c85 => ?_)
          · have hw := hw.1 c85
            refine z_mask (lv' := [some (.ref v0), some (va_rf (some o35)), some (.int v2), none, some (.int v4), none]) [true, true, true, false, true, false] rfl ?_
            exact t_X0_lastTold_b103 hC hr hlk hnm (fun hw => ih hw) hw
          · have hw := hw.2 c85
            refine z_iconst hC ic_0 dX0_lastTold_88 ?_
            refine z_iload hC dX0_lastTold_89 rfl ?_
            refine z_gets hC 1 rfl lk_654 dX0_lastTold_91 ?_
            refine z_iload_n hC dX0_lastTold_94 rfl rfl ?_
            refine z_aldT hC 1 rfl dX0_lastTold_95 hw (fun x95 hw => ?_)
            refine z_mmin hC lk_656 lk_657 lk_134 lk_658 dX0_lastTold_96 (by decide) (Nat.le_of_ble_eq_true rfl) ?_
            refine z_mmax hC lk_659 lk_645 lk_134 lk_646 dX0_lastTold_99 (by decide) (Nat.le_of_ble_eq_true rfl) ?_
            exact z_iret hC hr hlk dX0_lastTold_102 ⟨_, rfl, hw⟩
def w_X0_lastTold_b25 (q : Int32 → hS → Prop) (S : hS) (v0 : Nat) (v1 : Option Nat) (v2 : Int32) (t0 : Int32) : Prop := (∃ n29 : Nat, w_X0_lastTold_b29 q n29 S v0 v1 v2 t0)
set_option maxRecDepth 100000 in
set_option maxHeartbeats 4000000 in
theorem t_X0_lastTold_b25 (hC : zC p R s m args c cX0_lastTold 6 RX0 G B mc ms 3 115) (hr : meth.sig.returnType = (Option.some FieldType.int)) (hlk : meth.locks = false) (hnm : meth.name = "lastTold") {q : Int32 → hS → Prop} {S : hS} {v0 : Nat} {v1 : Option Nat} {v2 : Int32} {t0 : Int32} (hw : w_X0_lastTold_b25 q S v0 v1 v2 t0) : Z p l e R s m args below meth c (MQ below (hQ G B (iP q)) args s mc ms (fun r => B ≤ r)) G B mc ms 6 S 0 0 25 [some (.ref v0), some (va_rf v1), some (.int v2), none, none, none] [.int t0] := by
  unfold w_X0_lastTold_b25 at hw
  refine z_istore_n (i := 3) (lv' := [some (.ref v0), some (va_rf v1), some (.int v2), some (.int t0), none, none]) hC rfl dX0_lastTold_25 (by decide) (hok_v rfl rfl) rfl ?_
  refine z_iload_n hC dX0_lastTold_26 rfl rfl ?_
  refine z_istore (i := 4) (lv' := [some (.ref v0), some (va_rf v1), some (.int v2), some (.int t0), some (.int t0), none]) hC dX0_lastTold_27 (by decide) (hok_v rfl rfl) rfl ?_
  refine z_mask (lv' := [some (.ref v0), some (va_rf v1), some (.int v2), none, some (.int t0), none]) [true, true, true, false, true, false] rfl ?_
  obtain ⟨n29, hw⟩ := hw
  exact t_X0_lastTold_b29 hC hr hlk hnm n29 hw
def w_X0_lastTold (q : Int32 → hS → Prop) (S : hS) (v0 : Nat) (v1 : Option Nat) (v2 : Int32) : Prop := (v2 < 0 → q (-1) S) ∧ (¬ v2 < 0 → (v2 ≤ 2 → (v1 = none → w_X0_lastTold_b25 q S v0 none v2 (-1)) ∧ (∀ b12 : Nat, v1 = some b12 → gI S b12 10 0 (fun x20 => w_X0_lastTold_b25 q S v0 (some b12) v2 (x20 - 1)))) ∧ (¬ v2 ≤ 2 → q (-1) S))
set_option maxRecDepth 100000 in
set_option maxHeartbeats 4000000 in
theorem c_X0_lastTold (l : Launch) (G : hG) (B : Nat) (S : hS) (v0 : Nat) (v1 : Option Nat) (v2 : Int32) (q : Int32 → hS → Prop) : Met l yX0_lastTold (hws yX0_lastTold cX0_lastTold 6 (Option.some FieldType.int)) ({ frames := 3, cells := 0, slots := 0, locals := 115 }) (hPc G B S [.ref v0, va_rf v1, .int v2] (w_X0_lastTold q S v0 v1 v2)) (hQ G B (iP q)) (0) (0) (fun r => B ≤ r) := by
  refine hMet (rm := { frames := 3, cells := 0, slots := 0, locals := 115 }) (lv := [some (.ref v0), some (va_rf v1), some (.int v2), none, none, none]) (own := RX0) (fr := 3) (lo := 115) (by decide) rfl rfl rfl (by cases v1 <;> exact Nat.le_of_ble_eq_true rfl) (by cases v1 <;> rfl) (fun hw p e R s m args below meth c hC hr hlk hnm => ?_)
  unfold w_X0_lastTold at hw
  refine z_iload_n hC dX0_lastTold_0 rfl rfl ?_
  refine z_if_lt (tgt := 9) hC dX0_lastTold_1 (by decide) (fun c1 => ?_) (fun c1 => ?_)
  · have hw := hw.1 c1
    refine z_iconst hC ic_m1 dX0_lastTold_9 ?_
    exact z_iret hC hr hlk dX0_lastTold_10 ⟨_, rfl, hw⟩
  · have hw := hw.2 c1
    refine z_iload_n hC dX0_lastTold_4 rfl rfl ?_
    refine z_iconst hC ic_2 dX0_lastTold_5 ?_
    refine z_icmp_le (tgt := 11) hC dX0_lastTold_6 (by decide) (fun c6 => ?_) (fun c6 => ?_)
    · have hw := hw.1 c6
      refine z_qload_n hC dX0_lastTold_11 rfl rfl ?_
      have hz12 := hw
      cases v1 with
      | none =>
        have hw := hz12.1 rfl
        refine z_ifnonnull (r := none) (tgt := 19) hC dX0_lastTold_12 (by decide) (fun _ h => by cases h) (fun _ => ?_)
        refine z_iconst hC ic_m1 dX0_lastTold_15 ?_
        refine z_goto (tgt := 25) hC dX0_lastTold_16 (by decide) ?_
        refine z_mask (lv' := [some (.ref v0), some (va_rf none), some (.int v2), none, none, none]) [true, true, true, false, false, false] rfl ?_
        exact t_X0_lastTold_b25 hC hr hlk hnm hw
      | some b12 =>
        have hw := hz12.2 b12 rfl
        refine z_ifnonnull (r := some b12) (tgt := 19) hC dX0_lastTold_12 (by decide) (fun _ _ => ?_) (fun h => by cases h)
        refine z_aload_n hC dX0_lastTold_19 rfl rfl ?_
        refine z_getI hC FX10 0 lk_349 dX0_lastTold_20 (by decide) hw (fun x20 hw => ?_)
        refine z_iconst hC ic_1 dX0_lastTold_23 ?_
        refine z_isub hC dX0_lastTold_24 ?_
        refine z_mask (lv' := [some (.ref v0), some (va_rf (some b12)), some (.int v2), none, none, none]) [true, true, true, false, false, false] rfl ?_
        exact t_X0_lastTold_b25 hC hr hlk hnm hw
    · have hw := hw.2 c6
      refine z_iconst hC ic_m1 dX0_lastTold_9 ?_
      exact z_iret hC hr hlk dX0_lastTold_10 ⟨_, rfl, hw⟩
end
section
variable {p : Program} {l : Launch} {e : Env} {R : Room} {s : State} {m : MethodId} {args : Array Value} {below : List Frame} {meth : Method} {c : Code} {G : hG} {B mc ms : Nat}
def w_X0_tiring (q : Int32 → hS → Prop) (S : hS) (v0 : Nat) (v1 : Nat) (v2 : Int32) (v3 : Int32) : Prop := oK S v0 0 ∧ w_X0_setWords (fun S => oK S v1 8 ∧ w_X8_lawInForce (fun x10 S => oK S v0 0 ∧ w_X0_lastTold (fun x14 S => q x14 S) S v0 x10 0) S v1) S v0 v1 v2 v3 (-1)
set_option maxRecDepth 100000 in
set_option maxHeartbeats 4000000 in
theorem c_X0_tiring (l : Launch) (G : hG) (B : Nat) (S : hS) (v0 : Nat) (v1 : Nat) (v2 : Int32) (v3 : Int32) (q : Int32 → hS → Prop) : Met l yX0_tiring (hws yX0_tiring cX0_tiring 4 (Option.some FieldType.int)) ({ frames := 4, cells := 0, slots := 0, locals := 140 }) (hPc G B S [.ref v0, .ref v1, .int v2, .int v3] (w_X0_tiring q S v0 v1 v2 v3)) (hQ G B (iP q)) (0) (0) (fun r => B ≤ r) := by
  refine hMet (rm := { frames := 4, cells := 0, slots := 0, locals := 140 }) (lv := [some (.ref v0), some (.ref v1), some (.int v2), some (.int v3)]) (own := RX0) (fr := 4) (lo := 140) (by decide) rfl rfl rfl (Nat.le_of_ble_eq_true rfl) rfl (fun hw p e R s m args below meth c hC hr hlk hnm => ?_)
  unfold w_X0_tiring at hw
  refine z_aload_n hC dX0_tiring_0 rfl rfl ?_
  refine z_aload_n hC dX0_tiring_1 rfl rfl ?_
  refine z_iload_n hC dX0_tiring_2 rfl rfl ?_
  refine z_iload_n hC dX0_tiring_3 rfl rfl ?_
  refine z_iconst hC ic_m1 dX0_tiring_4 ?_
  refine z_callV (ku' := 0) (kv' := 0) (n := 4) (As := [.ref v1, .int v2, .int v3, .int (-1)]) (st := []) hC (c_X0_setWords l G B S v0 v1 v2 v3 (-1) _) hw.2 hw.1 rfl lk_621 lk_623 lk_2 lk_128 lk_624 hd_X0_setWords rfl rfl (Nat.le_of_ble_eq_true rfl) (Nat.le_of_ble_eq_true rfl) rfl (Nat.le_of_ble_eq_true rfl) dX0_tiring_5 (Nat.le_refl 0) (Nat.le_refl 0) (kV (fun S hw => ?_))
  refine z_aload_n hC dX0_tiring_8 rfl rfl ?_
  refine z_aload_n hC dX0_tiring_9 rfl rfl ?_
  refine z_callV (ku' := 0) (kv' := 0) (n := 0) (As := []) (st := [.ref v0]) hC (c_X8_lawInForce l G B S v1 _) hw.2 hw.1 rfl lk_631 lk_632 lk_633 lk_122 lk_634 hd_X8_lawInForce rfl rfl (Nat.le_of_ble_eq_true rfl) (Nat.le_of_ble_eq_true rfl) rfl (Nat.le_of_ble_eq_true rfl) dX0_tiring_10 (Nat.le_refl 0) (Nat.le_refl 0) (kR (fun x10 S hw => ?_))
  refine z_iconst hC ic_0 dX0_tiring_13 ?_
  refine z_callV (ku' := 0) (kv' := 0) (n := 2) (As := [va_rf x10, .int 0]) (st := []) hC (c_X0_lastTold l G B S v0 x10 0 _) hw.2 hw.1 rfl lk_635 lk_637 lk_3 lk_128 lk_638 hd_X0_lastTold rfl rfl (Nat.le_of_ble_eq_true rfl) (Nat.le_of_ble_eq_true rfl) rfl (Nat.le_of_ble_eq_true rfl) dX0_tiring_14 (Nat.le_refl 0) (Nat.le_refl 0) (kI (fun x14 S hw => ?_))
  exact z_iret hC hr hlk dX0_tiring_17 ⟨_, rfl, hw⟩
end
section
variable {p : Program} {l : Launch} {e : Env} {R : Room} {s : State} {m : MethodId} {args : Array Value} {below : List Frame} {meth : Method} {c : Code} {G : hG} {B mc ms : Nat}
def w_X0_price (q : Int32 → hS → Prop) (S : hS) (v0 : Nat) (v1 : Nat) (v2 : Int32) (v3 : Int32) (v4 : Int32) : Prop := oK S v0 0 ∧ w_X0_setWords (fun S => oK S v1 8 ∧ w_X8_lawInForce (fun x11 S => oK S v0 0 ∧ w_X0_lastTold (fun x15 S => q x15 S) S v0 x11 1) S v1) S v0 v1 v2 v4 v3
set_option maxRecDepth 100000 in
set_option maxHeartbeats 4000000 in
theorem c_X0_price (l : Launch) (G : hG) (B : Nat) (S : hS) (v0 : Nat) (v1 : Nat) (v2 : Int32) (v3 : Int32) (v4 : Int32) (q : Int32 → hS → Prop) : Met l yX0_price (hws yX0_price cX0_price 5 (Option.some FieldType.int)) ({ frames := 4, cells := 0, slots := 0, locals := 140 }) (hPc G B S [.ref v0, .ref v1, .int v2, .int v3, .int v4] (w_X0_price q S v0 v1 v2 v3 v4)) (hQ G B (iP q)) (0) (0) (fun r => B ≤ r) := by
  refine hMet (rm := { frames := 4, cells := 0, slots := 0, locals := 140 }) (lv := [some (.ref v0), some (.ref v1), some (.int v2), some (.int v3), some (.int v4)]) (own := RX0) (fr := 4) (lo := 140) (by decide) rfl rfl rfl (Nat.le_of_ble_eq_true rfl) rfl (fun hw p e R s m args below meth c hC hr hlk hnm => ?_)
  unfold w_X0_price at hw
  refine z_aload_n hC dX0_price_0 rfl rfl ?_
  refine z_aload_n hC dX0_price_1 rfl rfl ?_
  refine z_iload_n hC dX0_price_2 rfl rfl ?_
  refine z_iload hC dX0_price_3 rfl ?_
  refine z_iload_n hC dX0_price_5 rfl rfl ?_
  refine z_callV (ku' := 0) (kv' := 0) (n := 4) (As := [.ref v1, .int v2, .int v4, .int v3]) (st := []) hC (c_X0_setWords l G B S v0 v1 v2 v4 v3 _) hw.2 hw.1 rfl lk_621 lk_623 lk_2 lk_128 lk_624 hd_X0_setWords rfl rfl (Nat.le_of_ble_eq_true rfl) (Nat.le_of_ble_eq_true rfl) rfl (Nat.le_of_ble_eq_true rfl) dX0_price_6 (Nat.le_refl 0) (Nat.le_refl 0) (kV (fun S hw => ?_))
  refine z_aload_n hC dX0_price_9 rfl rfl ?_
  refine z_aload_n hC dX0_price_10 rfl rfl ?_
  refine z_callV (ku' := 0) (kv' := 0) (n := 0) (As := []) (st := [.ref v0]) hC (c_X8_lawInForce l G B S v1 _) hw.2 hw.1 rfl lk_631 lk_632 lk_633 lk_122 lk_634 hd_X8_lawInForce rfl rfl (Nat.le_of_ble_eq_true rfl) (Nat.le_of_ble_eq_true rfl) rfl (Nat.le_of_ble_eq_true rfl) dX0_price_11 (Nat.le_refl 0) (Nat.le_refl 0) (kR (fun x11 S hw => ?_))
  refine z_iconst hC ic_1 dX0_price_14 ?_
  refine z_callV (ku' := 0) (kv' := 0) (n := 2) (As := [va_rf x11, .int 1]) (st := []) hC (c_X0_lastTold l G B S v0 x11 1 _) hw.2 hw.1 rfl lk_635 lk_637 lk_3 lk_128 lk_638 hd_X0_lastTold rfl rfl (Nat.le_of_ble_eq_true rfl) (Nat.le_of_ble_eq_true rfl) rfl (Nat.le_of_ble_eq_true rfl) dX0_price_15 (Nat.le_refl 0) (Nat.le_refl 0) (kI (fun x15 S hw => ?_))
  exact z_iret hC hr hlk dX0_price_18 ⟨_, rfl, hw⟩
end
section
variable {p : Program} {l : Launch} {e : Env} {R : Room} {s : State} {m : MethodId} {args : Array Value} {below : List Frame} {meth : Method} {c : Code} {G : hG} {B mc ms : Nat}
def w_X0_worthIn (q : Int32 → hS → Prop) (S : hS) (v0 : Nat) (v1 : Nat) (v2 : Int32) (v3 : Int32) : Prop := oK S v0 0 ∧ w_X0_setWords (fun S => gP S v0 0 1 (fun x9 => sI S x9 6 v3 (fun S => oK S v1 8 ∧ w_X8_lawInForce (fun x18 S => oK S v0 0 ∧ w_X0_lastTold (fun x22 S => q x22 S) S v0 x18 2) S v1))) S v0 v1 (-1) v2 (-1)
set_option maxRecDepth 100000 in
set_option maxHeartbeats 4000000 in
theorem c_X0_worthIn (l : Launch) (G : hG) (B : Nat) (S : hS) (v0 : Nat) (v1 : Nat) (v2 : Int32) (v3 : Int32) (q : Int32 → hS → Prop) : Met l yX0_worthIn (hws yX0_worthIn cX0_worthIn 4 (Option.some FieldType.int)) ({ frames := 4, cells := 0, slots := 0, locals := 140 }) (hPc G B S [.ref v0, .ref v1, .int v2, .int v3] (w_X0_worthIn q S v0 v1 v2 v3)) (hQ G B (iP q)) (0) (0) (fun r => B ≤ r) := by
  refine hMet (rm := { frames := 4, cells := 0, slots := 0, locals := 140 }) (lv := [some (.ref v0), some (.ref v1), some (.int v2), some (.int v3)]) (own := RX0) (fr := 4) (lo := 140) (by decide) rfl rfl rfl (Nat.le_of_ble_eq_true rfl) rfl (fun hw p e R s m args below meth c hC hr hlk hnm => ?_)
  unfold w_X0_worthIn at hw
  refine z_aload_n hC dX0_worthIn_0 rfl rfl ?_
  refine z_aload_n hC dX0_worthIn_1 rfl rfl ?_
  refine z_iconst hC ic_m1 dX0_worthIn_2 ?_
  refine z_iload_n hC dX0_worthIn_3 rfl rfl ?_
  refine z_iconst hC ic_m1 dX0_worthIn_4 ?_
  refine z_callV (ku' := 0) (kv' := 0) (n := 4) (As := [.ref v1, .int (-1), .int v2, .int (-1)]) (st := []) hC (c_X0_setWords l G B S v0 v1 (-1) v2 (-1) _) hw.2 hw.1 rfl lk_621 lk_623 lk_2 lk_128 lk_624 hd_X0_setWords rfl rfl (Nat.le_of_ble_eq_true rfl) (Nat.le_of_ble_eq_true rfl) rfl (Nat.le_of_ble_eq_true rfl) dX0_worthIn_5 (Nat.le_refl 0) (Nat.le_refl 0) (kV (fun S hw => ?_))
  refine z_aload_n hC dX0_worthIn_8 rfl rfl ?_
  refine z_getP hC FX0 1 lk_409 dX0_worthIn_9 (by decide) hw (fun x9 hw => ?_)
  refine z_bipush hC bi_6 dX0_worthIn_12 ?_
  refine z_iload_n hC dX0_worthIn_14 rfl rfl ?_
  refine z_astI hC dX0_worthIn_15 hw (fun S hw => ?_)
  refine z_aload_n hC dX0_worthIn_16 rfl rfl ?_
  refine z_aload_n hC dX0_worthIn_17 rfl rfl ?_
  refine z_callV (ku' := 0) (kv' := 0) (n := 0) (As := []) (st := [.ref v0]) hC (c_X8_lawInForce l G B S v1 _) hw.2 hw.1 rfl lk_631 lk_632 lk_633 lk_122 lk_634 hd_X8_lawInForce rfl rfl (Nat.le_of_ble_eq_true rfl) (Nat.le_of_ble_eq_true rfl) rfl (Nat.le_of_ble_eq_true rfl) dX0_worthIn_18 (Nat.le_refl 0) (Nat.le_refl 0) (kR (fun x18 S hw => ?_))
  refine z_iconst hC ic_2 dX0_worthIn_21 ?_
  refine z_callV (ku' := 0) (kv' := 0) (n := 2) (As := [va_rf x18, .int 2]) (st := []) hC (c_X0_lastTold l G B S v0 x18 2 _) hw.2 hw.1 rfl lk_635 lk_637 lk_3 lk_128 lk_638 hd_X0_lastTold rfl rfl (Nat.le_of_ble_eq_true rfl) (Nat.le_of_ble_eq_true rfl) rfl (Nat.le_of_ble_eq_true rfl) dX0_worthIn_22 (Nat.le_refl 0) (Nat.le_refl 0) (kI (fun x22 S hw => ?_))
  exact z_iret hC hr hlk dX0_worthIn_25 ⟨_, rfl, hw⟩
end
section
variable {p : Program} {l : Launch} {e : Env} {R : Room} {s : State} {m : MethodId} {args : Array Value} {below : List Frame} {meth : Method} {c : Code} {G : hG} {B mc ms : Nat}
def w_X10_hasKind_b2 (q : Int32 → hS → Prop) : Nat → hS → (Nat) → (Int32) → (Int32) → Prop
  | 0, _, _, _, _ => False
  | n + 1, S, v0, v1, v2 => gI S v0 10 0 (fun x4 => (x4 ≤ v2 → q 0 S) ∧ (¬ x4 ≤ v2 → gP S v0 10 3 (fun x11 => aI S x11 v2 (fun x15 => (¬ x15 = v1 → ∀ y22 : Int32, y22 = v2 + 1 → w_X10_hasKind_b2 q n S v0 v1 y22) ∧ (x15 = v1 → q 1 S)))))
set_option maxRecDepth 100000 in
set_option maxHeartbeats 4000000 in
theorem t_X10_hasKind_b2 (hC : zC p R s m args c cX10_hasKind 3 RX10 G B mc ms 1 60) (hr : meth.sig.returnType = (Option.some FieldType.boolean)) (hlk : meth.locks = false) (hnm : meth.name = "hasKind") {q : Int32 → hS → Prop} (n : Nat) : ∀ {S : hS} {v0 : Nat} {v1 : Int32} {v2 : Int32} (hw : w_X10_hasKind_b2 q n S v0 v1 v2), Z p l e R s m args below meth c (MQ below (hQ G B (iP q)) args s mc ms (fun r => B ≤ r)) G B mc ms 3 S 0 0 2 [some (.ref v0), some (.int v1), some (.int v2)] [] := by
  induction n with
  | zero => intro S v0 v1 v2 hw; exact (by rw [w_X10_hasKind_b2] at hw; exact hw.elim)
  | succ n ih =>
    intro S v0 v1 v2 hw
    rw [w_X10_hasKind_b2] at hw
    refine z_iload_n hC dX10_hasKind_2 rfl rfl ?_
    refine z_aload_n hC dX10_hasKind_3 rfl rfl ?_
    refine z_getI hC FX10 0 lk_347 dX10_hasKind_4 (by decide) hw (fun x4 hw => ?_)
    refine z_icmp_ge (tgt := 28) hC dX10_hasKind_7 (by decide) (fun c7 => ?_) (fun c7 => ?_)
    · have hw := hw.1 c7
      refine z_iconst hC ic_0 dX10_hasKind_28 ?_
      exact z_zret hC hr hlk (hz01 (Or.inl rfl)).1 dX10_hasKind_29 ⟨_, rfl, hw⟩
    · have hw := hw.2 c7
      refine z_aload_n hC dX10_hasKind_10 rfl rfl ?_
      refine z_getP hC FX10 3 lk_354 dX10_hasKind_11 (by decide) hw (fun x11 hw => ?_)
      refine z_iload_n hC dX10_hasKind_14 rfl rfl ?_
      refine z_aldI hC dX10_hasKind_15 hw (fun x15 hw => ?_)
      refine z_iload_n hC dX10_hasKind_16 rfl rfl ?_
      refine z_icmp_ne (tgt := 22) hC dX10_hasKind_17 (by decide) (fun c17 => ?_) (fun c17 => ?_)
      · have hw := hw.1 c17
        refine z_inc (i := 2) hC ic_1 dX10_hasKind_22 rfl (by decide) (hok_v rfl rfl) (fun y22 e22 => ?_)
        have hw := hw y22 e22
        refine z_goto (tgt := 2) hC dX10_hasKind_25 (by decide) ?_
        refine z_mask (lv' := [some (.ref v0), some (.int v1), some (.int y22)]) [true, true, true] rfl ?_
        exact ih hw
      · have hw := hw.2 c17
        refine z_iconst hC ic_1 dX10_hasKind_20 ?_
        exact z_zret hC hr hlk (hz01 (Or.inr rfl)).1 dX10_hasKind_21 ⟨_, rfl, hw⟩
def w_X10_hasKind (q : Int32 → hS → Prop) (S : hS) (v0 : Nat) (v1 : Int32) : Prop := (∃ n2 : Nat, w_X10_hasKind_b2 q n2 S v0 v1 0)
set_option maxRecDepth 100000 in
set_option maxHeartbeats 4000000 in
theorem c_X10_hasKind (l : Launch) (G : hG) (B : Nat) (S : hS) (v0 : Nat) (v1 : Int32) (q : Int32 → hS → Prop) : Met l yX10_hasKind (hws yX10_hasKind cX10_hasKind 3 (Option.some FieldType.boolean)) ({ frames := 1, cells := 0, slots := 0, locals := 60 }) (hPc G B S [.ref v0, .int v1] (w_X10_hasKind q S v0 v1)) (hQ G B (iP q)) (0) (0) (fun r => B ≤ r) := by
  refine hMet (rm := { frames := 1, cells := 0, slots := 0, locals := 60 }) (lv := [some (.ref v0), some (.int v1), none]) (own := RX10) (fr := 1) (lo := 60) (by decide) rfl rfl rfl (Nat.le_of_ble_eq_true rfl) rfl (fun hw p e R s m args below meth c hC hr hlk hnm => ?_)
  unfold w_X10_hasKind at hw
  refine z_iconst hC ic_0 dX10_hasKind_0 ?_
  refine z_istore_n (i := 2) (lv' := [some (.ref v0), some (.int v1), some (.int 0)]) hC rfl dX10_hasKind_1 (by decide) (hok_v rfl rfl) rfl ?_
  refine z_mask (lv' := [some (.ref v0), some (.int v1), some (.int 0)]) [true, true, true] rfl ?_
  obtain ⟨n2, hw⟩ := hw
  exact t_X10_hasKind_b2 hC hr hlk hnm n2 hw
end
