section
variable {p : Program} {l : Launch} {e : Env} {R : Room} {s : State} {m : MethodId} {args : Array Value} {below : List Frame} {meth : Method} {c : Code} {G : hG} {B mc ms : Nat}
def w_X0_someHolds_b54 (q : Int32 → hS → Prop) (K16 : hS → (Nat) → (Option Nat) → (Int32) → (Int32) → (Int32) → Prop) (S : hS) (v0 : Nat) (v1 : Option Nat) (v2 : Int32) (v3 : Int32) (v4 : Int32) : Prop := ∀ y54 : Int32, y54 = v4 + 1 → K16 S v0 v1 v2 v3 y54
set_option maxRecDepth 100000 in
set_option maxHeartbeats 4000000 in
theorem t_X0_someHolds_b54 (hC : zC p R s m args c cX0_someHolds 5 RX0 G B mc ms 3 115) (hr : meth.sig.returnType = (Option.some FieldType.boolean)) (hlk : meth.locks = false) (hnm : meth.name = "someHolds") {q : Int32 → hS → Prop} {K16 : hS → (Nat) → (Option Nat) → (Int32) → (Int32) → (Int32) → Prop} (hK16 : ∀ {S : hS} {v0 : Nat} {v1 : Option Nat} {v2 : Int32} {v3 : Int32} {v4 : Int32}, K16 S v0 v1 v2 v3 v4 → Z p l e R s m args below meth c (MQ below (hQ G B (iP q)) args s mc ms (fun r => B ≤ r)) G B mc ms 5 S 0 0 16 [some (.ref v0), some (va_rf v1), some (.int v2), some (.int v3), some (.int v4)] []) {S : hS} {v0 : Nat} {v1 : Option Nat} {v2 : Int32} {v3 : Int32} {v4 : Int32} (hw : w_X0_someHolds_b54 q K16 S v0 v1 v2 v3 v4) : Z p l e R s m args below meth c (MQ below (hQ G B (iP q)) args s mc ms (fun r => B ≤ r)) G B mc ms 5 S 0 0 54 [some (.ref v0), some (va_rf v1), some (.int v2), some (.int v3), some (.int v4)] [] := by
  unfold w_X0_someHolds_b54 at hw
  refine z_inc (i := 4) hC ic_1 dX0_someHolds_54 rfl (by decide) (hok_v rfl rfl) (fun y54 e54 => ?_)
  have hw := hw y54 e54
  refine z_goto (tgt := 16) hC dX0_someHolds_57 (by decide) ?_
  refine z_mask (lv' := [some (.ref v0), some (va_rf v1), some (.int v2), some (.int v3), some (.int y54)]) [true, true, true, true, true] rfl ?_
  exact hK16 hw
def w_X0_someHolds_b16 (q : Int32 → hS → Prop) : Nat → hS → (Nat) → (Option Nat) → (Int32) → (Int32) → (Int32) → Prop
  | 0, _, _, _, _, _, _ => False
  | n + 1, S, v0, v1, v2, v3, v4 => (v3 ≤ v4 → q 0 S) ∧ (¬ v3 ≤ v4 → dQ v1 (fun o23 => gP S o23 10 3 (fun x23 => aI S x23 v4 (fun x28 => (¬ x28 = v2 → w_X0_someHolds_b54 q (fun S v0 v1 v2 v3 v4 => w_X0_someHolds_b16 q n S v0 v1 v2 v3 v4) S v0 (some o23) v2 v3 v4) ∧ (x28 = v2 → gP S v0 0 0 (fun x34 => gP S v0 0 1 (fun x42 => oK S x34 6 ∧ w_X6_weigh (fun x45 S => (¬ x45 = 1 → w_X0_someHolds_b54 q (fun S v0 v1 v2 v3 v4 => w_X0_someHolds_b16 q n S v0 v1 v2 v3 v4) S v0 (some o23) v2 v3 v4) ∧ (x45 = 1 → q 1 S)) S x34 o23 v4 3 x42)))))))
set_option maxRecDepth 100000 in
set_option maxHeartbeats 4000000 in
theorem t_X0_someHolds_b16 (hC : zC p R s m args c cX0_someHolds 5 RX0 G B mc ms 3 115) (hr : meth.sig.returnType = (Option.some FieldType.boolean)) (hlk : meth.locks = false) (hnm : meth.name = "someHolds") {q : Int32 → hS → Prop} (n : Nat) : ∀ {S : hS} {v0 : Nat} {v1 : Option Nat} {v2 : Int32} {v3 : Int32} {v4 : Int32} (hw : w_X0_someHolds_b16 q n S v0 v1 v2 v3 v4), Z p l e R s m args below meth c (MQ below (hQ G B (iP q)) args s mc ms (fun r => B ≤ r)) G B mc ms 5 S 0 0 16 [some (.ref v0), some (va_rf v1), some (.int v2), some (.int v3), some (.int v4)] [] := by
  induction n with
  | zero => intro S v0 v1 v2 v3 v4 hw; exact (by rw [w_X0_someHolds_b16] at hw; exact hw.elim)
  | succ n ih =>
    intro S v0 v1 v2 v3 v4 hw
    rw [w_X0_someHolds_b16] at hw
    refine z_iload hC dX0_someHolds_16 rfl ?_
    refine z_iload_n hC dX0_someHolds_18 rfl rfl ?_
    refine z_icmp_ge (tgt := 60) hC dX0_someHolds_19 (by decide) (fun c19 => ?_) (fun c19 => ?_)
    · have hw := hw.1 c19
      refine z_iconst hC ic_0 dX0_someHolds_60 ?_
      exact z_zret hC hr hlk (hz01 (Or.inl rfl)).1 dX0_someHolds_61 ⟨_, rfl, hw⟩
    · have hw := hw.2 c19
      refine z_qload_n hC dX0_someHolds_22 rfl rfl ?_
      obtain ⟨o23, e23, hz23⟩ := hw
      subst e23
      have hw := hz23
      refine z_getP hC FX10 3 lk_355 dX0_someHolds_23 (by decide) hw (fun x23 hw => ?_)
      refine z_iload hC dX0_someHolds_26 rfl ?_
      refine z_aldI hC dX0_someHolds_28 hw (fun x28 hw => ?_)
      refine z_iload_n hC dX0_someHolds_29 rfl rfl ?_
      refine z_icmp_ne (tgt := 54) hC dX0_someHolds_30 (by decide) (fun c30 => ?_) (fun c30 => ?_)
      · have hw := hw.1 c30
        refine z_mask (lv' := [some (.ref v0), some (va_rf (some o23)), some (.int v2), some (.int v3), some (.int v4)]) [true, true, true, true, true] rfl ?_
        exact t_X0_someHolds_b54 hC hr hlk hnm (fun hw => ih hw) hw
      · have hw := hw.2 c30
        refine z_aload_n hC dX0_someHolds_33 rfl rfl ?_
        refine z_getP hC FX0 0 lk_408 dX0_someHolds_34 (by decide) hw (fun x34 hw => ?_)
        refine z_aload_n hC dX0_someHolds_37 rfl rfl ?_
        refine z_iload hC dX0_someHolds_38 rfl ?_
        refine z_iconst hC ic_3 dX0_someHolds_40 ?_
        refine z_aload_n hC dX0_someHolds_41 rfl rfl ?_
        refine z_getP hC FX0 1 lk_409 dX0_someHolds_42 (by decide) hw (fun x42 hw => ?_)
        refine z_callV (ku' := 0) (kv' := 0) (n := 4) (As := [.ref o23, .int v4, .int 3, .ref x42]) (st := []) hC (c_X6_weigh l G B S x34 o23 v4 3 x42 _) hw.2 hw.1 rfl lk_639 lk_640 lk_641 lk_129 lk_642 hd_X6_weigh rfl rfl (Nat.le_of_ble_eq_true rfl) (Nat.le_of_ble_eq_true rfl) rfl (Nat.le_of_ble_eq_true rfl) dX0_someHolds_45 (Nat.le_refl 0) (Nat.le_refl 0) (kI (fun x45 S hw => ?_))
        refine z_iconst hC ic_1 dX0_someHolds_48 ?_
        refine z_icmp_ne (tgt := 54) hC dX0_someHolds_49 (by decide) (fun c49 => ?_) (fun c49 => ?_)
        · have hw := hw.1 c49
          refine z_mask (lv' := [some (.ref v0), some (va_rf (some o23)), some (.int v2), some (.int v3), some (.int v4)]) [true, true, true, true, true] rfl ?_
          exact t_X0_someHolds_b54 hC hr hlk hnm (fun hw => ih hw) hw
        · have hw := hw.2 c49
          refine z_iconst hC ic_1 dX0_someHolds_52 ?_
          exact z_zret hC hr hlk (hz01 (Or.inr rfl)).1 dX0_someHolds_53 ⟨_, rfl, hw⟩
def w_X0_someHolds_b12 (q : Int32 → hS → Prop) (S : hS) (v0 : Nat) (v1 : Option Nat) (v2 : Int32) (t0 : Int32) : Prop := (∃ n16 : Nat, w_X0_someHolds_b16 q n16 S v0 v1 v2 t0 0)
set_option maxRecDepth 100000 in
set_option maxHeartbeats 4000000 in
theorem t_X0_someHolds_b12 (hC : zC p R s m args c cX0_someHolds 5 RX0 G B mc ms 3 115) (hr : meth.sig.returnType = (Option.some FieldType.boolean)) (hlk : meth.locks = false) (hnm : meth.name = "someHolds") {q : Int32 → hS → Prop} {S : hS} {v0 : Nat} {v1 : Option Nat} {v2 : Int32} {t0 : Int32} (hw : w_X0_someHolds_b12 q S v0 v1 v2 t0) : Z p l e R s m args below meth c (MQ below (hQ G B (iP q)) args s mc ms (fun r => B ≤ r)) G B mc ms 5 S 0 0 12 [some (.ref v0), some (va_rf v1), some (.int v2), none, none] [.int t0] := by
  unfold w_X0_someHolds_b12 at hw
  refine z_istore_n (i := 3) (lv' := [some (.ref v0), some (va_rf v1), some (.int v2), some (.int t0), none]) hC rfl dX0_someHolds_12 (by decide) (hok_v rfl rfl) rfl ?_
  refine z_iconst hC ic_0 dX0_someHolds_13 ?_
  refine z_istore (i := 4) (lv' := [some (.ref v0), some (va_rf v1), some (.int v2), some (.int t0), some (.int 0)]) hC dX0_someHolds_14 (by decide) (hok_v rfl rfl) rfl ?_
  refine z_mask (lv' := [some (.ref v0), some (va_rf v1), some (.int v2), some (.int t0), some (.int 0)]) [true, true, true, true, true] rfl ?_
  obtain ⟨n16, hw⟩ := hw
  exact t_X0_someHolds_b16 hC hr hlk hnm n16 hw
def w_X0_someHolds (q : Int32 → hS → Prop) (S : hS) (v0 : Nat) (v1 : Option Nat) (v2 : Int32) : Prop := (v1 = none → w_X0_someHolds_b12 q S v0 none v2 0) ∧ (∀ b1 : Nat, v1 = some b1 → gI S b1 10 0 (fun x9 => w_X0_someHolds_b12 q S v0 (some b1) v2 x9))
set_option maxRecDepth 100000 in
set_option maxHeartbeats 4000000 in
theorem c_X0_someHolds (l : Launch) (G : hG) (B : Nat) (S : hS) (v0 : Nat) (v1 : Option Nat) (v2 : Int32) (q : Int32 → hS → Prop) : Met l yX0_someHolds (hws yX0_someHolds cX0_someHolds 5 (Option.some FieldType.boolean)) ({ frames := 3, cells := 0, slots := 0, locals := 115 }) (hPc G B S [.ref v0, va_rf v1, .int v2] (w_X0_someHolds q S v0 v1 v2)) (hQ G B (iP q)) (0) (0) (fun r => B ≤ r) := by
  refine hMet (rm := { frames := 3, cells := 0, slots := 0, locals := 115 }) (lv := [some (.ref v0), some (va_rf v1), some (.int v2), none, none]) (own := RX0) (fr := 3) (lo := 115) (by decide) rfl rfl rfl (by cases v1 <;> exact Nat.le_of_ble_eq_true rfl) (by cases v1 <;> rfl) (fun hw p e R s m args below meth c hC hr hlk hnm => ?_)
  unfold w_X0_someHolds at hw
  refine z_qload_n hC dX0_someHolds_0 rfl rfl ?_
  have hz1 := hw
  cases v1 with
  | none =>
    have hw := hz1.1 rfl
    refine z_ifnonnull (r := none) (tgt := 8) hC dX0_someHolds_1 (by decide) (fun _ h => by cases h) (fun _ => ?_)
    refine z_iconst hC ic_0 dX0_someHolds_4 ?_
    refine z_goto (tgt := 12) hC dX0_someHolds_5 (by decide) ?_
    refine z_mask (lv' := [some (.ref v0), some (va_rf none), some (.int v2), none, none]) [true, true, true, false, false] rfl ?_
    exact t_X0_someHolds_b12 hC hr hlk hnm hw
  | some b1 =>
    have hw := hz1.2 b1 rfl
    refine z_ifnonnull (r := some b1) (tgt := 8) hC dX0_someHolds_1 (by decide) (fun _ _ => ?_) (fun h => by cases h)
    refine z_aload_n hC dX0_someHolds_8 rfl rfl ?_
    refine z_getI hC FX10 0 lk_349 dX0_someHolds_9 (by decide) hw (fun x9 hw => ?_)
    refine z_mask (lv' := [some (.ref v0), some (va_rf (some b1)), some (.int v2), none, none]) [true, true, true, false, false] rfl ?_
    exact t_X0_someHolds_b12 hC hr hlk hnm hw
end
section
variable {p : Program} {l : Launch} {e : Env} {R : Room} {s : State} {m : MethodId} {args : Array Value} {below : List Frame} {meth : Method} {c : Code} {G : hG} {B mc ms : Nat}
def w_X0_opensTo_b20 (q : Int32 → hS → Prop) (S : hS) (v1 : Nat) (v3 : Int32) : Prop := oK S v1 8 ∧ w_X8_hasHouse (fun x22 S => (x22 = 0 → q 0 S) ∧ (¬ x22 = 0 → gP S v1 8 0 (fun x29 => gP S x29 2 2 (fun x32 => aI S x32 v3 (fun x36 => (10 ≤ x36 → q 0 S) ∧ (¬ 10 ≤ x36 → q 1 S)))))) S v1 v3
set_option maxRecDepth 100000 in
set_option maxHeartbeats 4000000 in
theorem t_X0_opensTo_b20 (hC : zC p R s m args c cX0_opensTo 5 RX0 G B mc ms 4 139) (hr : meth.sig.returnType = (Option.some FieldType.boolean)) (hlk : meth.locks = false) (hnm : meth.name = "opensTo") {q : Int32 → hS → Prop} {S : hS} {v1 : Nat} {v3 : Int32} (hw : w_X0_opensTo_b20 q S v1 v3) : Z p l e R s m args below meth c (MQ below (hQ G B (iP q)) args s mc ms (fun r => B ≤ r)) G B mc ms 5 S 0 0 20 [none, some (.ref v1), none, some (.int v3), none] [] := by
  unfold w_X0_opensTo_b20 at hw
  refine z_aload_n hC dX0_opensTo_20 rfl rfl ?_
  refine z_iload_n hC dX0_opensTo_21 rfl rfl ?_
  refine z_callV (ku' := 0) (kv' := 0) (n := 1) (As := [.int v3]) (st := []) hC (c_X8_hasHouse l G B S v1 v3 _) hw.2 hw.1 rfl lk_626 lk_601 lk_602 lk_122 lk_603 hd_X8_hasHouse rfl rfl (Nat.le_of_ble_eq_true rfl) (Nat.le_of_ble_eq_true rfl) rfl (Nat.le_of_ble_eq_true rfl) dX0_opensTo_22 (Nat.le_refl 0) (Nat.le_refl 0) (kI (fun x22 S hw => ?_))
  refine z_if_eq (tgt := 46) hC dX0_opensTo_25 (by decide) (fun c25 => ?_) (fun c25 => ?_)
  · have hw := hw.1 c25
    refine z_iconst hC ic_0 dX0_opensTo_46 ?_
    exact z_zret hC hr hlk (hz01 (Or.inl rfl)).1 dX0_opensTo_47 ⟨_, rfl, hw⟩
  · have hw := hw.2 c25
    refine z_aload_n hC dX0_opensTo_28 rfl rfl ?_
    refine z_getP hC FX8 0 lk_204 dX0_opensTo_29 (by decide) hw (fun x29 hw => ?_)
    refine z_getP hC FX2 2 lk_172 dX0_opensTo_32 (by decide) hw (fun x32 hw => ?_)
    refine z_iload_n hC dX0_opensTo_35 rfl rfl ?_
    refine z_aldI hC dX0_opensTo_36 hw (fun x36 hw => ?_)
    refine z_bipush hC bi_10 dX0_opensTo_37 ?_
    refine z_icmp_ge (tgt := 46) hC dX0_opensTo_39 (by decide) (fun c39 => ?_) (fun c39 => ?_)
    · have hw := hw.1 c39
      refine z_iconst hC ic_0 dX0_opensTo_46 ?_
      exact z_zret hC hr hlk (hz01 (Or.inl rfl)).1 dX0_opensTo_47 ⟨_, rfl, hw⟩
    · have hw := hw.2 c39
      refine z_iconst hC ic_1 dX0_opensTo_42 ?_
      refine z_goto (tgt := 47) hC dX0_opensTo_43 (by decide) ?_
      exact z_zret hC hr hlk (hz01 (Or.inr rfl)).1 dX0_opensTo_47 ⟨_, rfl, hw⟩
def w_X0_opensTo (q : Int32 → hS → Prop) (S : hS) (v0 : Nat) (v1 : Nat) (v2 : Int32) (v3 : Int32) : Prop := oK S v1 8 ∧ w_X8_lawInForce (fun x1 S => (x1 = none → w_X0_opensTo_b20 q S v1 v3) ∧ (∀ b8 : Nat, x1 = some b8 → oK S b8 10 ∧ w_X10_hasKind (fun x14 S => (¬ x14 = 0 → oK S v0 0 ∧ w_X0_setWords (fun S => oK S v0 0 ∧ w_X0_someHolds (fun x60 S => (x60 = 0 ∨ x60 = 1) ∧ q x60 S) S v0 (some b8) 3) S v0 v1 v2 v3 (-1)) ∧ (x14 = 0 → w_X0_opensTo_b20 q S v1 v3)) S b8 3)) S v1
set_option maxRecDepth 100000 in
set_option maxHeartbeats 4000000 in
theorem c_X0_opensTo (l : Launch) (G : hG) (B : Nat) (S : hS) (v0 : Nat) (v1 : Nat) (v2 : Int32) (v3 : Int32) (q : Int32 → hS → Prop) : Met l yX0_opensTo (hws yX0_opensTo cX0_opensTo 5 (Option.some FieldType.boolean)) ({ frames := 4, cells := 0, slots := 0, locals := 139 }) (hPc G B S [.ref v0, .ref v1, .int v2, .int v3] (w_X0_opensTo q S v0 v1 v2 v3)) (hQ G B (iP q)) (0) (0) (fun r => B ≤ r) := by
  refine hMet (rm := { frames := 4, cells := 0, slots := 0, locals := 139 }) (lv := [some (.ref v0), some (.ref v1), some (.int v2), some (.int v3), none]) (own := RX0) (fr := 4) (lo := 139) (by decide) rfl rfl rfl (Nat.le_of_ble_eq_true rfl) rfl (fun hw p e R s m args below meth c hC hr hlk hnm => ?_)
  unfold w_X0_opensTo at hw
  refine z_aload_n hC dX0_opensTo_0 rfl rfl ?_
  refine z_callV (ku' := 0) (kv' := 0) (n := 0) (As := []) (st := []) hC (c_X8_lawInForce l G B S v1 _) hw.2 hw.1 rfl lk_631 lk_632 lk_633 lk_122 lk_634 hd_X8_lawInForce rfl rfl (Nat.le_of_ble_eq_true rfl) (Nat.le_of_ble_eq_true rfl) rfl (Nat.le_of_ble_eq_true rfl) dX0_opensTo_1 (Nat.le_refl 0) (Nat.le_refl 0) (kR (fun x1 S hw => ?_))
  refine z_qstore (i := 4) (lv' := [some (.ref v0), some (.ref v1), some (.int v2), some (.int v3), some (va_rf x1)]) hC dX0_opensTo_4 (by decide) (hok_v rfl rfl) rfl ?_
  refine z_qload hC dX0_opensTo_6 rfl ?_
  have hz8 := hw
  cases x1 with
  | none =>
    have hw := hz8.1 rfl
    refine z_ifnull (r := none) (tgt := 20) hC dX0_opensTo_8 (by decide) (fun _ => ?_) (fun _ h => by cases h)
    refine z_mask (lv' := [none, some (.ref v1), none, some (.int v3), none]) [false, true, false, true, false] rfl ?_
    exact t_X0_opensTo_b20 hC hr hlk hnm hw
  | some b8 =>
    have hw := hz8.2 b8 rfl
    refine z_ifnull (r := some b8) (tgt := 20) hC dX0_opensTo_8 (by decide) (fun h => by cases h) (fun _ _ => ?_)
    refine z_aload hC dX0_opensTo_11 rfl ?_
    refine z_iconst hC ic_3 dX0_opensTo_13 ?_
    refine z_callV (ku' := 0) (kv' := 0) (n := 1) (As := [.int 3]) (st := []) hC (c_X10_hasKind l G B S b8 3 _) hw.2 hw.1 rfl lk_710 lk_711 lk_712 lk_127 lk_713 hd_X10_hasKind rfl rfl (Nat.le_of_ble_eq_true rfl) (Nat.le_of_ble_eq_true rfl) rfl (Nat.le_of_ble_eq_true rfl) dX0_opensTo_14 (Nat.le_refl 0) (Nat.le_refl 0) (kI (fun x14 S hw => ?_))
    refine z_if_ne (tgt := 48) hC dX0_opensTo_17 (by decide) (fun c17 => ?_) (fun c17 => ?_)
    · have hw := hw.1 c17
      refine z_aload_n hC dX0_opensTo_48 rfl rfl ?_
      refine z_aload_n hC dX0_opensTo_49 rfl rfl ?_
      refine z_iload_n hC dX0_opensTo_50 rfl rfl ?_
      refine z_iload_n hC dX0_opensTo_51 rfl rfl ?_
      refine z_iconst hC ic_m1 dX0_opensTo_52 ?_
      refine z_callV (ku' := 0) (kv' := 0) (n := 4) (As := [.ref v1, .int v2, .int v3, .int (-1)]) (st := []) hC (c_X0_setWords l G B S v0 v1 v2 v3 (-1) _) hw.2 hw.1 rfl lk_621 lk_623 lk_2 lk_128 lk_624 hd_X0_setWords rfl rfl (Nat.le_of_ble_eq_true rfl) (Nat.le_of_ble_eq_true rfl) rfl (Nat.le_of_ble_eq_true rfl) dX0_opensTo_53 (Nat.le_refl 0) (Nat.le_refl 0) (kV (fun S hw => ?_))
      refine z_aload_n hC dX0_opensTo_56 rfl rfl ?_
      refine z_aload hC dX0_opensTo_57 rfl ?_
      refine z_iconst hC ic_3 dX0_opensTo_59 ?_
      refine z_callV (ku' := 0) (kv' := 0) (n := 2) (As := [va_rf (some b8), .int 3]) (st := []) hC (c_X0_someHolds l G B S v0 (some b8) 3 _) hw.2 hw.1 rfl lk_714 lk_716 lk_4 lk_128 lk_717 hd_X0_someHolds rfl rfl (Nat.le_of_ble_eq_true rfl) (Nat.le_of_ble_eq_true rfl) rfl (Nat.le_of_ble_eq_true rfl) dX0_opensTo_60 (Nat.le_refl 0) (Nat.le_refl 0) (kI (fun x60 S hw => ?_))
      exact z_zret hC hr hlk (hz01 hw.1).1 dX0_opensTo_63 ⟨_, rfl, hw.2⟩
    · have hw := hw.2 c17
      refine z_mask (lv' := [none, some (.ref v1), none, some (.int v3), none]) [false, true, false, true, false] rfl ?_
      exact t_X0_opensTo_b20 hC hr hlk hnm hw
end
section
variable {p : Program} {l : Launch} {e : Env} {R : Room} {s : State} {m : MethodId} {args : Array Value} {below : List Frame} {meth : Method} {c : Code} {G : hG} {B mc ms : Nat}
def w_X0_isBarred (q : Int32 → hS → Prop) (S : hS) (v0 : Nat) (v1 : Nat) (v2 : Int32) (v3 : Int32) (v4 : Int32) : Prop := oK S v0 0 ∧ w_X0_setWords (fun S => oK S v1 8 ∧ w_X8_lawInForce (fun x11 S => oK S v0 0 ∧ w_X0_someHolds (fun x15 S => (x15 = 0 ∨ x15 = 1) ∧ q x15 S) S v0 x11 4) S v1) S v0 v1 v2 v4 v3
set_option maxRecDepth 100000 in
set_option maxHeartbeats 4000000 in
theorem c_X0_isBarred (l : Launch) (G : hG) (B : Nat) (S : hS) (v0 : Nat) (v1 : Nat) (v2 : Int32) (v3 : Int32) (v4 : Int32) (q : Int32 → hS → Prop) : Met l yX0_isBarred (hws yX0_isBarred cX0_isBarred 5 (Option.some FieldType.boolean)) ({ frames := 4, cells := 0, slots := 0, locals := 139 }) (hPc G B S [.ref v0, .ref v1, .int v2, .int v3, .int v4] (w_X0_isBarred q S v0 v1 v2 v3 v4)) (hQ G B (iP q)) (0) (0) (fun r => B ≤ r) := by
  refine hMet (rm := { frames := 4, cells := 0, slots := 0, locals := 139 }) (lv := [some (.ref v0), some (.ref v1), some (.int v2), some (.int v3), some (.int v4)]) (own := RX0) (fr := 4) (lo := 139) (by decide) rfl rfl rfl (Nat.le_of_ble_eq_true rfl) rfl (fun hw p e R s m args below meth c hC hr hlk hnm => ?_)
  unfold w_X0_isBarred at hw
  refine z_aload_n hC dX0_isBarred_0 rfl rfl ?_
  refine z_aload_n hC dX0_isBarred_1 rfl rfl ?_
  refine z_iload_n hC dX0_isBarred_2 rfl rfl ?_
  refine z_iload hC dX0_isBarred_3 rfl ?_
  refine z_iload_n hC dX0_isBarred_5 rfl rfl ?_
  refine z_callV (ku' := 0) (kv' := 0) (n := 4) (As := [.ref v1, .int v2, .int v4, .int v3]) (st := []) hC (c_X0_setWords l G B S v0 v1 v2 v4 v3 _) hw.2 hw.1 rfl lk_621 lk_623 lk_2 lk_128 lk_624 hd_X0_setWords rfl rfl (Nat.le_of_ble_eq_true rfl) (Nat.le_of_ble_eq_true rfl) rfl (Nat.le_of_ble_eq_true rfl) dX0_isBarred_6 (Nat.le_refl 0) (Nat.le_refl 0) (kV (fun S hw => ?_))
  refine z_aload_n hC dX0_isBarred_9 rfl rfl ?_
  refine z_aload_n hC dX0_isBarred_10 rfl rfl ?_
  refine z_callV (ku' := 0) (kv' := 0) (n := 0) (As := []) (st := [.ref v0]) hC (c_X8_lawInForce l G B S v1 _) hw.2 hw.1 rfl lk_631 lk_632 lk_633 lk_122 lk_634 hd_X8_lawInForce rfl rfl (Nat.le_of_ble_eq_true rfl) (Nat.le_of_ble_eq_true rfl) rfl (Nat.le_of_ble_eq_true rfl) dX0_isBarred_11 (Nat.le_refl 0) (Nat.le_refl 0) (kR (fun x11 S hw => ?_))
  refine z_iconst hC ic_4 dX0_isBarred_14 ?_
  refine z_callV (ku' := 0) (kv' := 0) (n := 2) (As := [va_rf x11, .int 4]) (st := []) hC (c_X0_someHolds l G B S v0 x11 4 _) hw.2 hw.1 rfl lk_714 lk_716 lk_4 lk_128 lk_717 hd_X0_someHolds rfl rfl (Nat.le_of_ble_eq_true rfl) (Nat.le_of_ble_eq_true rfl) rfl (Nat.le_of_ble_eq_true rfl) dX0_isBarred_15 (Nat.le_refl 0) (Nat.le_refl 0) (kI (fun x15 S hw => ?_))
  exact z_zret hC hr hlk (hz01 hw.1).1 dX0_isBarred_18 ⟨_, rfl, hw.2⟩
end
section
variable {p : Program} {l : Launch} {e : Env} {R : Room} {s : State} {m : MethodId} {args : Array Value} {below : List Frame} {meth : Method} {c : Code} {G : hG} {B mc ms : Nat}
def w_X1_init (q : hS → Prop) (S : hS) (v0 : Nat) (v1 : Nat) : Prop := nO S 6 FX6_0 (fun S o5 => w_X6_init (fun S => pP S v0 1 1 o5 (fun S => mkI S 26 26 (fun S o18 => pP S v0 1 2 o18 (fun S => pI S v0 1 3 (-1) (fun S => pI S v0 1 4 0 (fun S => pI S v0 1 5 0 (fun S => pP S v0 1 0 v1 (fun S => q S)))))))) S o5)
set_option maxRecDepth 100000 in
set_option maxHeartbeats 4000000 in
theorem c_X1_init (l : Launch) (G : hG) (B : Nat) (S : hS) (v0 : Nat) (v1 : Nat) (q : hS → Prop) : Met l yX1_init (hws yX1_init cX1_init 2 (Option.none : Option FieldType)) ({ frames := 2, cells := 3, slots := 79, locals := 80 }) (hPc G B S [.ref v0, .ref v1] (w_X1_init q S v0 v1)) (hQ G B (vP q)) (3) (79) (fun r => B ≤ r) := by
  refine hMet (rm := { frames := 2, cells := 3, slots := 79, locals := 80 }) (lv := [some (.ref v0), some (.ref v1)]) (own := RX1) (fr := 2) (lo := 80) (by decide) rfl rfl rfl (Nat.le_of_ble_eq_true rfl) rfl (fun hw p e R s m args below meth c hC hr hlk hnm => ?_)
  unfold w_X1_init at hw
  refine z_less (ku' := 3) (kv' := 79) (Nat.le_refl _) (Nat.le_refl _) ?_
  refine z_aload_n hC dX1_init_0 rfl rfl ?_
  refine z_obj hC lk_420 lk_147 lk_148 dX1_init_1 (by decide) (Nat.le_of_ble_eq_true rfl) ?_
  refine z_aload_n hC dX1_init_4 rfl rfl ?_
  refine z_nO (ku' := 2) (kv' := 78) hC FX6 lk_421 lk_399 lk_129 FX6_d dX1_init_5 (by decide) (by decide) hw (fun S o5 hw => ?_)
  refine z_dup hC rfl dX1_init_8 ?_
  refine z_callIN (ku' := 1) (kv' := 26) (n := 0) (As := []) (st := [.ref o5, .ref v0]) (host := "BellHeirs") hC rfl (c_X6_init l G B S o5 _) hw (by decide +kernel) lk_401 lk_129 lk_402 rfl hd_X6_init.2 rfl rfl (Nat.le_of_ble_eq_true rfl) (Nat.le_of_ble_eq_true rfl) rfl (Nat.le_of_ble_eq_true rfl) dX1_init_9 (by decide) (by decide) (kV (fun S hw => ?_))
  refine z_putPF hC FX1 1 lk_424 dX1_init_12 (by decide) rfl hnm rfl rfl rfl hw (fun S hw => ?_)
  refine z_aload_n hC dX1_init_15 rfl rfl ?_
  refine z_bipush hC bi_26 dX1_init_16 ?_
  refine z_mkI (cap := 26) (ku' := 0) (kv' := 0) hC lk_198 dX1_init_18 (by decide) (by decide) (by decide) hw (fun S o18 hw => ?_)
  refine z_putPF hC FX1 2 lk_425 dX1_init_20 (by decide) rfl hnm rfl rfl rfl hw (fun S hw => ?_)
  refine z_aload_n hC dX1_init_23 rfl rfl ?_
  refine z_iconst hC ic_m1 dX1_init_24 ?_
  refine z_putI hC FX1 3 lk_426 dX1_init_25 (by decide) rfl rfl hw (fun S hw => ?_)
  refine z_aload_n hC dX1_init_28 rfl rfl ?_
  refine z_iconst hC ic_0 dX1_init_29 ?_
  refine z_putI hC FX1 4 lk_427 dX1_init_30 (by decide) rfl rfl hw (fun S hw => ?_)
  refine z_aload_n hC dX1_init_33 rfl rfl ?_
  refine z_iconst hC ic_0 dX1_init_34 ?_
  refine z_putI hC FX1 5 lk_428 dX1_init_35 (by decide) rfl rfl hw (fun S hw => ?_)
  refine z_aload_n hC dX1_init_38 rfl rfl ?_
  refine z_aload_n hC dX1_init_39 rfl rfl ?_
  refine z_putPF hC FX1 0 lk_423 dX1_init_40 (by decide) rfl hnm rfl rfl rfl hw (fun S hw => ?_)
  exact z_vret hC hr hlk dX1_init_43 ⟨rfl, hw⟩
end
section
variable {p : Program} {l : Launch} {e : Env} {R : Room} {s : State} {m : MethodId} {args : Array Value} {below : List Frame} {meth : Method} {c : Code} {G : hG} {B mc ms : Nat}
def w_X11_hasBit (q : Int32 → hS → Prop) (S : hS) (v0 : Int32) (v1 : Int32) : Prop := (v1 < 0 → q 0 S) ∧ (¬ v1 < 0 → (31 ≤ v1 → q 0 S) ∧ (¬ 31 ≤ v1 → (¬ ((v0 >>> (v1 &&& 31)) &&& 1) = 1 → q 0 S) ∧ (((v0 >>> (v1 &&& 31)) &&& 1) = 1 → q 1 S)))
set_option maxRecDepth 100000 in
set_option maxHeartbeats 4000000 in
theorem c_X11_hasBit (l : Launch) (G : hG) (B : Nat) (S : hS) (v0 : Int32) (v1 : Int32) (q : Int32 → hS → Prop) : Met l yX11_hasBit (hws yX11_hasBit cX11_hasBit 2 (Option.some FieldType.boolean)) ({ frames := 1, cells := 0, slots := 0, locals := 60 }) (hPc G B S [.int v0, .int v1] (w_X11_hasBit q S v0 v1)) (hQ G B (iP q)) (0) (0) (fun r => B ≤ r) := by
  refine hMet (rm := { frames := 1, cells := 0, slots := 0, locals := 60 }) (lv := [some (.int v0), some (.int v1)]) (own := RX11) (fr := 1) (lo := 60) (by decide) rfl rfl rfl (Nat.le_of_ble_eq_true rfl) rfl (fun hw p e R s m args below meth c hC hr hlk hnm => ?_)
  unfold w_X11_hasBit at hw
  refine z_iload_n hC dX11_hasBit_0 rfl rfl ?_
  refine z_if_lt (tgt := 23) hC dX11_hasBit_1 (by decide) (fun c1 => ?_) (fun c1 => ?_)
  · have hw := hw.1 c1
    refine z_iconst hC ic_0 dX11_hasBit_23 ?_
    exact z_zret hC hr hlk (hz01 (Or.inl rfl)).1 dX11_hasBit_24 ⟨_, rfl, hw⟩
  · have hw := hw.2 c1
    refine z_iload_n hC dX11_hasBit_4 rfl rfl ?_
    refine z_bipush hC bi_31 dX11_hasBit_5 ?_
    refine z_icmp_ge (tgt := 23) hC dX11_hasBit_7 (by decide) (fun c7 => ?_) (fun c7 => ?_)
    · have hw := hw.1 c7
      refine z_iconst hC ic_0 dX11_hasBit_23 ?_
      exact z_zret hC hr hlk (hz01 (Or.inl rfl)).1 dX11_hasBit_24 ⟨_, rfl, hw⟩
    · have hw := hw.2 c7
      refine z_iload_n hC dX11_hasBit_10 rfl rfl ?_
      refine z_iload_n hC dX11_hasBit_11 rfl rfl ?_
      refine z_ishr hC dX11_hasBit_12 ?_
      refine z_iconst hC ic_1 dX11_hasBit_13 ?_
      refine z_iand hC dX11_hasBit_14 ?_
      refine z_iconst hC ic_1 dX11_hasBit_15 ?_
      refine z_icmp_ne (tgt := 23) hC dX11_hasBit_16 (by decide) (fun c16 => ?_) (fun c16 => ?_)
      · have hw := hw.1 c16
        refine z_iconst hC ic_0 dX11_hasBit_23 ?_
        exact z_zret hC hr hlk (hz01 (Or.inl rfl)).1 dX11_hasBit_24 ⟨_, rfl, hw⟩
      · have hw := hw.2 c16
        refine z_iconst hC ic_1 dX11_hasBit_19 ?_
        refine z_goto (tgt := 24) hC dX11_hasBit_20 (by decide) ?_
        exact z_zret hC hr hlk (hz01 (Or.inr rfl)).1 dX11_hasBit_24 ⟨_, rfl, hw⟩
end
section
variable {p : Program} {l : Launch} {e : Env} {R : Room} {s : State} {m : MethodId} {args : Array Value} {below : List Frame} {meth : Method} {c : Code} {G : hG} {B mc ms : Nat}
def w_X8_lives (q : Int32 → hS → Prop) (S : hS) (v0 : Nat) (v1 : Int32) : Prop := oK S v0 8 ∧ w_X8_hasPerson (fun x2 S => (x2 = 0 → q 0 S) ∧ (¬ x2 = 0 → gP S v0 8 0 (fun x9 => gI S x9 2 4 (fun x12 => w_X11_hasBit (fun x16 S => (¬ x16 = 0 → q 0 S) ∧ (x16 = 0 → q 1 S)) S x12 v1)))) S v0 v1
set_option maxRecDepth 100000 in
set_option maxHeartbeats 4000000 in
theorem c_X8_lives (l : Launch) (G : hG) (B : Nat) (S : hS) (v0 : Nat) (v1 : Int32) (q : Int32 → hS → Prop) : Met l yX8_lives (hws yX8_lives cX8_lives 2 (Option.some FieldType.boolean)) ({ frames := 2, cells := 0, slots := 0, locals := 81 }) (hPc G B S [.ref v0, .int v1] (w_X8_lives q S v0 v1)) (hQ G B (iP q)) (0) (0) (fun r => B ≤ r) := by
  refine hMet (rm := { frames := 2, cells := 0, slots := 0, locals := 81 }) (lv := [some (.ref v0), some (.int v1)]) (own := RX8) (fr := 2) (lo := 81) (by decide) rfl rfl rfl (Nat.le_of_ble_eq_true rfl) rfl (fun hw p e R s m args below meth c hC hr hlk hnm => ?_)
  unfold w_X8_lives at hw
  refine z_aload_n hC dX8_lives_0 rfl rfl ?_
  refine z_iload_n hC dX8_lives_1 rfl rfl ?_
  refine z_callV (ku' := 0) (kv' := 0) (n := 1) (As := [.int v1]) (st := []) hC (c_X8_hasPerson l G B S v0 v1 _) hw.2 hw.1 rfl lk_612 lk_613 lk_614 lk_122 lk_615 hd_X8_hasPerson rfl rfl (Nat.le_of_ble_eq_true rfl) (Nat.le_of_ble_eq_true rfl) rfl (Nat.le_of_ble_eq_true rfl) dX8_lives_2 (Nat.le_refl 0) (Nat.le_refl 0) (kI (fun x2 S hw => ?_))
  refine z_if_eq (tgt := 26) hC dX8_lives_5 (by decide) (fun c5 => ?_) (fun c5 => ?_)
  · have hw := hw.1 c5
    refine z_iconst hC ic_0 dX8_lives_26 ?_
    exact z_zret hC hr hlk (hz01 (Or.inl rfl)).1 dX8_lives_27 ⟨_, rfl, hw⟩
  · have hw := hw.2 c5
    refine z_aload_n hC dX8_lives_8 rfl rfl ?_
    refine z_getP hC FX8 0 lk_201 dX8_lives_9 (by decide) hw (fun x9 hw => ?_)
    refine z_getI hC FX2 4 lk_179 dX8_lives_12 (by decide) hw (fun x12 hw => ?_)
    refine z_iload_n hC dX8_lives_15 rfl rfl ?_
    refine z_callSN (ku' := 0) (kv' := 0) (n := 2) (As := [.int x12, .int v1]) (st := []) (host := "BellHeirs") hC (c_X11_hasBit l G B S x12 v1 _) hw (by decide +kernel) lk_680 lk_121 lk_681 hd_X11_hasBit.2 rfl rfl (Nat.le_of_ble_eq_true rfl) (Nat.le_of_ble_eq_true rfl) rfl (Nat.le_of_ble_eq_true rfl) dX8_lives_16 (Nat.le_refl 0) (Nat.le_refl 0) (kI (fun x16 S hw => ?_))
    refine z_if_ne (tgt := 26) hC dX8_lives_19 (by decide) (fun c19 => ?_) (fun c19 => ?_)
    · have hw := hw.1 c19
      refine z_iconst hC ic_0 dX8_lives_26 ?_
      exact z_zret hC hr hlk (hz01 (Or.inl rfl)).1 dX8_lives_27 ⟨_, rfl, hw⟩
    · have hw := hw.2 c19
      refine z_iconst hC ic_1 dX8_lives_22 ?_
      refine z_goto (tgt := 27) hC dX8_lives_23 (by decide) ?_
      exact z_zret hC hr hlk (hz01 (Or.inr rfl)).1 dX8_lives_27 ⟨_, rfl, hw⟩
end
section
variable {p : Program} {l : Launch} {e : Env} {R : Room} {s : State} {m : MethodId} {args : Array Value} {below : List Frame} {meth : Method} {c : Code} {G : hG} {B mc ms : Nat}
def w_X2_init (q : hS → Prop) (S : hS) (v0 : Nat) : Prop := mkI S 48 48 (fun S o7 => pP S v0 2 0 o7 (fun S => mkI S 48 48 (fun S o15 => pP S v0 2 1 o15 (fun S => mkI S 6 6 (fun S o23 => pP S v0 2 2 o23 (fun S => mkI S 8 8 (fun S o31 => pP S v0 2 3 o31 (fun S => pI S v0 2 4 0 (fun S => pI S v0 2 5 0 (fun S => q S))))))))))
set_option maxRecDepth 100000 in
set_option maxHeartbeats 4000000 in
theorem c_X2_init (l : Launch) (G : hG) (B : Nat) (S : hS) (v0 : Nat) (q : hS → Prop) : Met l yX2_init (hws yX2_init cX2_init 1 (Option.none : Option FieldType)) ({ frames := 1, cells := 4, slots := 110, locals := 60 }) (hPc G B S [.ref v0] (w_X2_init q S v0)) (hQ G B (vP q)) (4) (110) (fun r => B ≤ r) := by
  refine hMet (rm := { frames := 1, cells := 4, slots := 110, locals := 60 }) (lv := [some (.ref v0)]) (own := RX2) (fr := 1) (lo := 60) (by decide) rfl rfl rfl (Nat.le_of_ble_eq_true rfl) rfl (fun hw p e R s m args below meth c hC hr hlk hnm => ?_)
  unfold w_X2_init at hw
  refine z_less (ku' := 4) (kv' := 110) (Nat.le_refl _) (Nat.le_refl _) ?_
  refine z_aload_n hC dX2_init_0 rfl rfl ?_
  refine z_obj hC lk_160 lk_147 lk_148 dX2_init_1 (by decide) (Nat.le_of_ble_eq_true rfl) ?_
  refine z_aload_n hC dX2_init_4 rfl rfl ?_
  refine z_bipush hC bi_48 dX2_init_5 ?_
  refine z_mkI (cap := 48) (ku' := 3) (kv' := 62) hC lk_198 dX2_init_7 (by decide) (by decide) (by decide) hw (fun S o7 hw => ?_)
  refine z_putPF hC FX2 0 lk_161 dX2_init_9 (by decide) rfl hnm rfl rfl rfl hw (fun S hw => ?_)
  refine z_aload_n hC dX2_init_12 rfl rfl ?_
  refine z_bipush hC bi_48 dX2_init_13 ?_
  refine z_mkI (cap := 48) (ku' := 2) (kv' := 14) hC lk_198 dX2_init_15 (by decide) (by decide) (by decide) hw (fun S o15 hw => ?_)
  refine z_putPF hC FX2 1 lk_165 dX2_init_17 (by decide) rfl hnm rfl rfl rfl hw (fun S hw => ?_)
  refine z_aload_n hC dX2_init_20 rfl rfl ?_
  refine z_bipush hC bi_6 dX2_init_21 ?_
  refine z_mkI (cap := 6) (ku' := 1) (kv' := 8) hC lk_198 dX2_init_23 (by decide) (by decide) (by decide) hw (fun S o23 hw => ?_)
  refine z_putPF hC FX2 2 lk_168 dX2_init_25 (by decide) rfl hnm rfl rfl rfl hw (fun S hw => ?_)
  refine z_aload_n hC dX2_init_28 rfl rfl ?_
  refine z_bipush hC bi_8 dX2_init_29 ?_
  refine z_mkI (cap := 8) (ku' := 0) (kv' := 0) hC lk_198 dX2_init_31 (by decide) (by decide) (by decide) hw (fun S o31 hw => ?_)
  refine z_putPF hC FX2 3 lk_173 dX2_init_33 (by decide) rfl hnm rfl rfl rfl hw (fun S hw => ?_)
  refine z_aload_n hC dX2_init_36 rfl rfl ?_
  refine z_iconst hC ic_0 dX2_init_37 ?_
  refine z_putI hC FX2 4 lk_178 dX2_init_38 (by decide) rfl rfl hw (fun S hw => ?_)
  refine z_aload_n hC dX2_init_41 rfl rfl ?_
  refine z_iconst hC ic_0 dX2_init_42 ?_
  refine z_putI hC FX2 5 lk_181 dX2_init_43 (by decide) rfl rfl hw (fun S hw => ?_)
  exact z_vret hC hr hlk dX2_init_46 ⟨rfl, hw⟩
end
section
variable {p : Program} {l : Launch} {e : Env} {R : Room} {s : State} {m : MethodId} {args : Array Value} {below : List Frame} {meth : Method} {c : Code} {G : hG} {B mc ms : Nat}
def w_X2_copyFrom (q : hS → Prop) (S : hS) (v0 : Nat) (v1 : Nat) : Prop := gP S v1 2 0 (fun x1 => gP S v0 2 0 (fun x6 => gP S v0 2 0 (fun x11 => aN S x11 (fun x14 => cI S x1 0 x6 0 x14 (fun S => gP S v1 2 1 (fun x19 => gP S v0 2 1 (fun x24 => gP S v0 2 1 (fun x29 => aN S x29 (fun x32 => cI S x19 0 x24 0 x32 (fun S => gP S v1 2 2 (fun x37 => gP S v0 2 2 (fun x42 => gP S v0 2 2 (fun x47 => aN S x47 (fun x50 => cI S x37 0 x42 0 x50 (fun S => gP S v1 2 3 (fun x55 => gP S v0 2 3 (fun x60 => gP S v0 2 3 (fun x65 => aN S x65 (fun x68 => cI S x55 0 x60 0 x68 (fun S => gI S v1 2 4 (fun x74 => pI S v0 2 4 x74 (fun S => gI S v1 2 5 (fun x82 => pI S v0 2 5 x82 (fun S => q S))))))))))))))))))))))))
set_option maxRecDepth 100000 in
set_option maxHeartbeats 4000000 in
theorem c_X2_copyFrom (l : Launch) (G : hG) (B : Nat) (S : hS) (v0 : Nat) (v1 : Nat) (q : hS → Prop) : Met l yX2_copyFrom (hws yX2_copyFrom cX2_copyFrom 2 (Option.none : Option FieldType)) ({ frames := 1, cells := 0, slots := 0, locals := 60 }) (hPc G B S [.ref v0, .ref v1] (w_X2_copyFrom q S v0 v1)) (hQ G B (vP q)) (0) (0) (fun r => B ≤ r) := by
  refine hMet (rm := { frames := 1, cells := 0, slots := 0, locals := 60 }) (lv := [some (.ref v0), some (.ref v1)]) (own := RX2) (fr := 1) (lo := 60) (by decide) rfl rfl rfl (Nat.le_of_ble_eq_true rfl) rfl (fun hw p e R s m args below meth c hC hr hlk hnm => ?_)
  unfold w_X2_copyFrom at hw
  refine z_aload_n hC dX2_copyFrom_0 rfl rfl ?_
  refine z_getP hC FX2 0 lk_161 dX2_copyFrom_1 (by decide) hw (fun x1 hw => ?_)
  refine z_iconst hC ic_0 dX2_copyFrom_4 ?_
  refine z_aload_n hC dX2_copyFrom_5 rfl rfl ?_
  refine z_getP hC FX2 0 lk_161 dX2_copyFrom_6 (by decide) hw (fun x6 hw => ?_)
  refine z_iconst hC ic_0 dX2_copyFrom_9 ?_
  refine z_aload_n hC dX2_copyFrom_10 rfl rfl ?_
  refine z_getP hC FX2 0 lk_161 dX2_copyFrom_11 (by decide) hw (fun x11 hw => ?_)
  refine z_alen hC dX2_copyFrom_14 hw (fun x14 hw => ?_)
  refine z_copyI hC lk_1020 lk_1002 lk_1001 lk_139 dX2_copyFrom_15 (by decide) (Nat.le_of_ble_eq_true rfl) hw (fun S hw => ?_)
  refine z_aload_n hC dX2_copyFrom_18 rfl rfl ?_
  refine z_getP hC FX2 1 lk_165 dX2_copyFrom_19 (by decide) hw (fun x19 hw => ?_)
  refine z_iconst hC ic_0 dX2_copyFrom_22 ?_
  refine z_aload_n hC dX2_copyFrom_23 rfl rfl ?_
  refine z_getP hC FX2 1 lk_165 dX2_copyFrom_24 (by decide) hw (fun x24 hw => ?_)
  refine z_iconst hC ic_0 dX2_copyFrom_27 ?_
  refine z_aload_n hC dX2_copyFrom_28 rfl rfl ?_
  refine z_getP hC FX2 1 lk_165 dX2_copyFrom_29 (by decide) hw (fun x29 hw => ?_)
  refine z_alen hC dX2_copyFrom_32 hw (fun x32 hw => ?_)
  refine z_copyI hC lk_1020 lk_1002 lk_1001 lk_139 dX2_copyFrom_33 (by decide) (Nat.le_of_ble_eq_true rfl) hw (fun S hw => ?_)
  refine z_aload_n hC dX2_copyFrom_36 rfl rfl ?_
  refine z_getP hC FX2 2 lk_168 dX2_copyFrom_37 (by decide) hw (fun x37 hw => ?_)
  refine z_iconst hC ic_0 dX2_copyFrom_40 ?_
  refine z_aload_n hC dX2_copyFrom_41 rfl rfl ?_
  refine z_getP hC FX2 2 lk_168 dX2_copyFrom_42 (by decide) hw (fun x42 hw => ?_)
  refine z_iconst hC ic_0 dX2_copyFrom_45 ?_
  refine z_aload_n hC dX2_copyFrom_46 rfl rfl ?_
  refine z_getP hC FX2 2 lk_168 dX2_copyFrom_47 (by decide) hw (fun x47 hw => ?_)
  refine z_alen hC dX2_copyFrom_50 hw (fun x50 hw => ?_)
  refine z_copyI hC lk_1020 lk_1002 lk_1001 lk_139 dX2_copyFrom_51 (by decide) (Nat.le_of_ble_eq_true rfl) hw (fun S hw => ?_)
  refine z_aload_n hC dX2_copyFrom_54 rfl rfl ?_
  refine z_getP hC FX2 3 lk_173 dX2_copyFrom_55 (by decide) hw (fun x55 hw => ?_)
  refine z_iconst hC ic_0 dX2_copyFrom_58 ?_
  refine z_aload_n hC dX2_copyFrom_59 rfl rfl ?_
  refine z_getP hC FX2 3 lk_173 dX2_copyFrom_60 (by decide) hw (fun x60 hw => ?_)
  refine z_iconst hC ic_0 dX2_copyFrom_63 ?_
  refine z_aload_n hC dX2_copyFrom_64 rfl rfl ?_
  refine z_getP hC FX2 3 lk_173 dX2_copyFrom_65 (by decide) hw (fun x65 hw => ?_)
  refine z_alen hC dX2_copyFrom_68 hw (fun x68 hw => ?_)
  refine z_copyI hC lk_1020 lk_1002 lk_1001 lk_139 dX2_copyFrom_69 (by decide) (Nat.le_of_ble_eq_true rfl) hw (fun S hw => ?_)
  refine z_aload_n hC dX2_copyFrom_72 rfl rfl ?_
  refine z_aload_n hC dX2_copyFrom_73 rfl rfl ?_
  refine z_getI hC FX2 4 lk_178 dX2_copyFrom_74 (by decide) hw (fun x74 hw => ?_)
  refine z_putI hC FX2 4 lk_178 dX2_copyFrom_77 (by decide) rfl rfl hw (fun S hw => ?_)
  refine z_aload_n hC dX2_copyFrom_80 rfl rfl ?_
  refine z_aload_n hC dX2_copyFrom_81 rfl rfl ?_
  refine z_getI hC FX2 5 lk_181 dX2_copyFrom_82 (by decide) hw (fun x82 hw => ?_)
  refine z_putI hC FX2 5 lk_181 dX2_copyFrom_85 (by decide) rfl rfl hw (fun S hw => ?_)
  exact z_vret hC hr hlk dX2_copyFrom_88 ⟨rfl, hw⟩
end
section
variable {p : Program} {l : Launch} {e : Env} {R : Room} {s : State} {m : MethodId} {args : Array Value} {below : List Frame} {meth : Method} {c : Code} {G : hG} {B mc ms : Nat}
def w_X3_push_b28 (q : hS → Prop) (S : hS) (u : Nat) (v0 : Nat) (v1 : Int32) (v2 : Nat) : Prop := gP S v0 3 0 (fun x29 => gI S v0 3 2 (fun x33 => aR S 3 x29 x33 (fun x36 => dQ x36 (fun o38 => oK S o38 2 ∧ w_X2_copyFrom (fun S => gP S v0 3 1 (fun x42 => gI S v0 3 2 (fun x46 => sI S x42 x46 v1 (fun S => gI S v0 3 2 (fun x53 => pI S v0 3 2 ((x53 + 1) - (x53 + 1) / 16 * 16) (fun S => gI S v0 3 3 (fun x66 => pI S v0 3 3 (if 16 < (x66 + 1) then 16 else (x66 + 1)) (fun S => q S)))))))) S o38 v2))))
set_option maxRecDepth 100000 in
set_option maxHeartbeats 4000000 in
theorem t_X3_push_b28 (hC : zC p R s m args c cX3_push 3 RX3 G B mc ms 2 81) (hr : meth.sig.returnType = (Option.none : Option FieldType)) (hlk : meth.locks = false) (hnm : meth.name = "push") {q : hS → Prop} {S : hS} {u : Nat} {v0 : Nat} {v1 : Int32} {v2 : Nat} (hw : w_X3_push_b28 q S u v0 v1 v2) : Z p l e R s m args below meth c (MQ below (hQ G B (vP q)) args s mc ms (fun r => B ≤ r)) G B mc ms 3 S (5 * u) (116 * u) 28 [some (.ref v0), some (.int v1), some (.ref v2)] [] := by
  unfold w_X3_push_b28 at hw
  refine z_aload_n hC dX3_push_28 rfl rfl ?_
  refine z_getP hC FX3 0 lk_291 dX3_push_29 (by decide) hw (fun x29 hw => ?_)
  refine z_aload_n hC dX3_push_32 rfl rfl ?_
  refine z_getI hC FX3 2 lk_293 dX3_push_33 (by decide) hw (fun x33 hw => ?_)
  refine z_aldR (kd := 3) hC dX3_push_36 hw rfl (fun x36 hw => ?_)
  refine z_aload_n hC dX3_push_37 rfl rfl ?_
  obtain ⟨o38, e38, hz38⟩ := hw
  subst e38
  have hw := hz38
  refine z_callV (ku' := (5 * u)) (kv' := (116 * u)) (n := 1) (As := [.ref v2]) (st := []) hC (c_X2_copyFrom l G B S o38 v2 _) hw.2 hw.1 rfl lk_1057 lk_1017 lk_1018 lk_123 lk_1019 hd_X2_copyFrom rfl rfl (Nat.le_of_ble_eq_true rfl) (Nat.le_of_ble_eq_true rfl) rfl (Nat.le_of_ble_eq_true rfl) dX3_push_38 (Nat.le_refl _) (Nat.le_refl _) (kV (fun S hw => ?_))
  refine z_aload_n hC dX3_push_41 rfl rfl ?_
  refine z_getP hC FX3 1 lk_292 dX3_push_42 (by decide) hw (fun x42 hw => ?_)
  refine z_aload_n hC dX3_push_45 rfl rfl ?_
  refine z_getI hC FX3 2 lk_293 dX3_push_46 (by decide) hw (fun x46 hw => ?_)
  refine z_iload_n hC dX3_push_49 rfl rfl ?_
  refine z_astI hC dX3_push_50 hw (fun S hw => ?_)
  refine z_aload_n hC dX3_push_51 rfl rfl ?_
  refine z_aload_n hC dX3_push_52 rfl rfl ?_
  refine z_getI hC FX3 2 lk_293 dX3_push_53 (by decide) hw (fun x53 hw => ?_)
  refine z_iconst hC ic_1 dX3_push_56 ?_
  refine z_iadd hC dX3_push_57 ?_
  refine z_bipush hC bi_16 dX3_push_58 ?_
  refine z_irem hC (by decide) dX3_push_60 ?_
  refine z_putI hC FX3 2 lk_293 dX3_push_61 (by decide) rfl rfl hw (fun S hw => ?_)
  refine z_aload_n hC dX3_push_64 rfl rfl ?_
  refine z_aload_n hC dX3_push_65 rfl rfl ?_
  refine z_getI hC FX3 3 lk_294 dX3_push_66 (by decide) hw (fun x66 hw => ?_)
  refine z_iconst hC ic_1 dX3_push_69 ?_
  refine z_iadd hC dX3_push_70 ?_
  refine z_bipush hC bi_16 dX3_push_71 ?_
  refine z_mmin hC lk_1058 lk_657 lk_134 lk_658 dX3_push_73 (by decide) (Nat.le_of_ble_eq_true rfl) ?_
  refine z_putI hC FX3 3 lk_294 dX3_push_76 (by decide) rfl rfl hw (fun S hw => ?_)
  exact z_vret hC hr hlk dX3_push_79 ⟨rfl, hw⟩
def w_X3_push (q : hS → Prop) (S : hS) (u : Nat) (v0 : Nat) (v1 : Int32) (v2 : Nat) : Prop := gP S v0 3 0 (fun x1 => gI S v0 3 2 (fun x5 => aR S 3 x1 x5 (fun x8 => (x8 = none → gP S v0 3 0 (fun x13 => gI S v0 3 2 (fun x17 => ∃ u20 : Nat, u = u20 + 1 ∧ nO S 2 FX2_0 (fun S o20 => w_X2_init (fun S => stR S 3 x13 x17 (some o20) 2 (fun S => w_X3_push_b28 q S u20 v0 v1 v2)) S o20)))) ∧ (∀ b9 : Nat, x8 = some b9 → w_X3_push_b28 q S u v0 v1 v2))))
set_option maxRecDepth 100000 in
set_option maxHeartbeats 4000000 in
theorem c_X3_push (l : Launch) (G : hG) (B : Nat) (S : hS) (u : Nat) (v0 : Nat) (v1 : Int32) (v2 : Nat) (q : hS → Prop) : Met l yX3_push (hws yX3_push cX3_push 3 (Option.none : Option FieldType)) ({ frames := 2, cells := 5 * u, slots := 116 * u, locals := 81 }) (hPc G B S [.ref v0, .int v1, .ref v2] (w_X3_push q S u v0 v1 v2)) (hQ G B (vP q)) (5 * u) (116 * u) (fun r => B ≤ r) := by
  refine hMet (rm := { frames := 2, cells := 5 * u, slots := 116 * u, locals := 81 }) (lv := [some (.ref v0), some (.int v1), some (.ref v2)]) (own := RX3) (fr := 2) (lo := 81) (by decide) rfl rfl rfl (Nat.le_of_ble_eq_true rfl) rfl (fun hw p e R s m args below meth c hC hr hlk hnm => ?_)
  unfold w_X3_push at hw
  refine z_less (ku' := 5 * u) (kv' := 116 * u) (Nat.le_refl _) (Nat.le_refl _) ?_
  refine z_aload_n hC dX3_push_0 rfl rfl ?_
  refine z_getP hC FX3 0 lk_291 dX3_push_1 (by decide) hw (fun x1 hw => ?_)
  refine z_aload_n hC dX3_push_4 rfl rfl ?_
  refine z_getI hC FX3 2 lk_293 dX3_push_5 (by decide) hw (fun x5 hw => ?_)
  refine z_aldR (kd := 3) hC dX3_push_8 hw rfl (fun x8 hw => ?_)
  have hz9 := hw
  cases x8 with
  | none =>
    have hw := hz9.1 rfl
    refine z_ifnonnull (r := none) (tgt := 28) hC dX3_push_9 (by decide) (fun _ h => by cases h) (fun _ => ?_)
    refine z_aload_n hC dX3_push_12 rfl rfl ?_
    refine z_getP hC FX3 0 lk_291 dX3_push_13 (by decide) hw (fun x13 hw => ?_)
    refine z_aload_n hC dX3_push_16 rfl rfl ?_
    refine z_getI hC FX3 2 lk_293 dX3_push_17 (by decide) hw (fun x17 hw => ?_)
    obtain ⟨u20, eu20, hu20⟩ := hw
    subst eu20
    have hw := hu20
    refine z_less (ku' := 5 * u20 + 5) (kv' := 116 * u20 + 116) (by omega) (by omega) ?_
    refine z_nO (ku' := (5 * u20 + 4)) (kv' := (116 * u20 + 110)) hC FX2 lk_289 lk_156 lk_123 FX2_d dX3_push_20 (by omega) (by omega) hw (fun S o20 hw => ?_)
    refine z_dup hC rfl dX3_push_23 ?_
    refine z_callIN (ku' := (5 * u20)) (kv' := (116 * u20)) (n := 0) (As := []) (st := [.ref o20, .int x17, .ref x13]) (host := "BellHeirs") hC rfl (c_X2_init l G B S o20 _) hw (by decide +kernel) lk_158 lk_123 lk_159 rfl hd_X2_init.2 rfl rfl (Nat.le_of_ble_eq_true rfl) (Nat.le_of_ble_eq_true rfl) rfl (Nat.le_of_ble_eq_true rfl) dX3_push_24 (by omega) (by omega) (kV (fun S hw => ?_))
    refine z_stR (x := (some o20)) (kd := 3) (ci := 2) hC dX3_push_27 hw rfl rfl (fun S hw => ?_)
    refine z_mask (lv' := [some (.ref v0), some (.int v1), some (.ref v2)]) [true, true, true] rfl ?_
    exact t_X3_push_b28 hC hr hlk hnm hw
  | some b9 =>
    have hw := hz9.2 b9 rfl
    refine z_ifnonnull (r := some b9) (tgt := 28) hC dX3_push_9 (by decide) (fun _ _ => ?_) (fun h => by cases h)
    refine z_mask (lv' := [some (.ref v0), some (.int v1), some (.ref v2)]) [true, true, true] rfl ?_
    exact t_X3_push_b28 hC hr hlk hnm hw
end
section
variable {p : Program} {l : Launch} {e : Env} {R : Room} {s : State} {m : MethodId} {args : Array Value} {below : List Frame} {meth : Method} {c : Code} {G : hG} {B mc ms : Nat}
def w_X1_note (q : hS → Prop) (S : hS) (u : Nat) (v0 : Option Nat) (v1 : Int32) (v2 : Nat) : Prop := (v0 = none → q S) ∧ (∀ b1 : Nat, v0 = some b1 → ∃ f7 g7 : Nat, u = f7 + g7 ∧ oK S b1 3 ∧ w_X3_push (fun S => q S) S f7 b1 v1 v2)
set_option maxRecDepth 100000 in
set_option maxHeartbeats 4000000 in
theorem c_X1_note (l : Launch) (G : hG) (B : Nat) (S : hS) (u : Nat) (v0 : Option Nat) (v1 : Int32) (v2 : Nat) (q : hS → Prop) : Met l yX1_note (hws yX1_note cX1_note 3 (Option.none : Option FieldType)) ({ frames := 3, cells := 5 * u, slots := 116 * u, locals := 103 }) (hPc G B S [va_rf v0, .int v1, .ref v2] (w_X1_note q S u v0 v1 v2)) (hQ G B (vP q)) (5 * u) (116 * u) (fun r => B ≤ r) := by
  refine hMet (rm := { frames := 3, cells := 5 * u, slots := 116 * u, locals := 103 }) (lv := [some (va_rf v0), some (.int v1), some (.ref v2)]) (own := RX1) (fr := 3) (lo := 103) (by decide) rfl rfl rfl (by cases v0 <;> exact Nat.le_of_ble_eq_true rfl) (by cases v0 <;> rfl) (fun hw p e R s m args below meth c hC hr hlk hnm => ?_)
  unfold w_X1_note at hw
  refine z_less (ku' := 5 * u) (kv' := 116 * u) (Nat.le_refl _) (Nat.le_refl _) ?_
  refine z_qload_n hC dX1_note_0 rfl rfl ?_
  have hz1 := hw
  cases v0 with
  | none =>
    have hw := hz1.1 rfl
    refine z_ifnull (r := none) (tgt := 10) hC dX1_note_1 (by decide) (fun _ => ?_) (fun _ h => by cases h)
    exact z_vret hC hr hlk dX1_note_10 ⟨rfl, hw⟩
  | some b1 =>
    have hw := hz1.2 b1 rfl
    refine z_ifnull (r := some b1) (tgt := 10) hC dX1_note_1 (by decide) (fun h => by cases h) (fun _ _ => ?_)
    refine z_aload_n hC dX1_note_4 rfl rfl ?_
    refine z_iload_n hC dX1_note_5 rfl rfl ?_
    refine z_aload_n hC dX1_note_6 rfl rfl ?_
    obtain ⟨f7, g7, eu7, hu7⟩ := hw
    subst eu7
    have hw := hu7
    refine z_callV (ku' := (5 * g7)) (kv' := (116 * g7)) (n := 2) (As := [.int v1, .ref v2]) (st := []) hC (c_X3_push l G B S f7 b1 v1 v2 _) hw.2 hw.1 rfl lk_1052 lk_1053 lk_1054 lk_124 lk_1055 hd_X3_push rfl rfl (Nat.le_of_ble_eq_true rfl) (Nat.le_of_ble_eq_true rfl) rfl (Nat.le_of_ble_eq_true rfl) dX1_note_7 (by omega) (by omega) (kV (fun S hw => ?_))
    exact z_vret hC hr hlk dX1_note_10 ⟨rfl, hw⟩
end
section
variable {p : Program} {l : Launch} {e : Env} {R : Room} {s : State} {m : MethodId} {args : Array Value} {below : List Frame} {meth : Method} {c : Code} {G : hG} {B mc ms : Nat}
def w_X1_ringBell (q : Int32 → hS → Prop) (S : hS) (u : Nat) (v0 : Nat) (v1 : Nat) (v2 : Option Nat) (v3 : Int32) (v4 : Int32) : Prop := oK S v1 8 ∧ w_X8_hasPerson (fun x2 S => (x2 = 0 → q (-2) S) ∧ (¬ x2 = 0 → oK S v1 8 ∧ w_X8_hasHouse (fun x11 S => (¬ x11 = 0 → oK S v1 8 ∧ w_X8_lives (fun x22 S => (x22 = 0 → q (-3) S) ∧ (¬ x22 = 0 → oK S v1 8 ∧ w_X8_leftOf (fun x32 S => (1 ≤ x32 → gP S v1 8 0 (fun x45 => ∃ f48 g48 : Nat, u = f48 + g48 ∧ w_X1_note (fun S => gP S v0 1 0 (fun x52 => oK S x52 0 ∧ w_X0_opensTo (fun x59 S => gP S v0 1 0 (fun x65 => oK S x65 0 ∧ w_X0_tiring (fun x72 S => gP S v1 8 0 (fun x78 => gP S x78 2 1 (fun x81 => w_X11_slot (fun x87 S => aI S x81 x87 (fun x91 => sI S x81 x87 (x91 + 1) (fun S => gP S v1 8 0 (fun x96 => gP S x96 2 2 (fun x99 => gP S v1 8 0 (fun x105 => gP S x105 2 2 (fun x108 => aI S x108 v4 (fun x113 => sI S x99 v4 (if 99 < (x113 + x72) then 99 else (x113 + x72)) (fun S => (x59 = 0 → q 0 S) ∧ (¬ x59 = 0 → q 1 S)))))))))) S v3 v4))) S x65 v1 v3 v4)) S x52 v1 v3 v4)) S f48 v2 0 x45)) ∧ (¬ 1 ≤ x32 → q (-3) S)) S v1 v3 v4)) S v1 v3) ∧ (x11 = 0 → q (-2) S)) S v1 v4)) S v1 v3
set_option maxRecDepth 100000 in
set_option maxHeartbeats 4000000 in
theorem c_X1_ringBell (l : Launch) (G : hG) (B : Nat) (S : hS) (u : Nat) (v0 : Nat) (v1 : Nat) (v2 : Option Nat) (v3 : Int32) (v4 : Int32) (q : Int32 → hS → Prop) : Met l yX1_ringBell (hws yX1_ringBell cX1_ringBell 7 (Option.some FieldType.int)) ({ frames := 5, cells := 5 * u, slots := 116 * u, locals := 163 }) (hPc G B S [.ref v0, .ref v1, va_rf v2, .int v3, .int v4] (w_X1_ringBell q S u v0 v1 v2 v3 v4)) (hQ G B (iP q)) (5 * u) (116 * u) (fun r => B ≤ r) := by
  refine hMet (rm := { frames := 5, cells := 5 * u, slots := 116 * u, locals := 163 }) (lv := [some (.ref v0), some (.ref v1), some (va_rf v2), some (.int v3), some (.int v4), none, none]) (own := RX1) (fr := 5) (lo := 163) (by decide) rfl rfl rfl (by cases v2 <;> exact Nat.le_of_ble_eq_true rfl) (by cases v2 <;> rfl) (fun hw p e R s m args below meth c hC hr hlk hnm => ?_)
  unfold w_X1_ringBell at hw
  refine z_less (ku' := 5 * u) (kv' := 116 * u) (Nat.le_refl _) (Nat.le_refl _) ?_
  refine z_aload_n hC dX1_ringBell_0 rfl rfl ?_
  refine z_iload_n hC dX1_ringBell_1 rfl rfl ?_
  refine z_callV (ku' := (5 * u)) (kv' := (116 * u)) (n := 1) (As := [.int v3]) (st := []) hC (c_X8_hasPerson l G B S v1 v3 _) hw.2 hw.1 rfl lk_1035 lk_613 lk_614 lk_122 lk_615 hd_X8_hasPerson rfl rfl (Nat.le_of_ble_eq_true rfl) (Nat.le_of_ble_eq_true rfl) rfl (Nat.le_of_ble_eq_true rfl) dX1_ringBell_2 (Nat.le_refl _) (Nat.le_refl _) (kI (fun x2 S hw => ?_))
  refine z_if_eq (tgt := 17) hC dX1_ringBell_5 (by decide) (fun c5 => ?_) (fun c5 => ?_)
  · have hw := hw.1 c5
    refine z_bipush hC bi_m2 dX1_ringBell_17 ?_
    exact z_iret hC hr hlk dX1_ringBell_19 ⟨_, rfl, hw⟩
  · have hw := hw.2 c5
    refine z_aload_n hC dX1_ringBell_8 rfl rfl ?_
    refine z_iload hC dX1_ringBell_9 rfl ?_
    refine z_callV (ku' := (5 * u)) (kv' := (116 * u)) (n := 1) (As := [.int v4]) (st := []) hC (c_X8_hasHouse l G B S v1 v4 _) hw.2 hw.1 rfl lk_1041 lk_601 lk_602 lk_122 lk_603 hd_X8_hasHouse rfl rfl (Nat.le_of_ble_eq_true rfl) (Nat.le_of_ble_eq_true rfl) rfl (Nat.le_of_ble_eq_true rfl) dX1_ringBell_11 (Nat.le_refl _) (Nat.le_refl _) (kI (fun x11 S hw => ?_))
    refine z_if_ne (tgt := 20) hC dX1_ringBell_14 (by decide) (fun c14 => ?_) (fun c14 => ?_)
    · have hw := hw.1 c14
      refine z_aload_n hC dX1_ringBell_20 rfl rfl ?_
      refine z_iload_n hC dX1_ringBell_21 rfl rfl ?_
      refine z_callV (ku' := (5 * u)) (kv' := (116 * u)) (n := 1) (As := [.int v3]) (st := []) hC (c_X8_lives l G B S v1 v3 _) hw.2 hw.1 rfl lk_742 lk_676 lk_677 lk_122 lk_678 hd_X8_lives rfl rfl (Nat.le_of_ble_eq_true rfl) (Nat.le_of_ble_eq_true rfl) rfl (Nat.le_of_ble_eq_true rfl) dX1_ringBell_22 (Nat.le_refl _) (Nat.le_refl _) (kI (fun x22 S hw => ?_))
      refine z_if_eq (tgt := 39) hC dX1_ringBell_25 (by decide) (fun c25 => ?_) (fun c25 => ?_)
      · have hw := hw.1 c25
        refine z_bipush hC bi_m3 dX1_ringBell_39 ?_
        exact z_iret hC hr hlk dX1_ringBell_41 ⟨_, rfl, hw⟩
      · have hw := hw.2 c25
        refine z_aload_n hC dX1_ringBell_28 rfl rfl ?_
        refine z_iload_n hC dX1_ringBell_29 rfl rfl ?_
        refine z_iload hC dX1_ringBell_30 rfl ?_
        refine z_callV (ku' := (5 * u)) (kv' := (116 * u)) (n := 2) (As := [.int v3, .int v4]) (st := []) hC (c_X8_leftOf l G B S v1 v3 v4 _) hw.2 hw.1 rfl lk_1048 lk_628 lk_629 lk_122 lk_630 hd_X8_leftOf rfl rfl (Nat.le_of_ble_eq_true rfl) (Nat.le_of_ble_eq_true rfl) rfl (Nat.le_of_ble_eq_true rfl) dX1_ringBell_32 (Nat.le_refl _) (Nat.le_refl _) (kI (fun x32 S hw => ?_))
        refine z_iconst hC ic_1 dX1_ringBell_35 ?_
        refine z_icmp_ge (tgt := 42) hC dX1_ringBell_36 (by decide) (fun c36 => ?_) (fun c36 => ?_)
        · have hw := hw.1 c36
          refine z_qload_n hC dX1_ringBell_42 rfl rfl ?_
          refine z_iconst hC ic_0 dX1_ringBell_43 ?_
          refine z_aload_n hC dX1_ringBell_44 rfl rfl ?_
          refine z_getP hC FX8 0 lk_202 dX1_ringBell_45 (by decide) hw (fun x45 hw => ?_)
          obtain ⟨f48, g48, eu48, hu48⟩ := hw
          subst eu48
          have hw := hu48
          refine z_callS (ku' := (5 * g48)) (kv' := (116 * g48)) (n := 3) (As := [va_rf v2, .int 0, .ref x45]) (st := []) hC (c_X1_note l G B S f48 v2 0 x45 _) hw lk_1049 lk_1050 lk_130 lk_1051 hd_X1_note rfl rfl (Nat.le_of_ble_eq_true rfl) (Nat.le_of_ble_eq_true rfl) rfl (Nat.le_of_ble_eq_true rfl) dX1_ringBell_48 (by omega) (by omega) (kV (fun S hw => ?_))
          refine z_aload_n hC dX1_ringBell_51 rfl rfl ?_
          refine z_getP hC FX1 0 lk_423 dX1_ringBell_52 (by decide) hw (fun x52 hw => ?_)
          refine z_aload_n hC dX1_ringBell_55 rfl rfl ?_
          refine z_iload_n hC dX1_ringBell_56 rfl rfl ?_
          refine z_iload hC dX1_ringBell_57 rfl ?_
          refine z_callV (ku' := (5 * g48)) (kv' := (116 * g48)) (n := 3) (As := [.ref v1, .int v3, .int v4]) (st := []) hC (c_X0_opensTo l G B S x52 v1 v3 v4 _) hw.2 hw.1 rfl lk_1059 lk_707 lk_708 lk_128 lk_709 hd_X0_opensTo rfl rfl (Nat.le_of_ble_eq_true rfl) (Nat.le_of_ble_eq_true rfl) rfl (Nat.le_of_ble_eq_true rfl) dX1_ringBell_59 (Nat.le_refl _) (Nat.le_refl _) (kI (fun x59 S hw => ?_))
          refine z_istore (i := 5) (lv' := [some (.ref v0), some (.ref v1), some (va_rf v2), some (.int v3), some (.int v4), some (.int x59), none]) hC dX1_ringBell_62 (by decide) (hok_v rfl rfl) rfl ?_
          refine z_aload_n hC dX1_ringBell_64 rfl rfl ?_
          refine z_getP hC FX1 0 lk_423 dX1_ringBell_65 (by decide) hw (fun x65 hw => ?_)
          refine z_aload_n hC dX1_ringBell_68 rfl rfl ?_
          refine z_iload_n hC dX1_ringBell_69 rfl rfl ?_
          refine z_iload hC dX1_ringBell_70 rfl ?_
          refine z_callV (ku' := (5 * g48)) (kv' := (116 * g48)) (n := 3) (As := [.ref v1, .int v3, .int v4]) (st := []) hC (c_X0_tiring l G B S x65 v1 v3 v4 _) hw.2 hw.1 rfl lk_1060 lk_719 lk_720 lk_128 lk_721 hd_X0_tiring rfl rfl (Nat.le_of_ble_eq_true rfl) (Nat.le_of_ble_eq_true rfl) rfl (Nat.le_of_ble_eq_true rfl) dX1_ringBell_72 (Nat.le_refl _) (Nat.le_refl _) (kI (fun x72 S hw => ?_))
          refine z_istore (i := 6) (lv' := [some (.ref v0), some (.ref v1), some (va_rf v2), some (.int v3), some (.int v4), some (.int x59), some (.int x72)]) hC dX1_ringBell_75 (by decide) (hok_v rfl rfl) rfl ?_
          refine z_aload_n hC dX1_ringBell_77 rfl rfl ?_
          refine z_getP hC FX8 0 lk_202 dX1_ringBell_78 (by decide) hw (fun x78 hw => ?_)
          refine z_getP hC FX2 1 lk_166 dX1_ringBell_81 (by decide) hw (fun x81 hw => ?_)
          refine z_iload_n hC dX1_ringBell_84 rfl rfl ?_
          refine z_iload hC dX1_ringBell_85 rfl ?_
          refine z_callSN (ku' := (5 * g48)) (kv' := (116 * g48)) (n := 2) (As := [.int v3, .int v4]) (st := [.ref x81]) (host := "BellHeirs") hC (c_X11_slot l G B S v3 v4 _) hw (by decide +kernel) lk_590 lk_121 lk_591 hd_X11_slot.2 rfl rfl (Nat.le_of_ble_eq_true rfl) (Nat.le_of_ble_eq_true rfl) rfl (Nat.le_of_ble_eq_true rfl) dX1_ringBell_87 (Nat.le_refl _) (Nat.le_refl _) (kI (fun x87 S hw => ?_))
          refine z_dup2_11 hC rfl rfl dX1_ringBell_90 ?_
          refine z_aldI hC dX1_ringBell_91 hw (fun x91 hw => ?_)
          refine z_iconst hC ic_1 dX1_ringBell_92 ?_
          refine z_iadd hC dX1_ringBell_93 ?_
          refine z_astI hC dX1_ringBell_94 hw (fun S hw => ?_)
          refine z_aload_n hC dX1_ringBell_95 rfl rfl ?_
          refine z_getP hC FX8 0 lk_202 dX1_ringBell_96 (by decide) hw (fun x96 hw => ?_)
          refine z_getP hC FX2 2 lk_169 dX1_ringBell_99 (by decide) hw (fun x99 hw => ?_)
          refine z_iload hC dX1_ringBell_102 rfl ?_
          refine z_aload_n hC dX1_ringBell_104 rfl rfl ?_
          refine z_getP hC FX8 0 lk_202 dX1_ringBell_105 (by decide) hw (fun x105 hw => ?_)
          refine z_getP hC FX2 2 lk_169 dX1_ringBell_108 (by decide) hw (fun x108 hw => ?_)
          refine z_iload hC dX1_ringBell_111 rfl ?_
          refine z_aldI hC dX1_ringBell_113 hw (fun x113 hw => ?_)
          refine z_iload hC dX1_ringBell_114 rfl ?_
          refine z_iadd hC dX1_ringBell_116 ?_
          refine z_bipush hC bi_99 dX1_ringBell_117 ?_
          refine z_mmin hC lk_1062 lk_657 lk_134 lk_658 dX1_ringBell_119 (by decide) (Nat.le_of_ble_eq_true rfl) ?_
          refine z_astI hC dX1_ringBell_122 hw (fun S hw => ?_)
          refine z_iload hC dX1_ringBell_123 rfl ?_
          refine z_if_eq (tgt := 132) hC dX1_ringBell_125 (by decide) (fun c125 => ?_) (fun c125 => ?_)
          · have hw := hw.1 c125
            refine z_iconst hC ic_0 dX1_ringBell_132 ?_
            exact z_iret hC hr hlk dX1_ringBell_133 ⟨_, rfl, hw⟩
          · have hw := hw.2 c125
            refine z_iconst hC ic_1 dX1_ringBell_128 ?_
            refine z_goto (tgt := 133) hC dX1_ringBell_129 (by decide) ?_
            exact z_iret hC hr hlk dX1_ringBell_133 ⟨_, rfl, hw⟩
        · have hw := hw.2 c36
          refine z_bipush hC bi_m3 dX1_ringBell_39 ?_
          exact z_iret hC hr hlk dX1_ringBell_41 ⟨_, rfl, hw⟩
    · have hw := hw.2 c14
      refine z_bipush hC bi_m2 dX1_ringBell_17 ?_
      exact z_iret hC hr hlk dX1_ringBell_19 ⟨_, rfl, hw⟩
end
section
variable {p : Program} {l : Launch} {e : Env} {R : Room} {s : State} {m : MethodId} {args : Array Value} {below : List Frame} {meth : Method} {c : Code} {G : hG} {B mc ms : Nat}
def w_X8_rightsOf (q : Int32 → hS → Prop) (S : hS) (v0 : Nat) (v1 : Int32) (v2 : Int32) : Prop := oK S v0 8 ∧ w_X8_hasPerson (fun x2 S => (x2 = 0 → q 0 S) ∧ (¬ x2 = 0 → oK S v0 8 ∧ w_X8_hasHouse (fun x10 S => (x10 = 0 → q 0 S) ∧ (¬ x10 = 0 → gP S v0 8 0 (fun x17 => gP S x17 2 0 (fun x20 => w_X11_slot (fun x25 S => aI S x20 x25 (fun x28 => q x28 S)) S v1 v2)))) S v0 v2)) S v0 v1
set_option maxRecDepth 100000 in
set_option maxHeartbeats 4000000 in
theorem c_X8_rightsOf (l : Launch) (G : hG) (B : Nat) (S : hS) (v0 : Nat) (v1 : Int32) (v2 : Int32) (q : Int32 → hS → Prop) : Met l yX8_rightsOf (hws yX8_rightsOf cX8_rightsOf 3 (Option.some FieldType.int)) ({ frames := 2, cells := 0, slots := 0, locals := 81 }) (hPc G B S [.ref v0, .int v1, .int v2] (w_X8_rightsOf q S v0 v1 v2)) (hQ G B (iP q)) (0) (0) (fun r => B ≤ r) := by
  refine hMet (rm := { frames := 2, cells := 0, slots := 0, locals := 81 }) (lv := [some (.ref v0), some (.int v1), some (.int v2)]) (own := RX8) (fr := 2) (lo := 81) (by decide) rfl rfl rfl (Nat.le_of_ble_eq_true rfl) rfl (fun hw p e R s m args below meth c hC hr hlk hnm => ?_)
  unfold w_X8_rightsOf at hw
  refine z_aload_n hC dX8_rightsOf_0 rfl rfl ?_
  refine z_iload_n hC dX8_rightsOf_1 rfl rfl ?_
  refine z_callV (ku' := 0) (kv' := 0) (n := 1) (As := [.int v1]) (st := []) hC (c_X8_hasPerson l G B S v0 v1 _) hw.2 hw.1 rfl lk_612 lk_613 lk_614 lk_122 lk_615 hd_X8_hasPerson rfl rfl (Nat.le_of_ble_eq_true rfl) (Nat.le_of_ble_eq_true rfl) rfl (Nat.le_of_ble_eq_true rfl) dX8_rightsOf_2 (Nat.le_refl 0) (Nat.le_refl 0) (kI (fun x2 S hw => ?_))
  refine z_if_eq (tgt := 32) hC dX8_rightsOf_5 (by decide) (fun c5 => ?_) (fun c5 => ?_)
  · have hw := hw.1 c5
    refine z_iconst hC ic_0 dX8_rightsOf_32 ?_
    exact z_iret hC hr hlk dX8_rightsOf_33 ⟨_, rfl, hw⟩
  · have hw := hw.2 c5
    refine z_aload_n hC dX8_rightsOf_8 rfl rfl ?_
    refine z_iload_n hC dX8_rightsOf_9 rfl rfl ?_
    refine z_callV (ku' := 0) (kv' := 0) (n := 1) (As := [.int v2]) (st := []) hC (c_X8_hasHouse l G B S v0 v2 _) hw.2 hw.1 rfl lk_616 lk_601 lk_602 lk_122 lk_603 hd_X8_hasHouse rfl rfl (Nat.le_of_ble_eq_true rfl) (Nat.le_of_ble_eq_true rfl) rfl (Nat.le_of_ble_eq_true rfl) dX8_rightsOf_10 (Nat.le_refl 0) (Nat.le_refl 0) (kI (fun x10 S hw => ?_))
    refine z_if_eq (tgt := 32) hC dX8_rightsOf_13 (by decide) (fun c13 => ?_) (fun c13 => ?_)
    · have hw := hw.1 c13
      refine z_iconst hC ic_0 dX8_rightsOf_32 ?_
      exact z_iret hC hr hlk dX8_rightsOf_33 ⟨_, rfl, hw⟩
    · have hw := hw.2 c13
      refine z_aload_n hC dX8_rightsOf_16 rfl rfl ?_
      refine z_getP hC FX8 0 lk_201 dX8_rightsOf_17 (by decide) hw (fun x17 hw => ?_)
      refine z_getP hC FX2 0 lk_162 dX8_rightsOf_20 (by decide) hw (fun x20 hw => ?_)
      refine z_iload_n hC dX8_rightsOf_23 rfl rfl ?_
      refine z_iload_n hC dX8_rightsOf_24 rfl rfl ?_
      refine z_callSN (ku' := 0) (kv' := 0) (n := 2) (As := [.int v1, .int v2]) (st := [.ref x20]) (host := "BellHeirs") hC (c_X11_slot l G B S v1 v2 _) hw (by decide +kernel) lk_590 lk_121 lk_591 hd_X11_slot.2 rfl rfl (Nat.le_of_ble_eq_true rfl) (Nat.le_of_ble_eq_true rfl) rfl (Nat.le_of_ble_eq_true rfl) dX8_rightsOf_25 (Nat.le_refl 0) (Nat.le_refl 0) (kI (fun x25 S hw => ?_))
      refine z_aldI hC dX8_rightsOf_28 hw (fun x28 hw => ?_)
      refine z_goto (tgt := 33) hC dX8_rightsOf_29 (by decide) ?_
      exact z_iret hC hr hlk dX8_rightsOf_33 ⟨_, rfl, hw⟩
end
section
variable {p : Program} {l : Launch} {e : Env} {R : Room} {s : State} {m : MethodId} {args : Array Value} {below : List Frame} {meth : Method} {c : Code} {G : hG} {B mc ms : Nat}
def w_X1_canBuy (q : Int32 → hS → Prop) (S : hS) (v0 : Nat) (v1 : Nat) (v2 : Int32) (v3 : Int32) (v4 : Int32) : Prop := oK S v1 8 ∧ w_X8_lives (fun x2 S => (x2 = 0 → q 0 S) ∧ (¬ x2 = 0 → oK S v1 8 ∧ w_X8_lives (fun x10 S => (x10 = 0 → q 0 S) ∧ (¬ x10 = 0 → oK S v1 8 ∧ w_X8_rightsOf (fun x20 S => (99 ≤ x20 → q 0 S) ∧ (¬ 99 ≤ x20 → gP S v0 1 0 (fun x29 => oK S x29 0 ∧ w_X0_isBarred (fun x37 S => (¬ x37 = 0 → q 0 S) ∧ (x37 = 0 → gP S v1 8 0 (fun x44 => gP S x44 2 3 (fun x47 => aI S x47 v3 (fun x51 => gP S v0 1 0 (fun x53 => oK S x53 0 ∧ w_X0_price (fun x61 S => (x51 < x61 → q 0 S) ∧ (¬ x51 < x61 → q 1 S)) S x53 v1 v2 v3 v4)))))) S x29 v1 v2 v3 v4))) S v1 v3 v4)) S v1 v3)) S v1 v2
set_option maxRecDepth 100000 in
set_option maxHeartbeats 4000000 in
theorem c_X1_canBuy (l : Launch) (G : hG) (B : Nat) (S : hS) (v0 : Nat) (v1 : Nat) (v2 : Int32) (v3 : Int32) (v4 : Int32) (q : Int32 → hS → Prop) : Met l yX1_canBuy (hws yX1_canBuy cX1_canBuy 5 (Option.some FieldType.boolean)) ({ frames := 5, cells := 0, slots := 0, locals := 164 }) (hPc G B S [.ref v0, .ref v1, .int v2, .int v3, .int v4] (w_X1_canBuy q S v0 v1 v2 v3 v4)) (hQ G B (iP q)) (0) (0) (fun r => B ≤ r) := by
  refine hMet (rm := { frames := 5, cells := 0, slots := 0, locals := 164 }) (lv := [some (.ref v0), some (.ref v1), some (.int v2), some (.int v3), some (.int v4)]) (own := RX1) (fr := 5) (lo := 164) (by decide) rfl rfl rfl (Nat.le_of_ble_eq_true rfl) rfl (fun hw p e R s m args below meth c hC hr hlk hnm => ?_)
  unfold w_X1_canBuy at hw
  refine z_aload_n hC dX1_canBuy_0 rfl rfl ?_
  refine z_iload_n hC dX1_canBuy_1 rfl rfl ?_
  refine z_callV (ku' := 0) (kv' := 0) (n := 1) (As := [.int v2]) (st := []) hC (c_X8_lives l G B S v1 v2 _) hw.2 hw.1 rfl lk_742 lk_676 lk_677 lk_122 lk_678 hd_X8_lives rfl rfl (Nat.le_of_ble_eq_true rfl) (Nat.le_of_ble_eq_true rfl) rfl (Nat.le_of_ble_eq_true rfl) dX1_canBuy_2 (Nat.le_refl 0) (Nat.le_refl 0) (kI (fun x2 S hw => ?_))
  refine z_if_eq (tgt := 71) hC dX1_canBuy_5 (by decide) (fun c5 => ?_) (fun c5 => ?_)
  · have hw := hw.1 c5
    refine z_iconst hC ic_0 dX1_canBuy_71 ?_
    exact z_zret hC hr hlk (hz01 (Or.inl rfl)).1 dX1_canBuy_72 ⟨_, rfl, hw⟩
  · have hw := hw.2 c5
    refine z_aload_n hC dX1_canBuy_8 rfl rfl ?_
    refine z_iload_n hC dX1_canBuy_9 rfl rfl ?_
    refine z_callV (ku' := 0) (kv' := 0) (n := 1) (As := [.int v3]) (st := []) hC (c_X8_lives l G B S v1 v3 _) hw.2 hw.1 rfl lk_742 lk_676 lk_677 lk_122 lk_678 hd_X8_lives rfl rfl (Nat.le_of_ble_eq_true rfl) (Nat.le_of_ble_eq_true rfl) rfl (Nat.le_of_ble_eq_true rfl) dX1_canBuy_10 (Nat.le_refl 0) (Nat.le_refl 0) (kI (fun x10 S hw => ?_))
    refine z_if_eq (tgt := 71) hC dX1_canBuy_13 (by decide) (fun c13 => ?_) (fun c13 => ?_)
    · have hw := hw.1 c13
      refine z_iconst hC ic_0 dX1_canBuy_71 ?_
      exact z_zret hC hr hlk (hz01 (Or.inl rfl)).1 dX1_canBuy_72 ⟨_, rfl, hw⟩
    · have hw := hw.2 c13
      refine z_aload_n hC dX1_canBuy_16 rfl rfl ?_
      refine z_iload_n hC dX1_canBuy_17 rfl rfl ?_
      refine z_iload hC dX1_canBuy_18 rfl ?_
      refine z_callV (ku' := 0) (kv' := 0) (n := 2) (As := [.int v3, .int v4]) (st := []) hC (c_X8_rightsOf l G B S v1 v3 v4 _) hw.2 hw.1 rfl lk_743 lk_609 lk_610 lk_122 lk_611 hd_X8_rightsOf rfl rfl (Nat.le_of_ble_eq_true rfl) (Nat.le_of_ble_eq_true rfl) rfl (Nat.le_of_ble_eq_true rfl) dX1_canBuy_20 (Nat.le_refl 0) (Nat.le_refl 0) (kI (fun x20 S hw => ?_))
      refine z_bipush hC bi_99 dX1_canBuy_23 ?_
      refine z_icmp_ge (tgt := 71) hC dX1_canBuy_25 (by decide) (fun c25 => ?_) (fun c25 => ?_)
      · have hw := hw.1 c25
        refine z_iconst hC ic_0 dX1_canBuy_71 ?_
        exact z_zret hC hr hlk (hz01 (Or.inl rfl)).1 dX1_canBuy_72 ⟨_, rfl, hw⟩
      · have hw := hw.2 c25
        refine z_aload_n hC dX1_canBuy_28 rfl rfl ?_
        refine z_getP hC FX1 0 lk_423 dX1_canBuy_29 (by decide) hw (fun x29 hw => ?_)
        refine z_aload_n hC dX1_canBuy_32 rfl rfl ?_
        refine z_iload_n hC dX1_canBuy_33 rfl rfl ?_
        refine z_iload_n hC dX1_canBuy_34 rfl rfl ?_
        refine z_iload hC dX1_canBuy_35 rfl ?_
        refine z_callV (ku' := 0) (kv' := 0) (n := 4) (As := [.ref v1, .int v2, .int v3, .int v4]) (st := []) hC (c_X0_isBarred l G B S x29 v1 v2 v3 v4 _) hw.2 hw.1 rfl lk_744 lk_731 lk_732 lk_128 lk_733 hd_X0_isBarred rfl rfl (Nat.le_of_ble_eq_true rfl) (Nat.le_of_ble_eq_true rfl) rfl (Nat.le_of_ble_eq_true rfl) dX1_canBuy_37 (Nat.le_refl 0) (Nat.le_refl 0) (kI (fun x37 S hw => ?_))
        refine z_if_ne (tgt := 71) hC dX1_canBuy_40 (by decide) (fun c40 => ?_) (fun c40 => ?_)
        · have hw := hw.1 c40
          refine z_iconst hC ic_0 dX1_canBuy_71 ?_
          exact z_zret hC hr hlk (hz01 (Or.inl rfl)).1 dX1_canBuy_72 ⟨_, rfl, hw⟩
        · have hw := hw.2 c40
          refine z_aload_n hC dX1_canBuy_43 rfl rfl ?_
          refine z_getP hC FX8 0 lk_202 dX1_canBuy_44 (by decide) hw (fun x44 hw => ?_)
          refine z_getP hC FX2 3 lk_174 dX1_canBuy_47 (by decide) hw (fun x47 hw => ?_)
          refine z_iload_n hC dX1_canBuy_50 rfl rfl ?_
          refine z_aldI hC dX1_canBuy_51 hw (fun x51 hw => ?_)
          refine z_aload_n hC dX1_canBuy_52 rfl rfl ?_
          refine z_getP hC FX1 0 lk_423 dX1_canBuy_53 (by decide) hw (fun x53 hw => ?_)
          refine z_aload_n hC dX1_canBuy_56 rfl rfl ?_
          refine z_iload_n hC dX1_canBuy_57 rfl rfl ?_
          refine z_iload_n hC dX1_canBuy_58 rfl rfl ?_
          refine z_iload hC dX1_canBuy_59 rfl ?_
          refine z_callV (ku' := 0) (kv' := 0) (n := 4) (As := [.ref v1, .int v2, .int v3, .int v4]) (st := [.int x51]) hC (c_X0_price l G B S x53 v1 v2 v3 v4 _) hw.2 hw.1 rfl lk_745 lk_727 lk_728 lk_128 lk_729 hd_X0_price rfl rfl (Nat.le_of_ble_eq_true rfl) (Nat.le_of_ble_eq_true rfl) rfl (Nat.le_of_ble_eq_true rfl) dX1_canBuy_61 (Nat.le_refl 0) (Nat.le_refl 0) (kI (fun x61 S hw => ?_))
          refine z_icmp_lt (tgt := 71) hC dX1_canBuy_64 (by decide) (fun c64 => ?_) (fun c64 => ?_)
          · have hw := hw.1 c64
            refine z_iconst hC ic_0 dX1_canBuy_71 ?_
            exact z_zret hC hr hlk (hz01 (Or.inl rfl)).1 dX1_canBuy_72 ⟨_, rfl, hw⟩
          · have hw := hw.2 c64
            refine z_iconst hC ic_1 dX1_canBuy_67 ?_
            refine z_goto (tgt := 72) hC dX1_canBuy_68 (by decide) ?_
            exact z_zret hC hr hlk (hz01 (Or.inr rfl)).1 dX1_canBuy_72 ⟨_, rfl, hw⟩
end
section
variable {p : Program} {l : Launch} {e : Env} {R : Room} {s : State} {m : MethodId} {args : Array Value} {below : List Frame} {meth : Method} {c : Code} {G : hG} {B mc ms : Nat}
def w_X1_sellRing (q : Int32 → hS → Prop) (S : hS) (u : Nat) (v0 : Nat) (v1 : Nat) (v2 : Option Nat) (v3 : Int32) (v4 : Int32) (v5 : Int32) : Prop := (¬ v3 = v4 → oK S v1 8 ∧ w_X8_hasPerson (fun x10 S => (x10 = 0 → q (-2) S) ∧ (¬ x10 = 0 → oK S v1 8 ∧ w_X8_hasPerson (fun x19 S => (x19 = 0 → q (-2) S) ∧ (¬ x19 = 0 → oK S v1 8 ∧ w_X8_hasHouse (fun x28 S => (¬ x28 = 0 → oK S v1 8 ∧ w_X8_leftOf (fun x41 S => (x41 < 1 → q (-3) S) ∧ (¬ x41 < 1 → oK S v0 1 ∧ w_X1_canBuy (fun x55 S => (¬ x55 = 0 → gP S v1 8 0 (fun x67 => ∃ f70 g70 : Nat, u = f70 + g70 ∧ w_X1_note (fun S => gP S v0 1 0 (fun x74 => oK S x74 0 ∧ w_X0_price (fun x83 S => gP S v1 8 0 (fun x89 => gP S x89 2 0 (fun x96 => w_X11_slot (fun x102 S => aI S x96 x102 (fun x106 => sI S x96 x102 (x106 - 1) (fun S => gP S x89 2 0 (fun x112 => w_X11_slot (fun x119 S => aI S x112 x119 (fun x123 => sI S x112 x119 (x123 + 1) (fun S => gP S x89 2 3 (fun x129 => aI S x129 v4 (fun x135 => sI S x129 v4 (x135 - x83) (fun S => gP S x89 2 3 (fun x142 => gP S x89 2 3 (fun x148 => aI S x148 v3 (fun x152 => sI S x142 v3 (if 999 < (x152 + x83) then 999 else (x152 + x83)) (fun S => q x83 S)))))))))) S v4 v5)))) S v3 v5))) S x74 v1 v3 v4 v5)) S f70 v2 1 x67)) ∧ (x55 = 0 → q (-3) S)) S v0 v1 v3 v4 v5)) S v1 v3 v5) ∧ (x28 = 0 → q (-2) S)) S v1 v5)) S v1 v4)) S v1 v3) ∧ (v3 = v4 → q (-1) S)
set_option maxRecDepth 100000 in
set_option maxHeartbeats 4000000 in
theorem c_X1_sellRing (l : Launch) (G : hG) (B : Nat) (S : hS) (u : Nat) (v0 : Nat) (v1 : Nat) (v2 : Option Nat) (v3 : Int32) (v4 : Int32) (v5 : Int32) (q : Int32 → hS → Prop) : Met l yX1_sellRing (hws yX1_sellRing cX1_sellRing 8 (Option.some FieldType.int)) ({ frames := 6, cells := 5 * u, slots := 116 * u, locals := 188 }) (hPc G B S [.ref v0, .ref v1, va_rf v2, .int v3, .int v4, .int v5] (w_X1_sellRing q S u v0 v1 v2 v3 v4 v5)) (hQ G B (iP q)) (5 * u) (116 * u) (fun r => B ≤ r) := by
  refine hMet (rm := { frames := 6, cells := 5 * u, slots := 116 * u, locals := 188 }) (lv := [some (.ref v0), some (.ref v1), some (va_rf v2), some (.int v3), some (.int v4), some (.int v5), none, none]) (own := RX1) (fr := 6) (lo := 188) (by decide) rfl rfl rfl (by cases v2 <;> exact Nat.le_of_ble_eq_true rfl) (by cases v2 <;> rfl) (fun hw p e R s m args below meth c hC hr hlk hnm => ?_)
  unfold w_X1_sellRing at hw
  refine z_less (ku' := 5 * u) (kv' := 116 * u) (Nat.le_refl _) (Nat.le_refl _) ?_
  refine z_iload_n hC dX1_sellRing_0 rfl rfl ?_
  refine z_iload hC dX1_sellRing_1 rfl ?_
  refine z_icmp_ne (tgt := 8) hC dX1_sellRing_3 (by decide) (fun c3 => ?_) (fun c3 => ?_)
  · have hw := hw.1 c3
    refine z_aload_n hC dX1_sellRing_8 rfl rfl ?_
    refine z_iload_n hC dX1_sellRing_9 rfl rfl ?_
    refine z_callV (ku' := (5 * u)) (kv' := (116 * u)) (n := 1) (As := [.int v3]) (st := []) hC (c_X8_hasPerson l G B S v1 v3 _) hw.2 hw.1 rfl lk_1035 lk_613 lk_614 lk_122 lk_615 hd_X8_hasPerson rfl rfl (Nat.le_of_ble_eq_true rfl) (Nat.le_of_ble_eq_true rfl) rfl (Nat.le_of_ble_eq_true rfl) dX1_sellRing_10 (Nat.le_refl _) (Nat.le_refl _) (kI (fun x10 S hw => ?_))
    refine z_if_eq (tgt := 34) hC dX1_sellRing_13 (by decide) (fun c13 => ?_) (fun c13 => ?_)
    · have hw := hw.1 c13
      refine z_bipush hC bi_m2 dX1_sellRing_34 ?_
      exact z_iret hC hr hlk dX1_sellRing_36 ⟨_, rfl, hw⟩
    · have hw := hw.2 c13
      refine z_aload_n hC dX1_sellRing_16 rfl rfl ?_
      refine z_iload hC dX1_sellRing_17 rfl ?_
      refine z_callV (ku' := (5 * u)) (kv' := (116 * u)) (n := 1) (As := [.int v4]) (st := []) hC (c_X8_hasPerson l G B S v1 v4 _) hw.2 hw.1 rfl lk_1035 lk_613 lk_614 lk_122 lk_615 hd_X8_hasPerson rfl rfl (Nat.le_of_ble_eq_true rfl) (Nat.le_of_ble_eq_true rfl) rfl (Nat.le_of_ble_eq_true rfl) dX1_sellRing_19 (Nat.le_refl _) (Nat.le_refl _) (kI (fun x19 S hw => ?_))
      refine z_if_eq (tgt := 34) hC dX1_sellRing_22 (by decide) (fun c22 => ?_) (fun c22 => ?_)
      · have hw := hw.1 c22
        refine z_bipush hC bi_m2 dX1_sellRing_34 ?_
        exact z_iret hC hr hlk dX1_sellRing_36 ⟨_, rfl, hw⟩
      · have hw := hw.2 c22
        refine z_aload_n hC dX1_sellRing_25 rfl rfl ?_
        refine z_iload hC dX1_sellRing_26 rfl ?_
        refine z_callV (ku' := (5 * u)) (kv' := (116 * u)) (n := 1) (As := [.int v5]) (st := []) hC (c_X8_hasHouse l G B S v1 v5 _) hw.2 hw.1 rfl lk_1041 lk_601 lk_602 lk_122 lk_603 hd_X8_hasHouse rfl rfl (Nat.le_of_ble_eq_true rfl) (Nat.le_of_ble_eq_true rfl) rfl (Nat.le_of_ble_eq_true rfl) dX1_sellRing_28 (Nat.le_refl _) (Nat.le_refl _) (kI (fun x28 S hw => ?_))
        refine z_if_ne (tgt := 37) hC dX1_sellRing_31 (by decide) (fun c31 => ?_) (fun c31 => ?_)
        · have hw := hw.1 c31
          refine z_aload_n hC dX1_sellRing_37 rfl rfl ?_
          refine z_iload_n hC dX1_sellRing_38 rfl rfl ?_
          refine z_iload hC dX1_sellRing_39 rfl ?_
          refine z_callV (ku' := (5 * u)) (kv' := (116 * u)) (n := 2) (As := [.int v3, .int v5]) (st := []) hC (c_X8_leftOf l G B S v1 v3 v5 _) hw.2 hw.1 rfl lk_1048 lk_628 lk_629 lk_122 lk_630 hd_X8_leftOf rfl rfl (Nat.le_of_ble_eq_true rfl) (Nat.le_of_ble_eq_true rfl) rfl (Nat.le_of_ble_eq_true rfl) dX1_sellRing_41 (Nat.le_refl _) (Nat.le_refl _) (kI (fun x41 S hw => ?_))
          refine z_iconst hC ic_1 dX1_sellRing_44 ?_
          refine z_icmp_lt (tgt := 61) hC dX1_sellRing_45 (by decide) (fun c45 => ?_) (fun c45 => ?_)
          · have hw := hw.1 c45
            refine z_bipush hC bi_m3 dX1_sellRing_61 ?_
            exact z_iret hC hr hlk dX1_sellRing_63 ⟨_, rfl, hw⟩
          · have hw := hw.2 c45
            refine z_aload_n hC dX1_sellRing_48 rfl rfl ?_
            refine z_aload_n hC dX1_sellRing_49 rfl rfl ?_
            refine z_iload_n hC dX1_sellRing_50 rfl rfl ?_
            refine z_iload hC dX1_sellRing_51 rfl ?_
            refine z_iload hC dX1_sellRing_53 rfl ?_
            refine z_callV (ku' := (5 * u)) (kv' := (116 * u)) (n := 4) (As := [.ref v1, .int v3, .int v4, .int v5]) (st := []) hC (c_X1_canBuy l G B S v0 v1 v3 v4 v5 _) hw.2 hw.1 rfl lk_1067 lk_739 lk_740 lk_130 lk_741 hd_X1_canBuy rfl rfl (Nat.le_of_ble_eq_true rfl) (Nat.le_of_ble_eq_true rfl) rfl (Nat.le_of_ble_eq_true rfl) dX1_sellRing_55 (Nat.le_refl _) (Nat.le_refl _) (kI (fun x55 S hw => ?_))
            refine z_if_ne (tgt := 64) hC dX1_sellRing_58 (by decide) (fun c58 => ?_) (fun c58 => ?_)
            · have hw := hw.1 c58
              refine z_qload_n hC dX1_sellRing_64 rfl rfl ?_
              refine z_iconst hC ic_1 dX1_sellRing_65 ?_
              refine z_aload_n hC dX1_sellRing_66 rfl rfl ?_
              refine z_getP hC FX8 0 lk_202 dX1_sellRing_67 (by decide) hw (fun x67 hw => ?_)
              obtain ⟨f70, g70, eu70, hu70⟩ := hw
              subst eu70
              have hw := hu70
              refine z_callS (ku' := (5 * g70)) (kv' := (116 * g70)) (n := 3) (As := [va_rf v2, .int 1, .ref x67]) (st := []) hC (c_X1_note l G B S f70 v2 1 x67 _) hw lk_1049 lk_1050 lk_130 lk_1051 hd_X1_note rfl rfl (Nat.le_of_ble_eq_true rfl) (Nat.le_of_ble_eq_true rfl) rfl (Nat.le_of_ble_eq_true rfl) dX1_sellRing_70 (by omega) (by omega) (kV (fun S hw => ?_))
              refine z_aload_n hC dX1_sellRing_73 rfl rfl ?_
              refine z_getP hC FX1 0 lk_423 dX1_sellRing_74 (by decide) hw (fun x74 hw => ?_)
              refine z_aload_n hC dX1_sellRing_77 rfl rfl ?_
              refine z_iload_n hC dX1_sellRing_78 rfl rfl ?_
              refine z_iload hC dX1_sellRing_79 rfl ?_
              refine z_iload hC dX1_sellRing_81 rfl ?_
              refine z_callV (ku' := (5 * g70)) (kv' := (116 * g70)) (n := 4) (As := [.ref v1, .int v3, .int v4, .int v5]) (st := []) hC (c_X0_price l G B S x74 v1 v3 v4 v5 _) hw.2 hw.1 rfl lk_745 lk_727 lk_728 lk_128 lk_729 hd_X0_price rfl rfl (Nat.le_of_ble_eq_true rfl) (Nat.le_of_ble_eq_true rfl) rfl (Nat.le_of_ble_eq_true rfl) dX1_sellRing_83 (Nat.le_refl _) (Nat.le_refl _) (kI (fun x83 S hw => ?_))
              refine z_istore (i := 6) (lv' := [some (.ref v0), some (.ref v1), some (va_rf v2), some (.int v3), some (.int v4), some (.int v5), some (.int x83), none]) hC dX1_sellRing_86 (by decide) (hok_v rfl rfl) rfl ?_
              refine z_aload_n hC dX1_sellRing_88 rfl rfl ?_
              refine z_getP hC FX8 0 lk_202 dX1_sellRing_89 (by decide) hw (fun x89 hw => ?_)
              refine z_astore (i := 7) (lv' := [some (.ref v0), some (.ref v1), some (va_rf v2), some (.int v3), some (.int v4), some (.int v5), some (.int x83), some (.ref x89)]) hC dX1_sellRing_92 (by decide) (hok_v rfl rfl) rfl ?_
              refine z_aload hC dX1_sellRing_94 rfl ?_
              refine z_getP hC FX2 0 lk_163 dX1_sellRing_96 (by decide) hw (fun x96 hw => ?_)
              refine z_iload_n hC dX1_sellRing_99 rfl rfl ?_
              refine z_iload hC dX1_sellRing_100 rfl ?_
              refine z_callSN (ku' := (5 * g70)) (kv' := (116 * g70)) (n := 2) (As := [.int v3, .int v5]) (st := [.ref x96]) (host := "BellHeirs") hC (c_X11_slot l G B S v3 v5 _) hw (by decide +kernel) lk_590 lk_121 lk_591 hd_X11_slot.2 rfl rfl (Nat.le_of_ble_eq_true rfl) (Nat.le_of_ble_eq_true rfl) rfl (Nat.le_of_ble_eq_true rfl) dX1_sellRing_102 (Nat.le_refl _) (Nat.le_refl _) (kI (fun x102 S hw => ?_))
              refine z_dup2_11 hC rfl rfl dX1_sellRing_105 ?_
              refine z_aldI hC dX1_sellRing_106 hw (fun x106 hw => ?_)
              refine z_iconst hC ic_1 dX1_sellRing_107 ?_
              refine z_isub hC dX1_sellRing_108 ?_
              refine z_astI hC dX1_sellRing_109 hw (fun S hw => ?_)
              refine z_aload hC dX1_sellRing_110 rfl ?_
              refine z_getP hC FX2 0 lk_163 dX1_sellRing_112 (by decide) hw (fun x112 hw => ?_)
              refine z_iload hC dX1_sellRing_115 rfl ?_
              refine z_iload hC dX1_sellRing_117 rfl ?_
              refine z_callSN (ku' := (5 * g70)) (kv' := (116 * g70)) (n := 2) (As := [.int v4, .int v5]) (st := [.ref x112]) (host := "BellHeirs") hC (c_X11_slot l G B S v4 v5 _) hw (by decide +kernel) lk_590 lk_121 lk_591 hd_X11_slot.2 rfl rfl (Nat.le_of_ble_eq_true rfl) (Nat.le_of_ble_eq_true rfl) rfl (Nat.le_of_ble_eq_true rfl) dX1_sellRing_119 (Nat.le_refl _) (Nat.le_refl _) (kI (fun x119 S hw => ?_))
              refine z_dup2_11 hC rfl rfl dX1_sellRing_122 ?_
              refine z_aldI hC dX1_sellRing_123 hw (fun x123 hw => ?_)
              refine z_iconst hC ic_1 dX1_sellRing_124 ?_
              refine z_iadd hC dX1_sellRing_125 ?_
              refine z_astI hC dX1_sellRing_126 hw (fun S hw => ?_)
              refine z_aload hC dX1_sellRing_127 rfl ?_
              refine z_getP hC FX2 3 lk_174 dX1_sellRing_129 (by decide) hw (fun x129 hw => ?_)
              refine z_iload hC dX1_sellRing_132 rfl ?_
              refine z_dup2_11 hC rfl rfl dX1_sellRing_134 ?_
              refine z_aldI hC dX1_sellRing_135 hw (fun x135 hw => ?_)
              refine z_iload hC dX1_sellRing_136 rfl ?_
              refine z_isub hC dX1_sellRing_138 ?_
              refine z_astI hC dX1_sellRing_139 hw (fun S hw => ?_)
              refine z_aload hC dX1_sellRing_140 rfl ?_
              refine z_getP hC FX2 3 lk_174 dX1_sellRing_142 (by decide) hw (fun x142 hw => ?_)
              refine z_iload_n hC dX1_sellRing_145 rfl rfl ?_
              refine z_aload hC dX1_sellRing_146 rfl ?_
              refine z_getP hC FX2 3 lk_174 dX1_sellRing_148 (by decide) hw (fun x148 hw => ?_)
              refine z_iload_n hC dX1_sellRing_151 rfl rfl ?_
              refine z_aldI hC dX1_sellRing_152 hw (fun x152 hw => ?_)
              refine z_iload hC dX1_sellRing_153 rfl ?_
              refine z_iadd hC dX1_sellRing_155 ?_
              refine z_sipush hC si_999 dX1_sellRing_156 ?_
              refine z_mmin hC lk_1062 lk_657 lk_134 lk_658 dX1_sellRing_159 (by decide) (Nat.le_of_ble_eq_true rfl) ?_
              refine z_astI hC dX1_sellRing_162 hw (fun S hw => ?_)
              refine z_iload hC dX1_sellRing_163 rfl ?_
              exact z_iret hC hr hlk dX1_sellRing_165 ⟨_, rfl, hw⟩
            · have hw := hw.2 c58
              refine z_bipush hC bi_m3 dX1_sellRing_61 ?_
              exact z_iret hC hr hlk dX1_sellRing_63 ⟨_, rfl, hw⟩
        · have hw := hw.2 c31
          refine z_bipush hC bi_m2 dX1_sellRing_34 ?_
          exact z_iret hC hr hlk dX1_sellRing_36 ⟨_, rfl, hw⟩
  · have hw := hw.2 c3
    refine z_iconst hC ic_m1 dX1_sellRing_6 ?_
    exact z_iret hC hr hlk dX1_sellRing_7 ⟨_, rfl, hw⟩
end
section
variable {p : Program} {l : Launch} {e : Env} {R : Room} {s : State} {m : MethodId} {args : Array Value} {below : List Frame} {meth : Method} {c : Code} {G : hG} {B mc ms : Nat}
def w_X8_isLivingHeir (q : Int32 → hS → Prop) (S : hS) (v0 : Nat) (v1 : Int32) (v2 : Int32) : Prop := oK S v0 8 ∧ w_X8_hasPerson (fun x2 S => (x2 = 0 → q 0 S) ∧ (¬ x2 = 0 → oK S v0 8 ∧ w_X8_lives (fun x10 S => (x10 = 0 → q 0 S) ∧ (¬ x10 = 0 → gP S v0 8 8 (fun x17 => aI S x17 v1 (fun x21 => w_X11_hasBit (fun x23 S => (x23 = 0 → q 0 S) ∧ (¬ x23 = 0 → q 1 S)) S x21 v2)))) S v0 v2)) S v0 v1
set_option maxRecDepth 100000 in
set_option maxHeartbeats 4000000 in
theorem c_X8_isLivingHeir (l : Launch) (G : hG) (B : Nat) (S : hS) (v0 : Nat) (v1 : Int32) (v2 : Int32) (q : Int32 → hS → Prop) : Met l yX8_isLivingHeir (hws yX8_isLivingHeir cX8_isLivingHeir 3 (Option.some FieldType.boolean)) ({ frames := 3, cells := 0, slots := 0, locals := 102 }) (hPc G B S [.ref v0, .int v1, .int v2] (w_X8_isLivingHeir q S v0 v1 v2)) (hQ G B (iP q)) (0) (0) (fun r => B ≤ r) := by
  refine hMet (rm := { frames := 3, cells := 0, slots := 0, locals := 102 }) (lv := [some (.ref v0), some (.int v1), some (.int v2)]) (own := RX8) (fr := 3) (lo := 102) (by decide) rfl rfl rfl (Nat.le_of_ble_eq_true rfl) rfl (fun hw p e R s m args below meth c hC hr hlk hnm => ?_)
  unfold w_X8_isLivingHeir at hw
  refine z_aload_n hC dX8_isLivingHeir_0 rfl rfl ?_
  refine z_iload_n hC dX8_isLivingHeir_1 rfl rfl ?_
  refine z_callV (ku' := 0) (kv' := 0) (n := 1) (As := [.int v1]) (st := []) hC (c_X8_hasPerson l G B S v0 v1 _) hw.2 hw.1 rfl lk_612 lk_613 lk_614 lk_122 lk_615 hd_X8_hasPerson rfl rfl (Nat.le_of_ble_eq_true rfl) (Nat.le_of_ble_eq_true rfl) rfl (Nat.le_of_ble_eq_true rfl) dX8_isLivingHeir_2 (Nat.le_refl 0) (Nat.le_refl 0) (kI (fun x2 S hw => ?_))
  refine z_if_eq (tgt := 33) hC dX8_isLivingHeir_5 (by decide) (fun c5 => ?_) (fun c5 => ?_)
  · have hw := hw.1 c5
    refine z_iconst hC ic_0 dX8_isLivingHeir_33 ?_
    exact z_zret hC hr hlk (hz01 (Or.inl rfl)).1 dX8_isLivingHeir_34 ⟨_, rfl, hw⟩
  · have hw := hw.2 c5
    refine z_aload_n hC dX8_isLivingHeir_8 rfl rfl ?_
    refine z_iload_n hC dX8_isLivingHeir_9 rfl rfl ?_
    refine z_callV (ku' := 0) (kv' := 0) (n := 1) (As := [.int v2]) (st := []) hC (c_X8_lives l G B S v0 v2 _) hw.2 hw.1 rfl lk_1034 lk_676 lk_677 lk_122 lk_678 hd_X8_lives rfl rfl (Nat.le_of_ble_eq_true rfl) (Nat.le_of_ble_eq_true rfl) rfl (Nat.le_of_ble_eq_true rfl) dX8_isLivingHeir_10 (Nat.le_refl 0) (Nat.le_refl 0) (kI (fun x10 S hw => ?_))
    refine z_if_eq (tgt := 33) hC dX8_isLivingHeir_13 (by decide) (fun c13 => ?_) (fun c13 => ?_)
    · have hw := hw.1 c13
      refine z_iconst hC ic_0 dX8_isLivingHeir_33 ?_
      exact z_zret hC hr hlk (hz01 (Or.inl rfl)).1 dX8_isLivingHeir_34 ⟨_, rfl, hw⟩
    · have hw := hw.2 c13
      refine z_aload_n hC dX8_isLivingHeir_16 rfl rfl ?_
      refine z_getP hC FX8 8 lk_229 dX8_isLivingHeir_17 (by decide) hw (fun x17 hw => ?_)
      refine z_iload_n hC dX8_isLivingHeir_20 rfl rfl ?_
      refine z_aldI hC dX8_isLivingHeir_21 hw (fun x21 hw => ?_)
      refine z_iload_n hC dX8_isLivingHeir_22 rfl rfl ?_
      refine z_callSN (ku' := 0) (kv' := 0) (n := 2) (As := [.int x21, .int v2]) (st := []) (host := "BellHeirs") hC (c_X11_hasBit l G B S x21 v2 _) hw (by decide +kernel) lk_680 lk_121 lk_681 hd_X11_hasBit.2 rfl rfl (Nat.le_of_ble_eq_true rfl) (Nat.le_of_ble_eq_true rfl) rfl (Nat.le_of_ble_eq_true rfl) dX8_isLivingHeir_23 (Nat.le_refl 0) (Nat.le_refl 0) (kI (fun x23 S hw => ?_))
      refine z_if_eq (tgt := 33) hC dX8_isLivingHeir_26 (by decide) (fun c26 => ?_) (fun c26 => ?_)
      · have hw := hw.1 c26
        refine z_iconst hC ic_0 dX8_isLivingHeir_33 ?_
        exact z_zret hC hr hlk (hz01 (Or.inl rfl)).1 dX8_isLivingHeir_34 ⟨_, rfl, hw⟩
      · have hw := hw.2 c26
        refine z_iconst hC ic_1 dX8_isLivingHeir_29 ?_
        refine z_goto (tgt := 34) hC dX8_isLivingHeir_30 (by decide) ?_
        exact z_zret hC hr hlk (hz01 (Or.inr rfl)).1 dX8_isLivingHeir_34 ⟨_, rfl, hw⟩
end
section
variable {p : Program} {l : Launch} {e : Env} {R : Room} {s : State} {m : MethodId} {args : Array Value} {below : List Frame} {meth : Method} {c : Code} {G : hG} {B mc ms : Nat}
def w_X8_livingHeirs_b24 (q : Int32 → hS → Prop) (K4 : hS → (Nat) → (Int32) → (Int32) → (Int32) → Prop) (S : hS) (v0 : Nat) (v1 : Int32) (v2 : Int32) (v3 : Int32) : Prop := ∀ y24 : Int32, y24 = v3 + 1 → K4 S v0 v1 v2 y24
set_option maxRecDepth 100000 in
set_option maxHeartbeats 4000000 in
theorem t_X8_livingHeirs_b24 (hC : zC p R s m args c cX8_livingHeirs 4 RX8 G B mc ms 4 124) (hr : meth.sig.returnType = (Option.some FieldType.int)) (hlk : meth.locks = false) (hnm : meth.name = "livingHeirs") {q : Int32 → hS → Prop} {K4 : hS → (Nat) → (Int32) → (Int32) → (Int32) → Prop} (hK4 : ∀ {S : hS} {v0 : Nat} {v1 : Int32} {v2 : Int32} {v3 : Int32}, K4 S v0 v1 v2 v3 → Z p l e R s m args below meth c (MQ below (hQ G B (iP q)) args s mc ms (fun r => B ≤ r)) G B mc ms 4 S 0 0 4 [some (.ref v0), some (.int v1), some (.int v2), some (.int v3)] []) {S : hS} {v0 : Nat} {v1 : Int32} {v2 : Int32} {v3 : Int32} (hw : w_X8_livingHeirs_b24 q K4 S v0 v1 v2 v3) : Z p l e R s m args below meth c (MQ below (hQ G B (iP q)) args s mc ms (fun r => B ≤ r)) G B mc ms 4 S 0 0 24 [some (.ref v0), some (.int v1), some (.int v2), some (.int v3)] [] := by
  unfold w_X8_livingHeirs_b24 at hw
  refine z_inc (i := 3) hC ic_1 dX8_livingHeirs_24 rfl (by decide) (hok_v rfl rfl) (fun y24 e24 => ?_)
  have hw := hw y24 e24
  refine z_goto (tgt := 4) hC dX8_livingHeirs_27 (by decide) ?_
  refine z_mask (lv' := [some (.ref v0), some (.int v1), some (.int v2), some (.int y24)]) [true, true, true, true] rfl ?_
  exact hK4 hw
def w_X8_livingHeirs_b4 (q : Int32 → hS → Prop) : Nat → hS → (Nat) → (Int32) → (Int32) → (Int32) → Prop
  | 0, _, _, _, _, _ => False
  | n + 1, S, v0, v1, v2, v3 => gI S v0 8 4 (fun x6 => (x6 ≤ v3 → q v2 S) ∧ (¬ x6 ≤ v3 → oK S v0 8 ∧ w_X8_isLivingHeir (fun x15 S => (x15 = 0 → w_X8_livingHeirs_b24 q (fun S v0 v1 v2 v3 => w_X8_livingHeirs_b4 q n S v0 v1 v2 v3) S v0 v1 v2 v3) ∧ (¬ x15 = 0 → ∀ y21 : Int32, y21 = v2 + 1 → w_X8_livingHeirs_b24 q (fun S v0 v1 v2 v3 => w_X8_livingHeirs_b4 q n S v0 v1 v2 v3) S v0 v1 y21 v3)) S v0 v1 v3))
set_option maxRecDepth 100000 in
set_option maxHeartbeats 4000000 in
theorem t_X8_livingHeirs_b4 (hC : zC p R s m args c cX8_livingHeirs 4 RX8 G B mc ms 4 124) (hr : meth.sig.returnType = (Option.some FieldType.int)) (hlk : meth.locks = false) (hnm : meth.name = "livingHeirs") {q : Int32 → hS → Prop} (n : Nat) : ∀ {S : hS} {v0 : Nat} {v1 : Int32} {v2 : Int32} {v3 : Int32} (hw : w_X8_livingHeirs_b4 q n S v0 v1 v2 v3), Z p l e R s m args below meth c (MQ below (hQ G B (iP q)) args s mc ms (fun r => B ≤ r)) G B mc ms 4 S 0 0 4 [some (.ref v0), some (.int v1), some (.int v2), some (.int v3)] [] := by
  induction n with
  | zero => intro S v0 v1 v2 v3 hw; exact (by rw [w_X8_livingHeirs_b4] at hw; exact hw.elim)
  | succ n ih =>
    intro S v0 v1 v2 v3 hw
    rw [w_X8_livingHeirs_b4] at hw
    refine z_iload_n hC dX8_livingHeirs_4 rfl rfl ?_
    refine z_aload_n hC dX8_livingHeirs_5 rfl rfl ?_
    refine z_getI hC FX8 4 lk_215 dX8_livingHeirs_6 (by decide) hw (fun x6 hw => ?_)
    refine z_icmp_ge (tgt := 30) hC dX8_livingHeirs_9 (by decide) (fun c9 => ?_) (fun c9 => ?_)
    · have hw := hw.1 c9
      refine z_iload_n hC dX8_livingHeirs_30 rfl rfl ?_
      exact z_iret hC hr hlk dX8_livingHeirs_31 ⟨_, rfl, hw⟩
    · have hw := hw.2 c9
      refine z_aload_n hC dX8_livingHeirs_12 rfl rfl ?_
      refine z_iload_n hC dX8_livingHeirs_13 rfl rfl ?_
      refine z_iload_n hC dX8_livingHeirs_14 rfl rfl ?_
      refine z_callV (ku' := 0) (kv' := 0) (n := 2) (As := [.int v1, .int v3]) (st := []) hC (c_X8_isLivingHeir l G B S v0 v1 v3 _) hw.2 hw.1 rfl lk_1076 lk_1077 lk_1078 lk_122 lk_1079 hd_X8_isLivingHeir rfl rfl (Nat.le_of_ble_eq_true rfl) (Nat.le_of_ble_eq_true rfl) rfl (Nat.le_of_ble_eq_true rfl) dX8_livingHeirs_15 (Nat.le_refl 0) (Nat.le_refl 0) (kI (fun x15 S hw => ?_))
      refine z_if_eq (tgt := 24) hC dX8_livingHeirs_18 (by decide) (fun c18 => ?_) (fun c18 => ?_)
      · have hw := hw.1 c18
        refine z_mask (lv' := [some (.ref v0), some (.int v1), some (.int v2), some (.int v3)]) [true, true, true, true] rfl ?_
        exact t_X8_livingHeirs_b24 hC hr hlk hnm (fun hw => ih hw) hw
      · have hw := hw.2 c18
        refine z_inc (i := 2) hC ic_1 dX8_livingHeirs_21 rfl (by decide) (hok_v rfl rfl) (fun y21 e21 => ?_)
        have hw := hw y21 e21
        refine z_mask (lv' := [some (.ref v0), some (.int v1), some (.int y21), some (.int v3)]) [true, true, true, true] rfl ?_
        exact t_X8_livingHeirs_b24 hC hr hlk hnm (fun hw => ih hw) hw
def w_X8_livingHeirs (q : Int32 → hS → Prop) (S : hS) (v0 : Nat) (v1 : Int32) : Prop := (∃ n4 : Nat, w_X8_livingHeirs_b4 q n4 S v0 v1 0 0)
set_option maxRecDepth 100000 in
set_option maxHeartbeats 4000000 in
theorem c_X8_livingHeirs (l : Launch) (G : hG) (B : Nat) (S : hS) (v0 : Nat) (v1 : Int32) (q : Int32 → hS → Prop) : Met l yX8_livingHeirs (hws yX8_livingHeirs cX8_livingHeirs 4 (Option.some FieldType.int)) ({ frames := 4, cells := 0, slots := 0, locals := 124 }) (hPc G B S [.ref v0, .int v1] (w_X8_livingHeirs q S v0 v1)) (hQ G B (iP q)) (0) (0) (fun r => B ≤ r) := by
  refine hMet (rm := { frames := 4, cells := 0, slots := 0, locals := 124 }) (lv := [some (.ref v0), some (.int v1), none, none]) (own := RX8) (fr := 4) (lo := 124) (by decide) rfl rfl rfl (Nat.le_of_ble_eq_true rfl) rfl (fun hw p e R s m args below meth c hC hr hlk hnm => ?_)
  unfold w_X8_livingHeirs at hw
  refine z_iconst hC ic_0 dX8_livingHeirs_0 ?_
  refine z_istore_n (i := 2) (lv' := [some (.ref v0), some (.int v1), some (.int 0), none]) hC rfl dX8_livingHeirs_1 (by decide) (hok_v rfl rfl) rfl ?_
  refine z_iconst hC ic_0 dX8_livingHeirs_2 ?_
  refine z_istore_n (i := 3) (lv' := [some (.ref v0), some (.int v1), some (.int 0), some (.int 0)]) hC rfl dX8_livingHeirs_3 (by decide) (hok_v rfl rfl) rfl ?_
  refine z_mask (lv' := [some (.ref v0), some (.int v1), some (.int 0), some (.int 0)]) [true, true, true, true] rfl ?_
  obtain ⟨n4, hw⟩ := hw
  exact t_X8_livingHeirs_b4 hC hr hlk hnm n4 hw
end
section
variable {p : Program} {l : Launch} {e : Env} {R : Room} {s : State} {m : MethodId} {args : Array Value} {below : List Frame} {meth : Method} {c : Code} {G : hG} {B mc ms : Nat}
def w_X1_divide_b79 (q : hS → Prop) (K15 : hS → (Nat) → (Int32) → (Int32) → (Int32) → (Int32) → (Nat) → (Int32) → (Int32) → Prop) (S : hS) (v0 : Nat) (v1 : Int32) (v2 : Int32) (v3 : Int32) (v4 : Int32) (v5 : Nat) (v6 : Int32) (v7 : Int32) : Prop := ∀ y79 : Int32, y79 = v7 + 1 → K15 S v0 v1 v2 v3 v4 v5 v6 y79
set_option maxRecDepth 100000 in
set_option maxHeartbeats 4000000 in
theorem t_X1_divide_b79 (hC : zC p R s m args c cX1_divide 9 RX1 G B mc ms 4 124) (hr : meth.sig.returnType = (Option.none : Option FieldType)) (hlk : meth.locks = false) (hnm : meth.name = "divide") {q : hS → Prop} {K15 : hS → (Nat) → (Int32) → (Int32) → (Int32) → (Int32) → (Nat) → (Int32) → (Int32) → Prop} (hK15 : ∀ {S : hS} {v0 : Nat} {v1 : Int32} {v2 : Int32} {v3 : Int32} {v4 : Int32} {v5 : Nat} {v6 : Int32} {v7 : Int32}, K15 S v0 v1 v2 v3 v4 v5 v6 v7 → Z p l e R s m args below meth c (MQ below (hQ G B (vP q)) args s mc ms (fun r => B ≤ r)) G B mc ms 9 S 0 0 15 [some (.ref v0), some (.int v1), some (.int v2), some (.int v3), some (.int v4), some (.ref v5), some (.int v6), some (.int v7), none] []) {S : hS} {v0 : Nat} {v1 : Int32} {v2 : Int32} {v3 : Int32} {v4 : Int32} {v5 : Nat} {v6 : Int32} {v7 : Int32} (hw : w_X1_divide_b79 q K15 S v0 v1 v2 v3 v4 v5 v6 v7) : Z p l e R s m args below meth c (MQ below (hQ G B (vP q)) args s mc ms (fun r => B ≤ r)) G B mc ms 9 S 0 0 79 [some (.ref v0), some (.int v1), some (.int v2), some (.int v3), some (.int v4), some (.ref v5), some (.int v6), some (.int v7), none] [] := by
  unfold w_X1_divide_b79 at hw
  refine z_inc (i := 7) hC ic_1 dX1_divide_79 rfl (by decide) (hok_v rfl rfl) (fun y79 e79 => ?_)
  have hw := hw y79 e79
  refine z_goto (tgt := 15) hC dX1_divide_82 (by decide) ?_
  refine z_mask (lv' := [some (.ref v0), some (.int v1), some (.int v2), some (.int v3), some (.int v4), some (.ref v5), some (.int v6), some (.int y79), none]) [true, true, true, true, true, true, true, true, false] rfl ?_
  exact hK15 hw
def w_X1_divide_b48 (q : hS → Prop) (K15 : hS → (Nat) → (Int32) → (Int32) → (Int32) → (Int32) → (Nat) → (Int32) → (Int32) → Prop) (S : hS) (v0 : Nat) (v1 : Int32) (v2 : Int32) (v3 : Int32) (v4 : Int32) (v5 : Nat) (v6 : Int32) (v7 : Int32) (t0 : Int32) : Prop := w_X11_slot (fun x55 S => w_X11_slot (fun x63 S => aI S v5 x63 (fun x66 => sI S v5 x55 (if 99 < (x66 + t0) then 99 else (x66 + t0)) (fun S => ∀ y76 : Int32, y76 = v6 + 1 → w_X1_divide_b79 q K15 S v0 v1 v2 v3 v4 v5 y76 v7))) S v7 v2) S v7 v2
set_option maxRecDepth 100000 in
set_option maxHeartbeats 4000000 in
theorem t_X1_divide_b48 (hC : zC p R s m args c cX1_divide 9 RX1 G B mc ms 4 124) (hr : meth.sig.returnType = (Option.none : Option FieldType)) (hlk : meth.locks = false) (hnm : meth.name = "divide") {q : hS → Prop} {K15 : hS → (Nat) → (Int32) → (Int32) → (Int32) → (Int32) → (Nat) → (Int32) → (Int32) → Prop} (hK15 : ∀ {S : hS} {v0 : Nat} {v1 : Int32} {v2 : Int32} {v3 : Int32} {v4 : Int32} {v5 : Nat} {v6 : Int32} {v7 : Int32}, K15 S v0 v1 v2 v3 v4 v5 v6 v7 → Z p l e R s m args below meth c (MQ below (hQ G B (vP q)) args s mc ms (fun r => B ≤ r)) G B mc ms 9 S 0 0 15 [some (.ref v0), some (.int v1), some (.int v2), some (.int v3), some (.int v4), some (.ref v5), some (.int v6), some (.int v7), none] []) {S : hS} {v0 : Nat} {v1 : Int32} {v2 : Int32} {v3 : Int32} {v4 : Int32} {v5 : Nat} {v6 : Int32} {v7 : Int32} {t0 : Int32} (hw : w_X1_divide_b48 q K15 S v0 v1 v2 v3 v4 v5 v6 v7 t0) : Z p l e R s m args below meth c (MQ below (hQ G B (vP q)) args s mc ms (fun r => B ≤ r)) G B mc ms 9 S 0 0 48 [some (.ref v0), some (.int v1), some (.int v2), some (.int v3), some (.int v4), some (.ref v5), some (.int v6), some (.int v7), none] [.int t0] := by
  unfold w_X1_divide_b48 at hw
  refine z_istore (i := 8) (lv' := [some (.ref v0), some (.int v1), some (.int v2), some (.int v3), some (.int v4), some (.ref v5), some (.int v6), some (.int v7), some (.int t0)]) hC dX1_divide_48 (by decide) (hok_v rfl rfl) rfl ?_
  refine z_aload hC dX1_divide_50 rfl ?_
  refine z_iload hC dX1_divide_52 rfl ?_
  refine z_iload_n hC dX1_divide_54 rfl rfl ?_
  refine z_callSN (ku' := 0) (kv' := 0) (n := 2) (As := [.int v7, .int v2]) (st := [.ref v5]) (host := "BellHeirs") hC (c_X11_slot l G B S v7 v2 _) hw (by decide +kernel) lk_590 lk_121 lk_591 hd_X11_slot.2 rfl rfl (Nat.le_of_ble_eq_true rfl) (Nat.le_of_ble_eq_true rfl) rfl (Nat.le_of_ble_eq_true rfl) dX1_divide_55 (Nat.le_refl 0) (Nat.le_refl 0) (kI (fun x55 S hw => ?_))
  refine z_aload hC dX1_divide_58 rfl ?_
  refine z_iload hC dX1_divide_60 rfl ?_
  refine z_iload_n hC dX1_divide_62 rfl rfl ?_
  refine z_callSN (ku' := 0) (kv' := 0) (n := 2) (As := [.int v7, .int v2]) (st := [.ref v5, .int x55, .ref v5]) (host := "BellHeirs") hC (c_X11_slot l G B S v7 v2 _) hw (by decide +kernel) lk_590 lk_121 lk_591 hd_X11_slot.2 rfl rfl (Nat.le_of_ble_eq_true rfl) (Nat.le_of_ble_eq_true rfl) rfl (Nat.le_of_ble_eq_true rfl) dX1_divide_63 (Nat.le_refl 0) (Nat.le_refl 0) (kI (fun x63 S hw => ?_))
  refine z_aldI hC dX1_divide_66 hw (fun x66 hw => ?_)
  refine z_iload hC dX1_divide_67 rfl ?_
  refine z_iadd hC dX1_divide_69 ?_
  refine z_bipush hC bi_99 dX1_divide_70 ?_
  refine z_mmin hC lk_1062 lk_657 lk_134 lk_658 dX1_divide_72 (by decide) (Nat.le_of_ble_eq_true rfl) ?_
  refine z_astI hC dX1_divide_75 hw (fun S hw => ?_)
  refine z_inc (i := 6) hC ic_1 dX1_divide_76 rfl (by decide) (hok_v rfl rfl) (fun y76 e76 => ?_)
  have hw := hw y76 e76
  refine z_mask (lv' := [some (.ref v0), some (.int v1), some (.int v2), some (.int v3), some (.int v4), some (.ref v5), some (.int y76), some (.int v7), none]) [true, true, true, true, true, true, true, true, false] rfl ?_
  exact t_X1_divide_b79 hC hr hlk hnm hK15 hw
def w_X1_divide_b15 (q : hS → Prop) : Nat → hS → (Nat) → (Int32) → (Int32) → (Int32) → (Int32) → (Nat) → (Int32) → (Int32) → Prop
  | 0, _, _, _, _, _, _, _, _, _ => False
  | n + 1, S, v0, v1, v2, v3, v4, v5, v6, v7 => gI S v0 8 4 (fun x18 => (x18 ≤ v7 → q S) ∧ (¬ x18 ≤ v7 → oK S v0 8 ∧ w_X8_isLivingHeir (fun x28 S => (x28 = 0 → w_X1_divide_b79 q (fun S v0 v1 v2 v3 v4 v5 v6 v7 => w_X1_divide_b15 q n S v0 v1 v2 v3 v4 v5 v6 v7) S v0 v1 v2 v3 v4 v5 v6 v7) ∧ (¬ x28 = 0 → (v4 ≤ v6 → w_X1_divide_b48 q (fun S v0 v1 v2 v3 v4 v5 v6 v7 => w_X1_divide_b15 q n S v0 v1 v2 v3 v4 v5 v6 v7) S v0 v1 v2 v3 v4 v5 v6 v7 v3) ∧ (¬ v4 ≤ v6 → w_X1_divide_b48 q (fun S v0 v1 v2 v3 v4 v5 v6 v7 => w_X1_divide_b15 q n S v0 v1 v2 v3 v4 v5 v6 v7) S v0 v1 v2 v3 v4 v5 v6 v7 (v3 + 1)))) S v0 v1 v7))
set_option maxRecDepth 100000 in
set_option maxHeartbeats 4000000 in
theorem t_X1_divide_b15 (hC : zC p R s m args c cX1_divide 9 RX1 G B mc ms 4 124) (hr : meth.sig.returnType = (Option.none : Option FieldType)) (hlk : meth.locks = false) (hnm : meth.name = "divide") {q : hS → Prop} (n : Nat) : ∀ {S : hS} {v0 : Nat} {v1 : Int32} {v2 : Int32} {v3 : Int32} {v4 : Int32} {v5 : Nat} {v6 : Int32} {v7 : Int32} (hw : w_X1_divide_b15 q n S v0 v1 v2 v3 v4 v5 v6 v7), Z p l e R s m args below meth c (MQ below (hQ G B (vP q)) args s mc ms (fun r => B ≤ r)) G B mc ms 9 S 0 0 15 [some (.ref v0), some (.int v1), some (.int v2), some (.int v3), some (.int v4), some (.ref v5), some (.int v6), some (.int v7), none] [] := by
  induction n with
  | zero => intro S v0 v1 v2 v3 v4 v5 v6 v7 hw; exact (by rw [w_X1_divide_b15] at hw; exact hw.elim)
  | succ n ih =>
    intro S v0 v1 v2 v3 v4 v5 v6 v7 hw
    rw [w_X1_divide_b15] at hw
    refine z_iload hC dX1_divide_15 rfl ?_
    refine z_aload_n hC dX1_divide_17 rfl rfl ?_
    refine z_getI hC FX8 4 lk_219 dX1_divide_18 (by decide) hw (fun x18 hw => ?_)
    refine z_icmp_ge (tgt := 85) hC dX1_divide_21 (by decide) (fun c21 => ?_) (fun c21 => ?_)
    · have hw := hw.1 c21
      exact z_vret hC hr hlk dX1_divide_85 ⟨rfl, hw⟩
    · have hw := hw.2 c21
      refine z_aload_n hC dX1_divide_24 rfl rfl ?_
      refine z_iload_n hC dX1_divide_25 rfl rfl ?_
      refine z_iload hC dX1_divide_26 rfl ?_
      refine z_callV (ku' := 0) (kv' := 0) (n := 2) (As := [.int v1, .int v7]) (st := []) hC (c_X8_isLivingHeir l G B S v0 v1 v7 _) hw.2 hw.1 rfl lk_1083 lk_1077 lk_1078 lk_122 lk_1079 hd_X8_isLivingHeir rfl rfl (Nat.le_of_ble_eq_true rfl) (Nat.le_of_ble_eq_true rfl) rfl (Nat.le_of_ble_eq_true rfl) dX1_divide_28 (Nat.le_refl 0) (Nat.le_refl 0) (kI (fun x28 S hw => ?_))
      refine z_if_eq (tgt := 79) hC dX1_divide_31 (by decide) (fun c31 => ?_) (fun c31 => ?_)
      · have hw := hw.1 c31
        refine z_mask (lv' := [some (.ref v0), some (.int v1), some (.int v2), some (.int v3), some (.int v4), some (.ref v5), some (.int v6), some (.int v7), none]) [true, true, true, true, true, true, true, true, false] rfl ?_
        exact t_X1_divide_b79 hC hr hlk hnm (fun hw => ih hw) hw
      · have hw := hw.2 c31
        refine z_iload hC dX1_divide_34 rfl ?_
        refine z_iload hC dX1_divide_36 rfl ?_
        refine z_icmp_ge (tgt := 47) hC dX1_divide_38 (by decide) (fun c38 => ?_) (fun c38 => ?_)
        · have hw := hw.1 c38
          refine z_iload_n hC dX1_divide_47 rfl rfl ?_
          refine z_mask (lv' := [some (.ref v0), some (.int v1), some (.int v2), some (.int v3), some (.int v4), some (.ref v5), some (.int v6), some (.int v7), none]) [true, true, true, true, true, true, true, true, false] rfl ?_
          exact t_X1_divide_b48 hC hr hlk hnm (fun hw => ih hw) hw
        · have hw := hw.2 c38
          refine z_iload_n hC dX1_divide_41 rfl rfl ?_
          refine z_iconst hC ic_1 dX1_divide_42 ?_
          refine z_iadd hC dX1_divide_43 ?_
          refine z_goto (tgt := 48) hC dX1_divide_44 (by decide) ?_
          refine z_mask (lv' := [some (.ref v0), some (.int v1), some (.int v2), some (.int v3), some (.int v4), some (.ref v5), some (.int v6), some (.int v7), none]) [true, true, true, true, true, true, true, true, false] rfl ?_
          exact t_X1_divide_b48 hC hr hlk hnm (fun hw => ih hw) hw
def w_X1_divide (q : hS → Prop) (S : hS) (v0 : Nat) (v1 : Int32) (v2 : Int32) (v3 : Int32) (v4 : Int32) : Prop := gP S v0 8 0 (fun x1 => gP S x1 2 0 (fun x4 => (∃ n15 : Nat, w_X1_divide_b15 q n15 S v0 v1 v2 v3 v4 x4 0 0)))
set_option maxRecDepth 100000 in
set_option maxHeartbeats 4000000 in
theorem c_X1_divide (l : Launch) (G : hG) (B : Nat) (S : hS) (v0 : Nat) (v1 : Int32) (v2 : Int32) (v3 : Int32) (v4 : Int32) (q : hS → Prop) : Met l yX1_divide (hws yX1_divide cX1_divide 9 (Option.none : Option FieldType)) ({ frames := 4, cells := 0, slots := 0, locals := 124 }) (hPc G B S [.ref v0, .int v1, .int v2, .int v3, .int v4] (w_X1_divide q S v0 v1 v2 v3 v4)) (hQ G B (vP q)) (0) (0) (fun r => B ≤ r) := by
  refine hMet (rm := { frames := 4, cells := 0, slots := 0, locals := 124 }) (lv := [some (.ref v0), some (.int v1), some (.int v2), some (.int v3), some (.int v4), none, none, none, none]) (own := RX1) (fr := 4) (lo := 124) (by decide) rfl rfl rfl (Nat.le_of_ble_eq_true rfl) rfl (fun hw p e R s m args below meth c hC hr hlk hnm => ?_)
  unfold w_X1_divide at hw
  refine z_aload_n hC dX1_divide_0 rfl rfl ?_
  refine z_getP hC FX8 0 lk_202 dX1_divide_1 (by decide) hw (fun x1 hw => ?_)
  refine z_getP hC FX2 0 lk_163 dX1_divide_4 (by decide) hw (fun x4 hw => ?_)
  refine z_astore (i := 5) (lv' := [some (.ref v0), some (.int v1), some (.int v2), some (.int v3), some (.int v4), some (.ref x4), none, none, none]) hC dX1_divide_7 (by decide) (hok_v rfl rfl) rfl ?_
  refine z_iconst hC ic_0 dX1_divide_9 ?_
  refine z_istore (i := 6) (lv' := [some (.ref v0), some (.int v1), some (.int v2), some (.int v3), some (.int v4), some (.ref x4), some (.int 0), none, none]) hC dX1_divide_10 (by decide) (hok_v rfl rfl) rfl ?_
  refine z_iconst hC ic_0 dX1_divide_12 ?_
  refine z_istore (i := 7) (lv' := [some (.ref v0), some (.int v1), some (.int v2), some (.int v3), some (.int v4), some (.ref x4), some (.int 0), some (.int 0), none]) hC dX1_divide_13 (by decide) (hok_v rfl rfl) rfl ?_
  refine z_mask (lv' := [some (.ref v0), some (.int v1), some (.int v2), some (.int v3), some (.int v4), some (.ref x4), some (.int 0), some (.int 0), none]) [true, true, true, true, true, true, true, true, false] rfl ?_
  obtain ⟨n15, hw⟩ := hw
  exact t_X1_divide_b15 hC hr hlk hnm n15 hw
end
