section
variable {p : Program} {l : Launch} {e : Env} {R : Room} {s : State} {m : MethodId} {args : Array Value} {below : List Frame} {meth : Method} {c : Code} {G : hG} {B mc ms : Nat}
def w_X12_passIt_b26 (q : hS → Prop) : Nat → hS → (Nat) → (Int32) → Prop
  | 0, _, _, _ => False
  | n + 1, S, v0, v1 => (6 ≤ v1 → gP S v0 12 3 (fun x49 => aI S x49 5 (fun x54 => sI S x49 5 (x54 + 1) (fun S => q S)))) ∧ (¬ 6 ≤ v1 → gP S v0 12 3 (fun x33 => sI S x33 (8 + v1) 0 (fun S => ∀ y42 : Int32, y42 = v1 + 1 → w_X12_passIt_b26 q n S v0 y42)))
set_option maxRecDepth 100000 in
set_option maxHeartbeats 4000000 in
theorem t_X12_passIt_b26 (hC : zC p R s m args c cX12_passIt 2 RX12 G B mc ms 1 60) (hr : meth.sig.returnType = (Option.none : Option FieldType)) (hlk : meth.locks = false) (hnm : meth.name = "passIt") {q : hS → Prop} (n : Nat) : ∀ {S : hS} {v0 : Nat} {v1 : Int32} (hw : w_X12_passIt_b26 q n S v0 v1), Z p l e R s m args below meth c (MQ below (hQ G B (vP q)) args s mc ms (fun r => B ≤ r)) G B mc ms 2 S 0 0 26 [some (.ref v0), some (.int v1)] [] := by
  induction n with
  | zero => intro S v0 v1 hw; exact (by rw [w_X12_passIt_b26] at hw; exact hw.elim)
  | succ n ih =>
    intro S v0 v1 hw
    rw [w_X12_passIt_b26] at hw
    refine z_iload_n hC dX12_passIt_26 rfl rfl ?_
    refine z_bipush hC bi_6 dX12_passIt_27 ?_
    refine z_icmp_ge (tgt := 48) hC dX12_passIt_29 (by decide) (fun c29 => ?_) (fun c29 => ?_)
    · have hw := hw.1 c29
      refine z_aload_n hC dX12_passIt_48 rfl rfl ?_
      refine z_getP hC FX12 3 lk_1358 dX12_passIt_49 (by decide) hw (fun x49 hw => ?_)
      refine z_iconst hC ic_5 dX12_passIt_52 ?_
      refine z_dup2_11 hC rfl rfl dX12_passIt_53 ?_
      refine z_aldI hC dX12_passIt_54 hw (fun x54 hw => ?_)
      refine z_iconst hC ic_1 dX12_passIt_55 ?_
      refine z_iadd hC dX12_passIt_56 ?_
      refine z_astI hC dX12_passIt_57 hw (fun S hw => ?_)
      exact z_vret hC hr hlk dX12_passIt_58 ⟨rfl, hw⟩
    · have hw := hw.2 c29
      refine z_aload_n hC dX12_passIt_32 rfl rfl ?_
      refine z_getP hC FX12 3 lk_1358 dX12_passIt_33 (by decide) hw (fun x33 hw => ?_)
      refine z_bipush hC bi_8 dX12_passIt_36 ?_
      refine z_iload_n hC dX12_passIt_38 rfl rfl ?_
      refine z_iadd hC dX12_passIt_39 ?_
      refine z_iconst hC ic_0 dX12_passIt_40 ?_
      refine z_astI hC dX12_passIt_41 hw (fun S hw => ?_)
      refine z_inc (i := 1) hC ic_1 dX12_passIt_42 rfl (by decide) (hok_v rfl rfl) (fun y42 e42 => ?_)
      have hw := hw y42 e42
      refine z_goto (tgt := 26) hC dX12_passIt_45 (by decide) ?_
      refine z_mask (lv' := [some (.ref v0), some (.int y42)]) [true, true] rfl ?_
      exact ih hw
def w_X12_passIt_b2 (q : hS → Prop) : Nat → hS → (Nat) → (Int32) → Prop
  | 0, _, _, _ => False
  | n + 1, S, v0, v1 => (48 ≤ v1 → (∃ n26 : Nat, w_X12_passIt_b26 q n26 S v0 0)) ∧ (¬ 48 ≤ v1 → gP S v0 12 3 (fun x9 => sI S x9 (78 + v1) 0 (fun S => ∀ y18 : Int32, y18 = v1 + 1 → w_X12_passIt_b2 q n S v0 y18)))
set_option maxRecDepth 100000 in
set_option maxHeartbeats 4000000 in
theorem t_X12_passIt_b2 (hC : zC p R s m args c cX12_passIt 2 RX12 G B mc ms 1 60) (hr : meth.sig.returnType = (Option.none : Option FieldType)) (hlk : meth.locks = false) (hnm : meth.name = "passIt") {q : hS → Prop} (n : Nat) : ∀ {S : hS} {v0 : Nat} {v1 : Int32} (hw : w_X12_passIt_b2 q n S v0 v1), Z p l e R s m args below meth c (MQ below (hQ G B (vP q)) args s mc ms (fun r => B ≤ r)) G B mc ms 2 S 0 0 2 [some (.ref v0), some (.int v1)] [] := by
  induction n with
  | zero => intro S v0 v1 hw; exact (by rw [w_X12_passIt_b2] at hw; exact hw.elim)
  | succ n ih =>
    intro S v0 v1 hw
    rw [w_X12_passIt_b2] at hw
    refine z_iload_n hC dX12_passIt_2 rfl rfl ?_
    refine z_bipush hC bi_48 dX12_passIt_3 ?_
    refine z_icmp_ge (tgt := 24) hC dX12_passIt_5 (by decide) (fun c5 => ?_) (fun c5 => ?_)
    · have hw := hw.1 c5
      refine z_iconst hC ic_0 dX12_passIt_24 ?_
      refine z_istore_n (i := 1) (lv' := [some (.ref v0), some (.int 0)]) hC rfl dX12_passIt_25 (by decide) (hok_v rfl rfl) rfl ?_
      refine z_mask (lv' := [some (.ref v0), some (.int 0)]) [true, true] rfl ?_
      obtain ⟨n26, hw⟩ := hw
      exact t_X12_passIt_b26 hC hr hlk hnm n26 hw
    · have hw := hw.2 c5
      refine z_aload_n hC dX12_passIt_8 rfl rfl ?_
      refine z_getP hC FX12 3 lk_1358 dX12_passIt_9 (by decide) hw (fun x9 hw => ?_)
      refine z_bipush hC bi_78 dX12_passIt_12 ?_
      refine z_iload_n hC dX12_passIt_14 rfl rfl ?_
      refine z_iadd hC dX12_passIt_15 ?_
      refine z_iconst hC ic_0 dX12_passIt_16 ?_
      refine z_astI hC dX12_passIt_17 hw (fun S hw => ?_)
      refine z_inc (i := 1) hC ic_1 dX12_passIt_18 rfl (by decide) (hok_v rfl rfl) (fun y18 e18 => ?_)
      have hw := hw y18 e18
      refine z_goto (tgt := 2) hC dX12_passIt_21 (by decide) ?_
      refine z_mask (lv' := [some (.ref v0), some (.int y18)]) [true, true] rfl ?_
      exact ih hw
def w_X12_passIt (q : hS → Prop) (S : hS) (v0 : Nat) : Prop := (∃ n2 : Nat, w_X12_passIt_b2 q n2 S v0 0)
set_option maxRecDepth 100000 in
set_option maxHeartbeats 4000000 in
theorem c_X12_passIt (l : Launch) (G : hG) (B : Nat) (S : hS) (v0 : Nat) (q : hS → Prop) : Met l yX12_passIt (hws yX12_passIt cX12_passIt 2 (Option.none : Option FieldType)) ({ frames := 1, cells := 0, slots := 0, locals := 60 }) (hPc G B S [.ref v0] (w_X12_passIt q S v0)) (hQ G B (vP q)) (0) (0) (fun r => B ≤ r) := by
  refine hMet (rm := { frames := 1, cells := 0, slots := 0, locals := 60 }) (lv := [some (.ref v0), none]) (own := RX12) (fr := 1) (lo := 60) (by decide) rfl rfl rfl (Nat.le_of_ble_eq_true rfl) rfl (fun hw p e R s m args below meth c hC hr hlk hnm => ?_)
  unfold w_X12_passIt at hw
  refine z_iconst hC ic_0 dX12_passIt_0 ?_
  refine z_istore_n (i := 1) (lv' := [some (.ref v0), some (.int 0)]) hC rfl dX12_passIt_1 (by decide) (hok_v rfl rfl) rfl ?_
  refine z_mask (lv' := [some (.ref v0), some (.int 0)]) [true, true] rfl ?_
  obtain ⟨n2, hw⟩ := hw
  exact t_X12_passIt_b2 hC hr hlk hnm n2 hw
end
section
variable {p : Program} {l : Launch} {e : Env} {R : Room} {s : State} {m : MethodId} {args : Array Value} {below : List Frame} {meth : Method} {c : Code} {G : hG} {B mc ms : Nat}
def w_X12_passNow (q : Int32 → hS → Prop) (S : hS) (v0 : Nat) : Prop := oK S v0 12 ∧ w_X12_yearNow (fun x1 S => (¬ x1 = 999 → oK S v0 12 ∧ w_X12_remember (fun S => oK S v0 12 ∧ w_X12_passIt (fun S => oK S v0 12 ∧ w_X12_yearNow (fun x23 S => q x23 S) S v0) S v0) S v0 3) ∧ (x1 = 999 → q (-3) S)) S v0
set_option maxRecDepth 100000 in
set_option maxHeartbeats 4000000 in
theorem c_X12_passNow (l : Launch) (G : hG) (B : Nat) (S : hS) (v0 : Nat) (q : Int32 → hS → Prop) : Met l yX12_passNow (hws yX12_passNow cX12_passNow 1 (Option.some FieldType.int)) ({ frames := 3, cells := 0, slots := 0, locals := 104 }) (hPc G B S [.ref v0] (w_X12_passNow q S v0)) (hQ G B (iP q)) (0) (0) (fun r => B ≤ r) := by
  refine hMet (rm := { frames := 3, cells := 0, slots := 0, locals := 104 }) (lv := [some (.ref v0)]) (own := RX12) (fr := 3) (lo := 104) (by decide) rfl rfl rfl (Nat.le_of_ble_eq_true rfl) rfl (fun hw p e R s m args below meth c hC hr hlk hnm => ?_)
  unfold w_X12_passNow at hw
  refine z_aload_n hC dX12_passNow_0 rfl rfl ?_
  refine z_callV (ku' := 0) (kv' := 0) (n := 0) (As := []) (st := []) hC (c_X12_yearNow l G B S v0 _) hw.2 hw.1 rfl lk_1680 lk_1682 lk_60 lk_133 lk_1683 hd_X12_yearNow rfl rfl (Nat.le_of_ble_eq_true rfl) (Nat.le_of_ble_eq_true rfl) rfl (Nat.le_of_ble_eq_true rfl) dX12_passNow_1 (Nat.le_refl 0) (Nat.le_refl 0) (kI (fun x1 S hw => ?_))
  refine z_sipush hC si_999 dX12_passNow_4 ?_
  refine z_icmp_ne (tgt := 13) hC dX12_passNow_7 (by decide) (fun c7 => ?_) (fun c7 => ?_)
  · have hw := hw.1 c7
    refine z_aload_n hC dX12_passNow_13 rfl rfl ?_
    refine z_iconst hC ic_3 dX12_passNow_14 ?_
    refine z_callV (ku' := 0) (kv' := 0) (n := 1) (As := [.int 3]) (st := []) hC (c_X12_remember l G B S v0 3 _) hw.2 hw.1 rfl lk_1872 lk_1874 lk_92 lk_133 lk_1875 hd_X12_remember rfl rfl (Nat.le_of_ble_eq_true rfl) (Nat.le_of_ble_eq_true rfl) rfl (Nat.le_of_ble_eq_true rfl) dX12_passNow_15 (Nat.le_refl 0) (Nat.le_refl 0) (kV (fun S hw => ?_))
    refine z_aload_n hC dX12_passNow_18 rfl rfl ?_
    refine z_callV (ku' := 0) (kv' := 0) (n := 0) (As := []) (st := []) hC (c_X12_passIt l G B S v0 _) hw.2 hw.1 rfl lk_1919 lk_1921 lk_100 lk_133 lk_1922 hd_X12_passIt rfl rfl (Nat.le_of_ble_eq_true rfl) (Nat.le_of_ble_eq_true rfl) rfl (Nat.le_of_ble_eq_true rfl) dX12_passNow_19 (Nat.le_refl 0) (Nat.le_refl 0) (kV (fun S hw => ?_))
    refine z_aload_n hC dX12_passNow_22 rfl rfl ?_
    refine z_callV (ku' := 0) (kv' := 0) (n := 0) (As := []) (st := []) hC (c_X12_yearNow l G B S v0 _) hw.2 hw.1 rfl lk_1680 lk_1682 lk_60 lk_133 lk_1683 hd_X12_yearNow rfl rfl (Nat.le_of_ble_eq_true rfl) (Nat.le_of_ble_eq_true rfl) rfl (Nat.le_of_ble_eq_true rfl) dX12_passNow_23 (Nat.le_refl 0) (Nat.le_refl 0) (kI (fun x23 S hw => ?_))
    exact z_iret hC hr hlk dX12_passNow_26 ⟨_, rfl, hw⟩
  · have hw := hw.2 c7
    refine z_bipush hC bi_m3 dX12_passNow_10 ?_
    exact z_iret hC hr hlk dX12_passNow_12 ⟨_, rfl, hw⟩
end
section
variable {p : Program} {l : Launch} {e : Env} {R : Room} {s : State} {m : MethodId} {args : Array Value} {below : List Frame} {meth : Method} {c : Code} {G : hG} {B mc ms : Nat}
def w_X12_pass (q : Int32 → hS → Prop) (S : hS) (v0 : Nat) : Prop := pI S v0 12 0 0 (fun S => oK S v0 12 ∧ w_X12_passNow (fun x7 S => oK S v0 12 ∧ w_X12_tell (fun x10 S => q x10 S) S v0 x7) S v0)
set_option maxRecDepth 100000 in
set_option maxHeartbeats 4000000 in
theorem c_X12_pass (l : Launch) (G : hG) (B : Nat) (S : hS) (v0 : Nat) (q : Int32 → hS → Prop) : Met l yX12_pass (hws yX12_pass cX12_pass 1 (Option.some FieldType.int)) ({ frames := 4, cells := 0, slots := 0, locals := 124 }) (hPc G B S [.ref v0] (w_X12_pass q S v0)) (hQ G B (iP q)) (0) (0) (fun r => B ≤ r) := by
  refine hMet (rm := { frames := 4, cells := 0, slots := 0, locals := 124 }) (lv := [some (.ref v0)]) (own := RX12) (fr := 4) (lo := 124) (by decide) rfl rfl rfl (Nat.le_of_ble_eq_true rfl) rfl (fun hw p e R s m args below meth c hC hr hlk hnm => ?_)
  unfold w_X12_pass at hw
  refine z_aload_n hC dX12_pass_0 rfl rfl ?_
  refine z_iconst hC ic_0 dX12_pass_1 ?_
  refine z_putI hC FX12 0 lk_1355 dX12_pass_2 (by decide) rfl rfl hw (fun S hw => ?_)
  refine z_aload_n hC dX12_pass_5 rfl rfl ?_
  refine z_aload_n hC dX12_pass_6 rfl rfl ?_
  refine z_callV (ku' := 0) (kv' := 0) (n := 0) (As := []) (st := [.ref v0]) hC (c_X12_passNow l G B S v0 _) hw.2 hw.1 rfl lk_1915 lk_1917 lk_99 lk_133 lk_1918 hd_X12_passNow rfl rfl (Nat.le_of_ble_eq_true rfl) (Nat.le_of_ble_eq_true rfl) rfl (Nat.le_of_ble_eq_true rfl) dX12_pass_7 (Nat.le_refl 0) (Nat.le_refl 0) (kI (fun x7 S hw => ?_))
  refine z_callV (ku' := 0) (kv' := 0) (n := 1) (As := [.int x7]) (st := []) hC (c_X12_tell l G B S v0 x7 _) hw.2 hw.1 rfl lk_1544 lk_1546 lk_41 lk_133 lk_1547 hd_X12_tell rfl rfl (Nat.le_of_ble_eq_true rfl) (Nat.le_of_ble_eq_true rfl) rfl (Nat.le_of_ble_eq_true rfl) dX12_pass_10 (Nat.le_refl 0) (Nat.le_refl 0) (kI (fun x10 S hw => ?_))
  exact z_iret hC hr hlk dX12_pass_13 ⟨_, rfl, hw⟩
end
section
variable {p : Program} {l : Launch} {e : Env} {R : Room} {s : State} {m : MethodId} {args : Array Value} {below : List Frame} {meth : Method} {c : Code} {G : hG} {B mc ms : Nat}
def w_X12_isNew_b33 (q : Int32 → hS → Prop) (K4 : hS → (Nat) → (Int32) → (Int32) → (Int32) → Prop) (S : hS) (v0 : Nat) (v1 : Int32) (v3 : Int32) (t0 : Int32) : Prop := ∀ y34 : Int32, y34 = v3 + 1 → K4 S v0 v1 t0 y34
set_option maxRecDepth 100000 in
set_option maxHeartbeats 4000000 in
theorem t_X12_isNew_b33 (hC : zC p R s m args c cX12_isNew 4 RX12 G B mc ms 1 60) (hr : meth.sig.returnType = (Option.some FieldType.boolean)) (hlk : meth.locks = false) (hnm : meth.name = "isNew") {q : Int32 → hS → Prop} {K4 : hS → (Nat) → (Int32) → (Int32) → (Int32) → Prop} (hK4 : ∀ {S : hS} {v0 : Nat} {v1 : Int32} {v2 : Int32} {v3 : Int32}, K4 S v0 v1 v2 v3 → Z p l e R s m args below meth c (MQ below (hQ G B (iP q)) args s mc ms (fun r => B ≤ r)) G B mc ms 4 S 0 0 4 [some (.ref v0), some (.int v1), some (.int v2), some (.int v3)] []) {S : hS} {v0 : Nat} {v1 : Int32} {v3 : Int32} {t0 : Int32} (hw : w_X12_isNew_b33 q K4 S v0 v1 v3 t0) : Z p l e R s m args below meth c (MQ below (hQ G B (iP q)) args s mc ms (fun r => B ≤ r)) G B mc ms 4 S 0 0 33 [some (.ref v0), some (.int v1), none, some (.int v3)] [.int t0] := by
  unfold w_X12_isNew_b33 at hw
  refine z_istore_n (i := 2) (lv' := [some (.ref v0), some (.int v1), some (.int t0), some (.int v3)]) hC rfl dX12_isNew_33 (by decide) (hok_v rfl rfl) rfl ?_
  refine z_inc (i := 3) hC ic_1 dX12_isNew_34 rfl (by decide) (hok_v rfl rfl) (fun y34 e34 => ?_)
  have hw := hw y34 e34
  refine z_goto (tgt := 4) hC dX12_isNew_37 (by decide) ?_
  refine z_mask (lv' := [some (.ref v0), some (.int v1), some (.int t0), some (.int y34)]) [true, true, true, true] rfl ?_
  exact hK4 hw
def w_X12_isNew_b32 (q : Int32 → hS → Prop) (K4 : hS → (Nat) → (Int32) → (Int32) → (Int32) → Prop) (S : hS) (v0 : Nat) (v1 : Int32) (v3 : Int32) : Prop := w_X12_isNew_b33 q K4 S v0 v1 v3 0
set_option maxRecDepth 100000 in
set_option maxHeartbeats 4000000 in
theorem t_X12_isNew_b32 (hC : zC p R s m args c cX12_isNew 4 RX12 G B mc ms 1 60) (hr : meth.sig.returnType = (Option.some FieldType.boolean)) (hlk : meth.locks = false) (hnm : meth.name = "isNew") {q : Int32 → hS → Prop} {K4 : hS → (Nat) → (Int32) → (Int32) → (Int32) → Prop} (hK4 : ∀ {S : hS} {v0 : Nat} {v1 : Int32} {v2 : Int32} {v3 : Int32}, K4 S v0 v1 v2 v3 → Z p l e R s m args below meth c (MQ below (hQ G B (iP q)) args s mc ms (fun r => B ≤ r)) G B mc ms 4 S 0 0 4 [some (.ref v0), some (.int v1), some (.int v2), some (.int v3)] []) {S : hS} {v0 : Nat} {v1 : Int32} {v3 : Int32} (hw : w_X12_isNew_b32 q K4 S v0 v1 v3) : Z p l e R s m args below meth c (MQ below (hQ G B (iP q)) args s mc ms (fun r => B ≤ r)) G B mc ms 4 S 0 0 32 [some (.ref v0), some (.int v1), none, some (.int v3)] [] := by
  unfold w_X12_isNew_b32 at hw
  refine z_iconst hC ic_0 dX12_isNew_32 ?_
  refine z_mask (lv' := [some (.ref v0), some (.int v1), none, some (.int v3)]) [true, true, false, true] rfl ?_
  exact t_X12_isNew_b33 hC hr hlk hnm hK4 hw
def w_X12_isNew_b4 (q : Int32 → hS → Prop) : Nat → hS → (Nat) → (Int32) → (Int32) → (Int32) → Prop
  | 0, _, _, _, _, _ => False
  | n + 1, S, v0, v1, v2, v3 => (v1 ≤ v3 → (v2 = 0 ∨ v2 = 1) ∧ q v2 S) ∧ (¬ v1 ≤ v3 → (v2 = 0 → w_X12_isNew_b32 q (fun S v0 v1 v2 v3 => w_X12_isNew_b4 q n S v0 v1 v2 v3) S v0 v1 v3) ∧ (¬ v2 = 0 → gP S v0 12 41 (fun x14 => aI S x14 v3 (fun x18 => gP S v0 12 41 (fun x20 => aI S x20 v1 (fun x24 => (x18 = x24 → w_X12_isNew_b32 q (fun S v0 v1 v2 v3 => w_X12_isNew_b4 q n S v0 v1 v2 v3) S v0 v1 v3) ∧ (¬ x18 = x24 → w_X12_isNew_b33 q (fun S v0 v1 v2 v3 => w_X12_isNew_b4 q n S v0 v1 v2 v3) S v0 v1 v3 1)))))))
set_option maxRecDepth 100000 in
set_option maxHeartbeats 4000000 in
theorem t_X12_isNew_b4 (hC : zC p R s m args c cX12_isNew 4 RX12 G B mc ms 1 60) (hr : meth.sig.returnType = (Option.some FieldType.boolean)) (hlk : meth.locks = false) (hnm : meth.name = "isNew") {q : Int32 → hS → Prop} (n : Nat) : ∀ {S : hS} {v0 : Nat} {v1 : Int32} {v2 : Int32} {v3 : Int32} (hw : w_X12_isNew_b4 q n S v0 v1 v2 v3), Z p l e R s m args below meth c (MQ below (hQ G B (iP q)) args s mc ms (fun r => B ≤ r)) G B mc ms 4 S 0 0 4 [some (.ref v0), some (.int v1), some (.int v2), some (.int v3)] [] := by
  induction n with
  | zero => intro S v0 v1 v2 v3 hw; exact (by rw [w_X12_isNew_b4] at hw; exact hw.elim)
  | succ n ih =>
    intro S v0 v1 v2 v3 hw
    rw [w_X12_isNew_b4] at hw
    refine z_iload_n hC dX12_isNew_4 rfl rfl ?_
    refine z_iload_n hC dX12_isNew_5 rfl rfl ?_
    refine z_icmp_ge (tgt := 40) hC dX12_isNew_6 (by decide) (fun c6 => ?_) (fun c6 => ?_)
    · have hw := hw.1 c6
      refine z_iload_n hC dX12_isNew_40 rfl rfl ?_
      exact z_zret hC hr hlk (hz01 hw.1).1 dX12_isNew_41 ⟨_, rfl, hw.2⟩
    · have hw := hw.2 c6
      refine z_iload_n hC dX12_isNew_9 rfl rfl ?_
      refine z_if_eq (tgt := 32) hC dX12_isNew_10 (by decide) (fun c10 => ?_) (fun c10 => ?_)
      · have hw := hw.1 c10
        refine z_mask (lv' := [some (.ref v0), some (.int v1), none, some (.int v3)]) [true, true, false, true] rfl ?_
        exact t_X12_isNew_b32 hC hr hlk hnm (fun hw => ih hw) hw
      · have hw := hw.2 c10
        refine z_aload_n hC dX12_isNew_13 rfl rfl ?_
        refine z_getP hC FX12 41 lk_1396 dX12_isNew_14 (by decide) hw (fun x14 hw => ?_)
        refine z_iload_n hC dX12_isNew_17 rfl rfl ?_
        refine z_aldI hC dX12_isNew_18 hw (fun x18 hw => ?_)
        refine z_aload_n hC dX12_isNew_19 rfl rfl ?_
        refine z_getP hC FX12 41 lk_1396 dX12_isNew_20 (by decide) hw (fun x20 hw => ?_)
        refine z_iload_n hC dX12_isNew_23 rfl rfl ?_
        refine z_aldI hC dX12_isNew_24 hw (fun x24 hw => ?_)
        refine z_icmp_eq (tgt := 32) hC dX12_isNew_25 (by decide) (fun c25 => ?_) (fun c25 => ?_)
        · have hw := hw.1 c25
          refine z_mask (lv' := [some (.ref v0), some (.int v1), none, some (.int v3)]) [true, true, false, true] rfl ?_
          exact t_X12_isNew_b32 hC hr hlk hnm (fun hw => ih hw) hw
        · have hw := hw.2 c25
          refine z_iconst hC ic_1 dX12_isNew_28 ?_
          refine z_goto (tgt := 33) hC dX12_isNew_29 (by decide) ?_
          refine z_mask (lv' := [some (.ref v0), some (.int v1), none, some (.int v3)]) [true, true, false, true] rfl ?_
          exact t_X12_isNew_b33 hC hr hlk hnm (fun hw => ih hw) hw
def w_X12_isNew (q : Int32 → hS → Prop) (S : hS) (v0 : Nat) (v1 : Int32) : Prop := (∃ n4 : Nat, w_X12_isNew_b4 q n4 S v0 v1 1 0)
set_option maxRecDepth 100000 in
set_option maxHeartbeats 4000000 in
theorem c_X12_isNew (l : Launch) (G : hG) (B : Nat) (S : hS) (v0 : Nat) (v1 : Int32) (q : Int32 → hS → Prop) : Met l yX12_isNew (hws yX12_isNew cX12_isNew 4 (Option.some FieldType.boolean)) ({ frames := 1, cells := 0, slots := 0, locals := 60 }) (hPc G B S [.ref v0, .int v1] (w_X12_isNew q S v0 v1)) (hQ G B (iP q)) (0) (0) (fun r => B ≤ r) := by
  refine hMet (rm := { frames := 1, cells := 0, slots := 0, locals := 60 }) (lv := [some (.ref v0), some (.int v1), none, none]) (own := RX12) (fr := 1) (lo := 60) (by decide) rfl rfl rfl (Nat.le_of_ble_eq_true rfl) rfl (fun hw p e R s m args below meth c hC hr hlk hnm => ?_)
  unfold w_X12_isNew at hw
  refine z_iconst hC ic_1 dX12_isNew_0 ?_
  refine z_istore_n (i := 2) (lv' := [some (.ref v0), some (.int v1), some (.int 1), none]) hC rfl dX12_isNew_1 (by decide) (hok_v rfl rfl) rfl ?_
  refine z_iconst hC ic_0 dX12_isNew_2 ?_
  refine z_istore_n (i := 3) (lv' := [some (.ref v0), some (.int v1), some (.int 1), some (.int 0)]) hC rfl dX12_isNew_3 (by decide) (hok_v rfl rfl) rfl ?_
  refine z_mask (lv' := [some (.ref v0), some (.int v1), some (.int 1), some (.int 0)]) [true, true, true, true] rfl ?_
  obtain ⟨n4, hw⟩ := hw
  exact t_X12_isNew_b4 hC hr hlk hnm n4 hw
end
section
variable {p : Program} {l : Launch} {e : Env} {R : Room} {s : State} {m : MethodId} {args : Array Value} {below : List Frame} {meth : Method} {c : Code} {G : hG} {B mc ms : Nat}
def w_X12_findVisits_b248 (q : hS → Prop) (K24 : hS → (Nat) → (Int32) → (Int32) → (Int32) → (Int32) → Prop) (S : hS) (v0 : Nat) (v1 : Int32) (v2 : Int32) (v3 : Int32) (v4 : Int32) : Prop := K24 S v0 v1 v2 v3 v4
set_option maxRecDepth 100000 in
set_option maxHeartbeats 4000000 in
theorem t_X12_findVisits_b248 (hC : zC p R s m args c cX12_findVisits 8 RX12 G B mc ms 3 104) (hr : meth.sig.returnType = (Option.none : Option FieldType)) (hlk : meth.locks = false) (hnm : meth.name = "findVisits") {q : hS → Prop} {K24 : hS → (Nat) → (Int32) → (Int32) → (Int32) → (Int32) → Prop} (hK24 : ∀ {S : hS} {v0 : Nat} {v1 : Int32} {v2 : Int32} {v3 : Int32} {v4 : Int32}, K24 S v0 v1 v2 v3 v4 → Z p l e R s m args below meth c (MQ below (hQ G B (vP q)) args s mc ms (fun r => B ≤ r)) G B mc ms 8 S 0 0 24 [some (.ref v0), some (.int v1), some (.int v2), some (.int v3), some (.int v4), none, none, none] []) {S : hS} {v0 : Nat} {v1 : Int32} {v2 : Int32} {v3 : Int32} {v4 : Int32} (hw : w_X12_findVisits_b248 q K24 S v0 v1 v2 v3 v4) : Z p l e R s m args below meth c (MQ below (hQ G B (vP q)) args s mc ms (fun r => B ≤ r)) G B mc ms 8 S 0 0 248 [some (.ref v0), some (.int v1), some (.int v2), some (.int v3), some (.int v4), none, none, none] [] := by
  unfold w_X12_findVisits_b248 at hw
  refine z_goto (tgt := 24) hC dX12_findVisits_248 (by decide) ?_
  refine z_mask (lv' := [some (.ref v0), some (.int v1), some (.int v2), some (.int v3), some (.int v4), none, none, none]) [true, true, true, true, true, false, false, false] rfl ?_
  exact hK24 hw
def w_X12_findVisits_b228 (q : hS → Prop) (K24 : hS → (Nat) → (Int32) → (Int32) → (Int32) → (Int32) → Prop) (S : hS) (v0 : Nat) (v1 : Int32) (v2 : Int32) (v3 : Int32) (v4 : Int32) (v6 : Int32) : Prop := ∀ y228 : Int32, y228 = v4 + 1 → gP S v0 12 42 (fun x232 => sI S x232 y228 v6 (fun S => gP S v0 12 41 (fun x241 => sI S x241 y228 (-1) (fun S => w_X12_findVisits_b248 q K24 S v0 v1 v2 v3 y228))))
set_option maxRecDepth 100000 in
set_option maxHeartbeats 4000000 in
theorem t_X12_findVisits_b228 (hC : zC p R s m args c cX12_findVisits 8 RX12 G B mc ms 3 104) (hr : meth.sig.returnType = (Option.none : Option FieldType)) (hlk : meth.locks = false) (hnm : meth.name = "findVisits") {q : hS → Prop} {K24 : hS → (Nat) → (Int32) → (Int32) → (Int32) → (Int32) → Prop} (hK24 : ∀ {S : hS} {v0 : Nat} {v1 : Int32} {v2 : Int32} {v3 : Int32} {v4 : Int32}, K24 S v0 v1 v2 v3 v4 → Z p l e R s m args below meth c (MQ below (hQ G B (vP q)) args s mc ms (fun r => B ≤ r)) G B mc ms 8 S 0 0 24 [some (.ref v0), some (.int v1), some (.int v2), some (.int v3), some (.int v4), none, none, none] []) {S : hS} {v0 : Nat} {v1 : Int32} {v2 : Int32} {v3 : Int32} {v4 : Int32} {v6 : Int32} (hw : w_X12_findVisits_b228 q K24 S v0 v1 v2 v3 v4 v6) : Z p l e R s m args below meth c (MQ below (hQ G B (vP q)) args s mc ms (fun r => B ≤ r)) G B mc ms 8 S 0 0 228 [some (.ref v0), some (.int v1), some (.int v2), some (.int v3), some (.int v4), none, some (.int v6), none] [] := by
  unfold w_X12_findVisits_b228 at hw
  refine z_inc (i := 4) hC ic_1 dX12_findVisits_228 rfl (by decide) (hok_v rfl rfl) (fun y228 e228 => ?_)
  have hw := hw y228 e228
  refine z_aload_n hC dX12_findVisits_231 rfl rfl ?_
  refine z_getP hC FX12 42 lk_1397 dX12_findVisits_232 (by decide) hw (fun x232 hw => ?_)
  refine z_iload hC dX12_findVisits_235 rfl ?_
  refine z_iload hC dX12_findVisits_237 rfl ?_
  refine z_astI hC dX12_findVisits_239 hw (fun S hw => ?_)
  refine z_aload_n hC dX12_findVisits_240 rfl rfl ?_
  refine z_getP hC FX12 41 lk_1396 dX12_findVisits_241 (by decide) hw (fun x241 hw => ?_)
  refine z_iload hC dX12_findVisits_244 rfl ?_
  refine z_iconst hC ic_m1 dX12_findVisits_246 ?_
  refine z_astI hC dX12_findVisits_247 hw (fun S hw => ?_)
  refine z_mask (lv' := [some (.ref v0), some (.int v1), some (.int v2), some (.int v3), some (.int y228), none, none, none]) [true, true, true, true, true, false, false, false] rfl ?_
  exact t_X12_findVisits_b248 hC hr hlk hnm hK24 hw
def w_X12_findVisits_b201 (q : hS → Prop) (K24 : hS → (Nat) → (Int32) → (Int32) → (Int32) → (Int32) → Prop) : Nat → hS → (Nat) → (Int32) → (Int32) → (Int32) → (Int32) → (Int32) → (Int32) → Prop
  | 0, _, _, _, _, _, _, _, _ => False
  | n + 1, S, v0, v1, v2, v3, v4, v6, v7 => (v4 < v7 → w_X12_findVisits_b228 q K24 S v0 v1 v2 v3 v4 v6) ∧ (¬ v4 < v7 → gP S v0 12 43 (fun x209 => gP S v0 12 41 (fun x215 => aI S x215 v7 (fun x220 => sI S x209 v7 x220 (fun S => ∀ y222 : Int32, y222 = v7 + 1 → w_X12_findVisits_b201 q K24 n S v0 v1 v2 v3 v4 v6 y222)))))
set_option maxRecDepth 100000 in
set_option maxHeartbeats 4000000 in
theorem t_X12_findVisits_b201 (hC : zC p R s m args c cX12_findVisits 8 RX12 G B mc ms 3 104) (hr : meth.sig.returnType = (Option.none : Option FieldType)) (hlk : meth.locks = false) (hnm : meth.name = "findVisits") {q : hS → Prop} {K24 : hS → (Nat) → (Int32) → (Int32) → (Int32) → (Int32) → Prop} (hK24 : ∀ {S : hS} {v0 : Nat} {v1 : Int32} {v2 : Int32} {v3 : Int32} {v4 : Int32}, K24 S v0 v1 v2 v3 v4 → Z p l e R s m args below meth c (MQ below (hQ G B (vP q)) args s mc ms (fun r => B ≤ r)) G B mc ms 8 S 0 0 24 [some (.ref v0), some (.int v1), some (.int v2), some (.int v3), some (.int v4), none, none, none] []) (n : Nat) : ∀ {S : hS} {v0 : Nat} {v1 : Int32} {v2 : Int32} {v3 : Int32} {v4 : Int32} {v6 : Int32} {v7 : Int32} (hw : w_X12_findVisits_b201 q K24 n S v0 v1 v2 v3 v4 v6 v7), Z p l e R s m args below meth c (MQ below (hQ G B (vP q)) args s mc ms (fun r => B ≤ r)) G B mc ms 8 S 0 0 201 [some (.ref v0), some (.int v1), some (.int v2), some (.int v3), some (.int v4), none, some (.int v6), some (.int v7)] [] := by
  induction n with
  | zero => intro S v0 v1 v2 v3 v4 v6 v7 hw; exact (by rw [w_X12_findVisits_b201] at hw; exact hw.elim)
  | succ n ih =>
    intro S v0 v1 v2 v3 v4 v6 v7 hw
    rw [w_X12_findVisits_b201] at hw
    refine z_iload hC dX12_findVisits_201 rfl ?_
    refine z_iload hC dX12_findVisits_203 rfl ?_
    refine z_icmp_gt (tgt := 228) hC dX12_findVisits_205 (by decide) (fun c205 => ?_) (fun c205 => ?_)
    · have hw := hw.1 c205
      refine z_mask (lv' := [some (.ref v0), some (.int v1), some (.int v2), some (.int v3), some (.int v4), none, some (.int v6), none]) [true, true, true, true, true, false, true, false] rfl ?_
      exact t_X12_findVisits_b228 hC hr hlk hnm hK24 hw
    · have hw := hw.2 c205
      refine z_aload_n hC dX12_findVisits_208 rfl rfl ?_
      refine z_getP hC FX12 43 lk_1398 dX12_findVisits_209 (by decide) hw (fun x209 hw => ?_)
      refine z_iload hC dX12_findVisits_212 rfl ?_
      refine z_aload_n hC dX12_findVisits_214 rfl rfl ?_
      refine z_getP hC FX12 41 lk_1396 dX12_findVisits_215 (by decide) hw (fun x215 hw => ?_)
      refine z_iload hC dX12_findVisits_218 rfl ?_
      refine z_aldI hC dX12_findVisits_220 hw (fun x220 hw => ?_)
      refine z_astI hC dX12_findVisits_221 hw (fun S hw => ?_)
      refine z_inc (i := 7) hC ic_1 dX12_findVisits_222 rfl (by decide) (hok_v rfl rfl) (fun y222 e222 => ?_)
      have hw := hw y222 e222
      refine z_goto (tgt := 201) hC dX12_findVisits_225 (by decide) ?_
      refine z_mask (lv' := [some (.ref v0), some (.int v1), some (.int v2), some (.int v3), some (.int v4), none, some (.int v6), some (.int y222)]) [true, true, true, true, true, false, true, true] rfl ?_
      exact ih hw
def w_X12_findVisits_b187 (q : hS → Prop) (K24 : hS → (Nat) → (Int32) → (Int32) → (Int32) → (Int32) → Prop) (S : hS) (v0 : Nat) (v1 : Int32) (v2 : Int32) (v4 : Int32) (v6 : Int32) : Prop := pI S v0 12 44 (v4 + 1) (fun S => (∃ n201 : Nat, w_X12_findVisits_b201 q K24 n201 S v0 v1 v2 v6 v4 v6 0))
set_option maxRecDepth 100000 in
set_option maxHeartbeats 4000000 in
theorem t_X12_findVisits_b187 (hC : zC p R s m args c cX12_findVisits 8 RX12 G B mc ms 3 104) (hr : meth.sig.returnType = (Option.none : Option FieldType)) (hlk : meth.locks = false) (hnm : meth.name = "findVisits") {q : hS → Prop} {K24 : hS → (Nat) → (Int32) → (Int32) → (Int32) → (Int32) → Prop} (hK24 : ∀ {S : hS} {v0 : Nat} {v1 : Int32} {v2 : Int32} {v3 : Int32} {v4 : Int32}, K24 S v0 v1 v2 v3 v4 → Z p l e R s m args below meth c (MQ below (hQ G B (vP q)) args s mc ms (fun r => B ≤ r)) G B mc ms 8 S 0 0 24 [some (.ref v0), some (.int v1), some (.int v2), some (.int v3), some (.int v4), none, none, none] []) {S : hS} {v0 : Nat} {v1 : Int32} {v2 : Int32} {v4 : Int32} {v6 : Int32} (hw : w_X12_findVisits_b187 q K24 S v0 v1 v2 v4 v6) : Z p l e R s m args below meth c (MQ below (hQ G B (vP q)) args s mc ms (fun r => B ≤ r)) G B mc ms 8 S 0 0 187 [some (.ref v0), some (.int v1), some (.int v2), none, some (.int v4), none, some (.int v6), none] [] := by
  unfold w_X12_findVisits_b187 at hw
  refine z_aload_n hC dX12_findVisits_187 rfl rfl ?_
  refine z_iload hC dX12_findVisits_188 rfl ?_
  refine z_iconst hC ic_1 dX12_findVisits_190 ?_
  refine z_iadd hC dX12_findVisits_191 ?_
  refine z_putI hC FX12 44 lk_1399 dX12_findVisits_192 (by decide) rfl rfl hw (fun S hw => ?_)
  refine z_iload hC dX12_findVisits_195 rfl ?_
  refine z_istore_n (i := 3) (lv' := [some (.ref v0), some (.int v1), some (.int v2), some (.int v6), some (.int v4), none, some (.int v6), none]) hC rfl dX12_findVisits_197 (by decide) (hok_v rfl rfl) rfl ?_
  refine z_iconst hC ic_0 dX12_findVisits_198 ?_
  refine z_istore (i := 7) (lv' := [some (.ref v0), some (.int v1), some (.int v2), some (.int v6), some (.int v4), none, some (.int v6), some (.int 0)]) hC dX12_findVisits_199 (by decide) (hok_v rfl rfl) rfl ?_
  refine z_mask (lv' := [some (.ref v0), some (.int v1), some (.int v2), some (.int v6), some (.int v4), none, some (.int v6), some (.int 0)]) [true, true, true, true, true, false, true, true] rfl ?_
  obtain ⟨n201, hw⟩ := hw
  exact t_X12_findVisits_b201 hC hr hlk hnm hK24 n201 hw
def w_X12_findVisits_b121 (q : hS → Prop) (K24 : hS → (Nat) → (Int32) → (Int32) → (Int32) → (Int32) → Prop) (S : hS) (v0 : Nat) (v1 : Int32) (v2 : Int32) (v3 : Int32) (v4 : Int32) (t0 : Int32) : Prop := gP S v0 12 42 (fun x124 => aI S x124 v4 (fun x129 => gP S v0 12 3 (fun x133 => gP S v0 12 41 (fun x139 => aI S x139 v4 (fun x144 => aI S x133 (126 + x144) (fun x146 => w_X12_stepsOf (fun x147 S => ∀ y151 : Int32, y151 = (x129 + x147) → (v2 < y151 → w_X12_findVisits_b248 q K24 S v0 v1 v2 v3 v4) ∧ (¬ v2 < y151 → gI S v0 12 44 (fun x164 => (x164 < (v4 + 1) → w_X12_findVisits_b187 q K24 S v0 v1 v2 v4 y151) ∧ (¬ x164 < (v4 + 1) → gI S v0 12 44 (fun x175 => (¬ (v4 + 1) = x175 → w_X12_findVisits_b228 q K24 S v0 v1 v2 v3 v4 y151) ∧ ((v4 + 1) = x175 → (v3 ≤ y151 → w_X12_findVisits_b228 q K24 S v0 v1 v2 v3 v4 y151) ∧ (¬ v3 ≤ y151 → w_X12_findVisits_b187 q K24 S v0 v1 v2 v4 y151))))))) S t0 x146))))))
set_option maxRecDepth 100000 in
set_option maxHeartbeats 4000000 in
theorem t_X12_findVisits_b121 (hC : zC p R s m args c cX12_findVisits 8 RX12 G B mc ms 3 104) (hr : meth.sig.returnType = (Option.none : Option FieldType)) (hlk : meth.locks = false) (hnm : meth.name = "findVisits") {q : hS → Prop} {K24 : hS → (Nat) → (Int32) → (Int32) → (Int32) → (Int32) → Prop} (hK24 : ∀ {S : hS} {v0 : Nat} {v1 : Int32} {v2 : Int32} {v3 : Int32} {v4 : Int32}, K24 S v0 v1 v2 v3 v4 → Z p l e R s m args below meth c (MQ below (hQ G B (vP q)) args s mc ms (fun r => B ≤ r)) G B mc ms 8 S 0 0 24 [some (.ref v0), some (.int v1), some (.int v2), some (.int v3), some (.int v4), none, none, none] []) {S : hS} {v0 : Nat} {v1 : Int32} {v2 : Int32} {v3 : Int32} {v4 : Int32} {t0 : Int32} (hw : w_X12_findVisits_b121 q K24 S v0 v1 v2 v3 v4 t0) : Z p l e R s m args below meth c (MQ below (hQ G B (vP q)) args s mc ms (fun r => B ≤ r)) G B mc ms 8 S 0 0 121 [some (.ref v0), some (.int v1), some (.int v2), some (.int v3), some (.int v4), none, none, none] [.int t0] := by
  unfold w_X12_findVisits_b121 at hw
  refine z_istore (i := 5) (lv' := [some (.ref v0), some (.int v1), some (.int v2), some (.int v3), some (.int v4), some (.int t0), none, none]) hC dX12_findVisits_121 (by decide) (hok_v rfl rfl) rfl ?_
  refine z_aload_n hC dX12_findVisits_123 rfl rfl ?_
  refine z_getP hC FX12 42 lk_1397 dX12_findVisits_124 (by decide) hw (fun x124 hw => ?_)
  refine z_iload hC dX12_findVisits_127 rfl ?_
  refine z_aldI hC dX12_findVisits_129 hw (fun x129 hw => ?_)
  refine z_iload hC dX12_findVisits_130 rfl ?_
  refine z_aload_n hC dX12_findVisits_132 rfl rfl ?_
  refine z_getP hC FX12 3 lk_1358 dX12_findVisits_133 (by decide) hw (fun x133 hw => ?_)
  refine z_bipush hC bi_126 dX12_findVisits_136 ?_
  refine z_aload_n hC dX12_findVisits_138 rfl rfl ?_
  refine z_getP hC FX12 41 lk_1396 dX12_findVisits_139 (by decide) hw (fun x139 hw => ?_)
  refine z_iload hC dX12_findVisits_142 rfl ?_
  refine z_aldI hC dX12_findVisits_144 hw (fun x144 hw => ?_)
  refine z_iadd hC dX12_findVisits_145 ?_
  refine z_aldI hC dX12_findVisits_146 hw (fun x146 hw => ?_)
  refine z_callS (ku' := 0) (kv' := 0) (n := 2) (As := [.int t0, .int x146]) (st := [.int x129]) hC (c_X12_stepsOf l G B S t0 x146 _) hw lk_1935 lk_1936 lk_133 lk_1937 hd_X12_stepsOf rfl rfl (Nat.le_of_ble_eq_true rfl) (Nat.le_of_ble_eq_true rfl) rfl (Nat.le_of_ble_eq_true rfl) dX12_findVisits_147 (Nat.le_refl 0) (Nat.le_refl 0) (kI (fun x147 S hw => ?_))
  refine z_iadd hC dX12_findVisits_150 ?_
  refine z_nmI (fun y151 e151 => ?_)
  have hw := hw y151 e151
  refine z_istore (i := 6) (lv' := [some (.ref v0), some (.int v1), some (.int v2), some (.int v3), some (.int v4), some (.int t0), some (.int y151), none]) hC dX12_findVisits_151 (by decide) (hok_v rfl rfl) rfl ?_
  refine z_iload hC dX12_findVisits_153 rfl ?_
  refine z_iload_n hC dX12_findVisits_155 rfl rfl ?_
  refine z_icmp_gt (tgt := 248) hC dX12_findVisits_156 (by decide) (fun c156 => ?_) (fun c156 => ?_)
  · have hw := hw.1 c156
    refine z_mask (lv' := [some (.ref v0), some (.int v1), some (.int v2), some (.int v3), some (.int v4), none, none, none]) [true, true, true, true, true, false, false, false] rfl ?_
    exact t_X12_findVisits_b248 hC hr hlk hnm hK24 hw
  · have hw := hw.2 c156
    refine z_iload hC dX12_findVisits_159 rfl ?_
    refine z_iconst hC ic_1 dX12_findVisits_161 ?_
    refine z_iadd hC dX12_findVisits_162 ?_
    refine z_aload_n hC dX12_findVisits_163 rfl rfl ?_
    refine z_getI hC FX12 44 lk_1399 dX12_findVisits_164 (by decide) hw (fun x164 hw => ?_)
    refine z_icmp_gt (tgt := 187) hC dX12_findVisits_167 (by decide) (fun c167 => ?_) (fun c167 => ?_)
    · have hw := hw.1 c167
      refine z_mask (lv' := [some (.ref v0), some (.int v1), some (.int v2), none, some (.int v4), none, some (.int y151), none]) [true, true, true, false, true, false, true, false] rfl ?_
      exact t_X12_findVisits_b187 hC hr hlk hnm hK24 hw
    · have hw := hw.2 c167
      refine z_iload hC dX12_findVisits_170 rfl ?_
      refine z_iconst hC ic_1 dX12_findVisits_172 ?_
      refine z_iadd hC dX12_findVisits_173 ?_
      refine z_aload_n hC dX12_findVisits_174 rfl rfl ?_
      refine z_getI hC FX12 44 lk_1399 dX12_findVisits_175 (by decide) hw (fun x175 hw => ?_)
      refine z_icmp_ne (tgt := 228) hC dX12_findVisits_178 (by decide) (fun c178 => ?_) (fun c178 => ?_)
      · have hw := hw.1 c178
        refine z_mask (lv' := [some (.ref v0), some (.int v1), some (.int v2), some (.int v3), some (.int v4), none, some (.int y151), none]) [true, true, true, true, true, false, true, false] rfl ?_
        exact t_X12_findVisits_b228 hC hr hlk hnm hK24 hw
      · have hw := hw.2 c178
        refine z_iload hC dX12_findVisits_181 rfl ?_
        refine z_iload_n hC dX12_findVisits_183 rfl rfl ?_
        refine z_icmp_ge (tgt := 228) hC dX12_findVisits_184 (by decide) (fun c184 => ?_) (fun c184 => ?_)
        · have hw := hw.1 c184
          refine z_mask (lv' := [some (.ref v0), some (.int v1), some (.int v2), some (.int v3), some (.int v4), none, some (.int y151), none]) [true, true, true, true, true, false, true, false] rfl ?_
          exact t_X12_findVisits_b228 hC hr hlk hnm hK24 hw
        · have hw := hw.2 c184
          refine z_mask (lv' := [some (.ref v0), some (.int v1), some (.int v2), none, some (.int v4), none, some (.int y151), none]) [true, true, true, false, true, false, true, false] rfl ?_
          exact t_X12_findVisits_b187 hC hr hlk hnm hK24 hw
def w_X12_findVisits_b24 (q : hS → Prop) : Nat → hS → (Nat) → (Int32) → (Int32) → (Int32) → (Int32) → Prop
  | 0, _, _, _, _, _, _ => False
  | n + 1, S, v0, v1, v2, v3, v4 => (v4 < 0 → q S) ∧ (¬ v4 < 0 → gP S v0 12 41 (fun x30 => aI S x30 v4 (fun x36 => sI S x30 v4 (x36 + 1) (fun S => gP S v0 12 41 (fun x41 => aI S x41 v4 (fun x46 => gP S v0 12 3 (fun x48 => aI S x48 0 (fun x52 => (x46 < x52 → oK S v0 12 ∧ w_X12_isNew (fun x65 S => (x65 = 0 → w_X12_findVisits_b24 q n S v0 v1 v2 v3 v4) ∧ (¬ x65 = 0 → gP S v0 12 41 (fun x74 => aI S x74 v4 (fun x79 => oK S v0 12 ∧ w_X12_leftOf (fun x80 S => (x80 ≤ 0 → w_X12_findVisits_b24 q n S v0 v1 v2 v3 v4) ∧ (¬ x80 ≤ 0 → (¬ v4 = 0 → gP S v0 12 3 (fun x105 => gP S v0 12 41 (fun x111 => aI S x111 (v4 - 1) (fun x118 => aI S x105 (126 + x118) (fun x120 => w_X12_findVisits_b121 q (fun S v0 v1 v2 v3 v4 => w_X12_findVisits_b24 q n S v0 v1 v2 v3 v4) S v0 v1 v2 v3 v4 x120))))) ∧ (v4 = 0 → gP S v0 12 3 (fun x92 => aI S x92 (138 + v1) (fun x100 => w_X12_findVisits_b121 q (fun S v0 v1 v2 v3 v4 => w_X12_findVisits_b24 q n S v0 v1 v2 v3 v4) S v0 v1 v2 v3 v4 x100))))) S v0 v1 x79)))) S v0 v4) ∧ (¬ x46 < x52 → ∀ y56 : Int32, y56 = v4 + (-1) → w_X12_findVisits_b24 q n S v0 v1 v2 v3 y56)))))))))
set_option maxRecDepth 100000 in
set_option maxHeartbeats 4000000 in
theorem t_X12_findVisits_b24 (hC : zC p R s m args c cX12_findVisits 8 RX12 G B mc ms 3 104) (hr : meth.sig.returnType = (Option.none : Option FieldType)) (hlk : meth.locks = false) (hnm : meth.name = "findVisits") {q : hS → Prop} (n : Nat) : ∀ {S : hS} {v0 : Nat} {v1 : Int32} {v2 : Int32} {v3 : Int32} {v4 : Int32} (hw : w_X12_findVisits_b24 q n S v0 v1 v2 v3 v4), Z p l e R s m args below meth c (MQ below (hQ G B (vP q)) args s mc ms (fun r => B ≤ r)) G B mc ms 8 S 0 0 24 [some (.ref v0), some (.int v1), some (.int v2), some (.int v3), some (.int v4), none, none, none] [] := by
  induction n with
  | zero => intro S v0 v1 v2 v3 v4 hw; exact (by rw [w_X12_findVisits_b24] at hw; exact hw.elim)
  | succ n ih =>
    intro S v0 v1 v2 v3 v4 hw
    rw [w_X12_findVisits_b24] at hw
    refine z_iload hC dX12_findVisits_24 rfl ?_
    refine z_if_lt (tgt := 251) hC dX12_findVisits_26 (by decide) (fun c26 => ?_) (fun c26 => ?_)
    · have hw := hw.1 c26
      exact z_vret hC hr hlk dX12_findVisits_251 ⟨rfl, hw⟩
    · have hw := hw.2 c26
      refine z_aload_n hC dX12_findVisits_29 rfl rfl ?_
      refine z_getP hC FX12 41 lk_1396 dX12_findVisits_30 (by decide) hw (fun x30 hw => ?_)
      refine z_iload hC dX12_findVisits_33 rfl ?_
      refine z_dup2_11 hC rfl rfl dX12_findVisits_35 ?_
      refine z_aldI hC dX12_findVisits_36 hw (fun x36 hw => ?_)
      refine z_iconst hC ic_1 dX12_findVisits_37 ?_
      refine z_iadd hC dX12_findVisits_38 ?_
      refine z_astI hC dX12_findVisits_39 hw (fun S hw => ?_)
      refine z_aload_n hC dX12_findVisits_40 rfl rfl ?_
      refine z_getP hC FX12 41 lk_1396 dX12_findVisits_41 (by decide) hw (fun x41 hw => ?_)
      refine z_iload hC dX12_findVisits_44 rfl ?_
      refine z_aldI hC dX12_findVisits_46 hw (fun x46 hw => ?_)
      refine z_aload_n hC dX12_findVisits_47 rfl rfl ?_
      refine z_getP hC FX12 3 lk_1358 dX12_findVisits_48 (by decide) hw (fun x48 hw => ?_)
      refine z_iconst hC ic_0 dX12_findVisits_51 ?_
      refine z_aldI hC dX12_findVisits_52 hw (fun x52 hw => ?_)
      refine z_icmp_lt (tgt := 62) hC dX12_findVisits_53 (by decide) (fun c53 => ?_) (fun c53 => ?_)
      · have hw := hw.1 c53
        refine z_aload_n hC dX12_findVisits_62 rfl rfl ?_
        refine z_iload hC dX12_findVisits_63 rfl ?_
        refine z_callV (ku' := 0) (kv' := 0) (n := 1) (As := [.int v4]) (st := []) hC (c_X12_isNew l G B S v0 v4 _) hw.2 hw.1 rfl lk_1931 lk_1933 lk_102 lk_133 lk_1934 hd_X12_isNew rfl rfl (Nat.le_of_ble_eq_true rfl) (Nat.le_of_ble_eq_true rfl) rfl (Nat.le_of_ble_eq_true rfl) dX12_findVisits_65 (Nat.le_refl 0) (Nat.le_refl 0) (kI (fun x65 S hw => ?_))
        refine z_if_eq (tgt := 24) hC dX12_findVisits_68 (by decide) (fun c68 => ?_) (fun c68 => ?_)
        · have hw := hw.1 c68
          refine z_mask (lv' := [some (.ref v0), some (.int v1), some (.int v2), some (.int v3), some (.int v4), none, none, none]) [true, true, true, true, true, false, false, false] rfl ?_
          exact ih hw
        · have hw := hw.2 c68
          refine z_aload_n hC dX12_findVisits_71 rfl rfl ?_
          refine z_iload_n hC dX12_findVisits_72 rfl rfl ?_
          refine z_aload_n hC dX12_findVisits_73 rfl rfl ?_
          refine z_getP hC FX12 41 lk_1396 dX12_findVisits_74 (by decide) hw (fun x74 hw => ?_)
          refine z_iload hC dX12_findVisits_77 rfl ?_
          refine z_aldI hC dX12_findVisits_79 hw (fun x79 hw => ?_)
          refine z_callV (ku' := 0) (kv' := 0) (n := 2) (As := [.int v1, .int x79]) (st := []) hC (c_X12_leftOf l G B S v0 v1 x79 _) hw.2 hw.1 rfl lk_1602 lk_1604 lk_49 lk_133 lk_1605 hd_X12_leftOf rfl rfl (Nat.le_of_ble_eq_true rfl) (Nat.le_of_ble_eq_true rfl) rfl (Nat.le_of_ble_eq_true rfl) dX12_findVisits_80 (Nat.le_refl 0) (Nat.le_refl 0) (kI (fun x80 S hw => ?_))
          refine z_if_le (tgt := 24) hC dX12_findVisits_83 (by decide) (fun c83 => ?_) (fun c83 => ?_)
          · have hw := hw.1 c83
            refine z_mask (lv' := [some (.ref v0), some (.int v1), some (.int v2), some (.int v3), some (.int v4), none, none, none]) [true, true, true, true, true, false, false, false] rfl ?_
            exact ih hw
          · have hw := hw.2 c83
            refine z_iload hC dX12_findVisits_86 rfl ?_
            refine z_if_ne (tgt := 104) hC dX12_findVisits_88 (by decide) (fun c88 => ?_) (fun c88 => ?_)
            · have hw := hw.1 c88
              refine z_aload_n hC dX12_findVisits_104 rfl rfl ?_
              refine z_getP hC FX12 3 lk_1358 dX12_findVisits_105 (by decide) hw (fun x105 hw => ?_)
              refine z_bipush hC bi_126 dX12_findVisits_108 ?_
              refine z_aload_n hC dX12_findVisits_110 rfl rfl ?_
              refine z_getP hC FX12 41 lk_1396 dX12_findVisits_111 (by decide) hw (fun x111 hw => ?_)
              refine z_iload hC dX12_findVisits_114 rfl ?_
              refine z_iconst hC ic_1 dX12_findVisits_116 ?_
              refine z_isub hC dX12_findVisits_117 ?_
              refine z_aldI hC dX12_findVisits_118 hw (fun x118 hw => ?_)
              refine z_iadd hC dX12_findVisits_119 ?_
              refine z_aldI hC dX12_findVisits_120 hw (fun x120 hw => ?_)
              refine z_mask (lv' := [some (.ref v0), some (.int v1), some (.int v2), some (.int v3), some (.int v4), none, none, none]) [true, true, true, true, true, false, false, false] rfl ?_
              exact t_X12_findVisits_b121 hC hr hlk hnm (fun hw => ih hw) hw
            · have hw := hw.2 c88
              refine z_aload_n hC dX12_findVisits_91 rfl rfl ?_
              refine z_getP hC FX12 3 lk_1358 dX12_findVisits_92 (by decide) hw (fun x92 hw => ?_)
              refine z_sipush hC si_138 dX12_findVisits_95 ?_
              refine z_iload_n hC dX12_findVisits_98 rfl rfl ?_
              refine z_iadd hC dX12_findVisits_99 ?_
              refine z_aldI hC dX12_findVisits_100 hw (fun x100 hw => ?_)
              refine z_goto (tgt := 121) hC dX12_findVisits_101 (by decide) ?_
              refine z_mask (lv' := [some (.ref v0), some (.int v1), some (.int v2), some (.int v3), some (.int v4), none, none, none]) [true, true, true, true, true, false, false, false] rfl ?_
              exact t_X12_findVisits_b121 hC hr hlk hnm (fun hw => ih hw) hw
      · have hw := hw.2 c53
        refine z_inc (i := 4) hC ic_m1 dX12_findVisits_56 rfl (by decide) (hok_v rfl rfl) (fun y56 e56 => ?_)
        have hw := hw y56 e56
        refine z_goto (tgt := 24) hC dX12_findVisits_59 (by decide) ?_
        refine z_mask (lv' := [some (.ref v0), some (.int v1), some (.int v2), some (.int v3), some (.int y56), none, none, none]) [true, true, true, true, true, false, false, false] rfl ?_
        exact ih hw
def w_X12_findVisits (q : hS → Prop) (S : hS) (v0 : Nat) (v1 : Int32) (v2 : Int32) : Prop := pI S v0 12 44 0 (fun S => gP S v0 12 41 (fun x11 => sI S x11 0 (-1) (fun S => gP S v0 12 42 (fun x18 => sI S x18 0 0 (fun S => (∃ n24 : Nat, w_X12_findVisits_b24 q n24 S v0 v1 v2 0 0))))))
set_option maxRecDepth 100000 in
set_option maxHeartbeats 4000000 in
theorem c_X12_findVisits (l : Launch) (G : hG) (B : Nat) (S : hS) (v0 : Nat) (v1 : Int32) (v2 : Int32) (q : hS → Prop) : Met l yX12_findVisits (hws yX12_findVisits cX12_findVisits 8 (Option.none : Option FieldType)) ({ frames := 3, cells := 0, slots := 0, locals := 104 }) (hPc G B S [.ref v0, .int v1, .int v2] (w_X12_findVisits q S v0 v1 v2)) (hQ G B (vP q)) (0) (0) (fun r => B ≤ r) := by
  refine hMet (rm := { frames := 3, cells := 0, slots := 0, locals := 104 }) (lv := [some (.ref v0), some (.int v1), some (.int v2), none, none, none, none, none]) (own := RX12) (fr := 3) (lo := 104) (by decide) rfl rfl rfl (Nat.le_of_ble_eq_true rfl) rfl (fun hw p e R s m args below meth c hC hr hlk hnm => ?_)
  unfold w_X12_findVisits at hw
  refine z_aload_n hC dX12_findVisits_0 rfl rfl ?_
  refine z_iconst hC ic_0 dX12_findVisits_1 ?_
  refine z_putI hC FX12 44 lk_1399 dX12_findVisits_2 (by decide) rfl rfl hw (fun S hw => ?_)
  refine z_iconst hC ic_0 dX12_findVisits_5 ?_
  refine z_istore_n (i := 3) (lv' := [some (.ref v0), some (.int v1), some (.int v2), some (.int 0), none, none, none, none]) hC rfl dX12_findVisits_6 (by decide) (hok_v rfl rfl) rfl ?_
  refine z_iconst hC ic_0 dX12_findVisits_7 ?_
  refine z_istore (i := 4) (lv' := [some (.ref v0), some (.int v1), some (.int v2), some (.int 0), some (.int 0), none, none, none]) hC dX12_findVisits_8 (by decide) (hok_v rfl rfl) rfl ?_
  refine z_aload_n hC dX12_findVisits_10 rfl rfl ?_
  refine z_getP hC FX12 41 lk_1396 dX12_findVisits_11 (by decide) hw (fun x11 hw => ?_)
  refine z_iconst hC ic_0 dX12_findVisits_14 ?_
  refine z_iconst hC ic_m1 dX12_findVisits_15 ?_
  refine z_astI hC dX12_findVisits_16 hw (fun S hw => ?_)
  refine z_aload_n hC dX12_findVisits_17 rfl rfl ?_
  refine z_getP hC FX12 42 lk_1397 dX12_findVisits_18 (by decide) hw (fun x18 hw => ?_)
  refine z_iconst hC ic_0 dX12_findVisits_21 ?_
  refine z_iconst hC ic_0 dX12_findVisits_22 ?_
  refine z_astI hC dX12_findVisits_23 hw (fun S hw => ?_)
  refine z_mask (lv' := [some (.ref v0), some (.int v1), some (.int v2), some (.int 0), some (.int 0), none, none, none]) [true, true, true, true, true, false, false, false] rfl ?_
  obtain ⟨n24, hw⟩ := hw
  exact t_X12_findVisits_b24 hC hr hlk hnm n24 hw
end
section
variable {p : Program} {l : Launch} {e : Env} {R : Room} {s : State} {m : MethodId} {args : Array Value} {below : List Frame} {meth : Method} {c : Code} {G : hG} {B mc ms : Nat}
def w_X12_visits (q : Int32 → hS → Prop) (S : hS) (v0 : Nat) (v1 : Int32) (v2 : Int32) (v3 : Int32) : Prop := pI S v0 12 0 0 (fun S => oK S v0 12 ∧ w_X12_isPerson (fun x7 S => (x7 = 0 → q (-1) S) ∧ (¬ x7 = 0 → oK S v0 12 ∧ w_X12_lives (fun x15 S => (x15 = 0 → q (-1) S) ∧ (¬ x15 = 0 → w_X12_in (fun x27 S => (x27 = 0 → q (-1) S) ∧ (¬ x27 = 0 → ((-1) ≤ v3 → oK S v0 12 ∧ w_X12_findVisits (fun S => (¬ v3 = (-1) → gI S v0 12 44 (fun x60 => (x60 ≤ v3 → q (-1) S) ∧ (¬ x60 ≤ v3 → gP S v0 12 43 (fun x67 => aI S x67 v3 (fun x71 => q x71 S))))) ∧ (v3 = (-1) → gI S v0 12 44 (fun x52 => q x52 S))) S v0 v1 v2) ∧ (¬ (-1) ≤ v3 → q (-1) S))) S (Int32.toInt64 v2) 0 99)) S v0 v1)) S v0 v1)
set_option maxRecDepth 100000 in
set_option maxHeartbeats 4000000 in
theorem c_X12_visits (l : Launch) (G : hG) (B : Nat) (S : hS) (v0 : Nat) (v1 : Int32) (v2 : Int32) (v3 : Int32) (q : Int32 → hS → Prop) : Met l yX12_visits (hws yX12_visits cX12_visits 4 (Option.some FieldType.int)) ({ frames := 4, cells := 0, slots := 0, locals := 131 }) (hPc G B S [.ref v0, .int v1, .int v2, .int v3] (w_X12_visits q S v0 v1 v2 v3)) (hQ G B (iP q)) (0) (0) (fun r => B ≤ r) := by
  refine hMet (rm := { frames := 4, cells := 0, slots := 0, locals := 131 }) (lv := [some (.ref v0), some (.int v1), some (.int v2), some (.int v3)]) (own := RX12) (fr := 4) (lo := 131) (by decide) rfl rfl rfl (Nat.le_of_ble_eq_true rfl) rfl (fun hw p e R s m args below meth c hC hr hlk hnm => ?_)
  unfold w_X12_visits at hw
  refine z_aload_n hC dX12_visits_0 rfl rfl ?_
  refine z_iconst hC ic_0 dX12_visits_1 ?_
  refine z_putI hC FX12 0 lk_1355 dX12_visits_2 (by decide) rfl rfl hw (fun S hw => ?_)
  refine z_aload_n hC dX12_visits_5 rfl rfl ?_
  refine z_iload_n hC dX12_visits_6 rfl rfl ?_
  refine z_callV (ku' := 0) (kv' := 0) (n := 1) (As := [.int v1]) (st := []) hC (c_X12_isPerson l G B S v0 v1 _) hw.2 hw.1 rfl lk_1614 lk_1616 lk_52 lk_133 lk_1617 hd_X12_isPerson rfl rfl (Nat.le_of_ble_eq_true rfl) (Nat.le_of_ble_eq_true rfl) rfl (Nat.le_of_ble_eq_true rfl) dX12_visits_7 (Nat.le_refl 0) (Nat.le_refl 0) (kI (fun x7 S hw => ?_))
  refine z_if_eq (tgt := 38) hC dX12_visits_10 (by decide) (fun c10 => ?_) (fun c10 => ?_)
  · have hw := hw.1 c10
    refine z_iconst hC ic_m1 dX12_visits_38 ?_
    exact z_iret hC hr hlk dX12_visits_39 ⟨_, rfl, hw⟩
  · have hw := hw.2 c10
    refine z_aload_n hC dX12_visits_13 rfl rfl ?_
    refine z_iload_n hC dX12_visits_14 rfl rfl ?_
    refine z_callV (ku' := 0) (kv' := 0) (n := 1) (As := [.int v1]) (st := []) hC (c_X12_lives l G B S v0 v1 _) hw.2 hw.1 rfl lk_1644 lk_1646 lk_56 lk_133 lk_1647 hd_X12_lives rfl rfl (Nat.le_of_ble_eq_true rfl) (Nat.le_of_ble_eq_true rfl) rfl (Nat.le_of_ble_eq_true rfl) dX12_visits_15 (Nat.le_refl 0) (Nat.le_refl 0) (kI (fun x15 S hw => ?_))
    refine z_if_eq (tgt := 38) hC dX12_visits_18 (by decide) (fun c18 => ?_) (fun c18 => ?_)
    · have hw := hw.1 c18
      refine z_iconst hC ic_m1 dX12_visits_38 ?_
      exact z_iret hC hr hlk dX12_visits_39 ⟨_, rfl, hw⟩
    · have hw := hw.2 c18
      refine z_iload_n hC dX12_visits_21 rfl rfl ?_
      refine z_i2l hC rfl dX12_visits_22 ?_
      refine z_lconst hC lc_0 dX12_visits_23 ?_
      refine z_ldc2 hC lk_1575 dX12_visits_24 ?_
      refine z_callS (ku' := 0) (kv' := 0) (n := 3) (As := [.long (Int32.toInt64 v2), .long 0, .long 99]) (st := []) hC (c_X12_in l G B S (Int32.toInt64 v2) 0 99 _) hw lk_1556 lk_1557 lk_133 lk_1558 hd_X12_in rfl rfl (Nat.le_of_ble_eq_true rfl) (Nat.le_of_ble_eq_true rfl) rfl (Nat.le_of_ble_eq_true rfl) dX12_visits_27 (Nat.le_refl 0) (Nat.le_refl 0) (kI (fun x27 S hw => ?_))
      refine z_if_eq (tgt := 38) hC dX12_visits_30 (by decide) (fun c30 => ?_) (fun c30 => ?_)
      · have hw := hw.1 c30
        refine z_iconst hC ic_m1 dX12_visits_38 ?_
        exact z_iret hC hr hlk dX12_visits_39 ⟨_, rfl, hw⟩
      · have hw := hw.2 c30
        refine z_iload_n hC dX12_visits_33 rfl rfl ?_
        refine z_iconst hC ic_m1 dX12_visits_34 ?_
        refine z_icmp_ge (tgt := 40) hC dX12_visits_35 (by decide) (fun c35 => ?_) (fun c35 => ?_)
        · have hw := hw.1 c35
          refine z_aload_n hC dX12_visits_40 rfl rfl ?_
          refine z_iload_n hC dX12_visits_41 rfl rfl ?_
          refine z_iload_n hC dX12_visits_42 rfl rfl ?_
          refine z_callV (ku' := 0) (kv' := 0) (n := 2) (As := [.int v1, .int v2]) (st := []) hC (c_X12_findVisits l G B S v0 v1 v2 _) hw.2 hw.1 rfl lk_1927 lk_1929 lk_101 lk_133 lk_1930 hd_X12_findVisits rfl rfl (Nat.le_of_ble_eq_true rfl) (Nat.le_of_ble_eq_true rfl) rfl (Nat.le_of_ble_eq_true rfl) dX12_visits_43 (Nat.le_refl 0) (Nat.le_refl 0) (kV (fun S hw => ?_))
          refine z_iload_n hC dX12_visits_46 rfl rfl ?_
          refine z_iconst hC ic_m1 dX12_visits_47 ?_
          refine z_icmp_ne (tgt := 58) hC dX12_visits_48 (by decide) (fun c48 => ?_) (fun c48 => ?_)
          · have hw := hw.1 c48
            refine z_iload_n hC dX12_visits_58 rfl rfl ?_
            refine z_aload_n hC dX12_visits_59 rfl rfl ?_
            refine z_getI hC FX12 44 lk_1399 dX12_visits_60 (by decide) hw (fun x60 hw => ?_)
            refine z_icmp_ge (tgt := 75) hC dX12_visits_63 (by decide) (fun c63 => ?_) (fun c63 => ?_)
            · have hw := hw.1 c63
              refine z_iconst hC ic_m1 dX12_visits_75 ?_
              exact z_iret hC hr hlk dX12_visits_76 ⟨_, rfl, hw⟩
            · have hw := hw.2 c63
              refine z_aload_n hC dX12_visits_66 rfl rfl ?_
              refine z_getP hC FX12 43 lk_1398 dX12_visits_67 (by decide) hw (fun x67 hw => ?_)
              refine z_iload_n hC dX12_visits_70 rfl rfl ?_
              refine z_aldI hC dX12_visits_71 hw (fun x71 hw => ?_)
              refine z_goto (tgt := 76) hC dX12_visits_72 (by decide) ?_
              exact z_iret hC hr hlk dX12_visits_76 ⟨_, rfl, hw⟩
          · have hw := hw.2 c48
            refine z_aload_n hC dX12_visits_51 rfl rfl ?_
            refine z_getI hC FX12 44 lk_1399 dX12_visits_52 (by decide) hw (fun x52 hw => ?_)
            refine z_goto (tgt := 76) hC dX12_visits_55 (by decide) ?_
            exact z_iret hC hr hlk dX12_visits_76 ⟨_, rfl, hw⟩
        · have hw := hw.2 c35
          refine z_iconst hC ic_m1 dX12_visits_38 ?_
          exact z_iret hC hr hlk dX12_visits_39 ⟨_, rfl, hw⟩
end
section
variable {p : Program} {l : Launch} {e : Env} {R : Room} {s : State} {m : MethodId} {args : Array Value} {below : List Frame} {meth : Method} {c : Code} {G : hG} {B mc ms : Nat}
def w_X12_canGive_b101 (q : Int32 → hS → Prop) (K75 : hS → (Nat) → (Int32) → (Int32) → (Int32) → (Int32) → Prop) (S : hS) (v0 : Nat) (v1 : Int32) (v2 : Int32) (v4 : Int32) (t0 : Int32) : Prop := ∀ y102 : Int32, y102 = v4 + 1 → K75 S v0 v1 v2 t0 y102
set_option maxRecDepth 100000 in
set_option maxHeartbeats 4000000 in
theorem t_X12_canGive_b101 (hC : zC p R s m args c cX12_canGive 5 RX12 G B mc ms 3 104) (hr : meth.sig.returnType = (Option.some FieldType.boolean)) (hlk : meth.locks = false) (hnm : meth.name = "canGive") {q : Int32 → hS → Prop} {K75 : hS → (Nat) → (Int32) → (Int32) → (Int32) → (Int32) → Prop} (hK75 : ∀ {S : hS} {v0 : Nat} {v1 : Int32} {v2 : Int32} {v3 : Int32} {v4 : Int32}, K75 S v0 v1 v2 v3 v4 → Z p l e R s m args below meth c (MQ below (hQ G B (iP q)) args s mc ms (fun r => B ≤ r)) G B mc ms 5 S 0 0 75 [some (.ref v0), some (.int v1), some (.int v2), some (.int v3), some (.int v4)] []) {S : hS} {v0 : Nat} {v1 : Int32} {v2 : Int32} {v4 : Int32} {t0 : Int32} (hw : w_X12_canGive_b101 q K75 S v0 v1 v2 v4 t0) : Z p l e R s m args below meth c (MQ below (hQ G B (iP q)) args s mc ms (fun r => B ≤ r)) G B mc ms 5 S 0 0 101 [some (.ref v0), some (.int v1), some (.int v2), none, some (.int v4)] [.int t0] := by
  unfold w_X12_canGive_b101 at hw
  refine z_istore_n (i := 3) (lv' := [some (.ref v0), some (.int v1), some (.int v2), some (.int t0), some (.int v4)]) hC rfl dX12_canGive_101 (by decide) (hok_v rfl rfl) rfl ?_
  refine z_inc (i := 4) hC ic_1 dX12_canGive_102 rfl (by decide) (hok_v rfl rfl) (fun y102 e102 => ?_)
  have hw := hw y102 e102
  refine z_goto (tgt := 75) hC dX12_canGive_105 (by decide) ?_
  refine z_mask (lv' := [some (.ref v0), some (.int v1), some (.int v2), some (.int t0), some (.int y102)]) [true, true, true, true, true] rfl ?_
  exact hK75 hw
def w_X12_canGive_b100 (q : Int32 → hS → Prop) (K75 : hS → (Nat) → (Int32) → (Int32) → (Int32) → (Int32) → Prop) (S : hS) (v0 : Nat) (v1 : Int32) (v2 : Int32) (v4 : Int32) : Prop := w_X12_canGive_b101 q K75 S v0 v1 v2 v4 0
set_option maxRecDepth 100000 in
set_option maxHeartbeats 4000000 in
theorem t_X12_canGive_b100 (hC : zC p R s m args c cX12_canGive 5 RX12 G B mc ms 3 104) (hr : meth.sig.returnType = (Option.some FieldType.boolean)) (hlk : meth.locks = false) (hnm : meth.name = "canGive") {q : Int32 → hS → Prop} {K75 : hS → (Nat) → (Int32) → (Int32) → (Int32) → (Int32) → Prop} (hK75 : ∀ {S : hS} {v0 : Nat} {v1 : Int32} {v2 : Int32} {v3 : Int32} {v4 : Int32}, K75 S v0 v1 v2 v3 v4 → Z p l e R s m args below meth c (MQ below (hQ G B (iP q)) args s mc ms (fun r => B ≤ r)) G B mc ms 5 S 0 0 75 [some (.ref v0), some (.int v1), some (.int v2), some (.int v3), some (.int v4)] []) {S : hS} {v0 : Nat} {v1 : Int32} {v2 : Int32} {v4 : Int32} (hw : w_X12_canGive_b100 q K75 S v0 v1 v2 v4) : Z p l e R s m args below meth c (MQ below (hQ G B (iP q)) args s mc ms (fun r => B ≤ r)) G B mc ms 5 S 0 0 100 [some (.ref v0), some (.int v1), some (.int v2), none, some (.int v4)] [] := by
  unfold w_X12_canGive_b100 at hw
  refine z_iconst hC ic_0 dX12_canGive_100 ?_
  refine z_mask (lv' := [some (.ref v0), some (.int v1), some (.int v2), none, some (.int v4)]) [true, true, true, false, true] rfl ?_
  exact t_X12_canGive_b101 hC hr hlk hnm hK75 hw
def w_X12_canGive_b132 (q : Int32 → hS → Prop) (S : hS) : Prop := q 1 S
set_option maxRecDepth 100000 in
set_option maxHeartbeats 4000000 in
theorem t_X12_canGive_b132 (hC : zC p R s m args c cX12_canGive 5 RX12 G B mc ms 3 104) (hr : meth.sig.returnType = (Option.some FieldType.boolean)) (hlk : meth.locks = false) (hnm : meth.name = "canGive") {q : Int32 → hS → Prop} {S : hS} (hw : w_X12_canGive_b132 q S ) : Z p l e R s m args below meth c (MQ below (hQ G B (iP q)) args s mc ms (fun r => B ≤ r)) G B mc ms 5 S 0 0 132 [none, none, none, none, none] [] := by
  unfold w_X12_canGive_b132 at hw
  refine z_iconst hC ic_1 dX12_canGive_132 ?_
  refine z_goto (tgt := 137) hC dX12_canGive_133 (by decide) ?_
  exact z_zret hC hr hlk (hz01 (Or.inr rfl)).1 dX12_canGive_137 ⟨_, rfl, hw⟩
def w_X12_canGive_b75 (q : Int32 → hS → Prop) : Nat → hS → (Nat) → (Int32) → (Int32) → (Int32) → (Int32) → Prop
  | 0, _, _, _, _, _, _ => False
  | n + 1, S, v0, v1, v2, v3, v4 => (v1 ≤ v4 → (v3 = 0 → q 0 S) ∧ (¬ v3 = 0 → (v1 ≤ v2 → w_X12_canGive_b132 q S) ∧ (¬ v1 ≤ v2 → gP S v0 12 45 (fun x118 => aI S x118 v2 (fun x122 => gP S v0 12 3 (fun x124 => aI S x124 1 (fun x128 => (x122 = x128 → q 0 S) ∧ (¬ x122 = x128 → w_X12_canGive_b132 q S)))))))) ∧ (¬ v1 ≤ v4 → (v3 = 0 → w_X12_canGive_b100 q (fun S v0 v1 v2 v3 v4 => w_X12_canGive_b75 q n S v0 v1 v2 v3 v4) S v0 v1 v2 v4) ∧ (¬ v3 = 0 → gP S v0 12 45 (fun x86 => aI S x86 v4 (fun x91 => (x91 = v2 → w_X12_canGive_b100 q (fun S v0 v1 v2 v3 v4 => w_X12_canGive_b75 q n S v0 v1 v2 v3 v4) S v0 v1 v2 v4) ∧ (¬ x91 = v2 → w_X12_canGive_b101 q (fun S v0 v1 v2 v3 v4 => w_X12_canGive_b75 q n S v0 v1 v2 v3 v4) S v0 v1 v2 v4 1)))))
set_option maxRecDepth 100000 in
set_option maxHeartbeats 4000000 in
theorem t_X12_canGive_b75 (hC : zC p R s m args c cX12_canGive 5 RX12 G B mc ms 3 104) (hr : meth.sig.returnType = (Option.some FieldType.boolean)) (hlk : meth.locks = false) (hnm : meth.name = "canGive") {q : Int32 → hS → Prop} (n : Nat) : ∀ {S : hS} {v0 : Nat} {v1 : Int32} {v2 : Int32} {v3 : Int32} {v4 : Int32} (hw : w_X12_canGive_b75 q n S v0 v1 v2 v3 v4), Z p l e R s m args below meth c (MQ below (hQ G B (iP q)) args s mc ms (fun r => B ≤ r)) G B mc ms 5 S 0 0 75 [some (.ref v0), some (.int v1), some (.int v2), some (.int v3), some (.int v4)] [] := by
  induction n with
  | zero => intro S v0 v1 v2 v3 v4 hw; exact (by rw [w_X12_canGive_b75] at hw; exact hw.elim)
  | succ n ih =>
    intro S v0 v1 v2 v3 v4 hw
    rw [w_X12_canGive_b75] at hw
    refine z_iload hC dX12_canGive_75 rfl ?_
    refine z_iload_n hC dX12_canGive_77 rfl rfl ?_
    refine z_icmp_ge (tgt := 108) hC dX12_canGive_78 (by decide) (fun c78 => ?_) (fun c78 => ?_)
    · have hw := hw.1 c78
      refine z_iload_n hC dX12_canGive_108 rfl rfl ?_
      refine z_if_eq (tgt := 136) hC dX12_canGive_109 (by decide) (fun c109 => ?_) (fun c109 => ?_)
      · have hw := hw.1 c109
        refine z_iconst hC ic_0 dX12_canGive_136 ?_
        exact z_zret hC hr hlk (hz01 (Or.inl rfl)).1 dX12_canGive_137 ⟨_, rfl, hw⟩
      · have hw := hw.2 c109
        refine z_iload_n hC dX12_canGive_112 rfl rfl ?_
        refine z_iload_n hC dX12_canGive_113 rfl rfl ?_
        refine z_icmp_ge (tgt := 132) hC dX12_canGive_114 (by decide) (fun c114 => ?_) (fun c114 => ?_)
        · have hw := hw.1 c114
          refine z_mask (lv' := [none, none, none, none, none]) [false, false, false, false, false] rfl ?_
          exact t_X12_canGive_b132 hC hr hlk hnm hw
        · have hw := hw.2 c114
          refine z_aload_n hC dX12_canGive_117 rfl rfl ?_
          refine z_getP hC FX12 45 lk_1400 dX12_canGive_118 (by decide) hw (fun x118 hw => ?_)
          refine z_iload_n hC dX12_canGive_121 rfl rfl ?_
          refine z_aldI hC dX12_canGive_122 hw (fun x122 hw => ?_)
          refine z_aload_n hC dX12_canGive_123 rfl rfl ?_
          refine z_getP hC FX12 3 lk_1358 dX12_canGive_124 (by decide) hw (fun x124 hw => ?_)
          refine z_iconst hC ic_1 dX12_canGive_127 ?_
          refine z_aldI hC dX12_canGive_128 hw (fun x128 hw => ?_)
          refine z_icmp_eq (tgt := 136) hC dX12_canGive_129 (by decide) (fun c129 => ?_) (fun c129 => ?_)
          · have hw := hw.1 c129
            refine z_iconst hC ic_0 dX12_canGive_136 ?_
            exact z_zret hC hr hlk (hz01 (Or.inl rfl)).1 dX12_canGive_137 ⟨_, rfl, hw⟩
          · have hw := hw.2 c129
            refine z_mask (lv' := [none, none, none, none, none]) [false, false, false, false, false] rfl ?_
            exact t_X12_canGive_b132 hC hr hlk hnm hw
    · have hw := hw.2 c78
      refine z_iload_n hC dX12_canGive_81 rfl rfl ?_
      refine z_if_eq (tgt := 100) hC dX12_canGive_82 (by decide) (fun c82 => ?_) (fun c82 => ?_)
      · have hw := hw.1 c82
        refine z_mask (lv' := [some (.ref v0), some (.int v1), some (.int v2), none, some (.int v4)]) [true, true, true, false, true] rfl ?_
        exact t_X12_canGive_b100 hC hr hlk hnm (fun hw => ih hw) hw
      · have hw := hw.2 c82
        refine z_aload_n hC dX12_canGive_85 rfl rfl ?_
        refine z_getP hC FX12 45 lk_1400 dX12_canGive_86 (by decide) hw (fun x86 hw => ?_)
        refine z_iload hC dX12_canGive_89 rfl ?_
        refine z_aldI hC dX12_canGive_91 hw (fun x91 hw => ?_)
        refine z_iload_n hC dX12_canGive_92 rfl rfl ?_
        refine z_icmp_eq (tgt := 100) hC dX12_canGive_93 (by decide) (fun c93 => ?_) (fun c93 => ?_)
        · have hw := hw.1 c93
          refine z_mask (lv' := [some (.ref v0), some (.int v1), some (.int v2), none, some (.int v4)]) [true, true, true, false, true] rfl ?_
          exact t_X12_canGive_b100 hC hr hlk hnm (fun hw => ih hw) hw
        · have hw := hw.2 c93
          refine z_iconst hC ic_1 dX12_canGive_96 ?_
          refine z_goto (tgt := 101) hC dX12_canGive_97 (by decide) ?_
          refine z_mask (lv' := [some (.ref v0), some (.int v1), some (.int v2), none, some (.int v4)]) [true, true, true, false, true] rfl ?_
          exact t_X12_canGive_b101 hC hr hlk hnm (fun hw => ih hw) hw
def w_X12_canGive_b71 (q : Int32 → hS → Prop) (S : hS) (v0 : Nat) (v1 : Int32) (v2 : Int32) (t0 : Int32) : Prop := (∃ n75 : Nat, w_X12_canGive_b75 q n75 S v0 v1 v2 t0 0)
set_option maxRecDepth 100000 in
set_option maxHeartbeats 4000000 in
theorem t_X12_canGive_b71 (hC : zC p R s m args c cX12_canGive 5 RX12 G B mc ms 3 104) (hr : meth.sig.returnType = (Option.some FieldType.boolean)) (hlk : meth.locks = false) (hnm : meth.name = "canGive") {q : Int32 → hS → Prop} {S : hS} {v0 : Nat} {v1 : Int32} {v2 : Int32} {t0 : Int32} (hw : w_X12_canGive_b71 q S v0 v1 v2 t0) : Z p l e R s m args below meth c (MQ below (hQ G B (iP q)) args s mc ms (fun r => B ≤ r)) G B mc ms 5 S 0 0 71 [some (.ref v0), some (.int v1), some (.int v2), none, none] [.int t0] := by
  unfold w_X12_canGive_b71 at hw
  refine z_istore_n (i := 3) (lv' := [some (.ref v0), some (.int v1), some (.int v2), some (.int t0), none]) hC rfl dX12_canGive_71 (by decide) (hok_v rfl rfl) rfl ?_
  refine z_iconst hC ic_0 dX12_canGive_72 ?_
  refine z_istore (i := 4) (lv' := [some (.ref v0), some (.int v1), some (.int v2), some (.int t0), some (.int 0)]) hC dX12_canGive_73 (by decide) (hok_v rfl rfl) rfl ?_
  refine z_mask (lv' := [some (.ref v0), some (.int v1), some (.int v2), some (.int t0), some (.int 0)]) [true, true, true, true, true] rfl ?_
  obtain ⟨n75, hw⟩ := hw
  exact t_X12_canGive_b75 hC hr hlk hnm n75 hw
def w_X12_canGive_b70 (q : Int32 → hS → Prop) (S : hS) (v0 : Nat) (v1 : Int32) (v2 : Int32) : Prop := w_X12_canGive_b71 q S v0 v1 v2 0
set_option maxRecDepth 100000 in
set_option maxHeartbeats 4000000 in
theorem t_X12_canGive_b70 (hC : zC p R s m args c cX12_canGive 5 RX12 G B mc ms 3 104) (hr : meth.sig.returnType = (Option.some FieldType.boolean)) (hlk : meth.locks = false) (hnm : meth.name = "canGive") {q : Int32 → hS → Prop} {S : hS} {v0 : Nat} {v1 : Int32} {v2 : Int32} (hw : w_X12_canGive_b70 q S v0 v1 v2) : Z p l e R s m args below meth c (MQ below (hQ G B (iP q)) args s mc ms (fun r => B ≤ r)) G B mc ms 5 S 0 0 70 [some (.ref v0), some (.int v1), some (.int v2), none, none] [] := by
  unfold w_X12_canGive_b70 at hw
  refine z_iconst hC ic_0 dX12_canGive_70 ?_
  refine z_mask (lv' := [some (.ref v0), some (.int v1), some (.int v2), none, none]) [true, true, true, false, false] rfl ?_
  exact t_X12_canGive_b71 hC hr hlk hnm hw
def w_X12_canGive (q : Int32 → hS → Prop) (S : hS) (v0 : Nat) (v1 : Int32) : Prop := gP S v0 12 45 (fun x1 => aI S x1 v1 (fun x5 => (x5 = v1 → w_X12_canGive_b70 q S v0 v1 x5) ∧ (¬ x5 = v1 → oK S v0 12 ∧ w_X12_lives (fun x14 S => (x14 = 0 → w_X12_canGive_b70 q S v0 v1 x5) ∧ (¬ x14 = 0 → gP S v0 12 3 (fun x21 => aI S x21 (154 + v1) (fun x29 => (x29 = (-1) → w_X12_canGive_b70 q S v0 v1 x5) ∧ (¬ x29 = (-1) → gP S v0 12 3 (fun x35 => aI S x35 (154 + x5) (fun x43 => (x43 = (-1) → w_X12_canGive_b70 q S v0 v1 x5) ∧ (¬ x43 = (-1) → gP S v0 12 3 (fun x51 => aI S x51 (154 + v1) (fun x59 => oK S v0 12 ∧ w_X12_leftOf (fun x60 S => (x60 ≤ 0 → w_X12_canGive_b70 q S v0 v1 x5) ∧ (¬ x60 ≤ 0 → w_X12_canGive_b71 q S v0 v1 x5 1)) S v0 x5 x59)))))))))) S v0 x5)))
set_option maxRecDepth 100000 in
set_option maxHeartbeats 4000000 in
theorem c_X12_canGive (l : Launch) (G : hG) (B : Nat) (S : hS) (v0 : Nat) (v1 : Int32) (q : Int32 → hS → Prop) : Met l yX12_canGive (hws yX12_canGive cX12_canGive 5 (Option.some FieldType.boolean)) ({ frames := 3, cells := 0, slots := 0, locals := 104 }) (hPc G B S [.ref v0, .int v1] (w_X12_canGive q S v0 v1)) (hQ G B (iP q)) (0) (0) (fun r => B ≤ r) := by
  refine hMet (rm := { frames := 3, cells := 0, slots := 0, locals := 104 }) (lv := [some (.ref v0), some (.int v1), none, none, none]) (own := RX12) (fr := 3) (lo := 104) (by decide) rfl rfl rfl (Nat.le_of_ble_eq_true rfl) rfl (fun hw p e R s m args below meth c hC hr hlk hnm => ?_)
  unfold w_X12_canGive at hw
  refine z_aload_n hC dX12_canGive_0 rfl rfl ?_
  refine z_getP hC FX12 45 lk_1400 dX12_canGive_1 (by decide) hw (fun x1 hw => ?_)
  refine z_iload_n hC dX12_canGive_4 rfl rfl ?_
  refine z_aldI hC dX12_canGive_5 hw (fun x5 hw => ?_)
  refine z_istore_n (i := 2) (lv' := [some (.ref v0), some (.int v1), some (.int x5), none, none]) hC rfl dX12_canGive_6 (by decide) (hok_v rfl rfl) rfl ?_
  refine z_iload_n hC dX12_canGive_7 rfl rfl ?_
  refine z_iload_n hC dX12_canGive_8 rfl rfl ?_
  refine z_icmp_eq (tgt := 70) hC dX12_canGive_9 (by decide) (fun c9 => ?_) (fun c9 => ?_)
  · have hw := hw.1 c9
    refine z_mask (lv' := [some (.ref v0), some (.int v1), some (.int x5), none, none]) [true, true, true, false, false] rfl ?_
    exact t_X12_canGive_b70 hC hr hlk hnm hw
  · have hw := hw.2 c9
    refine z_aload_n hC dX12_canGive_12 rfl rfl ?_
    refine z_iload_n hC dX12_canGive_13 rfl rfl ?_
    refine z_callV (ku' := 0) (kv' := 0) (n := 1) (As := [.int x5]) (st := []) hC (c_X12_lives l G B S v0 x5 _) hw.2 hw.1 rfl lk_1644 lk_1646 lk_56 lk_133 lk_1647 hd_X12_lives rfl rfl (Nat.le_of_ble_eq_true rfl) (Nat.le_of_ble_eq_true rfl) rfl (Nat.le_of_ble_eq_true rfl) dX12_canGive_14 (Nat.le_refl 0) (Nat.le_refl 0) (kI (fun x14 S hw => ?_))
    refine z_if_eq (tgt := 70) hC dX12_canGive_17 (by decide) (fun c17 => ?_) (fun c17 => ?_)
    · have hw := hw.1 c17
      refine z_mask (lv' := [some (.ref v0), some (.int v1), some (.int x5), none, none]) [true, true, true, false, false] rfl ?_
      exact t_X12_canGive_b70 hC hr hlk hnm hw
    · have hw := hw.2 c17
      refine z_aload_n hC dX12_canGive_20 rfl rfl ?_
      refine z_getP hC FX12 3 lk_1358 dX12_canGive_21 (by decide) hw (fun x21 hw => ?_)
      refine z_sipush hC si_154 dX12_canGive_24 ?_
      refine z_iload_n hC dX12_canGive_27 rfl rfl ?_
      refine z_iadd hC dX12_canGive_28 ?_
      refine z_aldI hC dX12_canGive_29 hw (fun x29 hw => ?_)
      refine z_iconst hC ic_m1 dX12_canGive_30 ?_
      refine z_icmp_eq (tgt := 70) hC dX12_canGive_31 (by decide) (fun c31 => ?_) (fun c31 => ?_)
      · have hw := hw.1 c31
        refine z_mask (lv' := [some (.ref v0), some (.int v1), some (.int x5), none, none]) [true, true, true, false, false] rfl ?_
        exact t_X12_canGive_b70 hC hr hlk hnm hw
      · have hw := hw.2 c31
        refine z_aload_n hC dX12_canGive_34 rfl rfl ?_
        refine z_getP hC FX12 3 lk_1358 dX12_canGive_35 (by decide) hw (fun x35 hw => ?_)
        refine z_sipush hC si_154 dX12_canGive_38 ?_
        refine z_iload_n hC dX12_canGive_41 rfl rfl ?_
        refine z_iadd hC dX12_canGive_42 ?_
        refine z_aldI hC dX12_canGive_43 hw (fun x43 hw => ?_)
        refine z_iconst hC ic_m1 dX12_canGive_44 ?_
        refine z_icmp_eq (tgt := 70) hC dX12_canGive_45 (by decide) (fun c45 => ?_) (fun c45 => ?_)
        · have hw := hw.1 c45
          refine z_mask (lv' := [some (.ref v0), some (.int v1), some (.int x5), none, none]) [true, true, true, false, false] rfl ?_
          exact t_X12_canGive_b70 hC hr hlk hnm hw
        · have hw := hw.2 c45
          refine z_aload_n hC dX12_canGive_48 rfl rfl ?_
          refine z_iload_n hC dX12_canGive_49 rfl rfl ?_
          refine z_aload_n hC dX12_canGive_50 rfl rfl ?_
          refine z_getP hC FX12 3 lk_1358 dX12_canGive_51 (by decide) hw (fun x51 hw => ?_)
          refine z_sipush hC si_154 dX12_canGive_54 ?_
          refine z_iload_n hC dX12_canGive_57 rfl rfl ?_
          refine z_iadd hC dX12_canGive_58 ?_
          refine z_aldI hC dX12_canGive_59 hw (fun x59 hw => ?_)
          refine z_callV (ku' := 0) (kv' := 0) (n := 2) (As := [.int x5, .int x59]) (st := []) hC (c_X12_leftOf l G B S v0 x5 x59 _) hw.2 hw.1 rfl lk_1602 lk_1604 lk_49 lk_133 lk_1605 hd_X12_leftOf rfl rfl (Nat.le_of_ble_eq_true rfl) (Nat.le_of_ble_eq_true rfl) rfl (Nat.le_of_ble_eq_true rfl) dX12_canGive_60 (Nat.le_refl 0) (Nat.le_refl 0) (kI (fun x60 S hw => ?_))
          refine z_if_le (tgt := 70) hC dX12_canGive_63 (by decide) (fun c63 => ?_) (fun c63 => ?_)
          · have hw := hw.1 c63
            refine z_mask (lv' := [some (.ref v0), some (.int v1), some (.int x5), none, none]) [true, true, true, false, false] rfl ?_
            exact t_X12_canGive_b70 hC hr hlk hnm hw
          · have hw := hw.2 c63
            refine z_iconst hC ic_1 dX12_canGive_66 ?_
            refine z_goto (tgt := 71) hC dX12_canGive_67 (by decide) ?_
            refine z_mask (lv' := [some (.ref v0), some (.int v1), some (.int x5), none, none]) [true, true, true, false, false] rfl ?_
            exact t_X12_canGive_b71 hC hr hlk hnm hw
end
section
variable {p : Program} {l : Launch} {e : Env} {R : Room} {s : State} {m : MethodId} {args : Array Value} {below : List Frame} {meth : Method} {c : Code} {G : hG} {B mc ms : Nat}
def w_X12_gets_b67 (q : Int32 → hS → Prop) (K14 : hS → (Nat) → (Int32) → (Int32) → (Int32) → (Int32) → Prop) (S : hS) (v0 : Nat) (v1 : Int32) (v3 : Int32) (v4 : Int32) (t0 : Int32) (t1 : Int32) : Prop := ∀ y68 : Int32, y68 = (t1 ||| t0) → ∀ y69 : Int32, y69 = v4 + 1 → K14 S v0 v1 y68 v3 y69
set_option maxRecDepth 100000 in
set_option maxHeartbeats 4000000 in
theorem t_X12_gets_b67 (hC : zC p R s m args c cX12_gets 5 RX12 G B mc ms 2 82) (hr : meth.sig.returnType = (Option.some FieldType.int)) (hlk : meth.locks = false) (hnm : meth.name = "gets") {q : Int32 → hS → Prop} {K14 : hS → (Nat) → (Int32) → (Int32) → (Int32) → (Int32) → Prop} (hK14 : ∀ {S : hS} {v0 : Nat} {v1 : Int32} {v2 : Int32} {v3 : Int32} {v4 : Int32}, K14 S v0 v1 v2 v3 v4 → Z p l e R s m args below meth c (MQ below (hQ G B (iP q)) args s mc ms (fun r => B ≤ r)) G B mc ms 5 S 0 0 14 [some (.ref v0), some (.int v1), some (.int v2), some (.int v3), some (.int v4)] []) {S : hS} {v0 : Nat} {v1 : Int32} {v3 : Int32} {v4 : Int32} {t0 : Int32} {t1 : Int32} (hw : w_X12_gets_b67 q K14 S v0 v1 v3 v4 t0 t1) : Z p l e R s m args below meth c (MQ below (hQ G B (iP q)) args s mc ms (fun r => B ≤ r)) G B mc ms 5 S 0 0 67 [some (.ref v0), some (.int v1), none, some (.int v3), some (.int v4)] [.int t0, .int t1] := by
  unfold w_X12_gets_b67 at hw
  refine z_ior hC dX12_gets_67 ?_
  refine z_nmI (fun y68 e68 => ?_)
  have hw := hw y68 e68
  refine z_istore_n (i := 2) (lv' := [some (.ref v0), some (.int v1), some (.int y68), some (.int v3), some (.int v4)]) hC rfl dX12_gets_68 (by decide) (hok_v rfl rfl) rfl ?_
  refine z_inc (i := 4) hC ic_1 dX12_gets_69 rfl (by decide) (hok_v rfl rfl) (fun y69 e69 => ?_)
  have hw := hw y69 e69
  refine z_goto (tgt := 14) hC dX12_gets_72 (by decide) ?_
  refine z_mask (lv' := [some (.ref v0), some (.int v1), some (.int y68), some (.int v3), some (.int y69)]) [true, true, true, true, true] rfl ?_
  exact hK14 hw
def w_X12_gets_b40 (q : Int32 → hS → Prop) (K14 : hS → (Nat) → (Int32) → (Int32) → (Int32) → (Int32) → Prop) (S : hS) (v0 : Nat) (v1 : Int32) (v2 : Int32) (v4 : Int32) (t0 : Int32) (t1 : Int32) : Prop := ∀ y41 : Int32, y41 = (t1 ||| t0) → gP S v0 12 45 (fun x44 => aI S x44 v4 (fun x49 => (¬ x49 = v1 → gP S v0 12 45 (fun x60 => aI S x60 v4 (fun x65 => w_X12_gets_b67 q K14 S v0 v1 y41 v4 (1 <<< (x65 &&& 31)) v2))) ∧ (x49 = v1 → w_X12_gets_b67 q K14 S v0 v1 y41 v4 0 v2)))
set_option maxRecDepth 100000 in
set_option maxHeartbeats 4000000 in
theorem t_X12_gets_b40 (hC : zC p R s m args c cX12_gets 5 RX12 G B mc ms 2 82) (hr : meth.sig.returnType = (Option.some FieldType.int)) (hlk : meth.locks = false) (hnm : meth.name = "gets") {q : Int32 → hS → Prop} {K14 : hS → (Nat) → (Int32) → (Int32) → (Int32) → (Int32) → Prop} (hK14 : ∀ {S : hS} {v0 : Nat} {v1 : Int32} {v2 : Int32} {v3 : Int32} {v4 : Int32}, K14 S v0 v1 v2 v3 v4 → Z p l e R s m args below meth c (MQ below (hQ G B (iP q)) args s mc ms (fun r => B ≤ r)) G B mc ms 5 S 0 0 14 [some (.ref v0), some (.int v1), some (.int v2), some (.int v3), some (.int v4)] []) {S : hS} {v0 : Nat} {v1 : Int32} {v2 : Int32} {v4 : Int32} {t0 : Int32} {t1 : Int32} (hw : w_X12_gets_b40 q K14 S v0 v1 v2 v4 t0 t1) : Z p l e R s m args below meth c (MQ below (hQ G B (iP q)) args s mc ms (fun r => B ≤ r)) G B mc ms 5 S 0 0 40 [some (.ref v0), some (.int v1), some (.int v2), none, some (.int v4)] [.int t0, .int t1] := by
  unfold w_X12_gets_b40 at hw
  refine z_ior hC dX12_gets_40 ?_
  refine z_nmI (fun y41 e41 => ?_)
  have hw := hw y41 e41
  refine z_istore_n (i := 3) (lv' := [some (.ref v0), some (.int v1), some (.int v2), some (.int y41), some (.int v4)]) hC rfl dX12_gets_41 (by decide) (hok_v rfl rfl) rfl ?_
  refine z_iload_n hC dX12_gets_42 rfl rfl ?_
  refine z_aload_n hC dX12_gets_43 rfl rfl ?_
  refine z_getP hC FX12 45 lk_1400 dX12_gets_44 (by decide) hw (fun x44 hw => ?_)
  refine z_iload hC dX12_gets_47 rfl ?_
  refine z_aldI hC dX12_gets_49 hw (fun x49 hw => ?_)
  refine z_iload_n hC dX12_gets_50 rfl rfl ?_
  refine z_icmp_ne (tgt := 58) hC dX12_gets_51 (by decide) (fun c51 => ?_) (fun c51 => ?_)
  · have hw := hw.1 c51
    refine z_iconst hC ic_1 dX12_gets_58 ?_
    refine z_aload_n hC dX12_gets_59 rfl rfl ?_
    refine z_getP hC FX12 45 lk_1400 dX12_gets_60 (by decide) hw (fun x60 hw => ?_)
    refine z_iload hC dX12_gets_63 rfl ?_
    refine z_aldI hC dX12_gets_65 hw (fun x65 hw => ?_)
    refine z_ishl hC dX12_gets_66 ?_
    refine z_mask (lv' := [some (.ref v0), some (.int v1), none, some (.int y41), some (.int v4)]) [true, true, false, true, true] rfl ?_
    exact t_X12_gets_b67 hC hr hlk hnm hK14 hw
  · have hw := hw.2 c51
    refine z_iconst hC ic_0 dX12_gets_54 ?_
    refine z_goto (tgt := 67) hC dX12_gets_55 (by decide) ?_
    refine z_mask (lv' := [some (.ref v0), some (.int v1), none, some (.int y41), some (.int v4)]) [true, true, false, true, true] rfl ?_
    exact t_X12_gets_b67 hC hr hlk hnm hK14 hw
def w_X12_gets_b14 (q : Int32 → hS → Prop) : Nat → hS → (Nat) → (Int32) → (Int32) → (Int32) → (Int32) → Prop
  | 0, _, _, _, _, _, _ => False
  | n + 1, S, v0, v1, v2, v3, v4 => (v1 ≤ v4 → (¬ v2 = v3 → q (-1) S) ∧ (v2 = v3 → w_X12_ones (fun x81 S => q x81 S) S v3)) ∧ (¬ v1 ≤ v4 → gP S v0 12 45 (fun x22 => aI S x22 v4 (fun x27 => (¬ x27 = v1 → w_X12_gets_b40 q (fun S v0 v1 v2 v3 v4 => w_X12_gets_b14 q n S v0 v1 v2 v3 v4) S v0 v1 v2 v4 (1 <<< (v4 &&& 31)) v3) ∧ (x27 = v1 → w_X12_gets_b40 q (fun S v0 v1 v2 v3 v4 => w_X12_gets_b14 q n S v0 v1 v2 v3 v4) S v0 v1 v2 v4 0 v3))))
set_option maxRecDepth 100000 in
set_option maxHeartbeats 4000000 in
theorem t_X12_gets_b14 (hC : zC p R s m args c cX12_gets 5 RX12 G B mc ms 2 82) (hr : meth.sig.returnType = (Option.some FieldType.int)) (hlk : meth.locks = false) (hnm : meth.name = "gets") {q : Int32 → hS → Prop} (n : Nat) : ∀ {S : hS} {v0 : Nat} {v1 : Int32} {v2 : Int32} {v3 : Int32} {v4 : Int32} (hw : w_X12_gets_b14 q n S v0 v1 v2 v3 v4), Z p l e R s m args below meth c (MQ below (hQ G B (iP q)) args s mc ms (fun r => B ≤ r)) G B mc ms 5 S 0 0 14 [some (.ref v0), some (.int v1), some (.int v2), some (.int v3), some (.int v4)] [] := by
  induction n with
  | zero => intro S v0 v1 v2 v3 v4 hw; exact (by rw [w_X12_gets_b14] at hw; exact hw.elim)
  | succ n ih =>
    intro S v0 v1 v2 v3 v4 hw
    rw [w_X12_gets_b14] at hw
    refine z_iload hC dX12_gets_14 rfl ?_
    refine z_iload_n hC dX12_gets_16 rfl rfl ?_
    refine z_icmp_ge (tgt := 75) hC dX12_gets_17 (by decide) (fun c17 => ?_) (fun c17 => ?_)
    · have hw := hw.1 c17
      refine z_iload_n hC dX12_gets_75 rfl rfl ?_
      refine z_iload_n hC dX12_gets_76 rfl rfl ?_
      refine z_icmp_ne (tgt := 87) hC dX12_gets_77 (by decide) (fun c77 => ?_) (fun c77 => ?_)
      · have hw := hw.1 c77
        refine z_iconst hC ic_m1 dX12_gets_87 ?_
        exact z_iret hC hr hlk dX12_gets_88 ⟨_, rfl, hw⟩
      · have hw := hw.2 c77
        refine z_iload_n hC dX12_gets_80 rfl rfl ?_
        refine z_callS (ku' := 0) (kv' := 0) (n := 1) (As := [.int v3]) (st := []) hC (c_X12_ones l G B S v3 _) hw lk_1908 lk_1909 lk_133 lk_1910 hd_X12_ones rfl rfl (Nat.le_of_ble_eq_true rfl) (Nat.le_of_ble_eq_true rfl) rfl (Nat.le_of_ble_eq_true rfl) dX12_gets_81 (Nat.le_refl 0) (Nat.le_refl 0) (kI (fun x81 S hw => ?_))
        refine z_goto (tgt := 88) hC dX12_gets_84 (by decide) ?_
        exact z_iret hC hr hlk dX12_gets_88 ⟨_, rfl, hw⟩
    · have hw := hw.2 c17
      refine z_iload_n hC dX12_gets_20 rfl rfl ?_
      refine z_aload_n hC dX12_gets_21 rfl rfl ?_
      refine z_getP hC FX12 45 lk_1400 dX12_gets_22 (by decide) hw (fun x22 hw => ?_)
      refine z_iload hC dX12_gets_25 rfl ?_
      refine z_aldI hC dX12_gets_27 hw (fun x27 hw => ?_)
      refine z_iload_n hC dX12_gets_28 rfl rfl ?_
      refine z_icmp_ne (tgt := 36) hC dX12_gets_29 (by decide) (fun c29 => ?_) (fun c29 => ?_)
      · have hw := hw.1 c29
        refine z_iconst hC ic_1 dX12_gets_36 ?_
        refine z_iload hC dX12_gets_37 rfl ?_
        refine z_ishl hC dX12_gets_39 ?_
        refine z_mask (lv' := [some (.ref v0), some (.int v1), some (.int v2), none, some (.int v4)]) [true, true, true, false, true] rfl ?_
        exact t_X12_gets_b40 hC hr hlk hnm (fun hw => ih hw) hw
      · have hw := hw.2 c29
        refine z_iconst hC ic_0 dX12_gets_32 ?_
        refine z_goto (tgt := 40) hC dX12_gets_33 (by decide) ?_
        refine z_mask (lv' := [some (.ref v0), some (.int v1), some (.int v2), none, some (.int v4)]) [true, true, true, false, true] rfl ?_
        exact t_X12_gets_b40 hC hr hlk hnm (fun hw => ih hw) hw
def w_X12_gets (q : Int32 → hS → Prop) (S : hS) (v0 : Nat) : Prop := gP S v0 12 3 (fun x1 => aI S x1 1 (fun x5 => (∃ n14 : Nat, w_X12_gets_b14 q n14 S v0 x5 0 0 0)))
set_option maxRecDepth 100000 in
set_option maxHeartbeats 4000000 in
theorem c_X12_gets (l : Launch) (G : hG) (B : Nat) (S : hS) (v0 : Nat) (q : Int32 → hS → Prop) : Met l yX12_gets (hws yX12_gets cX12_gets 5 (Option.some FieldType.int)) ({ frames := 2, cells := 0, slots := 0, locals := 82 }) (hPc G B S [.ref v0] (w_X12_gets q S v0)) (hQ G B (iP q)) (0) (0) (fun r => B ≤ r) := by
  refine hMet (rm := { frames := 2, cells := 0, slots := 0, locals := 82 }) (lv := [some (.ref v0), none, none, none, none]) (own := RX12) (fr := 2) (lo := 82) (by decide) rfl rfl rfl (Nat.le_of_ble_eq_true rfl) rfl (fun hw p e R s m args below meth c hC hr hlk hnm => ?_)
  unfold w_X12_gets at hw
  refine z_aload_n hC dX12_gets_0 rfl rfl ?_
  refine z_getP hC FX12 3 lk_1358 dX12_gets_1 (by decide) hw (fun x1 hw => ?_)
  refine z_iconst hC ic_1 dX12_gets_4 ?_
  refine z_aldI hC dX12_gets_5 hw (fun x5 hw => ?_)
  refine z_istore_n (i := 1) (lv' := [some (.ref v0), some (.int x5), none, none, none]) hC rfl dX12_gets_6 (by decide) (hok_v rfl rfl) rfl ?_
  refine z_iconst hC ic_0 dX12_gets_7 ?_
  refine z_istore_n (i := 2) (lv' := [some (.ref v0), some (.int x5), some (.int 0), none, none]) hC rfl dX12_gets_8 (by decide) (hok_v rfl rfl) rfl ?_
  refine z_iconst hC ic_0 dX12_gets_9 ?_
  refine z_istore_n (i := 3) (lv' := [some (.ref v0), some (.int x5), some (.int 0), some (.int 0), none]) hC rfl dX12_gets_10 (by decide) (hok_v rfl rfl) rfl ?_
  refine z_iconst hC ic_0 dX12_gets_11 ?_
  refine z_istore (i := 4) (lv' := [some (.ref v0), some (.int x5), some (.int 0), some (.int 0), some (.int 0)]) hC dX12_gets_12 (by decide) (hok_v rfl rfl) rfl ?_
  refine z_mask (lv' := [some (.ref v0), some (.int x5), some (.int 0), some (.int 0), some (.int 0)]) [true, true, true, true, true] rfl ?_
  obtain ⟨n14, hw⟩ := hw
  exact t_X12_gets_b14 hC hr hlk hnm n14 hw
end
section
variable {p : Program} {l : Launch} {e : Env} {R : Room} {s : State} {m : MethodId} {args : Array Value} {below : List Frame} {meth : Method} {c : Code} {G : hG} {B mc ms : Nat}
def w_X12_findExchange_b77 (q : Int32 → hS → Prop) (K18 : hS → (Nat) → (Int32) → (Int32) → (Int32) → Prop) (K36 : hS → (Nat) → (Int32) → (Int32) → (Int32) → (Int32) → (Int32) → Prop) (S : hS) (v0 : Nat) (v1 : Int32) (v2 : Int32) (v3 : Int32) (v4 : Int32) (v5 : Int32) (t0 : Int32) (t1 : Int32) (t2 : Nat) : Prop := sI S t2 t1 t0 (fun S => ∀ y78 : Int32, y78 = v5 + 1 → K36 S v0 v1 v2 v3 v4 y78)
set_option maxRecDepth 100000 in
set_option maxHeartbeats 4000000 in
theorem t_X12_findExchange_b77 (hC : zC p R s m args c cX12_findExchange 6 RX12 G B mc ms 4 128) (hr : meth.sig.returnType = (Option.some FieldType.int)) (hlk : meth.locks = false) (hnm : meth.name = "findExchange") {q : Int32 → hS → Prop} {K18 : hS → (Nat) → (Int32) → (Int32) → (Int32) → Prop} (hK18 : ∀ {S : hS} {v0 : Nat} {v1 : Int32} {v2 : Int32} {v3 : Int32}, K18 S v0 v1 v2 v3 → Z p l e R s m args below meth c (MQ below (hQ G B (iP q)) args s mc ms (fun r => B ≤ r)) G B mc ms 6 S 0 0 18 [some (.ref v0), some (.int v1), some (.int v2), some (.int v3), none, none] []) {K36 : hS → (Nat) → (Int32) → (Int32) → (Int32) → (Int32) → (Int32) → Prop} (hK36 : ∀ {S : hS} {v0 : Nat} {v1 : Int32} {v2 : Int32} {v3 : Int32} {v4 : Int32} {v5 : Int32}, K36 S v0 v1 v2 v3 v4 v5 → Z p l e R s m args below meth c (MQ below (hQ G B (iP q)) args s mc ms (fun r => B ≤ r)) G B mc ms 6 S 0 0 36 [some (.ref v0), some (.int v1), some (.int v2), some (.int v3), some (.int v4), some (.int v5)] []) {S : hS} {v0 : Nat} {v1 : Int32} {v2 : Int32} {v3 : Int32} {v4 : Int32} {v5 : Int32} {t0 : Int32} {t1 : Int32} {t2 : Nat} (hw : w_X12_findExchange_b77 q K18 K36 S v0 v1 v2 v3 v4 v5 t0 t1 t2) : Z p l e R s m args below meth c (MQ below (hQ G B (iP q)) args s mc ms (fun r => B ≤ r)) G B mc ms 6 S 0 0 77 [some (.ref v0), some (.int v1), some (.int v2), some (.int v3), some (.int v4), some (.int v5)] [.int t0, .int t1, .ref t2] := by
  unfold w_X12_findExchange_b77 at hw
  refine z_astI hC dX12_findExchange_77 hw (fun S hw => ?_)
  refine z_inc (i := 5) hC ic_1 dX12_findExchange_78 rfl (by decide) (hok_v rfl rfl) (fun y78 e78 => ?_)
  have hw := hw y78 e78
  refine z_goto (tgt := 36) hC dX12_findExchange_81 (by decide) ?_
  refine z_mask (lv' := [some (.ref v0), some (.int v1), some (.int v2), some (.int v3), some (.int v4), some (.int y78)]) [true, true, true, true, true, true] rfl ?_
  exact hK36 hw
def w_X12_findExchange_b96 (q : Int32 → hS → Prop) (K18 : hS → (Nat) → (Int32) → (Int32) → (Int32) → Prop) (S : hS) (v0 : Nat) (v1 : Int32) (v3 : Int32) (t0 : Int32) : Prop := ∀ y97 : Int32, y97 = v3 + (-1) → K18 S v0 v1 t0 y97
set_option maxRecDepth 100000 in
set_option maxHeartbeats 4000000 in
theorem t_X12_findExchange_b96 (hC : zC p R s m args c cX12_findExchange 6 RX12 G B mc ms 4 128) (hr : meth.sig.returnType = (Option.some FieldType.int)) (hlk : meth.locks = false) (hnm : meth.name = "findExchange") {q : Int32 → hS → Prop} {K18 : hS → (Nat) → (Int32) → (Int32) → (Int32) → Prop} (hK18 : ∀ {S : hS} {v0 : Nat} {v1 : Int32} {v2 : Int32} {v3 : Int32}, K18 S v0 v1 v2 v3 → Z p l e R s m args below meth c (MQ below (hQ G B (iP q)) args s mc ms (fun r => B ≤ r)) G B mc ms 6 S 0 0 18 [some (.ref v0), some (.int v1), some (.int v2), some (.int v3), none, none] []) {S : hS} {v0 : Nat} {v1 : Int32} {v3 : Int32} {t0 : Int32} (hw : w_X12_findExchange_b96 q K18 S v0 v1 v3 t0) : Z p l e R s m args below meth c (MQ below (hQ G B (iP q)) args s mc ms (fun r => B ≤ r)) G B mc ms 6 S 0 0 96 [some (.ref v0), some (.int v1), none, some (.int v3), none, none] [.int t0] := by
  unfold w_X12_findExchange_b96 at hw
  refine z_istore_n (i := 2) (lv' := [some (.ref v0), some (.int v1), some (.int t0), some (.int v3), none, none]) hC rfl dX12_findExchange_96 (by decide) (hok_v rfl rfl) rfl ?_
  refine z_inc (i := 3) hC ic_m1 dX12_findExchange_97 rfl (by decide) (hok_v rfl rfl) (fun y97 e97 => ?_)
  have hw := hw y97 e97
  refine z_goto (tgt := 18) hC dX12_findExchange_100 (by decide) ?_
  refine z_mask (lv' := [some (.ref v0), some (.int v1), some (.int t0), some (.int y97), none, none]) [true, true, true, true, false, false] rfl ?_
  exact hK18 hw
def w_X12_findExchange_b84 (q : Int32 → hS → Prop) (K18 : hS → (Nat) → (Int32) → (Int32) → (Int32) → Prop) (S : hS) (v0 : Nat) (v1 : Int32) (v2 : Int32) (v3 : Int32) (v4 : Int32) : Prop := (v4 ≤ v2 → w_X12_findExchange_b96 q K18 S v0 v1 v3 v2) ∧ (¬ v4 ≤ v2 → w_X12_findExchange_b96 q K18 S v0 v1 v3 v4)
set_option maxRecDepth 100000 in
set_option maxHeartbeats 4000000 in
theorem t_X12_findExchange_b84 (hC : zC p R s m args c cX12_findExchange 6 RX12 G B mc ms 4 128) (hr : meth.sig.returnType = (Option.some FieldType.int)) (hlk : meth.locks = false) (hnm : meth.name = "findExchange") {q : Int32 → hS → Prop} {K18 : hS → (Nat) → (Int32) → (Int32) → (Int32) → Prop} (hK18 : ∀ {S : hS} {v0 : Nat} {v1 : Int32} {v2 : Int32} {v3 : Int32}, K18 S v0 v1 v2 v3 → Z p l e R s m args below meth c (MQ below (hQ G B (iP q)) args s mc ms (fun r => B ≤ r)) G B mc ms 6 S 0 0 18 [some (.ref v0), some (.int v1), some (.int v2), some (.int v3), none, none] []) {S : hS} {v0 : Nat} {v1 : Int32} {v2 : Int32} {v3 : Int32} {v4 : Int32} (hw : w_X12_findExchange_b84 q K18 S v0 v1 v2 v3 v4) : Z p l e R s m args below meth c (MQ below (hQ G B (iP q)) args s mc ms (fun r => B ≤ r)) G B mc ms 6 S 0 0 84 [some (.ref v0), some (.int v1), some (.int v2), some (.int v3), some (.int v4), none] [] := by
  unfold w_X12_findExchange_b84 at hw
  refine z_iload hC dX12_findExchange_84 rfl ?_
  refine z_iload_n hC dX12_findExchange_86 rfl rfl ?_
  refine z_icmp_le (tgt := 95) hC dX12_findExchange_87 (by decide) (fun c87 => ?_) (fun c87 => ?_)
  · have hw := hw.1 c87
    refine z_iload_n hC dX12_findExchange_95 rfl rfl ?_
    refine z_mask (lv' := [some (.ref v0), some (.int v1), none, some (.int v3), none, none]) [true, true, false, true, false, false] rfl ?_
    exact t_X12_findExchange_b96 hC hr hlk hnm hK18 hw
  · have hw := hw.2 c87
    refine z_iload hC dX12_findExchange_90 rfl ?_
    refine z_goto (tgt := 96) hC dX12_findExchange_92 (by decide) ?_
    refine z_mask (lv' := [some (.ref v0), some (.int v1), none, some (.int v3), none, none]) [true, true, false, true, false, false] rfl ?_
    exact t_X12_findExchange_b96 hC hr hlk hnm hK18 hw
def w_X12_findExchange_b36 (q : Int32 → hS → Prop) (K18 : hS → (Nat) → (Int32) → (Int32) → (Int32) → Prop) : Nat → hS → (Nat) → (Int32) → (Int32) → (Int32) → (Int32) → (Int32) → Prop
  | 0, _, _, _, _, _, _, _ => False
  | n + 1, S, v0, v1, v2, v3, v4, v5 => (v1 ≤ v5 → w_X12_findExchange_b84 q K18 S v0 v1 v2 v3 v4) ∧ (¬ v1 ≤ v5 → (v4 ≤ v2 → w_X12_findExchange_b84 q K18 S v0 v1 v2 v3 v4) ∧ (¬ v4 ≤ v2 → gP S v0 12 46 (fun x49 => gP S v0 12 45 (fun x55 => aI S x55 v5 (fun x60 => (¬ x60 = v1 → gP S v0 12 45 (fun x71 => aI S x71 v5 (fun x76 => w_X12_findExchange_b77 q K18 (fun S v0 v1 v2 v3 v4 v5 => w_X12_findExchange_b36 q K18 n S v0 v1 v2 v3 v4 v5) S v0 v1 v2 v3 v4 v5 x76 v5 x49))) ∧ (x60 = v1 → w_X12_findExchange_b77 q K18 (fun S v0 v1 v2 v3 v4 v5 => w_X12_findExchange_b36 q K18 n S v0 v1 v2 v3 v4 v5) S v0 v1 v2 v3 v4 v5 100 v5 x49))))))
set_option maxRecDepth 100000 in
set_option maxHeartbeats 4000000 in
theorem t_X12_findExchange_b36 (hC : zC p R s m args c cX12_findExchange 6 RX12 G B mc ms 4 128) (hr : meth.sig.returnType = (Option.some FieldType.int)) (hlk : meth.locks = false) (hnm : meth.name = "findExchange") {q : Int32 → hS → Prop} {K18 : hS → (Nat) → (Int32) → (Int32) → (Int32) → Prop} (hK18 : ∀ {S : hS} {v0 : Nat} {v1 : Int32} {v2 : Int32} {v3 : Int32}, K18 S v0 v1 v2 v3 → Z p l e R s m args below meth c (MQ below (hQ G B (iP q)) args s mc ms (fun r => B ≤ r)) G B mc ms 6 S 0 0 18 [some (.ref v0), some (.int v1), some (.int v2), some (.int v3), none, none] []) (n : Nat) : ∀ {S : hS} {v0 : Nat} {v1 : Int32} {v2 : Int32} {v3 : Int32} {v4 : Int32} {v5 : Int32} (hw : w_X12_findExchange_b36 q K18 n S v0 v1 v2 v3 v4 v5), Z p l e R s m args below meth c (MQ below (hQ G B (iP q)) args s mc ms (fun r => B ≤ r)) G B mc ms 6 S 0 0 36 [some (.ref v0), some (.int v1), some (.int v2), some (.int v3), some (.int v4), some (.int v5)] [] := by
  induction n with
  | zero => intro S v0 v1 v2 v3 v4 v5 hw; exact (by rw [w_X12_findExchange_b36] at hw; exact hw.elim)
  | succ n ih =>
    intro S v0 v1 v2 v3 v4 v5 hw
    rw [w_X12_findExchange_b36] at hw
    refine z_iload hC dX12_findExchange_36 rfl ?_
    refine z_iload_n hC dX12_findExchange_38 rfl rfl ?_
    refine z_icmp_ge (tgt := 84) hC dX12_findExchange_39 (by decide) (fun c39 => ?_) (fun c39 => ?_)
    · have hw := hw.1 c39
      refine z_mask (lv' := [some (.ref v0), some (.int v1), some (.int v2), some (.int v3), some (.int v4), none]) [true, true, true, true, true, false] rfl ?_
      exact t_X12_findExchange_b84 hC hr hlk hnm hK18 hw
    · have hw := hw.2 c39
      refine z_iload hC dX12_findExchange_42 rfl ?_
      refine z_iload_n hC dX12_findExchange_44 rfl rfl ?_
      refine z_icmp_le (tgt := 84) hC dX12_findExchange_45 (by decide) (fun c45 => ?_) (fun c45 => ?_)
      · have hw := hw.1 c45
        refine z_mask (lv' := [some (.ref v0), some (.int v1), some (.int v2), some (.int v3), some (.int v4), none]) [true, true, true, true, true, false] rfl ?_
        exact t_X12_findExchange_b84 hC hr hlk hnm hK18 hw
      · have hw := hw.2 c45
        refine z_aload_n hC dX12_findExchange_48 rfl rfl ?_
        refine z_getP hC FX12 46 lk_1401 dX12_findExchange_49 (by decide) hw (fun x49 hw => ?_)
        refine z_iload hC dX12_findExchange_52 rfl ?_
        refine z_aload_n hC dX12_findExchange_54 rfl rfl ?_
        refine z_getP hC FX12 45 lk_1400 dX12_findExchange_55 (by decide) hw (fun x55 hw => ?_)
        refine z_iload hC dX12_findExchange_58 rfl ?_
        refine z_aldI hC dX12_findExchange_60 hw (fun x60 hw => ?_)
        refine z_iload_n hC dX12_findExchange_61 rfl rfl ?_
        refine z_icmp_ne (tgt := 70) hC dX12_findExchange_62 (by decide) (fun c62 => ?_) (fun c62 => ?_)
        · have hw := hw.1 c62
          refine z_aload_n hC dX12_findExchange_70 rfl rfl ?_
          refine z_getP hC FX12 45 lk_1400 dX12_findExchange_71 (by decide) hw (fun x71 hw => ?_)
          refine z_iload hC dX12_findExchange_74 rfl ?_
          refine z_aldI hC dX12_findExchange_76 hw (fun x76 hw => ?_)
          refine z_mask (lv' := [some (.ref v0), some (.int v1), some (.int v2), some (.int v3), some (.int v4), some (.int v5)]) [true, true, true, true, true, true] rfl ?_
          exact t_X12_findExchange_b77 hC hr hlk hnm hK18 (fun hw => ih hw) hw
        · have hw := hw.2 c62
          refine z_bipush hC bi_100 dX12_findExchange_65 ?_
          refine z_goto (tgt := 77) hC dX12_findExchange_67 (by decide) ?_
          refine z_mask (lv' := [some (.ref v0), some (.int v1), some (.int v2), some (.int v3), some (.int v4), some (.int v5)]) [true, true, true, true, true, true] rfl ?_
          exact t_X12_findExchange_b77 hC hr hlk hnm hK18 (fun hw => ih hw) hw
def w_X12_findExchange_b155 (q : Int32 → hS → Prop) (K18 : hS → (Nat) → (Int32) → (Int32) → (Int32) → Prop) (S : hS) (v0 : Nat) (v1 : Int32) (v2 : Int32) (v3 : Int32) : Prop := ∀ y155 : Int32, y155 = v3 + 1 → gP S v0 12 45 (fun x159 => sI S x159 y155 (-1) (fun S => K18 S v0 v1 v2 y155))
set_option maxRecDepth 100000 in
set_option maxHeartbeats 4000000 in
theorem t_X12_findExchange_b155 (hC : zC p R s m args c cX12_findExchange 6 RX12 G B mc ms 4 128) (hr : meth.sig.returnType = (Option.some FieldType.int)) (hlk : meth.locks = false) (hnm : meth.name = "findExchange") {q : Int32 → hS → Prop} {K18 : hS → (Nat) → (Int32) → (Int32) → (Int32) → Prop} (hK18 : ∀ {S : hS} {v0 : Nat} {v1 : Int32} {v2 : Int32} {v3 : Int32}, K18 S v0 v1 v2 v3 → Z p l e R s m args below meth c (MQ below (hQ G B (iP q)) args s mc ms (fun r => B ≤ r)) G B mc ms 6 S 0 0 18 [some (.ref v0), some (.int v1), some (.int v2), some (.int v3), none, none] []) {S : hS} {v0 : Nat} {v1 : Int32} {v2 : Int32} {v3 : Int32} (hw : w_X12_findExchange_b155 q K18 S v0 v1 v2 v3) : Z p l e R s m args below meth c (MQ below (hQ G B (iP q)) args s mc ms (fun r => B ≤ r)) G B mc ms 6 S 0 0 155 [some (.ref v0), some (.int v1), some (.int v2), some (.int v3), none, none] [] := by
  unfold w_X12_findExchange_b155 at hw
  refine z_inc (i := 3) hC ic_1 dX12_findExchange_155 rfl (by decide) (hok_v rfl rfl) (fun y155 e155 => ?_)
  have hw := hw y155 e155
  refine z_aload_n hC dX12_findExchange_158 rfl rfl ?_
  refine z_getP hC FX12 45 lk_1400 dX12_findExchange_159 (by decide) hw (fun x159 hw => ?_)
  refine z_iload_n hC dX12_findExchange_162 rfl rfl ?_
  refine z_iconst hC ic_m1 dX12_findExchange_163 ?_
  refine z_astI hC dX12_findExchange_164 hw (fun S hw => ?_)
  refine z_goto (tgt := 18) hC dX12_findExchange_165 (by decide) ?_
  refine z_mask (lv' := [some (.ref v0), some (.int v1), some (.int v2), some (.int y155), none, none]) [true, true, true, true, false, false] rfl ?_
  exact hK18 hw
def w_X12_findExchange_b18 (q : Int32 → hS → Prop) : Nat → hS → (Nat) → (Int32) → (Int32) → (Int32) → Prop
  | 0, _, _, _, _, _ => False
  | n + 1, S, v0, v1, v2, v3 => (v3 < 0 → q v2 S) ∧ (¬ v3 < 0 → (¬ v3 = v1 → gP S v0 12 45 (fun x104 => aI S x104 v3 (fun x109 => sI S x104 v3 (x109 + 1) (fun S => gP S v0 12 45 (fun x114 => aI S x114 v3 (fun x118 => (x118 ≤ v1 → gP S v0 12 45 (fun x130 => aI S x130 v3 (fun x134 => (x134 = v1 → w_X12_findExchange_b155 q (fun S v0 v1 v2 v3 => w_X12_findExchange_b18 q n S v0 v1 v2 v3) S v0 v1 v2 v3) ∧ (¬ x134 = v1 → oK S v0 12 ∧ w_X12_lives (fun x141 S => (x141 = 0 → w_X12_findExchange_b18 q n S v0 v1 v2 v3) ∧ (¬ x141 = 0 → oK S v0 12 ∧ w_X12_canGive (fun x149 S => (x149 = 0 → w_X12_findExchange_b18 q n S v0 v1 v2 v3) ∧ (¬ x149 = 0 → w_X12_findExchange_b155 q (fun S v0 v1 v2 v3 => w_X12_findExchange_b18 q n S v0 v1 v2 v3) S v0 v1 v2 v3)) S v0 v3)) S v0 v3)))) ∧ (¬ x118 ≤ v1 → ∀ y123 : Int32, y123 = v3 + (-1) → w_X12_findExchange_b18 q n S v0 v1 v2 y123))))))) ∧ (v3 = v1 → oK S v0 12 ∧ w_X12_gets (fun x28 S => (∃ n36 : Nat, w_X12_findExchange_b36 q (fun S v0 v1 v2 v3 => w_X12_findExchange_b18 q n S v0 v1 v2 v3) n36 S v0 v1 v2 v3 x28 0)) S v0))
set_option maxRecDepth 100000 in
set_option maxHeartbeats 4000000 in
theorem t_X12_findExchange_b18 (hC : zC p R s m args c cX12_findExchange 6 RX12 G B mc ms 4 128) (hr : meth.sig.returnType = (Option.some FieldType.int)) (hlk : meth.locks = false) (hnm : meth.name = "findExchange") {q : Int32 → hS → Prop} (n : Nat) : ∀ {S : hS} {v0 : Nat} {v1 : Int32} {v2 : Int32} {v3 : Int32} (hw : w_X12_findExchange_b18 q n S v0 v1 v2 v3), Z p l e R s m args below meth c (MQ below (hQ G B (iP q)) args s mc ms (fun r => B ≤ r)) G B mc ms 6 S 0 0 18 [some (.ref v0), some (.int v1), some (.int v2), some (.int v3), none, none] [] := by
  induction n with
  | zero => intro S v0 v1 v2 v3 hw; exact (by rw [w_X12_findExchange_b18] at hw; exact hw.elim)
  | succ n ih =>
    intro S v0 v1 v2 v3 hw
    rw [w_X12_findExchange_b18] at hw
    refine z_iload_n hC dX12_findExchange_18 rfl rfl ?_
    refine z_if_lt (tgt := 168) hC dX12_findExchange_19 (by decide) (fun c19 => ?_) (fun c19 => ?_)
    · have hw := hw.1 c19
      refine z_iload_n hC dX12_findExchange_168 rfl rfl ?_
      exact z_iret hC hr hlk dX12_findExchange_169 ⟨_, rfl, hw⟩
    · have hw := hw.2 c19
      refine z_iload_n hC dX12_findExchange_22 rfl rfl ?_
      refine z_iload_n hC dX12_findExchange_23 rfl rfl ?_
      refine z_icmp_ne (tgt := 103) hC dX12_findExchange_24 (by decide) (fun c24 => ?_) (fun c24 => ?_)
      · have hw := hw.1 c24
        refine z_aload_n hC dX12_findExchange_103 rfl rfl ?_
        refine z_getP hC FX12 45 lk_1400 dX12_findExchange_104 (by decide) hw (fun x104 hw => ?_)
        refine z_iload_n hC dX12_findExchange_107 rfl rfl ?_
        refine z_dup2_11 hC rfl rfl dX12_findExchange_108 ?_
        refine z_aldI hC dX12_findExchange_109 hw (fun x109 hw => ?_)
        refine z_iconst hC ic_1 dX12_findExchange_110 ?_
        refine z_iadd hC dX12_findExchange_111 ?_
        refine z_astI hC dX12_findExchange_112 hw (fun S hw => ?_)
        refine z_aload_n hC dX12_findExchange_113 rfl rfl ?_
        refine z_getP hC FX12 45 lk_1400 dX12_findExchange_114 (by decide) hw (fun x114 hw => ?_)
        refine z_iload_n hC dX12_findExchange_117 rfl rfl ?_
        refine z_aldI hC dX12_findExchange_118 hw (fun x118 hw => ?_)
        refine z_iload_n hC dX12_findExchange_119 rfl rfl ?_
        refine z_icmp_le (tgt := 129) hC dX12_findExchange_120 (by decide) (fun c120 => ?_) (fun c120 => ?_)
        · have hw := hw.1 c120
          refine z_aload_n hC dX12_findExchange_129 rfl rfl ?_
          refine z_getP hC FX12 45 lk_1400 dX12_findExchange_130 (by decide) hw (fun x130 hw => ?_)
          refine z_iload_n hC dX12_findExchange_133 rfl rfl ?_
          refine z_aldI hC dX12_findExchange_134 hw (fun x134 hw => ?_)
          refine z_iload_n hC dX12_findExchange_135 rfl rfl ?_
          refine z_icmp_eq (tgt := 155) hC dX12_findExchange_136 (by decide) (fun c136 => ?_) (fun c136 => ?_)
          · have hw := hw.1 c136
            refine z_mask (lv' := [some (.ref v0), some (.int v1), some (.int v2), some (.int v3), none, none]) [true, true, true, true, false, false] rfl ?_
            exact t_X12_findExchange_b155 hC hr hlk hnm (fun hw => ih hw) hw
          · have hw := hw.2 c136
            refine z_aload_n hC dX12_findExchange_139 rfl rfl ?_
            refine z_iload_n hC dX12_findExchange_140 rfl rfl ?_
            refine z_callV (ku' := 0) (kv' := 0) (n := 1) (As := [.int v3]) (st := []) hC (c_X12_lives l G B S v0 v3 _) hw.2 hw.1 rfl lk_1644 lk_1646 lk_56 lk_133 lk_1647 hd_X12_lives rfl rfl (Nat.le_of_ble_eq_true rfl) (Nat.le_of_ble_eq_true rfl) rfl (Nat.le_of_ble_eq_true rfl) dX12_findExchange_141 (Nat.le_refl 0) (Nat.le_refl 0) (kI (fun x141 S hw => ?_))
            refine z_if_eq (tgt := 18) hC dX12_findExchange_144 (by decide) (fun c144 => ?_) (fun c144 => ?_)
            · have hw := hw.1 c144
              refine z_mask (lv' := [some (.ref v0), some (.int v1), some (.int v2), some (.int v3), none, none]) [true, true, true, true, false, false] rfl ?_
              exact ih hw
            · have hw := hw.2 c144
              refine z_aload_n hC dX12_findExchange_147 rfl rfl ?_
              refine z_iload_n hC dX12_findExchange_148 rfl rfl ?_
              refine z_callV (ku' := 0) (kv' := 0) (n := 1) (As := [.int v3]) (st := []) hC (c_X12_canGive l G B S v0 v3 _) hw.2 hw.1 rfl lk_1950 lk_1952 lk_105 lk_133 lk_1953 hd_X12_canGive rfl rfl (Nat.le_of_ble_eq_true rfl) (Nat.le_of_ble_eq_true rfl) rfl (Nat.le_of_ble_eq_true rfl) dX12_findExchange_149 (Nat.le_refl 0) (Nat.le_refl 0) (kI (fun x149 S hw => ?_))
              refine z_if_eq (tgt := 18) hC dX12_findExchange_152 (by decide) (fun c152 => ?_) (fun c152 => ?_)
              · have hw := hw.1 c152
                refine z_mask (lv' := [some (.ref v0), some (.int v1), some (.int v2), some (.int v3), none, none]) [true, true, true, true, false, false] rfl ?_
                exact ih hw
              · have hw := hw.2 c152
                refine z_mask (lv' := [some (.ref v0), some (.int v1), some (.int v2), some (.int v3), none, none]) [true, true, true, true, false, false] rfl ?_
                exact t_X12_findExchange_b155 hC hr hlk hnm (fun hw => ih hw) hw
        · have hw := hw.2 c120
          refine z_inc (i := 3) hC ic_m1 dX12_findExchange_123 rfl (by decide) (hok_v rfl rfl) (fun y123 e123 => ?_)
          have hw := hw y123 e123
          refine z_goto (tgt := 18) hC dX12_findExchange_126 (by decide) ?_
          refine z_mask (lv' := [some (.ref v0), some (.int v1), some (.int v2), some (.int y123), none, none]) [true, true, true, true, false, false] rfl ?_
          exact ih hw
      · have hw := hw.2 c24
        refine z_aload_n hC dX12_findExchange_27 rfl rfl ?_
        refine z_callV (ku' := 0) (kv' := 0) (n := 0) (As := []) (st := []) hC (c_X12_gets l G B S v0 _) hw.2 hw.1 rfl lk_1946 lk_1948 lk_104 lk_133 lk_1949 hd_X12_gets rfl rfl (Nat.le_of_ble_eq_true rfl) (Nat.le_of_ble_eq_true rfl) rfl (Nat.le_of_ble_eq_true rfl) dX12_findExchange_28 (Nat.le_refl 0) (Nat.le_refl 0) (kI (fun x28 S hw => ?_))
        refine z_istore (i := 4) (lv' := [some (.ref v0), some (.int v1), some (.int v2), some (.int v3), some (.int x28), none]) hC dX12_findExchange_31 (by decide) (hok_v rfl rfl) rfl ?_
        refine z_iconst hC ic_0 dX12_findExchange_33 ?_
        refine z_istore (i := 5) (lv' := [some (.ref v0), some (.int v1), some (.int v2), some (.int v3), some (.int x28), some (.int 0)]) hC dX12_findExchange_34 (by decide) (hok_v rfl rfl) rfl ?_
        refine z_mask (lv' := [some (.ref v0), some (.int v1), some (.int v2), some (.int v3), some (.int x28), some (.int 0)]) [true, true, true, true, true, true] rfl ?_
        obtain ⟨n36, hw⟩ := hw
        exact t_X12_findExchange_b36 hC hr hlk hnm (fun hw => ih hw) n36 hw
def w_X12_findExchange (q : Int32 → hS → Prop) (S : hS) (v0 : Nat) : Prop := gP S v0 12 3 (fun x1 => aI S x1 1 (fun x5 => gP S v0 12 45 (fun x12 => sI S x12 0 (-1) (fun S => (∃ n18 : Nat, w_X12_findExchange_b18 q n18 S v0 x5 (-1) 0)))))
set_option maxRecDepth 100000 in
set_option maxHeartbeats 4000000 in
theorem c_X12_findExchange (l : Launch) (G : hG) (B : Nat) (S : hS) (v0 : Nat) (q : Int32 → hS → Prop) : Met l yX12_findExchange (hws yX12_findExchange cX12_findExchange 6 (Option.some FieldType.int)) ({ frames := 4, cells := 0, slots := 0, locals := 128 }) (hPc G B S [.ref v0] (w_X12_findExchange q S v0)) (hQ G B (iP q)) (0) (0) (fun r => B ≤ r) := by
  refine hMet (rm := { frames := 4, cells := 0, slots := 0, locals := 128 }) (lv := [some (.ref v0), none, none, none, none, none]) (own := RX12) (fr := 4) (lo := 128) (by decide) rfl rfl rfl (Nat.le_of_ble_eq_true rfl) rfl (fun hw p e R s m args below meth c hC hr hlk hnm => ?_)
  unfold w_X12_findExchange at hw
  refine z_aload_n hC dX12_findExchange_0 rfl rfl ?_
  refine z_getP hC FX12 3 lk_1358 dX12_findExchange_1 (by decide) hw (fun x1 hw => ?_)
  refine z_iconst hC ic_1 dX12_findExchange_4 ?_
  refine z_aldI hC dX12_findExchange_5 hw (fun x5 hw => ?_)
  refine z_istore_n (i := 1) (lv' := [some (.ref v0), some (.int x5), none, none, none, none]) hC rfl dX12_findExchange_6 (by decide) (hok_v rfl rfl) rfl ?_
  refine z_iconst hC ic_m1 dX12_findExchange_7 ?_
  refine z_istore_n (i := 2) (lv' := [some (.ref v0), some (.int x5), some (.int (-1)), none, none, none]) hC rfl dX12_findExchange_8 (by decide) (hok_v rfl rfl) rfl ?_
  refine z_iconst hC ic_0 dX12_findExchange_9 ?_
  refine z_istore_n (i := 3) (lv' := [some (.ref v0), some (.int x5), some (.int (-1)), some (.int 0), none, none]) hC rfl dX12_findExchange_10 (by decide) (hok_v rfl rfl) rfl ?_
  refine z_aload_n hC dX12_findExchange_11 rfl rfl ?_
  refine z_getP hC FX12 45 lk_1400 dX12_findExchange_12 (by decide) hw (fun x12 hw => ?_)
  refine z_iconst hC ic_0 dX12_findExchange_15 ?_
  refine z_iconst hC ic_m1 dX12_findExchange_16 ?_
  refine z_astI hC dX12_findExchange_17 hw (fun S hw => ?_)
  refine z_mask (lv' := [some (.ref v0), some (.int x5), some (.int (-1)), some (.int 0), none, none]) [true, true, true, true, false, false] rfl ?_
  obtain ⟨n18, hw⟩ := hw
  exact t_X12_findExchange_b18 hC hr hlk hnm n18 hw
end
section
variable {p : Program} {l : Launch} {e : Env} {R : Room} {s : State} {m : MethodId} {args : Array Value} {below : List Frame} {meth : Method} {c : Code} {G : hG} {B mc ms : Nat}
def w_X12_exchange (q : Int32 → hS → Prop) (S : hS) (v0 : Nat) (v1 : Int32) : Prop := pI S v0 12 0 0 (fun S => gP S v0 12 3 (fun x9 => aI S x9 1 (fun x13 => w_X12_in (fun x15 S => (¬ x15 = 0 → oK S v0 12 ∧ w_X12_findExchange (fun x24 S => (¬ v1 = 0 → gP S v0 12 46 (fun x37 => aI S x37 (v1 - 1) (fun x43 => q x43 S))) ∧ (v1 = 0 → q x24 S)) S v0) ∧ (x15 = 0 → q (-1) S)) S (Int32.toInt64 v1) 0 (Int32.toInt64 x13))))
set_option maxRecDepth 100000 in
set_option maxHeartbeats 4000000 in
theorem c_X12_exchange (l : Launch) (G : hG) (B : Nat) (S : hS) (v0 : Nat) (v1 : Int32) (q : Int32 → hS → Prop) : Met l yX12_exchange (hws yX12_exchange cX12_exchange 3 (Option.some FieldType.int)) ({ frames := 5, cells := 0, slots := 0, locals := 153 }) (hPc G B S [.ref v0, .int v1] (w_X12_exchange q S v0 v1)) (hQ G B (iP q)) (0) (0) (fun r => B ≤ r) := by
  refine hMet (rm := { frames := 5, cells := 0, slots := 0, locals := 153 }) (lv := [some (.ref v0), some (.int v1), none]) (own := RX12) (fr := 5) (lo := 153) (by decide) rfl rfl rfl (Nat.le_of_ble_eq_true rfl) rfl (fun hw p e R s m args below meth c hC hr hlk hnm => ?_)
  unfold w_X12_exchange at hw
  refine z_aload_n hC dX12_exchange_0 rfl rfl ?_
  refine z_iconst hC ic_0 dX12_exchange_1 ?_
  refine z_putI hC FX12 0 lk_1355 dX12_exchange_2 (by decide) rfl rfl hw (fun S hw => ?_)
  refine z_iload_n hC dX12_exchange_5 rfl rfl ?_
  refine z_i2l hC rfl dX12_exchange_6 ?_
  refine z_lconst hC lc_0 dX12_exchange_7 ?_
  refine z_aload_n hC dX12_exchange_8 rfl rfl ?_
  refine z_getP hC FX12 3 lk_1358 dX12_exchange_9 (by decide) hw (fun x9 hw => ?_)
  refine z_iconst hC ic_1 dX12_exchange_12 ?_
  refine z_aldI hC dX12_exchange_13 hw (fun x13 hw => ?_)
  refine z_i2l hC rfl dX12_exchange_14 ?_
  refine z_callS (ku' := 0) (kv' := 0) (n := 3) (As := [.long (Int32.toInt64 v1), .long 0, .long (Int32.toInt64 x13)]) (st := []) hC (c_X12_in l G B S (Int32.toInt64 v1) 0 (Int32.toInt64 x13) _) hw lk_1556 lk_1557 lk_133 lk_1558 hd_X12_in rfl rfl (Nat.le_of_ble_eq_true rfl) (Nat.le_of_ble_eq_true rfl) rfl (Nat.le_of_ble_eq_true rfl) dX12_exchange_15 (Nat.le_refl 0) (Nat.le_refl 0) (kI (fun x15 S hw => ?_))
  refine z_if_ne (tgt := 23) hC dX12_exchange_18 (by decide) (fun c18 => ?_) (fun c18 => ?_)
  · have hw := hw.1 c18
    refine z_aload_n hC dX12_exchange_23 rfl rfl ?_
    refine z_callV (ku' := 0) (kv' := 0) (n := 0) (As := []) (st := []) hC (c_X12_findExchange l G B S v0 _) hw.2 hw.1 rfl lk_1942 lk_1944 lk_103 lk_133 lk_1945 hd_X12_findExchange rfl rfl (Nat.le_of_ble_eq_true rfl) (Nat.le_of_ble_eq_true rfl) rfl (Nat.le_of_ble_eq_true rfl) dX12_exchange_24 (Nat.le_refl 0) (Nat.le_refl 0) (kI (fun x24 S hw => ?_))
    refine z_istore_n (i := 2) (lv' := [some (.ref v0), some (.int v1), some (.int x24)]) hC rfl dX12_exchange_27 (by decide) (hok_v rfl rfl) rfl ?_
    refine z_iload_n hC dX12_exchange_28 rfl rfl ?_
    refine z_if_ne (tgt := 36) hC dX12_exchange_29 (by decide) (fun c29 => ?_) (fun c29 => ?_)
    · have hw := hw.1 c29
      refine z_aload_n hC dX12_exchange_36 rfl rfl ?_
      refine z_getP hC FX12 46 lk_1401 dX12_exchange_37 (by decide) hw (fun x37 hw => ?_)
      refine z_iload_n hC dX12_exchange_40 rfl rfl ?_
      refine z_iconst hC ic_1 dX12_exchange_41 ?_
      refine z_isub hC dX12_exchange_42 ?_
      refine z_aldI hC dX12_exchange_43 hw (fun x43 hw => ?_)
      exact z_iret hC hr hlk dX12_exchange_44 ⟨_, rfl, hw⟩
    · have hw := hw.2 c29
      refine z_iload_n hC dX12_exchange_32 rfl rfl ?_
      refine z_goto (tgt := 44) hC dX12_exchange_33 (by decide) ?_
      exact z_iret hC hr hlk dX12_exchange_44 ⟨_, rfl, hw⟩
  · have hw := hw.2 c18
    refine z_iconst hC ic_m1 dX12_exchange_21 ?_
    exact z_iret hC hr hlk dX12_exchange_22 ⟨_, rfl, hw⟩
end
