section
variable {p : Program} {l : Launch} {e : Env} {R : Room} {s : State} {m : MethodId} {args : Array Value} {below : List Frame} {meth : Method} {c : Code} {G : hG} {B mc ms : Nat}
def w_X11_keep_b50 (q : Int32 → hS → Prop) : Nat → hS → (Nat) → (Int32) → (Int32) → (Int32) → (Int32) → (Int32) → Prop
  | 0, _, _, _, _, _, _, _ => False
  | n + 1, S, v0, v1, v2, v3, v4, v5 => (v3 ≤ v5 → gP S v0 11 9 (fun x98 => oK S x98 7 ∧ w_X7_keepRings (fun x103 S => (¬ v4 = (-1) → gP S v0 11 9 (fun x120 => gP S x120 7 2 (fun x123 => aI S x123 v4 (fun x128 => q x128 S)))) ∧ (v4 = (-1) → q x103 S)) S x98 v2 v3)) ∧ (¬ v3 ≤ v5 → gP S v0 11 9 (fun x57 => gP S x57 7 1 (fun x60 => gP S v0 11 6 (fun x66 => gP S v0 11 0 (fun x70 => gP S v0 11 0 (fun x75 => gP S x75 8 0 (fun x78 => gI S x78 2 5 (fun x81 => oK S x66 0 ∧ w_X0_worthIn (fun x87 S => sI S x60 v5 x87 (fun S => ∀ y91 : Int32, y91 = v5 + 1 → w_X11_keep_b50 q n S v0 v1 v2 v3 v4 y91)) S x66 x70 v1 (x81 + v5)))))))))
set_option maxRecDepth 100000 in
set_option maxHeartbeats 4000000 in
theorem t_X11_keep_b50 (hC : zC p R s m args c cX11_keep 6 RX11 G B mc ms 5 163) (hr : meth.sig.returnType = (Option.some FieldType.int)) (hlk : meth.locks = false) (hnm : meth.name = "keep") {q : Int32 → hS → Prop} (n : Nat) : ∀ {S : hS} {v0 : Nat} {v1 : Int32} {v2 : Int32} {v3 : Int32} {v4 : Int32} {v5 : Int32} (hw : w_X11_keep_b50 q n S v0 v1 v2 v3 v4 v5), Z p l e R s m args below meth c (MQ below (hQ G B (iP q)) args s mc ms (fun r => B ≤ r)) G B mc ms 6 S 0 0 50 [some (.ref v0), some (.int v1), some (.int v2), some (.int v3), some (.int v4), some (.int v5)] [] := by
  induction n with
  | zero => intro S v0 v1 v2 v3 v4 v5 hw; exact (by rw [w_X11_keep_b50] at hw; exact hw.elim)
  | succ n ih =>
    intro S v0 v1 v2 v3 v4 v5 hw
    rw [w_X11_keep_b50] at hw
    refine z_iload hC dX11_keep_50 rfl ?_
    refine z_iload_n hC dX11_keep_52 rfl rfl ?_
    refine z_icmp_ge (tgt := 97) hC dX11_keep_53 (by decide) (fun c53 => ?_) (fun c53 => ?_)
    · have hw := hw.1 c53
      refine z_aload_n hC dX11_keep_97 rfl rfl ?_
      refine z_getP hC FX11 9 lk_524 dX11_keep_98 (by decide) hw (fun x98 hw => ?_)
      refine z_iload_n hC dX11_keep_101 rfl rfl ?_
      refine z_iload_n hC dX11_keep_102 rfl rfl ?_
      refine z_callV (ku' := 0) (kv' := 0) (n := 2) (As := [.int v2, .int v3]) (st := []) hC (c_X7_keepRings l G B S x98 v2 v3 _) hw.2 hw.1 rfl lk_1240 lk_1241 lk_1242 lk_132 lk_1243 hd_X7_keepRings rfl rfl (Nat.le_of_ble_eq_true rfl) (Nat.le_of_ble_eq_true rfl) rfl (Nat.le_of_ble_eq_true rfl) dX11_keep_103 (Nat.le_refl 0) (Nat.le_refl 0) (kI (fun x103 S hw => ?_))
      refine z_istore (i := 5) (lv' := [some (.ref v0), some (.int v1), some (.int v2), some (.int v3), some (.int v4), some (.int x103)]) hC dX11_keep_106 (by decide) (hok_v rfl rfl) rfl ?_
      refine z_iload hC dX11_keep_108 rfl ?_
      refine z_iconst hC ic_m1 dX11_keep_110 ?_
      refine z_icmp_ne (tgt := 119) hC dX11_keep_111 (by decide) (fun c111 => ?_) (fun c111 => ?_)
      · have hw := hw.1 c111
        refine z_aload_n hC dX11_keep_119 rfl rfl ?_
        refine z_getP hC FX11 9 lk_524 dX11_keep_120 (by decide) hw (fun x120 hw => ?_)
        refine z_getP hC FX7 2 lk_500 dX11_keep_123 (by decide) hw (fun x123 hw => ?_)
        refine z_iload hC dX11_keep_126 rfl ?_
        refine z_aldI hC dX11_keep_128 hw (fun x128 hw => ?_)
        exact z_iret hC hr hlk dX11_keep_129 ⟨_, rfl, hw⟩
      · have hw := hw.2 c111
        refine z_iload hC dX11_keep_114 rfl ?_
        refine z_goto (tgt := 129) hC dX11_keep_116 (by decide) ?_
        exact z_iret hC hr hlk dX11_keep_129 ⟨_, rfl, hw⟩
    · have hw := hw.2 c53
      refine z_aload_n hC dX11_keep_56 rfl rfl ?_
      refine z_getP hC FX11 9 lk_524 dX11_keep_57 (by decide) hw (fun x57 hw => ?_)
      refine z_getP hC FX7 1 lk_498 dX11_keep_60 (by decide) hw (fun x60 hw => ?_)
      refine z_iload hC dX11_keep_63 rfl ?_
      refine z_aload_n hC dX11_keep_65 rfl rfl ?_
      refine z_getP hC FX11 6 lk_521 dX11_keep_66 (by decide) hw (fun x66 hw => ?_)
      refine z_aload_n hC dX11_keep_69 rfl rfl ?_
      refine z_getP hC FX11 0 lk_515 dX11_keep_70 (by decide) hw (fun x70 hw => ?_)
      refine z_iload_n hC dX11_keep_73 rfl rfl ?_
      refine z_aload_n hC dX11_keep_74 rfl rfl ?_
      refine z_getP hC FX11 0 lk_515 dX11_keep_75 (by decide) hw (fun x75 hw => ?_)
      refine z_getP hC FX8 0 lk_203 dX11_keep_78 (by decide) hw (fun x78 hw => ?_)
      refine z_getI hC FX2 5 lk_182 dX11_keep_81 (by decide) hw (fun x81 hw => ?_)
      refine z_iload hC dX11_keep_84 rfl ?_
      refine z_iadd hC dX11_keep_86 ?_
      refine z_callV (ku' := 0) (kv' := 0) (n := 3) (As := [.ref x70, .int v1, .int (x81 + v5)]) (st := [.int v5, .ref x60]) hC (c_X0_worthIn l G B S x66 x70 v1 (x81 + v5) _) hw.2 hw.1 rfl lk_617 lk_618 lk_619 lk_128 lk_620 hd_X0_worthIn rfl rfl (Nat.le_of_ble_eq_true rfl) (Nat.le_of_ble_eq_true rfl) rfl (Nat.le_of_ble_eq_true rfl) dX11_keep_87 (Nat.le_refl 0) (Nat.le_refl 0) (kI (fun x87 S hw => ?_))
      refine z_astI hC dX11_keep_90 hw (fun S hw => ?_)
      refine z_inc (i := 5) hC ic_1 dX11_keep_91 rfl (by decide) (hok_v rfl rfl) (fun y91 e91 => ?_)
      have hw := hw y91 e91
      refine z_goto (tgt := 50) hC dX11_keep_94 (by decide) ?_
      refine z_mask (lv' := [some (.ref v0), some (.int v1), some (.int v2), some (.int v3), some (.int v4), some (.int y91)]) [true, true, true, true, true, true] rfl ?_
      exact ih hw
def w_X11_keep (q : Int32 → hS → Prop) (S : hS) (v0 : Nat) (v1 : Int32) (v2 : Int32) (v3 : Int32) (v4 : Int32) : Prop := gP S v0 11 0 (fun x1 => oK S x1 8 ∧ w_X8_hasHouse (fun x5 S => (x5 = 0 → q (-1) S) ∧ (¬ x5 = 0 → w_X11_isWithin (fun x14 S => (x14 = 0 → q (-1) S) ∧ (¬ x14 = 0 → (v3 < 1 → q (-1) S) ∧ (¬ v3 < 1 → (v3 ≤ 8 → (v4 < (-1) → q (-1) S) ∧ (¬ v4 < (-1) → (v4 < v3 → (∃ n50 : Nat, w_X11_keep_b50 q n50 S v0 v1 v2 v3 v4 0)) ∧ (¬ v4 < v3 → q (-1) S))) ∧ (¬ v3 ≤ 8 → q (-1) S)))) S v2 20)) S x1 v1)
set_option maxRecDepth 100000 in
set_option maxHeartbeats 4000000 in
theorem c_X11_keep (l : Launch) (G : hG) (B : Nat) (S : hS) (v0 : Nat) (v1 : Int32) (v2 : Int32) (v3 : Int32) (v4 : Int32) (q : Int32 → hS → Prop) : Met l yX11_keep (hws yX11_keep cX11_keep 6 (Option.some FieldType.int)) ({ frames := 5, cells := 0, slots := 0, locals := 163 }) (hPc G B S [.ref v0, .int v1, .int v2, .int v3, .int v4] (w_X11_keep q S v0 v1 v2 v3 v4)) (hQ G B (iP q)) (0) (0) (fun r => B ≤ r) := by
  refine hMet (rm := { frames := 5, cells := 0, slots := 0, locals := 163 }) (lv := [some (.ref v0), some (.int v1), some (.int v2), some (.int v3), some (.int v4), none]) (own := RX11) (fr := 5) (lo := 163) (by decide) rfl rfl rfl (Nat.le_of_ble_eq_true rfl) rfl (fun hw p e R s m args below meth c hC hr hlk hnm => ?_)
  unfold w_X11_keep at hw
  refine z_aload_n hC dX11_keep_0 rfl rfl ?_
  refine z_getP hC FX11 0 lk_515 dX11_keep_1 (by decide) hw (fun x1 hw => ?_)
  refine z_iload_n hC dX11_keep_4 rfl rfl ?_
  refine z_callV (ku' := 0) (kv' := 0) (n := 1) (As := [.int v1]) (st := []) hC (c_X8_hasHouse l G B S x1 v1 _) hw.2 hw.1 rfl lk_600 lk_601 lk_602 lk_122 lk_603 hd_X8_hasHouse rfl rfl (Nat.le_of_ble_eq_true rfl) (Nat.le_of_ble_eq_true rfl) rfl (Nat.le_of_ble_eq_true rfl) dX11_keep_5 (Nat.le_refl 0) (Nat.le_refl 0) (kI (fun x5 S hw => ?_))
  refine z_if_eq (tgt := 31) hC dX11_keep_8 (by decide) (fun c8 => ?_) (fun c8 => ?_)
  · have hw := hw.1 c8
    refine z_iconst hC ic_m1 dX11_keep_31 ?_
    exact z_iret hC hr hlk dX11_keep_32 ⟨_, rfl, hw⟩
  · have hw := hw.2 c8
    refine z_iload_n hC dX11_keep_11 rfl rfl ?_
    refine z_bipush hC bi_20 dX11_keep_12 ?_
    refine z_callS (ku' := 0) (kv' := 0) (n := 2) (As := [.int v2, .int 20]) (st := []) hC (c_X11_isWithin l G B S v2 20 _) hw lk_574 lk_575 lk_121 lk_576 hd_X11_isWithin rfl rfl (Nat.le_of_ble_eq_true rfl) (Nat.le_of_ble_eq_true rfl) rfl (Nat.le_of_ble_eq_true rfl) dX11_keep_14 (Nat.le_refl 0) (Nat.le_refl 0) (kI (fun x14 S hw => ?_))
    refine z_if_eq (tgt := 31) hC dX11_keep_17 (by decide) (fun c17 => ?_) (fun c17 => ?_)
    · have hw := hw.1 c17
      refine z_iconst hC ic_m1 dX11_keep_31 ?_
      exact z_iret hC hr hlk dX11_keep_32 ⟨_, rfl, hw⟩
    · have hw := hw.2 c17
      refine z_iload_n hC dX11_keep_20 rfl rfl ?_
      refine z_iconst hC ic_1 dX11_keep_21 ?_
      refine z_icmp_lt (tgt := 31) hC dX11_keep_22 (by decide) (fun c22 => ?_) (fun c22 => ?_)
      · have hw := hw.1 c22
        refine z_iconst hC ic_m1 dX11_keep_31 ?_
        exact z_iret hC hr hlk dX11_keep_32 ⟨_, rfl, hw⟩
      · have hw := hw.2 c22
        refine z_iload_n hC dX11_keep_25 rfl rfl ?_
        refine z_bipush hC bi_8 dX11_keep_26 ?_
        refine z_icmp_le (tgt := 33) hC dX11_keep_28 (by decide) (fun c28 => ?_) (fun c28 => ?_)
        · have hw := hw.1 c28
          refine z_iload hC dX11_keep_33 rfl ?_
          refine z_iconst hC ic_m1 dX11_keep_35 ?_
          refine z_icmp_lt (tgt := 45) hC dX11_keep_36 (by decide) (fun c36 => ?_) (fun c36 => ?_)
          · have hw := hw.1 c36
            refine z_iconst hC ic_m1 dX11_keep_45 ?_
            exact z_iret hC hr hlk dX11_keep_46 ⟨_, rfl, hw⟩
          · have hw := hw.2 c36
            refine z_iload hC dX11_keep_39 rfl ?_
            refine z_iload_n hC dX11_keep_41 rfl rfl ?_
            refine z_icmp_lt (tgt := 47) hC dX11_keep_42 (by decide) (fun c42 => ?_) (fun c42 => ?_)
            · have hw := hw.1 c42
              refine z_iconst hC ic_0 dX11_keep_47 ?_
              refine z_istore (i := 5) (lv' := [some (.ref v0), some (.int v1), some (.int v2), some (.int v3), some (.int v4), some (.int 0)]) hC dX11_keep_48 (by decide) (hok_v rfl rfl) rfl ?_
              refine z_mask (lv' := [some (.ref v0), some (.int v1), some (.int v2), some (.int v3), some (.int v4), some (.int 0)]) [true, true, true, true, true, true] rfl ?_
              obtain ⟨n50, hw⟩ := hw
              exact t_X11_keep_b50 hC hr hlk hnm n50 hw
            · have hw := hw.2 c42
              refine z_iconst hC ic_m1 dX11_keep_45 ?_
              exact z_iret hC hr hlk dX11_keep_46 ⟨_, rfl, hw⟩
        · have hw := hw.2 c28
          refine z_iconst hC ic_m1 dX11_keep_31 ?_
          exact z_iret hC hr hlk dX11_keep_32 ⟨_, rfl, hw⟩
end
section
variable {p : Program} {l : Launch} {e : Env} {R : Room} {s : State} {m : MethodId} {args : Array Value} {below : List Frame} {meth : Method} {c : Code} {G : hG} {B mc ms : Nat}
def w_X11_setSales_b67 (q : hS → Prop) (K2 : hS → (Nat) → (Int32) → (Int32) → Prop) (K15 : hS → (Nat) → (Int32) → (Int32) → (Int32) → Prop) (S : hS) (v0 : Nat) (v1 : Int32) (v2 : Int32) (v3 : Int32) (v4 : Int32) : Prop := gP S v0 11 8 (fun x68 => gP S x68 4 7 (fun x71 => sI S x71 ((v2 * 8) + v3) v4 (fun S => ∀ y83 : Int32, y83 = v3 + 1 → K15 S v0 v1 v2 y83)))
set_option maxRecDepth 100000 in
set_option maxHeartbeats 4000000 in
theorem t_X11_setSales_b67 (hC : zC p R s m args c cX11_setSales 5 RX11 G B mc ms 6 188) (hr : meth.sig.returnType = (Option.none : Option FieldType)) (hlk : meth.locks = false) (hnm : meth.name = "setSales") {q : hS → Prop} {K2 : hS → (Nat) → (Int32) → (Int32) → Prop} (hK2 : ∀ {S : hS} {v0 : Nat} {v1 : Int32} {v2 : Int32}, K2 S v0 v1 v2 → Z p l e R s m args below meth c (MQ below (hQ G B (vP q)) args s mc ms (fun r => B ≤ r)) G B mc ms 5 S 0 0 2 [some (.ref v0), some (.int v1), some (.int v2), none, none] []) {K15 : hS → (Nat) → (Int32) → (Int32) → (Int32) → Prop} (hK15 : ∀ {S : hS} {v0 : Nat} {v1 : Int32} {v2 : Int32} {v3 : Int32}, K15 S v0 v1 v2 v3 → Z p l e R s m args below meth c (MQ below (hQ G B (vP q)) args s mc ms (fun r => B ≤ r)) G B mc ms 5 S 0 0 15 [some (.ref v0), some (.int v1), some (.int v2), some (.int v3), none] []) {S : hS} {v0 : Nat} {v1 : Int32} {v2 : Int32} {v3 : Int32} {v4 : Int32} (hw : w_X11_setSales_b67 q K2 K15 S v0 v1 v2 v3 v4) : Z p l e R s m args below meth c (MQ below (hQ G B (vP q)) args s mc ms (fun r => B ≤ r)) G B mc ms 5 S 0 0 67 [some (.ref v0), some (.int v1), some (.int v2), some (.int v3), some (.int v4)] [] := by
  unfold w_X11_setSales_b67 at hw
  refine z_aload_n hC dX11_setSales_67 rfl rfl ?_
  refine z_getP hC FX11 8 lk_523 dX11_setSales_68 (by decide) hw (fun x68 hw => ?_)
  refine z_getP hC FX4 7 lk_460 dX11_setSales_71 (by decide) hw (fun x71 hw => ?_)
  refine z_iload_n hC dX11_setSales_74 rfl rfl ?_
  refine z_bipush hC bi_8 dX11_setSales_75 ?_
  refine z_imul hC dX11_setSales_77 ?_
  refine z_iload_n hC dX11_setSales_78 rfl rfl ?_
  refine z_iadd hC dX11_setSales_79 ?_
  refine z_iload hC dX11_setSales_80 rfl ?_
  refine z_astI hC dX11_setSales_82 hw (fun S hw => ?_)
  refine z_inc (i := 3) hC ic_1 dX11_setSales_83 rfl (by decide) (hok_v rfl rfl) (fun y83 e83 => ?_)
  have hw := hw y83 e83
  refine z_goto (tgt := 15) hC dX11_setSales_86 (by decide) ?_
  refine z_mask (lv' := [some (.ref v0), some (.int v1), some (.int v2), some (.int y83), none]) [true, true, true, true, false] rfl ?_
  exact hK15 hw
def w_X11_setSales_b15 (q : hS → Prop) (K2 : hS → (Nat) → (Int32) → (Int32) → Prop) : Nat → hS → (Nat) → (Int32) → (Int32) → (Int32) → Prop
  | 0, _, _, _, _, _ => False
  | n + 1, S, v0, v1, v2, v3 => gP S v0 11 0 (fun x17 => gI S x17 8 4 (fun x20 => (x20 ≤ v3 → ∀ y89 : Int32, y89 = v2 + 1 → K2 S v0 v1 y89) ∧ (¬ x20 ≤ v3 → (v2 = v3 → w_X11_setSales_b67 q K2 (fun S v0 v1 v2 v3 => w_X11_setSales_b15 q K2 n S v0 v1 v2 v3) S v0 v1 v2 v3 (-1)) ∧ (¬ v2 = v3 → gP S v0 11 7 (fun x35 => gP S v0 11 0 (fun x39 => oK S x35 1 ∧ w_X1_canBuy (fun x45 S => (x45 = 0 → w_X11_setSales_b67 q K2 (fun S v0 v1 v2 v3 => w_X11_setSales_b15 q K2 n S v0 v1 v2 v3) S v0 v1 v2 v3 (-1)) ∧ (¬ x45 = 0 → gP S v0 11 6 (fun x52 => gP S v0 11 0 (fun x56 => oK S x52 0 ∧ w_X0_price (fun x62 S => w_X11_setSales_b67 q K2 (fun S v0 v1 v2 v3 => w_X11_setSales_b15 q K2 n S v0 v1 v2 v3) S v0 v1 v2 v3 x62) S x52 x56 v2 v3 v1)))) S x35 x39 v2 v3 v1))))))
set_option maxRecDepth 100000 in
set_option maxHeartbeats 4000000 in
theorem t_X11_setSales_b15 (hC : zC p R s m args c cX11_setSales 5 RX11 G B mc ms 6 188) (hr : meth.sig.returnType = (Option.none : Option FieldType)) (hlk : meth.locks = false) (hnm : meth.name = "setSales") {q : hS → Prop} {K2 : hS → (Nat) → (Int32) → (Int32) → Prop} (hK2 : ∀ {S : hS} {v0 : Nat} {v1 : Int32} {v2 : Int32}, K2 S v0 v1 v2 → Z p l e R s m args below meth c (MQ below (hQ G B (vP q)) args s mc ms (fun r => B ≤ r)) G B mc ms 5 S 0 0 2 [some (.ref v0), some (.int v1), some (.int v2), none, none] []) (n : Nat) : ∀ {S : hS} {v0 : Nat} {v1 : Int32} {v2 : Int32} {v3 : Int32} (hw : w_X11_setSales_b15 q K2 n S v0 v1 v2 v3), Z p l e R s m args below meth c (MQ below (hQ G B (vP q)) args s mc ms (fun r => B ≤ r)) G B mc ms 5 S 0 0 15 [some (.ref v0), some (.int v1), some (.int v2), some (.int v3), none] [] := by
  induction n with
  | zero => intro S v0 v1 v2 v3 hw; exact (by rw [w_X11_setSales_b15] at hw; exact hw.elim)
  | succ n ih =>
    intro S v0 v1 v2 v3 hw
    rw [w_X11_setSales_b15] at hw
    refine z_iload_n hC dX11_setSales_15 rfl rfl ?_
    refine z_aload_n hC dX11_setSales_16 rfl rfl ?_
    refine z_getP hC FX11 0 lk_515 dX11_setSales_17 (by decide) hw (fun x17 hw => ?_)
    refine z_getI hC FX8 4 lk_218 dX11_setSales_20 (by decide) hw (fun x20 hw => ?_)
    refine z_icmp_ge (tgt := 89) hC dX11_setSales_23 (by decide) (fun c23 => ?_) (fun c23 => ?_)
    · have hw := hw.1 c23
      refine z_inc (i := 2) hC ic_1 dX11_setSales_89 rfl (by decide) (hok_v rfl rfl) (fun y89 e89 => ?_)
      have hw := hw y89 e89
      refine z_goto (tgt := 2) hC dX11_setSales_92 (by decide) ?_
      refine z_mask (lv' := [some (.ref v0), some (.int v1), some (.int y89), none, none]) [true, true, true, false, false] rfl ?_
      exact hK2 hw
    · have hw := hw.2 c23
      refine z_iconst hC ic_m1 dX11_setSales_26 ?_
      refine z_istore (i := 4) (lv' := [some (.ref v0), some (.int v1), some (.int v2), some (.int v3), some (.int (-1))]) hC dX11_setSales_27 (by decide) (hok_v rfl rfl) rfl ?_
      refine z_iload_n hC dX11_setSales_29 rfl rfl ?_
      refine z_iload_n hC dX11_setSales_30 rfl rfl ?_
      refine z_icmp_eq (tgt := 67) hC dX11_setSales_31 (by decide) (fun c31 => ?_) (fun c31 => ?_)
      · have hw := hw.1 c31
        refine z_mask (lv' := [some (.ref v0), some (.int v1), some (.int v2), some (.int v3), some (.int (-1))]) [true, true, true, true, true] rfl ?_
        exact t_X11_setSales_b67 hC hr hlk hnm hK2 (fun hw => ih hw) hw
      · have hw := hw.2 c31
        refine z_aload_n hC dX11_setSales_34 rfl rfl ?_
        refine z_getP hC FX11 7 lk_522 dX11_setSales_35 (by decide) hw (fun x35 hw => ?_)
        refine z_aload_n hC dX11_setSales_38 rfl rfl ?_
        refine z_getP hC FX11 0 lk_515 dX11_setSales_39 (by decide) hw (fun x39 hw => ?_)
        refine z_iload_n hC dX11_setSales_42 rfl rfl ?_
        refine z_iload_n hC dX11_setSales_43 rfl rfl ?_
        refine z_iload_n hC dX11_setSales_44 rfl rfl ?_
        refine z_callV (ku' := 0) (kv' := 0) (n := 4) (As := [.ref x39, .int v2, .int v3, .int v1]) (st := []) hC (c_X1_canBuy l G B S x35 x39 v2 v3 v1 _) hw.2 hw.1 rfl lk_738 lk_739 lk_740 lk_130 lk_741 hd_X1_canBuy rfl rfl (Nat.le_of_ble_eq_true rfl) (Nat.le_of_ble_eq_true rfl) rfl (Nat.le_of_ble_eq_true rfl) dX11_setSales_45 (Nat.le_refl 0) (Nat.le_refl 0) (kI (fun x45 S hw => ?_))
        refine z_if_eq (tgt := 67) hC dX11_setSales_48 (by decide) (fun c48 => ?_) (fun c48 => ?_)
        · have hw := hw.1 c48
          refine z_mask (lv' := [some (.ref v0), some (.int v1), some (.int v2), some (.int v3), some (.int (-1))]) [true, true, true, true, true] rfl ?_
          exact t_X11_setSales_b67 hC hr hlk hnm hK2 (fun hw => ih hw) hw
        · have hw := hw.2 c48
          refine z_aload_n hC dX11_setSales_51 rfl rfl ?_
          refine z_getP hC FX11 6 lk_521 dX11_setSales_52 (by decide) hw (fun x52 hw => ?_)
          refine z_aload_n hC dX11_setSales_55 rfl rfl ?_
          refine z_getP hC FX11 0 lk_515 dX11_setSales_56 (by decide) hw (fun x56 hw => ?_)
          refine z_iload_n hC dX11_setSales_59 rfl rfl ?_
          refine z_iload_n hC dX11_setSales_60 rfl rfl ?_
          refine z_iload_n hC dX11_setSales_61 rfl rfl ?_
          refine z_callV (ku' := 0) (kv' := 0) (n := 4) (As := [.ref x56, .int v2, .int v3, .int v1]) (st := []) hC (c_X0_price l G B S x52 x56 v2 v3 v1 _) hw.2 hw.1 rfl lk_726 lk_727 lk_728 lk_128 lk_729 hd_X0_price rfl rfl (Nat.le_of_ble_eq_true rfl) (Nat.le_of_ble_eq_true rfl) rfl (Nat.le_of_ble_eq_true rfl) dX11_setSales_62 (Nat.le_refl 0) (Nat.le_refl 0) (kI (fun x62 S hw => ?_))
          refine z_istore (i := 4) (lv' := [some (.ref v0), some (.int v1), some (.int v2), some (.int v3), some (.int x62)]) hC dX11_setSales_65 (by decide) (hok_v rfl rfl) rfl ?_
          refine z_mask (lv' := [some (.ref v0), some (.int v1), some (.int v2), some (.int v3), some (.int x62)]) [true, true, true, true, true] rfl ?_
          exact t_X11_setSales_b67 hC hr hlk hnm hK2 (fun hw => ih hw) hw
def w_X11_setSales_b2 (q : hS → Prop) : Nat → hS → (Nat) → (Int32) → (Int32) → Prop
  | 0, _, _, _, _ => False
  | n + 1, S, v0, v1, v2 => gP S v0 11 0 (fun x4 => gI S x4 8 4 (fun x7 => (x7 ≤ v2 → q S) ∧ (¬ x7 ≤ v2 → (∃ n15 : Nat, w_X11_setSales_b15 q (fun S v0 v1 v2 => w_X11_setSales_b2 q n S v0 v1 v2) n15 S v0 v1 v2 0))))
set_option maxRecDepth 100000 in
set_option maxHeartbeats 4000000 in
theorem t_X11_setSales_b2 (hC : zC p R s m args c cX11_setSales 5 RX11 G B mc ms 6 188) (hr : meth.sig.returnType = (Option.none : Option FieldType)) (hlk : meth.locks = false) (hnm : meth.name = "setSales") {q : hS → Prop} (n : Nat) : ∀ {S : hS} {v0 : Nat} {v1 : Int32} {v2 : Int32} (hw : w_X11_setSales_b2 q n S v0 v1 v2), Z p l e R s m args below meth c (MQ below (hQ G B (vP q)) args s mc ms (fun r => B ≤ r)) G B mc ms 5 S 0 0 2 [some (.ref v0), some (.int v1), some (.int v2), none, none] [] := by
  induction n with
  | zero => intro S v0 v1 v2 hw; exact (by rw [w_X11_setSales_b2] at hw; exact hw.elim)
  | succ n ih =>
    intro S v0 v1 v2 hw
    rw [w_X11_setSales_b2] at hw
    refine z_iload_n hC dX11_setSales_2 rfl rfl ?_
    refine z_aload_n hC dX11_setSales_3 rfl rfl ?_
    refine z_getP hC FX11 0 lk_515 dX11_setSales_4 (by decide) hw (fun x4 hw => ?_)
    refine z_getI hC FX8 4 lk_218 dX11_setSales_7 (by decide) hw (fun x7 hw => ?_)
    refine z_icmp_ge (tgt := 95) hC dX11_setSales_10 (by decide) (fun c10 => ?_) (fun c10 => ?_)
    · have hw := hw.1 c10
      exact z_vret hC hr hlk dX11_setSales_95 ⟨rfl, hw⟩
    · have hw := hw.2 c10
      refine z_iconst hC ic_0 dX11_setSales_13 ?_
      refine z_istore_n (i := 3) (lv' := [some (.ref v0), some (.int v1), some (.int v2), some (.int 0), none]) hC rfl dX11_setSales_14 (by decide) (hok_v rfl rfl) rfl ?_
      refine z_mask (lv' := [some (.ref v0), some (.int v1), some (.int v2), some (.int 0), none]) [true, true, true, true, false] rfl ?_
      obtain ⟨n15, hw⟩ := hw
      exact t_X11_setSales_b15 hC hr hlk hnm (fun hw => ih hw) n15 hw
def w_X11_setSales (q : hS → Prop) (S : hS) (v0 : Nat) (v1 : Int32) : Prop := (∃ n2 : Nat, w_X11_setSales_b2 q n2 S v0 v1 0)
set_option maxRecDepth 100000 in
set_option maxHeartbeats 4000000 in
theorem c_X11_setSales (l : Launch) (G : hG) (B : Nat) (S : hS) (v0 : Nat) (v1 : Int32) (q : hS → Prop) : Met l yX11_setSales (hws yX11_setSales cX11_setSales 5 (Option.none : Option FieldType)) ({ frames := 6, cells := 0, slots := 0, locals := 188 }) (hPc G B S [.ref v0, .int v1] (w_X11_setSales q S v0 v1)) (hQ G B (vP q)) (0) (0) (fun r => B ≤ r) := by
  refine hMet (rm := { frames := 6, cells := 0, slots := 0, locals := 188 }) (lv := [some (.ref v0), some (.int v1), none, none, none]) (own := RX11) (fr := 6) (lo := 188) (by decide) rfl rfl rfl (Nat.le_of_ble_eq_true rfl) rfl (fun hw p e R s m args below meth c hC hr hlk hnm => ?_)
  unfold w_X11_setSales at hw
  refine z_iconst hC ic_0 dX11_setSales_0 ?_
  refine z_istore_n (i := 2) (lv' := [some (.ref v0), some (.int v1), some (.int 0), none, none]) hC rfl dX11_setSales_1 (by decide) (hok_v rfl rfl) rfl ?_
  refine z_mask (lv' := [some (.ref v0), some (.int v1), some (.int 0), none, none]) [true, true, true, false, false] rfl ?_
  obtain ⟨n2, hw⟩ := hw
  exact t_X11_setSales_b2 hC hr hlk hnm n2 hw
end
section
variable {p : Program} {l : Launch} {e : Env} {R : Room} {s : State} {m : MethodId} {args : Array Value} {below : List Frame} {meth : Method} {c : Code} {G : hG} {B mc ms : Nat}
def w_X11_chain (q : Int32 → hS → Prop) (S : hS) (v0 : Nat) (v1 : Int32) (v2 : Int32) (v3 : Int32) (v4 : Int32) : Prop := gP S v0 11 0 (fun x1 => oK S x1 8 ∧ w_X8_hasPerson (fun x5 S => (x5 = 0 → q (-1) S) ∧ (¬ x5 = 0 → gP S v0 11 0 (fun x12 => oK S x12 8 ∧ w_X8_hasPerson (fun x16 S => (x16 = 0 → q (-1) S) ∧ (¬ x16 = 0 → (v1 = v2 → q (-1) S) ∧ (¬ v1 = v2 → gP S v0 11 0 (fun x28 => oK S x28 8 ∧ w_X8_hasHouse (fun x32 S => (¬ x32 = 0 → gP S v0 11 0 (fun x41 => oK S x41 8 ∧ w_X8_leftOf (fun x46 S => (1 ≤ x46 → oK S v0 11 ∧ w_X11_setSales (fun S => gP S v0 11 8 (fun x61 => gP S v0 11 0 (fun x67 => gI S x67 8 4 (fun x70 => oK S x61 4 ∧ w_X4_findChain (fun x73 S => (x73 = (-1) → q x73 S) ∧ (¬ x73 = (-1) → (¬ v4 = (-1) → (v4 < 0 → q (-1) S) ∧ (¬ v4 < 0 → gP S v0 11 8 (fun x101 => gI S x101 4 10 (fun x104 => (x104 ≤ v4 → q (-1) S) ∧ (¬ x104 ≤ v4 → gP S v0 11 8 (fun x111 => gP S x111 4 9 (fun x114 => aI S x114 v4 (fun x119 => q x119 S)))))))) ∧ (v4 = (-1) → q x73 S))) S x61 v1 v2 x70)))) S v0 v3) ∧ (¬ 1 ≤ x46 → q (-1) S)) S x41 v1 v3)) ∧ (x32 = 0 → q (-1) S)) S x28 v3)))) S x12 v2))) S x1 v1)
set_option maxRecDepth 100000 in
set_option maxHeartbeats 4000000 in
theorem c_X11_chain (l : Launch) (G : hG) (B : Nat) (S : hS) (v0 : Nat) (v1 : Int32) (v2 : Int32) (v3 : Int32) (v4 : Int32) (q : Int32 → hS → Prop) : Met l yX11_chain (hws yX11_chain cX11_chain 6 (Option.some FieldType.int)) ({ frames := 7, cells := 0, slots := 0, locals := 212 }) (hPc G B S [.ref v0, .int v1, .int v2, .int v3, .int v4] (w_X11_chain q S v0 v1 v2 v3 v4)) (hQ G B (iP q)) (0) (0) (fun r => B ≤ r) := by
  refine hMet (rm := { frames := 7, cells := 0, slots := 0, locals := 212 }) (lv := [some (.ref v0), some (.int v1), some (.int v2), some (.int v3), some (.int v4), none]) (own := RX11) (fr := 7) (lo := 212) (by decide) rfl rfl rfl (Nat.le_of_ble_eq_true rfl) rfl (fun hw p e R s m args below meth c hC hr hlk hnm => ?_)
  unfold w_X11_chain at hw
  refine z_aload_n hC dX11_chain_0 rfl rfl ?_
  refine z_getP hC FX11 0 lk_515 dX11_chain_1 (by decide) hw (fun x1 hw => ?_)
  refine z_iload_n hC dX11_chain_4 rfl rfl ?_
  refine z_callV (ku' := 0) (kv' := 0) (n := 1) (As := [.int v1]) (st := []) hC (c_X8_hasPerson l G B S x1 v1 _) hw.2 hw.1 rfl lk_674 lk_613 lk_614 lk_122 lk_615 hd_X8_hasPerson rfl rfl (Nat.le_of_ble_eq_true rfl) (Nat.le_of_ble_eq_true rfl) rfl (Nat.le_of_ble_eq_true rfl) dX11_chain_5 (Nat.le_refl 0) (Nat.le_refl 0) (kI (fun x5 S hw => ?_))
  refine z_if_eq (tgt := 38) hC dX11_chain_8 (by decide) (fun c8 => ?_) (fun c8 => ?_)
  · have hw := hw.1 c8
    refine z_iconst hC ic_m1 dX11_chain_38 ?_
    exact z_iret hC hr hlk dX11_chain_39 ⟨_, rfl, hw⟩
  · have hw := hw.2 c8
    refine z_aload_n hC dX11_chain_11 rfl rfl ?_
    refine z_getP hC FX11 0 lk_515 dX11_chain_12 (by decide) hw (fun x12 hw => ?_)
    refine z_iload_n hC dX11_chain_15 rfl rfl ?_
    refine z_callV (ku' := 0) (kv' := 0) (n := 1) (As := [.int v2]) (st := []) hC (c_X8_hasPerson l G B S x12 v2 _) hw.2 hw.1 rfl lk_674 lk_613 lk_614 lk_122 lk_615 hd_X8_hasPerson rfl rfl (Nat.le_of_ble_eq_true rfl) (Nat.le_of_ble_eq_true rfl) rfl (Nat.le_of_ble_eq_true rfl) dX11_chain_16 (Nat.le_refl 0) (Nat.le_refl 0) (kI (fun x16 S hw => ?_))
    refine z_if_eq (tgt := 38) hC dX11_chain_19 (by decide) (fun c19 => ?_) (fun c19 => ?_)
    · have hw := hw.1 c19
      refine z_iconst hC ic_m1 dX11_chain_38 ?_
      exact z_iret hC hr hlk dX11_chain_39 ⟨_, rfl, hw⟩
    · have hw := hw.2 c19
      refine z_iload_n hC dX11_chain_22 rfl rfl ?_
      refine z_iload_n hC dX11_chain_23 rfl rfl ?_
      refine z_icmp_eq (tgt := 38) hC dX11_chain_24 (by decide) (fun c24 => ?_) (fun c24 => ?_)
      · have hw := hw.1 c24
        refine z_iconst hC ic_m1 dX11_chain_38 ?_
        exact z_iret hC hr hlk dX11_chain_39 ⟨_, rfl, hw⟩
      · have hw := hw.2 c24
        refine z_aload_n hC dX11_chain_27 rfl rfl ?_
        refine z_getP hC FX11 0 lk_515 dX11_chain_28 (by decide) hw (fun x28 hw => ?_)
        refine z_iload_n hC dX11_chain_31 rfl rfl ?_
        refine z_callV (ku' := 0) (kv' := 0) (n := 1) (As := [.int v3]) (st := []) hC (c_X8_hasHouse l G B S x28 v3 _) hw.2 hw.1 rfl lk_600 lk_601 lk_602 lk_122 lk_603 hd_X8_hasHouse rfl rfl (Nat.le_of_ble_eq_true rfl) (Nat.le_of_ble_eq_true rfl) rfl (Nat.le_of_ble_eq_true rfl) dX11_chain_32 (Nat.le_refl 0) (Nat.le_refl 0) (kI (fun x32 S hw => ?_))
        refine z_if_ne (tgt := 40) hC dX11_chain_35 (by decide) (fun c35 => ?_) (fun c35 => ?_)
        · have hw := hw.1 c35
          refine z_aload_n hC dX11_chain_40 rfl rfl ?_
          refine z_getP hC FX11 0 lk_515 dX11_chain_41 (by decide) hw (fun x41 hw => ?_)
          refine z_iload_n hC dX11_chain_44 rfl rfl ?_
          refine z_iload_n hC dX11_chain_45 rfl rfl ?_
          refine z_callV (ku' := 0) (kv' := 0) (n := 2) (As := [.int v1, .int v3]) (st := []) hC (c_X8_leftOf l G B S x41 v1 v3 _) hw.2 hw.1 rfl lk_705 lk_628 lk_629 lk_122 lk_630 hd_X8_leftOf rfl rfl (Nat.le_of_ble_eq_true rfl) (Nat.le_of_ble_eq_true rfl) rfl (Nat.le_of_ble_eq_true rfl) dX11_chain_46 (Nat.le_refl 0) (Nat.le_refl 0) (kI (fun x46 S hw => ?_))
          refine z_iconst hC ic_1 dX11_chain_49 ?_
          refine z_icmp_ge (tgt := 55) hC dX11_chain_50 (by decide) (fun c50 => ?_) (fun c50 => ?_)
          · have hw := hw.1 c50
            refine z_aload_n hC dX11_chain_55 rfl rfl ?_
            refine z_iload_n hC dX11_chain_56 rfl rfl ?_
            refine z_callV (ku' := 0) (kv' := 0) (n := 1) (As := [.int v3]) (st := []) hC (c_X11_setSales l G B S v0 v3 _) hw.2 hw.1 rfl lk_1261 lk_1263 lk_37 lk_121 lk_1264 hd_X11_setSales rfl rfl (Nat.le_of_ble_eq_true rfl) (Nat.le_of_ble_eq_true rfl) rfl (Nat.le_of_ble_eq_true rfl) dX11_chain_57 (Nat.le_refl 0) (Nat.le_refl 0) (kV (fun S hw => ?_))
            refine z_aload_n hC dX11_chain_60 rfl rfl ?_
            refine z_getP hC FX11 8 lk_523 dX11_chain_61 (by decide) hw (fun x61 hw => ?_)
            refine z_iload_n hC dX11_chain_64 rfl rfl ?_
            refine z_iload_n hC dX11_chain_65 rfl rfl ?_
            refine z_aload_n hC dX11_chain_66 rfl rfl ?_
            refine z_getP hC FX11 0 lk_515 dX11_chain_67 (by decide) hw (fun x67 hw => ?_)
            refine z_getI hC FX8 4 lk_218 dX11_chain_70 (by decide) hw (fun x70 hw => ?_)
            refine z_callV (ku' := 0) (kv' := 0) (n := 3) (As := [.int v1, .int v2, .int x70]) (st := []) hC (c_X4_findChain l G B S x61 v1 v2 x70 _) hw.2 hw.1 rfl lk_1265 lk_1266 lk_1267 lk_131 lk_1268 hd_X4_findChain rfl rfl (Nat.le_of_ble_eq_true rfl) (Nat.le_of_ble_eq_true rfl) rfl (Nat.le_of_ble_eq_true rfl) dX11_chain_73 (Nat.le_refl 0) (Nat.le_refl 0) (kI (fun x73 S hw => ?_))
            refine z_istore (i := 5) (lv' := [some (.ref v0), some (.int v1), some (.int v2), some (.int v3), some (.int v4), some (.int x73)]) hC dX11_chain_76 (by decide) (hok_v rfl rfl) rfl ?_
            refine z_iload hC dX11_chain_78 rfl ?_
            refine z_iconst hC ic_m1 dX11_chain_80 ?_
            refine z_icmp_eq (tgt := 90) hC dX11_chain_81 (by decide) (fun c81 => ?_) (fun c81 => ?_)
            · have hw := hw.1 c81
              refine z_iload hC dX11_chain_90 rfl ?_
              exact z_iret hC hr hlk dX11_chain_92 ⟨_, rfl, hw⟩
            · have hw := hw.2 c81
              refine z_iload hC dX11_chain_84 rfl ?_
              refine z_iconst hC ic_m1 dX11_chain_86 ?_
              refine z_icmp_ne (tgt := 93) hC dX11_chain_87 (by decide) (fun c87 => ?_) (fun c87 => ?_)
              · have hw := hw.1 c87
                refine z_iload hC dX11_chain_93 rfl ?_
                refine z_if_lt (tgt := 123) hC dX11_chain_95 (by decide) (fun c95 => ?_) (fun c95 => ?_)
                · have hw := hw.1 c95
                  refine z_iconst hC ic_m1 dX11_chain_123 ?_
                  exact z_iret hC hr hlk dX11_chain_124 ⟨_, rfl, hw⟩
                · have hw := hw.2 c95
                  refine z_iload hC dX11_chain_98 rfl ?_
                  refine z_aload_n hC dX11_chain_100 rfl rfl ?_
                  refine z_getP hC FX11 8 lk_523 dX11_chain_101 (by decide) hw (fun x101 hw => ?_)
                  refine z_getI hC FX4 10 lk_465 dX11_chain_104 (by decide) hw (fun x104 hw => ?_)
                  refine z_icmp_ge (tgt := 123) hC dX11_chain_107 (by decide) (fun c107 => ?_) (fun c107 => ?_)
                  · have hw := hw.1 c107
                    refine z_iconst hC ic_m1 dX11_chain_123 ?_
                    exact z_iret hC hr hlk dX11_chain_124 ⟨_, rfl, hw⟩
                  · have hw := hw.2 c107
                    refine z_aload_n hC dX11_chain_110 rfl rfl ?_
                    refine z_getP hC FX11 8 lk_523 dX11_chain_111 (by decide) hw (fun x111 hw => ?_)
                    refine z_getP hC FX4 9 lk_463 dX11_chain_114 (by decide) hw (fun x114 hw => ?_)
                    refine z_iload hC dX11_chain_117 rfl ?_
                    refine z_aldI hC dX11_chain_119 hw (fun x119 hw => ?_)
                    refine z_goto (tgt := 124) hC dX11_chain_120 (by decide) ?_
                    exact z_iret hC hr hlk dX11_chain_124 ⟨_, rfl, hw⟩
              · have hw := hw.2 c87
                refine z_iload hC dX11_chain_90 rfl ?_
                exact z_iret hC hr hlk dX11_chain_92 ⟨_, rfl, hw⟩
          · have hw := hw.2 c50
            refine z_iconst hC ic_m1 dX11_chain_53 ?_
            exact z_iret hC hr hlk dX11_chain_54 ⟨_, rfl, hw⟩
        · have hw := hw.2 c35
          refine z_iconst hC ic_m1 dX11_chain_38 ?_
          exact z_iret hC hr hlk dX11_chain_39 ⟨_, rfl, hw⟩
end
section
variable {p : Program} {l : Launch} {e : Env} {R : Room} {s : State} {m : MethodId} {args : Array Value} {below : List Frame} {meth : Method} {c : Code} {G : hG} {B mc ms : Nat}
def w_X11_likely (q : Int64 → hS → Prop) (S : hS) (v0 : Nat) (v1 : Int32) (v2 : Int32) : Prop := w_X11_isWithin (fun x3 S => (x3 = 0 → q (-1) S) ∧ (¬ x3 = 0 → w_X11_isWithin (fun x12 S => (¬ x12 = 0 → gP S v0 11 9 (fun x23 => gP S v0 11 0 (fun x29 => gI S x29 8 12 (fun x32 => oK S x23 7 ∧ w_X7_chance (fun x35 S => q x35 S) S x23 v1 v2 x32)))) ∧ (x12 = 0 → q (-1) S)) S v2 60)) S v1 20
set_option maxRecDepth 100000 in
set_option maxHeartbeats 4000000 in
theorem c_X11_likely (l : Launch) (G : hG) (B : Nat) (S : hS) (v0 : Nat) (v1 : Int32) (v2 : Int32) (q : Int64 → hS → Prop) : Met l yX11_likely (hws yX11_likely cX11_likely 3 (Option.some FieldType.long)) ({ frames := 2, cells := 0, slots := 0, locals := 85 }) (hPc G B S [.ref v0, .int v1, .int v2] (w_X11_likely q S v0 v1 v2)) (hQ G B (jP q)) (0) (0) (fun r => B ≤ r) := by
  refine hMet (rm := { frames := 2, cells := 0, slots := 0, locals := 85 }) (lv := [some (.ref v0), some (.int v1), some (.int v2)]) (own := RX11) (fr := 2) (lo := 85) (by decide) rfl rfl rfl (Nat.le_of_ble_eq_true rfl) rfl (fun hw p e R s m args below meth c hC hr hlk hnm => ?_)
  unfold w_X11_likely at hw
  refine z_iload_n hC dX11_likely_0 rfl rfl ?_
  refine z_bipush hC bi_20 dX11_likely_1 ?_
  refine z_callS (ku' := 0) (kv' := 0) (n := 2) (As := [.int v1, .int 20]) (st := []) hC (c_X11_isWithin l G B S v1 20 _) hw lk_574 lk_575 lk_121 lk_576 hd_X11_isWithin rfl rfl (Nat.le_of_ble_eq_true rfl) (Nat.le_of_ble_eq_true rfl) rfl (Nat.le_of_ble_eq_true rfl) dX11_likely_3 (Nat.le_refl 0) (Nat.le_refl 0) (kI (fun x3 S hw => ?_))
  refine z_if_eq (tgt := 18) hC dX11_likely_6 (by decide) (fun c6 => ?_) (fun c6 => ?_)
  · have hw := hw.1 c6
    refine z_ldc2 hC lk_1283 dX11_likely_18 ?_
    exact z_lret hC hr hlk dX11_likely_21 ⟨_, rfl, hw⟩
  · have hw := hw.2 c6
    refine z_iload_n hC dX11_likely_9 rfl rfl ?_
    refine z_bipush hC bi_60 dX11_likely_10 ?_
    refine z_callS (ku' := 0) (kv' := 0) (n := 2) (As := [.int v2, .int 60]) (st := []) hC (c_X11_isWithin l G B S v2 60 _) hw lk_574 lk_575 lk_121 lk_576 hd_X11_isWithin rfl rfl (Nat.le_of_ble_eq_true rfl) (Nat.le_of_ble_eq_true rfl) rfl (Nat.le_of_ble_eq_true rfl) dX11_likely_12 (Nat.le_refl 0) (Nat.le_refl 0) (kI (fun x12 S hw => ?_))
    refine z_if_ne (tgt := 22) hC dX11_likely_15 (by decide) (fun c15 => ?_) (fun c15 => ?_)
    · have hw := hw.1 c15
      refine z_aload_n hC dX11_likely_22 rfl rfl ?_
      refine z_getP hC FX11 9 lk_524 dX11_likely_23 (by decide) hw (fun x23 hw => ?_)
      refine z_iload_n hC dX11_likely_26 rfl rfl ?_
      refine z_iload_n hC dX11_likely_27 rfl rfl ?_
      refine z_aload_n hC dX11_likely_28 rfl rfl ?_
      refine z_getP hC FX11 0 lk_515 dX11_likely_29 (by decide) hw (fun x29 hw => ?_)
      refine z_getI hC FX8 12 lk_238 dX11_likely_32 (by decide) hw (fun x32 hw => ?_)
      refine z_callV (ku' := 0) (kv' := 0) (n := 3) (As := [.int v1, .int v2, .int x32]) (st := []) hC (c_X7_chance l G B S x23 v1 v2 x32 _) hw.2 hw.1 rfl lk_1284 lk_1285 lk_1286 lk_132 lk_1287 hd_X7_chance rfl rfl (Nat.le_of_ble_eq_true rfl) (Nat.le_of_ble_eq_true rfl) rfl (Nat.le_of_ble_eq_true rfl) dX11_likely_35 (Nat.le_refl 0) (Nat.le_refl 0) (kJ (fun x35 S hw => ?_))
      exact z_lret hC hr hlk dX11_likely_38 ⟨_, rfl, hw⟩
    · have hw := hw.2 c15
      refine z_ldc2 hC lk_1283 dX11_likely_18 ?_
      exact z_lret hC hr hlk dX11_likely_21 ⟨_, rfl, hw⟩
end
section
variable {p : Program} {l : Launch} {e : Env} {R : Room} {s : State} {m : MethodId} {args : Array Value} {below : List Frame} {meth : Method} {c : Code} {G : hG} {B mc ms : Nat}
def w_X11_generations_b21 (q : Int32 → hS → Prop) (S : hS) (v0 : Nat) : Prop := oK S v0 11 ∧ w_X11_refuse (fun x23 S => q x23 S) S v0 (-1)
set_option maxRecDepth 100000 in
set_option maxHeartbeats 4000000 in
theorem t_X11_generations_b21 (hC : zC p R s m args c cX11_generations 4 RX11 G B mc ms 7 217) (hr : meth.sig.returnType = (Option.some FieldType.int)) (hlk : meth.locks = false) (hnm : meth.name = "generations") {q : Int32 → hS → Prop} {S : hS} {v0 : Nat} (hw : w_X11_generations_b21 q S v0) : Z p l e R s m args below meth c (MQ below (hQ G B (iP q)) args s mc ms (fun r => B ≤ r)) G B mc ms 4 S 0 0 21 [some (.ref v0), none, none, none] [] := by
  unfold w_X11_generations_b21 at hw
  refine z_aload_n hC dX11_generations_21 rfl rfl ?_
  refine z_iconst hC ic_m1 dX11_generations_22 ?_
  refine z_callV (ku' := 0) (kv' := 0) (n := 1) (As := [.int (-1)]) (st := []) hC (c_X11_refuse l G B S v0 (-1) _) hw.2 hw.1 rfl lk_577 lk_579 lk_0 lk_121 lk_580 hd_X11_refuse rfl rfl (Nat.le_of_ble_eq_true rfl) (Nat.le_of_ble_eq_true rfl) rfl (Nat.le_of_ble_eq_true rfl) dX11_generations_23 (Nat.le_refl 0) (Nat.le_refl 0) (kI (fun x23 S hw => ?_))
  exact z_iret hC hr hlk dX11_generations_26 ⟨_, rfl, hw⟩
def w_X11_generations_b47 (q : Int32 → hS → Prop) (S : hS) (v0 : Nat) : Prop := oK S v0 11 ∧ w_X11_refuse (fun x50 S => q x50 S) S v0 (-3)
set_option maxRecDepth 100000 in
set_option maxHeartbeats 4000000 in
theorem t_X11_generations_b47 (hC : zC p R s m args c cX11_generations 4 RX11 G B mc ms 7 217) (hr : meth.sig.returnType = (Option.some FieldType.int)) (hlk : meth.locks = false) (hnm : meth.name = "generations") {q : Int32 → hS → Prop} {S : hS} {v0 : Nat} (hw : w_X11_generations_b47 q S v0) : Z p l e R s m args below meth c (MQ below (hQ G B (iP q)) args s mc ms (fun r => B ≤ r)) G B mc ms 4 S 0 0 47 [some (.ref v0), none, none, none] [] := by
  unfold w_X11_generations_b47 at hw
  refine z_aload_n hC dX11_generations_47 rfl rfl ?_
  refine z_bipush hC bi_m3 dX11_generations_48 ?_
  refine z_callV (ku' := 0) (kv' := 0) (n := 1) (As := [.int (-3)]) (st := []) hC (c_X11_refuse l G B S v0 (-3) _) hw.2 hw.1 rfl lk_577 lk_579 lk_0 lk_121 lk_580 hd_X11_refuse rfl rfl (Nat.le_of_ble_eq_true rfl) (Nat.le_of_ble_eq_true rfl) rfl (Nat.le_of_ble_eq_true rfl) dX11_generations_50 (Nat.le_refl 0) (Nat.le_refl 0) (kI (fun x50 S hw => ?_))
  exact z_iret hC hr hlk dX11_generations_53 ⟨_, rfl, hw⟩
def w_X11_generations (q : Int32 → hS → Prop) (S : hS) (v0 : Nat) (v1 : Int32) (v2 : Int32) : Prop := w_X11_isWithin (fun x4 S => (x4 = 0 → w_X11_generations_b21 q S v0) ∧ (¬ x4 = 0 → (v2 < 1 → w_X11_generations_b21 q S v0) ∧ (¬ v2 < 1 → (v2 ≤ 60 → gP S v0 11 0 (fun x28 => gI S x28 8 4 (fun x31 => (x31 = 0 → w_X11_generations_b47 q S v0) ∧ (¬ x31 = 0 → gP S v0 11 0 (fun x38 => gI S x38 8 1 (fun x41 => (¬ x41 = 0 → gP S v0 11 1 (fun x55 => gP S v0 11 0 (fun x59 => oK S x55 8 ∧ w_X8_copyFrom (fun S => gP S v0 11 7 (fun x66 => gP S v0 11 1 (fun x70 => oK S x66 1 ∧ w_X1_live (fun x75 S => gP S v0 11 1 (fun x81 => gI S x81 8 4 (fun x84 => pI S v0 11 11 x84 (fun S => gP S v0 11 1 (fun x92 => gI S x92 8 1 (fun x95 => pI S v0 11 12 x95 (fun S => gP S v0 11 1 (fun x102 => gP S x102 8 0 (fun x105 => gP S x105 2 0 (fun x108 => gP S v0 11 10 (fun x113 => gP S v0 11 10 (fun x118 => aN S x118 (fun x121 => cI S x108 0 x113 0 x121 (fun S => oK S v0 11 ∧ w_X11_accept (fun x127 S => q x127 S) S v0 x75)))))))))))))) S x66 x70 v1 v2))) S x55 x59))) ∧ (x41 = 0 → w_X11_generations_b47 q S v0))))))) ∧ (¬ v2 ≤ 60 → w_X11_generations_b21 q S v0)))) S v1 1000000
set_option maxRecDepth 100000 in
set_option maxHeartbeats 4000000 in
theorem c_X11_generations (l : Launch) (G : hG) (B : Nat) (S : hS) (v0 : Nat) (v1 : Int32) (v2 : Int32) (q : Int32 → hS → Prop) : Met l yX11_generations (hws yX11_generations cX11_generations 4 (Option.some FieldType.int)) ({ frames := 7, cells := 0, slots := 0, locals := 217 }) (hPc G B S [.ref v0, .int v1, .int v2] (w_X11_generations q S v0 v1 v2)) (hQ G B (iP q)) (0) (0) (fun r => B ≤ r) := by
  refine hMet (rm := { frames := 7, cells := 0, slots := 0, locals := 217 }) (lv := [some (.ref v0), some (.int v1), some (.int v2), none]) (own := RX11) (fr := 7) (lo := 217) (by decide) rfl rfl rfl (Nat.le_of_ble_eq_true rfl) rfl (fun hw p e R s m args below meth c hC hr hlk hnm => ?_)
  unfold w_X11_generations at hw
  refine z_iload_n hC dX11_generations_0 rfl rfl ?_
  refine z_ldcw hC lk_1294 dX11_generations_1 ?_
  refine z_callS (ku' := 0) (kv' := 0) (n := 2) (As := [.int v1, .int 1000000]) (st := []) hC (c_X11_isWithin l G B S v1 1000000 _) hw lk_574 lk_575 lk_121 lk_576 hd_X11_isWithin rfl rfl (Nat.le_of_ble_eq_true rfl) (Nat.le_of_ble_eq_true rfl) rfl (Nat.le_of_ble_eq_true rfl) dX11_generations_4 (Nat.le_refl 0) (Nat.le_refl 0) (kI (fun x4 S hw => ?_))
  refine z_if_eq (tgt := 21) hC dX11_generations_7 (by decide) (fun c7 => ?_) (fun c7 => ?_)
  · have hw := hw.1 c7
    refine z_mask (lv' := [some (.ref v0), none, none, none]) [true, false, false, false] rfl ?_
    exact t_X11_generations_b21 hC hr hlk hnm hw
  · have hw := hw.2 c7
    refine z_iload_n hC dX11_generations_10 rfl rfl ?_
    refine z_iconst hC ic_1 dX11_generations_11 ?_
    refine z_icmp_lt (tgt := 21) hC dX11_generations_12 (by decide) (fun c12 => ?_) (fun c12 => ?_)
    · have hw := hw.1 c12
      refine z_mask (lv' := [some (.ref v0), none, none, none]) [true, false, false, false] rfl ?_
      exact t_X11_generations_b21 hC hr hlk hnm hw
    · have hw := hw.2 c12
      refine z_iload_n hC dX11_generations_15 rfl rfl ?_
      refine z_bipush hC bi_60 dX11_generations_16 ?_
      refine z_icmp_le (tgt := 27) hC dX11_generations_18 (by decide) (fun c18 => ?_) (fun c18 => ?_)
      · have hw := hw.1 c18
        refine z_aload_n hC dX11_generations_27 rfl rfl ?_
        refine z_getP hC FX11 0 lk_515 dX11_generations_28 (by decide) hw (fun x28 hw => ?_)
        refine z_getI hC FX8 4 lk_218 dX11_generations_31 (by decide) hw (fun x31 hw => ?_)
        refine z_if_eq (tgt := 47) hC dX11_generations_34 (by decide) (fun c34 => ?_) (fun c34 => ?_)
        · have hw := hw.1 c34
          refine z_mask (lv' := [some (.ref v0), none, none, none]) [true, false, false, false] rfl ?_
          exact t_X11_generations_b47 hC hr hlk hnm hw
        · have hw := hw.2 c34
          refine z_aload_n hC dX11_generations_37 rfl rfl ?_
          refine z_getP hC FX11 0 lk_515 dX11_generations_38 (by decide) hw (fun x38 hw => ?_)
          refine z_getI hC FX8 1 lk_206 dX11_generations_41 (by decide) hw (fun x41 hw => ?_)
          refine z_if_ne (tgt := 54) hC dX11_generations_44 (by decide) (fun c44 => ?_) (fun c44 => ?_)
          · have hw := hw.1 c44
            refine z_aload_n hC dX11_generations_54 rfl rfl ?_
            refine z_getP hC FX11 1 lk_516 dX11_generations_55 (by decide) hw (fun x55 hw => ?_)
            refine z_aload_n hC dX11_generations_58 rfl rfl ?_
            refine z_getP hC FX11 0 lk_515 dX11_generations_59 (by decide) hw (fun x59 hw => ?_)
            refine z_callV (ku' := 0) (kv' := 0) (n := 1) (As := [.ref x59]) (st := []) hC (c_X8_copyFrom l G B S x55 x59 _) hw.2 hw.1 rfl lk_1012 lk_1013 lk_1014 lk_122 lk_1015 hd_X8_copyFrom rfl rfl (Nat.le_of_ble_eq_true rfl) (Nat.le_of_ble_eq_true rfl) rfl (Nat.le_of_ble_eq_true rfl) dX11_generations_62 (Nat.le_refl 0) (Nat.le_refl 0) (kV (fun S hw => ?_))
            refine z_aload_n hC dX11_generations_65 rfl rfl ?_
            refine z_getP hC FX11 7 lk_522 dX11_generations_66 (by decide) hw (fun x66 hw => ?_)
            refine z_aload_n hC dX11_generations_69 rfl rfl ?_
            refine z_getP hC FX11 1 lk_516 dX11_generations_70 (by decide) hw (fun x70 hw => ?_)
            refine z_iload_n hC dX11_generations_73 rfl rfl ?_
            refine z_iload_n hC dX11_generations_74 rfl rfl ?_
            refine z_callV (ku' := 0) (kv' := 0) (n := 3) (As := [.ref x70, .int v1, .int v2]) (st := []) hC (c_X1_live l G B S x66 x70 v1 v2 _) hw.2 hw.1 rfl lk_1295 lk_1296 lk_1297 lk_130 lk_1298 hd_X1_live rfl rfl (Nat.le_of_ble_eq_true rfl) (Nat.le_of_ble_eq_true rfl) rfl (Nat.le_of_ble_eq_true rfl) dX11_generations_75 (Nat.le_refl 0) (Nat.le_refl 0) (kI (fun x75 S hw => ?_))
            refine z_istore_n (i := 3) (lv' := [some (.ref v0), some (.int v1), some (.int v2), some (.int x75)]) hC rfl dX11_generations_78 (by decide) (hok_v rfl rfl) rfl ?_
            refine z_aload_n hC dX11_generations_79 rfl rfl ?_
            refine z_aload_n hC dX11_generations_80 rfl rfl ?_
            refine z_getP hC FX11 1 lk_516 dX11_generations_81 (by decide) hw (fun x81 hw => ?_)
            refine z_getI hC FX8 4 lk_218 dX11_generations_84 (by decide) hw (fun x84 hw => ?_)
            refine z_putI hC FX11 11 lk_526 dX11_generations_87 (by decide) rfl rfl hw (fun S hw => ?_)
            refine z_aload_n hC dX11_generations_90 rfl rfl ?_
            refine z_aload_n hC dX11_generations_91 rfl rfl ?_
            refine z_getP hC FX11 1 lk_516 dX11_generations_92 (by decide) hw (fun x92 hw => ?_)
            refine z_getI hC FX8 1 lk_206 dX11_generations_95 (by decide) hw (fun x95 hw => ?_)
            refine z_putI hC FX11 12 lk_527 dX11_generations_98 (by decide) rfl rfl hw (fun S hw => ?_)
            refine z_aload_n hC dX11_generations_101 rfl rfl ?_
            refine z_getP hC FX11 1 lk_516 dX11_generations_102 (by decide) hw (fun x102 hw => ?_)
            refine z_getP hC FX8 0 lk_203 dX11_generations_105 (by decide) hw (fun x105 hw => ?_)
            refine z_getP hC FX2 0 lk_164 dX11_generations_108 (by decide) hw (fun x108 hw => ?_)
            refine z_iconst hC ic_0 dX11_generations_111 ?_
            refine z_aload_n hC dX11_generations_112 rfl rfl ?_
            refine z_getP hC FX11 10 lk_525 dX11_generations_113 (by decide) hw (fun x113 hw => ?_)
            refine z_iconst hC ic_0 dX11_generations_116 ?_
            refine z_aload_n hC dX11_generations_117 rfl rfl ?_
            refine z_getP hC FX11 10 lk_525 dX11_generations_118 (by decide) hw (fun x118 hw => ?_)
            refine z_alen hC dX11_generations_121 hw (fun x121 hw => ?_)
            refine z_copyI hC lk_1306 lk_1002 lk_1001 lk_139 dX11_generations_122 (by decide) (Nat.le_of_ble_eq_true rfl) hw (fun S hw => ?_)
            refine z_aload_n hC dX11_generations_125 rfl rfl ?_
            refine z_iload_n hC dX11_generations_126 rfl rfl ?_
            refine z_callV (ku' := 0) (kv' := 0) (n := 1) (As := [.int x75]) (st := []) hC (c_X11_accept l G B S v0 x75 _) hw.2 hw.1 rfl lk_592 lk_594 lk_1 lk_121 lk_595 hd_X11_accept rfl rfl (Nat.le_of_ble_eq_true rfl) (Nat.le_of_ble_eq_true rfl) rfl (Nat.le_of_ble_eq_true rfl) dX11_generations_127 (Nat.le_refl 0) (Nat.le_refl 0) (kI (fun x127 S hw => ?_))
            exact z_iret hC hr hlk dX11_generations_130 ⟨_, rfl, hw⟩
          · have hw := hw.2 c44
            refine z_mask (lv' := [some (.ref v0), none, none, none]) [true, false, false, false] rfl ?_
            exact t_X11_generations_b47 hC hr hlk hnm hw
      · have hw := hw.2 c18
        refine z_mask (lv' := [some (.ref v0), none, none, none]) [true, false, false, false] rfl ?_
        exact t_X11_generations_b21 hC hr hlk hnm hw
end
section
variable {p : Program} {l : Launch} {e : Env} {R : Room} {s : State} {m : MethodId} {args : Array Value} {below : List Frame} {meth : Method} {c : Code} {G : hG} {B mc ms : Nat}
def w_X11_drawn (q : Int32 → hS → Prop) (S : hS) (v0 : Nat) (v1 : Int32) (v2 : Int32) : Prop := (v1 < 0 → q (-1) S) ∧ (¬ v1 < 0 → gI S v0 11 11 (fun x6 => (x6 ≤ v1 → q (-1) S) ∧ (¬ x6 ≤ v1 → (v2 < 0 → q (-1) S) ∧ (¬ v2 < 0 → gI S v0 11 12 (fun x18 => (v2 < x18 → gP S v0 11 10 (fun x27 => w_X11_slot (fun x32 S => aI S x27 x32 (fun x35 => q x35 S)) S v1 v2)) ∧ (¬ v2 < x18 → q (-1) S))))))
set_option maxRecDepth 100000 in
set_option maxHeartbeats 4000000 in
theorem c_X11_drawn (l : Launch) (G : hG) (B : Nat) (S : hS) (v0 : Nat) (v1 : Int32) (v2 : Int32) (q : Int32 → hS → Prop) : Met l yX11_drawn (hws yX11_drawn cX11_drawn 3 (Option.some FieldType.int)) ({ frames := 2, cells := 0, slots := 0, locals := 81 }) (hPc G B S [.ref v0, .int v1, .int v2] (w_X11_drawn q S v0 v1 v2)) (hQ G B (iP q)) (0) (0) (fun r => B ≤ r) := by
  refine hMet (rm := { frames := 2, cells := 0, slots := 0, locals := 81 }) (lv := [some (.ref v0), some (.int v1), some (.int v2)]) (own := RX11) (fr := 2) (lo := 81) (by decide) rfl rfl rfl (Nat.le_of_ble_eq_true rfl) rfl (fun hw p e R s m args below meth c hC hr hlk hnm => ?_)
  unfold w_X11_drawn at hw
  refine z_iload_n hC dX11_drawn_0 rfl rfl ?_
  refine z_if_lt (tgt := 24) hC dX11_drawn_1 (by decide) (fun c1 => ?_) (fun c1 => ?_)
  · have hw := hw.1 c1
    refine z_iconst hC ic_m1 dX11_drawn_24 ?_
    exact z_iret hC hr hlk dX11_drawn_25 ⟨_, rfl, hw⟩
  · have hw := hw.2 c1
    refine z_iload_n hC dX11_drawn_4 rfl rfl ?_
    refine z_aload_n hC dX11_drawn_5 rfl rfl ?_
    refine z_getI hC FX11 11 lk_526 dX11_drawn_6 (by decide) hw (fun x6 hw => ?_)
    refine z_icmp_ge (tgt := 24) hC dX11_drawn_9 (by decide) (fun c9 => ?_) (fun c9 => ?_)
    · have hw := hw.1 c9
      refine z_iconst hC ic_m1 dX11_drawn_24 ?_
      exact z_iret hC hr hlk dX11_drawn_25 ⟨_, rfl, hw⟩
    · have hw := hw.2 c9
      refine z_iload_n hC dX11_drawn_12 rfl rfl ?_
      refine z_if_lt (tgt := 24) hC dX11_drawn_13 (by decide) (fun c13 => ?_) (fun c13 => ?_)
      · have hw := hw.1 c13
        refine z_iconst hC ic_m1 dX11_drawn_24 ?_
        exact z_iret hC hr hlk dX11_drawn_25 ⟨_, rfl, hw⟩
      · have hw := hw.2 c13
        refine z_iload_n hC dX11_drawn_16 rfl rfl ?_
        refine z_aload_n hC dX11_drawn_17 rfl rfl ?_
        refine z_getI hC FX11 12 lk_527 dX11_drawn_18 (by decide) hw (fun x18 hw => ?_)
        refine z_icmp_lt (tgt := 26) hC dX11_drawn_21 (by decide) (fun c21 => ?_) (fun c21 => ?_)
        · have hw := hw.1 c21
          refine z_aload_n hC dX11_drawn_26 rfl rfl ?_
          refine z_getP hC FX11 10 lk_525 dX11_drawn_27 (by decide) hw (fun x27 hw => ?_)
          refine z_iload_n hC dX11_drawn_30 rfl rfl ?_
          refine z_iload_n hC dX11_drawn_31 rfl rfl ?_
          refine z_callS (ku' := 0) (kv' := 0) (n := 2) (As := [.int v1, .int v2]) (st := [.ref x27]) hC (c_X11_slot l G B S v1 v2 _) hw lk_700 lk_590 lk_121 lk_591 hd_X11_slot rfl rfl (Nat.le_of_ble_eq_true rfl) (Nat.le_of_ble_eq_true rfl) rfl (Nat.le_of_ble_eq_true rfl) dX11_drawn_32 (Nat.le_refl 0) (Nat.le_refl 0) (kI (fun x32 S hw => ?_))
          refine z_aldI hC dX11_drawn_35 hw (fun x35 hw => ?_)
          exact z_iret hC hr hlk dX11_drawn_36 ⟨_, rfl, hw⟩
        · have hw := hw.2 c21
          refine z_iconst hC ic_m1 dX11_drawn_24 ?_
          exact z_iret hC hr hlk dX11_drawn_25 ⟨_, rfl, hw⟩
end
section
variable {p : Program} {l : Launch} {e : Env} {R : Room} {s : State} {m : MethodId} {args : Array Value} {below : List Frame} {meth : Method} {c : Code} {G : hG} {B mc ms : Nat}
def w_X11_image_b36 (q : Int32 → hS → Prop) (S : hS) (v0 : Nat) (v1 : Int32) : Prop := gP S v0 11 2 (fun x37 => aR S 4 x37 v1 (fun x41 => gP S v0 11 0 (fun x43 => dQ x41 (fun o46 => oK S o46 8 ∧ w_X8_copyFrom (fun S => oK S v0 11 ∧ w_X11_accept (fun x51 S => q x51 S) S v0 0) S o46 x43))))
set_option maxRecDepth 100000 in
set_option maxHeartbeats 4000000 in
theorem t_X11_image_b36 (hC : zC p R s m args c cX11_image 2 RX11 G B mc ms 3 103) (hr : meth.sig.returnType = (Option.some FieldType.int)) (hlk : meth.locks = false) (hnm : meth.name = "image") {q : Int32 → hS → Prop} {S : hS} {v0 : Nat} {v1 : Int32} (hw : w_X11_image_b36 q S v0 v1) : Z p l e R s m args below meth c (MQ below (hQ G B (iP q)) args s mc ms (fun r => B ≤ r)) G B mc ms 2 S 0 0 36 [some (.ref v0), some (.int v1)] [] := by
  unfold w_X11_image_b36 at hw
  refine z_aload_n hC dX11_image_36 rfl rfl ?_
  refine z_getP hC FX11 2 lk_517 dX11_image_37 (by decide) hw (fun x37 hw => ?_)
  refine z_iload_n hC dX11_image_40 rfl rfl ?_
  refine z_aldR (kd := 4) hC dX11_image_41 hw rfl (fun x41 hw => ?_)
  refine z_aload_n hC dX11_image_42 rfl rfl ?_
  refine z_getP hC FX11 0 lk_515 dX11_image_43 (by decide) hw (fun x43 hw => ?_)
  obtain ⟨o46, e46, hz46⟩ := hw
  subst e46
  have hw := hz46
  refine z_callV (ku' := 0) (kv' := 0) (n := 1) (As := [.ref x43]) (st := []) hC (c_X8_copyFrom l G B S o46 x43 _) hw.2 hw.1 rfl lk_1012 lk_1013 lk_1014 lk_122 lk_1015 hd_X8_copyFrom rfl rfl (Nat.le_of_ble_eq_true rfl) (Nat.le_of_ble_eq_true rfl) rfl (Nat.le_of_ble_eq_true rfl) dX11_image_46 (Nat.le_refl _) (Nat.le_refl _) (kV (fun S hw => ?_))
  refine z_aload_n hC dX11_image_49 rfl rfl ?_
  refine z_iconst hC ic_0 dX11_image_50 ?_
  refine z_callV (ku' := 0) (kv' := 0) (n := 1) (As := [.int 0]) (st := []) hC (c_X11_accept l G B S v0 0 _) hw.2 hw.1 rfl lk_592 lk_594 lk_1 lk_121 lk_595 hd_X11_accept rfl rfl (Nat.le_of_ble_eq_true rfl) (Nat.le_of_ble_eq_true rfl) rfl (Nat.le_of_ble_eq_true rfl) dX11_image_51 (Nat.le_refl _) (Nat.le_refl _) (kI (fun x51 S hw => ?_))
  exact z_iret hC hr hlk dX11_image_54 ⟨_, rfl, hw⟩
def w_X11_image (q : Int32 → hS → Prop) (S : hS) (v0 : Nat) (v1 : Int32) : Prop := w_X11_isWithin (fun x2 S => (¬ x2 = 0 → gP S v0 11 2 (fun x15 => aR S 4 x15 v1 (fun x19 => (x19 = none → gP S v0 11 2 (fun x24 => nO S 8 FX8_0 (fun S o28 => w_X8_init (fun S => stR S 4 x24 v1 (some o28) 8 (fun S => w_X11_image_b36 q S v0 v1)) S o28))) ∧ (∀ b20 : Nat, x19 = some b20 → w_X11_image_b36 q S v0 v1)))) ∧ (x2 = 0 → oK S v0 11 ∧ w_X11_refuse (fun x10 S => q x10 S) S v0 (-1))) S v1 1
set_option maxRecDepth 100000 in
set_option maxHeartbeats 4000000 in
theorem c_X11_image (l : Launch) (G : hG) (B : Nat) (S : hS) (v0 : Nat) (v1 : Int32) (q : Int32 → hS → Prop) : Met l yX11_image (hws yX11_image cX11_image 2 (Option.some FieldType.int)) ({ frames := 3, cells := 15, slots := 195, locals := 103 }) (hPc G B S [.ref v0, .int v1] (w_X11_image q S v0 v1)) (hQ G B (iP q)) (15) (195) (fun r => B ≤ r) := by
  refine hMet (rm := { frames := 3, cells := 15, slots := 195, locals := 103 }) (lv := [some (.ref v0), some (.int v1)]) (own := RX11) (fr := 3) (lo := 103) (by decide) rfl rfl rfl (Nat.le_of_ble_eq_true rfl) rfl (fun hw p e R s m args below meth c hC hr hlk hnm => ?_)
  unfold w_X11_image at hw
  refine z_less (ku' := 15) (kv' := 195) (Nat.le_refl _) (Nat.le_refl _) ?_
  refine z_iload_n hC dX11_image_0 rfl rfl ?_
  refine z_iconst hC ic_1 dX11_image_1 ?_
  refine z_callS (ku' := 15) (kv' := 195) (n := 2) (As := [.int v1, .int 1]) (st := []) hC (c_X11_isWithin l G B S v1 1 _) hw lk_574 lk_575 lk_121 lk_576 hd_X11_isWithin rfl rfl (Nat.le_of_ble_eq_true rfl) (Nat.le_of_ble_eq_true rfl) rfl (Nat.le_of_ble_eq_true rfl) dX11_image_2 (Nat.le_refl _) (Nat.le_refl _) (kI (fun x2 S hw => ?_))
  refine z_if_ne (tgt := 14) hC dX11_image_5 (by decide) (fun c5 => ?_) (fun c5 => ?_)
  · have hw := hw.1 c5
    refine z_aload_n hC dX11_image_14 rfl rfl ?_
    refine z_getP hC FX11 2 lk_517 dX11_image_15 (by decide) hw (fun x15 hw => ?_)
    refine z_iload_n hC dX11_image_18 rfl rfl ?_
    refine z_aldR (kd := 4) hC dX11_image_19 hw rfl (fun x19 hw => ?_)
    have hz20 := hw
    cases x19 with
    | none =>
      have hw := hz20.1 rfl
      refine z_ifnonnull (r := none) (tgt := 36) hC dX11_image_20 (by decide) (fun _ h => by cases h) (fun _ => ?_)
      refine z_aload_n hC dX11_image_23 rfl rfl ?_
      refine z_getP hC FX11 2 lk_517 dX11_image_24 (by decide) hw (fun x24 hw => ?_)
      refine z_iload_n hC dX11_image_27 rfl rfl ?_
      refine z_nO (ku' := 14) (kv' := 178) hC FX8 lk_149 lk_150 lk_122 FX8_d dX11_image_28 (by decide) (by decide) hw (fun S o28 hw => ?_)
      refine z_dup hC rfl dX11_image_31 ?_
      refine z_callIN (ku' := 0) (kv' := 0) (n := 0) (As := []) (st := [.ref o28, .int v1, .ref x24]) (host := "BellHeirs") hC rfl (c_X8_init l G B S o28 _) hw (by decide +kernel) lk_152 lk_122 lk_153 rfl hd_X8_init.2 rfl rfl (Nat.le_of_ble_eq_true rfl) (Nat.le_of_ble_eq_true rfl) rfl (Nat.le_of_ble_eq_true rfl) dX11_image_32 (by decide) (by decide) (kV (fun S hw => ?_))
      refine z_stR (x := (some o28)) (kd := 4) (ci := 8) hC dX11_image_35 hw rfl rfl (fun S hw => ?_)
      refine z_mask (lv' := [some (.ref v0), some (.int v1)]) [true, true] rfl ?_
      exact t_X11_image_b36 hC hr hlk hnm hw
    | some b20 =>
      have hw := hz20.2 b20 rfl
      refine z_ifnonnull (r := some b20) (tgt := 36) hC dX11_image_20 (by decide) (fun _ _ => ?_) (fun h => by cases h)
      refine z_mask (lv' := [some (.ref v0), some (.int v1)]) [true, true] rfl ?_
      refine z_less (ku' := 0) (kv' := 0) (by decide) (by decide) ?_
      exact t_X11_image_b36 hC hr hlk hnm hw
  · have hw := hw.2 c5
    refine z_aload_n hC dX11_image_8 rfl rfl ?_
    refine z_iconst hC ic_m1 dX11_image_9 ?_
    refine z_callV (ku' := 15) (kv' := 195) (n := 1) (As := [.int (-1)]) (st := []) hC (c_X11_refuse l G B S v0 (-1) _) hw.2 hw.1 rfl lk_577 lk_579 lk_0 lk_121 lk_580 hd_X11_refuse rfl rfl (Nat.le_of_ble_eq_true rfl) (Nat.le_of_ble_eq_true rfl) rfl (Nat.le_of_ble_eq_true rfl) dX11_image_10 (Nat.le_refl _) (Nat.le_refl _) (kI (fun x10 S hw => ?_))
    exact z_iret hC hr hlk dX11_image_13 ⟨_, rfl, hw⟩
end
section
variable {p : Program} {l : Launch} {e : Env} {R : Room} {s : State} {m : MethodId} {args : Array Value} {below : List Frame} {meth : Method} {c : Code} {G : hG} {B mc ms : Nat}
def w_X11_back (q : Int32 → hS → Prop) (S : hS) (v0 : Nat) (v1 : Int32) : Prop := w_X11_isWithin (fun x2 S => (¬ x2 = 0 → gP S v0 11 2 (fun x15 => aR S 4 x15 v1 (fun x19 => (x19 = none → oK S v0 11 ∧ w_X11_refuse (fun x28 S => q x28 S) S v0 (-2)) ∧ (∀ b22 : Nat, x19 = some b22 → gP S v0 11 0 (fun x33 => oK S x33 8 ∧ w_X8_copyFrom (fun S => gP S v0 11 3 (fun x41 => oK S x41 3 ∧ w_X3_clear (fun S => oK S v0 11 ∧ w_X11_accept (fun x49 S => q x49 S) S v0 0) S x41)) S x33 b22))))) ∧ (x2 = 0 → oK S v0 11 ∧ w_X11_refuse (fun x10 S => q x10 S) S v0 (-1))) S v1 1
set_option maxRecDepth 100000 in
set_option maxHeartbeats 4000000 in
theorem c_X11_back (l : Launch) (G : hG) (B : Nat) (S : hS) (v0 : Nat) (v1 : Int32) (q : Int32 → hS → Prop) : Met l yX11_back (hws yX11_back cX11_back 3 (Option.some FieldType.int)) ({ frames := 3, cells := 0, slots := 0, locals := 103 }) (hPc G B S [.ref v0, .int v1] (w_X11_back q S v0 v1)) (hQ G B (iP q)) (0) (0) (fun r => B ≤ r) := by
  refine hMet (rm := { frames := 3, cells := 0, slots := 0, locals := 103 }) (lv := [some (.ref v0), some (.int v1), none]) (own := RX11) (fr := 3) (lo := 103) (by decide) rfl rfl rfl (Nat.le_of_ble_eq_true rfl) rfl (fun hw p e R s m args below meth c hC hr hlk hnm => ?_)
  unfold w_X11_back at hw
  refine z_iload_n hC dX11_back_0 rfl rfl ?_
  refine z_iconst hC ic_1 dX11_back_1 ?_
  refine z_callS (ku' := 0) (kv' := 0) (n := 2) (As := [.int v1, .int 1]) (st := []) hC (c_X11_isWithin l G B S v1 1 _) hw lk_574 lk_575 lk_121 lk_576 hd_X11_isWithin rfl rfl (Nat.le_of_ble_eq_true rfl) (Nat.le_of_ble_eq_true rfl) rfl (Nat.le_of_ble_eq_true rfl) dX11_back_2 (Nat.le_refl 0) (Nat.le_refl 0) (kI (fun x2 S hw => ?_))
  refine z_if_ne (tgt := 14) hC dX11_back_5 (by decide) (fun c5 => ?_) (fun c5 => ?_)
  · have hw := hw.1 c5
    refine z_aload_n hC dX11_back_14 rfl rfl ?_
    refine z_getP hC FX11 2 lk_517 dX11_back_15 (by decide) hw (fun x15 hw => ?_)
    refine z_iload_n hC dX11_back_18 rfl rfl ?_
    refine z_aldR (kd := 4) hC dX11_back_19 hw rfl (fun x19 hw => ?_)
    refine z_qstore_n (i := 2) (lv' := [some (.ref v0), some (.int v1), some (va_rf x19)]) hC rfl dX11_back_20 (by decide) (hok_v rfl rfl) rfl ?_
    refine z_qload_n hC dX11_back_21 rfl rfl ?_
    have hz22 := hw
    cases x19 with
    | none =>
      have hw := hz22.1 rfl
      refine z_ifnonnull (r := none) (tgt := 32) hC dX11_back_22 (by decide) (fun _ h => by cases h) (fun _ => ?_)
      refine z_aload_n hC dX11_back_25 rfl rfl ?_
      refine z_bipush hC bi_m2 dX11_back_26 ?_
      refine z_callV (ku' := 0) (kv' := 0) (n := 1) (As := [.int (-2)]) (st := []) hC (c_X11_refuse l G B S v0 (-2) _) hw.2 hw.1 rfl lk_577 lk_579 lk_0 lk_121 lk_580 hd_X11_refuse rfl rfl (Nat.le_of_ble_eq_true rfl) (Nat.le_of_ble_eq_true rfl) rfl (Nat.le_of_ble_eq_true rfl) dX11_back_28 (Nat.le_refl 0) (Nat.le_refl 0) (kI (fun x28 S hw => ?_))
      exact z_iret hC hr hlk dX11_back_31 ⟨_, rfl, hw⟩
    | some b22 =>
      have hw := hz22.2 b22 rfl
      refine z_ifnonnull (r := some b22) (tgt := 32) hC dX11_back_22 (by decide) (fun _ _ => ?_) (fun h => by cases h)
      refine z_aload_n hC dX11_back_32 rfl rfl ?_
      refine z_getP hC FX11 0 lk_515 dX11_back_33 (by decide) hw (fun x33 hw => ?_)
      refine z_aload_n hC dX11_back_36 rfl rfl ?_
      refine z_callV (ku' := 0) (kv' := 0) (n := 1) (As := [.ref b22]) (st := []) hC (c_X8_copyFrom l G B S x33 b22 _) hw.2 hw.1 rfl lk_1012 lk_1013 lk_1014 lk_122 lk_1015 hd_X8_copyFrom rfl rfl (Nat.le_of_ble_eq_true rfl) (Nat.le_of_ble_eq_true rfl) rfl (Nat.le_of_ble_eq_true rfl) dX11_back_37 (Nat.le_refl 0) (Nat.le_refl 0) (kV (fun S hw => ?_))
      refine z_aload_n hC dX11_back_40 rfl rfl ?_
      refine z_getP hC FX11 3 lk_518 dX11_back_41 (by decide) hw (fun x41 hw => ?_)
      refine z_callV (ku' := 0) (kv' := 0) (n := 0) (As := []) (st := []) hC (c_X3_clear l G B S x41 _) hw.2 hw.1 rfl lk_581 lk_582 lk_583 lk_124 lk_584 hd_X3_clear rfl rfl (Nat.le_of_ble_eq_true rfl) (Nat.le_of_ble_eq_true rfl) rfl (Nat.le_of_ble_eq_true rfl) dX11_back_44 (Nat.le_refl 0) (Nat.le_refl 0) (kV (fun S hw => ?_))
      refine z_aload_n hC dX11_back_47 rfl rfl ?_
      refine z_iconst hC ic_0 dX11_back_48 ?_
      refine z_callV (ku' := 0) (kv' := 0) (n := 1) (As := [.int 0]) (st := []) hC (c_X11_accept l G B S v0 0 _) hw.2 hw.1 rfl lk_592 lk_594 lk_1 lk_121 lk_595 hd_X11_accept rfl rfl (Nat.le_of_ble_eq_true rfl) (Nat.le_of_ble_eq_true rfl) rfl (Nat.le_of_ble_eq_true rfl) dX11_back_49 (Nat.le_refl 0) (Nat.le_refl 0) (kI (fun x49 S hw => ?_))
      exact z_iret hC hr hlk dX11_back_52 ⟨_, rfl, hw⟩
  · have hw := hw.2 c5
    refine z_aload_n hC dX11_back_8 rfl rfl ?_
    refine z_iconst hC ic_m1 dX11_back_9 ?_
    refine z_callV (ku' := 0) (kv' := 0) (n := 1) (As := [.int (-1)]) (st := []) hC (c_X11_refuse l G B S v0 (-1) _) hw.2 hw.1 rfl lk_577 lk_579 lk_0 lk_121 lk_580 hd_X11_refuse rfl rfl (Nat.le_of_ble_eq_true rfl) (Nat.le_of_ble_eq_true rfl) rfl (Nat.le_of_ble_eq_true rfl) dX11_back_10 (Nat.le_refl 0) (Nat.le_refl 0) (kI (fun x10 S hw => ?_))
    exact z_iret hC hr hlk dX11_back_13 ⟨_, rfl, hw⟩
end
section
variable {p : Program} {l : Launch} {e : Env} {R : Room} {s : State} {m : MethodId} {args : Array Value} {below : List Frame} {meth : Method} {c : Code} {G : hG} {B mc ms : Nat}
def w_X11_count (q : Int32 → hS → Prop) (S : hS) (v0 : Nat) (v1 : Int32) : Prop := ∀ y1 : Int32, y1 = v1 → ((y1.toInt = 0 → gP S v0 11 0 (fun x81 => gI S x81 8 1 (fun x84 => q x84 S))) ∧ (y1.toInt = 1 → gP S v0 11 0 (fun x89 => gI S x89 8 4 (fun x92 => q x92 S))) ∧ (y1.toInt = 2 → gP S v0 11 0 (fun x97 => oK S x97 8 ∧ w_X8_livingPeople (fun x100 S => q x100 S) S x97)) ∧ (y1.toInt = 3 → gP S v0 11 0 (fun x105 => gI S x105 8 9 (fun x108 => q x108 S))) ∧ (y1.toInt = 4 → gP S v0 11 0 (fun x113 => gI S x113 8 14 (fun x116 => q x116 S))) ∧ (y1.toInt = 5 → gP S v0 11 3 (fun x121 => gI S x121 3 3 (fun x124 => q x124 S))) ∧ (y1.toInt = 6 → gP S v0 11 4 (fun x129 => gI S x129 9 1 (fun x132 => q x132 S))) ∧ (y1.toInt = 7 → gP S v0 11 16 (fun x137 => aI S x137 1 (fun x141 => q x141 S))) ∧ (y1.toInt = 8 → gP S v0 11 16 (fun x144 => aI S x144 2 (fun x148 => q x148 S))) ∧ (y1.toInt = 9 → gP S v0 11 16 (fun x151 => aI S x151 3 (fun x155 => q x155 S))) ∧ (y1.toInt = 10 → gP S v0 11 16 (fun x158 => aI S x158 5 (fun x162 => q x162 S))) ∧ (y1.toInt = 11 → gP S v0 11 16 (fun x165 => aI S x165 6 (fun x170 => q x170 S))) ∧ (y1.toInt = 12 → gP S v0 11 0 (fun x173 => gI S x173 8 16 (fun x176 => q x176 S))) ∧ (y1.toInt = 13 → gP S v0 11 0 (fun x181 => gP S x181 8 0 (fun x184 => gI S x184 2 5 (fun x187 => q x187 S)))) ∧ (y1.toInt = 14 → gP S v0 11 0 (fun x192 => gI S x192 8 12 (fun x195 => q x195 S))) ∧ (y1.toInt = 15 → gP S v0 11 0 (fun x200 => gI S x200 8 13 (fun x203 => q x203 S))) ∧ ((y1.toInt < 0 ∨ 15 < y1.toInt) → q (-1) S))
set_option maxRecDepth 100000 in
set_option maxHeartbeats 4000000 in
theorem c_X11_count (l : Launch) (G : hG) (B : Nat) (S : hS) (v0 : Nat) (v1 : Int32) (q : Int32 → hS → Prop) : Met l yX11_count (hws yX11_count cX11_count 2 (Option.some FieldType.int)) ({ frames := 4, cells := 0, slots := 0, locals := 124 }) (hPc G B S [.ref v0, .int v1] (w_X11_count q S v0 v1)) (hQ G B (iP q)) (0) (0) (fun r => B ≤ r) := by
  refine hMet (rm := { frames := 4, cells := 0, slots := 0, locals := 124 }) (lv := [some (.ref v0), some (.int v1)]) (own := RX11) (fr := 4) (lo := 124) (by decide) rfl rfl rfl (Nat.le_of_ble_eq_true rfl) rfl (fun hw p e R s m args below meth c hC hr hlk hnm => ?_)
  unfold w_X11_count at hw
  refine z_iload_n hC dX11_count_0 rfl rfl ?_
  refine z_nmI (fun y1 e1 => ?_)
  have hw := hw y1 e1
  by_cases q1_0 : y1.toInt = 0
  · have hw := hw.1 q1_0
    refine z_tabIn (tgt := 80) (off := 79) hC 0 dX11_count_1 q1_0 (by decide) rfl (by decide) ?_
    refine z_aload_n hC dX11_count_80 rfl rfl ?_
    refine z_getP hC FX11 0 lk_515 dX11_count_81 (by decide) hw (fun x81 hw => ?_)
    refine z_getI hC FX8 1 lk_206 dX11_count_84 (by decide) hw (fun x84 hw => ?_)
    exact z_iret hC hr hlk dX11_count_87 ⟨_, rfl, hw⟩
  by_cases q1_1 : y1.toInt = 1
  · have hw := hw.2.1 q1_1
    refine z_tabIn (tgt := 88) (off := 87) hC 1 dX11_count_1 q1_1 (by decide) rfl (by decide) ?_
    refine z_aload_n hC dX11_count_88 rfl rfl ?_
    refine z_getP hC FX11 0 lk_515 dX11_count_89 (by decide) hw (fun x89 hw => ?_)
    refine z_getI hC FX8 4 lk_218 dX11_count_92 (by decide) hw (fun x92 hw => ?_)
    exact z_iret hC hr hlk dX11_count_95 ⟨_, rfl, hw⟩
  by_cases q1_2 : y1.toInt = 2
  · have hw := hw.2.2.1 q1_2
    refine z_tabIn (tgt := 96) (off := 95) hC 2 dX11_count_1 q1_2 (by decide) rfl (by decide) ?_
    refine z_aload_n hC dX11_count_96 rfl rfl ?_
    refine z_getP hC FX11 0 lk_515 dX11_count_97 (by decide) hw (fun x97 hw => ?_)
    refine z_callV (ku' := 0) (kv' := 0) (n := 0) (As := []) (st := []) hC (c_X8_livingPeople l G B S x97 _) hw.2 hw.1 rfl lk_1323 lk_1031 lk_1032 lk_122 lk_1033 hd_X8_livingPeople rfl rfl (Nat.le_of_ble_eq_true rfl) (Nat.le_of_ble_eq_true rfl) rfl (Nat.le_of_ble_eq_true rfl) dX11_count_100 (Nat.le_refl 0) (Nat.le_refl 0) (kI (fun x100 S hw => ?_))
    exact z_iret hC hr hlk dX11_count_103 ⟨_, rfl, hw⟩
  by_cases q1_3 : y1.toInt = 3
  · have hw := hw.2.2.2.1 q1_3
    refine z_tabIn (tgt := 104) (off := 103) hC 3 dX11_count_1 q1_3 (by decide) rfl (by decide) ?_
    refine z_aload_n hC dX11_count_104 rfl rfl ?_
    refine z_getP hC FX11 0 lk_515 dX11_count_105 (by decide) hw (fun x105 hw => ?_)
    refine z_getI hC FX8 9 lk_232 dX11_count_108 (by decide) hw (fun x108 hw => ?_)
    exact z_iret hC hr hlk dX11_count_111 ⟨_, rfl, hw⟩
  by_cases q1_4 : y1.toInt = 4
  · have hw := hw.2.2.2.2.1 q1_4
    refine z_tabIn (tgt := 112) (off := 111) hC 4 dX11_count_1 q1_4 (by decide) rfl (by decide) ?_
    refine z_aload_n hC dX11_count_112 rfl rfl ?_
    refine z_getP hC FX11 0 lk_515 dX11_count_113 (by decide) hw (fun x113 hw => ?_)
    refine z_getI hC FX8 14 lk_243 dX11_count_116 (by decide) hw (fun x116 hw => ?_)
    exact z_iret hC hr hlk dX11_count_119 ⟨_, rfl, hw⟩
  by_cases q1_5 : y1.toInt = 5
  · have hw := hw.2.2.2.2.2.1 q1_5
    refine z_tabIn (tgt := 120) (off := 119) hC 5 dX11_count_1 q1_5 (by decide) rfl (by decide) ?_
    refine z_aload_n hC dX11_count_120 rfl rfl ?_
    refine z_getP hC FX11 3 lk_518 dX11_count_121 (by decide) hw (fun x121 hw => ?_)
    refine z_getI hC FX3 3 lk_295 dX11_count_124 (by decide) hw (fun x124 hw => ?_)
    exact z_iret hC hr hlk dX11_count_127 ⟨_, rfl, hw⟩
  by_cases q1_6 : y1.toInt = 6
  · have hw := hw.2.2.2.2.2.2.1 q1_6
    refine z_tabIn (tgt := 128) (off := 127) hC 6 dX11_count_1 q1_6 (by decide) rfl (by decide) ?_
    refine z_aload_n hC dX11_count_128 rfl rfl ?_
    refine z_getP hC FX11 4 lk_519 dX11_count_129 (by decide) hw (fun x129 hw => ?_)
    refine z_getI hC FX9 1 lk_314 dX11_count_132 (by decide) hw (fun x132 hw => ?_)
    exact z_iret hC hr hlk dX11_count_135 ⟨_, rfl, hw⟩
  by_cases q1_7 : y1.toInt = 7
  · have hw := hw.2.2.2.2.2.2.2.1 q1_7
    refine z_tabIn (tgt := 136) (off := 135) hC 7 dX11_count_1 q1_7 (by decide) rfl (by decide) ?_
    refine z_aload_n hC dX11_count_136 rfl rfl ?_
    refine z_getP hC FX11 16 lk_531 dX11_count_137 (by decide) hw (fun x137 hw => ?_)
    refine z_iconst hC ic_1 dX11_count_140 ?_
    refine z_aldI hC dX11_count_141 hw (fun x141 hw => ?_)
    exact z_iret hC hr hlk dX11_count_142 ⟨_, rfl, hw⟩
  by_cases q1_8 : y1.toInt = 8
  · have hw := hw.2.2.2.2.2.2.2.2.1 q1_8
    refine z_tabIn (tgt := 143) (off := 142) hC 8 dX11_count_1 q1_8 (by decide) rfl (by decide) ?_
    refine z_aload_n hC dX11_count_143 rfl rfl ?_
    refine z_getP hC FX11 16 lk_531 dX11_count_144 (by decide) hw (fun x144 hw => ?_)
    refine z_iconst hC ic_2 dX11_count_147 ?_
    refine z_aldI hC dX11_count_148 hw (fun x148 hw => ?_)
    exact z_iret hC hr hlk dX11_count_149 ⟨_, rfl, hw⟩
  by_cases q1_9 : y1.toInt = 9
  · have hw := hw.2.2.2.2.2.2.2.2.2.1 q1_9
    refine z_tabIn (tgt := 150) (off := 149) hC 9 dX11_count_1 q1_9 (by decide) rfl (by decide) ?_
    refine z_aload_n hC dX11_count_150 rfl rfl ?_
    refine z_getP hC FX11 16 lk_531 dX11_count_151 (by decide) hw (fun x151 hw => ?_)
    refine z_iconst hC ic_3 dX11_count_154 ?_
    refine z_aldI hC dX11_count_155 hw (fun x155 hw => ?_)
    exact z_iret hC hr hlk dX11_count_156 ⟨_, rfl, hw⟩
  by_cases q1_10 : y1.toInt = 10
  · have hw := hw.2.2.2.2.2.2.2.2.2.2.1 q1_10
    refine z_tabIn (tgt := 157) (off := 156) hC 10 dX11_count_1 q1_10 (by decide) rfl (by decide) ?_
    refine z_aload_n hC dX11_count_157 rfl rfl ?_
    refine z_getP hC FX11 16 lk_531 dX11_count_158 (by decide) hw (fun x158 hw => ?_)
    refine z_iconst hC ic_5 dX11_count_161 ?_
    refine z_aldI hC dX11_count_162 hw (fun x162 hw => ?_)
    exact z_iret hC hr hlk dX11_count_163 ⟨_, rfl, hw⟩
  by_cases q1_11 : y1.toInt = 11
  · have hw := hw.2.2.2.2.2.2.2.2.2.2.2.1 q1_11
    refine z_tabIn (tgt := 164) (off := 163) hC 11 dX11_count_1 q1_11 (by decide) rfl (by decide) ?_
    refine z_aload_n hC dX11_count_164 rfl rfl ?_
    refine z_getP hC FX11 16 lk_531 dX11_count_165 (by decide) hw (fun x165 hw => ?_)
    refine z_bipush hC bi_6 dX11_count_168 ?_
    refine z_aldI hC dX11_count_170 hw (fun x170 hw => ?_)
    exact z_iret hC hr hlk dX11_count_171 ⟨_, rfl, hw⟩
  by_cases q1_12 : y1.toInt = 12
  · have hw := hw.2.2.2.2.2.2.2.2.2.2.2.2.1 q1_12
    refine z_tabIn (tgt := 172) (off := 171) hC 12 dX11_count_1 q1_12 (by decide) rfl (by decide) ?_
    refine z_aload_n hC dX11_count_172 rfl rfl ?_
    refine z_getP hC FX11 0 lk_515 dX11_count_173 (by decide) hw (fun x173 hw => ?_)
    refine z_getI hC FX8 16 lk_246 dX11_count_176 (by decide) hw (fun x176 hw => ?_)
    exact z_iret hC hr hlk dX11_count_179 ⟨_, rfl, hw⟩
  by_cases q1_13 : y1.toInt = 13
  · have hw := hw.2.2.2.2.2.2.2.2.2.2.2.2.2.1 q1_13
    refine z_tabIn (tgt := 180) (off := 179) hC 13 dX11_count_1 q1_13 (by decide) rfl (by decide) ?_
    refine z_aload_n hC dX11_count_180 rfl rfl ?_
    refine z_getP hC FX11 0 lk_515 dX11_count_181 (by decide) hw (fun x181 hw => ?_)
    refine z_getP hC FX8 0 lk_203 dX11_count_184 (by decide) hw (fun x184 hw => ?_)
    refine z_getI hC FX2 5 lk_182 dX11_count_187 (by decide) hw (fun x187 hw => ?_)
    exact z_iret hC hr hlk dX11_count_190 ⟨_, rfl, hw⟩
  by_cases q1_14 : y1.toInt = 14
  · have hw := hw.2.2.2.2.2.2.2.2.2.2.2.2.2.2.1 q1_14
    refine z_tabIn (tgt := 191) (off := 190) hC 14 dX11_count_1 q1_14 (by decide) rfl (by decide) ?_
    refine z_aload_n hC dX11_count_191 rfl rfl ?_
    refine z_getP hC FX11 0 lk_515 dX11_count_192 (by decide) hw (fun x192 hw => ?_)
    refine z_getI hC FX8 12 lk_238 dX11_count_195 (by decide) hw (fun x195 hw => ?_)
    exact z_iret hC hr hlk dX11_count_198 ⟨_, rfl, hw⟩
  by_cases q1_15 : y1.toInt = 15
  · have hw := hw.2.2.2.2.2.2.2.2.2.2.2.2.2.2.2.1 q1_15
    refine z_tabIn (tgt := 199) (off := 198) hC 15 dX11_count_1 q1_15 (by decide) rfl (by decide) ?_
    refine z_aload_n hC dX11_count_199 rfl rfl ?_
    refine z_getP hC FX11 0 lk_515 dX11_count_200 (by decide) hw (fun x200 hw => ?_)
    refine z_getI hC FX8 13 lk_241 dX11_count_203 (by decide) hw (fun x203 hw => ?_)
    exact z_iret hC hr hlk dX11_count_206 ⟨_, rfl, hw⟩
  have o1 : y1.toInt < 0 ∨ 15 < y1.toInt := by omega
  have hw := hw.2.2.2.2.2.2.2.2.2.2.2.2.2.2.2.2 o1
  refine z_tabOut (tgt := 207) hC dX11_count_1 o1 (by decide) ?_
  refine z_iconst hC ic_m1 dX11_count_207 ?_
  exact z_iret hC hr hlk dX11_count_208 ⟨_, rfl, hw⟩
end
section
variable {p : Program} {l : Launch} {e : Env} {R : Room} {s : State} {m : MethodId} {args : Array Value} {below : List Frame} {meth : Method} {c : Code} {G : hG} {B mc ms : Nat}
def w_X11_status (q : Int32 → hS → Prop) (S : hS) (v0 : Nat) : Prop := gI S v0 11 17 (fun x1 => q x1 S)
set_option maxRecDepth 100000 in
set_option maxHeartbeats 4000000 in
theorem c_X11_status (l : Launch) (G : hG) (B : Nat) (S : hS) (v0 : Nat) (q : Int32 → hS → Prop) : Met l yX11_status (hws yX11_status cX11_status 1 (Option.some FieldType.int)) ({ frames := 1, cells := 0, slots := 0, locals := 60 }) (hPc G B S [.ref v0] (w_X11_status q S v0)) (hQ G B (iP q)) (0) (0) (fun r => B ≤ r) := by
  refine hMet (rm := { frames := 1, cells := 0, slots := 0, locals := 60 }) (lv := [some (.ref v0)]) (own := RX11) (fr := 1) (lo := 60) (by decide) rfl rfl rfl (Nat.le_of_ble_eq_true rfl) rfl (fun hw p e R s m args below meth c hC hr hlk hnm => ?_)
  unfold w_X11_status at hw
  refine z_aload_n hC dX11_status_0 rfl rfl ?_
  refine z_getI hC FX11 17 lk_532 dX11_status_1 (by decide) hw (fun x1 hw => ?_)
  exact z_iret hC hr hlk dX11_status_4 ⟨_, rfl, hw⟩
end
