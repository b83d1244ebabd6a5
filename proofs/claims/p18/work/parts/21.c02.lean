section
variable {p : Program} {l : Launch} {e : Env} {R : Room} {s : State} {m : MethodId} {args : Array Value} {below : List Frame} {meth : Method} {c : Code} {G : hG} {B mc ms : Nat}
def w_X1_bury_b116 (q : Int32 → hS → Prop) (K45 : hS → Nat → (Nat) → (Int32) → (Nat) → (Int32) → (Int32) → Prop) (S : hS) (u : Nat) (v1 : Nat) (v3 : Int32) (v4 : Nat) (v5 : Int32) (v6 : Int32) : Prop := ∀ y116 : Int32, y116 = v6 + 1 → K45 S u v1 v3 v4 v5 y116
set_option maxRecDepth 100000 in
set_option maxHeartbeats 4000000 in
theorem t_X1_bury_b116 (hC : zC p R s m args c cX1_bury 8 RX1 G B mc ms 5 152) (hr : meth.sig.returnType = (Option.some FieldType.int)) (hlk : meth.locks = false) (hnm : meth.name = "bury") {q : Int32 → hS → Prop} {K45 : hS → Nat → (Nat) → (Int32) → (Nat) → (Int32) → (Int32) → Prop} (hK45 : ∀ {S : hS} {u : Nat} {v1 : Nat} {v3 : Int32} {v4 : Nat} {v5 : Int32} {v6 : Int32}, K45 S u v1 v3 v4 v5 v6 → Z p l e R s m args below meth c (MQ below (hQ G B (iP q)) args s mc ms (fun r => B ≤ r)) G B mc ms 8 S (5 * u) (116 * u) 45 [none, some (.ref v1), none, some (.int v3), some (.ref v4), some (.int v5), some (.int v6), none] []) {S : hS} {u : Nat} {v1 : Nat} {v3 : Int32} {v4 : Nat} {v5 : Int32} {v6 : Int32} (hw : w_X1_bury_b116 q K45 S u v1 v3 v4 v5 v6) : Z p l e R s m args below meth c (MQ below (hQ G B (iP q)) args s mc ms (fun r => B ≤ r)) G B mc ms 8 S (5 * u) (116 * u) 116 [none, some (.ref v1), none, some (.int v3), some (.ref v4), some (.int v5), some (.int v6), none] [] := by
  unfold w_X1_bury_b116 at hw
  refine z_inc (i := 6) hC ic_1 dX1_bury_116 rfl (by decide) (hok_v rfl rfl) (fun y116 e116 => ?_)
  have hw := hw y116 e116
  refine z_goto (tgt := 45) hC dX1_bury_119 (by decide) ?_
  refine z_mask (lv' := [none, some (.ref v1), none, some (.int v3), some (.ref v4), some (.int v5), some (.int y116), none]) [false, true, false, true, true, true, true, false] rfl ?_
  exact hK45 hw
def w_X1_bury_b45 (q : Int32 → hS → Prop) : Nat → hS → Nat → (Nat) → (Int32) → (Nat) → (Int32) → (Int32) → Prop
  | 0, _, _, _, _, _, _, _ => False
  | n + 1, S, u, v1, v3, v4, v5, v6 => gI S v1 8 1 (fun x48 => (x48 ≤ v6 → gI S v4 2 4 (fun x125 => pI S v4 2 4 (x125 ||| (1 <<< (v3 &&& 31))) (fun S => q v5 S))) ∧ (¬ x48 ≤ v6 → gP S v4 2 0 (fun x56 => w_X11_slot (fun x62 S => aI S x56 x62 (fun x65 => gP S v4 2 0 (fun x70 => w_X11_slot (fun x76 S => sI S x70 x76 0 (fun S => gP S v4 2 1 (fun x83 => w_X11_slot (fun x89 S => sI S x83 x89 0 (fun S => (v5 ≤ 0 → w_X1_bury_b116 q (fun S u v1 v3 v4 v5 v6 => w_X1_bury_b45 q n S u v1 v3 v4 v5 v6) S u v1 v3 v4 v5 v6) ∧ (¬ v5 ≤ 0 → (¬ v5 = 0) ∧ (¬ v5 = 0) ∧ w_X1_divide (fun S => w_X1_bury_b116 q (fun S u v1 v3 v4 v5 v6 => w_X1_bury_b45 q n S u v1 v3 v4 v5 v6) S u v1 v3 v4 v5 v6) S v1 v3 v6 (x65 / v5) (x65 - x65 / v5 * v5)))) S v3 v6))) S v3 v6))) S v3 v6)))
set_option maxRecDepth 100000 in
set_option maxHeartbeats 4000000 in
theorem t_X1_bury_b45 (hC : zC p R s m args c cX1_bury 8 RX1 G B mc ms 5 152) (hr : meth.sig.returnType = (Option.some FieldType.int)) (hlk : meth.locks = false) (hnm : meth.name = "bury") {q : Int32 → hS → Prop} (n : Nat) : ∀ {S : hS} {u : Nat} {v1 : Nat} {v3 : Int32} {v4 : Nat} {v5 : Int32} {v6 : Int32} (hw : w_X1_bury_b45 q n S u v1 v3 v4 v5 v6), Z p l e R s m args below meth c (MQ below (hQ G B (iP q)) args s mc ms (fun r => B ≤ r)) G B mc ms 8 S (5 * u) (116 * u) 45 [none, some (.ref v1), none, some (.int v3), some (.ref v4), some (.int v5), some (.int v6), none] [] := by
  induction n with
  | zero => intro S u v1 v3 v4 v5 v6 hw; exact (by rw [w_X1_bury_b45] at hw; exact hw.elim)
  | succ n ih =>
    intro S u v1 v3 v4 v5 v6 hw
    rw [w_X1_bury_b45] at hw
    refine z_iload hC dX1_bury_45 rfl ?_
    refine z_aload_n hC dX1_bury_47 rfl rfl ?_
    refine z_getI hC FX8 1 lk_208 dX1_bury_48 (by decide) hw (fun x48 hw => ?_)
    refine z_icmp_ge (tgt := 122) hC dX1_bury_51 (by decide) (fun c51 => ?_) (fun c51 => ?_)
    · have hw := hw.1 c51
      refine z_aload hC dX1_bury_122 rfl ?_
      refine z_dup hC rfl dX1_bury_124 ?_
      refine z_getI hC FX2 4 lk_180 dX1_bury_125 (by decide) hw (fun x125 hw => ?_)
      refine z_iconst hC ic_1 dX1_bury_128 ?_
      refine z_iload_n hC dX1_bury_129 rfl rfl ?_
      refine z_ishl hC dX1_bury_130 ?_
      refine z_ior hC dX1_bury_131 ?_
      refine z_putI hC FX2 4 lk_180 dX1_bury_132 (by decide) rfl rfl hw (fun S hw => ?_)
      refine z_iload hC dX1_bury_135 rfl ?_
      exact z_iret hC hr hlk dX1_bury_137 ⟨_, rfl, hw⟩
    · have hw := hw.2 c51
      refine z_aload hC dX1_bury_54 rfl ?_
      refine z_getP hC FX2 0 lk_163 dX1_bury_56 (by decide) hw (fun x56 hw => ?_)
      refine z_iload_n hC dX1_bury_59 rfl rfl ?_
      refine z_iload hC dX1_bury_60 rfl ?_
      refine z_callSN (ku' := (5 * u)) (kv' := (116 * u)) (n := 2) (As := [.int v3, .int v6]) (st := [.ref x56]) (host := "BellHeirs") hC (c_X11_slot l G B S v3 v6 _) hw (by decide +kernel) lk_590 lk_121 lk_591 hd_X11_slot.2 rfl rfl (Nat.le_of_ble_eq_true rfl) (Nat.le_of_ble_eq_true rfl) rfl (Nat.le_of_ble_eq_true rfl) dX1_bury_62 (Nat.le_refl _) (Nat.le_refl _) (kI (fun x62 S hw => ?_))
      refine z_aldI hC dX1_bury_65 hw (fun x65 hw => ?_)
      refine z_istore (i := 7) (lv' := [none, some (.ref v1), none, some (.int v3), some (.ref v4), some (.int v5), some (.int v6), some (.int x65)]) hC dX1_bury_66 (by decide) (hok_v rfl rfl) rfl ?_
      refine z_aload hC dX1_bury_68 rfl ?_
      refine z_getP hC FX2 0 lk_163 dX1_bury_70 (by decide) hw (fun x70 hw => ?_)
      refine z_iload_n hC dX1_bury_73 rfl rfl ?_
      refine z_iload hC dX1_bury_74 rfl ?_
      refine z_callSN (ku' := (5 * u)) (kv' := (116 * u)) (n := 2) (As := [.int v3, .int v6]) (st := [.ref x70]) (host := "BellHeirs") hC (c_X11_slot l G B S v3 v6 _) hw (by decide +kernel) lk_590 lk_121 lk_591 hd_X11_slot.2 rfl rfl (Nat.le_of_ble_eq_true rfl) (Nat.le_of_ble_eq_true rfl) rfl (Nat.le_of_ble_eq_true rfl) dX1_bury_76 (Nat.le_refl _) (Nat.le_refl _) (kI (fun x76 S hw => ?_))
      refine z_iconst hC ic_0 dX1_bury_79 ?_
      refine z_astI hC dX1_bury_80 hw (fun S hw => ?_)
      refine z_aload hC dX1_bury_81 rfl ?_
      refine z_getP hC FX2 1 lk_166 dX1_bury_83 (by decide) hw (fun x83 hw => ?_)
      refine z_iload_n hC dX1_bury_86 rfl rfl ?_
      refine z_iload hC dX1_bury_87 rfl ?_
      refine z_callSN (ku' := (5 * u)) (kv' := (116 * u)) (n := 2) (As := [.int v3, .int v6]) (st := [.ref x83]) (host := "BellHeirs") hC (c_X11_slot l G B S v3 v6 _) hw (by decide +kernel) lk_590 lk_121 lk_591 hd_X11_slot.2 rfl rfl (Nat.le_of_ble_eq_true rfl) (Nat.le_of_ble_eq_true rfl) rfl (Nat.le_of_ble_eq_true rfl) dX1_bury_89 (Nat.le_refl _) (Nat.le_refl _) (kI (fun x89 S hw => ?_))
      refine z_iconst hC ic_0 dX1_bury_92 ?_
      refine z_astI hC dX1_bury_93 hw (fun S hw => ?_)
      refine z_iload hC dX1_bury_94 rfl ?_
      refine z_if_le (tgt := 116) hC dX1_bury_96 (by decide) (fun c96 => ?_) (fun c96 => ?_)
      · have hw := hw.1 c96
        refine z_mask (lv' := [none, some (.ref v1), none, some (.int v3), some (.ref v4), some (.int v5), some (.int v6), none]) [false, true, false, true, true, true, true, false] rfl ?_
        exact t_X1_bury_b116 hC hr hlk hnm (fun hw => ih hw) hw
      · have hw := hw.2 c96
        refine z_aload_n hC dX1_bury_99 rfl rfl ?_
        refine z_iload_n hC dX1_bury_100 rfl rfl ?_
        refine z_iload hC dX1_bury_101 rfl ?_
        refine z_iload hC dX1_bury_103 rfl ?_
        refine z_iload hC dX1_bury_105 rfl ?_
        refine z_idiv hC hw.1 dX1_bury_107 ?_
        have hw := hw.2
        refine z_iload hC dX1_bury_108 rfl ?_
        refine z_iload hC dX1_bury_110 rfl ?_
        refine z_irem hC hw.1 dX1_bury_112 ?_
        have hw := hw.2
        refine z_callS (ku' := (5 * u)) (kv' := (116 * u)) (n := 5) (As := [.ref v1, .int v3, .int v6, .int (x65 / v5), .int (x65 - x65 / v5 * v5)]) (st := []) hC (c_X1_divide l G B S v1 v3 v6 (x65 / v5) (x65 - x65 / v5 * v5) _) hw lk_1080 lk_1081 lk_130 lk_1082 hd_X1_divide rfl rfl (Nat.le_of_ble_eq_true rfl) (Nat.le_of_ble_eq_true rfl) rfl (Nat.le_of_ble_eq_true rfl) dX1_bury_113 (Nat.le_refl _) (Nat.le_refl _) (kV (fun S hw => ?_))
        refine z_mask (lv' := [none, some (.ref v1), none, some (.int v3), some (.ref v4), some (.int v5), some (.int v6), none]) [false, true, false, true, true, true, true, false] rfl ?_
        exact t_X1_bury_b116 hC hr hlk hnm (fun hw => ih hw) hw
def w_X1_bury (q : Int32 → hS → Prop) (S : hS) (u : Nat) (v0 : Nat) (v1 : Nat) (v2 : Option Nat) (v3 : Int32) : Prop := oK S v1 8 ∧ w_X8_hasPerson (fun x2 S => (¬ x2 = 0 → oK S v1 8 ∧ w_X8_lives (fun x13 S => (¬ x13 = 0 → gP S v1 8 0 (fun x23 => ∃ f32 g32 : Nat, u = f32 + g32 ∧ w_X1_note (fun S => oK S v1 8 ∧ w_X8_livingHeirs (fun x37 S => (∃ n45 : Nat, w_X1_bury_b45 q n45 S g32 v1 v3 x23 x37 0)) S v1 v3) S f32 v2 2 x23)) ∧ (x13 = 0 → q (-3) S)) S v1 v3) ∧ (x2 = 0 → q (-2) S)) S v1 v3
set_option maxRecDepth 100000 in
set_option maxHeartbeats 4000000 in
theorem c_X1_bury (l : Launch) (G : hG) (B : Nat) (S : hS) (u : Nat) (v0 : Nat) (v1 : Nat) (v2 : Option Nat) (v3 : Int32) (q : Int32 → hS → Prop) : Met l yX1_bury (hws yX1_bury cX1_bury 8 (Option.some FieldType.int)) ({ frames := 5, cells := 5 * u, slots := 116 * u, locals := 152 }) (hPc G B S [.ref v0, .ref v1, va_rf v2, .int v3] (w_X1_bury q S u v0 v1 v2 v3)) (hQ G B (iP q)) (5 * u) (116 * u) (fun r => B ≤ r) := by
  refine hMet (rm := { frames := 5, cells := 5 * u, slots := 116 * u, locals := 152 }) (lv := [some (.ref v0), some (.ref v1), some (va_rf v2), some (.int v3), none, none, none, none]) (own := RX1) (fr := 5) (lo := 152) (by decide) rfl rfl rfl (by cases v2 <;> exact Nat.le_of_ble_eq_true rfl) (by cases v2 <;> rfl) (fun hw p e R s m args below meth c hC hr hlk hnm => ?_)
  unfold w_X1_bury at hw
  refine z_less (ku' := 5 * u) (kv' := 116 * u) (Nat.le_refl _) (Nat.le_refl _) ?_
  refine z_aload_n hC dX1_bury_0 rfl rfl ?_
  refine z_iload_n hC dX1_bury_1 rfl rfl ?_
  refine z_callV (ku' := (5 * u)) (kv' := (116 * u)) (n := 1) (As := [.int v3]) (st := []) hC (c_X8_hasPerson l G B S v1 v3 _) hw.2 hw.1 rfl lk_1035 lk_613 lk_614 lk_122 lk_615 hd_X8_hasPerson rfl rfl (Nat.le_of_ble_eq_true rfl) (Nat.le_of_ble_eq_true rfl) rfl (Nat.le_of_ble_eq_true rfl) dX1_bury_2 (Nat.le_refl _) (Nat.le_refl _) (kI (fun x2 S hw => ?_))
  refine z_if_ne (tgt := 11) hC dX1_bury_5 (by decide) (fun c5 => ?_) (fun c5 => ?_)
  · have hw := hw.1 c5
    refine z_aload_n hC dX1_bury_11 rfl rfl ?_
    refine z_iload_n hC dX1_bury_12 rfl rfl ?_
    refine z_callV (ku' := (5 * u)) (kv' := (116 * u)) (n := 1) (As := [.int v3]) (st := []) hC (c_X8_lives l G B S v1 v3 _) hw.2 hw.1 rfl lk_742 lk_676 lk_677 lk_122 lk_678 hd_X8_lives rfl rfl (Nat.le_of_ble_eq_true rfl) (Nat.le_of_ble_eq_true rfl) rfl (Nat.le_of_ble_eq_true rfl) dX1_bury_13 (Nat.le_refl _) (Nat.le_refl _) (kI (fun x13 S hw => ?_))
    refine z_if_ne (tgt := 22) hC dX1_bury_16 (by decide) (fun c16 => ?_) (fun c16 => ?_)
    · have hw := hw.1 c16
      refine z_aload_n hC dX1_bury_22 rfl rfl ?_
      refine z_getP hC FX8 0 lk_202 dX1_bury_23 (by decide) hw (fun x23 hw => ?_)
      refine z_astore (i := 4) (lv' := [some (.ref v0), some (.ref v1), some (va_rf v2), some (.int v3), some (.ref x23), none, none, none]) hC dX1_bury_26 (by decide) (hok_v rfl rfl) rfl ?_
      refine z_qload_n hC dX1_bury_28 rfl rfl ?_
      refine z_iconst hC ic_2 dX1_bury_29 ?_
      refine z_aload hC dX1_bury_30 rfl ?_
      obtain ⟨f32, g32, eu32, hu32⟩ := hw
      subst eu32
      have hw := hu32
      refine z_callS (ku' := (5 * g32)) (kv' := (116 * g32)) (n := 3) (As := [va_rf v2, .int 2, .ref x23]) (st := []) hC (c_X1_note l G B S f32 v2 2 x23 _) hw lk_1049 lk_1050 lk_130 lk_1051 hd_X1_note rfl rfl (Nat.le_of_ble_eq_true rfl) (Nat.le_of_ble_eq_true rfl) rfl (Nat.le_of_ble_eq_true rfl) dX1_bury_32 (by omega) (by omega) (kV (fun S hw => ?_))
      refine z_aload_n hC dX1_bury_35 rfl rfl ?_
      refine z_iload_n hC dX1_bury_36 rfl rfl ?_
      refine z_callV (ku' := (5 * g32)) (kv' := (116 * g32)) (n := 1) (As := [.int v3]) (st := []) hC (c_X8_livingHeirs l G B S v1 v3 _) hw.2 hw.1 rfl lk_1072 lk_1073 lk_1074 lk_122 lk_1075 hd_X8_livingHeirs rfl rfl (Nat.le_of_ble_eq_true rfl) (Nat.le_of_ble_eq_true rfl) rfl (Nat.le_of_ble_eq_true rfl) dX1_bury_37 (Nat.le_refl _) (Nat.le_refl _) (kI (fun x37 S hw => ?_))
      refine z_istore (i := 5) (lv' := [some (.ref v0), some (.ref v1), some (va_rf v2), some (.int v3), some (.ref x23), some (.int x37), none, none]) hC dX1_bury_40 (by decide) (hok_v rfl rfl) rfl ?_
      refine z_iconst hC ic_0 dX1_bury_42 ?_
      refine z_istore (i := 6) (lv' := [some (.ref v0), some (.ref v1), some (va_rf v2), some (.int v3), some (.ref x23), some (.int x37), some (.int 0), none]) hC dX1_bury_43 (by decide) (hok_v rfl rfl) rfl ?_
      refine z_mask (lv' := [none, some (.ref v1), none, some (.int v3), some (.ref x23), some (.int x37), some (.int 0), none]) [false, true, false, true, true, true, true, false] rfl ?_
      obtain ⟨n45, hw⟩ := hw
      exact t_X1_bury_b45 hC hr hlk hnm n45 hw
    · have hw := hw.2 c16
      refine z_bipush hC bi_m3 dX1_bury_19 ?_
      exact z_iret hC hr hlk dX1_bury_21 ⟨_, rfl, hw⟩
  · have hw := hw.2 c5
    refine z_bipush hC bi_m2 dX1_bury_8 ?_
    exact z_iret hC hr hlk dX1_bury_10 ⟨_, rfl, hw⟩
end
section
variable {p : Program} {l : Launch} {e : Env} {R : Room} {s : State} {m : MethodId} {args : Array Value} {below : List Frame} {meth : Method} {c : Code} {G : hG} {B mc ms : Nat}
def w_X1_turnYear_b54 (q : Int32 → hS → Prop) : Nat → hS → Nat → (Nat) → (Int32) → Prop
  | 0, _, _, _, _ => False
  | n + 1, S, u, v3, v4 => (6 ≤ v4 → gI S v3 2 5 (fun x77 => pI S v3 2 5 (x77 + 1) (fun S => gI S v3 2 5 (fun x86 => q x86 S)))) ∧ (¬ 6 ≤ v4 → gP S v3 2 2 (fun x62 => sI S x62 v4 0 (fun S => ∀ y69 : Int32, y69 = v4 + 1 → w_X1_turnYear_b54 q n S u v3 y69)))
set_option maxRecDepth 100000 in
set_option maxHeartbeats 4000000 in
theorem t_X1_turnYear_b54 (hC : zC p R s m args c cX1_turnYear 5 RX1 G B mc ms 4 125) (hr : meth.sig.returnType = (Option.some FieldType.int)) (hlk : meth.locks = false) (hnm : meth.name = "turnYear") {q : Int32 → hS → Prop} (n : Nat) : ∀ {S : hS} {u : Nat} {v3 : Nat} {v4 : Int32} (hw : w_X1_turnYear_b54 q n S u v3 v4), Z p l e R s m args below meth c (MQ below (hQ G B (iP q)) args s mc ms (fun r => B ≤ r)) G B mc ms 5 S (5 * u) (116 * u) 54 [none, none, none, some (.ref v3), some (.int v4)] [] := by
  induction n with
  | zero => intro S u v3 v4 hw; exact (by rw [w_X1_turnYear_b54] at hw; exact hw.elim)
  | succ n ih =>
    intro S u v3 v4 hw
    rw [w_X1_turnYear_b54] at hw
    refine z_iload hC dX1_turnYear_54 rfl ?_
    refine z_bipush hC bi_6 dX1_turnYear_56 ?_
    refine z_icmp_ge (tgt := 75) hC dX1_turnYear_58 (by decide) (fun c58 => ?_) (fun c58 => ?_)
    · have hw := hw.1 c58
      refine z_aload_n hC dX1_turnYear_75 rfl rfl ?_
      refine z_dup hC rfl dX1_turnYear_76 ?_
      refine z_getI hC FX2 5 lk_183 dX1_turnYear_77 (by decide) hw (fun x77 hw => ?_)
      refine z_iconst hC ic_1 dX1_turnYear_80 ?_
      refine z_iadd hC dX1_turnYear_81 ?_
      refine z_putI hC FX2 5 lk_183 dX1_turnYear_82 (by decide) rfl rfl hw (fun S hw => ?_)
      refine z_aload_n hC dX1_turnYear_85 rfl rfl ?_
      refine z_getI hC FX2 5 lk_183 dX1_turnYear_86 (by decide) hw (fun x86 hw => ?_)
      exact z_iret hC hr hlk dX1_turnYear_89 ⟨_, rfl, hw⟩
    · have hw := hw.2 c58
      refine z_aload_n hC dX1_turnYear_61 rfl rfl ?_
      refine z_getP hC FX2 2 lk_169 dX1_turnYear_62 (by decide) hw (fun x62 hw => ?_)
      refine z_iload hC dX1_turnYear_65 rfl ?_
      refine z_iconst hC ic_0 dX1_turnYear_67 ?_
      refine z_astI hC dX1_turnYear_68 hw (fun S hw => ?_)
      refine z_inc (i := 4) hC ic_1 dX1_turnYear_69 rfl (by decide) (hok_v rfl rfl) (fun y69 e69 => ?_)
      have hw := hw y69 e69
      refine z_goto (tgt := 54) hC dX1_turnYear_72 (by decide) ?_
      refine z_mask (lv' := [none, none, none, some (.ref v3), some (.int y69)]) [false, false, false, true, true] rfl ?_
      exact ih hw
def w_X1_turnYear_b27 (q : Int32 → hS → Prop) : Nat → hS → Nat → (Nat) → (Int32) → Prop
  | 0, _, _, _, _ => False
  | n + 1, S, u, v3, v4 => gP S v3 2 1 (fun x30 => aN S x30 (fun x33 => (x33 ≤ v4 → (∃ n54 : Nat, w_X1_turnYear_b54 q n54 S u v3 0)) ∧ (¬ x33 ≤ v4 → gP S v3 2 1 (fun x38 => sI S x38 v4 0 (fun S => ∀ y45 : Int32, y45 = v4 + 1 → w_X1_turnYear_b27 q n S u v3 y45)))))
set_option maxRecDepth 100000 in
set_option maxHeartbeats 4000000 in
theorem t_X1_turnYear_b27 (hC : zC p R s m args c cX1_turnYear 5 RX1 G B mc ms 4 125) (hr : meth.sig.returnType = (Option.some FieldType.int)) (hlk : meth.locks = false) (hnm : meth.name = "turnYear") {q : Int32 → hS → Prop} (n : Nat) : ∀ {S : hS} {u : Nat} {v3 : Nat} {v4 : Int32} (hw : w_X1_turnYear_b27 q n S u v3 v4), Z p l e R s m args below meth c (MQ below (hQ G B (iP q)) args s mc ms (fun r => B ≤ r)) G B mc ms 5 S (5 * u) (116 * u) 27 [none, none, none, some (.ref v3), some (.int v4)] [] := by
  induction n with
  | zero => intro S u v3 v4 hw; exact (by rw [w_X1_turnYear_b27] at hw; exact hw.elim)
  | succ n ih =>
    intro S u v3 v4 hw
    rw [w_X1_turnYear_b27] at hw
    refine z_iload hC dX1_turnYear_27 rfl ?_
    refine z_aload_n hC dX1_turnYear_29 rfl rfl ?_
    refine z_getP hC FX2 1 lk_166 dX1_turnYear_30 (by decide) hw (fun x30 hw => ?_)
    refine z_alen hC dX1_turnYear_33 hw (fun x33 hw => ?_)
    refine z_icmp_ge (tgt := 51) hC dX1_turnYear_34 (by decide) (fun c34 => ?_) (fun c34 => ?_)
    · have hw := hw.1 c34
      refine z_iconst hC ic_0 dX1_turnYear_51 ?_
      refine z_istore (i := 4) (lv' := [none, none, none, some (.ref v3), some (.int 0)]) hC dX1_turnYear_52 (by decide) (hok_v rfl rfl) rfl ?_
      refine z_mask (lv' := [none, none, none, some (.ref v3), some (.int 0)]) [false, false, false, true, true] rfl ?_
      obtain ⟨n54, hw⟩ := hw
      exact t_X1_turnYear_b54 hC hr hlk hnm n54 hw
    · have hw := hw.2 c34
      refine z_aload_n hC dX1_turnYear_37 rfl rfl ?_
      refine z_getP hC FX2 1 lk_166 dX1_turnYear_38 (by decide) hw (fun x38 hw => ?_)
      refine z_iload hC dX1_turnYear_41 rfl ?_
      refine z_iconst hC ic_0 dX1_turnYear_43 ?_
      refine z_astI hC dX1_turnYear_44 hw (fun S hw => ?_)
      refine z_inc (i := 4) hC ic_1 dX1_turnYear_45 rfl (by decide) (hok_v rfl rfl) (fun y45 e45 => ?_)
      have hw := hw y45 e45
      refine z_goto (tgt := 27) hC dX1_turnYear_48 (by decide) ?_
      refine z_mask (lv' := [none, none, none, some (.ref v3), some (.int y45)]) [false, false, false, true, true] rfl ?_
      exact ih hw
def w_X1_turnYear (q : Int32 → hS → Prop) (S : hS) (u : Nat) (v0 : Nat) (v1 : Nat) (v2 : Option Nat) : Prop := gP S v1 8 0 (fun x1 => gI S x1 2 5 (fun x6 => (x6 < 999 → ∃ f21 g21 : Nat, u = f21 + g21 ∧ w_X1_note (fun S => (∃ n27 : Nat, w_X1_turnYear_b27 q n27 S g21 x1 0)) S f21 v2 3 x1) ∧ (¬ x6 < 999 → q (-3) S)))
set_option maxRecDepth 100000 in
set_option maxHeartbeats 4000000 in
theorem c_X1_turnYear (l : Launch) (G : hG) (B : Nat) (S : hS) (u : Nat) (v0 : Nat) (v1 : Nat) (v2 : Option Nat) (q : Int32 → hS → Prop) : Met l yX1_turnYear (hws yX1_turnYear cX1_turnYear 5 (Option.some FieldType.int)) ({ frames := 4, cells := 5 * u, slots := 116 * u, locals := 125 }) (hPc G B S [.ref v0, .ref v1, va_rf v2] (w_X1_turnYear q S u v0 v1 v2)) (hQ G B (iP q)) (5 * u) (116 * u) (fun r => B ≤ r) := by
  refine hMet (rm := { frames := 4, cells := 5 * u, slots := 116 * u, locals := 125 }) (lv := [some (.ref v0), some (.ref v1), some (va_rf v2), none, none]) (own := RX1) (fr := 4) (lo := 125) (by decide) rfl rfl rfl (by cases v2 <;> exact Nat.le_of_ble_eq_true rfl) (by cases v2 <;> rfl) (fun hw p e R s m args below meth c hC hr hlk hnm => ?_)
  unfold w_X1_turnYear at hw
  refine z_less (ku' := 5 * u) (kv' := 116 * u) (Nat.le_refl _) (Nat.le_refl _) ?_
  refine z_aload_n hC dX1_turnYear_0 rfl rfl ?_
  refine z_getP hC FX8 0 lk_202 dX1_turnYear_1 (by decide) hw (fun x1 hw => ?_)
  refine z_astore_n (i := 3) (lv' := [some (.ref v0), some (.ref v1), some (va_rf v2), some (.ref x1), none]) hC rfl dX1_turnYear_4 (by decide) (hok_v rfl (va_rf_cat _)) rfl ?_
  refine z_aload_n hC dX1_turnYear_5 rfl rfl ?_
  refine z_getI hC FX2 5 lk_183 dX1_turnYear_6 (by decide) hw (fun x6 hw => ?_)
  refine z_sipush hC si_999 dX1_turnYear_9 ?_
  refine z_icmp_lt (tgt := 18) hC dX1_turnYear_12 (by decide) (fun c12 => ?_) (fun c12 => ?_)
  · have hw := hw.1 c12
    refine z_qload_n hC dX1_turnYear_18 rfl rfl ?_
    refine z_iconst hC ic_3 dX1_turnYear_19 ?_
    refine z_aload_n hC dX1_turnYear_20 rfl rfl ?_
    obtain ⟨f21, g21, eu21, hu21⟩ := hw
    subst eu21
    have hw := hu21
    refine z_callS (ku' := (5 * g21)) (kv' := (116 * g21)) (n := 3) (As := [va_rf v2, .int 3, .ref x1]) (st := []) hC (c_X1_note l G B S f21 v2 3 x1 _) hw lk_1049 lk_1050 lk_130 lk_1051 hd_X1_note rfl rfl (Nat.le_of_ble_eq_true rfl) (Nat.le_of_ble_eq_true rfl) rfl (Nat.le_of_ble_eq_true rfl) dX1_turnYear_21 (by omega) (by omega) (kV (fun S hw => ?_))
    refine z_iconst hC ic_0 dX1_turnYear_24 ?_
    refine z_istore (i := 4) (lv' := [some (.ref v0), some (.ref v1), some (va_rf v2), some (.ref x1), some (.int 0)]) hC dX1_turnYear_25 (by decide) (hok_v rfl rfl) rfl ?_
    refine z_mask (lv' := [none, none, none, some (.ref x1), some (.int 0)]) [false, false, false, true, true] rfl ?_
    obtain ⟨n27, hw⟩ := hw
    exact t_X1_turnYear_b27 hC hr hlk hnm n27 hw
  · have hw := hw.2 c12
    refine z_bipush hC bi_m3 dX1_turnYear_15 ?_
    exact z_iret hC hr hlk dX1_turnYear_17 ⟨_, rfl, hw⟩
end
section
variable {p : Program} {l : Launch} {e : Env} {R : Room} {s : State} {m : MethodId} {args : Array Value} {below : List Frame} {meth : Method} {c : Code} {G : hG} {B mc ms : Nat}
def w_X8_livingPeople_b23 (q : Int32 → hS → Prop) (K4 : hS → (Nat) → (Int32) → (Int32) → Prop) (S : hS) (v0 : Nat) (v1 : Int32) (v2 : Int32) : Prop := ∀ y23 : Int32, y23 = v2 + 1 → K4 S v0 v1 y23
set_option maxRecDepth 100000 in
set_option maxHeartbeats 4000000 in
theorem t_X8_livingPeople_b23 (hC : zC p R s m args c cX8_livingPeople 3 RX8 G B mc ms 3 102) (hr : meth.sig.returnType = (Option.some FieldType.int)) (hlk : meth.locks = false) (hnm : meth.name = "livingPeople") {q : Int32 → hS → Prop} {K4 : hS → (Nat) → (Int32) → (Int32) → Prop} (hK4 : ∀ {S : hS} {v0 : Nat} {v1 : Int32} {v2 : Int32}, K4 S v0 v1 v2 → Z p l e R s m args below meth c (MQ below (hQ G B (iP q)) args s mc ms (fun r => B ≤ r)) G B mc ms 3 S 0 0 4 [some (.ref v0), some (.int v1), some (.int v2)] []) {S : hS} {v0 : Nat} {v1 : Int32} {v2 : Int32} (hw : w_X8_livingPeople_b23 q K4 S v0 v1 v2) : Z p l e R s m args below meth c (MQ below (hQ G B (iP q)) args s mc ms (fun r => B ≤ r)) G B mc ms 3 S 0 0 23 [some (.ref v0), some (.int v1), some (.int v2)] [] := by
  unfold w_X8_livingPeople_b23 at hw
  refine z_inc (i := 2) hC ic_1 dX8_livingPeople_23 rfl (by decide) (hok_v rfl rfl) (fun y23 e23 => ?_)
  have hw := hw y23 e23
  refine z_goto (tgt := 4) hC dX8_livingPeople_26 (by decide) ?_
  refine z_mask (lv' := [some (.ref v0), some (.int v1), some (.int y23)]) [true, true, true] rfl ?_
  exact hK4 hw
def w_X8_livingPeople_b4 (q : Int32 → hS → Prop) : Nat → hS → (Nat) → (Int32) → (Int32) → Prop
  | 0, _, _, _, _ => False
  | n + 1, S, v0, v1, v2 => gI S v0 8 4 (fun x6 => (x6 ≤ v2 → q v1 S) ∧ (¬ x6 ≤ v2 → oK S v0 8 ∧ w_X8_lives (fun x14 S => (x14 = 0 → w_X8_livingPeople_b23 q (fun S v0 v1 v2 => w_X8_livingPeople_b4 q n S v0 v1 v2) S v0 v1 v2) ∧ (¬ x14 = 0 → ∀ y20 : Int32, y20 = v1 + 1 → w_X8_livingPeople_b23 q (fun S v0 v1 v2 => w_X8_livingPeople_b4 q n S v0 v1 v2) S v0 y20 v2)) S v0 v2))
set_option maxRecDepth 100000 in
set_option maxHeartbeats 4000000 in
theorem t_X8_livingPeople_b4 (hC : zC p R s m args c cX8_livingPeople 3 RX8 G B mc ms 3 102) (hr : meth.sig.returnType = (Option.some FieldType.int)) (hlk : meth.locks = false) (hnm : meth.name = "livingPeople") {q : Int32 → hS → Prop} (n : Nat) : ∀ {S : hS} {v0 : Nat} {v1 : Int32} {v2 : Int32} (hw : w_X8_livingPeople_b4 q n S v0 v1 v2), Z p l e R s m args below meth c (MQ below (hQ G B (iP q)) args s mc ms (fun r => B ≤ r)) G B mc ms 3 S 0 0 4 [some (.ref v0), some (.int v1), some (.int v2)] [] := by
  induction n with
  | zero => intro S v0 v1 v2 hw; exact (by rw [w_X8_livingPeople_b4] at hw; exact hw.elim)
  | succ n ih =>
    intro S v0 v1 v2 hw
    rw [w_X8_livingPeople_b4] at hw
    refine z_iload_n hC dX8_livingPeople_4 rfl rfl ?_
    refine z_aload_n hC dX8_livingPeople_5 rfl rfl ?_
    refine z_getI hC FX8 4 lk_215 dX8_livingPeople_6 (by decide) hw (fun x6 hw => ?_)
    refine z_icmp_ge (tgt := 29) hC dX8_livingPeople_9 (by decide) (fun c9 => ?_) (fun c9 => ?_)
    · have hw := hw.1 c9
      refine z_iload_n hC dX8_livingPeople_29 rfl rfl ?_
      exact z_iret hC hr hlk dX8_livingPeople_30 ⟨_, rfl, hw⟩
    · have hw := hw.2 c9
      refine z_aload_n hC dX8_livingPeople_12 rfl rfl ?_
      refine z_iload_n hC dX8_livingPeople_13 rfl rfl ?_
      refine z_callV (ku' := 0) (kv' := 0) (n := 1) (As := [.int v2]) (st := []) hC (c_X8_lives l G B S v0 v2 _) hw.2 hw.1 rfl lk_1034 lk_676 lk_677 lk_122 lk_678 hd_X8_lives rfl rfl (Nat.le_of_ble_eq_true rfl) (Nat.le_of_ble_eq_true rfl) rfl (Nat.le_of_ble_eq_true rfl) dX8_livingPeople_14 (Nat.le_refl 0) (Nat.le_refl 0) (kI (fun x14 S hw => ?_))
      refine z_if_eq (tgt := 23) hC dX8_livingPeople_17 (by decide) (fun c17 => ?_) (fun c17 => ?_)
      · have hw := hw.1 c17
        refine z_mask (lv' := [some (.ref v0), some (.int v1), some (.int v2)]) [true, true, true] rfl ?_
        exact t_X8_livingPeople_b23 hC hr hlk hnm (fun hw => ih hw) hw
      · have hw := hw.2 c17
        refine z_inc (i := 1) hC ic_1 dX8_livingPeople_20 rfl (by decide) (hok_v rfl rfl) (fun y20 e20 => ?_)
        have hw := hw y20 e20
        refine z_mask (lv' := [some (.ref v0), some (.int y20), some (.int v2)]) [true, true, true] rfl ?_
        exact t_X8_livingPeople_b23 hC hr hlk hnm (fun hw => ih hw) hw
def w_X8_livingPeople (q : Int32 → hS → Prop) (S : hS) (v0 : Nat) : Prop := (∃ n4 : Nat, w_X8_livingPeople_b4 q n4 S v0 0 0)
set_option maxRecDepth 100000 in
set_option maxHeartbeats 4000000 in
theorem c_X8_livingPeople (l : Launch) (G : hG) (B : Nat) (S : hS) (v0 : Nat) (q : Int32 → hS → Prop) : Met l yX8_livingPeople (hws yX8_livingPeople cX8_livingPeople 3 (Option.some FieldType.int)) ({ frames := 3, cells := 0, slots := 0, locals := 102 }) (hPc G B S [.ref v0] (w_X8_livingPeople q S v0)) (hQ G B (iP q)) (0) (0) (fun r => B ≤ r) := by
  refine hMet (rm := { frames := 3, cells := 0, slots := 0, locals := 102 }) (lv := [some (.ref v0), none, none]) (own := RX8) (fr := 3) (lo := 102) (by decide) rfl rfl rfl (Nat.le_of_ble_eq_true rfl) rfl (fun hw p e R s m args below meth c hC hr hlk hnm => ?_)
  unfold w_X8_livingPeople at hw
  refine z_iconst hC ic_0 dX8_livingPeople_0 ?_
  refine z_istore_n (i := 1) (lv' := [some (.ref v0), some (.int 0), none]) hC rfl dX8_livingPeople_1 (by decide) (hok_v rfl rfl) rfl ?_
  refine z_iconst hC ic_0 dX8_livingPeople_2 ?_
  refine z_istore_n (i := 2) (lv' := [some (.ref v0), some (.int 0), some (.int 0)]) hC rfl dX8_livingPeople_3 (by decide) (hok_v rfl rfl) rfl ?_
  refine z_mask (lv' := [some (.ref v0), some (.int 0), some (.int 0)]) [true, true, true] rfl ?_
  obtain ⟨n4, hw⟩ := hw
  exact t_X8_livingPeople_b4 hC hr hlk hnm n4 hw
end
section
variable {p : Program} {l : Launch} {e : Env} {R : Room} {s : State} {m : MethodId} {args : Array Value} {below : List Frame} {meth : Method} {c : Code} {G : hG} {B mc ms : Nat}
def w_X8_allLeftOf_b4 (q : Int32 → hS → Prop) : Nat → hS → (Nat) → (Int32) → (Int32) → (Int32) → Prop
  | 0, _, _, _, _, _ => False
  | n + 1, S, v0, v1, v2, v3 => gI S v0 8 1 (fun x6 => (x6 ≤ v3 → q v2 S) ∧ (¬ x6 ≤ v3 → oK S v0 8 ∧ w_X8_leftOf (fun x16 S => ∀ y20 : Int32, y20 = (v2 + x16) → ∀ y21 : Int32, y21 = v3 + 1 → w_X8_allLeftOf_b4 q n S v0 v1 y20 y21) S v0 v1 v3))
set_option maxRecDepth 100000 in
set_option maxHeartbeats 4000000 in
theorem t_X8_allLeftOf_b4 (hC : zC p R s m args c cX8_allLeftOf 4 RX8 G B mc ms 3 103) (hr : meth.sig.returnType = (Option.some FieldType.int)) (hlk : meth.locks = false) (hnm : meth.name = "allLeftOf") {q : Int32 → hS → Prop} (n : Nat) : ∀ {S : hS} {v0 : Nat} {v1 : Int32} {v2 : Int32} {v3 : Int32} (hw : w_X8_allLeftOf_b4 q n S v0 v1 v2 v3), Z p l e R s m args below meth c (MQ below (hQ G B (iP q)) args s mc ms (fun r => B ≤ r)) G B mc ms 4 S 0 0 4 [some (.ref v0), some (.int v1), some (.int v2), some (.int v3)] [] := by
  induction n with
  | zero => intro S v0 v1 v2 v3 hw; exact (by rw [w_X8_allLeftOf_b4] at hw; exact hw.elim)
  | succ n ih =>
    intro S v0 v1 v2 v3 hw
    rw [w_X8_allLeftOf_b4] at hw
    refine z_iload_n hC dX8_allLeftOf_4 rfl rfl ?_
    refine z_aload_n hC dX8_allLeftOf_5 rfl rfl ?_
    refine z_getI hC FX8 1 lk_205 dX8_allLeftOf_6 (by decide) hw (fun x6 hw => ?_)
    refine z_icmp_ge (tgt := 27) hC dX8_allLeftOf_9 (by decide) (fun c9 => ?_) (fun c9 => ?_)
    · have hw := hw.1 c9
      refine z_iload_n hC dX8_allLeftOf_27 rfl rfl ?_
      exact z_iret hC hr hlk dX8_allLeftOf_28 ⟨_, rfl, hw⟩
    · have hw := hw.2 c9
      refine z_iload_n hC dX8_allLeftOf_12 rfl rfl ?_
      refine z_aload_n hC dX8_allLeftOf_13 rfl rfl ?_
      refine z_iload_n hC dX8_allLeftOf_14 rfl rfl ?_
      refine z_iload_n hC dX8_allLeftOf_15 rfl rfl ?_
      refine z_callV (ku' := 0) (kv' := 0) (n := 2) (As := [.int v1, .int v3]) (st := [.int v2]) hC (c_X8_leftOf l G B S v0 v1 v3 _) hw.2 hw.1 rfl lk_1040 lk_628 lk_629 lk_122 lk_630 hd_X8_leftOf rfl rfl (Nat.le_of_ble_eq_true rfl) (Nat.le_of_ble_eq_true rfl) rfl (Nat.le_of_ble_eq_true rfl) dX8_allLeftOf_16 (Nat.le_refl 0) (Nat.le_refl 0) (kI (fun x16 S hw => ?_))
      refine z_iadd hC dX8_allLeftOf_19 ?_
      refine z_nmI (fun y20 e20 => ?_)
      have hw := hw y20 e20
      refine z_istore_n (i := 2) (lv' := [some (.ref v0), some (.int v1), some (.int y20), some (.int v3)]) hC rfl dX8_allLeftOf_20 (by decide) (hok_v rfl rfl) rfl ?_
      refine z_inc (i := 3) hC ic_1 dX8_allLeftOf_21 rfl (by decide) (hok_v rfl rfl) (fun y21 e21 => ?_)
      have hw := hw y21 e21
      refine z_goto (tgt := 4) hC dX8_allLeftOf_24 (by decide) ?_
      refine z_mask (lv' := [some (.ref v0), some (.int v1), some (.int y20), some (.int y21)]) [true, true, true, true] rfl ?_
      exact ih hw
def w_X8_allLeftOf (q : Int32 → hS → Prop) (S : hS) (v0 : Nat) (v1 : Int32) : Prop := (∃ n4 : Nat, w_X8_allLeftOf_b4 q n4 S v0 v1 0 0)
set_option maxRecDepth 100000 in
set_option maxHeartbeats 4000000 in
theorem c_X8_allLeftOf (l : Launch) (G : hG) (B : Nat) (S : hS) (v0 : Nat) (v1 : Int32) (q : Int32 → hS → Prop) : Met l yX8_allLeftOf (hws yX8_allLeftOf cX8_allLeftOf 4 (Option.some FieldType.int)) ({ frames := 3, cells := 0, slots := 0, locals := 103 }) (hPc G B S [.ref v0, .int v1] (w_X8_allLeftOf q S v0 v1)) (hQ G B (iP q)) (0) (0) (fun r => B ≤ r) := by
  refine hMet (rm := { frames := 3, cells := 0, slots := 0, locals := 103 }) (lv := [some (.ref v0), some (.int v1), none, none]) (own := RX8) (fr := 3) (lo := 103) (by decide) rfl rfl rfl (Nat.le_of_ble_eq_true rfl) rfl (fun hw p e R s m args below meth c hC hr hlk hnm => ?_)
  unfold w_X8_allLeftOf at hw
  refine z_iconst hC ic_0 dX8_allLeftOf_0 ?_
  refine z_istore_n (i := 2) (lv' := [some (.ref v0), some (.int v1), some (.int 0), none]) hC rfl dX8_allLeftOf_1 (by decide) (hok_v rfl rfl) rfl ?_
  refine z_iconst hC ic_0 dX8_allLeftOf_2 ?_
  refine z_istore_n (i := 3) (lv' := [some (.ref v0), some (.int v1), some (.int 0), some (.int 0)]) hC rfl dX8_allLeftOf_3 (by decide) (hok_v rfl rfl) rfl ?_
  refine z_mask (lv' := [some (.ref v0), some (.int v1), some (.int 0), some (.int 0)]) [true, true, true, true] rfl ?_
  obtain ⟨n4, hw⟩ := hw
  exact t_X8_allLeftOf_b4 hC hr hlk hnm n4 hw
end
section
variable {p : Program} {l : Launch} {e : Env} {R : Room} {s : State} {m : MethodId} {args : Array Value} {below : List Frame} {meth : Method} {c : Code} {G : hG} {B mc ms : Nat}
def w_X1_setWords_b103 (q : hS → Prop) (K45 : hS → (Nat) → (Nat) → (Int32) → Prop) (S : hS) (v0 : Nat) (v1 : Nat) (v2 : Int32) (t0 : Int32) (t1 : Int32) (t2 : Nat) : Prop := sI S t2 t1 t0 (fun S => ∀ y104 : Int32, y104 = v2 + 1 → K45 S v0 v1 y104)
set_option maxRecDepth 100000 in
set_option maxHeartbeats 4000000 in
theorem t_X1_setWords_b103 (hC : zC p R s m args c cX1_setWords 4 RX1 G B mc ms 4 126) (hr : meth.sig.returnType = (Option.none : Option FieldType)) (hlk : meth.locks = false) (hnm : meth.name = "setWords") {q : hS → Prop} {K45 : hS → (Nat) → (Nat) → (Int32) → Prop} (hK45 : ∀ {S : hS} {v0 : Nat} {v1 : Nat} {v2 : Int32}, K45 S v0 v1 v2 → Z p l e R s m args below meth c (MQ below (hQ G B (vP q)) args s mc ms (fun r => B ≤ r)) G B mc ms 4 S 0 0 45 [some (.ref v0), some (.ref v1), some (.int v2), none] []) {S : hS} {v0 : Nat} {v1 : Nat} {v2 : Int32} {t0 : Int32} {t1 : Int32} {t2 : Nat} (hw : w_X1_setWords_b103 q K45 S v0 v1 v2 t0 t1 t2) : Z p l e R s m args below meth c (MQ below (hQ G B (vP q)) args s mc ms (fun r => B ≤ r)) G B mc ms 4 S 0 0 103 [some (.ref v0), some (.ref v1), some (.int v2), none] [.int t0, .int t1, .ref t2] := by
  unfold w_X1_setWords_b103 at hw
  refine z_astI hC dX1_setWords_103 hw (fun S hw => ?_)
  refine z_inc (i := 2) hC ic_1 dX1_setWords_104 rfl (by decide) (hok_v rfl rfl) (fun y104 e104 => ?_)
  have hw := hw y104 e104
  refine z_goto (tgt := 45) hC dX1_setWords_107 (by decide) ?_
  refine z_mask (lv' := [some (.ref v0), some (.ref v1), some (.int y104), none]) [true, true, true, false] rfl ?_
  exact hK45 hw
def w_X1_setWords_b81 (q : hS → Prop) (K45 : hS → (Nat) → (Nat) → (Int32) → Prop) (S : hS) (v0 : Nat) (v1 : Nat) (v2 : Int32) (v3 : Int32) (t0 : Int32) (t1 : Int32) (t2 : Nat) : Prop := sI S t2 t1 t0 (fun S => gP S v0 1 2 (fun x83 => (v3 = 0 → w_X1_setWords_b103 q K45 S v0 v1 v2 (-1) (12 + v2) x83) ∧ (¬ v3 = 0 → oK S v1 8 ∧ w_X8_allLeftOf (fun x96 S => w_X1_setWords_b103 q K45 S v0 v1 v2 x96 (12 + v2) x83) S v1 v2)))
set_option maxRecDepth 100000 in
set_option maxHeartbeats 4000000 in
theorem t_X1_setWords_b81 (hC : zC p R s m args c cX1_setWords 4 RX1 G B mc ms 4 126) (hr : meth.sig.returnType = (Option.none : Option FieldType)) (hlk : meth.locks = false) (hnm : meth.name = "setWords") {q : hS → Prop} {K45 : hS → (Nat) → (Nat) → (Int32) → Prop} (hK45 : ∀ {S : hS} {v0 : Nat} {v1 : Nat} {v2 : Int32}, K45 S v0 v1 v2 → Z p l e R s m args below meth c (MQ below (hQ G B (vP q)) args s mc ms (fun r => B ≤ r)) G B mc ms 4 S 0 0 45 [some (.ref v0), some (.ref v1), some (.int v2), none] []) {S : hS} {v0 : Nat} {v1 : Nat} {v2 : Int32} {v3 : Int32} {t0 : Int32} {t1 : Int32} {t2 : Nat} (hw : w_X1_setWords_b81 q K45 S v0 v1 v2 v3 t0 t1 t2) : Z p l e R s m args below meth c (MQ below (hQ G B (vP q)) args s mc ms (fun r => B ≤ r)) G B mc ms 4 S 0 0 81 [some (.ref v0), some (.ref v1), some (.int v2), some (.int v3)] [.int t0, .int t1, .ref t2] := by
  unfold w_X1_setWords_b81 at hw
  refine z_astI hC dX1_setWords_81 hw (fun S hw => ?_)
  refine z_aload_n hC dX1_setWords_82 rfl rfl ?_
  refine z_getP hC FX1 2 lk_425 dX1_setWords_83 (by decide) hw (fun x83 hw => ?_)
  refine z_bipush hC bi_12 dX1_setWords_86 ?_
  refine z_iload_n hC dX1_setWords_88 rfl rfl ?_
  refine z_iadd hC dX1_setWords_89 ?_
  refine z_iload_n hC dX1_setWords_90 rfl rfl ?_
  refine z_if_eq (tgt := 102) hC dX1_setWords_91 (by decide) (fun c91 => ?_) (fun c91 => ?_)
  · have hw := hw.1 c91
    refine z_iconst hC ic_m1 dX1_setWords_102 ?_
    refine z_mask (lv' := [some (.ref v0), some (.ref v1), some (.int v2), none]) [true, true, true, false] rfl ?_
    exact t_X1_setWords_b103 hC hr hlk hnm hK45 hw
  · have hw := hw.2 c91
    refine z_aload_n hC dX1_setWords_94 rfl rfl ?_
    refine z_iload_n hC dX1_setWords_95 rfl rfl ?_
    refine z_callV (ku' := 0) (kv' := 0) (n := 1) (As := [.int v2]) (st := [.int (12 + v2), .ref x83]) hC (c_X8_allLeftOf l G B S v1 v2 _) hw.2 hw.1 rfl lk_1036 lk_1037 lk_1038 lk_122 lk_1039 hd_X8_allLeftOf rfl rfl (Nat.le_of_ble_eq_true rfl) (Nat.le_of_ble_eq_true rfl) rfl (Nat.le_of_ble_eq_true rfl) dX1_setWords_96 (Nat.le_refl 0) (Nat.le_refl 0) (kI (fun x96 S hw => ?_))
    refine z_goto (tgt := 103) hC dX1_setWords_99 (by decide) ?_
    refine z_mask (lv' := [some (.ref v0), some (.ref v1), some (.int v2), none]) [true, true, true, false] rfl ?_
    exact t_X1_setWords_b103 hC hr hlk hnm hK45 hw
def w_X1_setWords_b147 (q : hS → Prop) (K112 : hS → (Nat) → (Nat) → (Int32) → Prop) (S : hS) (v0 : Nat) (v1 : Nat) (v2 : Int32) (t0 : Int32) (t1 : Int32) (t2 : Nat) : Prop := sI S t2 t1 t0 (fun S => ∀ y148 : Int32, y148 = v2 + 1 → K112 S v0 v1 y148)
set_option maxRecDepth 100000 in
set_option maxHeartbeats 4000000 in
theorem t_X1_setWords_b147 (hC : zC p R s m args c cX1_setWords 4 RX1 G B mc ms 4 126) (hr : meth.sig.returnType = (Option.none : Option FieldType)) (hlk : meth.locks = false) (hnm : meth.name = "setWords") {q : hS → Prop} {K112 : hS → (Nat) → (Nat) → (Int32) → Prop} (hK112 : ∀ {S : hS} {v0 : Nat} {v1 : Nat} {v2 : Int32}, K112 S v0 v1 v2 → Z p l e R s m args below meth c (MQ below (hQ G B (vP q)) args s mc ms (fun r => B ≤ r)) G B mc ms 4 S 0 0 112 [some (.ref v0), some (.ref v1), some (.int v2), none] []) {S : hS} {v0 : Nat} {v1 : Nat} {v2 : Int32} {t0 : Int32} {t1 : Int32} {t2 : Nat} (hw : w_X1_setWords_b147 q K112 S v0 v1 v2 t0 t1 t2) : Z p l e R s m args below meth c (MQ below (hQ G B (vP q)) args s mc ms (fun r => B ≤ r)) G B mc ms 4 S 0 0 147 [some (.ref v0), some (.ref v1), some (.int v2), none] [.int t0, .int t1, .ref t2] := by
  unfold w_X1_setWords_b147 at hw
  refine z_astI hC dX1_setWords_147 hw (fun S hw => ?_)
  refine z_inc (i := 2) hC ic_1 dX1_setWords_148 rfl (by decide) (hok_v rfl rfl) (fun y148 e148 => ?_)
  have hw := hw y148 e148
  refine z_goto (tgt := 112) hC dX1_setWords_151 (by decide) ?_
  refine z_mask (lv' := [some (.ref v0), some (.ref v1), some (.int y148), none]) [true, true, true, false] rfl ?_
  exact hK112 hw
def w_X1_setWords_b112 (q : hS → Prop) : Nat → hS → (Nat) → (Nat) → (Int32) → Prop
  | 0, _, _, _, _ => False
  | n + 1, S, v0, v1, v2 => (6 ≤ v2 → q S) ∧ (¬ 6 ≤ v2 → gP S v0 1 2 (fun x119 => oK S v1 8 ∧ w_X8_hasHouse (fun x128 S => (x128 = 0 → w_X1_setWords_b147 q (fun S v0 v1 v2 => w_X1_setWords_b112 q n S v0 v1 v2) S v0 v1 v2 (-1) (20 + v2) x119) ∧ (¬ x128 = 0 → gP S v1 8 0 (fun x135 => gP S x135 2 2 (fun x138 => aI S x138 v2 (fun x142 => w_X1_setWords_b147 q (fun S v0 v1 v2 => w_X1_setWords_b112 q n S v0 v1 v2) S v0 v1 v2 x142 (20 + v2) x119))))) S v1 v2))
set_option maxRecDepth 100000 in
set_option maxHeartbeats 4000000 in
theorem t_X1_setWords_b112 (hC : zC p R s m args c cX1_setWords 4 RX1 G B mc ms 4 126) (hr : meth.sig.returnType = (Option.none : Option FieldType)) (hlk : meth.locks = false) (hnm : meth.name = "setWords") {q : hS → Prop} (n : Nat) : ∀ {S : hS} {v0 : Nat} {v1 : Nat} {v2 : Int32} (hw : w_X1_setWords_b112 q n S v0 v1 v2), Z p l e R s m args below meth c (MQ below (hQ G B (vP q)) args s mc ms (fun r => B ≤ r)) G B mc ms 4 S 0 0 112 [some (.ref v0), some (.ref v1), some (.int v2), none] [] := by
  induction n with
  | zero => intro S v0 v1 v2 hw; exact (by rw [w_X1_setWords_b112] at hw; exact hw.elim)
  | succ n ih =>
    intro S v0 v1 v2 hw
    rw [w_X1_setWords_b112] at hw
    refine z_iload_n hC dX1_setWords_112 rfl rfl ?_
    refine z_bipush hC bi_6 dX1_setWords_113 ?_
    refine z_icmp_ge (tgt := 154) hC dX1_setWords_115 (by decide) (fun c115 => ?_) (fun c115 => ?_)
    · have hw := hw.1 c115
      exact z_vret hC hr hlk dX1_setWords_154 ⟨rfl, hw⟩
    · have hw := hw.2 c115
      refine z_aload_n hC dX1_setWords_118 rfl rfl ?_
      refine z_getP hC FX1 2 lk_425 dX1_setWords_119 (by decide) hw (fun x119 hw => ?_)
      refine z_bipush hC bi_20 dX1_setWords_122 ?_
      refine z_iload_n hC dX1_setWords_124 rfl rfl ?_
      refine z_iadd hC dX1_setWords_125 ?_
      refine z_aload_n hC dX1_setWords_126 rfl rfl ?_
      refine z_iload_n hC dX1_setWords_127 rfl rfl ?_
      refine z_callV (ku' := 0) (kv' := 0) (n := 1) (As := [.int v2]) (st := [.int (20 + v2), .ref x119]) hC (c_X8_hasHouse l G B S v1 v2 _) hw.2 hw.1 rfl lk_1041 lk_601 lk_602 lk_122 lk_603 hd_X8_hasHouse rfl rfl (Nat.le_of_ble_eq_true rfl) (Nat.le_of_ble_eq_true rfl) rfl (Nat.le_of_ble_eq_true rfl) dX1_setWords_128 (Nat.le_refl 0) (Nat.le_refl 0) (kI (fun x128 S hw => ?_))
      refine z_if_eq (tgt := 146) hC dX1_setWords_131 (by decide) (fun c131 => ?_) (fun c131 => ?_)
      · have hw := hw.1 c131
        refine z_iconst hC ic_m1 dX1_setWords_146 ?_
        refine z_mask (lv' := [some (.ref v0), some (.ref v1), some (.int v2), none]) [true, true, true, false] rfl ?_
        exact t_X1_setWords_b147 hC hr hlk hnm (fun hw => ih hw) hw
      · have hw := hw.2 c131
        refine z_aload_n hC dX1_setWords_134 rfl rfl ?_
        refine z_getP hC FX8 0 lk_202 dX1_setWords_135 (by decide) hw (fun x135 hw => ?_)
        refine z_getP hC FX2 2 lk_169 dX1_setWords_138 (by decide) hw (fun x138 hw => ?_)
        refine z_iload_n hC dX1_setWords_141 rfl rfl ?_
        refine z_aldI hC dX1_setWords_142 hw (fun x142 hw => ?_)
        refine z_goto (tgt := 147) hC dX1_setWords_143 (by decide) ?_
        refine z_mask (lv' := [some (.ref v0), some (.ref v1), some (.int v2), none]) [true, true, true, false] rfl ?_
        exact t_X1_setWords_b147 hC hr hlk hnm (fun hw => ih hw) hw
def w_X1_setWords_b45 (q : hS → Prop) : Nat → hS → (Nat) → (Nat) → (Int32) → Prop
  | 0, _, _, _, _ => False
  | n + 1, S, v0, v1, v2 => (8 ≤ v2 → (∃ n112 : Nat, w_X1_setWords_b112 q n112 S v0 v1 0)) ∧ (¬ 8 ≤ v2 → oK S v1 8 ∧ w_X8_hasPerson (fun x53 S => gP S v0 1 2 (fun x58 => (x53 = 0 → w_X1_setWords_b81 q (fun S v0 v1 v2 => w_X1_setWords_b45 q n S v0 v1 v2) S v0 v1 v2 x53 (-1) (4 + v2) x58) ∧ (¬ x53 = 0 → gP S v1 8 0 (fun x69 => gP S x69 2 3 (fun x72 => aI S x72 v2 (fun x76 => w_X1_setWords_b81 q (fun S v0 v1 v2 => w_X1_setWords_b45 q n S v0 v1 v2) S v0 v1 v2 x53 x76 (4 + v2) x58)))))) S v1 v2)
set_option maxRecDepth 100000 in
set_option maxHeartbeats 4000000 in
theorem t_X1_setWords_b45 (hC : zC p R s m args c cX1_setWords 4 RX1 G B mc ms 4 126) (hr : meth.sig.returnType = (Option.none : Option FieldType)) (hlk : meth.locks = false) (hnm : meth.name = "setWords") {q : hS → Prop} (n : Nat) : ∀ {S : hS} {v0 : Nat} {v1 : Nat} {v2 : Int32} (hw : w_X1_setWords_b45 q n S v0 v1 v2), Z p l e R s m args below meth c (MQ below (hQ G B (vP q)) args s mc ms (fun r => B ≤ r)) G B mc ms 4 S 0 0 45 [some (.ref v0), some (.ref v1), some (.int v2), none] [] := by
  induction n with
  | zero => intro S v0 v1 v2 hw; exact (by rw [w_X1_setWords_b45] at hw; exact hw.elim)
  | succ n ih =>
    intro S v0 v1 v2 hw
    rw [w_X1_setWords_b45] at hw
    refine z_iload_n hC dX1_setWords_45 rfl rfl ?_
    refine z_bipush hC bi_8 dX1_setWords_46 ?_
    refine z_icmp_ge (tgt := 110) hC dX1_setWords_48 (by decide) (fun c48 => ?_) (fun c48 => ?_)
    · have hw := hw.1 c48
      refine z_iconst hC ic_0 dX1_setWords_110 ?_
      refine z_istore_n (i := 2) (lv' := [some (.ref v0), some (.ref v1), some (.int 0), none]) hC rfl dX1_setWords_111 (by decide) (hok_v rfl rfl) rfl ?_
      refine z_mask (lv' := [some (.ref v0), some (.ref v1), some (.int 0), none]) [true, true, true, false] rfl ?_
      obtain ⟨n112, hw⟩ := hw
      exact t_X1_setWords_b112 hC hr hlk hnm n112 hw
    · have hw := hw.2 c48
      refine z_aload_n hC dX1_setWords_51 rfl rfl ?_
      refine z_iload_n hC dX1_setWords_52 rfl rfl ?_
      refine z_callV (ku' := 0) (kv' := 0) (n := 1) (As := [.int v2]) (st := []) hC (c_X8_hasPerson l G B S v1 v2 _) hw.2 hw.1 rfl lk_1035 lk_613 lk_614 lk_122 lk_615 hd_X8_hasPerson rfl rfl (Nat.le_of_ble_eq_true rfl) (Nat.le_of_ble_eq_true rfl) rfl (Nat.le_of_ble_eq_true rfl) dX1_setWords_53 (Nat.le_refl 0) (Nat.le_refl 0) (kI (fun x53 S hw => ?_))
      refine z_istore_n (i := 3) (lv' := [some (.ref v0), some (.ref v1), some (.int v2), some (.int x53)]) hC rfl dX1_setWords_56 (by decide) (hok_v rfl rfl) rfl ?_
      refine z_aload_n hC dX1_setWords_57 rfl rfl ?_
      refine z_getP hC FX1 2 lk_425 dX1_setWords_58 (by decide) hw (fun x58 hw => ?_)
      refine z_iconst hC ic_4 dX1_setWords_61 ?_
      refine z_iload_n hC dX1_setWords_62 rfl rfl ?_
      refine z_iadd hC dX1_setWords_63 ?_
      refine z_iload_n hC dX1_setWords_64 rfl rfl ?_
      refine z_if_eq (tgt := 80) hC dX1_setWords_65 (by decide) (fun c65 => ?_) (fun c65 => ?_)
      · have hw := hw.1 c65
        refine z_iconst hC ic_m1 dX1_setWords_80 ?_
        refine z_mask (lv' := [some (.ref v0), some (.ref v1), some (.int v2), some (.int x53)]) [true, true, true, true] rfl ?_
        exact t_X1_setWords_b81 hC hr hlk hnm (fun hw => ih hw) hw
      · have hw := hw.2 c65
        refine z_aload_n hC dX1_setWords_68 rfl rfl ?_
        refine z_getP hC FX8 0 lk_202 dX1_setWords_69 (by decide) hw (fun x69 hw => ?_)
        refine z_getP hC FX2 3 lk_174 dX1_setWords_72 (by decide) hw (fun x72 hw => ?_)
        refine z_iload_n hC dX1_setWords_75 rfl rfl ?_
        refine z_aldI hC dX1_setWords_76 hw (fun x76 hw => ?_)
        refine z_goto (tgt := 81) hC dX1_setWords_77 (by decide) ?_
        refine z_mask (lv' := [some (.ref v0), some (.ref v1), some (.int v2), some (.int x53)]) [true, true, true, true] rfl ?_
        exact t_X1_setWords_b81 hC hr hlk hnm (fun hw => ih hw) hw
def w_X1_setWords (q : hS → Prop) (S : hS) (v0 : Nat) (v1 : Nat) : Prop := gP S v0 1 2 (fun x1 => gP S v1 8 0 (fun x6 => gI S x6 2 5 (fun x9 => sI S x1 0 x9 (fun S => gP S v0 1 2 (fun x14 => gI S v0 1 5 (fun x19 => sI S x14 1 x19 (fun S => gP S v0 1 2 (fun x24 => gI S v0 1 3 (fun x29 => sI S x24 2 x29 (fun S => gP S v0 1 2 (fun x34 => oK S v1 8 ∧ w_X8_livingPeople (fun x39 S => sI S x34 3 x39 (fun S => (∃ n45 : Nat, w_X1_setWords_b45 q n45 S v0 v1 0))) S v1)))))))))))
set_option maxRecDepth 100000 in
set_option maxHeartbeats 4000000 in
theorem c_X1_setWords (l : Launch) (G : hG) (B : Nat) (S : hS) (v0 : Nat) (v1 : Nat) (q : hS → Prop) : Met l yX1_setWords (hws yX1_setWords cX1_setWords 4 (Option.none : Option FieldType)) ({ frames := 4, cells := 0, slots := 0, locals := 126 }) (hPc G B S [.ref v0, .ref v1] (w_X1_setWords q S v0 v1)) (hQ G B (vP q)) (0) (0) (fun r => B ≤ r) := by
  refine hMet (rm := { frames := 4, cells := 0, slots := 0, locals := 126 }) (lv := [some (.ref v0), some (.ref v1), none, none]) (own := RX1) (fr := 4) (lo := 126) (by decide) rfl rfl rfl (Nat.le_of_ble_eq_true rfl) rfl (fun hw p e R s m args below meth c hC hr hlk hnm => ?_)
  unfold w_X1_setWords at hw
  refine z_aload_n hC dX1_setWords_0 rfl rfl ?_
  refine z_getP hC FX1 2 lk_425 dX1_setWords_1 (by decide) hw (fun x1 hw => ?_)
  refine z_iconst hC ic_0 dX1_setWords_4 ?_
  refine z_aload_n hC dX1_setWords_5 rfl rfl ?_
  refine z_getP hC FX8 0 lk_202 dX1_setWords_6 (by decide) hw (fun x6 hw => ?_)
  refine z_getI hC FX2 5 lk_183 dX1_setWords_9 (by decide) hw (fun x9 hw => ?_)
  refine z_astI hC dX1_setWords_12 hw (fun S hw => ?_)
  refine z_aload_n hC dX1_setWords_13 rfl rfl ?_
  refine z_getP hC FX1 2 lk_425 dX1_setWords_14 (by decide) hw (fun x14 hw => ?_)
  refine z_iconst hC ic_1 dX1_setWords_17 ?_
  refine z_aload_n hC dX1_setWords_18 rfl rfl ?_
  refine z_getI hC FX1 5 lk_428 dX1_setWords_19 (by decide) hw (fun x19 hw => ?_)
  refine z_astI hC dX1_setWords_22 hw (fun S hw => ?_)
  refine z_aload_n hC dX1_setWords_23 rfl rfl ?_
  refine z_getP hC FX1 2 lk_425 dX1_setWords_24 (by decide) hw (fun x24 hw => ?_)
  refine z_iconst hC ic_2 dX1_setWords_27 ?_
  refine z_aload_n hC dX1_setWords_28 rfl rfl ?_
  refine z_getI hC FX1 3 lk_426 dX1_setWords_29 (by decide) hw (fun x29 hw => ?_)
  refine z_astI hC dX1_setWords_32 hw (fun S hw => ?_)
  refine z_aload_n hC dX1_setWords_33 rfl rfl ?_
  refine z_getP hC FX1 2 lk_425 dX1_setWords_34 (by decide) hw (fun x34 hw => ?_)
  refine z_iconst hC ic_3 dX1_setWords_37 ?_
  refine z_aload_n hC dX1_setWords_38 rfl rfl ?_
  refine z_callV (ku' := 0) (kv' := 0) (n := 0) (As := []) (st := [.int 3, .ref x34]) hC (c_X8_livingPeople l G B S v1 _) hw.2 hw.1 rfl lk_1030 lk_1031 lk_1032 lk_122 lk_1033 hd_X8_livingPeople rfl rfl (Nat.le_of_ble_eq_true rfl) (Nat.le_of_ble_eq_true rfl) rfl (Nat.le_of_ble_eq_true rfl) dX1_setWords_39 (Nat.le_refl 0) (Nat.le_refl 0) (kI (fun x39 S hw => ?_))
  refine z_astI hC dX1_setWords_42 hw (fun S hw => ?_)
  refine z_iconst hC ic_0 dX1_setWords_43 ?_
  refine z_istore_n (i := 2) (lv' := [some (.ref v0), some (.ref v1), some (.int 0), none]) hC rfl dX1_setWords_44 (by decide) (hok_v rfl rfl) rfl ?_
  refine z_mask (lv' := [some (.ref v0), some (.ref v1), some (.int 0), none]) [true, true, true, false] rfl ?_
  obtain ⟨n45, hw⟩ := hw
  exact t_X1_setWords_b45 hC hr hlk hnm n45 hw
end
section
variable {p : Program} {l : Launch} {e : Env} {R : Room} {s : State} {m : MethodId} {args : Array Value} {below : List Frame} {meth : Method} {c : Code} {G : hG} {B mc ms : Nat}
def w_X1_run_b249 (q : Int32 → hS → Prop) (K13 : hS → Nat → (Nat) → (Nat) → (Nat) → (Option Nat) → (Int32) → Prop) (K25 : hS → Nat → (Nat) → (Nat) → (Nat) → (Option Nat) → (Int32) → (Int32) → Prop) (S : hS) (u : Nat) (v0 : Nat) (v1 : Nat) (v2 : Nat) (v3 : Option Nat) (v4 : Int32) (v5 : Int32) : Prop := ∀ y249 : Int32, y249 = v5 + 1 → K25 S u v0 v1 v2 v3 v4 y249
set_option maxRecDepth 100000 in
set_option maxHeartbeats 4000000 in
theorem t_X1_run_b249 (hC : zC p R s m args c cX1_run 10 RX1 G B mc ms 7 215) (hr : meth.sig.returnType = (Option.some FieldType.int)) (hlk : meth.locks = false) (hnm : meth.name = "run") {q : Int32 → hS → Prop} {K13 : hS → Nat → (Nat) → (Nat) → (Nat) → (Option Nat) → (Int32) → Prop} (hK13 : ∀ {S : hS} {u : Nat} {v0 : Nat} {v1 : Nat} {v2 : Nat} {v3 : Option Nat} {v4 : Int32}, K13 S u v0 v1 v2 v3 v4 → Z p l e R s m args below meth c (MQ below (hQ G B (iP q)) args s mc ms (fun r => B ≤ r)) G B mc ms 10 S (5 * u) (116 * u) 13 [some (.ref v0), some (.ref v1), some (.ref v2), some (va_rf v3), some (.int v4), none, none, none, none, none] []) {K25 : hS → Nat → (Nat) → (Nat) → (Nat) → (Option Nat) → (Int32) → (Int32) → Prop} (hK25 : ∀ {S : hS} {u : Nat} {v0 : Nat} {v1 : Nat} {v2 : Nat} {v3 : Option Nat} {v4 : Int32} {v5 : Int32}, K25 S u v0 v1 v2 v3 v4 v5 → Z p l e R s m args below meth c (MQ below (hQ G B (iP q)) args s mc ms (fun r => B ≤ r)) G B mc ms 10 S (5 * u) (116 * u) 25 [some (.ref v0), some (.ref v1), some (.ref v2), some (va_rf v3), some (.int v4), some (.int v5), none, none, none, none] []) {S : hS} {u : Nat} {v0 : Nat} {v1 : Nat} {v2 : Nat} {v3 : Option Nat} {v4 : Int32} {v5 : Int32} (hw : w_X1_run_b249 q K13 K25 S u v0 v1 v2 v3 v4 v5) : Z p l e R s m args below meth c (MQ below (hQ G B (iP q)) args s mc ms (fun r => B ≤ r)) G B mc ms 10 S (5 * u) (116 * u) 249 [some (.ref v0), some (.ref v1), some (.ref v2), some (va_rf v3), some (.int v4), some (.int v5), none, none, none, none] [] := by
  unfold w_X1_run_b249 at hw
  refine z_inc (i := 5) hC ic_1 dX1_run_249 rfl (by decide) (hok_v rfl rfl) (fun y249 e249 => ?_)
  have hw := hw y249 e249
  refine z_goto (tgt := 25) hC dX1_run_252 (by decide) ?_
  refine z_mask (lv' := [some (.ref v0), some (.ref v1), some (.ref v2), some (va_rf v3), some (.int v4), some (.int y249), none, none, none, none]) [true, true, true, true, true, true, false, false, false, false] rfl ?_
  exact hK25 hw
def w_X1_run_b231 (q : Int32 → hS → Prop) (K13 : hS → Nat → (Nat) → (Nat) → (Nat) → (Option Nat) → (Int32) → Prop) (K25 : hS → Nat → (Nat) → (Nat) → (Nat) → (Option Nat) → (Int32) → (Int32) → Prop) (S : hS) (u : Nat) (v0 : Nat) (v1 : Nat) (v2 : Nat) (v3 : Option Nat) (v4 : Int32) (v5 : Int32) (v9 : Int32) : Prop := (0 ≤ v9 → gI S v0 1 5 (fun x241 => pI S v0 1 5 (x241 + 1) (fun S => w_X1_run_b249 q K13 K25 S u v0 v1 v2 v3 v4 v5))) ∧ (¬ 0 ≤ v9 → q v4 S)
set_option maxRecDepth 100000 in
set_option maxHeartbeats 4000000 in
theorem t_X1_run_b231 (hC : zC p R s m args c cX1_run 10 RX1 G B mc ms 7 215) (hr : meth.sig.returnType = (Option.some FieldType.int)) (hlk : meth.locks = false) (hnm : meth.name = "run") {q : Int32 → hS → Prop} {K13 : hS → Nat → (Nat) → (Nat) → (Nat) → (Option Nat) → (Int32) → Prop} (hK13 : ∀ {S : hS} {u : Nat} {v0 : Nat} {v1 : Nat} {v2 : Nat} {v3 : Option Nat} {v4 : Int32}, K13 S u v0 v1 v2 v3 v4 → Z p l e R s m args below meth c (MQ below (hQ G B (iP q)) args s mc ms (fun r => B ≤ r)) G B mc ms 10 S (5 * u) (116 * u) 13 [some (.ref v0), some (.ref v1), some (.ref v2), some (va_rf v3), some (.int v4), none, none, none, none, none] []) {K25 : hS → Nat → (Nat) → (Nat) → (Nat) → (Option Nat) → (Int32) → (Int32) → Prop} (hK25 : ∀ {S : hS} {u : Nat} {v0 : Nat} {v1 : Nat} {v2 : Nat} {v3 : Option Nat} {v4 : Int32} {v5 : Int32}, K25 S u v0 v1 v2 v3 v4 v5 → Z p l e R s m args below meth c (MQ below (hQ G B (iP q)) args s mc ms (fun r => B ≤ r)) G B mc ms 10 S (5 * u) (116 * u) 25 [some (.ref v0), some (.ref v1), some (.ref v2), some (va_rf v3), some (.int v4), some (.int v5), none, none, none, none] []) {S : hS} {u : Nat} {v0 : Nat} {v1 : Nat} {v2 : Nat} {v3 : Option Nat} {v4 : Int32} {v5 : Int32} {v9 : Int32} (hw : w_X1_run_b231 q K13 K25 S u v0 v1 v2 v3 v4 v5 v9) : Z p l e R s m args below meth c (MQ below (hQ G B (iP q)) args s mc ms (fun r => B ≤ r)) G B mc ms 10 S (5 * u) (116 * u) 231 [some (.ref v0), some (.ref v1), some (.ref v2), some (va_rf v3), some (.int v4), some (.int v5), none, none, none, some (.int v9)] [] := by
  unfold w_X1_run_b231 at hw
  refine z_iload hC dX1_run_231 rfl ?_
  refine z_if_ge (tgt := 239) hC dX1_run_233 (by decide) (fun c233 => ?_) (fun c233 => ?_)
  · have hw := hw.1 c233
    refine z_aload_n hC dX1_run_239 rfl rfl ?_
    refine z_dup hC rfl dX1_run_240 ?_
    refine z_getI hC FX1 5 lk_428 dX1_run_241 (by decide) hw (fun x241 hw => ?_)
    refine z_iconst hC ic_1 dX1_run_244 ?_
    refine z_iadd hC dX1_run_245 ?_
    refine z_putI hC FX1 5 lk_428 dX1_run_246 (by decide) rfl rfl hw (fun S hw => ?_)
    refine z_mask (lv' := [some (.ref v0), some (.ref v1), some (.ref v2), some (va_rf v3), some (.int v4), some (.int v5), none, none, none, none]) [true, true, true, true, true, true, false, false, false, false] rfl ?_
    exact t_X1_run_b249 hC hr hlk hnm hK13 hK25 hw
  · have hw := hw.2 c233
    refine z_iload hC dX1_run_236 rfl ?_
    exact z_iret hC hr hlk dX1_run_238 ⟨_, rfl, hw⟩
def w_X1_run_b25 (q : Int32 → hS → Prop) (K13 : hS → Nat → (Nat) → (Nat) → (Nat) → (Option Nat) → (Int32) → Prop) : Nat → hS → Nat → (Nat) → (Nat) → (Nat) → (Option Nat) → (Int32) → (Int32) → Prop
  | 0, _, _, _, _, _, _, _, _ => False
  | n + 1, S, u, v0, v1, v2, v3, v4, v5 => gP S v1 10 4 (fun x28 => aI S x28 v4 (fun x33 => (x33 ≤ v5 → ∀ y255 : Int32, y255 = v4 + 1 → K13 S u v0 v1 v2 v3 y255) ∧ (¬ x33 ≤ v5 → oK S v0 1 ∧ w_X1_setWords (fun S => gP S v0 1 1 (fun x43 => gP S v0 1 2 (fun x51 => oK S x43 6 ∧ w_X6_weigh (fun x54 S => (x54 = 1 → gP S v0 1 1 (fun x65 => gP S v0 1 2 (fun x73 => oK S x65 6 ∧ w_X6_weigh (fun x76 S => gP S v0 1 1 (fun x82 => gP S v0 1 2 (fun x90 => oK S x82 6 ∧ w_X6_weigh (fun x93 S => gP S v0 1 1 (fun x99 => gP S v0 1 2 (fun x107 => oK S x99 6 ∧ w_X6_weigh (fun x110 S => (x76 = 2000000000 → q v4 S) ∧ (¬ x76 = 2000000000 → (x93 = 2000000000 → q v4 S) ∧ (¬ x93 = 2000000000 → (¬ x110 = 2000000000 → gP S v1 10 3 (fun x140 => aI S x140 v4 (fun x145 => ∀ y146 : Int32, y146 = x145 → ((y146.toInt = 0 → ∃ f179 g179 : Nat, u = f179 + g179 ∧ oK S v0 1 ∧ w_X1_ringBell (fun x179 S => pI S v0 1 3 x179 (fun S => w_X1_run_b231 q K13 (fun S u v0 v1 v2 v3 v4 v5 => w_X1_run_b25 q K13 n S u v0 v1 v2 v3 v4 v5) S g179 v0 v1 v2 v3 v4 v5 x179)) S f179 v0 v2 v3 x76 x93) ∧ (y146.toInt = 1 → ∃ f202 g202 : Nat, u = f202 + g202 ∧ oK S v0 1 ∧ w_X1_sellRing (fun x202 S => w_X1_run_b231 q K13 (fun S u v0 v1 v2 v3 v4 v5 => w_X1_run_b25 q K13 n S u v0 v1 v2 v3 v4 v5) S g202 v0 v1 v2 v3 v4 v5 x202) S f202 v0 v2 v3 x76 x93 x110) ∧ (y146.toInt = 2 → ∃ f215 g215 : Nat, u = f215 + g215 ∧ oK S v0 1 ∧ w_X1_bury (fun x215 S => w_X1_run_b231 q K13 (fun S u v0 v1 v2 v3 v4 v5 => w_X1_run_b25 q K13 n S u v0 v1 v2 v3 v4 v5) S g215 v0 v1 v2 v3 v4 v5 x215) S f215 v0 v2 v3 x76) ∧ ((y146.toInt < 0 ∨ 2 < y146.toInt) → ∃ f226 g226 : Nat, u = f226 + g226 ∧ oK S v0 1 ∧ w_X1_turnYear (fun x226 S => w_X1_run_b231 q K13 (fun S u v0 v1 v2 v3 v4 v5 => w_X1_run_b25 q K13 n S u v0 v1 v2 v3 v4 v5) S g226 v0 v1 v2 v3 v4 v5 x226) S f226 v0 v2 v3))))) ∧ (x110 = 2000000000 → q v4 S)))) S x99 v1 v4 2 x107))) S x82 v1 v4 1 x90))) S x65 v1 v4 0 x73))) ∧ (¬ x54 = 1 → w_X1_run_b249 q K13 (fun S u v0 v1 v2 v3 v4 v5 => w_X1_run_b25 q K13 n S u v0 v1 v2 v3 v4 v5) S u v0 v1 v2 v3 v4 v5)) S x43 v1 v4 3 x51))) S v0 v2)))
set_option maxRecDepth 100000 in
set_option maxHeartbeats 4000000 in
theorem t_X1_run_b25 (hC : zC p R s m args c cX1_run 10 RX1 G B mc ms 7 215) (hr : meth.sig.returnType = (Option.some FieldType.int)) (hlk : meth.locks = false) (hnm : meth.name = "run") {q : Int32 → hS → Prop} {K13 : hS → Nat → (Nat) → (Nat) → (Nat) → (Option Nat) → (Int32) → Prop} (hK13 : ∀ {S : hS} {u : Nat} {v0 : Nat} {v1 : Nat} {v2 : Nat} {v3 : Option Nat} {v4 : Int32}, K13 S u v0 v1 v2 v3 v4 → Z p l e R s m args below meth c (MQ below (hQ G B (iP q)) args s mc ms (fun r => B ≤ r)) G B mc ms 10 S (5 * u) (116 * u) 13 [some (.ref v0), some (.ref v1), some (.ref v2), some (va_rf v3), some (.int v4), none, none, none, none, none] []) (n : Nat) : ∀ {S : hS} {u : Nat} {v0 : Nat} {v1 : Nat} {v2 : Nat} {v3 : Option Nat} {v4 : Int32} {v5 : Int32} (hw : w_X1_run_b25 q K13 n S u v0 v1 v2 v3 v4 v5), Z p l e R s m args below meth c (MQ below (hQ G B (iP q)) args s mc ms (fun r => B ≤ r)) G B mc ms 10 S (5 * u) (116 * u) 25 [some (.ref v0), some (.ref v1), some (.ref v2), some (va_rf v3), some (.int v4), some (.int v5), none, none, none, none] [] := by
  induction n with
  | zero => intro S u v0 v1 v2 v3 v4 v5 hw; exact (by rw [w_X1_run_b25] at hw; exact hw.elim)
  | succ n ih =>
    intro S u v0 v1 v2 v3 v4 v5 hw
    rw [w_X1_run_b25] at hw
    refine z_iload hC dX1_run_25 rfl ?_
    refine z_aload_n hC dX1_run_27 rfl rfl ?_
    refine z_getP hC FX10 4 lk_358 dX1_run_28 (by decide) hw (fun x28 hw => ?_)
    refine z_iload hC dX1_run_31 rfl ?_
    refine z_aldI hC dX1_run_33 hw (fun x33 hw => ?_)
    refine z_icmp_ge (tgt := 255) hC dX1_run_34 (by decide) (fun c34 => ?_) (fun c34 => ?_)
    · have hw := hw.1 c34
      refine z_inc (i := 4) hC ic_1 dX1_run_255 rfl (by decide) (hok_v rfl (va_rf_cat _)) (fun y255 e255 => ?_)
      have hw := hw y255 e255
      refine z_goto (tgt := 13) hC dX1_run_258 (by decide) ?_
      refine z_mask (lv' := [some (.ref v0), some (.ref v1), some (.ref v2), some (va_rf v3), some (.int y255), none, none, none, none, none]) [true, true, true, true, true, false, false, false, false, false] rfl ?_
      exact hK13 hw
    · have hw := hw.2 c34
      refine z_aload_n hC dX1_run_37 rfl rfl ?_
      refine z_aload_n hC dX1_run_38 rfl rfl ?_
      refine z_callV (ku' := (5 * u)) (kv' := (116 * u)) (n := 1) (As := [.ref v2]) (st := []) hC (c_X1_setWords l G B S v0 v2 _) hw.2 hw.1 rfl lk_1026 lk_1028 lk_28 lk_130 lk_1029 hd_X1_setWords rfl rfl (Nat.le_of_ble_eq_true rfl) (Nat.le_of_ble_eq_true rfl) rfl (Nat.le_of_ble_eq_true rfl) dX1_run_39 (Nat.le_refl _) (Nat.le_refl _) (kV (fun S hw => ?_))
      refine z_aload_n hC dX1_run_42 rfl rfl ?_
      refine z_getP hC FX1 1 lk_424 dX1_run_43 (by decide) hw (fun x43 hw => ?_)
      refine z_aload_n hC dX1_run_46 rfl rfl ?_
      refine z_iload hC dX1_run_47 rfl ?_
      refine z_iconst hC ic_3 dX1_run_49 ?_
      refine z_aload_n hC dX1_run_50 rfl rfl ?_
      refine z_getP hC FX1 2 lk_425 dX1_run_51 (by decide) hw (fun x51 hw => ?_)
      refine z_callV (ku' := (5 * u)) (kv' := (116 * u)) (n := 4) (As := [.ref v1, .int v4, .int 3, .ref x51]) (st := []) hC (c_X6_weigh l G B S x43 v1 v4 3 x51 _) hw.2 hw.1 rfl lk_1042 lk_640 lk_641 lk_129 lk_642 hd_X6_weigh rfl rfl (Nat.le_of_ble_eq_true rfl) (Nat.le_of_ble_eq_true rfl) rfl (Nat.le_of_ble_eq_true rfl) dX1_run_54 (Nat.le_refl _) (Nat.le_refl _) (kI (fun x54 S hw => ?_))
      refine z_iconst hC ic_1 dX1_run_57 ?_
      refine z_icmp_eq (tgt := 64) hC dX1_run_58 (by decide) (fun c58 => ?_) (fun c58 => ?_)
      · have hw := hw.1 c58
        refine z_aload_n hC dX1_run_64 rfl rfl ?_
        refine z_getP hC FX1 1 lk_424 dX1_run_65 (by decide) hw (fun x65 hw => ?_)
        refine z_aload_n hC dX1_run_68 rfl rfl ?_
        refine z_iload hC dX1_run_69 rfl ?_
        refine z_iconst hC ic_0 dX1_run_71 ?_
        refine z_aload_n hC dX1_run_72 rfl rfl ?_
        refine z_getP hC FX1 2 lk_425 dX1_run_73 (by decide) hw (fun x73 hw => ?_)
        refine z_callV (ku' := (5 * u)) (kv' := (116 * u)) (n := 4) (As := [.ref v1, .int v4, .int 0, .ref x73]) (st := []) hC (c_X6_weigh l G B S x65 v1 v4 0 x73 _) hw.2 hw.1 rfl lk_1042 lk_640 lk_641 lk_129 lk_642 hd_X6_weigh rfl rfl (Nat.le_of_ble_eq_true rfl) (Nat.le_of_ble_eq_true rfl) rfl (Nat.le_of_ble_eq_true rfl) dX1_run_76 (Nat.le_refl _) (Nat.le_refl _) (kI (fun x76 S hw => ?_))
        refine z_istore (i := 6) (lv' := [some (.ref v0), some (.ref v1), some (.ref v2), some (va_rf v3), some (.int v4), some (.int v5), some (.int x76), none, none, none]) hC dX1_run_79 (by decide) (hok_v rfl rfl) rfl ?_
        refine z_aload_n hC dX1_run_81 rfl rfl ?_
        refine z_getP hC FX1 1 lk_424 dX1_run_82 (by decide) hw (fun x82 hw => ?_)
        refine z_aload_n hC dX1_run_85 rfl rfl ?_
        refine z_iload hC dX1_run_86 rfl ?_
        refine z_iconst hC ic_1 dX1_run_88 ?_
        refine z_aload_n hC dX1_run_89 rfl rfl ?_
        refine z_getP hC FX1 2 lk_425 dX1_run_90 (by decide) hw (fun x90 hw => ?_)
        refine z_callV (ku' := (5 * u)) (kv' := (116 * u)) (n := 4) (As := [.ref v1, .int v4, .int 1, .ref x90]) (st := []) hC (c_X6_weigh l G B S x82 v1 v4 1 x90 _) hw.2 hw.1 rfl lk_1042 lk_640 lk_641 lk_129 lk_642 hd_X6_weigh rfl rfl (Nat.le_of_ble_eq_true rfl) (Nat.le_of_ble_eq_true rfl) rfl (Nat.le_of_ble_eq_true rfl) dX1_run_93 (Nat.le_refl _) (Nat.le_refl _) (kI (fun x93 S hw => ?_))
        refine z_istore (i := 7) (lv' := [some (.ref v0), some (.ref v1), some (.ref v2), some (va_rf v3), some (.int v4), some (.int v5), some (.int x76), some (.int x93), none, none]) hC dX1_run_96 (by decide) (hok_v rfl rfl) rfl ?_
        refine z_aload_n hC dX1_run_98 rfl rfl ?_
        refine z_getP hC FX1 1 lk_424 dX1_run_99 (by decide) hw (fun x99 hw => ?_)
        refine z_aload_n hC dX1_run_102 rfl rfl ?_
        refine z_iload hC dX1_run_103 rfl ?_
        refine z_iconst hC ic_2 dX1_run_105 ?_
        refine z_aload_n hC dX1_run_106 rfl rfl ?_
        refine z_getP hC FX1 2 lk_425 dX1_run_107 (by decide) hw (fun x107 hw => ?_)
        refine z_callV (ku' := (5 * u)) (kv' := (116 * u)) (n := 4) (As := [.ref v1, .int v4, .int 2, .ref x107]) (st := []) hC (c_X6_weigh l G B S x99 v1 v4 2 x107 _) hw.2 hw.1 rfl lk_1042 lk_640 lk_641 lk_129 lk_642 hd_X6_weigh rfl rfl (Nat.le_of_ble_eq_true rfl) (Nat.le_of_ble_eq_true rfl) rfl (Nat.le_of_ble_eq_true rfl) dX1_run_110 (Nat.le_refl _) (Nat.le_refl _) (kI (fun x110 S hw => ?_))
        refine z_istore (i := 8) (lv' := [some (.ref v0), some (.ref v1), some (.ref v2), some (va_rf v3), some (.int v4), some (.int v5), some (.int x76), some (.int x93), some (.int x110), none]) hC dX1_run_113 (by decide) (hok_v rfl rfl) rfl ?_
        refine z_iload hC dX1_run_115 rfl ?_
        refine z_ldc hC lk_1043 dX1_run_117 ?_
        refine z_icmp_eq (tgt := 136) hC dX1_run_119 (by decide) (fun c119 => ?_) (fun c119 => ?_)
        · have hw := hw.1 c119
          refine z_iload hC dX1_run_136 rfl ?_
          exact z_iret hC hr hlk dX1_run_138 ⟨_, rfl, hw⟩
        · have hw := hw.2 c119
          refine z_iload hC dX1_run_122 rfl ?_
          refine z_ldc hC lk_1043 dX1_run_124 ?_
          refine z_icmp_eq (tgt := 136) hC dX1_run_126 (by decide) (fun c126 => ?_) (fun c126 => ?_)
          · have hw := hw.1 c126
            refine z_iload hC dX1_run_136 rfl ?_
            exact z_iret hC hr hlk dX1_run_138 ⟨_, rfl, hw⟩
          · have hw := hw.2 c126
            refine z_iload hC dX1_run_129 rfl ?_
            refine z_ldc hC lk_1043 dX1_run_131 ?_
            refine z_icmp_ne (tgt := 139) hC dX1_run_133 (by decide) (fun c133 => ?_) (fun c133 => ?_)
            · have hw := hw.1 c133
              refine z_aload_n hC dX1_run_139 rfl rfl ?_
              refine z_getP hC FX10 3 lk_356 dX1_run_140 (by decide) hw (fun x140 hw => ?_)
              refine z_iload hC dX1_run_143 rfl ?_
              refine z_aldI hC dX1_run_145 hw (fun x145 hw => ?_)
              refine z_nmI (fun y146 e146 => ?_)
              have hw := hw y146 e146
              by_cases q146_0 : y146.toInt = 0
              · have hw := hw.1 q146_0
                refine z_tabIn (tgt := 172) (off := 26) hC 0 dX1_run_146 q146_0 (by decide) rfl (by decide) ?_
                refine z_aload_n hC dX1_run_172 rfl rfl ?_
                refine z_aload_n hC dX1_run_173 rfl rfl ?_
                refine z_qload_n hC dX1_run_174 rfl rfl ?_
                refine z_iload hC dX1_run_175 rfl ?_
                refine z_iload hC dX1_run_177 rfl ?_
                obtain ⟨f179, g179, eu179, hu179⟩ := hw
                subst eu179
                have hw := hu179
                refine z_callV (ku' := (5 * g179)) (kv' := (116 * g179)) (n := 4) (As := [.ref v2, va_rf v3, .int x76, .int x93]) (st := []) hC (c_X1_ringBell l G B S f179 v0 v2 v3 x76 x93 _) hw.2 hw.1 rfl lk_1044 lk_1045 lk_1046 lk_130 lk_1047 hd_X1_ringBell rfl rfl (Nat.le_of_ble_eq_true rfl) (Nat.le_of_ble_eq_true rfl) rfl (Nat.le_of_ble_eq_true rfl) dX1_run_179 (by omega) (by omega) (kI (fun x179 S hw => ?_))
                refine z_istore (i := 9) (lv' := [some (.ref v0), some (.ref v1), some (.ref v2), some (va_rf v3), some (.int v4), some (.int v5), some (.int x76), some (.int x93), some (.int x110), some (.int x179)]) hC dX1_run_182 (by decide) (hok_v rfl rfl) rfl ?_
                refine z_aload_n hC dX1_run_184 rfl rfl ?_
                refine z_iload hC dX1_run_185 rfl ?_
                refine z_putI hC FX1 3 lk_426 dX1_run_187 (by decide) rfl rfl hw (fun S hw => ?_)
                refine z_goto (tgt := 231) hC dX1_run_190 (by decide) ?_
                refine z_mask (lv' := [some (.ref v0), some (.ref v1), some (.ref v2), some (va_rf v3), some (.int v4), some (.int v5), none, none, none, some (.int x179)]) [true, true, true, true, true, true, false, false, false, true] rfl ?_
                exact t_X1_run_b231 hC hr hlk hnm hK13 (fun hw => ih hw) hw
              by_cases q146_1 : y146.toInt = 1
              · have hw := hw.2.1 q146_1
                refine z_tabIn (tgt := 193) (off := 47) hC 1 dX1_run_146 q146_1 (by decide) rfl (by decide) ?_
                refine z_aload_n hC dX1_run_193 rfl rfl ?_
                refine z_aload_n hC dX1_run_194 rfl rfl ?_
                refine z_qload_n hC dX1_run_195 rfl rfl ?_
                refine z_iload hC dX1_run_196 rfl ?_
                refine z_iload hC dX1_run_198 rfl ?_
                refine z_iload hC dX1_run_200 rfl ?_
                obtain ⟨f202, g202, eu202, hu202⟩ := hw
                subst eu202
                have hw := hu202
                refine z_callV (ku' := (5 * g202)) (kv' := (116 * g202)) (n := 5) (As := [.ref v2, va_rf v3, .int x76, .int x93, .int x110]) (st := []) hC (c_X1_sellRing l G B S f202 v0 v2 v3 x76 x93 x110 _) hw.2 hw.1 rfl lk_1063 lk_1064 lk_1065 lk_130 lk_1066 hd_X1_sellRing rfl rfl (Nat.le_of_ble_eq_true rfl) (Nat.le_of_ble_eq_true rfl) rfl (Nat.le_of_ble_eq_true rfl) dX1_run_202 (by omega) (by omega) (kI (fun x202 S hw => ?_))
                refine z_istore (i := 9) (lv' := [some (.ref v0), some (.ref v1), some (.ref v2), some (va_rf v3), some (.int v4), some (.int v5), some (.int x76), some (.int x93), some (.int x110), some (.int x202)]) hC dX1_run_205 (by decide) (hok_v rfl rfl) rfl ?_
                refine z_goto (tgt := 231) hC dX1_run_207 (by decide) ?_
                refine z_mask (lv' := [some (.ref v0), some (.ref v1), some (.ref v2), some (va_rf v3), some (.int v4), some (.int v5), none, none, none, some (.int x202)]) [true, true, true, true, true, true, false, false, false, true] rfl ?_
                exact t_X1_run_b231 hC hr hlk hnm hK13 (fun hw => ih hw) hw
              by_cases q146_2 : y146.toInt = 2
              · have hw := hw.2.2.1 q146_2
                refine z_tabIn (tgt := 210) (off := 64) hC 2 dX1_run_146 q146_2 (by decide) rfl (by decide) ?_
                refine z_aload_n hC dX1_run_210 rfl rfl ?_
                refine z_aload_n hC dX1_run_211 rfl rfl ?_
                refine z_qload_n hC dX1_run_212 rfl rfl ?_
                refine z_iload hC dX1_run_213 rfl ?_
                obtain ⟨f215, g215, eu215, hu215⟩ := hw
                subst eu215
                have hw := hu215
                refine z_callV (ku' := (5 * g215)) (kv' := (116 * g215)) (n := 3) (As := [.ref v2, va_rf v3, .int x76]) (st := []) hC (c_X1_bury l G B S f215 v0 v2 v3 x76 _) hw.2 hw.1 rfl lk_1068 lk_1069 lk_1070 lk_130 lk_1071 hd_X1_bury rfl rfl (Nat.le_of_ble_eq_true rfl) (Nat.le_of_ble_eq_true rfl) rfl (Nat.le_of_ble_eq_true rfl) dX1_run_215 (by omega) (by omega) (kI (fun x215 S hw => ?_))
                refine z_istore (i := 9) (lv' := [some (.ref v0), some (.ref v1), some (.ref v2), some (va_rf v3), some (.int v4), some (.int v5), some (.int x76), some (.int x93), some (.int x110), some (.int x215)]) hC dX1_run_218 (by decide) (hok_v rfl rfl) rfl ?_
                refine z_goto (tgt := 231) hC dX1_run_220 (by decide) ?_
                refine z_mask (lv' := [some (.ref v0), some (.ref v1), some (.ref v2), some (va_rf v3), some (.int v4), some (.int v5), none, none, none, some (.int x215)]) [true, true, true, true, true, true, false, false, false, true] rfl ?_
                exact t_X1_run_b231 hC hr hlk hnm hK13 (fun hw => ih hw) hw
              have o146 : y146.toInt < 0 ∨ 2 < y146.toInt := by omega
              have hw := hw.2.2.2 o146
              refine z_tabOut (tgt := 223) hC dX1_run_146 o146 (by decide) ?_
              refine z_aload_n hC dX1_run_223 rfl rfl ?_
              refine z_aload_n hC dX1_run_224 rfl rfl ?_
              refine z_qload_n hC dX1_run_225 rfl rfl ?_
              obtain ⟨f226, g226, eu226, hu226⟩ := hw
              subst eu226
              have hw := hu226
              refine z_callV (ku' := (5 * g226)) (kv' := (116 * g226)) (n := 2) (As := [.ref v2, va_rf v3]) (st := []) hC (c_X1_turnYear l G B S f226 v0 v2 v3 _) hw.2 hw.1 rfl lk_1084 lk_1085 lk_1086 lk_130 lk_1087 hd_X1_turnYear rfl rfl (Nat.le_of_ble_eq_true rfl) (Nat.le_of_ble_eq_true rfl) rfl (Nat.le_of_ble_eq_true rfl) dX1_run_226 (by omega) (by omega) (kI (fun x226 S hw => ?_))
              refine z_istore (i := 9) (lv' := [some (.ref v0), some (.ref v1), some (.ref v2), some (va_rf v3), some (.int v4), some (.int v5), some (.int x76), some (.int x93), some (.int x110), some (.int x226)]) hC dX1_run_229 (by decide) (hok_v rfl rfl) rfl ?_
              refine z_mask (lv' := [some (.ref v0), some (.ref v1), some (.ref v2), some (va_rf v3), some (.int v4), some (.int v5), none, none, none, some (.int x226)]) [true, true, true, true, true, true, false, false, false, true] rfl ?_
              exact t_X1_run_b231 hC hr hlk hnm hK13 (fun hw => ih hw) hw
            · have hw := hw.2 c133
              refine z_iload hC dX1_run_136 rfl ?_
              exact z_iret hC hr hlk dX1_run_138 ⟨_, rfl, hw⟩
      · have hw := hw.2 c58
        refine z_goto (tgt := 249) hC dX1_run_61 (by decide) ?_
        refine z_mask (lv' := [some (.ref v0), some (.ref v1), some (.ref v2), some (va_rf v3), some (.int v4), some (.int v5), none, none, none, none]) [true, true, true, true, true, true, false, false, false, false] rfl ?_
        exact t_X1_run_b249 hC hr hlk hnm hK13 (fun hw => ih hw) hw
def w_X1_run_b13 (q : Int32 → hS → Prop) : Nat → hS → Nat → (Nat) → (Nat) → (Nat) → (Option Nat) → (Int32) → Prop
  | 0, _, _, _, _, _, _, _ => False
  | n + 1, S, u, v0, v1, v2, v3, v4 => gI S v1 10 0 (fun x16 => (x16 ≤ v4 → q (-1) S) ∧ (¬ x16 ≤ v4 → (∃ n25 : Nat, w_X1_run_b25 q (fun S u v0 v1 v2 v3 v4 => w_X1_run_b13 q n S u v0 v1 v2 v3 v4) n25 S u v0 v1 v2 v3 v4 0)))
set_option maxRecDepth 100000 in
set_option maxHeartbeats 4000000 in
theorem t_X1_run_b13 (hC : zC p R s m args c cX1_run 10 RX1 G B mc ms 7 215) (hr : meth.sig.returnType = (Option.some FieldType.int)) (hlk : meth.locks = false) (hnm : meth.name = "run") {q : Int32 → hS → Prop} (n : Nat) : ∀ {S : hS} {u : Nat} {v0 : Nat} {v1 : Nat} {v2 : Nat} {v3 : Option Nat} {v4 : Int32} (hw : w_X1_run_b13 q n S u v0 v1 v2 v3 v4), Z p l e R s m args below meth c (MQ below (hQ G B (iP q)) args s mc ms (fun r => B ≤ r)) G B mc ms 10 S (5 * u) (116 * u) 13 [some (.ref v0), some (.ref v1), some (.ref v2), some (va_rf v3), some (.int v4), none, none, none, none, none] [] := by
  induction n with
  | zero => intro S u v0 v1 v2 v3 v4 hw; exact (by rw [w_X1_run_b13] at hw; exact hw.elim)
  | succ n ih =>
    intro S u v0 v1 v2 v3 v4 hw
    rw [w_X1_run_b13] at hw
    refine z_iload hC dX1_run_13 rfl ?_
    refine z_aload_n hC dX1_run_15 rfl rfl ?_
    refine z_getI hC FX10 0 lk_350 dX1_run_16 (by decide) hw (fun x16 hw => ?_)
    refine z_icmp_ge (tgt := 261) hC dX1_run_19 (by decide) (fun c19 => ?_) (fun c19 => ?_)
    · have hw := hw.1 c19
      refine z_iconst hC ic_m1 dX1_run_261 ?_
      exact z_iret hC hr hlk dX1_run_262 ⟨_, rfl, hw⟩
    · have hw := hw.2 c19
      refine z_iconst hC ic_0 dX1_run_22 ?_
      refine z_istore (i := 5) (lv' := [some (.ref v0), some (.ref v1), some (.ref v2), some (va_rf v3), some (.int v4), some (.int 0), none, none, none, none]) hC dX1_run_23 (by decide) (hok_v rfl rfl) rfl ?_
      refine z_mask (lv' := [some (.ref v0), some (.ref v1), some (.ref v2), some (va_rf v3), some (.int v4), some (.int 0), none, none, none, none]) [true, true, true, true, true, true, false, false, false, false] rfl ?_
      obtain ⟨n25, hw⟩ := hw
      exact t_X1_run_b25 hC hr hlk hnm (fun hw => ih hw) n25 hw
def w_X1_run (q : Int32 → hS → Prop) (S : hS) (u : Nat) (v0 : Nat) (v1 : Nat) (v2 : Nat) (v3 : Option Nat) : Prop := pI S v0 1 5 0 (fun S => pI S v0 1 3 (-1) (fun S => (∃ n13 : Nat, w_X1_run_b13 q n13 S u v0 v1 v2 v3 0)))
set_option maxRecDepth 100000 in
set_option maxHeartbeats 4000000 in
theorem c_X1_run (l : Launch) (G : hG) (B : Nat) (S : hS) (u : Nat) (v0 : Nat) (v1 : Nat) (v2 : Nat) (v3 : Option Nat) (q : Int32 → hS → Prop) : Met l yX1_run (hws yX1_run cX1_run 10 (Option.some FieldType.int)) ({ frames := 7, cells := 5 * u, slots := 116 * u, locals := 215 }) (hPc G B S [.ref v0, .ref v1, .ref v2, va_rf v3] (w_X1_run q S u v0 v1 v2 v3)) (hQ G B (iP q)) (5 * u) (116 * u) (fun r => B ≤ r) := by
  refine hMet (rm := { frames := 7, cells := 5 * u, slots := 116 * u, locals := 215 }) (lv := [some (.ref v0), some (.ref v1), some (.ref v2), some (va_rf v3), none, none, none, none, none, none]) (own := RX1) (fr := 7) (lo := 215) (by decide) rfl rfl rfl (by cases v3 <;> exact Nat.le_of_ble_eq_true rfl) (by cases v3 <;> rfl) (fun hw p e R s m args below meth c hC hr hlk hnm => ?_)
  unfold w_X1_run at hw
  refine z_less (ku' := 5 * u) (kv' := 116 * u) (Nat.le_refl _) (Nat.le_refl _) ?_
  refine z_aload_n hC dX1_run_0 rfl rfl ?_
  refine z_iconst hC ic_0 dX1_run_1 ?_
  refine z_putI hC FX1 5 lk_428 dX1_run_2 (by decide) rfl rfl hw (fun S hw => ?_)
  refine z_aload_n hC dX1_run_5 rfl rfl ?_
  refine z_iconst hC ic_m1 dX1_run_6 ?_
  refine z_putI hC FX1 3 lk_426 dX1_run_7 (by decide) rfl rfl hw (fun S hw => ?_)
  refine z_iconst hC ic_0 dX1_run_10 ?_
  refine z_istore (i := 4) (lv' := [some (.ref v0), some (.ref v1), some (.ref v2), some (va_rf v3), some (.int 0), none, none, none, none, none]) hC dX1_run_11 (by decide) (hok_v rfl (va_rf_cat _)) rfl ?_
  refine z_mask (lv' := [some (.ref v0), some (.ref v1), some (.ref v2), some (va_rf v3), some (.int 0), none, none, none, none, none]) [true, true, true, true, true, false, false, false, false, false] rfl ?_
  obtain ⟨n13, hw⟩ := hw
  exact t_X1_run_b13 hC hr hlk hnm n13 hw
end
section
variable {p : Program} {l : Launch} {e : Env} {R : Room} {s : State} {m : MethodId} {args : Array Value} {below : List Frame} {meth : Method} {c : Code} {G : hG} {B mc ms : Nat}
def w_X1_draw (q : Int32 → hS → Prop) (S : hS) (v0 : Nat) (v1 : Int32) : Prop := gI S v0 1 4 (fun x2 => pI S v0 1 4 (Int64.toInt32 ((((Int32.toInt64 x2) * 1103) + 12345) - (((Int32.toInt64 x2) * 1103) + 12345) / 1000003 * 1000003)) (fun S => (v1 ≤ 0 → q 0 S) ∧ (¬ v1 ≤ 0 → gI S v0 1 4 (fun x27 => (¬ v1 = 0) ∧ q (x27 - x27 / v1 * v1) S))))
set_option maxRecDepth 100000 in
set_option maxHeartbeats 4000000 in
theorem c_X1_draw (l : Launch) (G : hG) (B : Nat) (S : hS) (v0 : Nat) (v1 : Int32) (q : Int32 → hS → Prop) : Met l yX1_draw (hws yX1_draw cX1_draw 2 (Option.some FieldType.int)) ({ frames := 1, cells := 0, slots := 0, locals := 60 }) (hPc G B S [.ref v0, .int v1] (w_X1_draw q S v0 v1)) (hQ G B (iP q)) (0) (0) (fun r => B ≤ r) := by
  refine hMet (rm := { frames := 1, cells := 0, slots := 0, locals := 60 }) (lv := [some (.ref v0), some (.int v1)]) (own := RX1) (fr := 1) (lo := 60) (by decide) rfl rfl rfl (Nat.le_of_ble_eq_true rfl) rfl (fun hw p e R s m args below meth c hC hr hlk hnm => ?_)
  unfold w_X1_draw at hw
  refine z_aload_n hC dX1_draw_0 rfl rfl ?_
  refine z_aload_n hC dX1_draw_1 rfl rfl ?_
  refine z_getI hC FX1 4 lk_427 dX1_draw_2 (by decide) hw (fun x2 hw => ?_)
  refine z_i2l hC rfl dX1_draw_5 ?_
  refine z_ldc2 hC lk_1303 dX1_draw_6 ?_
  refine z_lmul hC dX1_draw_9 ?_
  refine z_ldc2 hC lk_1304 dX1_draw_10 ?_
  refine z_ladd hC dX1_draw_13 ?_
  refine z_ldc2 hC lk_1305 dX1_draw_14 ?_
  refine z_lrem hC (by decide) dX1_draw_17 ?_
  refine z_l2i hC rfl dX1_draw_18 ?_
  refine z_putI hC FX1 4 lk_427 dX1_draw_19 (by decide) rfl rfl hw (fun S hw => ?_)
  refine z_iload_n hC dX1_draw_22 rfl rfl ?_
  refine z_if_le (tgt := 35) hC dX1_draw_23 (by decide) (fun c23 => ?_) (fun c23 => ?_)
  · have hw := hw.1 c23
    refine z_iconst hC ic_0 dX1_draw_35 ?_
    exact z_iret hC hr hlk dX1_draw_36 ⟨_, rfl, hw⟩
  · have hw := hw.2 c23
    refine z_aload_n hC dX1_draw_26 rfl rfl ?_
    refine z_getI hC FX1 4 lk_427 dX1_draw_27 (by decide) hw (fun x27 hw => ?_)
    refine z_iload_n hC dX1_draw_30 rfl rfl ?_
    refine z_irem hC hw.1 dX1_draw_31 ?_
    have hw := hw.2
    refine z_goto (tgt := 36) hC dX1_draw_32 (by decide) ?_
    exact z_iret hC hr hlk dX1_draw_36 ⟨_, rfl, hw⟩
end
section
variable {p : Program} {l : Launch} {e : Env} {R : Room} {s : State} {m : MethodId} {args : Array Value} {below : List Frame} {meth : Method} {c : Code} {G : hG} {B mc ms : Nat}
def w_X1_live_b105 (q : Int32 → hS → Prop) (K11 : hS → (Nat) → (Nat) → (Int32) → (Int32) → (Int32) → Prop) (S : hS) (v0 : Nat) (v1 : Nat) (v3 : Int32) (v4 : Int32) (v5 : Int32) : Prop := ∀ y105 : Int32, y105 = v5 + 1 → K11 S v0 v1 v3 v4 y105
set_option maxRecDepth 100000 in
set_option maxHeartbeats 4000000 in
theorem t_X1_live_b105 (hC : zC p R s m args c cX1_live 9 RX1 G B mc ms 6 189) (hr : meth.sig.returnType = (Option.some FieldType.int)) (hlk : meth.locks = false) (hnm : meth.name = "live") {q : Int32 → hS → Prop} {K11 : hS → (Nat) → (Nat) → (Int32) → (Int32) → (Int32) → Prop} (hK11 : ∀ {S : hS} {v0 : Nat} {v1 : Nat} {v3 : Int32} {v4 : Int32} {v5 : Int32}, K11 S v0 v1 v3 v4 v5 → Z p l e R s m args below meth c (MQ below (hQ G B (iP q)) args s mc ms (fun r => B ≤ r)) G B mc ms 9 S 0 0 11 [some (.ref v0), some (.ref v1), none, some (.int v3), some (.int v4), some (.int v5), none, none, none] []) {S : hS} {v0 : Nat} {v1 : Nat} {v3 : Int32} {v4 : Int32} {v5 : Int32} (hw : w_X1_live_b105 q K11 S v0 v1 v3 v4 v5) : Z p l e R s m args below meth c (MQ below (hQ G B (iP q)) args s mc ms (fun r => B ≤ r)) G B mc ms 9 S 0 0 105 [some (.ref v0), some (.ref v1), none, some (.int v3), some (.int v4), some (.int v5), none, none, none] [] := by
  unfold w_X1_live_b105 at hw
  refine z_inc (i := 5) hC ic_1 dX1_live_105 rfl (by decide) (hok_v rfl rfl) (fun y105 e105 => ?_)
  have hw := hw y105 e105
  refine z_goto (tgt := 11) hC dX1_live_108 (by decide) ?_
  refine z_mask (lv' := [some (.ref v0), some (.ref v1), none, some (.int v3), some (.int v4), some (.int y105), none, none, none]) [true, true, false, true, true, true, false, false, false] rfl ?_
  exact hK11 hw
def w_X1_live_b75 (q : Int32 → hS → Prop) (K11 : hS → (Nat) → (Nat) → (Int32) → (Int32) → (Int32) → Prop) (S : hS) (v0 : Nat) (v1 : Nat) (v3 : Int32) (v4 : Int32) (v5 : Int32) (v6 : Int32) (v8 : Int32) : Prop := (¬ v8 = 0 → (¬ v8 = 1 → w_X1_live_b105 q K11 S v0 v1 v3 v4 v5) ∧ (v8 = 1 → oK S v0 1 ∧ w_X1_turnYear (fun x101 S => w_X1_live_b105 q K11 S v0 v1 v3 v4 v5) S 0 v0 v1 none)) ∧ (v8 = 0 → oK S v0 1 ∧ w_X1_bury (fun x85 S => w_X1_live_b105 q K11 S v0 v1 v3 v4 v5) S 0 v0 v1 none v6)
set_option maxRecDepth 100000 in
set_option maxHeartbeats 4000000 in
theorem t_X1_live_b75 (hC : zC p R s m args c cX1_live 9 RX1 G B mc ms 6 189) (hr : meth.sig.returnType = (Option.some FieldType.int)) (hlk : meth.locks = false) (hnm : meth.name = "live") {q : Int32 → hS → Prop} {K11 : hS → (Nat) → (Nat) → (Int32) → (Int32) → (Int32) → Prop} (hK11 : ∀ {S : hS} {v0 : Nat} {v1 : Nat} {v3 : Int32} {v4 : Int32} {v5 : Int32}, K11 S v0 v1 v3 v4 v5 → Z p l e R s m args below meth c (MQ below (hQ G B (iP q)) args s mc ms (fun r => B ≤ r)) G B mc ms 9 S 0 0 11 [some (.ref v0), some (.ref v1), none, some (.int v3), some (.int v4), some (.int v5), none, none, none] []) {S : hS} {v0 : Nat} {v1 : Nat} {v3 : Int32} {v4 : Int32} {v5 : Int32} {v6 : Int32} {v8 : Int32} (hw : w_X1_live_b75 q K11 S v0 v1 v3 v4 v5 v6 v8) : Z p l e R s m args below meth c (MQ below (hQ G B (iP q)) args s mc ms (fun r => B ≤ r)) G B mc ms 9 S 0 0 75 [some (.ref v0), some (.ref v1), none, some (.int v3), some (.int v4), some (.int v5), some (.int v6), none, some (.int v8)] [] := by
  unfold w_X1_live_b75 at hw
  refine z_iload hC dX1_live_75 rfl ?_
  refine z_if_ne (tgt := 92) hC dX1_live_77 (by decide) (fun c77 => ?_) (fun c77 => ?_)
  · have hw := hw.1 c77
    refine z_iload hC dX1_live_92 rfl ?_
    refine z_iconst hC ic_1 dX1_live_94 ?_
    refine z_icmp_ne (tgt := 105) hC dX1_live_95 (by decide) (fun c95 => ?_) (fun c95 => ?_)
    · have hw := hw.1 c95
      refine z_mask (lv' := [some (.ref v0), some (.ref v1), none, some (.int v3), some (.int v4), some (.int v5), none, none, none]) [true, true, false, true, true, true, false, false, false] rfl ?_
      exact t_X1_live_b105 hC hr hlk hnm hK11 hw
    · have hw := hw.2 c95
      refine z_aload_n hC dX1_live_98 rfl rfl ?_
      refine z_aload_n hC dX1_live_99 rfl rfl ?_
      refine z_null hC dX1_live_100 ?_
      refine z_callV (ku' := 0) (kv' := 0) (n := 2) (As := [.ref v1, va_rf none]) (st := []) hC (c_X1_turnYear l G B S 0 v0 v1 none _) hw.2 hw.1 rfl lk_1084 lk_1085 lk_1086 lk_130 lk_1087 hd_X1_turnYear rfl rfl (Nat.le_of_ble_eq_true rfl) (Nat.le_of_ble_eq_true rfl) rfl (Nat.le_of_ble_eq_true rfl) dX1_live_101 (Nat.le_refl 0) (Nat.le_refl 0) (kI (fun x101 S hw => ?_))
      refine z_pop hC rfl dX1_live_104 ?_
      refine z_mask (lv' := [some (.ref v0), some (.ref v1), none, some (.int v3), some (.int v4), some (.int v5), none, none, none]) [true, true, false, true, true, true, false, false, false] rfl ?_
      exact t_X1_live_b105 hC hr hlk hnm hK11 hw
  · have hw := hw.2 c77
    refine z_aload_n hC dX1_live_80 rfl rfl ?_
    refine z_aload_n hC dX1_live_81 rfl rfl ?_
    refine z_null hC dX1_live_82 ?_
    refine z_iload hC dX1_live_83 rfl ?_
    refine z_callV (ku' := 0) (kv' := 0) (n := 3) (As := [.ref v1, va_rf none, .int v6]) (st := []) hC (c_X1_bury l G B S 0 v0 v1 none v6 _) hw.2 hw.1 rfl lk_1068 lk_1069 lk_1070 lk_130 lk_1071 hd_X1_bury rfl rfl (Nat.le_of_ble_eq_true rfl) (Nat.le_of_ble_eq_true rfl) rfl (Nat.le_of_ble_eq_true rfl) dX1_live_85 (Nat.le_refl 0) (Nat.le_refl 0) (kI (fun x85 S hw => ?_))
    refine z_pop hC rfl dX1_live_88 ?_
    refine z_goto (tgt := 105) hC dX1_live_89 (by decide) ?_
    refine z_mask (lv' := [some (.ref v0), some (.ref v1), none, some (.int v3), some (.int v4), some (.int v5), none, none, none]) [true, true, false, true, true, true, false, false, false] rfl ?_
    exact t_X1_live_b105 hC hr hlk hnm hK11 hw
def w_X1_live_b11 (q : Int32 → hS → Prop) : Nat → hS → (Nat) → (Nat) → (Int32) → (Int32) → (Int32) → Prop
  | 0, _, _, _, _, _, _ => False
  | n + 1, S, v0, v1, v3, v4, v5 => (v3 ≤ v5 → q v4 S) ∧ (¬ v3 ≤ v5 → gP S v1 8 0 (fun x18 => gI S x18 2 5 (fun x21 => (999 ≤ x21 → q v4 S) ∧ (¬ 999 ≤ x21 → gI S v1 8 4 (fun x32 => oK S v0 1 ∧ w_X1_draw (fun x35 S => gI S v1 8 1 (fun x42 => oK S v0 1 ∧ w_X1_draw (fun x45 S => oK S v0 1 ∧ w_X1_draw (fun x53 S => oK S v0 1 ∧ w_X1_ringBell (fun x65 S => (¬ x65 = 1 → w_X1_live_b75 q (fun S v0 v1 v3 v4 v5 => w_X1_live_b11 q n S v0 v1 v3 v4 v5) S v0 v1 v3 v4 v5 x35 x53) ∧ (x65 = 1 → ∀ y72 : Int32, y72 = v4 + 1 → w_X1_live_b75 q (fun S v0 v1 v3 v4 v5 => w_X1_live_b11 q n S v0 v1 v3 v4 v5) S v0 v1 v3 y72 v5 x35 x53)) S 0 v0 v1 none x35 x45) S v0 8) S v0 x42)) S v0 x32)))))
set_option maxRecDepth 100000 in
set_option maxHeartbeats 4000000 in
theorem t_X1_live_b11 (hC : zC p R s m args c cX1_live 9 RX1 G B mc ms 6 189) (hr : meth.sig.returnType = (Option.some FieldType.int)) (hlk : meth.locks = false) (hnm : meth.name = "live") {q : Int32 → hS → Prop} (n : Nat) : ∀ {S : hS} {v0 : Nat} {v1 : Nat} {v3 : Int32} {v4 : Int32} {v5 : Int32} (hw : w_X1_live_b11 q n S v0 v1 v3 v4 v5), Z p l e R s m args below meth c (MQ below (hQ G B (iP q)) args s mc ms (fun r => B ≤ r)) G B mc ms 9 S 0 0 11 [some (.ref v0), some (.ref v1), none, some (.int v3), some (.int v4), some (.int v5), none, none, none] [] := by
  induction n with
  | zero => intro S v0 v1 v3 v4 v5 hw; exact (by rw [w_X1_live_b11] at hw; exact hw.elim)
  | succ n ih =>
    intro S v0 v1 v3 v4 v5 hw
    rw [w_X1_live_b11] at hw
    refine z_iload hC dX1_live_11 rfl ?_
    refine z_iload_n hC dX1_live_13 rfl rfl ?_
    refine z_icmp_ge (tgt := 111) hC dX1_live_14 (by decide) (fun c14 => ?_) (fun c14 => ?_)
    · have hw := hw.1 c14
      refine z_iload hC dX1_live_111 rfl ?_
      exact z_iret hC hr hlk dX1_live_113 ⟨_, rfl, hw⟩
    · have hw := hw.2 c14
      refine z_aload_n hC dX1_live_17 rfl rfl ?_
      refine z_getP hC FX8 0 lk_202 dX1_live_18 (by decide) hw (fun x18 hw => ?_)
      refine z_getI hC FX2 5 lk_183 dX1_live_21 (by decide) hw (fun x21 hw => ?_)
      refine z_sipush hC si_999 dX1_live_24 ?_
      refine z_icmp_ge (tgt := 111) hC dX1_live_27 (by decide) (fun c27 => ?_) (fun c27 => ?_)
      · have hw := hw.1 c27
        refine z_iload hC dX1_live_111 rfl ?_
        exact z_iret hC hr hlk dX1_live_113 ⟨_, rfl, hw⟩
      · have hw := hw.2 c27
        refine z_aload_n hC dX1_live_30 rfl rfl ?_
        refine z_aload_n hC dX1_live_31 rfl rfl ?_
        refine z_getI hC FX8 4 lk_219 dX1_live_32 (by decide) hw (fun x32 hw => ?_)
        refine z_callV (ku' := 0) (kv' := 0) (n := 1) (As := [.int x32]) (st := []) hC (c_X1_draw l G B S v0 x32 _) hw.2 hw.1 rfl lk_1299 lk_1301 lk_40 lk_130 lk_1302 hd_X1_draw rfl rfl (Nat.le_of_ble_eq_true rfl) (Nat.le_of_ble_eq_true rfl) rfl (Nat.le_of_ble_eq_true rfl) dX1_live_35 (Nat.le_refl 0) (Nat.le_refl 0) (kI (fun x35 S hw => ?_))
        refine z_istore (i := 6) (lv' := [some (.ref v0), some (.ref v1), none, some (.int v3), some (.int v4), some (.int v5), some (.int x35), none, none]) hC dX1_live_38 (by decide) (hok_v rfl rfl) rfl ?_
        refine z_aload_n hC dX1_live_40 rfl rfl ?_
        refine z_aload_n hC dX1_live_41 rfl rfl ?_
        refine z_getI hC FX8 1 lk_208 dX1_live_42 (by decide) hw (fun x42 hw => ?_)
        refine z_callV (ku' := 0) (kv' := 0) (n := 1) (As := [.int x42]) (st := []) hC (c_X1_draw l G B S v0 x42 _) hw.2 hw.1 rfl lk_1299 lk_1301 lk_40 lk_130 lk_1302 hd_X1_draw rfl rfl (Nat.le_of_ble_eq_true rfl) (Nat.le_of_ble_eq_true rfl) rfl (Nat.le_of_ble_eq_true rfl) dX1_live_45 (Nat.le_refl 0) (Nat.le_refl 0) (kI (fun x45 S hw => ?_))
        refine z_istore (i := 7) (lv' := [some (.ref v0), some (.ref v1), none, some (.int v3), some (.int v4), some (.int v5), some (.int x35), some (.int x45), none]) hC dX1_live_48 (by decide) (hok_v rfl rfl) rfl ?_
        refine z_aload_n hC dX1_live_50 rfl rfl ?_
        refine z_bipush hC bi_8 dX1_live_51 ?_
        refine z_callV (ku' := 0) (kv' := 0) (n := 1) (As := [.int 8]) (st := []) hC (c_X1_draw l G B S v0 8 _) hw.2 hw.1 rfl lk_1299 lk_1301 lk_40 lk_130 lk_1302 hd_X1_draw rfl rfl (Nat.le_of_ble_eq_true rfl) (Nat.le_of_ble_eq_true rfl) rfl (Nat.le_of_ble_eq_true rfl) dX1_live_53 (Nat.le_refl 0) (Nat.le_refl 0) (kI (fun x53 S hw => ?_))
        refine z_istore (i := 8) (lv' := [some (.ref v0), some (.ref v1), none, some (.int v3), some (.int v4), some (.int v5), some (.int x35), some (.int x45), some (.int x53)]) hC dX1_live_56 (by decide) (hok_v rfl rfl) rfl ?_
        refine z_aload_n hC dX1_live_58 rfl rfl ?_
        refine z_aload_n hC dX1_live_59 rfl rfl ?_
        refine z_null hC dX1_live_60 ?_
        refine z_iload hC dX1_live_61 rfl ?_
        refine z_iload hC dX1_live_63 rfl ?_
        refine z_callV (ku' := 0) (kv' := 0) (n := 4) (As := [.ref v1, va_rf none, .int x35, .int x45]) (st := []) hC (c_X1_ringBell l G B S 0 v0 v1 none x35 x45 _) hw.2 hw.1 rfl lk_1044 lk_1045 lk_1046 lk_130 lk_1047 hd_X1_ringBell rfl rfl (Nat.le_of_ble_eq_true rfl) (Nat.le_of_ble_eq_true rfl) rfl (Nat.le_of_ble_eq_true rfl) dX1_live_65 (Nat.le_refl 0) (Nat.le_refl 0) (kI (fun x65 S hw => ?_))
        refine z_iconst hC ic_1 dX1_live_68 ?_
        refine z_icmp_ne (tgt := 75) hC dX1_live_69 (by decide) (fun c69 => ?_) (fun c69 => ?_)
        · have hw := hw.1 c69
          refine z_mask (lv' := [some (.ref v0), some (.ref v1), none, some (.int v3), some (.int v4), some (.int v5), some (.int x35), none, some (.int x53)]) [true, true, false, true, true, true, true, false, true] rfl ?_
          exact t_X1_live_b75 hC hr hlk hnm (fun hw => ih hw) hw
        · have hw := hw.2 c69
          refine z_inc (i := 4) hC ic_1 dX1_live_72 rfl (by decide) (hok_v rfl rfl) (fun y72 e72 => ?_)
          have hw := hw y72 e72
          refine z_mask (lv' := [some (.ref v0), some (.ref v1), none, some (.int v3), some (.int y72), some (.int v5), some (.int x35), none, some (.int x53)]) [true, true, false, true, true, true, true, false, true] rfl ?_
          exact t_X1_live_b75 hC hr hlk hnm (fun hw => ih hw) hw
def w_X1_live (q : Int32 → hS → Prop) (S : hS) (v0 : Nat) (v1 : Nat) (v2 : Int32) (v3 : Int32) : Prop := pI S v0 1 4 v2 (fun S => (∃ n11 : Nat, w_X1_live_b11 q n11 S v0 v1 v3 0 0))
set_option maxRecDepth 100000 in
set_option maxHeartbeats 4000000 in
theorem c_X1_live (l : Launch) (G : hG) (B : Nat) (S : hS) (v0 : Nat) (v1 : Nat) (v2 : Int32) (v3 : Int32) (q : Int32 → hS → Prop) : Met l yX1_live (hws yX1_live cX1_live 9 (Option.some FieldType.int)) ({ frames := 6, cells := 0, slots := 0, locals := 189 }) (hPc G B S [.ref v0, .ref v1, .int v2, .int v3] (w_X1_live q S v0 v1 v2 v3)) (hQ G B (iP q)) (0) (0) (fun r => B ≤ r) := by
  refine hMet (rm := { frames := 6, cells := 0, slots := 0, locals := 189 }) (lv := [some (.ref v0), some (.ref v1), some (.int v2), some (.int v3), none, none, none, none, none]) (own := RX1) (fr := 6) (lo := 189) (by decide) rfl rfl rfl (Nat.le_of_ble_eq_true rfl) rfl (fun hw p e R s m args below meth c hC hr hlk hnm => ?_)
  unfold w_X1_live at hw
  refine z_aload_n hC dX1_live_0 rfl rfl ?_
  refine z_iload_n hC dX1_live_1 rfl rfl ?_
  refine z_putI hC FX1 4 lk_427 dX1_live_2 (by decide) rfl rfl hw (fun S hw => ?_)
  refine z_iconst hC ic_0 dX1_live_5 ?_
  refine z_istore (i := 4) (lv' := [some (.ref v0), some (.ref v1), some (.int v2), some (.int v3), some (.int 0), none, none, none, none]) hC dX1_live_6 (by decide) (hok_v rfl rfl) rfl ?_
  refine z_iconst hC ic_0 dX1_live_8 ?_
  refine z_istore (i := 5) (lv' := [some (.ref v0), some (.ref v1), some (.int v2), some (.int v3), some (.int 0), some (.int 0), none, none, none]) hC dX1_live_9 (by decide) (hok_v rfl rfl) rfl ?_
  refine z_mask (lv' := [some (.ref v0), some (.ref v1), none, some (.int v3), some (.int 0), some (.int 0), none, none, none]) [true, true, false, true, true, true, false, false, false] rfl ?_
  obtain ⟨n11, hw⟩ := hw
  exact t_X1_live_b11 hC hr hlk hnm n11 hw
end
section
variable {p : Program} {l : Launch} {e : Env} {R : Room} {s : State} {m : MethodId} {args : Array Value} {below : List Frame} {meth : Method} {c : Code} {G : hG} {B mc ms : Nat}
def w_X3_init (q : hS → Prop) (S : hS) (v0 : Nat) : Prop := mkR S 3 16 16 (fun S o7 => pP S v0 3 0 o7 (fun S => mkI S 16 16 (fun S o16 => pP S v0 3 1 o16 (fun S => pI S v0 3 2 0 (fun S => pI S v0 3 3 0 (fun S => q S))))))
set_option maxRecDepth 100000 in
set_option maxHeartbeats 4000000 in
theorem c_X3_init (l : Launch) (G : hG) (B : Nat) (S : hS) (v0 : Nat) (q : hS → Prop) : Met l yX3_init (hws yX3_init cX3_init 1 (Option.none : Option FieldType)) ({ frames := 1, cells := 2, slots := 32, locals := 60 }) (hPc G B S [.ref v0] (w_X3_init q S v0)) (hQ G B (vP q)) (2) (32) (fun r => B ≤ r) := by
  refine hMet (rm := { frames := 1, cells := 2, slots := 32, locals := 60 }) (lv := [some (.ref v0)]) (own := RX3) (fr := 1) (lo := 60) (by decide) rfl rfl rfl (Nat.le_of_ble_eq_true rfl) rfl (fun hw p e R s m args below meth c hC hr hlk hnm => ?_)
  unfold w_X3_init at hw
  refine z_less (ku' := 2) (kv' := 32) (Nat.le_refl _) (Nat.le_refl _) ?_
  refine z_aload_n hC dX3_init_0 rfl rfl ?_
  refine z_obj hC lk_288 lk_147 lk_148 dX3_init_1 (by decide) (Nat.le_of_ble_eq_true rfl) ?_
  refine z_aload_n hC dX3_init_4 rfl rfl ?_
  refine z_bipush hC bi_16 dX3_init_5 ?_
  refine z_mkR (kd := 3) (cap := 16) (ku' := 1) (kv' := 16) hC lk_289 hC.a.2.2.2.1.1 rfl dX3_init_7 (by decide) (by decide) (by decide) hw (fun S o7 hw => ?_)
  refine z_putPF hC FX3 0 lk_291 dX3_init_10 (by decide) rfl hnm rfl rfl rfl hw (fun S hw => ?_)
  refine z_aload_n hC dX3_init_13 rfl rfl ?_
  refine z_bipush hC bi_16 dX3_init_14 ?_
  refine z_mkI (cap := 16) (ku' := 0) (kv' := 0) hC lk_198 dX3_init_16 (by decide) (by decide) (by decide) hw (fun S o16 hw => ?_)
  refine z_putPF hC FX3 1 lk_292 dX3_init_18 (by decide) rfl hnm rfl rfl rfl hw (fun S hw => ?_)
  refine z_aload_n hC dX3_init_21 rfl rfl ?_
  refine z_iconst hC ic_0 dX3_init_22 ?_
  refine z_putI hC FX3 2 lk_293 dX3_init_23 (by decide) rfl rfl hw (fun S hw => ?_)
  refine z_aload_n hC dX3_init_26 rfl rfl ?_
  refine z_iconst hC ic_0 dX3_init_27 ?_
  refine z_putI hC FX3 3 lk_294 dX3_init_28 (by decide) rfl rfl hw (fun S hw => ?_)
  exact z_vret hC hr hlk dX3_init_31 ⟨rfl, hw⟩
end
section
variable {p : Program} {l : Launch} {e : Env} {R : Room} {s : State} {m : MethodId} {args : Array Value} {below : List Frame} {meth : Method} {c : Code} {G : hG} {B mc ms : Nat}
def w_X3_takeBack (q : Int32 → hS → Prop) (S : hS) (v0 : Nat) (v1 : Nat) : Prop := gI S v0 3 3 (fun x1 => (¬ x1 = 0 → gI S v0 3 2 (fun x11 => pI S v0 3 2 (((x11 + 16) - 1) - ((x11 + 16) - 1) / 16 * 16) (fun S => gI S v0 3 3 (fun x27 => pI S v0 3 3 (x27 - 1) (fun S => gP S v0 3 0 (fun x36 => gI S v0 3 2 (fun x40 => aR S 3 x36 x40 (fun x43 => (x43 = none → q (-1) S) ∧ (∀ b46 : Nat, x43 = some b46 → oK S v1 2 ∧ w_X2_copyFrom (fun S => gP S v0 3 1 (fun x57 => gI S v0 3 2 (fun x61 => aI S x57 x61 (fun x64 => q x64 S)))) S v1 b46))))))))) ∧ (x1 = 0 → q (-1) S))
set_option maxRecDepth 100000 in
set_option maxHeartbeats 4000000 in
theorem c_X3_takeBack (l : Launch) (G : hG) (B : Nat) (S : hS) (v0 : Nat) (v1 : Nat) (q : Int32 → hS → Prop) : Met l yX3_takeBack (hws yX3_takeBack cX3_takeBack 3 (Option.some FieldType.int)) ({ frames := 2, cells := 0, slots := 0, locals := 81 }) (hPc G B S [.ref v0, .ref v1] (w_X3_takeBack q S v0 v1)) (hQ G B (iP q)) (0) (0) (fun r => B ≤ r) := by
  refine hMet (rm := { frames := 2, cells := 0, slots := 0, locals := 81 }) (lv := [some (.ref v0), some (.ref v1), none]) (own := RX3) (fr := 2) (lo := 81) (by decide) rfl rfl rfl (Nat.le_of_ble_eq_true rfl) rfl (fun hw p e R s m args below meth c hC hr hlk hnm => ?_)
  unfold w_X3_takeBack at hw
  refine z_aload_n hC dX3_takeBack_0 rfl rfl ?_
  refine z_getI hC FX3 3 lk_294 dX3_takeBack_1 (by decide) hw (fun x1 hw => ?_)
  refine z_if_ne (tgt := 9) hC dX3_takeBack_4 (by decide) (fun c4 => ?_) (fun c4 => ?_)
  · have hw := hw.1 c4
    refine z_aload_n hC dX3_takeBack_9 rfl rfl ?_
    refine z_aload_n hC dX3_takeBack_10 rfl rfl ?_
    refine z_getI hC FX3 2 lk_293 dX3_takeBack_11 (by decide) hw (fun x11 hw => ?_)
    refine z_bipush hC bi_16 dX3_takeBack_14 ?_
    refine z_iadd hC dX3_takeBack_16 ?_
    refine z_iconst hC ic_1 dX3_takeBack_17 ?_
    refine z_isub hC dX3_takeBack_18 ?_
    refine z_bipush hC bi_16 dX3_takeBack_19 ?_
    refine z_irem hC (by decide) dX3_takeBack_21 ?_
    refine z_putI hC FX3 2 lk_293 dX3_takeBack_22 (by decide) rfl rfl hw (fun S hw => ?_)
    refine z_aload_n hC dX3_takeBack_25 rfl rfl ?_
    refine z_dup hC rfl dX3_takeBack_26 ?_
    refine z_getI hC FX3 3 lk_294 dX3_takeBack_27 (by decide) hw (fun x27 hw => ?_)
    refine z_iconst hC ic_1 dX3_takeBack_30 ?_
    refine z_isub hC dX3_takeBack_31 ?_
    refine z_putI hC FX3 3 lk_294 dX3_takeBack_32 (by decide) rfl rfl hw (fun S hw => ?_)
    refine z_aload_n hC dX3_takeBack_35 rfl rfl ?_
    refine z_getP hC FX3 0 lk_291 dX3_takeBack_36 (by decide) hw (fun x36 hw => ?_)
    refine z_aload_n hC dX3_takeBack_39 rfl rfl ?_
    refine z_getI hC FX3 2 lk_293 dX3_takeBack_40 (by decide) hw (fun x40 hw => ?_)
    refine z_aldR (kd := 3) hC dX3_takeBack_43 hw rfl (fun x43 hw => ?_)
    refine z_qstore_n (i := 2) (lv' := [some (.ref v0), some (.ref v1), some (va_rf x43)]) hC rfl dX3_takeBack_44 (by decide) (hok_v rfl rfl) rfl ?_
    refine z_qload_n hC dX3_takeBack_45 rfl rfl ?_
    have hz46 := hw
    cases x43 with
    | none =>
      have hw := hz46.1 rfl
      refine z_ifnonnull (r := none) (tgt := 51) hC dX3_takeBack_46 (by decide) (fun _ h => by cases h) (fun _ => ?_)
      refine z_iconst hC ic_m1 dX3_takeBack_49 ?_
      exact z_iret hC hr hlk dX3_takeBack_50 ⟨_, rfl, hw⟩
    | some b46 =>
      have hw := hz46.2 b46 rfl
      refine z_ifnonnull (r := some b46) (tgt := 51) hC dX3_takeBack_46 (by decide) (fun _ _ => ?_) (fun h => by cases h)
      refine z_aload_n hC dX3_takeBack_51 rfl rfl ?_
      refine z_aload_n hC dX3_takeBack_52 rfl rfl ?_
      refine z_callV (ku' := 0) (kv' := 0) (n := 1) (As := [.ref b46]) (st := []) hC (c_X2_copyFrom l G B S v1 b46 _) hw.2 hw.1 rfl lk_1057 lk_1017 lk_1018 lk_123 lk_1019 hd_X2_copyFrom rfl rfl (Nat.le_of_ble_eq_true rfl) (Nat.le_of_ble_eq_true rfl) rfl (Nat.le_of_ble_eq_true rfl) dX3_takeBack_53 (Nat.le_refl 0) (Nat.le_refl 0) (kV (fun S hw => ?_))
      refine z_aload_n hC dX3_takeBack_56 rfl rfl ?_
      refine z_getP hC FX3 1 lk_292 dX3_takeBack_57 (by decide) hw (fun x57 hw => ?_)
      refine z_aload_n hC dX3_takeBack_60 rfl rfl ?_
      refine z_getI hC FX3 2 lk_293 dX3_takeBack_61 (by decide) hw (fun x61 hw => ?_)
      refine z_aldI hC dX3_takeBack_64 hw (fun x64 hw => ?_)
      exact z_iret hC hr hlk dX3_takeBack_65 ⟨_, rfl, hw⟩
  · have hw := hw.2 c4
    refine z_iconst hC ic_m1 dX3_takeBack_7 ?_
    exact z_iret hC hr hlk dX3_takeBack_8 ⟨_, rfl, hw⟩
end
section
variable {p : Program} {l : Launch} {e : Env} {R : Room} {s : State} {m : MethodId} {args : Array Value} {below : List Frame} {meth : Method} {c : Code} {G : hG} {B mc ms : Nat}
def w_X3_clear (q : hS → Prop) (S : hS) (v0 : Nat) : Prop := pI S v0 3 3 0 (fun S => q S)
set_option maxRecDepth 100000 in
set_option maxHeartbeats 4000000 in
theorem c_X3_clear (l : Launch) (G : hG) (B : Nat) (S : hS) (v0 : Nat) (q : hS → Prop) : Met l yX3_clear (hws yX3_clear cX3_clear 1 (Option.none : Option FieldType)) ({ frames := 1, cells := 0, slots := 0, locals := 60 }) (hPc G B S [.ref v0] (w_X3_clear q S v0)) (hQ G B (vP q)) (0) (0) (fun r => B ≤ r) := by
  refine hMet (rm := { frames := 1, cells := 0, slots := 0, locals := 60 }) (lv := [some (.ref v0)]) (own := RX3) (fr := 1) (lo := 60) (by decide) rfl rfl rfl (Nat.le_of_ble_eq_true rfl) rfl (fun hw p e R s m args below meth c hC hr hlk hnm => ?_)
  unfold w_X3_clear at hw
  refine z_aload_n hC dX3_clear_0 rfl rfl ?_
  refine z_iconst hC ic_0 dX3_clear_1 ?_
  refine z_putI hC FX3 3 lk_294 dX3_clear_2 (by decide) rfl rfl hw (fun S hw => ?_)
  exact z_vret hC hr hlk dX3_clear_5 ⟨rfl, hw⟩
end
section
variable {p : Program} {l : Launch} {e : Env} {R : Room} {s : State} {m : MethodId} {args : Array Value} {below : List Frame} {meth : Method} {c : Code} {G : hG} {B mc ms : Nat}
def w_X4_init (q : hS → Prop) (S : hS) (v0 : Nat) : Prop := mkI S 6 6 (fun S o7 => pP S v0 4 0 o7 (fun S => pI S v0 4 1 0 (fun S => pI S v0 4 2 0 (fun S => mkI S 6 6 (fun S o25 => pP S v0 4 3 o25 (fun S => pI S v0 4 4 0 (fun S => mkI S 256 256 (fun S o39 => pP S v0 4 5 o39 (fun S => mkI S 8 8 (fun S o47 => pP S v0 4 6 o47 (fun S => mkI S 64 64 (fun S o55 => pP S v0 4 7 o55 (fun S => mkI S 8 8 (fun S o63 => pP S v0 4 8 o63 (fun S => mkI S 8 8 (fun S o71 => pP S v0 4 9 o71 (fun S => pI S v0 4 10 0 (fun S => q S))))))))))))))))))
set_option maxRecDepth 100000 in
set_option maxHeartbeats 4000000 in
theorem c_X4_init (l : Launch) (G : hG) (B : Nat) (S : hS) (v0 : Nat) (q : hS → Prop) : Met l yX4_init (hws yX4_init cX4_init 1 (Option.none : Option FieldType)) ({ frames := 1, cells := 7, slots := 356, locals := 60 }) (hPc G B S [.ref v0] (w_X4_init q S v0)) (hQ G B (vP q)) (7) (356) (fun r => B ≤ r) := by
  refine hMet (rm := { frames := 1, cells := 7, slots := 356, locals := 60 }) (lv := [some (.ref v0)]) (own := RX4) (fr := 1) (lo := 60) (by decide) rfl rfl rfl (Nat.le_of_ble_eq_true rfl) rfl (fun hw p e R s m args below meth c hC hr hlk hnm => ?_)
  unfold w_X4_init at hw
  refine z_less (ku' := 7) (kv' := 356) (Nat.le_refl _) (Nat.le_refl _) ?_
  refine z_aload_n hC dX4_init_0 rfl rfl ?_
  refine z_obj hC lk_448 lk_147 lk_148 dX4_init_1 (by decide) (Nat.le_of_ble_eq_true rfl) ?_
  refine z_aload_n hC dX4_init_4 rfl rfl ?_
  refine z_bipush hC bi_6 dX4_init_5 ?_
  refine z_mkI (cap := 6) (ku' := 6) (kv' := 350) hC lk_198 dX4_init_7 (by decide) (by decide) (by decide) hw (fun S o7 hw => ?_)
  refine z_putPF hC FX4 0 lk_449 dX4_init_9 (by decide) rfl hnm rfl rfl rfl hw (fun S hw => ?_)
  refine z_aload_n hC dX4_init_12 rfl rfl ?_
  refine z_iconst hC ic_0 dX4_init_13 ?_
  refine z_putI hC FX4 1 lk_450 dX4_init_14 (by decide) rfl rfl hw (fun S hw => ?_)
  refine z_aload_n hC dX4_init_17 rfl rfl ?_
  refine z_iconst hC ic_0 dX4_init_18 ?_
  refine z_putI hC FX4 2 lk_451 dX4_init_19 (by decide) rfl rfl hw (fun S hw => ?_)
  refine z_aload_n hC dX4_init_22 rfl rfl ?_
  refine z_bipush hC bi_6 dX4_init_23 ?_
  refine z_mkI (cap := 6) (ku' := 5) (kv' := 344) hC lk_198 dX4_init_25 (by decide) (by decide) (by decide) hw (fun S o25 hw => ?_)
  refine z_putPF hC FX4 3 lk_452 dX4_init_27 (by decide) rfl hnm rfl rfl rfl hw (fun S hw => ?_)
  refine z_aload_n hC dX4_init_30 rfl rfl ?_
  refine z_iconst hC ic_0 dX4_init_31 ?_
  refine z_putI hC FX4 4 lk_454 dX4_init_32 (by decide) rfl rfl hw (fun S hw => ?_)
  refine z_aload_n hC dX4_init_35 rfl rfl ?_
  refine z_sipush hC si_256 dX4_init_36 ?_
  refine z_mkI (cap := 256) (ku' := 4) (kv' := 88) hC lk_198 dX4_init_39 (by decide) (by decide) (by decide) hw (fun S o39 hw => ?_)
  refine z_putPF hC FX4 5 lk_456 dX4_init_41 (by decide) rfl hnm rfl rfl rfl hw (fun S hw => ?_)
  refine z_aload_n hC dX4_init_44 rfl rfl ?_
  refine z_bipush hC bi_8 dX4_init_45 ?_
  refine z_mkI (cap := 8) (ku' := 3) (kv' := 80) hC lk_198 dX4_init_47 (by decide) (by decide) (by decide) hw (fun S o47 hw => ?_)
  refine z_putPF hC FX4 6 lk_457 dX4_init_49 (by decide) rfl hnm rfl rfl rfl hw (fun S hw => ?_)
  refine z_aload_n hC dX4_init_52 rfl rfl ?_
  refine z_bipush hC bi_64 dX4_init_53 ?_
  refine z_mkI (cap := 64) (ku' := 2) (kv' := 16) hC lk_198 dX4_init_55 (by decide) (by decide) (by decide) hw (fun S o55 hw => ?_)
  refine z_putPF hC FX4 7 lk_459 dX4_init_57 (by decide) rfl hnm rfl rfl rfl hw (fun S hw => ?_)
  refine z_aload_n hC dX4_init_60 rfl rfl ?_
  refine z_bipush hC bi_8 dX4_init_61 ?_
  refine z_mkI (cap := 8) (ku' := 1) (kv' := 8) hC lk_198 dX4_init_63 (by decide) (by decide) (by decide) hw (fun S o63 hw => ?_)
  refine z_putPF hC FX4 8 lk_461 dX4_init_65 (by decide) rfl hnm rfl rfl rfl hw (fun S hw => ?_)
  refine z_aload_n hC dX4_init_68 rfl rfl ?_
  refine z_bipush hC bi_8 dX4_init_69 ?_
  refine z_mkI (cap := 8) (ku' := 0) (kv' := 0) hC lk_198 dX4_init_71 (by decide) (by decide) (by decide) hw (fun S o71 hw => ?_)
  refine z_putPF hC FX4 9 lk_462 dX4_init_73 (by decide) rfl hnm rfl rfl rfl hw (fun S hw => ?_)
  refine z_aload_n hC dX4_init_76 rfl rfl ?_
  refine z_iconst hC ic_0 dX4_init_77 ?_
  refine z_putI hC FX4 10 lk_464 dX4_init_78 (by decide) rfl rfl hw (fun S hw => ?_)
  exact z_vret hC hr hlk dX4_init_81 ⟨rfl, hw⟩
end
section
variable {p : Program} {l : Launch} {e : Env} {R : Room} {s : State} {m : MethodId} {args : Array Value} {below : List Frame} {meth : Method} {c : Code} {G : hG} {B mc ms : Nat}
def w_X11_stepsBetween (q : Int32 → hS → Prop) (S : hS) (v0 : Int32) (v1 : Int32) : Prop := q ((if 0 ≤ ((v0 - v0 / 5 * 5) - (v1 - v1 / 5 * 5)) then ((v0 - v0 / 5 * 5) - (v1 - v1 / 5 * 5)) else 0 - ((v0 - v0 / 5 * 5) - (v1 - v1 / 5 * 5))) + (if 0 ≤ ((v0 / 5) - (v1 / 5)) then ((v0 / 5) - (v1 / 5)) else 0 - ((v0 / 5) - (v1 / 5)))) S
set_option maxRecDepth 100000 in
set_option maxHeartbeats 4000000 in
theorem c_X11_stepsBetween (l : Launch) (G : hG) (B : Nat) (S : hS) (v0 : Int32) (v1 : Int32) (q : Int32 → hS → Prop) : Met l yX11_stepsBetween (hws yX11_stepsBetween cX11_stepsBetween 2 (Option.some FieldType.int)) ({ frames := 1, cells := 0, slots := 0, locals := 60 }) (hPc G B S [.int v0, .int v1] (w_X11_stepsBetween q S v0 v1)) (hQ G B (iP q)) (0) (0) (fun r => B ≤ r) := by
  refine hMet (rm := { frames := 1, cells := 0, slots := 0, locals := 60 }) (lv := [some (.int v0), some (.int v1)]) (own := RX11) (fr := 1) (lo := 60) (by decide) rfl rfl rfl (Nat.le_of_ble_eq_true rfl) rfl (fun hw p e R s m args below meth c hC hr hlk hnm => ?_)
  unfold w_X11_stepsBetween at hw
  refine z_iload_n hC dX11_stepsBetween_0 rfl rfl ?_
  refine z_iconst hC ic_5 dX11_stepsBetween_1 ?_
  refine z_irem hC (by decide) dX11_stepsBetween_2 ?_
  refine z_iload_n hC dX11_stepsBetween_3 rfl rfl ?_
  refine z_iconst hC ic_5 dX11_stepsBetween_4 ?_
  refine z_irem hC (by decide) dX11_stepsBetween_5 ?_
  refine z_isub hC dX11_stepsBetween_6 ?_
  refine z_mabs hC lk_1149 lk_1150 lk_134 lk_1151 dX11_stepsBetween_7 (by decide) (Nat.le_of_ble_eq_true rfl) ?_
  refine z_iload_n hC dX11_stepsBetween_10 rfl rfl ?_
  refine z_iconst hC ic_5 dX11_stepsBetween_11 ?_
  refine z_idiv hC (by decide) dX11_stepsBetween_12 ?_
  refine z_iload_n hC dX11_stepsBetween_13 rfl rfl ?_
  refine z_iconst hC ic_5 dX11_stepsBetween_14 ?_
  refine z_idiv hC (by decide) dX11_stepsBetween_15 ?_
  refine z_isub hC dX11_stepsBetween_16 ?_
  refine z_mabs hC lk_1149 lk_1150 lk_134 lk_1151 dX11_stepsBetween_17 (by decide) (Nat.le_of_ble_eq_true rfl) ?_
  refine z_iadd hC dX11_stepsBetween_20 ?_
  exact z_iret hC hr hlk dX11_stepsBetween_21 ⟨_, rfl, hw⟩
end
