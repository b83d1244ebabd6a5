section
variable {p : Program} {l : Launch} {e : Env} {R : Room} {s : State} {m : MethodId} {args : Array Value} {below : List Frame} {meth : Method} {c : Code} {G : hG} {B mc ms : Nat}
def w_X12_run_b175 (q : Int32 → hS → Prop) (S : hS) (v0 : Nat) (t0 : Int32) (t1 : Nat) : Prop := pI S t1 12 54 t0 (fun S => gI S v0 12 53 (fun x180 => pI S v0 12 53 (x180 + 1) (fun S => q 0 S)))
set_option maxRecDepth 100000 in
set_option maxHeartbeats 4000000 in
theorem t_X12_run_b175 (hC : zC p R s m args c cX12_run 6 RX12 G B mc ms 12 322) (hr : meth.sig.returnType = (Option.some FieldType.int)) (hlk : meth.locks = false) (hnm : meth.name = "run") {q : Int32 → hS → Prop} {S : hS} {v0 : Nat} {t0 : Int32} {t1 : Nat} (hw : w_X12_run_b175 q S v0 t0 t1) : Z p l e R s m args below meth c (MQ below (hQ G B (iP q)) args s mc ms (fun r => B ≤ r)) G B mc ms 6 S 0 0 175 [some (.ref v0), none, none, none, none, none] [.int t0, .ref t1] := by
  unfold w_X12_run_b175 at hw
  refine z_putI hC FX12 54 lk_1409 dX12_run_175 (by decide) rfl rfl hw (fun S hw => ?_)
  refine z_aload_n hC dX12_run_178 rfl rfl ?_
  refine z_dup hC rfl dX12_run_179 ?_
  refine z_getI hC FX12 53 lk_1408 dX12_run_180 (by decide) hw (fun x180 hw => ?_)
  refine z_iconst hC ic_1 dX12_run_183 ?_
  refine z_iadd hC dX12_run_184 ?_
  refine z_putI hC FX12 53 lk_1408 dX12_run_185 (by decide) rfl rfl hw (fun S hw => ?_)
  refine z_iconst hC ic_0 dX12_run_188 ?_
  exact z_iret hC hr hlk dX12_run_189 ⟨_, rfl, hw⟩
def w_X12_run_b97 (q : Int32 → hS → Prop) (S : hS) (v0 : Nat) (v1 : Int32) : Prop := oK S v0 12 ∧ w_X12_sumOf (fun x101 S => oK S v0 12 ∧ w_X12_sumOf (fun x109 S => oK S v0 12 ∧ w_X12_sumOf (fun x117 S => gI S v0 12 56 (fun x123 => (x123 = 0 → gP S v0 12 52 (fun x134 => aI S x134 v1 (fun x138 => oK S v0 12 ∧ w_X12_act (fun x143 S => (0 ≤ x143 → gP S v0 12 52 (fun x158 => aI S x158 v1 (fun x162 => (¬ x162 = 0 → gI S v0 12 54 (fun x172 => w_X12_run_b175 q S v0 x172 v0)) ∧ (x162 = 0 → w_X12_run_b175 q S v0 x143 v0)))) ∧ (¬ 0 ≤ x143 → q (-3) S)) S v0 x138 x101 x109 x117))) ∧ (¬ x123 = 0 → q (-3) S))) S v0 (v1 + 5)) S v0 (v1 + 3)) S v0 (v1 + 1)
set_option maxRecDepth 100000 in
set_option maxHeartbeats 4000000 in
theorem t_X12_run_b97 (hC : zC p R s m args c cX12_run 6 RX12 G B mc ms 12 322) (hr : meth.sig.returnType = (Option.some FieldType.int)) (hlk : meth.locks = false) (hnm : meth.name = "run") {q : Int32 → hS → Prop} {S : hS} {v0 : Nat} {v1 : Int32} (hw : w_X12_run_b97 q S v0 v1) : Z p l e R s m args below meth c (MQ below (hQ G B (iP q)) args s mc ms (fun r => B ≤ r)) G B mc ms 6 S 0 0 97 [some (.ref v0), some (.int v1), none, none, none, none] [] := by
  unfold w_X12_run_b97 at hw
  refine z_aload_n hC dX12_run_97 rfl rfl ?_
  refine z_iload_n hC dX12_run_98 rfl rfl ?_
  refine z_iconst hC ic_1 dX12_run_99 ?_
  refine z_iadd hC dX12_run_100 ?_
  refine z_callV (ku' := 0) (kv' := 0) (n := 1) (As := [.int (v1 + 1)]) (st := []) hC (c_X12_sumOf l G B S v0 (v1 + 1) _) hw.2 hw.1 rfl lk_2041 lk_2043 lk_116 lk_133 lk_2044 hd_X12_sumOf rfl rfl (Nat.le_of_ble_eq_true rfl) (Nat.le_of_ble_eq_true rfl) rfl (Nat.le_of_ble_eq_true rfl) dX12_run_101 (Nat.le_refl 0) (Nat.le_refl 0) (kI (fun x101 S hw => ?_))
  refine z_istore_n (i := 2) (lv' := [some (.ref v0), some (.int v1), some (.int x101), none, none, none]) hC rfl dX12_run_104 (by decide) (hok_v rfl rfl) rfl ?_
  refine z_aload_n hC dX12_run_105 rfl rfl ?_
  refine z_iload_n hC dX12_run_106 rfl rfl ?_
  refine z_iconst hC ic_3 dX12_run_107 ?_
  refine z_iadd hC dX12_run_108 ?_
  refine z_callV (ku' := 0) (kv' := 0) (n := 1) (As := [.int (v1 + 3)]) (st := []) hC (c_X12_sumOf l G B S v0 (v1 + 3) _) hw.2 hw.1 rfl lk_2041 lk_2043 lk_116 lk_133 lk_2044 hd_X12_sumOf rfl rfl (Nat.le_of_ble_eq_true rfl) (Nat.le_of_ble_eq_true rfl) rfl (Nat.le_of_ble_eq_true rfl) dX12_run_109 (Nat.le_refl 0) (Nat.le_refl 0) (kI (fun x109 S hw => ?_))
  refine z_istore_n (i := 3) (lv' := [some (.ref v0), some (.int v1), some (.int x101), some (.int x109), none, none]) hC rfl dX12_run_112 (by decide) (hok_v rfl rfl) rfl ?_
  refine z_aload_n hC dX12_run_113 rfl rfl ?_
  refine z_iload_n hC dX12_run_114 rfl rfl ?_
  refine z_iconst hC ic_5 dX12_run_115 ?_
  refine z_iadd hC dX12_run_116 ?_
  refine z_callV (ku' := 0) (kv' := 0) (n := 1) (As := [.int (v1 + 5)]) (st := []) hC (c_X12_sumOf l G B S v0 (v1 + 5) _) hw.2 hw.1 rfl lk_2041 lk_2043 lk_116 lk_133 lk_2044 hd_X12_sumOf rfl rfl (Nat.le_of_ble_eq_true rfl) (Nat.le_of_ble_eq_true rfl) rfl (Nat.le_of_ble_eq_true rfl) dX12_run_117 (Nat.le_refl 0) (Nat.le_refl 0) (kI (fun x117 S hw => ?_))
  refine z_istore (i := 4) (lv' := [some (.ref v0), some (.int v1), some (.int x101), some (.int x109), some (.int x117), none]) hC dX12_run_120 (by decide) (hok_v rfl rfl) rfl ?_
  refine z_aload_n hC dX12_run_122 rfl rfl ?_
  refine z_getI hC FX12 56 lk_1411 dX12_run_123 (by decide) hw (fun x123 hw => ?_)
  refine z_if_eq (tgt := 132) hC dX12_run_126 (by decide) (fun c126 => ?_) (fun c126 => ?_)
  · have hw := hw.1 c126
    refine z_aload_n hC dX12_run_132 rfl rfl ?_
    refine z_aload_n hC dX12_run_133 rfl rfl ?_
    refine z_getP hC FX12 52 lk_1407 dX12_run_134 (by decide) hw (fun x134 hw => ?_)
    refine z_iload_n hC dX12_run_137 rfl rfl ?_
    refine z_aldI hC dX12_run_138 hw (fun x138 hw => ?_)
    refine z_iload_n hC dX12_run_139 rfl rfl ?_
    refine z_iload_n hC dX12_run_140 rfl rfl ?_
    refine z_iload hC dX12_run_141 rfl ?_
    refine z_callV (ku' := 0) (kv' := 0) (n := 4) (As := [.int x138, .int x101, .int x109, .int x117]) (st := []) hC (c_X12_act l G B S v0 x138 x101 x109 x117 _) hw.2 hw.1 rfl lk_2045 lk_2047 lk_117 lk_133 lk_2048 hd_X12_act rfl rfl (Nat.le_of_ble_eq_true rfl) (Nat.le_of_ble_eq_true rfl) rfl (Nat.le_of_ble_eq_true rfl) dX12_run_143 (Nat.le_refl 0) (Nat.le_refl 0) (kI (fun x143 S hw => ?_))
    refine z_istore (i := 5) (lv' := [some (.ref v0), some (.int v1), some (.int x101), some (.int x109), some (.int x117), some (.int x143)]) hC dX12_run_146 (by decide) (hok_v rfl rfl) rfl ?_
    refine z_iload hC dX12_run_148 rfl ?_
    refine z_if_ge (tgt := 156) hC dX12_run_150 (by decide) (fun c150 => ?_) (fun c150 => ?_)
    · have hw := hw.1 c150
      refine z_aload_n hC dX12_run_156 rfl rfl ?_
      refine z_aload_n hC dX12_run_157 rfl rfl ?_
      refine z_getP hC FX12 52 lk_1407 dX12_run_158 (by decide) hw (fun x158 hw => ?_)
      refine z_iload_n hC dX12_run_161 rfl rfl ?_
      refine z_aldI hC dX12_run_162 hw (fun x162 hw => ?_)
      refine z_if_ne (tgt := 171) hC dX12_run_163 (by decide) (fun c163 => ?_) (fun c163 => ?_)
      · have hw := hw.1 c163
        refine z_aload_n hC dX12_run_171 rfl rfl ?_
        refine z_getI hC FX12 54 lk_1409 dX12_run_172 (by decide) hw (fun x172 hw => ?_)
        refine z_mask (lv' := [some (.ref v0), none, none, none, none, none]) [true, false, false, false, false, false] rfl ?_
        exact t_X12_run_b175 hC hr hlk hnm hw
      · have hw := hw.2 c163
        refine z_iload hC dX12_run_166 rfl ?_
        refine z_goto (tgt := 175) hC dX12_run_168 (by decide) ?_
        refine z_mask (lv' := [some (.ref v0), none, none, none, none, none]) [true, false, false, false, false, false] rfl ?_
        exact t_X12_run_b175 hC hr hlk hnm hw
    · have hw := hw.2 c150
      refine z_bipush hC bi_m3 dX12_run_153 ?_
      exact z_iret hC hr hlk dX12_run_155 ⟨_, rfl, hw⟩
  · have hw := hw.2 c126
    refine z_bipush hC bi_m3 dX12_run_129 ?_
    exact z_iret hC hr hlk dX12_run_131 ⟨_, rfl, hw⟩
def w_X12_run (q : Int32 → hS → Prop) (S : hS) (v0 : Nat) (v1 : Int32) : Prop := gP S v0 12 36 (fun x1 => oK S v0 12 ∧ w_X12_yearNow (fun x6 S => sJ S x1 1 (Int32.toInt64 x6) (fun S => gP S v0 12 36 (fun x12 => gI S v0 12 53 (fun x17 => sJ S x12 2 (Int32.toInt64 x17) (fun S => gP S v0 12 36 (fun x23 => gI S v0 12 54 (fun x28 => sJ S x23 3 (Int32.toInt64 x28) (fun S => gP S v0 12 36 (fun x34 => oK S v0 12 ∧ w_X12_living (fun x39 S => w_X12_ones (fun x42 S => sJ S x34 4 (Int32.toInt64 x42) (fun S => pZ S v0 12 56 0 (fun S => gP S v0 12 52 (fun x53 => aI S x53 (v1 + 7) (fun x60 => gP S v0 12 52 (fun x62 => aI S x62 ((v1 + 7) + 1) (fun x71 => (x71 ≤ x60 → w_X12_run_b97 q S v0 v1) ∧ (¬ x71 ≤ x60 → oK S v0 12 ∧ w_X12_sumOf (fun x80 S => gI S v0 12 56 (fun x85 => (¬ x85 = 0 → q 0 S) ∧ (x85 = 0 → (¬ x80 = 0 → w_X12_run_b97 q S v0 v1) ∧ (x80 = 0 → q 0 S)))) S v0 (v1 + 7))))))))) S x39) S v0))))))))) S v0)
set_option maxRecDepth 100000 in
set_option maxHeartbeats 4000000 in
theorem c_X12_run (l : Launch) (G : hG) (B : Nat) (S : hS) (v0 : Nat) (v1 : Int32) (q : Int32 → hS → Prop) : Met l yX12_run (hws yX12_run cX12_run 6 (Option.some FieldType.int)) ({ frames := 12, cells := 0, slots := 0, locals := 322 }) (hPc G B S [.ref v0, .int v1] (w_X12_run q S v0 v1)) (hQ G B (iP q)) (0) (0) (fun r => B ≤ r) := by
  refine hMet (rm := { frames := 12, cells := 0, slots := 0, locals := 322 }) (lv := [some (.ref v0), some (.int v1), none, none, none, none]) (own := RX12) (fr := 12) (lo := 322) (by decide) rfl rfl rfl (Nat.le_of_ble_eq_true rfl) rfl (fun hw p e R s m args below meth c hC hr hlk hnm => ?_)
  unfold w_X12_run at hw
  refine z_aload_n hC dX12_run_0 rfl rfl ?_
  refine z_getP hC FX12 36 lk_1391 dX12_run_1 (by decide) hw (fun x1 hw => ?_)
  refine z_iconst hC ic_1 dX12_run_4 ?_
  refine z_aload_n hC dX12_run_5 rfl rfl ?_
  refine z_callV (ku' := 0) (kv' := 0) (n := 0) (As := []) (st := [.int 1, .ref x1]) hC (c_X12_yearNow l G B S v0 _) hw.2 hw.1 rfl lk_1680 lk_1682 lk_60 lk_133 lk_1683 hd_X12_yearNow rfl rfl (Nat.le_of_ble_eq_true rfl) (Nat.le_of_ble_eq_true rfl) rfl (Nat.le_of_ble_eq_true rfl) dX12_run_6 (Nat.le_refl 0) (Nat.le_refl 0) (kI (fun x6 S hw => ?_))
  refine z_i2l hC rfl dX12_run_9 ?_
  refine z_astJ hC dX12_run_10 hw (fun S hw => ?_)
  refine z_aload_n hC dX12_run_11 rfl rfl ?_
  refine z_getP hC FX12 36 lk_1391 dX12_run_12 (by decide) hw (fun x12 hw => ?_)
  refine z_iconst hC ic_2 dX12_run_15 ?_
  refine z_aload_n hC dX12_run_16 rfl rfl ?_
  refine z_getI hC FX12 53 lk_1408 dX12_run_17 (by decide) hw (fun x17 hw => ?_)
  refine z_i2l hC rfl dX12_run_20 ?_
  refine z_astJ hC dX12_run_21 hw (fun S hw => ?_)
  refine z_aload_n hC dX12_run_22 rfl rfl ?_
  refine z_getP hC FX12 36 lk_1391 dX12_run_23 (by decide) hw (fun x23 hw => ?_)
  refine z_iconst hC ic_3 dX12_run_26 ?_
  refine z_aload_n hC dX12_run_27 rfl rfl ?_
  refine z_getI hC FX12 54 lk_1409 dX12_run_28 (by decide) hw (fun x28 hw => ?_)
  refine z_i2l hC rfl dX12_run_31 ?_
  refine z_astJ hC dX12_run_32 hw (fun S hw => ?_)
  refine z_aload_n hC dX12_run_33 rfl rfl ?_
  refine z_getP hC FX12 36 lk_1391 dX12_run_34 (by decide) hw (fun x34 hw => ?_)
  refine z_iconst hC ic_4 dX12_run_37 ?_
  refine z_aload_n hC dX12_run_38 rfl rfl ?_
  refine z_callV (ku' := 0) (kv' := 0) (n := 0) (As := []) (st := [.int 4, .ref x34]) hC (c_X12_living l G B S v0 _) hw.2 hw.1 rfl lk_1904 lk_1906 lk_98 lk_133 lk_1907 hd_X12_living rfl rfl (Nat.le_of_ble_eq_true rfl) (Nat.le_of_ble_eq_true rfl) rfl (Nat.le_of_ble_eq_true rfl) dX12_run_39 (Nat.le_refl 0) (Nat.le_refl 0) (kI (fun x39 S hw => ?_))
  refine z_callS (ku' := 0) (kv' := 0) (n := 1) (As := [.int x39]) (st := [.int 4, .ref x34]) hC (c_X12_ones l G B S x39 _) hw lk_1908 lk_1909 lk_133 lk_1910 hd_X12_ones rfl rfl (Nat.le_of_ble_eq_true rfl) (Nat.le_of_ble_eq_true rfl) rfl (Nat.le_of_ble_eq_true rfl) dX12_run_42 (Nat.le_refl 0) (Nat.le_refl 0) (kI (fun x42 S hw => ?_))
  refine z_i2l hC rfl dX12_run_45 ?_
  refine z_astJ hC dX12_run_46 hw (fun S hw => ?_)
  refine z_aload_n hC dX12_run_47 rfl rfl ?_
  refine z_iconst hC ic_0 dX12_run_48 ?_
  refine z_putZ hC FX12 56 lk_1411 dX12_run_49 (by decide) rfl rfl hw (fun S hw => ?_)
  refine z_aload_n hC dX12_run_52 rfl rfl ?_
  refine z_getP hC FX12 52 lk_1407 dX12_run_53 (by decide) hw (fun x53 hw => ?_)
  refine z_iload_n hC dX12_run_56 rfl rfl ?_
  refine z_bipush hC bi_7 dX12_run_57 ?_
  refine z_iadd hC dX12_run_59 ?_
  refine z_aldI hC dX12_run_60 hw (fun x60 hw => ?_)
  refine z_aload_n hC dX12_run_61 rfl rfl ?_
  refine z_getP hC FX12 52 lk_1407 dX12_run_62 (by decide) hw (fun x62 hw => ?_)
  refine z_iload_n hC dX12_run_65 rfl rfl ?_
  refine z_bipush hC bi_7 dX12_run_66 ?_
  refine z_iadd hC dX12_run_68 ?_
  refine z_iconst hC ic_1 dX12_run_69 ?_
  refine z_iadd hC dX12_run_70 ?_
  refine z_aldI hC dX12_run_71 hw (fun x71 hw => ?_)
  refine z_icmp_ge (tgt := 97) hC dX12_run_72 (by decide) (fun c72 => ?_) (fun c72 => ?_)
  · have hw := hw.1 c72
    refine z_mask (lv' := [some (.ref v0), some (.int v1), none, none, none, none]) [true, true, false, false, false, false] rfl ?_
    exact t_X12_run_b97 hC hr hlk hnm hw
  · have hw := hw.2 c72
    refine z_aload_n hC dX12_run_75 rfl rfl ?_
    refine z_iload_n hC dX12_run_76 rfl rfl ?_
    refine z_bipush hC bi_7 dX12_run_77 ?_
    refine z_iadd hC dX12_run_79 ?_
    refine z_callV (ku' := 0) (kv' := 0) (n := 1) (As := [.int (v1 + 7)]) (st := []) hC (c_X12_sumOf l G B S v0 (v1 + 7) _) hw.2 hw.1 rfl lk_2041 lk_2043 lk_116 lk_133 lk_2044 hd_X12_sumOf rfl rfl (Nat.le_of_ble_eq_true rfl) (Nat.le_of_ble_eq_true rfl) rfl (Nat.le_of_ble_eq_true rfl) dX12_run_80 (Nat.le_refl 0) (Nat.le_refl 0) (kI (fun x80 S hw => ?_))
    refine z_istore_n (i := 2) (lv' := [some (.ref v0), some (.int v1), some (.int x80), none, none, none]) hC rfl dX12_run_83 (by decide) (hok_v rfl rfl) rfl ?_
    refine z_aload_n hC dX12_run_84 rfl rfl ?_
    refine z_getI hC FX12 56 lk_1411 dX12_run_85 (by decide) hw (fun x85 hw => ?_)
    refine z_if_ne (tgt := 95) hC dX12_run_88 (by decide) (fun c88 => ?_) (fun c88 => ?_)
    · have hw := hw.1 c88
      refine z_iconst hC ic_0 dX12_run_95 ?_
      exact z_iret hC hr hlk dX12_run_96 ⟨_, rfl, hw⟩
    · have hw := hw.2 c88
      refine z_iload_n hC dX12_run_91 rfl rfl ?_
      refine z_if_ne (tgt := 97) hC dX12_run_92 (by decide) (fun c92 => ?_) (fun c92 => ?_)
      · have hw := hw.1 c92
        refine z_mask (lv' := [some (.ref v0), some (.int v1), none, none, none, none]) [true, true, false, false, false, false] rfl ?_
        exact t_X12_run_b97 hC hr hlk hnm hw
      · have hw := hw.2 c92
        refine z_iconst hC ic_0 dX12_run_95 ?_
        exact z_iret hC hr hlk dX12_run_96 ⟨_, rfl, hw⟩
end
section
variable {p : Program} {l : Launch} {e : Env} {R : Room} {s : State} {m : MethodId} {args : Array Value} {below : List Frame} {meth : Method} {c : Code} {G : hG} {B mc ms : Nat}
def w_X12_giveBack_b35 (q : hS → Prop) : Nat → hS → (Nat) → (Int32) → (Int32) → Prop
  | 0, _, _, _, _ => False
  | n + 1, S, v0, v1, v2 => (16 ≤ v2 → pI S v0 12 8 v1 (fun S => q S)) ∧ (¬ 16 ≤ v2 → gP S v0 12 7 (fun x42 => gP S v0 12 10 (fun x47 => aI S x47 v2 (fun x51 => sI S x42 v2 x51 (fun S => ∀ y53 : Int32, y53 = v2 + 1 → w_X12_giveBack_b35 q n S v0 v1 y53)))))
set_option maxRecDepth 100000 in
set_option maxHeartbeats 4000000 in
theorem t_X12_giveBack_b35 (hC : zC p R s m args c cX12_giveBack 3 RX12 G B mc ms 2 82) (hr : meth.sig.returnType = (Option.none : Option FieldType)) (hlk : meth.locks = false) (hnm : meth.name = "giveBack") {q : hS → Prop} (n : Nat) : ∀ {S : hS} {v0 : Nat} {v1 : Int32} {v2 : Int32} (hw : w_X12_giveBack_b35 q n S v0 v1 v2), Z p l e R s m args below meth c (MQ below (hQ G B (vP q)) args s mc ms (fun r => B ≤ r)) G B mc ms 3 S 0 0 35 [some (.ref v0), some (.int v1), some (.int v2)] [] := by
  induction n with
  | zero => intro S v0 v1 v2 hw; exact (by rw [w_X12_giveBack_b35] at hw; exact hw.elim)
  | succ n ih =>
    intro S v0 v1 v2 hw
    rw [w_X12_giveBack_b35] at hw
    refine z_iload_n hC dX12_giveBack_35 rfl rfl ?_
    refine z_bipush hC bi_16 dX12_giveBack_36 ?_
    refine z_icmp_ge (tgt := 59) hC dX12_giveBack_38 (by decide) (fun c38 => ?_) (fun c38 => ?_)
    · have hw := hw.1 c38
      refine z_aload_n hC dX12_giveBack_59 rfl rfl ?_
      refine z_iload_n hC dX12_giveBack_60 rfl rfl ?_
      refine z_putI hC FX12 8 lk_1363 dX12_giveBack_61 (by decide) rfl rfl hw (fun S hw => ?_)
      exact z_vret hC hr hlk dX12_giveBack_64 ⟨rfl, hw⟩
    · have hw := hw.2 c38
      refine z_aload_n hC dX12_giveBack_41 rfl rfl ?_
      refine z_getP hC FX12 7 lk_1362 dX12_giveBack_42 (by decide) hw (fun x42 hw => ?_)
      refine z_iload_n hC dX12_giveBack_45 rfl rfl ?_
      refine z_aload_n hC dX12_giveBack_46 rfl rfl ?_
      refine z_getP hC FX12 10 lk_1365 dX12_giveBack_47 (by decide) hw (fun x47 hw => ?_)
      refine z_iload_n hC dX12_giveBack_50 rfl rfl ?_
      refine z_aldI hC dX12_giveBack_51 hw (fun x51 hw => ?_)
      refine z_astI hC dX12_giveBack_52 hw (fun S hw => ?_)
      refine z_inc (i := 2) hC ic_1 dX12_giveBack_53 rfl (by decide) (hok_v rfl rfl) (fun y53 e53 => ?_)
      have hw := hw y53 e53
      refine z_goto (tgt := 35) hC dX12_giveBack_56 (by decide) ?_
      refine z_mask (lv' := [some (.ref v0), some (.int v1), some (.int y53)]) [true, true, true] rfl ?_
      exact ih hw
def w_X12_giveBack_b8 (q : hS → Prop) : Nat → hS → (Nat) → (Int32) → (Int32) → Prop
  | 0, _, _, _, _ => False
  | n + 1, S, v0, v1, v2 => (1936 ≤ v2 → (∃ n35 : Nat, w_X12_giveBack_b35 q n35 S v0 v1 0)) ∧ (¬ 1936 ≤ v2 → gP S v0 12 6 (fun x16 => gP S v0 12 9 (fun x21 => aI S x21 v2 (fun x25 => sI S x16 v2 x25 (fun S => ∀ y27 : Int32, y27 = v2 + 1 → w_X12_giveBack_b8 q n S v0 v1 y27)))))
set_option maxRecDepth 100000 in
set_option maxHeartbeats 4000000 in
theorem t_X12_giveBack_b8 (hC : zC p R s m args c cX12_giveBack 3 RX12 G B mc ms 2 82) (hr : meth.sig.returnType = (Option.none : Option FieldType)) (hlk : meth.locks = false) (hnm : meth.name = "giveBack") {q : hS → Prop} (n : Nat) : ∀ {S : hS} {v0 : Nat} {v1 : Int32} {v2 : Int32} (hw : w_X12_giveBack_b8 q n S v0 v1 v2), Z p l e R s m args below meth c (MQ below (hQ G B (vP q)) args s mc ms (fun r => B ≤ r)) G B mc ms 3 S 0 0 8 [some (.ref v0), some (.int v1), some (.int v2)] [] := by
  induction n with
  | zero => intro S v0 v1 v2 hw; exact (by rw [w_X12_giveBack_b8] at hw; exact hw.elim)
  | succ n ih =>
    intro S v0 v1 v2 hw
    rw [w_X12_giveBack_b8] at hw
    refine z_iload_n hC dX12_giveBack_8 rfl rfl ?_
    refine z_sipush hC si_1936 dX12_giveBack_9 ?_
    refine z_icmp_ge (tgt := 33) hC dX12_giveBack_12 (by decide) (fun c12 => ?_) (fun c12 => ?_)
    · have hw := hw.1 c12
      refine z_iconst hC ic_0 dX12_giveBack_33 ?_
      refine z_istore_n (i := 2) (lv' := [some (.ref v0), some (.int v1), some (.int 0)]) hC rfl dX12_giveBack_34 (by decide) (hok_v rfl rfl) rfl ?_
      refine z_mask (lv' := [some (.ref v0), some (.int v1), some (.int 0)]) [true, true, true] rfl ?_
      obtain ⟨n35, hw⟩ := hw
      exact t_X12_giveBack_b35 hC hr hlk hnm n35 hw
    · have hw := hw.2 c12
      refine z_aload_n hC dX12_giveBack_15 rfl rfl ?_
      refine z_getP hC FX12 6 lk_1361 dX12_giveBack_16 (by decide) hw (fun x16 hw => ?_)
      refine z_iload_n hC dX12_giveBack_19 rfl rfl ?_
      refine z_aload_n hC dX12_giveBack_20 rfl rfl ?_
      refine z_getP hC FX12 9 lk_1364 dX12_giveBack_21 (by decide) hw (fun x21 hw => ?_)
      refine z_iload_n hC dX12_giveBack_24 rfl rfl ?_
      refine z_aldI hC dX12_giveBack_25 hw (fun x25 hw => ?_)
      refine z_astI hC dX12_giveBack_26 hw (fun S hw => ?_)
      refine z_inc (i := 2) hC ic_1 dX12_giveBack_27 rfl (by decide) (hok_v rfl rfl) (fun y27 e27 => ?_)
      have hw := hw y27 e27
      refine z_goto (tgt := 8) hC dX12_giveBack_30 (by decide) ?_
      refine z_mask (lv' := [some (.ref v0), some (.int v1), some (.int y27)]) [true, true, true] rfl ?_
      exact ih hw
def w_X12_giveBack (q : hS → Prop) (S : hS) (v0 : Nat) (v1 : Int32) : Prop := oK S v0 12 ∧ w_X12_putBack (fun S => (∃ n8 : Nat, w_X12_giveBack_b8 q n8 S v0 v1 0)) S v0 17
set_option maxRecDepth 100000 in
set_option maxHeartbeats 4000000 in
theorem c_X12_giveBack (l : Launch) (G : hG) (B : Nat) (S : hS) (v0 : Nat) (v1 : Int32) (q : hS → Prop) : Met l yX12_giveBack (hws yX12_giveBack cX12_giveBack 3 (Option.none : Option FieldType)) ({ frames := 2, cells := 0, slots := 0, locals := 82 }) (hPc G B S [.ref v0, .int v1] (w_X12_giveBack q S v0 v1)) (hQ G B (vP q)) (0) (0) (fun r => B ≤ r) := by
  refine hMet (rm := { frames := 2, cells := 0, slots := 0, locals := 82 }) (lv := [some (.ref v0), some (.int v1), none]) (own := RX12) (fr := 2) (lo := 82) (by decide) rfl rfl rfl (Nat.le_of_ble_eq_true rfl) rfl (fun hw p e R s m args below meth c hC hr hlk hnm => ?_)
  unfold w_X12_giveBack at hw
  refine z_aload_n hC dX12_giveBack_0 rfl rfl ?_
  refine z_bipush hC bi_17 dX12_giveBack_1 ?_
  refine z_callV (ku' := 0) (kv' := 0) (n := 1) (As := [.int 17]) (st := []) hC (c_X12_putBack l G B S v0 17 _) hw.2 hw.1 rfl lk_1548 lk_1550 lk_42 lk_133 lk_1551 hd_X12_putBack rfl rfl (Nat.le_of_ble_eq_true rfl) (Nat.le_of_ble_eq_true rfl) rfl (Nat.le_of_ble_eq_true rfl) dX12_giveBack_3 (Nat.le_refl 0) (Nat.le_refl 0) (kV (fun S hw => ?_))
  refine z_iconst hC ic_0 dX12_giveBack_6 ?_
  refine z_istore_n (i := 2) (lv' := [some (.ref v0), some (.int v1), some (.int 0)]) hC rfl dX12_giveBack_7 (by decide) (hok_v rfl rfl) rfl ?_
  refine z_mask (lv' := [some (.ref v0), some (.int v1), some (.int 0)]) [true, true, true] rfl ?_
  obtain ⟨n8, hw⟩ := hw
  exact t_X12_giveBack_b8 hC hr hlk hnm n8 hw
end
section
variable {p : Program} {l : Launch} {e : Env} {R : Room} {s : State} {m : MethodId} {args : Array Value} {below : List Frame} {meth : Method} {c : Code} {G : hG} {B mc ms : Nat}
def w_X12_orders_b150 (q : Int32 → hS → Prop) (K140 : hS → (Nat) → (Int32) → (Int32) → Prop) : Nat → hS → (Nat) → (Int32) → (Int32) → (Int32) → Prop
  | 0, _, _, _, _, _ => False
  | n + 1, S, v0, v1, v2, v3 => gP S v0 12 52 (fun x152 => aI S x152 ((10 * v2) + 9) (fun x162 => (x162 ≤ v3 → ∀ y200 : Int32, y200 = v2 + 1 → K140 S v0 v1 y200) ∧ (¬ x162 ≤ v3 → oK S v0 12 ∧ w_X12_run (fun x171 S => (0 ≤ x171 → ∀ y194 : Int32, y194 = v3 + 1 → w_X12_orders_b150 q K140 n S v0 v1 v2 y194) ∧ (¬ 0 ≤ x171 → oK S v0 12 ∧ w_X12_giveBack (fun S => pI S v0 12 55 v2 (fun S => oK S v0 12 ∧ w_X12_tell (fun x190 S => q x190 S) S v0 (-3))) S v0 v1)) S v0 (10 * v2))))
set_option maxRecDepth 100000 in
set_option maxHeartbeats 4000000 in
theorem t_X12_orders_b150 (hC : zC p R s m args c cX12_orders 4 RX12 G B mc ms 13 347) (hr : meth.sig.returnType = (Option.some FieldType.int)) (hlk : meth.locks = false) (hnm : meth.name = "orders") {q : Int32 → hS → Prop} {K140 : hS → (Nat) → (Int32) → (Int32) → Prop} (hK140 : ∀ {S : hS} {v0 : Nat} {v1 : Int32} {v2 : Int32}, K140 S v0 v1 v2 → Z p l e R s m args below meth c (MQ below (hQ G B (iP q)) args s mc ms (fun r => B ≤ r)) G B mc ms 4 S 0 0 140 [some (.ref v0), some (.int v1), some (.int v2), none] []) (n : Nat) : ∀ {S : hS} {v0 : Nat} {v1 : Int32} {v2 : Int32} {v3 : Int32} (hw : w_X12_orders_b150 q K140 n S v0 v1 v2 v3), Z p l e R s m args below meth c (MQ below (hQ G B (iP q)) args s mc ms (fun r => B ≤ r)) G B mc ms 4 S 0 0 150 [some (.ref v0), some (.int v1), some (.int v2), some (.int v3)] [] := by
  induction n with
  | zero => intro S v0 v1 v2 v3 hw; exact (by rw [w_X12_orders_b150] at hw; exact hw.elim)
  | succ n ih =>
    intro S v0 v1 v2 v3 hw
    rw [w_X12_orders_b150] at hw
    refine z_iload_n hC dX12_orders_150 rfl rfl ?_
    refine z_aload_n hC dX12_orders_151 rfl rfl ?_
    refine z_getP hC FX12 52 lk_1407 dX12_orders_152 (by decide) hw (fun x152 hw => ?_)
    refine z_bipush hC bi_10 dX12_orders_155 ?_
    refine z_iload_n hC dX12_orders_157 rfl rfl ?_
    refine z_imul hC dX12_orders_158 ?_
    refine z_bipush hC bi_9 dX12_orders_159 ?_
    refine z_iadd hC dX12_orders_161 ?_
    refine z_aldI hC dX12_orders_162 hw (fun x162 hw => ?_)
    refine z_icmp_ge (tgt := 200) hC dX12_orders_163 (by decide) (fun c163 => ?_) (fun c163 => ?_)
    · have hw := hw.1 c163
      refine z_inc (i := 2) hC ic_1 dX12_orders_200 rfl (by decide) (hok_v rfl rfl) (fun y200 e200 => ?_)
      have hw := hw y200 e200
      refine z_goto (tgt := 140) hC dX12_orders_203 (by decide) ?_
      refine z_mask (lv' := [some (.ref v0), some (.int v1), some (.int y200), none]) [true, true, true, false] rfl ?_
      exact hK140 hw
    · have hw := hw.2 c163
      refine z_aload_n hC dX12_orders_166 rfl rfl ?_
      refine z_bipush hC bi_10 dX12_orders_167 ?_
      refine z_iload_n hC dX12_orders_169 rfl rfl ?_
      refine z_imul hC dX12_orders_170 ?_
      refine z_callV (ku' := 0) (kv' := 0) (n := 1) (As := [.int (10 * v2)]) (st := []) hC (c_X12_run l G B S v0 (10 * v2) _) hw.2 hw.1 rfl lk_2037 lk_2039 lk_115 lk_133 lk_2040 hd_X12_run rfl rfl (Nat.le_of_ble_eq_true rfl) (Nat.le_of_ble_eq_true rfl) rfl (Nat.le_of_ble_eq_true rfl) dX12_orders_171 (Nat.le_refl 0) (Nat.le_refl 0) (kI (fun x171 S hw => ?_))
      refine z_if_ge (tgt := 194) hC dX12_orders_174 (by decide) (fun c174 => ?_) (fun c174 => ?_)
      · have hw := hw.1 c174
        refine z_inc (i := 3) hC ic_1 dX12_orders_194 rfl (by decide) (hok_v rfl rfl) (fun y194 e194 => ?_)
        have hw := hw y194 e194
        refine z_goto (tgt := 150) hC dX12_orders_197 (by decide) ?_
        refine z_mask (lv' := [some (.ref v0), some (.int v1), some (.int v2), some (.int y194)]) [true, true, true, true] rfl ?_
        exact ih hw
      · have hw := hw.2 c174
        refine z_aload_n hC dX12_orders_177 rfl rfl ?_
        refine z_iload_n hC dX12_orders_178 rfl rfl ?_
        refine z_callV (ku' := 0) (kv' := 0) (n := 1) (As := [.int v1]) (st := []) hC (c_X12_giveBack l G B S v0 v1 _) hw.2 hw.1 rfl lk_2049 lk_2051 lk_118 lk_133 lk_2052 hd_X12_giveBack rfl rfl (Nat.le_of_ble_eq_true rfl) (Nat.le_of_ble_eq_true rfl) rfl (Nat.le_of_ble_eq_true rfl) dX12_orders_179 (Nat.le_refl 0) (Nat.le_refl 0) (kV (fun S hw => ?_))
        refine z_aload_n hC dX12_orders_182 rfl rfl ?_
        refine z_iload_n hC dX12_orders_183 rfl rfl ?_
        refine z_putI hC FX12 55 lk_1410 dX12_orders_184 (by decide) rfl rfl hw (fun S hw => ?_)
        refine z_aload_n hC dX12_orders_187 rfl rfl ?_
        refine z_bipush hC bi_m3 dX12_orders_188 ?_
        refine z_callV (ku' := 0) (kv' := 0) (n := 1) (As := [.int (-3)]) (st := []) hC (c_X12_tell l G B S v0 (-3) _) hw.2 hw.1 rfl lk_1544 lk_1546 lk_41 lk_133 lk_1547 hd_X12_tell rfl rfl (Nat.le_of_ble_eq_true rfl) (Nat.le_of_ble_eq_true rfl) rfl (Nat.le_of_ble_eq_true rfl) dX12_orders_190 (Nat.le_refl 0) (Nat.le_refl 0) (kI (fun x190 S hw => ?_))
        exact z_iret hC hr hlk dX12_orders_193 ⟨_, rfl, hw⟩
def w_X12_orders_b140 (q : Int32 → hS → Prop) : Nat → hS → (Nat) → (Int32) → (Int32) → Prop
  | 0, _, _, _, _ => False
  | n + 1, S, v0, v1, v2 => gI S v0 12 21 (fun x142 => (x142 ≤ v2 → gI S v0 12 53 (fun x208 => oK S v0 12 ∧ w_X12_tell (fun x211 S => q x211 S) S v0 x208)) ∧ (¬ x142 ≤ v2 → (∃ n150 : Nat, w_X12_orders_b150 q (fun S v0 v1 v2 => w_X12_orders_b140 q n S v0 v1 v2) n150 S v0 v1 v2 0)))
set_option maxRecDepth 100000 in
set_option maxHeartbeats 4000000 in
theorem t_X12_orders_b140 (hC : zC p R s m args c cX12_orders 4 RX12 G B mc ms 13 347) (hr : meth.sig.returnType = (Option.some FieldType.int)) (hlk : meth.locks = false) (hnm : meth.name = "orders") {q : Int32 → hS → Prop} (n : Nat) : ∀ {S : hS} {v0 : Nat} {v1 : Int32} {v2 : Int32} (hw : w_X12_orders_b140 q n S v0 v1 v2), Z p l e R s m args below meth c (MQ below (hQ G B (iP q)) args s mc ms (fun r => B ≤ r)) G B mc ms 4 S 0 0 140 [some (.ref v0), some (.int v1), some (.int v2), none] [] := by
  induction n with
  | zero => intro S v0 v1 v2 hw; exact (by rw [w_X12_orders_b140] at hw; exact hw.elim)
  | succ n ih =>
    intro S v0 v1 v2 hw
    rw [w_X12_orders_b140] at hw
    refine z_iload_n hC dX12_orders_140 rfl rfl ?_
    refine z_aload_n hC dX12_orders_141 rfl rfl ?_
    refine z_getI hC FX12 21 lk_1376 dX12_orders_142 (by decide) hw (fun x142 hw => ?_)
    refine z_icmp_ge (tgt := 206) hC dX12_orders_145 (by decide) (fun c145 => ?_) (fun c145 => ?_)
    · have hw := hw.1 c145
      refine z_aload_n hC dX12_orders_206 rfl rfl ?_
      refine z_aload_n hC dX12_orders_207 rfl rfl ?_
      refine z_getI hC FX12 53 lk_1408 dX12_orders_208 (by decide) hw (fun x208 hw => ?_)
      refine z_callV (ku' := 0) (kv' := 0) (n := 1) (As := [.int x208]) (st := []) hC (c_X12_tell l G B S v0 x208 _) hw.2 hw.1 rfl lk_1544 lk_1546 lk_41 lk_133 lk_1547 hd_X12_tell rfl rfl (Nat.le_of_ble_eq_true rfl) (Nat.le_of_ble_eq_true rfl) rfl (Nat.le_of_ble_eq_true rfl) dX12_orders_211 (Nat.le_refl 0) (Nat.le_refl 0) (kI (fun x211 S hw => ?_))
      exact z_iret hC hr hlk dX12_orders_214 ⟨_, rfl, hw⟩
    · have hw := hw.2 c145
      refine z_iconst hC ic_0 dX12_orders_148 ?_
      refine z_istore_n (i := 3) (lv' := [some (.ref v0), some (.int v1), some (.int v2), some (.int 0)]) hC rfl dX12_orders_149 (by decide) (hok_v rfl rfl) rfl ?_
      refine z_mask (lv' := [some (.ref v0), some (.int v1), some (.int v2), some (.int 0)]) [true, true, true, true] rfl ?_
      obtain ⟨n150, hw⟩ := hw
      exact t_X12_orders_b150 hC hr hlk hnm (fun hw => ih hw) n150 hw
def w_X12_orders_b104 (q : Int32 → hS → Prop) : Nat → hS → (Nat) → (Int32) → (Int32) → Prop
  | 0, _, _, _, _ => False
  | n + 1, S, v0, v1, v2 => (16 ≤ v2 → pI S v0 12 53 0 (fun S => pI S v0 12 54 (-1) (fun S => (∃ n140 : Nat, w_X12_orders_b140 q n140 S v0 v1 0)))) ∧ (¬ 16 ≤ v2 → gP S v0 12 10 (fun x111 => gP S v0 12 7 (fun x116 => aI S x116 v2 (fun x120 => sI S x111 v2 x120 (fun S => ∀ y122 : Int32, y122 = v2 + 1 → w_X12_orders_b104 q n S v0 v1 y122)))))
set_option maxRecDepth 100000 in
set_option maxHeartbeats 4000000 in
theorem t_X12_orders_b104 (hC : zC p R s m args c cX12_orders 4 RX12 G B mc ms 13 347) (hr : meth.sig.returnType = (Option.some FieldType.int)) (hlk : meth.locks = false) (hnm : meth.name = "orders") {q : Int32 → hS → Prop} (n : Nat) : ∀ {S : hS} {v0 : Nat} {v1 : Int32} {v2 : Int32} (hw : w_X12_orders_b104 q n S v0 v1 v2), Z p l e R s m args below meth c (MQ below (hQ G B (iP q)) args s mc ms (fun r => B ≤ r)) G B mc ms 4 S 0 0 104 [some (.ref v0), some (.int v1), some (.int v2), none] [] := by
  induction n with
  | zero => intro S v0 v1 v2 hw; exact (by rw [w_X12_orders_b104] at hw; exact hw.elim)
  | succ n ih =>
    intro S v0 v1 v2 hw
    rw [w_X12_orders_b104] at hw
    refine z_iload_n hC dX12_orders_104 rfl rfl ?_
    refine z_bipush hC bi_16 dX12_orders_105 ?_
    refine z_icmp_ge (tgt := 128) hC dX12_orders_107 (by decide) (fun c107 => ?_) (fun c107 => ?_)
    · have hw := hw.1 c107
      refine z_aload_n hC dX12_orders_128 rfl rfl ?_
      refine z_iconst hC ic_0 dX12_orders_129 ?_
      refine z_putI hC FX12 53 lk_1408 dX12_orders_130 (by decide) rfl rfl hw (fun S hw => ?_)
      refine z_aload_n hC dX12_orders_133 rfl rfl ?_
      refine z_iconst hC ic_m1 dX12_orders_134 ?_
      refine z_putI hC FX12 54 lk_1409 dX12_orders_135 (by decide) rfl rfl hw (fun S hw => ?_)
      refine z_iconst hC ic_0 dX12_orders_138 ?_
      refine z_istore_n (i := 2) (lv' := [some (.ref v0), some (.int v1), some (.int 0), none]) hC rfl dX12_orders_139 (by decide) (hok_v rfl rfl) rfl ?_
      refine z_mask (lv' := [some (.ref v0), some (.int v1), some (.int 0), none]) [true, true, true, false] rfl ?_
      obtain ⟨n140, hw⟩ := hw
      exact t_X12_orders_b140 hC hr hlk hnm n140 hw
    · have hw := hw.2 c107
      refine z_aload_n hC dX12_orders_110 rfl rfl ?_
      refine z_getP hC FX12 10 lk_1365 dX12_orders_111 (by decide) hw (fun x111 hw => ?_)
      refine z_iload_n hC dX12_orders_114 rfl rfl ?_
      refine z_aload_n hC dX12_orders_115 rfl rfl ?_
      refine z_getP hC FX12 7 lk_1362 dX12_orders_116 (by decide) hw (fun x116 hw => ?_)
      refine z_iload_n hC dX12_orders_119 rfl rfl ?_
      refine z_aldI hC dX12_orders_120 hw (fun x120 hw => ?_)
      refine z_astI hC dX12_orders_121 hw (fun S hw => ?_)
      refine z_inc (i := 2) hC ic_1 dX12_orders_122 rfl (by decide) (hok_v rfl rfl) (fun y122 e122 => ?_)
      have hw := hw y122 e122
      refine z_goto (tgt := 104) hC dX12_orders_125 (by decide) ?_
      refine z_mask (lv' := [some (.ref v0), some (.int v1), some (.int y122), none]) [true, true, true, false] rfl ?_
      exact ih hw
def w_X12_orders_b77 (q : Int32 → hS → Prop) : Nat → hS → (Nat) → (Int32) → (Int32) → Prop
  | 0, _, _, _, _ => False
  | n + 1, S, v0, v1, v2 => (1936 ≤ v2 → (∃ n104 : Nat, w_X12_orders_b104 q n104 S v0 v1 0)) ∧ (¬ 1936 ≤ v2 → gP S v0 12 9 (fun x85 => gP S v0 12 6 (fun x90 => aI S x90 v2 (fun x94 => sI S x85 v2 x94 (fun S => ∀ y96 : Int32, y96 = v2 + 1 → w_X12_orders_b77 q n S v0 v1 y96)))))
set_option maxRecDepth 100000 in
set_option maxHeartbeats 4000000 in
theorem t_X12_orders_b77 (hC : zC p R s m args c cX12_orders 4 RX12 G B mc ms 13 347) (hr : meth.sig.returnType = (Option.some FieldType.int)) (hlk : meth.locks = false) (hnm : meth.name = "orders") {q : Int32 → hS → Prop} (n : Nat) : ∀ {S : hS} {v0 : Nat} {v1 : Int32} {v2 : Int32} (hw : w_X12_orders_b77 q n S v0 v1 v2), Z p l e R s m args below meth c (MQ below (hQ G B (iP q)) args s mc ms (fun r => B ≤ r)) G B mc ms 4 S 0 0 77 [some (.ref v0), some (.int v1), some (.int v2), none] [] := by
  induction n with
  | zero => intro S v0 v1 v2 hw; exact (by rw [w_X12_orders_b77] at hw; exact hw.elim)
  | succ n ih =>
    intro S v0 v1 v2 hw
    rw [w_X12_orders_b77] at hw
    refine z_iload_n hC dX12_orders_77 rfl rfl ?_
    refine z_sipush hC si_1936 dX12_orders_78 ?_
    refine z_icmp_ge (tgt := 102) hC dX12_orders_81 (by decide) (fun c81 => ?_) (fun c81 => ?_)
    · have hw := hw.1 c81
      refine z_iconst hC ic_0 dX12_orders_102 ?_
      refine z_istore_n (i := 2) (lv' := [some (.ref v0), some (.int v1), some (.int 0), none]) hC rfl dX12_orders_103 (by decide) (hok_v rfl rfl) rfl ?_
      refine z_mask (lv' := [some (.ref v0), some (.int v1), some (.int 0), none]) [true, true, true, false] rfl ?_
      obtain ⟨n104, hw⟩ := hw
      exact t_X12_orders_b104 hC hr hlk hnm n104 hw
    · have hw := hw.2 c81
      refine z_aload_n hC dX12_orders_84 rfl rfl ?_
      refine z_getP hC FX12 9 lk_1364 dX12_orders_85 (by decide) hw (fun x85 hw => ?_)
      refine z_iload_n hC dX12_orders_88 rfl rfl ?_
      refine z_aload_n hC dX12_orders_89 rfl rfl ?_
      refine z_getP hC FX12 6 lk_1361 dX12_orders_90 (by decide) hw (fun x90 hw => ?_)
      refine z_iload_n hC dX12_orders_93 rfl rfl ?_
      refine z_aldI hC dX12_orders_94 hw (fun x94 hw => ?_)
      refine z_astI hC dX12_orders_95 hw (fun S hw => ?_)
      refine z_inc (i := 2) hC ic_1 dX12_orders_96 rfl (by decide) (hok_v rfl rfl) (fun y96 e96 => ?_)
      have hw := hw y96 e96
      refine z_goto (tgt := 77) hC dX12_orders_99 (by decide) ?_
      refine z_mask (lv' := [some (.ref v0), some (.int v1), some (.int y96), none]) [true, true, true, false] rfl ?_
      exact ih hw
def w_X12_orders_b46 (q : Int32 → hS → Prop) (S : hS) (v0 : Nat) : Prop := oK S v0 12 ∧ w_X12_endText (fun S => gI S v0 12 19 (fun x51 => (x51 = 0 → oK S v0 12 ∧ w_X12_keepAll (fun S => gI S v0 12 8 (fun x71 => (∃ n77 : Nat, w_X12_orders_b77 q n77 S v0 x71 0))) S v0 17) ∧ (¬ x51 = 0 → oK S v0 12 ∧ w_X12_tell (fun x60 S => q x60 S) S v0 (-6)))) S v0
set_option maxRecDepth 100000 in
set_option maxHeartbeats 4000000 in
theorem t_X12_orders_b46 (hC : zC p R s m args c cX12_orders 4 RX12 G B mc ms 13 347) (hr : meth.sig.returnType = (Option.some FieldType.int)) (hlk : meth.locks = false) (hnm : meth.name = "orders") {q : Int32 → hS → Prop} {S : hS} {v0 : Nat} (hw : w_X12_orders_b46 q S v0) : Z p l e R s m args below meth c (MQ below (hQ G B (iP q)) args s mc ms (fun r => B ≤ r)) G B mc ms 4 S 0 0 46 [some (.ref v0), none, none, none] [] := by
  unfold w_X12_orders_b46 at hw
  refine z_aload_n hC dX12_orders_46 rfl rfl ?_
  refine z_callV (ku' := 0) (kv' := 0) (n := 0) (As := []) (st := []) hC (c_X12_endText l G B S v0 _) hw.2 hw.1 rfl lk_1831 lk_1833 lk_85 lk_133 lk_1834 hd_X12_endText rfl rfl (Nat.le_of_ble_eq_true rfl) (Nat.le_of_ble_eq_true rfl) rfl (Nat.le_of_ble_eq_true rfl) dX12_orders_47 (Nat.le_refl 0) (Nat.le_refl 0) (kV (fun S hw => ?_))
  refine z_aload_n hC dX12_orders_50 rfl rfl ?_
  refine z_getI hC FX12 19 lk_1374 dX12_orders_51 (by decide) hw (fun x51 hw => ?_)
  refine z_if_eq (tgt := 64) hC dX12_orders_54 (by decide) (fun c54 => ?_) (fun c54 => ?_)
  · have hw := hw.1 c54
    refine z_aload_n hC dX12_orders_64 rfl rfl ?_
    refine z_bipush hC bi_17 dX12_orders_65 ?_
    refine z_callV (ku' := 0) (kv' := 0) (n := 1) (As := [.int 17]) (st := []) hC (c_X12_keepAll l G B S v0 17 _) hw.2 hw.1 rfl lk_1876 lk_1878 lk_93 lk_133 lk_1879 hd_X12_keepAll rfl rfl (Nat.le_of_ble_eq_true rfl) (Nat.le_of_ble_eq_true rfl) rfl (Nat.le_of_ble_eq_true rfl) dX12_orders_67 (Nat.le_refl 0) (Nat.le_refl 0) (kV (fun S hw => ?_))
    refine z_aload_n hC dX12_orders_70 rfl rfl ?_
    refine z_getI hC FX12 8 lk_1363 dX12_orders_71 (by decide) hw (fun x71 hw => ?_)
    refine z_istore_n (i := 1) (lv' := [some (.ref v0), some (.int x71), none, none]) hC rfl dX12_orders_74 (by decide) (hok_v rfl rfl) rfl ?_
    refine z_iconst hC ic_0 dX12_orders_75 ?_
    refine z_istore_n (i := 2) (lv' := [some (.ref v0), some (.int x71), some (.int 0), none]) hC rfl dX12_orders_76 (by decide) (hok_v rfl rfl) rfl ?_
    refine z_mask (lv' := [some (.ref v0), some (.int x71), some (.int 0), none]) [true, true, true, false] rfl ?_
    obtain ⟨n77, hw⟩ := hw
    exact t_X12_orders_b77 hC hr hlk hnm n77 hw
  · have hw := hw.2 c54
    refine z_aload_n hC dX12_orders_57 rfl rfl ?_
    refine z_bipush hC bi_m6 dX12_orders_58 ?_
    refine z_callV (ku' := 0) (kv' := 0) (n := 1) (As := [.int (-6)]) (st := []) hC (c_X12_tell l G B S v0 (-6) _) hw.2 hw.1 rfl lk_1544 lk_1546 lk_41 lk_133 lk_1547 hd_X12_tell rfl rfl (Nat.le_of_ble_eq_true rfl) (Nat.le_of_ble_eq_true rfl) rfl (Nat.le_of_ble_eq_true rfl) dX12_orders_60 (Nat.le_refl 0) (Nat.le_refl 0) (kI (fun x60 S hw => ?_))
    exact z_iret hC hr hlk dX12_orders_63 ⟨_, rfl, hw⟩
def w_X12_orders_b19 (q : Int32 → hS → Prop) : Nat → hS → (Nat) → Prop
  | 0, _, _ => False
  | n + 1, S, v0 => gI S v0 12 19 (fun x20 => (¬ x20 = 0 → w_X12_orders_b46 q S v0) ∧ (x20 = 0 → oK S v0 12 ∧ w_X12_isSign (fun x29 S => (x29 = 0 → w_X12_orders_b46 q S v0) ∧ (¬ x29 = 0 → oK S v0 12 ∧ w_X12_next (fun S => oK S v0 12 ∧ w_X12_readOrder (fun S => w_X12_orders_b19 q n S v0) S v0) S v0)) S v0 59))
set_option maxRecDepth 100000 in
set_option maxHeartbeats 4000000 in
theorem t_X12_orders_b19 (hC : zC p R s m args c cX12_orders 4 RX12 G B mc ms 13 347) (hr : meth.sig.returnType = (Option.some FieldType.int)) (hlk : meth.locks = false) (hnm : meth.name = "orders") {q : Int32 → hS → Prop} (n : Nat) : ∀ {S : hS} {v0 : Nat} (hw : w_X12_orders_b19 q n S v0), Z p l e R s m args below meth c (MQ below (hQ G B (iP q)) args s mc ms (fun r => B ≤ r)) G B mc ms 4 S 0 0 19 [some (.ref v0), none, none, none] [] := by
  induction n with
  | zero => intro S v0 hw; exact (by rw [w_X12_orders_b19] at hw; exact hw.elim)
  | succ n ih =>
    intro S v0 hw
    rw [w_X12_orders_b19] at hw
    refine z_aload_n hC dX12_orders_19 rfl rfl ?_
    refine z_getI hC FX12 19 lk_1374 dX12_orders_20 (by decide) hw (fun x20 hw => ?_)
    refine z_if_ne (tgt := 46) hC dX12_orders_23 (by decide) (fun c23 => ?_) (fun c23 => ?_)
    · have hw := hw.1 c23
      refine z_mask (lv' := [some (.ref v0), none, none, none]) [true, false, false, false] rfl ?_
      exact t_X12_orders_b46 hC hr hlk hnm hw
    · have hw := hw.2 c23
      refine z_aload_n hC dX12_orders_26 rfl rfl ?_
      refine z_bipush hC bi_59 dX12_orders_27 ?_
      refine z_callV (ku' := 0) (kv' := 0) (n := 1) (As := [.int 59]) (st := []) hC (c_X12_isSign l G B S v0 59 _) hw.2 hw.1 rfl lk_1768 lk_1770 lk_72 lk_133 lk_1771 hd_X12_isSign rfl rfl (Nat.le_of_ble_eq_true rfl) (Nat.le_of_ble_eq_true rfl) rfl (Nat.le_of_ble_eq_true rfl) dX12_orders_29 (Nat.le_refl 0) (Nat.le_refl 0) (kI (fun x29 S hw => ?_))
      refine z_if_eq (tgt := 46) hC dX12_orders_32 (by decide) (fun c32 => ?_) (fun c32 => ?_)
      · have hw := hw.1 c32
        refine z_mask (lv' := [some (.ref v0), none, none, none]) [true, false, false, false] rfl ?_
        exact t_X12_orders_b46 hC hr hlk hnm hw
      · have hw := hw.2 c32
        refine z_aload_n hC dX12_orders_35 rfl rfl ?_
        refine z_callV (ku' := 0) (kv' := 0) (n := 0) (As := []) (st := []) hC (c_X12_next l G B S v0 _) hw.2 hw.1 rfl lk_1729 lk_1731 lk_65 lk_133 lk_1732 hd_X12_next rfl rfl (Nat.le_of_ble_eq_true rfl) (Nat.le_of_ble_eq_true rfl) rfl (Nat.le_of_ble_eq_true rfl) dX12_orders_36 (Nat.le_refl 0) (Nat.le_refl 0) (kV (fun S hw => ?_))
        refine z_aload_n hC dX12_orders_39 rfl rfl ?_
        refine z_callV (ku' := 0) (kv' := 0) (n := 0) (As := []) (st := []) hC (c_X12_readOrder l G B S v0 _) hw.2 hw.1 rfl lk_2022 lk_2024 lk_112 lk_133 lk_2025 hd_X12_readOrder rfl rfl (Nat.le_of_ble_eq_true rfl) (Nat.le_of_ble_eq_true rfl) rfl (Nat.le_of_ble_eq_true rfl) dX12_orders_40 (Nat.le_refl 0) (Nat.le_refl 0) (kV (fun S hw => ?_))
        refine z_goto (tgt := 19) hC dX12_orders_43 (by decide) ?_
        refine z_mask (lv' := [some (.ref v0), none, none, none]) [true, false, false, false] rfl ?_
        exact ih hw
def w_X12_orders (q : Int32 → hS → Prop) (S : hS) (v0 : Nat) : Prop := pI S v0 12 0 0 (fun S => pI S v0 12 55 (-1) (fun S => oK S v0 12 ∧ w_X12_beginText (fun S => oK S v0 12 ∧ w_X12_readOrder (fun S => (∃ n19 : Nat, w_X12_orders_b19 q n19 S v0)) S v0) S v0 1))
set_option maxRecDepth 100000 in
set_option maxHeartbeats 4000000 in
theorem c_X12_orders (l : Launch) (G : hG) (B : Nat) (S : hS) (v0 : Nat) (q : Int32 → hS → Prop) : Met l yX12_orders (hws yX12_orders cX12_orders 4 (Option.some FieldType.int)) ({ frames := 13, cells := 0, slots := 0, locals := 347 }) (hPc G B S [.ref v0] (w_X12_orders q S v0)) (hQ G B (iP q)) (0) (0) (fun r => B ≤ r) := by
  refine hMet (rm := { frames := 13, cells := 0, slots := 0, locals := 347 }) (lv := [some (.ref v0), none, none, none]) (own := RX12) (fr := 13) (lo := 347) (by decide) rfl rfl rfl (Nat.le_of_ble_eq_true rfl) rfl (fun hw p e R s m args below meth c hC hr hlk hnm => ?_)
  unfold w_X12_orders at hw
  refine z_aload_n hC dX12_orders_0 rfl rfl ?_
  refine z_iconst hC ic_0 dX12_orders_1 ?_
  refine z_putI hC FX12 0 lk_1355 dX12_orders_2 (by decide) rfl rfl hw (fun S hw => ?_)
  refine z_aload_n hC dX12_orders_5 rfl rfl ?_
  refine z_iconst hC ic_m1 dX12_orders_6 ?_
  refine z_putI hC FX12 55 lk_1410 dX12_orders_7 (by decide) rfl rfl hw (fun S hw => ?_)
  refine z_aload_n hC dX12_orders_10 rfl rfl ?_
  refine z_iconst hC ic_1 dX12_orders_11 ?_
  refine z_callV (ku' := 0) (kv' := 0) (n := 1) (As := [.int 1]) (st := []) hC (c_X12_beginText l G B S v0 1 _) hw.2 hw.1 rfl lk_1721 lk_1723 lk_63 lk_133 lk_1724 hd_X12_beginText rfl rfl (Nat.le_of_ble_eq_true rfl) (Nat.le_of_ble_eq_true rfl) rfl (Nat.le_of_ble_eq_true rfl) dX12_orders_12 (Nat.le_refl 0) (Nat.le_refl 0) (kV (fun S hw => ?_))
  refine z_aload_n hC dX12_orders_15 rfl rfl ?_
  refine z_callV (ku' := 0) (kv' := 0) (n := 0) (As := []) (st := []) hC (c_X12_readOrder l G B S v0 _) hw.2 hw.1 rfl lk_2022 lk_2024 lk_112 lk_133 lk_2025 hd_X12_readOrder rfl rfl (Nat.le_of_ble_eq_true rfl) (Nat.le_of_ble_eq_true rfl) rfl (Nat.le_of_ble_eq_true rfl) dX12_orders_16 (Nat.le_refl 0) (Nat.le_refl 0) (kV (fun S hw => ?_))
  refine z_mask (lv' := [some (.ref v0), none, none, none]) [true, false, false, false] rfl ?_
  obtain ⟨n19, hw⟩ := hw
  exact t_X12_orders_b19 hC hr hlk hnm n19 hw
end
section
variable {p : Program} {l : Launch} {e : Env} {R : Room} {s : State} {m : MethodId} {args : Array Value} {below : List Frame} {meth : Method} {c : Code} {G : hG} {B mc ms : Nat}
def w_X12_stopped (q : Int32 → hS → Prop) (S : hS) (v0 : Nat) : Prop := pI S v0 12 0 0 (fun S => gI S v0 12 55 (fun x6 => q x6 S))
set_option maxRecDepth 100000 in
set_option maxHeartbeats 4000000 in
theorem c_X12_stopped (l : Launch) (G : hG) (B : Nat) (S : hS) (v0 : Nat) (q : Int32 → hS → Prop) : Met l yX12_stopped (hws yX12_stopped cX12_stopped 1 (Option.some FieldType.int)) ({ frames := 1, cells := 0, slots := 0, locals := 60 }) (hPc G B S [.ref v0] (w_X12_stopped q S v0)) (hQ G B (iP q)) (0) (0) (fun r => B ≤ r) := by
  refine hMet (rm := { frames := 1, cells := 0, slots := 0, locals := 60 }) (lv := [some (.ref v0)]) (own := RX12) (fr := 1) (lo := 60) (by decide) rfl rfl rfl (Nat.le_of_ble_eq_true rfl) rfl (fun hw p e R s m args below meth c hC hr hlk hnm => ?_)
  unfold w_X12_stopped at hw
  refine z_aload_n hC dX12_stopped_0 rfl rfl ?_
  refine z_iconst hC ic_0 dX12_stopped_1 ?_
  refine z_putI hC FX12 0 lk_1355 dX12_stopped_2 (by decide) rfl rfl hw (fun S hw => ?_)
  refine z_aload_n hC dX12_stopped_5 rfl rfl ?_
  refine z_getI hC FX12 55 lk_1410 dX12_stopped_6 (by decide) hw (fun x6 hw => ?_)
  exact z_iret hC hr hlk dX12_stopped_9 ⟨_, rfl, hw⟩
end
section
variable {p : Program} {l : Launch} {e : Env} {R : Room} {s : State} {m : MethodId} {args : Array Value} {below : List Frame} {meth : Method} {c : Code} {G : hG} {B mc ms : Nat}
def w_X12_draw (q : Int32 → hS → Prop) (S : hS) (v0 : Nat) (v1 : Int32) : Prop := gJ S v0 12 57 (fun x2 => pJ S v0 12 57 (((x2 * 1103) + 12345) - ((x2 * 1103) + 12345) / 1000003 * 1000003) (fun S => gJ S v0 12 57 (fun x21 => (¬ (Int32.toInt64 v1) = 0) ∧ q (Int64.toInt32 (x21 - x21 / (Int32.toInt64 v1) * (Int32.toInt64 v1))) S)))
set_option maxRecDepth 100000 in
set_option maxHeartbeats 4000000 in
theorem c_X12_draw (l : Launch) (G : hG) (B : Nat) (S : hS) (v0 : Nat) (v1 : Int32) (q : Int32 → hS → Prop) : Met l yX12_draw (hws yX12_draw cX12_draw 2 (Option.some FieldType.int)) ({ frames := 1, cells := 0, slots := 0, locals := 60 }) (hPc G B S [.ref v0, .int v1] (w_X12_draw q S v0 v1)) (hQ G B (iP q)) (0) (0) (fun r => B ≤ r) := by
  refine hMet (rm := { frames := 1, cells := 0, slots := 0, locals := 60 }) (lv := [some (.ref v0), some (.int v1)]) (own := RX12) (fr := 1) (lo := 60) (by decide) rfl rfl rfl (Nat.le_of_ble_eq_true rfl) rfl (fun hw p e R s m args below meth c hC hr hlk hnm => ?_)
  unfold w_X12_draw at hw
  refine z_aload_n hC dX12_draw_0 rfl rfl ?_
  refine z_aload_n hC dX12_draw_1 rfl rfl ?_
  refine z_getJ hC FX12 57 lk_1412 dX12_draw_2 (by decide) hw (fun x2 hw => ?_)
  refine z_ldc2 hC lk_2065 dX12_draw_5 ?_
  refine z_lmul hC dX12_draw_8 ?_
  refine z_ldc2 hC lk_2066 dX12_draw_9 ?_
  refine z_ladd hC dX12_draw_12 ?_
  refine z_ldc2 hC lk_2067 dX12_draw_13 ?_
  refine z_lrem hC (by decide) dX12_draw_16 ?_
  refine z_putJ hC FX12 57 lk_1412 dX12_draw_17 (by decide) rfl rfl hw (fun S hw => ?_)
  refine z_aload_n hC dX12_draw_20 rfl rfl ?_
  refine z_getJ hC FX12 57 lk_1412 dX12_draw_21 (by decide) hw (fun x21 hw => ?_)
  refine z_iload_n hC dX12_draw_24 rfl rfl ?_
  refine z_i2l hC rfl dX12_draw_25 ?_
  refine z_lrem hC hw.1 dX12_draw_26 ?_
  have hw := hw.2
  refine z_l2i hC rfl dX12_draw_27 ?_
  exact z_iret hC hr hlk dX12_draw_28 ⟨_, rfl, hw⟩
end
section
variable {p : Program} {l : Launch} {e : Env} {R : Room} {s : State} {m : MethodId} {args : Array Value} {below : List Frame} {meth : Method} {c : Code} {G : hG} {B mc ms : Nat}
def w_X12_generations_b29 (q : Int32 → hS → Prop) (S : hS) (v0 : Nat) : Prop := oK S v0 12 ∧ w_X12_tell (fun x31 S => q x31 S) S v0 (-1)
set_option maxRecDepth 100000 in
set_option maxHeartbeats 4000000 in
theorem t_X12_generations_b29 (hC : zC p R s m args c cX12_generations 8 RX12 G B mc ms 9 251) (hr : meth.sig.returnType = (Option.some FieldType.int)) (hlk : meth.locks = false) (hnm : meth.name = "generations") {q : Int32 → hS → Prop} {S : hS} {v0 : Nat} (hw : w_X12_generations_b29 q S v0) : Z p l e R s m args below meth c (MQ below (hQ G B (iP q)) args s mc ms (fun r => B ≤ r)) G B mc ms 8 S 0 0 29 [some (.ref v0), none, none, none, none, none, none, none] [] := by
  unfold w_X12_generations_b29 at hw
  refine z_aload_n hC dX12_generations_29 rfl rfl ?_
  refine z_iconst hC ic_m1 dX12_generations_30 ?_
  refine z_callV (ku' := 0) (kv' := 0) (n := 1) (As := [.int (-1)]) (st := []) hC (c_X12_tell l G B S v0 (-1) _) hw.2 hw.1 rfl lk_1544 lk_1546 lk_41 lk_133 lk_1547 hd_X12_tell rfl rfl (Nat.le_of_ble_eq_true rfl) (Nat.le_of_ble_eq_true rfl) rfl (Nat.le_of_ble_eq_true rfl) dX12_generations_31 (Nat.le_refl 0) (Nat.le_refl 0) (kI (fun x31 S hw => ?_))
  exact z_iret hC hr hlk dX12_generations_34 ⟨_, rfl, hw⟩
def w_X12_generations_b53 (q : Int32 → hS → Prop) (S : hS) (v0 : Nat) : Prop := oK S v0 12 ∧ w_X12_tell (fun x56 S => q x56 S) S v0 (-3)
set_option maxRecDepth 100000 in
set_option maxHeartbeats 4000000 in
theorem t_X12_generations_b53 (hC : zC p R s m args c cX12_generations 8 RX12 G B mc ms 9 251) (hr : meth.sig.returnType = (Option.some FieldType.int)) (hlk : meth.locks = false) (hnm : meth.name = "generations") {q : Int32 → hS → Prop} {S : hS} {v0 : Nat} (hw : w_X12_generations_b53 q S v0) : Z p l e R s m args below meth c (MQ below (hQ G B (iP q)) args s mc ms (fun r => B ≤ r)) G B mc ms 8 S 0 0 53 [some (.ref v0), none, none, none, none, none, none, none] [] := by
  unfold w_X12_generations_b53 at hw
  refine z_aload_n hC dX12_generations_53 rfl rfl ?_
  refine z_bipush hC bi_m3 dX12_generations_54 ?_
  refine z_callV (ku' := 0) (kv' := 0) (n := 1) (As := [.int (-3)]) (st := []) hC (c_X12_tell l G B S v0 (-3) _) hw.2 hw.1 rfl lk_1544 lk_1546 lk_41 lk_133 lk_1547 hd_X12_tell rfl rfl (Nat.le_of_ble_eq_true rfl) (Nat.le_of_ble_eq_true rfl) rfl (Nat.le_of_ble_eq_true rfl) dX12_generations_56 (Nat.le_refl 0) (Nat.le_refl 0) (kI (fun x56 S hw => ?_))
  exact z_iret hC hr hlk dX12_generations_59 ⟨_, rfl, hw⟩
def w_X12_generations_b182 (q : Int32 → hS → Prop) (K77 : hS → (Nat) → (Int32) → (Int32) → (Int32) → Prop) (S : hS) (v0 : Nat) (v2 : Int32) (v3 : Int32) (v4 : Int32) : Prop := ∀ y182 : Int32, y182 = v4 + 1 → K77 S v0 v2 v3 y182
set_option maxRecDepth 100000 in
set_option maxHeartbeats 4000000 in
theorem t_X12_generations_b182 (hC : zC p R s m args c cX12_generations 8 RX12 G B mc ms 9 251) (hr : meth.sig.returnType = (Option.some FieldType.int)) (hlk : meth.locks = false) (hnm : meth.name = "generations") {q : Int32 → hS → Prop} {K77 : hS → (Nat) → (Int32) → (Int32) → (Int32) → Prop} (hK77 : ∀ {S : hS} {v0 : Nat} {v2 : Int32} {v3 : Int32} {v4 : Int32}, K77 S v0 v2 v3 v4 → Z p l e R s m args below meth c (MQ below (hQ G B (iP q)) args s mc ms (fun r => B ≤ r)) G B mc ms 8 S 0 0 77 [some (.ref v0), none, some (.int v2), some (.int v3), some (.int v4), none, none, none] []) {S : hS} {v0 : Nat} {v2 : Int32} {v3 : Int32} {v4 : Int32} (hw : w_X12_generations_b182 q K77 S v0 v2 v3 v4) : Z p l e R s m args below meth c (MQ below (hQ G B (iP q)) args s mc ms (fun r => B ≤ r)) G B mc ms 8 S 0 0 182 [some (.ref v0), none, some (.int v2), some (.int v3), some (.int v4), none, none, none] [] := by
  unfold w_X12_generations_b182 at hw
  refine z_inc (i := 4) hC ic_1 dX12_generations_182 rfl (by decide) (hok_v rfl rfl) (fun y182 e182 => ?_)
  have hw := hw y182 e182
  refine z_goto (tgt := 77) hC dX12_generations_185 (by decide) ?_
  refine z_mask (lv' := [some (.ref v0), none, some (.int v2), some (.int v3), some (.int y182), none, none, none]) [true, false, true, true, true, false, false, false] rfl ?_
  exact hK77 hw
def w_X12_generations_b172 (q : Int32 → hS → Prop) (K77 : hS → (Nat) → (Int32) → (Int32) → (Int32) → Prop) (S : hS) (v0 : Nat) (v2 : Int32) (v3 : Int32) (v4 : Int32) (v7 : Int32) : Prop := (¬ v7 = 1 → w_X12_generations_b182 q K77 S v0 v2 v3 v4) ∧ (v7 = 1 → oK S v0 12 ∧ w_X12_passIt (fun S => w_X12_generations_b182 q K77 S v0 v2 v3 v4) S v0)
set_option maxRecDepth 100000 in
set_option maxHeartbeats 4000000 in
theorem t_X12_generations_b172 (hC : zC p R s m args c cX12_generations 8 RX12 G B mc ms 9 251) (hr : meth.sig.returnType = (Option.some FieldType.int)) (hlk : meth.locks = false) (hnm : meth.name = "generations") {q : Int32 → hS → Prop} {K77 : hS → (Nat) → (Int32) → (Int32) → (Int32) → Prop} (hK77 : ∀ {S : hS} {v0 : Nat} {v2 : Int32} {v3 : Int32} {v4 : Int32}, K77 S v0 v2 v3 v4 → Z p l e R s m args below meth c (MQ below (hQ G B (iP q)) args s mc ms (fun r => B ≤ r)) G B mc ms 8 S 0 0 77 [some (.ref v0), none, some (.int v2), some (.int v3), some (.int v4), none, none, none] []) {S : hS} {v0 : Nat} {v2 : Int32} {v3 : Int32} {v4 : Int32} {v7 : Int32} (hw : w_X12_generations_b172 q K77 S v0 v2 v3 v4 v7) : Z p l e R s m args below meth c (MQ below (hQ G B (iP q)) args s mc ms (fun r => B ≤ r)) G B mc ms 8 S 0 0 172 [some (.ref v0), none, some (.int v2), some (.int v3), some (.int v4), none, none, some (.int v7)] [] := by
  unfold w_X12_generations_b172 at hw
  refine z_iload hC dX12_generations_172 rfl ?_
  refine z_iconst hC ic_1 dX12_generations_174 ?_
  refine z_icmp_ne (tgt := 182) hC dX12_generations_175 (by decide) (fun c175 => ?_) (fun c175 => ?_)
  · have hw := hw.1 c175
    refine z_mask (lv' := [some (.ref v0), none, some (.int v2), some (.int v3), some (.int v4), none, none, none]) [true, false, true, true, true, false, false, false] rfl ?_
    exact t_X12_generations_b182 hC hr hlk hnm hK77 hw
  · have hw := hw.2 c175
    refine z_aload_n hC dX12_generations_178 rfl rfl ?_
    refine z_callV (ku' := 0) (kv' := 0) (n := 0) (As := []) (st := []) hC (c_X12_passIt l G B S v0 _) hw.2 hw.1 rfl lk_1919 lk_1921 lk_100 lk_133 lk_1922 hd_X12_passIt rfl rfl (Nat.le_of_ble_eq_true rfl) (Nat.le_of_ble_eq_true rfl) rfl (Nat.le_of_ble_eq_true rfl) dX12_generations_179 (Nat.le_refl 0) (Nat.le_refl 0) (kV (fun S hw => ?_))
    refine z_mask (lv' := [some (.ref v0), none, some (.int v2), some (.int v3), some (.int v4), none, none, none]) [true, false, true, true, true, false, false, false] rfl ?_
    exact t_X12_generations_b182 hC hr hlk hnm hK77 hw
def w_X12_generations_b149 (q : Int32 → hS → Prop) (K77 : hS → (Nat) → (Int32) → (Int32) → (Int32) → Prop) (S : hS) (v0 : Nat) (v2 : Int32) (v4 : Int32) (v5 : Int32) (v7 : Int32) (t0 : Int32) (t1 : Int32) : Prop := ∀ y150 : Int32, y150 = (t1 + t0) → (¬ v7 = 0 → w_X12_generations_b172 q K77 S v0 v2 y150 v4 v7) ∧ (v7 = 0 → oK S v0 12 ∧ w_X12_lives (fun x159 S => (x159 = 0 → w_X12_generations_b172 q K77 S v0 v2 y150 v4 v7) ∧ (¬ x159 = 0 → oK S v0 12 ∧ w_X12_dieIt (fun x168 S => w_X12_generations_b172 q K77 S v0 v2 y150 v4 v7) S v0 v5)) S v0 v5)
set_option maxRecDepth 100000 in
set_option maxHeartbeats 4000000 in
theorem t_X12_generations_b149 (hC : zC p R s m args c cX12_generations 8 RX12 G B mc ms 9 251) (hr : meth.sig.returnType = (Option.some FieldType.int)) (hlk : meth.locks = false) (hnm : meth.name = "generations") {q : Int32 → hS → Prop} {K77 : hS → (Nat) → (Int32) → (Int32) → (Int32) → Prop} (hK77 : ∀ {S : hS} {v0 : Nat} {v2 : Int32} {v3 : Int32} {v4 : Int32}, K77 S v0 v2 v3 v4 → Z p l e R s m args below meth c (MQ below (hQ G B (iP q)) args s mc ms (fun r => B ≤ r)) G B mc ms 8 S 0 0 77 [some (.ref v0), none, some (.int v2), some (.int v3), some (.int v4), none, none, none] []) {S : hS} {v0 : Nat} {v2 : Int32} {v4 : Int32} {v5 : Int32} {v7 : Int32} {t0 : Int32} {t1 : Int32} (hw : w_X12_generations_b149 q K77 S v0 v2 v4 v5 v7 t0 t1) : Z p l e R s m args below meth c (MQ below (hQ G B (iP q)) args s mc ms (fun r => B ≤ r)) G B mc ms 8 S 0 0 149 [some (.ref v0), none, some (.int v2), none, some (.int v4), some (.int v5), none, some (.int v7)] [.int t0, .int t1] := by
  unfold w_X12_generations_b149 at hw
  refine z_iadd hC dX12_generations_149 ?_
  refine z_nmI (fun y150 e150 => ?_)
  have hw := hw y150 e150
  refine z_istore_n (i := 3) (lv' := [some (.ref v0), none, some (.int v2), some (.int y150), some (.int v4), some (.int v5), none, some (.int v7)]) hC rfl dX12_generations_150 (by decide) (hok_v rfl rfl) rfl ?_
  refine z_iload hC dX12_generations_151 rfl ?_
  refine z_if_ne (tgt := 172) hC dX12_generations_153 (by decide) (fun c153 => ?_) (fun c153 => ?_)
  · have hw := hw.1 c153
    refine z_mask (lv' := [some (.ref v0), none, some (.int v2), some (.int y150), some (.int v4), none, none, some (.int v7)]) [true, false, true, true, true, false, false, true] rfl ?_
    exact t_X12_generations_b172 hC hr hlk hnm hK77 hw
  · have hw := hw.2 c153
    refine z_aload_n hC dX12_generations_156 rfl rfl ?_
    refine z_iload hC dX12_generations_157 rfl ?_
    refine z_callV (ku' := 0) (kv' := 0) (n := 1) (As := [.int v5]) (st := []) hC (c_X12_lives l G B S v0 v5 _) hw.2 hw.1 rfl lk_1644 lk_1646 lk_56 lk_133 lk_1647 hd_X12_lives rfl rfl (Nat.le_of_ble_eq_true rfl) (Nat.le_of_ble_eq_true rfl) rfl (Nat.le_of_ble_eq_true rfl) dX12_generations_159 (Nat.le_refl 0) (Nat.le_refl 0) (kI (fun x159 S hw => ?_))
    refine z_if_eq (tgt := 172) hC dX12_generations_162 (by decide) (fun c162 => ?_) (fun c162 => ?_)
    · have hw := hw.1 c162
      refine z_mask (lv' := [some (.ref v0), none, some (.int v2), some (.int y150), some (.int v4), none, none, some (.int v7)]) [true, false, true, true, true, false, false, true] rfl ?_
      exact t_X12_generations_b172 hC hr hlk hnm hK77 hw
    · have hw := hw.2 c162
      refine z_aload_n hC dX12_generations_165 rfl rfl ?_
      refine z_iload hC dX12_generations_166 rfl ?_
      refine z_callV (ku' := 0) (kv' := 0) (n := 1) (As := [.int v5]) (st := []) hC (c_X12_dieIt l G B S v0 v5 _) hw.2 hw.1 rfl lk_1900 lk_1902 lk_97 lk_133 lk_1903 hd_X12_dieIt rfl rfl (Nat.le_of_ble_eq_true rfl) (Nat.le_of_ble_eq_true rfl) rfl (Nat.le_of_ble_eq_true rfl) dX12_generations_168 (Nat.le_refl 0) (Nat.le_refl 0) (kI (fun x168 S hw => ?_))
      refine z_pop hC rfl dX12_generations_171 ?_
      refine z_mask (lv' := [some (.ref v0), none, some (.int v2), some (.int y150), some (.int v4), none, none, some (.int v7)]) [true, false, true, true, true, false, false, true] rfl ?_
      exact t_X12_generations_b172 hC hr hlk hnm hK77 hw
def w_X12_generations_b211 (q : Int32 → hS → Prop) : Nat → hS → (Nat) → (Int32) → (Int32) → Prop
  | 0, _, _, _, _ => False
  | n + 1, S, v0, v3, v4 => (48 ≤ v4 → oK S v0 12 ∧ w_X12_putBack (fun S => oK S v0 12 ∧ w_X12_tell (fun x249 S => q x249 S) S v0 v3) S v0 16) ∧ (¬ 48 ≤ v4 → gP S v0 12 58 (fun x219 => gP S v0 12 3 (fun x225 => aI S x225 (30 + v4) (fun x233 => sI S x219 v4 x233 (fun S => ∀ y235 : Int32, y235 = v4 + 1 → w_X12_generations_b211 q n S v0 v3 y235)))))
set_option maxRecDepth 100000 in
set_option maxHeartbeats 4000000 in
theorem t_X12_generations_b211 (hC : zC p R s m args c cX12_generations 8 RX12 G B mc ms 9 251) (hr : meth.sig.returnType = (Option.some FieldType.int)) (hlk : meth.locks = false) (hnm : meth.name = "generations") {q : Int32 → hS → Prop} (n : Nat) : ∀ {S : hS} {v0 : Nat} {v3 : Int32} {v4 : Int32} (hw : w_X12_generations_b211 q n S v0 v3 v4), Z p l e R s m args below meth c (MQ below (hQ G B (iP q)) args s mc ms (fun r => B ≤ r)) G B mc ms 8 S 0 0 211 [some (.ref v0), none, none, some (.int v3), some (.int v4), none, none, none] [] := by
  induction n with
  | zero => intro S v0 v3 v4 hw; exact (by rw [w_X12_generations_b211] at hw; exact hw.elim)
  | succ n ih =>
    intro S v0 v3 v4 hw
    rw [w_X12_generations_b211] at hw
    refine z_iload hC dX12_generations_211 rfl ?_
    refine z_bipush hC bi_48 dX12_generations_213 ?_
    refine z_icmp_ge (tgt := 241) hC dX12_generations_215 (by decide) (fun c215 => ?_) (fun c215 => ?_)
    · have hw := hw.1 c215
      refine z_aload_n hC dX12_generations_241 rfl rfl ?_
      refine z_bipush hC bi_16 dX12_generations_242 ?_
      refine z_callV (ku' := 0) (kv' := 0) (n := 1) (As := [.int 16]) (st := []) hC (c_X12_putBack l G B S v0 16 _) hw.2 hw.1 rfl lk_1548 lk_1550 lk_42 lk_133 lk_1551 hd_X12_putBack rfl rfl (Nat.le_of_ble_eq_true rfl) (Nat.le_of_ble_eq_true rfl) rfl (Nat.le_of_ble_eq_true rfl) dX12_generations_244 (Nat.le_refl 0) (Nat.le_refl 0) (kV (fun S hw => ?_))
      refine z_aload_n hC dX12_generations_247 rfl rfl ?_
      refine z_iload_n hC dX12_generations_248 rfl rfl ?_
      refine z_callV (ku' := 0) (kv' := 0) (n := 1) (As := [.int v3]) (st := []) hC (c_X12_tell l G B S v0 v3 _) hw.2 hw.1 rfl lk_1544 lk_1546 lk_41 lk_133 lk_1547 hd_X12_tell rfl rfl (Nat.le_of_ble_eq_true rfl) (Nat.le_of_ble_eq_true rfl) rfl (Nat.le_of_ble_eq_true rfl) dX12_generations_249 (Nat.le_refl 0) (Nat.le_refl 0) (kI (fun x249 S hw => ?_))
      exact z_iret hC hr hlk dX12_generations_252 ⟨_, rfl, hw⟩
    · have hw := hw.2 c215
      refine z_aload_n hC dX12_generations_218 rfl rfl ?_
      refine z_getP hC FX12 58 lk_1413 dX12_generations_219 (by decide) hw (fun x219 hw => ?_)
      refine z_iload hC dX12_generations_222 rfl ?_
      refine z_aload_n hC dX12_generations_224 rfl rfl ?_
      refine z_getP hC FX12 3 lk_1358 dX12_generations_225 (by decide) hw (fun x225 hw => ?_)
      refine z_bipush hC bi_30 dX12_generations_228 ?_
      refine z_iload hC dX12_generations_230 rfl ?_
      refine z_iadd hC dX12_generations_232 ?_
      refine z_aldI hC dX12_generations_233 hw (fun x233 hw => ?_)
      refine z_astI hC dX12_generations_234 hw (fun S hw => ?_)
      refine z_inc (i := 4) hC ic_1 dX12_generations_235 rfl (by decide) (hok_v rfl rfl) (fun y235 e235 => ?_)
      have hw := hw y235 e235
      refine z_goto (tgt := 211) hC dX12_generations_238 (by decide) ?_
      refine z_mask (lv' := [some (.ref v0), none, none, some (.int v3), some (.int y235), none, none, none]) [true, false, false, true, true, false, false, false] rfl ?_
      exact ih hw
def w_X12_generations_b188 (q : Int32 → hS → Prop) (S : hS) (v0 : Nat) (v3 : Int32) : Prop := gP S v0 12 3 (fun x190 => aI S x190 1 (fun x194 => pI S v0 12 59 x194 (fun S => gP S v0 12 3 (fun x200 => aI S x200 0 (fun x204 => pI S v0 12 60 x204 (fun S => (∃ n211 : Nat, w_X12_generations_b211 q n211 S v0 v3 0)))))))
set_option maxRecDepth 100000 in
set_option maxHeartbeats 4000000 in
theorem t_X12_generations_b188 (hC : zC p R s m args c cX12_generations 8 RX12 G B mc ms 9 251) (hr : meth.sig.returnType = (Option.some FieldType.int)) (hlk : meth.locks = false) (hnm : meth.name = "generations") {q : Int32 → hS → Prop} {S : hS} {v0 : Nat} {v3 : Int32} (hw : w_X12_generations_b188 q S v0 v3) : Z p l e R s m args below meth c (MQ below (hQ G B (iP q)) args s mc ms (fun r => B ≤ r)) G B mc ms 8 S 0 0 188 [some (.ref v0), none, none, some (.int v3), none, none, none, none] [] := by
  unfold w_X12_generations_b188 at hw
  refine z_aload_n hC dX12_generations_188 rfl rfl ?_
  refine z_aload_n hC dX12_generations_189 rfl rfl ?_
  refine z_getP hC FX12 3 lk_1358 dX12_generations_190 (by decide) hw (fun x190 hw => ?_)
  refine z_iconst hC ic_1 dX12_generations_193 ?_
  refine z_aldI hC dX12_generations_194 hw (fun x194 hw => ?_)
  refine z_putI hC FX12 59 lk_1414 dX12_generations_195 (by decide) rfl rfl hw (fun S hw => ?_)
  refine z_aload_n hC dX12_generations_198 rfl rfl ?_
  refine z_aload_n hC dX12_generations_199 rfl rfl ?_
  refine z_getP hC FX12 3 lk_1358 dX12_generations_200 (by decide) hw (fun x200 hw => ?_)
  refine z_iconst hC ic_0 dX12_generations_203 ?_
  refine z_aldI hC dX12_generations_204 hw (fun x204 hw => ?_)
  refine z_putI hC FX12 60 lk_1415 dX12_generations_205 (by decide) rfl rfl hw (fun S hw => ?_)
  refine z_iconst hC ic_0 dX12_generations_208 ?_
  refine z_istore (i := 4) (lv' := [some (.ref v0), none, none, some (.int v3), some (.int 0), none, none, none]) hC dX12_generations_209 (by decide) (hok_v rfl rfl) rfl ?_
  refine z_mask (lv' := [some (.ref v0), none, none, some (.int v3), some (.int 0), none, none, none]) [true, false, false, true, true, false, false, false] rfl ?_
  obtain ⟨n211, hw⟩ := hw
  exact t_X12_generations_b211 hC hr hlk hnm n211 hw
def w_X12_generations_b77 (q : Int32 → hS → Prop) : Nat → hS → (Nat) → (Int32) → (Int32) → (Int32) → Prop
  | 0, _, _, _, _, _ => False
  | n + 1, S, v0, v2, v3, v4 => (v2 ≤ v4 → w_X12_generations_b188 q S v0 v3) ∧ (¬ v2 ≤ v4 → oK S v0 12 ∧ w_X12_yearNow (fun x84 S => (999 ≤ x84 → w_X12_generations_b188 q S v0 v3) ∧ (¬ 999 ≤ x84 → gP S v0 12 3 (fun x95 => aI S x95 1 (fun x99 => oK S v0 12 ∧ w_X12_draw (fun x100 S => gP S v0 12 3 (fun x107 => aI S x107 0 (fun x111 => oK S v0 12 ∧ w_X12_draw (fun x112 S => oK S v0 12 ∧ w_X12_draw (fun x120 S => oK S v0 12 ∧ w_X12_canRing (fun x131 S => (x131 = 0 → w_X12_generations_b149 q (fun S v0 v2 v3 v4 => w_X12_generations_b77 q n S v0 v2 v3 v4) S v0 v2 v4 x100 x120 0 v3) ∧ (¬ x131 = 0 → oK S v0 12 ∧ w_X12_ringIt (fun x142 S => w_X12_generations_b149 q (fun S v0 v2 v3 v4 => w_X12_generations_b77 q n S v0 v2 v3 v4) S v0 v2 v4 x100 x120 x142 v3) S v0 x100 x112)) S v0 x100 x112) S v0 8) S v0 x111))) S v0 x99)))) S v0)
set_option maxRecDepth 100000 in
set_option maxHeartbeats 4000000 in
theorem t_X12_generations_b77 (hC : zC p R s m args c cX12_generations 8 RX12 G B mc ms 9 251) (hr : meth.sig.returnType = (Option.some FieldType.int)) (hlk : meth.locks = false) (hnm : meth.name = "generations") {q : Int32 → hS → Prop} (n : Nat) : ∀ {S : hS} {v0 : Nat} {v2 : Int32} {v3 : Int32} {v4 : Int32} (hw : w_X12_generations_b77 q n S v0 v2 v3 v4), Z p l e R s m args below meth c (MQ below (hQ G B (iP q)) args s mc ms (fun r => B ≤ r)) G B mc ms 8 S 0 0 77 [some (.ref v0), none, some (.int v2), some (.int v3), some (.int v4), none, none, none] [] := by
  induction n with
  | zero => intro S v0 v2 v3 v4 hw; exact (by rw [w_X12_generations_b77] at hw; exact hw.elim)
  | succ n ih =>
    intro S v0 v2 v3 v4 hw
    rw [w_X12_generations_b77] at hw
    refine z_iload hC dX12_generations_77 rfl ?_
    refine z_iload_n hC dX12_generations_79 rfl rfl ?_
    refine z_icmp_ge (tgt := 188) hC dX12_generations_80 (by decide) (fun c80 => ?_) (fun c80 => ?_)
    · have hw := hw.1 c80
      refine z_mask (lv' := [some (.ref v0), none, none, some (.int v3), none, none, none, none]) [true, false, false, true, false, false, false, false] rfl ?_
      exact t_X12_generations_b188 hC hr hlk hnm hw
    · have hw := hw.2 c80
      refine z_aload_n hC dX12_generations_83 rfl rfl ?_
      refine z_callV (ku' := 0) (kv' := 0) (n := 0) (As := []) (st := []) hC (c_X12_yearNow l G B S v0 _) hw.2 hw.1 rfl lk_1680 lk_1682 lk_60 lk_133 lk_1683 hd_X12_yearNow rfl rfl (Nat.le_of_ble_eq_true rfl) (Nat.le_of_ble_eq_true rfl) rfl (Nat.le_of_ble_eq_true rfl) dX12_generations_84 (Nat.le_refl 0) (Nat.le_refl 0) (kI (fun x84 S hw => ?_))
      refine z_sipush hC si_999 dX12_generations_87 ?_
      refine z_icmp_ge (tgt := 188) hC dX12_generations_90 (by decide) (fun c90 => ?_) (fun c90 => ?_)
      · have hw := hw.1 c90
        refine z_mask (lv' := [some (.ref v0), none, none, some (.int v3), none, none, none, none]) [true, false, false, true, false, false, false, false] rfl ?_
        exact t_X12_generations_b188 hC hr hlk hnm hw
      · have hw := hw.2 c90
        refine z_aload_n hC dX12_generations_93 rfl rfl ?_
        refine z_aload_n hC dX12_generations_94 rfl rfl ?_
        refine z_getP hC FX12 3 lk_1358 dX12_generations_95 (by decide) hw (fun x95 hw => ?_)
        refine z_iconst hC ic_1 dX12_generations_98 ?_
        refine z_aldI hC dX12_generations_99 hw (fun x99 hw => ?_)
        refine z_callV (ku' := 0) (kv' := 0) (n := 1) (As := [.int x99]) (st := []) hC (c_X12_draw l G B S v0 x99 _) hw.2 hw.1 rfl lk_2061 lk_2063 lk_119 lk_133 lk_2064 hd_X12_draw rfl rfl (Nat.le_of_ble_eq_true rfl) (Nat.le_of_ble_eq_true rfl) rfl (Nat.le_of_ble_eq_true rfl) dX12_generations_100 (Nat.le_refl 0) (Nat.le_refl 0) (kI (fun x100 S hw => ?_))
        refine z_istore (i := 5) (lv' := [some (.ref v0), none, some (.int v2), some (.int v3), some (.int v4), some (.int x100), none, none]) hC dX12_generations_103 (by decide) (hok_v rfl rfl) rfl ?_
        refine z_aload_n hC dX12_generations_105 rfl rfl ?_
        refine z_aload_n hC dX12_generations_106 rfl rfl ?_
        refine z_getP hC FX12 3 lk_1358 dX12_generations_107 (by decide) hw (fun x107 hw => ?_)
        refine z_iconst hC ic_0 dX12_generations_110 ?_
        refine z_aldI hC dX12_generations_111 hw (fun x111 hw => ?_)
        refine z_callV (ku' := 0) (kv' := 0) (n := 1) (As := [.int x111]) (st := []) hC (c_X12_draw l G B S v0 x111 _) hw.2 hw.1 rfl lk_2061 lk_2063 lk_119 lk_133 lk_2064 hd_X12_draw rfl rfl (Nat.le_of_ble_eq_true rfl) (Nat.le_of_ble_eq_true rfl) rfl (Nat.le_of_ble_eq_true rfl) dX12_generations_112 (Nat.le_refl 0) (Nat.le_refl 0) (kI (fun x112 S hw => ?_))
        refine z_istore (i := 6) (lv' := [some (.ref v0), none, some (.int v2), some (.int v3), some (.int v4), some (.int x100), some (.int x112), none]) hC dX12_generations_115 (by decide) (hok_v rfl rfl) rfl ?_
        refine z_aload_n hC dX12_generations_117 rfl rfl ?_
        refine z_bipush hC bi_8 dX12_generations_118 ?_
        refine z_callV (ku' := 0) (kv' := 0) (n := 1) (As := [.int 8]) (st := []) hC (c_X12_draw l G B S v0 8 _) hw.2 hw.1 rfl lk_2061 lk_2063 lk_119 lk_133 lk_2064 hd_X12_draw rfl rfl (Nat.le_of_ble_eq_true rfl) (Nat.le_of_ble_eq_true rfl) rfl (Nat.le_of_ble_eq_true rfl) dX12_generations_120 (Nat.le_refl 0) (Nat.le_refl 0) (kI (fun x120 S hw => ?_))
        refine z_istore (i := 7) (lv' := [some (.ref v0), none, some (.int v2), some (.int v3), some (.int v4), some (.int x100), some (.int x112), some (.int x120)]) hC dX12_generations_123 (by decide) (hok_v rfl rfl) rfl ?_
        refine z_iload_n hC dX12_generations_125 rfl rfl ?_
        refine z_aload_n hC dX12_generations_126 rfl rfl ?_
        refine z_iload hC dX12_generations_127 rfl ?_
        refine z_iload hC dX12_generations_129 rfl ?_
        refine z_callV (ku' := 0) (kv' := 0) (n := 2) (As := [.int x100, .int x112]) (st := [.int v3]) hC (c_X12_canRing l G B S v0 x100 x112 _) hw.2 hw.1 rfl lk_1868 lk_1870 lk_91 lk_133 lk_1871 hd_X12_canRing rfl rfl (Nat.le_of_ble_eq_true rfl) (Nat.le_of_ble_eq_true rfl) rfl (Nat.le_of_ble_eq_true rfl) dX12_generations_131 (Nat.le_refl 0) (Nat.le_refl 0) (kI (fun x131 S hw => ?_))
        refine z_if_eq (tgt := 148) hC dX12_generations_134 (by decide) (fun c134 => ?_) (fun c134 => ?_)
        · have hw := hw.1 c134
          refine z_iconst hC ic_0 dX12_generations_148 ?_
          refine z_mask (lv' := [some (.ref v0), none, some (.int v2), none, some (.int v4), some (.int x100), none, some (.int x120)]) [true, false, true, false, true, true, false, true] rfl ?_
          exact t_X12_generations_b149 hC hr hlk hnm (fun hw => ih hw) hw
        · have hw := hw.2 c134
          refine z_aload_n hC dX12_generations_137 rfl rfl ?_
          refine z_iload hC dX12_generations_138 rfl ?_
          refine z_iload hC dX12_generations_140 rfl ?_
          refine z_callV (ku' := 0) (kv' := 0) (n := 2) (As := [.int x100, .int x112]) (st := [.int v3]) hC (c_X12_ringIt l G B S v0 x100 x112 _) hw.2 hw.1 rfl lk_1880 lk_1882 lk_94 lk_133 lk_1883 hd_X12_ringIt rfl rfl (Nat.le_of_ble_eq_true rfl) (Nat.le_of_ble_eq_true rfl) rfl (Nat.le_of_ble_eq_true rfl) dX12_generations_142 (Nat.le_refl 0) (Nat.le_refl 0) (kI (fun x142 S hw => ?_))
          refine z_goto (tgt := 149) hC dX12_generations_145 (by decide) ?_
          refine z_mask (lv' := [some (.ref v0), none, some (.int v2), none, some (.int v4), some (.int x100), none, some (.int x120)]) [true, false, true, false, true, true, false, true] rfl ?_
          exact t_X12_generations_b149 hC hr hlk hnm (fun hw => ih hw) hw
def w_X12_generations (q : Int32 → hS → Prop) (S : hS) (v0 : Nat) (v1 : Int32) (v2 : Int32) : Prop := pI S v0 12 0 0 (fun S => w_X12_in (fun x11 S => (x11 = 0 → w_X12_generations_b29 q S v0) ∧ (¬ x11 = 0 → w_X12_in (fun x23 S => (¬ x23 = 0 → gP S v0 12 3 (fun x36 => aI S x36 1 (fun x40 => (x40 = 0 → w_X12_generations_b53 q S v0) ∧ (¬ x40 = 0 → gP S v0 12 3 (fun x45 => aI S x45 0 (fun x49 => (¬ x49 = 0 → oK S v0 12 ∧ w_X12_keepAll (fun S => pJ S v0 12 57 (Int32.toInt64 v1) (fun S => (∃ n77 : Nat, w_X12_generations_b77 q n77 S v0 v2 0 0))) S v0 16) ∧ (x49 = 0 → w_X12_generations_b53 q S v0))))))) ∧ (x23 = 0 → w_X12_generations_b29 q S v0)) S (Int32.toInt64 v2) 1 60)) S (Int32.toInt64 v1) 0 1000000)
set_option maxRecDepth 100000 in
set_option maxHeartbeats 4000000 in
theorem c_X12_generations (l : Launch) (G : hG) (B : Nat) (S : hS) (v0 : Nat) (v1 : Int32) (v2 : Int32) (q : Int32 → hS → Prop) : Met l yX12_generations (hws yX12_generations cX12_generations 8 (Option.some FieldType.int)) ({ frames := 9, cells := 0, slots := 0, locals := 251 }) (hPc G B S [.ref v0, .int v1, .int v2] (w_X12_generations q S v0 v1 v2)) (hQ G B (iP q)) (0) (0) (fun r => B ≤ r) := by
  refine hMet (rm := { frames := 9, cells := 0, slots := 0, locals := 251 }) (lv := [some (.ref v0), some (.int v1), some (.int v2), none, none, none, none, none]) (own := RX12) (fr := 9) (lo := 251) (by decide) rfl rfl rfl (Nat.le_of_ble_eq_true rfl) rfl (fun hw p e R s m args below meth c hC hr hlk hnm => ?_)
  unfold w_X12_generations at hw
  refine z_aload_n hC dX12_generations_0 rfl rfl ?_
  refine z_iconst hC ic_0 dX12_generations_1 ?_
  refine z_putI hC FX12 0 lk_1355 dX12_generations_2 (by decide) rfl rfl hw (fun S hw => ?_)
  refine z_iload_n hC dX12_generations_5 rfl rfl ?_
  refine z_i2l hC rfl dX12_generations_6 ?_
  refine z_lconst hC lc_0 dX12_generations_7 ?_
  refine z_ldc2 hC lk_1741 dX12_generations_8 ?_
  refine z_callS (ku' := 0) (kv' := 0) (n := 3) (As := [.long (Int32.toInt64 v1), .long 0, .long 1000000]) (st := []) hC (c_X12_in l G B S (Int32.toInt64 v1) 0 1000000 _) hw lk_1556 lk_1557 lk_133 lk_1558 hd_X12_in rfl rfl (Nat.le_of_ble_eq_true rfl) (Nat.le_of_ble_eq_true rfl) rfl (Nat.le_of_ble_eq_true rfl) dX12_generations_11 (Nat.le_refl 0) (Nat.le_refl 0) (kI (fun x11 S hw => ?_))
  refine z_if_eq (tgt := 29) hC dX12_generations_14 (by decide) (fun c14 => ?_) (fun c14 => ?_)
  · have hw := hw.1 c14
    refine z_mask (lv' := [some (.ref v0), none, none, none, none, none, none, none]) [true, false, false, false, false, false, false, false] rfl ?_
    exact t_X12_generations_b29 hC hr hlk hnm hw
  · have hw := hw.2 c14
    refine z_iload_n hC dX12_generations_17 rfl rfl ?_
    refine z_i2l hC rfl dX12_generations_18 ?_
    refine z_lconst hC lc_1 dX12_generations_19 ?_
    refine z_ldc2 hC lk_2016 dX12_generations_20 ?_
    refine z_callS (ku' := 0) (kv' := 0) (n := 3) (As := [.long (Int32.toInt64 v2), .long 1, .long 60]) (st := []) hC (c_X12_in l G B S (Int32.toInt64 v2) 1 60 _) hw lk_1556 lk_1557 lk_133 lk_1558 hd_X12_in rfl rfl (Nat.le_of_ble_eq_true rfl) (Nat.le_of_ble_eq_true rfl) rfl (Nat.le_of_ble_eq_true rfl) dX12_generations_23 (Nat.le_refl 0) (Nat.le_refl 0) (kI (fun x23 S hw => ?_))
    refine z_if_ne (tgt := 35) hC dX12_generations_26 (by decide) (fun c26 => ?_) (fun c26 => ?_)
    · have hw := hw.1 c26
      refine z_aload_n hC dX12_generations_35 rfl rfl ?_
      refine z_getP hC FX12 3 lk_1358 dX12_generations_36 (by decide) hw (fun x36 hw => ?_)
      refine z_iconst hC ic_1 dX12_generations_39 ?_
      refine z_aldI hC dX12_generations_40 hw (fun x40 hw => ?_)
      refine z_if_eq (tgt := 53) hC dX12_generations_41 (by decide) (fun c41 => ?_) (fun c41 => ?_)
      · have hw := hw.1 c41
        refine z_mask (lv' := [some (.ref v0), none, none, none, none, none, none, none]) [true, false, false, false, false, false, false, false] rfl ?_
        exact t_X12_generations_b53 hC hr hlk hnm hw
      · have hw := hw.2 c41
        refine z_aload_n hC dX12_generations_44 rfl rfl ?_
        refine z_getP hC FX12 3 lk_1358 dX12_generations_45 (by decide) hw (fun x45 hw => ?_)
        refine z_iconst hC ic_0 dX12_generations_48 ?_
        refine z_aldI hC dX12_generations_49 hw (fun x49 hw => ?_)
        refine z_if_ne (tgt := 60) hC dX12_generations_50 (by decide) (fun c50 => ?_) (fun c50 => ?_)
        · have hw := hw.1 c50
          refine z_aload_n hC dX12_generations_60 rfl rfl ?_
          refine z_bipush hC bi_16 dX12_generations_61 ?_
          refine z_callV (ku' := 0) (kv' := 0) (n := 1) (As := [.int 16]) (st := []) hC (c_X12_keepAll l G B S v0 16 _) hw.2 hw.1 rfl lk_1876 lk_1878 lk_93 lk_133 lk_1879 hd_X12_keepAll rfl rfl (Nat.le_of_ble_eq_true rfl) (Nat.le_of_ble_eq_true rfl) rfl (Nat.le_of_ble_eq_true rfl) dX12_generations_63 (Nat.le_refl 0) (Nat.le_refl 0) (kV (fun S hw => ?_))
          refine z_aload_n hC dX12_generations_66 rfl rfl ?_
          refine z_iload_n hC dX12_generations_67 rfl rfl ?_
          refine z_i2l hC rfl dX12_generations_68 ?_
          refine z_putJ hC FX12 57 lk_1412 dX12_generations_69 (by decide) rfl rfl hw (fun S hw => ?_)
          refine z_iconst hC ic_0 dX12_generations_72 ?_
          refine z_istore_n (i := 3) (lv' := [some (.ref v0), some (.int v1), some (.int v2), some (.int 0), none, none, none, none]) hC rfl dX12_generations_73 (by decide) (hok_v rfl rfl) rfl ?_
          refine z_iconst hC ic_0 dX12_generations_74 ?_
          refine z_istore (i := 4) (lv' := [some (.ref v0), some (.int v1), some (.int v2), some (.int 0), some (.int 0), none, none, none]) hC dX12_generations_75 (by decide) (hok_v rfl rfl) rfl ?_
          refine z_mask (lv' := [some (.ref v0), none, some (.int v2), some (.int 0), some (.int 0), none, none, none]) [true, false, true, true, true, false, false, false] rfl ?_
          obtain ⟨n77, hw⟩ := hw
          exact t_X12_generations_b77 hC hr hlk hnm n77 hw
        · have hw := hw.2 c50
          refine z_mask (lv' := [some (.ref v0), none, none, none, none, none, none, none]) [true, false, false, false, false, false, false, false] rfl ?_
          exact t_X12_generations_b53 hC hr hlk hnm hw
    · have hw := hw.2 c26
      refine z_mask (lv' := [some (.ref v0), none, none, none, none, none, none, none]) [true, false, false, false, false, false, false, false] rfl ?_
      exact t_X12_generations_b29 hC hr hlk hnm hw
end
section
variable {p : Program} {l : Launch} {e : Env} {R : Room} {s : State} {m : MethodId} {args : Array Value} {below : List Frame} {meth : Method} {c : Code} {G : hG} {B mc ms : Nat}
def w_X12_drawn (q : Int32 → hS → Prop) (S : hS) (v0 : Nat) (v1 : Int32) (v2 : Int32) : Prop := pI S v0 12 0 0 (fun S => gI S v0 12 59 (fun x9 => w_X12_in (fun x15 S => (x15 = 0 → q (-1) S) ∧ (¬ x15 = 0 → gI S v0 12 60 (fun x25 => w_X12_in (fun x31 S => (x31 = 0 → q (-1) S) ∧ (¬ x31 = 0 → gP S v0 12 58 (fun x38 => aI S x38 ((6 * v1) + v2) (fun x47 => q x47 S)))) S (Int32.toInt64 v2) 0 ((Int32.toInt64 x25) - 1)))) S (Int32.toInt64 v1) 0 ((Int32.toInt64 x9) - 1)))
set_option maxRecDepth 100000 in
set_option maxHeartbeats 4000000 in
theorem c_X12_drawn (l : Launch) (G : hG) (B : Nat) (S : hS) (v0 : Nat) (v1 : Int32) (v2 : Int32) (q : Int32 → hS → Prop) : Met l yX12_drawn (hws yX12_drawn cX12_drawn 3 (Option.some FieldType.int)) ({ frames := 2, cells := 0, slots := 0, locals := 85 }) (hPc G B S [.ref v0, .int v1, .int v2] (w_X12_drawn q S v0 v1 v2)) (hQ G B (iP q)) (0) (0) (fun r => B ≤ r) := by
  refine hMet (rm := { frames := 2, cells := 0, slots := 0, locals := 85 }) (lv := [some (.ref v0), some (.int v1), some (.int v2)]) (own := RX12) (fr := 2) (lo := 85) (by decide) rfl rfl rfl (Nat.le_of_ble_eq_true rfl) rfl (fun hw p e R s m args below meth c hC hr hlk hnm => ?_)
  unfold w_X12_drawn at hw
  refine z_aload_n hC dX12_drawn_0 rfl rfl ?_
  refine z_iconst hC ic_0 dX12_drawn_1 ?_
  refine z_putI hC FX12 0 lk_1355 dX12_drawn_2 (by decide) rfl rfl hw (fun S hw => ?_)
  refine z_iload_n hC dX12_drawn_5 rfl rfl ?_
  refine z_i2l hC rfl dX12_drawn_6 ?_
  refine z_lconst hC lc_0 dX12_drawn_7 ?_
  refine z_aload_n hC dX12_drawn_8 rfl rfl ?_
  refine z_getI hC FX12 59 lk_1414 dX12_drawn_9 (by decide) hw (fun x9 hw => ?_)
  refine z_i2l hC rfl dX12_drawn_12 ?_
  refine z_lconst hC lc_1 dX12_drawn_13 ?_
  refine z_lsub hC dX12_drawn_14 ?_
  refine z_callS (ku' := 0) (kv' := 0) (n := 3) (As := [.long (Int32.toInt64 v1), .long 0, .long ((Int32.toInt64 x9) - 1)]) (st := []) hC (c_X12_in l G B S (Int32.toInt64 v1) 0 ((Int32.toInt64 x9) - 1) _) hw lk_1556 lk_1557 lk_133 lk_1558 hd_X12_in rfl rfl (Nat.le_of_ble_eq_true rfl) (Nat.le_of_ble_eq_true rfl) rfl (Nat.le_of_ble_eq_true rfl) dX12_drawn_15 (Nat.le_refl 0) (Nat.le_refl 0) (kI (fun x15 S hw => ?_))
  refine z_if_eq (tgt := 51) hC dX12_drawn_18 (by decide) (fun c18 => ?_) (fun c18 => ?_)
  · have hw := hw.1 c18
    refine z_iconst hC ic_m1 dX12_drawn_51 ?_
    exact z_iret hC hr hlk dX12_drawn_52 ⟨_, rfl, hw⟩
  · have hw := hw.2 c18
    refine z_iload_n hC dX12_drawn_21 rfl rfl ?_
    refine z_i2l hC rfl dX12_drawn_22 ?_
    refine z_lconst hC lc_0 dX12_drawn_23 ?_
    refine z_aload_n hC dX12_drawn_24 rfl rfl ?_
    refine z_getI hC FX12 60 lk_1415 dX12_drawn_25 (by decide) hw (fun x25 hw => ?_)
    refine z_i2l hC rfl dX12_drawn_28 ?_
    refine z_lconst hC lc_1 dX12_drawn_29 ?_
    refine z_lsub hC dX12_drawn_30 ?_
    refine z_callS (ku' := 0) (kv' := 0) (n := 3) (As := [.long (Int32.toInt64 v2), .long 0, .long ((Int32.toInt64 x25) - 1)]) (st := []) hC (c_X12_in l G B S (Int32.toInt64 v2) 0 ((Int32.toInt64 x25) - 1) _) hw lk_1556 lk_1557 lk_133 lk_1558 hd_X12_in rfl rfl (Nat.le_of_ble_eq_true rfl) (Nat.le_of_ble_eq_true rfl) rfl (Nat.le_of_ble_eq_true rfl) dX12_drawn_31 (Nat.le_refl 0) (Nat.le_refl 0) (kI (fun x31 S hw => ?_))
    refine z_if_eq (tgt := 51) hC dX12_drawn_34 (by decide) (fun c34 => ?_) (fun c34 => ?_)
    · have hw := hw.1 c34
      refine z_iconst hC ic_m1 dX12_drawn_51 ?_
      exact z_iret hC hr hlk dX12_drawn_52 ⟨_, rfl, hw⟩
    · have hw := hw.2 c34
      refine z_aload_n hC dX12_drawn_37 rfl rfl ?_
      refine z_getP hC FX12 58 lk_1413 dX12_drawn_38 (by decide) hw (fun x38 hw => ?_)
      refine z_bipush hC bi_6 dX12_drawn_41 ?_
      refine z_iload_n hC dX12_drawn_43 rfl rfl ?_
      refine z_imul hC dX12_drawn_44 ?_
      refine z_iload_n hC dX12_drawn_45 rfl rfl ?_
      refine z_iadd hC dX12_drawn_46 ?_
      refine z_aldI hC dX12_drawn_47 hw (fun x47 hw => ?_)
      refine z_goto (tgt := 52) hC dX12_drawn_48 (by decide) ?_
      exact z_iret hC hr hlk dX12_drawn_52 ⟨_, rfl, hw⟩
end
section
variable {p : Program} {l : Launch} {e : Env} {R : Room} {s : State} {m : MethodId} {args : Array Value} {below : List Frame} {meth : Method} {c : Code} {G : hG} {B mc ms : Nat}
def w_X12_count (q : Int32 → hS → Prop) (S : hS) (v0 : Nat) (v1 : Int32) : Prop := pI S v0 12 0 0 (fun S => ∀ y6 : Int32, y6 = v1 → ((y6.toInt = 0 → gP S v0 12 3 (fun x73 => aI S x73 0 (fun x77 => q x77 S))) ∧ (y6.toInt = 1 → gP S v0 12 3 (fun x80 => aI S x80 1 (fun x84 => q x84 S))) ∧ (y6.toInt = 2 → oK S v0 12 ∧ w_X12_living (fun x87 S => w_X12_ones (fun x90 S => q x90 S) S x87) S v0) ∧ (y6.toInt = 3 → gP S v0 12 3 (fun x95 => aI S x95 2 (fun x99 => q x99 S))) ∧ (y6.toInt = 4 → gP S v0 12 3 (fun x102 => aI S x102 3 (fun x106 => q x106 S))) ∧ (y6.toInt = 5 → gI S v0 12 8 (fun x109 => q x109 S)) ∧ (y6.toInt = 6 → gI S v0 12 13 (fun x114 => q x114 S)) ∧ (y6.toInt = 7 → gP S v0 12 2 (fun x119 => aI S x119 1 (fun x123 => q x123 S))) ∧ (y6.toInt = 8 → gP S v0 12 2 (fun x126 => aI S x126 2 (fun x130 => q x130 S))) ∧ (y6.toInt = 9 → gP S v0 12 2 (fun x133 => aI S x133 3 (fun x137 => q x137 S))) ∧ (y6.toInt = 10 → gP S v0 12 2 (fun x140 => aI S x140 5 (fun x144 => q x144 S))) ∧ (y6.toInt = 11 → gP S v0 12 2 (fun x147 => aI S x147 6 (fun x152 => q x152 S))) ∧ (y6.toInt = 12 → gP S v0 12 3 (fun x155 => aI S x155 4 (fun x159 => q x159 S))) ∧ ((y6.toInt < 0 ∨ 12 < y6.toInt) → w_X12_in (fun x169 S => (x169 = 0 → q (-1) S) ∧ (¬ x169 = 0 → gP S v0 12 3 (fun x176 => aI S x176 ((5 + v1) - 13) (fun x185 => q x185 S)))) S (Int32.toInt64 v1) 13 15)))
set_option maxRecDepth 100000 in
set_option maxHeartbeats 4000000 in
theorem c_X12_count (l : Launch) (G : hG) (B : Nat) (S : hS) (v0 : Nat) (v1 : Int32) (q : Int32 → hS → Prop) : Met l yX12_count (hws yX12_count cX12_count 2 (Option.some FieldType.int)) ({ frames := 3, cells := 0, slots := 0, locals := 103 }) (hPc G B S [.ref v0, .int v1] (w_X12_count q S v0 v1)) (hQ G B (iP q)) (0) (0) (fun r => B ≤ r) := by
  refine hMet (rm := { frames := 3, cells := 0, slots := 0, locals := 103 }) (lv := [some (.ref v0), some (.int v1)]) (own := RX12) (fr := 3) (lo := 103) (by decide) rfl rfl rfl (Nat.le_of_ble_eq_true rfl) rfl (fun hw p e R s m args below meth c hC hr hlk hnm => ?_)
  unfold w_X12_count at hw
  refine z_aload_n hC dX12_count_0 rfl rfl ?_
  refine z_iconst hC ic_0 dX12_count_1 ?_
  refine z_putI hC FX12 0 lk_1355 dX12_count_2 (by decide) rfl rfl hw (fun S hw => ?_)
  refine z_iload_n hC dX12_count_5 rfl rfl ?_
  refine z_nmI (fun y6 e6 => ?_)
  have hw := hw y6 e6
  by_cases q6_0 : y6.toInt = 0
  · have hw := hw.1 q6_0
    refine z_tabIn (tgt := 72) (off := 66) hC 0 dX12_count_6 q6_0 (by decide) rfl (by decide) ?_
    refine z_aload_n hC dX12_count_72 rfl rfl ?_
    refine z_getP hC FX12 3 lk_1358 dX12_count_73 (by decide) hw (fun x73 hw => ?_)
    refine z_iconst hC ic_0 dX12_count_76 ?_
    refine z_aldI hC dX12_count_77 hw (fun x77 hw => ?_)
    exact z_iret hC hr hlk dX12_count_78 ⟨_, rfl, hw⟩
  by_cases q6_1 : y6.toInt = 1
  · have hw := hw.2.1 q6_1
    refine z_tabIn (tgt := 79) (off := 73) hC 1 dX12_count_6 q6_1 (by decide) rfl (by decide) ?_
    refine z_aload_n hC dX12_count_79 rfl rfl ?_
    refine z_getP hC FX12 3 lk_1358 dX12_count_80 (by decide) hw (fun x80 hw => ?_)
    refine z_iconst hC ic_1 dX12_count_83 ?_
    refine z_aldI hC dX12_count_84 hw (fun x84 hw => ?_)
    exact z_iret hC hr hlk dX12_count_85 ⟨_, rfl, hw⟩
  by_cases q6_2 : y6.toInt = 2
  · have hw := hw.2.2.1 q6_2
    refine z_tabIn (tgt := 86) (off := 80) hC 2 dX12_count_6 q6_2 (by decide) rfl (by decide) ?_
    refine z_aload_n hC dX12_count_86 rfl rfl ?_
    refine z_callV (ku' := 0) (kv' := 0) (n := 0) (As := []) (st := []) hC (c_X12_living l G B S v0 _) hw.2 hw.1 rfl lk_1904 lk_1906 lk_98 lk_133 lk_1907 hd_X12_living rfl rfl (Nat.le_of_ble_eq_true rfl) (Nat.le_of_ble_eq_true rfl) rfl (Nat.le_of_ble_eq_true rfl) dX12_count_87 (Nat.le_refl 0) (Nat.le_refl 0) (kI (fun x87 S hw => ?_))
    refine z_callS (ku' := 0) (kv' := 0) (n := 1) (As := [.int x87]) (st := []) hC (c_X12_ones l G B S x87 _) hw lk_1908 lk_1909 lk_133 lk_1910 hd_X12_ones rfl rfl (Nat.le_of_ble_eq_true rfl) (Nat.le_of_ble_eq_true rfl) rfl (Nat.le_of_ble_eq_true rfl) dX12_count_90 (Nat.le_refl 0) (Nat.le_refl 0) (kI (fun x90 S hw => ?_))
    exact z_iret hC hr hlk dX12_count_93 ⟨_, rfl, hw⟩
  by_cases q6_3 : y6.toInt = 3
  · have hw := hw.2.2.2.1 q6_3
    refine z_tabIn (tgt := 94) (off := 88) hC 3 dX12_count_6 q6_3 (by decide) rfl (by decide) ?_
    refine z_aload_n hC dX12_count_94 rfl rfl ?_
    refine z_getP hC FX12 3 lk_1358 dX12_count_95 (by decide) hw (fun x95 hw => ?_)
    refine z_iconst hC ic_2 dX12_count_98 ?_
    refine z_aldI hC dX12_count_99 hw (fun x99 hw => ?_)
    exact z_iret hC hr hlk dX12_count_100 ⟨_, rfl, hw⟩
  by_cases q6_4 : y6.toInt = 4
  · have hw := hw.2.2.2.2.1 q6_4
    refine z_tabIn (tgt := 101) (off := 95) hC 4 dX12_count_6 q6_4 (by decide) rfl (by decide) ?_
    refine z_aload_n hC dX12_count_101 rfl rfl ?_
    refine z_getP hC FX12 3 lk_1358 dX12_count_102 (by decide) hw (fun x102 hw => ?_)
    refine z_iconst hC ic_3 dX12_count_105 ?_
    refine z_aldI hC dX12_count_106 hw (fun x106 hw => ?_)
    exact z_iret hC hr hlk dX12_count_107 ⟨_, rfl, hw⟩
  by_cases q6_5 : y6.toInt = 5
  · have hw := hw.2.2.2.2.2.1 q6_5
    refine z_tabIn (tgt := 108) (off := 102) hC 5 dX12_count_6 q6_5 (by decide) rfl (by decide) ?_
    refine z_aload_n hC dX12_count_108 rfl rfl ?_
    refine z_getI hC FX12 8 lk_1363 dX12_count_109 (by decide) hw (fun x109 hw => ?_)
    exact z_iret hC hr hlk dX12_count_112 ⟨_, rfl, hw⟩
  by_cases q6_6 : y6.toInt = 6
  · have hw := hw.2.2.2.2.2.2.1 q6_6
    refine z_tabIn (tgt := 113) (off := 107) hC 6 dX12_count_6 q6_6 (by decide) rfl (by decide) ?_
    refine z_aload_n hC dX12_count_113 rfl rfl ?_
    refine z_getI hC FX12 13 lk_1368 dX12_count_114 (by decide) hw (fun x114 hw => ?_)
    exact z_iret hC hr hlk dX12_count_117 ⟨_, rfl, hw⟩
  by_cases q6_7 : y6.toInt = 7
  · have hw := hw.2.2.2.2.2.2.2.1 q6_7
    refine z_tabIn (tgt := 118) (off := 112) hC 7 dX12_count_6 q6_7 (by decide) rfl (by decide) ?_
    refine z_aload_n hC dX12_count_118 rfl rfl ?_
    refine z_getP hC FX12 2 lk_1357 dX12_count_119 (by decide) hw (fun x119 hw => ?_)
    refine z_iconst hC ic_1 dX12_count_122 ?_
    refine z_aldI hC dX12_count_123 hw (fun x123 hw => ?_)
    exact z_iret hC hr hlk dX12_count_124 ⟨_, rfl, hw⟩
  by_cases q6_8 : y6.toInt = 8
  · have hw := hw.2.2.2.2.2.2.2.2.1 q6_8
    refine z_tabIn (tgt := 125) (off := 119) hC 8 dX12_count_6 q6_8 (by decide) rfl (by decide) ?_
    refine z_aload_n hC dX12_count_125 rfl rfl ?_
    refine z_getP hC FX12 2 lk_1357 dX12_count_126 (by decide) hw (fun x126 hw => ?_)
    refine z_iconst hC ic_2 dX12_count_129 ?_
    refine z_aldI hC dX12_count_130 hw (fun x130 hw => ?_)
    exact z_iret hC hr hlk dX12_count_131 ⟨_, rfl, hw⟩
  by_cases q6_9 : y6.toInt = 9
  · have hw := hw.2.2.2.2.2.2.2.2.2.1 q6_9
    refine z_tabIn (tgt := 132) (off := 126) hC 9 dX12_count_6 q6_9 (by decide) rfl (by decide) ?_
    refine z_aload_n hC dX12_count_132 rfl rfl ?_
    refine z_getP hC FX12 2 lk_1357 dX12_count_133 (by decide) hw (fun x133 hw => ?_)
    refine z_iconst hC ic_3 dX12_count_136 ?_
    refine z_aldI hC dX12_count_137 hw (fun x137 hw => ?_)
    exact z_iret hC hr hlk dX12_count_138 ⟨_, rfl, hw⟩
  by_cases q6_10 : y6.toInt = 10
  · have hw := hw.2.2.2.2.2.2.2.2.2.2.1 q6_10
    refine z_tabIn (tgt := 139) (off := 133) hC 10 dX12_count_6 q6_10 (by decide) rfl (by decide) ?_
    refine z_aload_n hC dX12_count_139 rfl rfl ?_
    refine z_getP hC FX12 2 lk_1357 dX12_count_140 (by decide) hw (fun x140 hw => ?_)
    refine z_iconst hC ic_5 dX12_count_143 ?_
    refine z_aldI hC dX12_count_144 hw (fun x144 hw => ?_)
    exact z_iret hC hr hlk dX12_count_145 ⟨_, rfl, hw⟩
  by_cases q6_11 : y6.toInt = 11
  · have hw := hw.2.2.2.2.2.2.2.2.2.2.2.1 q6_11
    refine z_tabIn (tgt := 146) (off := 140) hC 11 dX12_count_6 q6_11 (by decide) rfl (by decide) ?_
    refine z_aload_n hC dX12_count_146 rfl rfl ?_
    refine z_getP hC FX12 2 lk_1357 dX12_count_147 (by decide) hw (fun x147 hw => ?_)
    refine z_bipush hC bi_6 dX12_count_150 ?_
    refine z_aldI hC dX12_count_152 hw (fun x152 hw => ?_)
    exact z_iret hC hr hlk dX12_count_153 ⟨_, rfl, hw⟩
  by_cases q6_12 : y6.toInt = 12
  · have hw := hw.2.2.2.2.2.2.2.2.2.2.2.2.1 q6_12
    refine z_tabIn (tgt := 154) (off := 148) hC 12 dX12_count_6 q6_12 (by decide) rfl (by decide) ?_
    refine z_aload_n hC dX12_count_154 rfl rfl ?_
    refine z_getP hC FX12 3 lk_1358 dX12_count_155 (by decide) hw (fun x155 hw => ?_)
    refine z_iconst hC ic_4 dX12_count_158 ?_
    refine z_aldI hC dX12_count_159 hw (fun x159 hw => ?_)
    exact z_iret hC hr hlk dX12_count_160 ⟨_, rfl, hw⟩
  have o6 : y6.toInt < 0 ∨ 12 < y6.toInt := by omega
  have hw := hw.2.2.2.2.2.2.2.2.2.2.2.2.2 o6
  refine z_tabOut (tgt := 161) hC dX12_count_6 o6 (by decide) ?_
  refine z_iload_n hC dX12_count_161 rfl rfl ?_
  refine z_i2l hC rfl dX12_count_162 ?_
  refine z_ldc2 hC lk_2076 dX12_count_163 ?_
  refine z_ldc2 hC lk_2077 dX12_count_166 ?_
  refine z_callS (ku' := 0) (kv' := 0) (n := 3) (As := [.long (Int32.toInt64 v1), .long 13, .long 15]) (st := []) hC (c_X12_in l G B S (Int32.toInt64 v1) 13 15 _) hw lk_1556 lk_1557 lk_133 lk_1558 hd_X12_in rfl rfl (Nat.le_of_ble_eq_true rfl) (Nat.le_of_ble_eq_true rfl) rfl (Nat.le_of_ble_eq_true rfl) dX12_count_169 (Nat.le_refl 0) (Nat.le_refl 0) (kI (fun x169 S hw => ?_))
  refine z_if_eq (tgt := 189) hC dX12_count_172 (by decide) (fun c172 => ?_) (fun c172 => ?_)
  · have hw := hw.1 c172
    refine z_iconst hC ic_m1 dX12_count_189 ?_
    exact z_iret hC hr hlk dX12_count_190 ⟨_, rfl, hw⟩
  · have hw := hw.2 c172
    refine z_aload_n hC dX12_count_175 rfl rfl ?_
    refine z_getP hC FX12 3 lk_1358 dX12_count_176 (by decide) hw (fun x176 hw => ?_)
    refine z_iconst hC ic_5 dX12_count_179 ?_
    refine z_iload_n hC dX12_count_180 rfl rfl ?_
    refine z_iadd hC dX12_count_181 ?_
    refine z_bipush hC bi_13 dX12_count_182 ?_
    refine z_isub hC dX12_count_184 ?_
    refine z_aldI hC dX12_count_185 hw (fun x185 hw => ?_)
    refine z_goto (tgt := 190) hC dX12_count_186 (by decide) ?_
    exact z_iret hC hr hlk dX12_count_190 ⟨_, rfl, hw⟩
end
section
variable {p : Program} {l : Launch} {e : Env} {R : Room} {s : State} {m : MethodId} {args : Array Value} {below : List Frame} {meth : Method} {c : Code} {G : hG} {B mc ms : Nat}
def w_X12_status (q : Int32 → hS → Prop) (S : hS) (v0 : Nat) : Prop := pI S v0 12 0 0 (fun S => gI S v0 12 1 (fun x6 => q x6 S))
set_option maxRecDepth 100000 in
set_option maxHeartbeats 4000000 in
theorem c_X12_status (l : Launch) (G : hG) (B : Nat) (S : hS) (v0 : Nat) (q : Int32 → hS → Prop) : Met l yX12_status (hws yX12_status cX12_status 1 (Option.some FieldType.int)) ({ frames := 1, cells := 0, slots := 0, locals := 60 }) (hPc G B S [.ref v0] (w_X12_status q S v0)) (hQ G B (iP q)) (0) (0) (fun r => B ≤ r) := by
  refine hMet (rm := { frames := 1, cells := 0, slots := 0, locals := 60 }) (lv := [some (.ref v0)]) (own := RX12) (fr := 1) (lo := 60) (by decide) rfl rfl rfl (Nat.le_of_ble_eq_true rfl) rfl (fun hw p e R s m args below meth c hC hr hlk hnm => ?_)
  unfold w_X12_status at hw
  refine z_aload_n hC dX12_status_0 rfl rfl ?_
  refine z_iconst hC ic_0 dX12_status_1 ?_
  refine z_putI hC FX12 0 lk_1355 dX12_status_2 (by decide) rfl rfl hw (fun S hw => ?_)
  refine z_aload_n hC dX12_status_5 rfl rfl ?_
  refine z_getI hC FX12 1 lk_1356 dX12_status_6 (by decide) hw (fun x6 hw => ?_)
  exact z_iret hC hr hlk dX12_status_9 ⟨_, rfl, hw⟩
end
