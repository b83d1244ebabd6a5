section
variable {p : Program} {l : Launch} {e : Env} {R : Room} {s : State} {m : MethodId} {args : Array Value} {below : List Frame} {meth : Method} {c : Code} {G : hG} {B mc ms : Nat}
def w_X12_readPart_b150 (q : Int32 → hS → Prop) (S : hS) (t0 : Int64) (t1 : Int64) (t2 : Nat) (t3 : Int32) (t4 : Nat) : Prop := oK S t2 12 ∧ w_X12_number (fun x150 S => sI S t4 t3 x150 (fun S => q 3 S)) S t2 t1 t0
set_option maxRecDepth 100000 in
set_option maxHeartbeats 4000000 in
theorem t_X12_readPart_b150 (hC : zC p R s m args c cX12_readPart 4 RX12 G B mc ms 5 146) (hr : meth.sig.returnType = (Option.some FieldType.int)) (hlk : meth.locks = false) (hnm : meth.name = "readPart") {q : Int32 → hS → Prop} {S : hS} {t0 : Int64} {t1 : Int64} {t2 : Nat} {t3 : Int32} {t4 : Nat} (hw : w_X12_readPart_b150 q S t0 t1 t2 t3 t4) : Z p l e R s m args below meth c (MQ below (hQ G B (iP q)) args s mc ms (fun r => B ≤ r)) G B mc ms 4 S 0 0 150 [none, none, none, none] [.long t0, .long t1, .ref t2, .int t3, .ref t4] := by
  unfold w_X12_readPart_b150 at hw
  refine z_callV (ku' := 0) (kv' := 0) (n := 2) (As := [.long t1, .long t0]) (st := [.int t3, .ref t4]) hC (c_X12_number l G B S t2 t1 t0 _) hw.2 hw.1 rfl lk_1798 lk_1800 lk_79 lk_133 lk_1801 hd_X12_number rfl rfl (Nat.le_of_ble_eq_true rfl) (Nat.le_of_ble_eq_true rfl) rfl (Nat.le_of_ble_eq_true rfl) dX12_readPart_150 (Nat.le_refl 0) (Nat.le_refl 0) (kI (fun x150 S hw => ?_))
  refine z_astI hC dX12_readPart_153 hw (fun S hw => ?_)
  refine z_iconst hC ic_3 dX12_readPart_154 ?_
  exact z_iret hC hr hlk dX12_readPart_155 ⟨_, rfl, hw⟩
def w_X12_readPart_b99 (q : Int32 → hS → Prop) (S : hS) (v0 : Nat) (v1 : Int32) (t0 : Int32) (t1 : Int32) (t2 : Int32) (t3 : Nat) : Prop := oK S t3 12 ∧ w_X12_leaf (fun S => gI S v0 12 20 (fun x103 => (x103 = 0 → q 3 S) ∧ (¬ x103 = 0 → (v1 < 5 → q 3 S) ∧ (¬ v1 < 5 → gI S v0 12 19 (fun x115 => (¬ x115 = 0 → q 3 S) ∧ (x115 = 0 → gI S v0 12 23 (fun x122 => ∀ y127 : Int32, y127 = (x122 - 1) → gP S v0 12 25 (fun x129 => (¬ v1 = 7 → w_X12_readPart_b150 q S 7 0 v0 y127 x129) ∧ (v1 = 7 → w_X12_readPart_b150 q S 5 0 v0 y127 x129))))))))) S t3 t2 t1 t0
set_option maxRecDepth 100000 in
set_option maxHeartbeats 4000000 in
theorem t_X12_readPart_b99 (hC : zC p R s m args c cX12_readPart 4 RX12 G B mc ms 5 146) (hr : meth.sig.returnType = (Option.some FieldType.int)) (hlk : meth.locks = false) (hnm : meth.name = "readPart") {q : Int32 → hS → Prop} {S : hS} {v0 : Nat} {v1 : Int32} {t0 : Int32} {t1 : Int32} {t2 : Int32} {t3 : Nat} (hw : w_X12_readPart_b99 q S v0 v1 t0 t1 t2 t3) : Z p l e R s m args below meth c (MQ below (hQ G B (iP q)) args s mc ms (fun r => B ≤ r)) G B mc ms 4 S 0 0 99 [some (.ref v0), some (.int v1), none, none] [.int t0, .int t1, .int t2, .ref t3] := by
  unfold w_X12_readPart_b99 at hw
  refine z_callV (ku' := 0) (kv' := 0) (n := 3) (As := [.int t2, .int t1, .int t0]) (st := []) hC (c_X12_leaf l G B S t3 t2 t1 t0 _) hw.2 hw.1 rfl lk_1789 lk_1791 lk_77 lk_133 lk_1792 hd_X12_leaf rfl rfl (Nat.le_of_ble_eq_true rfl) (Nat.le_of_ble_eq_true rfl) rfl (Nat.le_of_ble_eq_true rfl) dX12_readPart_99 (Nat.le_refl 0) (Nat.le_refl 0) (kV (fun S hw => ?_))
  refine z_aload_n hC dX12_readPart_102 rfl rfl ?_
  refine z_getI hC FX12 20 lk_1375 dX12_readPart_103 (by decide) hw (fun x103 hw => ?_)
  refine z_if_eq (tgt := 154) hC dX12_readPart_106 (by decide) (fun c106 => ?_) (fun c106 => ?_)
  · have hw := hw.1 c106
    refine z_iconst hC ic_3 dX12_readPart_154 ?_
    exact z_iret hC hr hlk dX12_readPart_155 ⟨_, rfl, hw⟩
  · have hw := hw.2 c106
    refine z_iload_n hC dX12_readPart_109 rfl rfl ?_
    refine z_iconst hC ic_5 dX12_readPart_110 ?_
    refine z_icmp_lt (tgt := 154) hC dX12_readPart_111 (by decide) (fun c111 => ?_) (fun c111 => ?_)
    · have hw := hw.1 c111
      refine z_iconst hC ic_3 dX12_readPart_154 ?_
      exact z_iret hC hr hlk dX12_readPart_155 ⟨_, rfl, hw⟩
    · have hw := hw.2 c111
      refine z_aload_n hC dX12_readPart_114 rfl rfl ?_
      refine z_getI hC FX12 19 lk_1374 dX12_readPart_115 (by decide) hw (fun x115 hw => ?_)
      refine z_if_ne (tgt := 154) hC dX12_readPart_118 (by decide) (fun c118 => ?_) (fun c118 => ?_)
      · have hw := hw.1 c118
        refine z_iconst hC ic_3 dX12_readPart_154 ?_
        exact z_iret hC hr hlk dX12_readPart_155 ⟨_, rfl, hw⟩
      · have hw := hw.2 c118
        refine z_aload_n hC dX12_readPart_121 rfl rfl ?_
        refine z_getI hC FX12 23 lk_1378 dX12_readPart_122 (by decide) hw (fun x122 hw => ?_)
        refine z_iconst hC ic_1 dX12_readPart_125 ?_
        refine z_isub hC dX12_readPart_126 ?_
        refine z_nmI (fun y127 e127 => ?_)
        have hw := hw y127 e127
        refine z_istore_n (i := 3) (lv' := [some (.ref v0), some (.int v1), none, some (.int y127)]) hC rfl dX12_readPart_127 (by decide) (hok_n rfl) rfl ?_
        refine z_aload_n hC dX12_readPart_128 rfl rfl ?_
        refine z_getP hC FX12 25 lk_1380 dX12_readPart_129 (by decide) hw (fun x129 hw => ?_)
        refine z_iload_n hC dX12_readPart_132 rfl rfl ?_
        refine z_aload_n hC dX12_readPart_133 rfl rfl ?_
        refine z_lconst hC lc_0 dX12_readPart_134 ?_
        refine z_iload_n hC dX12_readPart_135 rfl rfl ?_
        refine z_bipush hC bi_7 dX12_readPart_136 ?_
        refine z_icmp_ne (tgt := 147) hC dX12_readPart_138 (by decide) (fun c138 => ?_) (fun c138 => ?_)
        · have hw := hw.1 c138
          refine z_ldc2 hC lk_1656 dX12_readPart_147 ?_
          refine z_mask (lv' := [none, none, none, none]) [false, false, false, false] rfl ?_
          exact t_X12_readPart_b150 hC hr hlk hnm hw
        · have hw := hw.2 c138
          refine z_ldc2 hC lk_1797 dX12_readPart_141 ?_
          refine z_goto (tgt := 150) hC dX12_readPart_144 (by decide) ?_
          refine z_mask (lv' := [none, none, none, none]) [false, false, false, false] rfl ?_
          exact t_X12_readPart_b150 hC hr hlk hnm hw
def w_X12_readPart_b86 (q : Int32 → hS → Prop) (S : hS) (v0 : Nat) (v1 : Int32) (v2 : Int32) (t0 : Int32) (t1 : Int32) (t2 : Nat) : Prop := (v2 = 0 → w_X12_readPart_b99 q S v0 v1 0 t0 t1 t2) ∧ (¬ v2 = 0 → gJ S v0 12 17 (fun x91 => w_X12_readPart_b99 q S v0 v1 (Int64.toInt32 x91) t0 t1 t2))
set_option maxRecDepth 100000 in
set_option maxHeartbeats 4000000 in
theorem t_X12_readPart_b86 (hC : zC p R s m args c cX12_readPart 4 RX12 G B mc ms 5 146) (hr : meth.sig.returnType = (Option.some FieldType.int)) (hlk : meth.locks = false) (hnm : meth.name = "readPart") {q : Int32 → hS → Prop} {S : hS} {v0 : Nat} {v1 : Int32} {v2 : Int32} {t0 : Int32} {t1 : Int32} {t2 : Nat} (hw : w_X12_readPart_b86 q S v0 v1 v2 t0 t1 t2) : Z p l e R s m args below meth c (MQ below (hQ G B (iP q)) args s mc ms (fun r => B ≤ r)) G B mc ms 4 S 0 0 86 [some (.ref v0), some (.int v1), some (.int v2), none] [.int t0, .int t1, .ref t2] := by
  unfold w_X12_readPart_b86 at hw
  refine z_iload_n hC dX12_readPart_86 rfl rfl ?_
  refine z_if_eq (tgt := 98) hC dX12_readPart_87 (by decide) (fun c87 => ?_) (fun c87 => ?_)
  · have hw := hw.1 c87
    refine z_iconst hC ic_0 dX12_readPart_98 ?_
    refine z_mask (lv' := [some (.ref v0), some (.int v1), none, none]) [true, true, false, false] rfl ?_
    exact t_X12_readPart_b99 hC hr hlk hnm hw
  · have hw := hw.2 c87
    refine z_aload_n hC dX12_readPart_90 rfl rfl ?_
    refine z_getJ hC FX12 17 lk_1372 dX12_readPart_91 (by decide) hw (fun x91 hw => ?_)
    refine z_l2i hC rfl dX12_readPart_94 ?_
    refine z_goto (tgt := 99) hC dX12_readPart_95 (by decide) ?_
    refine z_mask (lv' := [some (.ref v0), some (.int v1), none, none]) [true, true, false, false] rfl ?_
    exact t_X12_readPart_b99 hC hr hlk hnm hw
def w_X12_readPart_b76 (q : Int32 → hS → Prop) (S : hS) (v0 : Nat) (v1 : Int32) (v2 : Int32) (t0 : Int32) (t1 : Nat) : Prop := (¬ v1 = (-1) → w_X12_readPart_b86 q S v0 v1 v2 v1 t0 t1) ∧ (v1 = (-1) → w_X12_readPart_b86 q S v0 v1 v2 0 t0 t1)
set_option maxRecDepth 100000 in
set_option maxHeartbeats 4000000 in
theorem t_X12_readPart_b76 (hC : zC p R s m args c cX12_readPart 4 RX12 G B mc ms 5 146) (hr : meth.sig.returnType = (Option.some FieldType.int)) (hlk : meth.locks = false) (hnm : meth.name = "readPart") {q : Int32 → hS → Prop} {S : hS} {v0 : Nat} {v1 : Int32} {v2 : Int32} {t0 : Int32} {t1 : Nat} (hw : w_X12_readPart_b76 q S v0 v1 v2 t0 t1) : Z p l e R s m args below meth c (MQ below (hQ G B (iP q)) args s mc ms (fun r => B ≤ r)) G B mc ms 4 S 0 0 76 [some (.ref v0), some (.int v1), some (.int v2), none] [.int t0, .ref t1] := by
  unfold w_X12_readPart_b76 at hw
  refine z_iload_n hC dX12_readPart_76 rfl rfl ?_
  refine z_iconst hC ic_m1 dX12_readPart_77 ?_
  refine z_icmp_ne (tgt := 85) hC dX12_readPart_78 (by decide) (fun c78 => ?_) (fun c78 => ?_)
  · have hw := hw.1 c78
    refine z_iload_n hC dX12_readPart_85 rfl rfl ?_
    refine z_mask (lv' := [some (.ref v0), some (.int v1), some (.int v2), none]) [true, true, true, false] rfl ?_
    exact t_X12_readPart_b86 hC hr hlk hnm hw
  · have hw := hw.2 c78
    refine z_iconst hC ic_0 dX12_readPart_81 ?_
    refine z_goto (tgt := 86) hC dX12_readPart_82 (by decide) ?_
    refine z_mask (lv' := [some (.ref v0), some (.int v1), some (.int v2), none]) [true, true, true, false] rfl ?_
    exact t_X12_readPart_b86 hC hr hlk hnm hw
def w_X12_readPart_b71 (q : Int32 → hS → Prop) (S : hS) (v0 : Nat) (v1 : Int32) (v2 : Int32) (t0 : Nat) : Prop := w_X12_readPart_b76 q S v0 v1 v2 1 t0
set_option maxRecDepth 100000 in
set_option maxHeartbeats 4000000 in
theorem t_X12_readPart_b71 (hC : zC p R s m args c cX12_readPart 4 RX12 G B mc ms 5 146) (hr : meth.sig.returnType = (Option.some FieldType.int)) (hlk : meth.locks = false) (hnm : meth.name = "readPart") {q : Int32 → hS → Prop} {S : hS} {v0 : Nat} {v1 : Int32} {v2 : Int32} {t0 : Nat} (hw : w_X12_readPart_b71 q S v0 v1 v2 t0) : Z p l e R s m args below meth c (MQ below (hQ G B (iP q)) args s mc ms (fun r => B ≤ r)) G B mc ms 4 S 0 0 71 [some (.ref v0), some (.int v1), some (.int v2), none] [.ref t0] := by
  unfold w_X12_readPart_b71 at hw
  refine z_iconst hC ic_1 dX12_readPart_71 ?_
  refine z_goto (tgt := 76) hC dX12_readPart_72 (by decide) ?_
  refine z_mask (lv' := [some (.ref v0), some (.int v1), some (.int v2), none]) [true, true, true, false] rfl ?_
  exact t_X12_readPart_b76 hC hr hlk hnm hw
def w_X12_readPart_b60 (q : Int32 → hS → Prop) (S : hS) (v0 : Nat) (v1 : Int32) (t0 : Int32) : Prop := (¬ v1 = (-1) → w_X12_readPart_b71 q S v0 v1 t0 v0) ∧ (v1 = (-1) → (t0 = 0 → w_X12_readPart_b76 q S v0 v1 t0 0 v0) ∧ (¬ t0 = 0 → w_X12_readPart_b71 q S v0 v1 t0 v0))
set_option maxRecDepth 100000 in
set_option maxHeartbeats 4000000 in
theorem t_X12_readPart_b60 (hC : zC p R s m args c cX12_readPart 4 RX12 G B mc ms 5 146) (hr : meth.sig.returnType = (Option.some FieldType.int)) (hlk : meth.locks = false) (hnm : meth.name = "readPart") {q : Int32 → hS → Prop} {S : hS} {v0 : Nat} {v1 : Int32} {t0 : Int32} (hw : w_X12_readPart_b60 q S v0 v1 t0) : Z p l e R s m args below meth c (MQ below (hQ G B (iP q)) args s mc ms (fun r => B ≤ r)) G B mc ms 4 S 0 0 60 [some (.ref v0), some (.int v1), none, none] [.int t0] := by
  unfold w_X12_readPart_b60 at hw
  refine z_istore_n (i := 2) (lv' := [some (.ref v0), some (.int v1), some (.int t0), none]) hC rfl dX12_readPart_60 (by decide) (hok_v rfl rfl) rfl ?_
  refine z_aload_n hC dX12_readPart_61 rfl rfl ?_
  refine z_iload_n hC dX12_readPart_62 rfl rfl ?_
  refine z_iconst hC ic_m1 dX12_readPart_63 ?_
  refine z_icmp_ne (tgt := 71) hC dX12_readPart_64 (by decide) (fun c64 => ?_) (fun c64 => ?_)
  · have hw := hw.1 c64
    refine z_mask (lv' := [some (.ref v0), some (.int v1), some (.int t0), none]) [true, true, true, false] rfl ?_
    exact t_X12_readPart_b71 hC hr hlk hnm hw
  · have hw := hw.2 c64
    refine z_iload_n hC dX12_readPart_67 rfl rfl ?_
    refine z_if_eq (tgt := 75) hC dX12_readPart_68 (by decide) (fun c68 => ?_) (fun c68 => ?_)
    · have hw := hw.1 c68
      refine z_iconst hC ic_0 dX12_readPart_75 ?_
      refine z_mask (lv' := [some (.ref v0), some (.int v1), some (.int t0), none]) [true, true, true, false] rfl ?_
      exact t_X12_readPart_b76 hC hr hlk hnm hw
    · have hw := hw.2 c68
      refine z_mask (lv' := [some (.ref v0), some (.int v1), some (.int t0), none]) [true, true, true, false] rfl ?_
      exact t_X12_readPart_b71 hC hr hlk hnm hw
def w_X12_readPart_b59 (q : Int32 → hS → Prop) (S : hS) (v0 : Nat) (v1 : Int32) : Prop := w_X12_readPart_b60 q S v0 v1 0
set_option maxRecDepth 100000 in
set_option maxHeartbeats 4000000 in
theorem t_X12_readPart_b59 (hC : zC p R s m args c cX12_readPart 4 RX12 G B mc ms 5 146) (hr : meth.sig.returnType = (Option.some FieldType.int)) (hlk : meth.locks = false) (hnm : meth.name = "readPart") {q : Int32 → hS → Prop} {S : hS} {v0 : Nat} {v1 : Int32} (hw : w_X12_readPart_b59 q S v0 v1) : Z p l e R s m args below meth c (MQ below (hQ G B (iP q)) args s mc ms (fun r => B ≤ r)) G B mc ms 4 S 0 0 59 [some (.ref v0), some (.int v1), none, none] [] := by
  unfold w_X12_readPart_b59 at hw
  refine z_iconst hC ic_0 dX12_readPart_59 ?_
  refine z_mask (lv' := [some (.ref v0), some (.int v1), none, none]) [true, true, false, false] rfl ?_
  exact t_X12_readPart_b60 hC hr hlk hnm hw
def w_X12_readPart_b35 (q : Int32 → hS → Prop) (S : hS) (v0 : Nat) (t0 : Int32) : Prop := gI S v0 12 16 (fun x37 => (¬ x37 = 2 → w_X12_readPart_b59 q S v0 t0) ∧ (x37 = 2 → gJ S v0 12 17 (fun x45 => (0 < (lg_cmp x45 1000) → w_X12_readPart_b59 q S v0 t0) ∧ (¬ 0 < (lg_cmp x45 1000) → w_X12_readPart_b60 q S v0 t0 1))))
set_option maxRecDepth 100000 in
set_option maxHeartbeats 4000000 in
theorem t_X12_readPart_b35 (hC : zC p R s m args c cX12_readPart 4 RX12 G B mc ms 5 146) (hr : meth.sig.returnType = (Option.some FieldType.int)) (hlk : meth.locks = false) (hnm : meth.name = "readPart") {q : Int32 → hS → Prop} {S : hS} {v0 : Nat} {t0 : Int32} (hw : w_X12_readPart_b35 q S v0 t0) : Z p l e R s m args below meth c (MQ below (hQ G B (iP q)) args s mc ms (fun r => B ≤ r)) G B mc ms 4 S 0 0 35 [some (.ref v0), none, none, none] [.int t0] := by
  unfold w_X12_readPart_b35 at hw
  refine z_istore_n (i := 1) (lv' := [some (.ref v0), some (.int t0), none, none]) hC rfl dX12_readPart_35 (by decide) (hok_v rfl rfl) rfl ?_
  refine z_aload_n hC dX12_readPart_36 rfl rfl ?_
  refine z_getI hC FX12 16 lk_1371 dX12_readPart_37 (by decide) hw (fun x37 hw => ?_)
  refine z_iconst hC ic_2 dX12_readPart_40 ?_
  refine z_icmp_ne (tgt := 59) hC dX12_readPart_41 (by decide) (fun c41 => ?_) (fun c41 => ?_)
  · have hw := hw.1 c41
    refine z_mask (lv' := [some (.ref v0), some (.int t0), none, none]) [true, true, false, false] rfl ?_
    exact t_X12_readPart_b59 hC hr hlk hnm hw
  · have hw := hw.2 c41
    refine z_aload_n hC dX12_readPart_44 rfl rfl ?_
    refine z_getJ hC FX12 17 lk_1372 dX12_readPart_45 (by decide) hw (fun x45 hw => ?_)
    refine z_ldc2 hC lk_1788 dX12_readPart_48 ?_
    refine z_lcmp hC dX12_readPart_51 ?_
    refine z_if_gt (tgt := 59) hC dX12_readPart_52 (by decide) (fun c52 => ?_) (fun c52 => ?_)
    · have hw := hw.1 c52
      refine z_mask (lv' := [some (.ref v0), some (.int t0), none, none]) [true, true, false, false] rfl ?_
      exact t_X12_readPart_b59 hC hr hlk hnm hw
    · have hw := hw.2 c52
      refine z_iconst hC ic_1 dX12_readPart_55 ?_
      refine z_goto (tgt := 60) hC dX12_readPart_56 (by decide) ?_
      refine z_mask (lv' := [some (.ref v0), some (.int t0), none, none]) [true, true, false, false] rfl ?_
      exact t_X12_readPart_b60 hC hr hlk hnm hw
def w_X12_readPart (q : Int32 → hS → Prop) (S : hS) (v0 : Nat) : Prop := oK S v0 12 ∧ w_X12_isSign (fun x3 S => (x3 = 0 → gI S v0 12 20 (fun x18 => (x18 = 0 → oK S v0 12 ∧ w_X12_partAt (fun x32 S => w_X12_readPart_b35 q S v0 x32) S v0) ∧ (¬ x18 = 0 → oK S v0 12 ∧ w_X12_orderPartAt (fun x25 S => w_X12_readPart_b35 q S v0 x25) S v0))) ∧ (¬ x3 = 0 → oK S v0 12 ∧ w_X12_openBracket (fun S => q 1 S) S v0 32)) S v0 91
set_option maxRecDepth 100000 in
set_option maxHeartbeats 4000000 in
theorem c_X12_readPart (l : Launch) (G : hG) (B : Nat) (S : hS) (v0 : Nat) (q : Int32 → hS → Prop) : Met l yX12_readPart (hws yX12_readPart cX12_readPart 4 (Option.some FieldType.int)) ({ frames := 5, cells := 0, slots := 0, locals := 146 }) (hPc G B S [.ref v0] (w_X12_readPart q S v0)) (hQ G B (iP q)) (0) (0) (fun r => B ≤ r) := by
  refine hMet (rm := { frames := 5, cells := 0, slots := 0, locals := 146 }) (lv := [some (.ref v0), none, none, none]) (own := RX12) (fr := 5) (lo := 146) (by decide) rfl rfl rfl (Nat.le_of_ble_eq_true rfl) rfl (fun hw p e R s m args below meth c hC hr hlk hnm => ?_)
  unfold w_X12_readPart at hw
  refine z_aload_n hC dX12_readPart_0 rfl rfl ?_
  refine z_bipush hC bi_91 dX12_readPart_1 ?_
  refine z_callV (ku' := 0) (kv' := 0) (n := 1) (As := [.int 91]) (st := []) hC (c_X12_isSign l G B S v0 91 _) hw.2 hw.1 rfl lk_1768 lk_1770 lk_72 lk_133 lk_1771 hd_X12_isSign rfl rfl (Nat.le_of_ble_eq_true rfl) (Nat.le_of_ble_eq_true rfl) rfl (Nat.le_of_ble_eq_true rfl) dX12_readPart_3 (Nat.le_refl 0) (Nat.le_refl 0) (kI (fun x3 S hw => ?_))
  refine z_if_eq (tgt := 17) hC dX12_readPart_6 (by decide) (fun c6 => ?_) (fun c6 => ?_)
  · have hw := hw.1 c6
    refine z_aload_n hC dX12_readPart_17 rfl rfl ?_
    refine z_getI hC FX12 20 lk_1375 dX12_readPart_18 (by decide) hw (fun x18 hw => ?_)
    refine z_if_eq (tgt := 31) hC dX12_readPart_21 (by decide) (fun c21 => ?_) (fun c21 => ?_)
    · have hw := hw.1 c21
      refine z_aload_n hC dX12_readPart_31 rfl rfl ?_
      refine z_callV (ku' := 0) (kv' := 0) (n := 0) (As := []) (st := []) hC (c_X12_partAt l G B S v0 _) hw.2 hw.1 rfl lk_1784 lk_1786 lk_76 lk_133 lk_1787 hd_X12_partAt rfl rfl (Nat.le_of_ble_eq_true rfl) (Nat.le_of_ble_eq_true rfl) rfl (Nat.le_of_ble_eq_true rfl) dX12_readPart_32 (Nat.le_refl 0) (Nat.le_refl 0) (kI (fun x32 S hw => ?_))
      refine z_mask (lv' := [some (.ref v0), none, none, none]) [true, false, false, false] rfl ?_
      exact t_X12_readPart_b35 hC hr hlk hnm hw
    · have hw := hw.2 c21
      refine z_aload_n hC dX12_readPart_24 rfl rfl ?_
      refine z_callV (ku' := 0) (kv' := 0) (n := 0) (As := []) (st := []) hC (c_X12_orderPartAt l G B S v0 _) hw.2 hw.1 rfl lk_1780 lk_1782 lk_75 lk_133 lk_1783 hd_X12_orderPartAt rfl rfl (Nat.le_of_ble_eq_true rfl) (Nat.le_of_ble_eq_true rfl) rfl (Nat.le_of_ble_eq_true rfl) dX12_readPart_25 (Nat.le_refl 0) (Nat.le_refl 0) (kI (fun x25 S hw => ?_))
      refine z_goto (tgt := 35) hC dX12_readPart_28 (by decide) ?_
      refine z_mask (lv' := [some (.ref v0), none, none, none]) [true, false, false, false] rfl ?_
      exact t_X12_readPart_b35 hC hr hlk hnm hw
  · have hw := hw.2 c6
    refine z_aload_n hC dX12_readPart_9 rfl rfl ?_
    refine z_bipush hC bi_32 dX12_readPart_10 ?_
    refine z_callV (ku' := 0) (kv' := 0) (n := 1) (As := [.int 32]) (st := []) hC (c_X12_openBracket l G B S v0 32 _) hw.2 hw.1 rfl lk_1772 lk_1774 lk_73 lk_133 lk_1775 hd_X12_openBracket rfl rfl (Nat.le_of_ble_eq_true rfl) (Nat.le_of_ble_eq_true rfl) rfl (Nat.le_of_ble_eq_true rfl) dX12_readPart_12 (Nat.le_refl 0) (Nat.le_refl 0) (kV (fun S hw => ?_))
    refine z_iconst hC ic_1 dX12_readPart_15 ?_
    exact z_iret hC hr hlk dX12_readPart_16 ⟨_, rfl, hw⟩
end
section
variable {p : Program} {l : Launch} {e : Env} {R : Room} {s : State} {m : MethodId} {args : Array Value} {below : List Frame} {meth : Method} {c : Code} {G : hG} {B mc ms : Nat}
def w_X12_readPlain (q : Int32 → hS → Prop) (S : hS) (v0 : Nat) : Prop := oK S v0 12 ∧ w_X12_isWord (fun x4 S => (x4 = 0 → oK S v0 12 ∧ w_X12_isSign (fun x26 S => (x26 = 0 → oK S v0 12 ∧ w_X12_readPart (fun x41 S => q x41 S) S v0) ∧ (¬ x26 = 0 → oK S v0 12 ∧ w_X12_openBracket (fun S => q 0 S) S v0 31)) S v0 40) ∧ (¬ x4 = 0 → oK S v0 12 ∧ w_X12_push (fun S => oK S v0 12 ∧ w_X12_next (fun S => q 0 S) S v0) S v0 28 0)) S v0 14836
set_option maxRecDepth 100000 in
set_option maxHeartbeats 4000000 in
theorem c_X12_readPlain (l : Launch) (G : hG) (B : Nat) (S : hS) (v0 : Nat) (q : Int32 → hS → Prop) : Met l yX12_readPlain (hws yX12_readPlain cX12_readPlain 1 (Option.some FieldType.int)) ({ frames := 6, cells := 0, slots := 0, locals := 169 }) (hPc G B S [.ref v0] (w_X12_readPlain q S v0)) (hQ G B (iP q)) (0) (0) (fun r => B ≤ r) := by
  refine hMet (rm := { frames := 6, cells := 0, slots := 0, locals := 169 }) (lv := [some (.ref v0)]) (own := RX12) (fr := 6) (lo := 169) (by decide) rfl rfl rfl (Nat.le_of_ble_eq_true rfl) rfl (fun hw p e R s m args below meth c hC hr hlk hnm => ?_)
  unfold w_X12_readPlain at hw
  refine z_aload_n hC dX12_readPlain_0 rfl rfl ?_
  refine z_ldc2 hC lk_1763 dX12_readPlain_1 ?_
  refine z_callV (ku' := 0) (kv' := 0) (n := 1) (As := [.long 14836]) (st := []) hC (c_X12_isWord l G B S v0 14836 _) hw.2 hw.1 rfl lk_1747 lk_1749 lk_67 lk_133 lk_1750 hd_X12_isWord rfl rfl (Nat.le_of_ble_eq_true rfl) (Nat.le_of_ble_eq_true rfl) rfl (Nat.le_of_ble_eq_true rfl) dX12_readPlain_4 (Nat.le_refl 0) (Nat.le_refl 0) (kI (fun x4 S hw => ?_))
  refine z_if_eq (tgt := 23) hC dX12_readPlain_7 (by decide) (fun c7 => ?_) (fun c7 => ?_)
  · have hw := hw.1 c7
    refine z_aload_n hC dX12_readPlain_23 rfl rfl ?_
    refine z_bipush hC bi_40 dX12_readPlain_24 ?_
    refine z_callV (ku' := 0) (kv' := 0) (n := 1) (As := [.int 40]) (st := []) hC (c_X12_isSign l G B S v0 40 _) hw.2 hw.1 rfl lk_1768 lk_1770 lk_72 lk_133 lk_1771 hd_X12_isSign rfl rfl (Nat.le_of_ble_eq_true rfl) (Nat.le_of_ble_eq_true rfl) rfl (Nat.le_of_ble_eq_true rfl) dX12_readPlain_26 (Nat.le_refl 0) (Nat.le_refl 0) (kI (fun x26 S hw => ?_))
    refine z_if_eq (tgt := 40) hC dX12_readPlain_29 (by decide) (fun c29 => ?_) (fun c29 => ?_)
    · have hw := hw.1 c29
      refine z_aload_n hC dX12_readPlain_40 rfl rfl ?_
      refine z_callV (ku' := 0) (kv' := 0) (n := 0) (As := []) (st := []) hC (c_X12_readPart l G B S v0 _) hw.2 hw.1 rfl lk_1776 lk_1778 lk_74 lk_133 lk_1779 hd_X12_readPart rfl rfl (Nat.le_of_ble_eq_true rfl) (Nat.le_of_ble_eq_true rfl) rfl (Nat.le_of_ble_eq_true rfl) dX12_readPlain_41 (Nat.le_refl 0) (Nat.le_refl 0) (kI (fun x41 S hw => ?_))
      exact z_iret hC hr hlk dX12_readPlain_44 ⟨_, rfl, hw⟩
    · have hw := hw.2 c29
      refine z_aload_n hC dX12_readPlain_32 rfl rfl ?_
      refine z_bipush hC bi_31 dX12_readPlain_33 ?_
      refine z_callV (ku' := 0) (kv' := 0) (n := 1) (As := [.int 31]) (st := []) hC (c_X12_openBracket l G B S v0 31 _) hw.2 hw.1 rfl lk_1772 lk_1774 lk_73 lk_133 lk_1775 hd_X12_openBracket rfl rfl (Nat.le_of_ble_eq_true rfl) (Nat.le_of_ble_eq_true rfl) rfl (Nat.le_of_ble_eq_true rfl) dX12_readPlain_35 (Nat.le_refl 0) (Nat.le_refl 0) (kV (fun S hw => ?_))
      refine z_iconst hC ic_0 dX12_readPlain_38 ?_
      exact z_iret hC hr hlk dX12_readPlain_39 ⟨_, rfl, hw⟩
  · have hw := hw.2 c7
    refine z_aload_n hC dX12_readPlain_10 rfl rfl ?_
    refine z_bipush hC bi_28 dX12_readPlain_11 ?_
    refine z_iconst hC ic_0 dX12_readPlain_13 ?_
    refine z_callV (ku' := 0) (kv' := 0) (n := 2) (As := [.int 28, .int 0]) (st := []) hC (c_X12_push l G B S v0 28 0 _) hw.2 hw.1 rfl lk_1764 lk_1766 lk_71 lk_133 lk_1767 hd_X12_push rfl rfl (Nat.le_of_ble_eq_true rfl) (Nat.le_of_ble_eq_true rfl) rfl (Nat.le_of_ble_eq_true rfl) dX12_readPlain_14 (Nat.le_refl 0) (Nat.le_refl 0) (kV (fun S hw => ?_))
    refine z_aload_n hC dX12_readPlain_17 rfl rfl ?_
    refine z_callV (ku' := 0) (kv' := 0) (n := 0) (As := []) (st := []) hC (c_X12_next l G B S v0 _) hw.2 hw.1 rfl lk_1729 lk_1731 lk_65 lk_133 lk_1732 hd_X12_next rfl rfl (Nat.le_of_ble_eq_true rfl) (Nat.le_of_ble_eq_true rfl) rfl (Nat.le_of_ble_eq_true rfl) dX12_readPlain_18 (Nat.le_refl 0) (Nat.le_refl 0) (kV (fun S hw => ?_))
    refine z_iconst hC ic_0 dX12_readPlain_21 ?_
    exact z_iret hC hr hlk dX12_readPlain_22 ⟨_, rfl, hw⟩
end
section
variable {p : Program} {l : Launch} {e : Env} {R : Room} {s : State} {m : MethodId} {args : Array Value} {below : List Frame} {meth : Method} {c : Code} {G : hG} {B mc ms : Nat}
def w_X12_behindSum_b224 (q : Int32 → hS → Prop) (S : hS) (v0 : Nat) (v2 : Int32) (t0 : Int32) (t1 : Nat) : Prop := oK S t1 12 ∧ w_X12_must (fun S => gI S v0 12 19 (fun x228 => (¬ x228 = 0 → q 1 S) ∧ (x228 = 0 → oK S v0 12 ∧ w_X12_settle (fun S => oK S v0 12 ∧ w_X12_push (fun S => q 1 S) S v0 v2 0) S v0 5))) S t1 t0
set_option maxRecDepth 100000 in
set_option maxHeartbeats 4000000 in
theorem t_X12_behindSum_b224 (hC : zC p R s m args c cX12_behindSum 4 RX12 G B mc ms 4 121) (hr : meth.sig.returnType = (Option.some FieldType.int)) (hlk : meth.locks = false) (hnm : meth.name = "behindSum") {q : Int32 → hS → Prop} {S : hS} {v0 : Nat} {v2 : Int32} {t0 : Int32} {t1 : Nat} (hw : w_X12_behindSum_b224 q S v0 v2 t0 t1) : Z p l e R s m args below meth c (MQ below (hQ G B (iP q)) args s mc ms (fun r => B ≤ r)) G B mc ms 4 S 0 0 224 [some (.ref v0), none, some (.int v2), none] [.int t0, .ref t1] := by
  unfold w_X12_behindSum_b224 at hw
  refine z_callV (ku' := 0) (kv' := 0) (n := 1) (As := [.int t0]) (st := []) hC (c_X12_must l G B S t1 t0 _) hw.2 hw.1 rfl lk_1751 lk_1753 lk_68 lk_133 lk_1754 hd_X12_must rfl rfl (Nat.le_of_ble_eq_true rfl) (Nat.le_of_ble_eq_true rfl) rfl (Nat.le_of_ble_eq_true rfl) dX12_behindSum_224 (Nat.le_refl 0) (Nat.le_refl 0) (kV (fun S hw => ?_))
  refine z_aload_n hC dX12_behindSum_227 rfl rfl ?_
  refine z_getI hC FX12 19 lk_1374 dX12_behindSum_228 (by decide) hw (fun x228 hw => ?_)
  refine z_if_ne (tgt := 245) hC dX12_behindSum_231 (by decide) (fun c231 => ?_) (fun c231 => ?_)
  · have hw := hw.1 c231
    refine z_iconst hC ic_1 dX12_behindSum_245 ?_
    exact z_iret hC hr hlk dX12_behindSum_246 ⟨_, rfl, hw⟩
  · have hw := hw.2 c231
    refine z_aload_n hC dX12_behindSum_234 rfl rfl ?_
    refine z_iconst hC ic_5 dX12_behindSum_235 ?_
    refine z_callV (ku' := 0) (kv' := 0) (n := 1) (As := [.int 5]) (st := []) hC (c_X12_settle l G B S v0 5 _) hw.2 hw.1 rfl lk_1809 lk_1811 lk_81 lk_133 lk_1812 hd_X12_settle rfl rfl (Nat.le_of_ble_eq_true rfl) (Nat.le_of_ble_eq_true rfl) rfl (Nat.le_of_ble_eq_true rfl) dX12_behindSum_236 (Nat.le_refl 0) (Nat.le_refl 0) (kV (fun S hw => ?_))
    refine z_aload_n hC dX12_behindSum_239 rfl rfl ?_
    refine z_iload_n hC dX12_behindSum_240 rfl rfl ?_
    refine z_iconst hC ic_0 dX12_behindSum_241 ?_
    refine z_callV (ku' := 0) (kv' := 0) (n := 2) (As := [.int v2, .int 0]) (st := []) hC (c_X12_push l G B S v0 v2 0 _) hw.2 hw.1 rfl lk_1764 lk_1766 lk_71 lk_133 lk_1767 hd_X12_push rfl rfl (Nat.le_of_ble_eq_true rfl) (Nat.le_of_ble_eq_true rfl) rfl (Nat.le_of_ble_eq_true rfl) dX12_behindSum_242 (Nat.le_refl 0) (Nat.le_refl 0) (kV (fun S hw => ?_))
    refine z_iconst hC ic_1 dX12_behindSum_245 ?_
    exact z_iret hC hr hlk dX12_behindSum_246 ⟨_, rfl, hw⟩
def w_X12_behindSum_b219 (q : Int32 → hS → Prop) (S : hS) (v0 : Nat) (v2 : Int32) (t0 : Nat) : Prop := w_X12_behindSum_b224 q S v0 v2 1 t0
set_option maxRecDepth 100000 in
set_option maxHeartbeats 4000000 in
theorem t_X12_behindSum_b219 (hC : zC p R s m args c cX12_behindSum 4 RX12 G B mc ms 4 121) (hr : meth.sig.returnType = (Option.some FieldType.int)) (hlk : meth.locks = false) (hnm : meth.name = "behindSum") {q : Int32 → hS → Prop} {S : hS} {v0 : Nat} {v2 : Int32} {t0 : Nat} (hw : w_X12_behindSum_b219 q S v0 v2 t0) : Z p l e R s m args below meth c (MQ below (hQ G B (iP q)) args s mc ms (fun r => B ≤ r)) G B mc ms 4 S 0 0 219 [some (.ref v0), none, some (.int v2), none] [.ref t0] := by
  unfold w_X12_behindSum_b219 at hw
  refine z_iconst hC ic_1 dX12_behindSum_219 ?_
  refine z_goto (tgt := 224) hC dX12_behindSum_220 (by decide) ?_
  refine z_mask (lv' := [some (.ref v0), none, some (.int v2), none]) [true, false, true, false] rfl ?_
  exact t_X12_behindSum_b224 hC hr hlk hnm hw
def w_X12_behindSum_b202 (q : Int32 → hS → Prop) (S : hS) (v0 : Nat) (t0 : Int32) : Prop := (¬ t0 = 27 → w_X12_behindSum_b219 q S v0 t0 v0) ∧ (t0 = 27 → oK S v0 12 ∧ w_X12_isSign (fun x213 S => (x213 = 0 → w_X12_behindSum_b224 q S v0 t0 0 v0) ∧ (¬ x213 = 0 → w_X12_behindSum_b219 q S v0 t0 v0)) S v0 61)
set_option maxRecDepth 100000 in
set_option maxHeartbeats 4000000 in
theorem t_X12_behindSum_b202 (hC : zC p R s m args c cX12_behindSum 4 RX12 G B mc ms 4 121) (hr : meth.sig.returnType = (Option.some FieldType.int)) (hlk : meth.locks = false) (hnm : meth.name = "behindSum") {q : Int32 → hS → Prop} {S : hS} {v0 : Nat} {t0 : Int32} (hw : w_X12_behindSum_b202 q S v0 t0) : Z p l e R s m args below meth c (MQ below (hQ G B (iP q)) args s mc ms (fun r => B ≤ r)) G B mc ms 4 S 0 0 202 [some (.ref v0), none, none, none] [.int t0] := by
  unfold w_X12_behindSum_b202 at hw
  refine z_istore_n (i := 2) (lv' := [some (.ref v0), none, some (.int t0), none]) hC rfl dX12_behindSum_202 (by decide) (hok_n rfl) rfl ?_
  refine z_aload_n hC dX12_behindSum_203 rfl rfl ?_
  refine z_iload_n hC dX12_behindSum_204 rfl rfl ?_
  refine z_bipush hC bi_27 dX12_behindSum_205 ?_
  refine z_icmp_ne (tgt := 219) hC dX12_behindSum_207 (by decide) (fun c207 => ?_) (fun c207 => ?_)
  · have hw := hw.1 c207
    refine z_mask (lv' := [some (.ref v0), none, some (.int t0), none]) [true, false, true, false] rfl ?_
    exact t_X12_behindSum_b219 hC hr hlk hnm hw
  · have hw := hw.2 c207
    refine z_aload_n hC dX12_behindSum_210 rfl rfl ?_
    refine z_bipush hC bi_61 dX12_behindSum_211 ?_
    refine z_callV (ku' := 0) (kv' := 0) (n := 1) (As := [.int 61]) (st := [.ref v0]) hC (c_X12_isSign l G B S v0 61 _) hw.2 hw.1 rfl lk_1768 lk_1770 lk_72 lk_133 lk_1771 hd_X12_isSign rfl rfl (Nat.le_of_ble_eq_true rfl) (Nat.le_of_ble_eq_true rfl) rfl (Nat.le_of_ble_eq_true rfl) dX12_behindSum_213 (Nat.le_refl 0) (Nat.le_refl 0) (kI (fun x213 S hw => ?_))
    refine z_if_eq (tgt := 223) hC dX12_behindSum_216 (by decide) (fun c216 => ?_) (fun c216 => ?_)
    · have hw := hw.1 c216
      refine z_iconst hC ic_0 dX12_behindSum_223 ?_
      refine z_mask (lv' := [some (.ref v0), none, some (.int t0), none]) [true, false, true, false] rfl ?_
      exact t_X12_behindSum_b224 hC hr hlk hnm hw
    · have hw := hw.2 c216
      refine z_mask (lv' := [some (.ref v0), none, some (.int t0), none]) [true, false, true, false] rfl ?_
      exact t_X12_behindSum_b219 hC hr hlk hnm hw
def w_X12_behindSum_b163 (q : Int32 → hS → Prop) (S : hS) (v0 : Nat) : Prop := oK S v0 12 ∧ w_X12_isCompared (fun x164 S => (x164 = 0 → oK S v0 12 ∧ w_X12_isSign (fun x175 S => (x175 = 0 → oK S v0 12 ∧ w_X12_isSign (fun x189 S => (x189 = 0 → w_X12_behindSum_b202 q S v0 27) ∧ (¬ x189 = 0 → w_X12_behindSum_b202 q S v0 26)) S v0 62) ∧ (¬ x175 = 0 → w_X12_behindSum_b202 q S v0 25)) S v0 60) ∧ (¬ x164 = 0 → q 2 S)) S v0
set_option maxRecDepth 100000 in
set_option maxHeartbeats 4000000 in
theorem t_X12_behindSum_b163 (hC : zC p R s m args c cX12_behindSum 4 RX12 G B mc ms 4 121) (hr : meth.sig.returnType = (Option.some FieldType.int)) (hlk : meth.locks = false) (hnm : meth.name = "behindSum") {q : Int32 → hS → Prop} {S : hS} {v0 : Nat} (hw : w_X12_behindSum_b163 q S v0) : Z p l e R s m args below meth c (MQ below (hQ G B (iP q)) args s mc ms (fun r => B ≤ r)) G B mc ms 4 S 0 0 163 [some (.ref v0), none, none, none] [] := by
  unfold w_X12_behindSum_b163 at hw
  refine z_aload_n hC dX12_behindSum_163 rfl rfl ?_
  refine z_callV (ku' := 0) (kv' := 0) (n := 0) (As := []) (st := []) hC (c_X12_isCompared l G B S v0 _) hw.2 hw.1 rfl lk_1817 lk_1819 lk_83 lk_133 lk_1820 hd_X12_isCompared rfl rfl (Nat.le_of_ble_eq_true rfl) (Nat.le_of_ble_eq_true rfl) rfl (Nat.le_of_ble_eq_true rfl) dX12_behindSum_164 (Nat.le_refl 0) (Nat.le_refl 0) (kI (fun x164 S hw => ?_))
  refine z_if_eq (tgt := 172) hC dX12_behindSum_167 (by decide) (fun c167 => ?_) (fun c167 => ?_)
  · have hw := hw.1 c167
    refine z_aload_n hC dX12_behindSum_172 rfl rfl ?_
    refine z_bipush hC bi_60 dX12_behindSum_173 ?_
    refine z_callV (ku' := 0) (kv' := 0) (n := 1) (As := [.int 60]) (st := []) hC (c_X12_isSign l G B S v0 60 _) hw.2 hw.1 rfl lk_1768 lk_1770 lk_72 lk_133 lk_1771 hd_X12_isSign rfl rfl (Nat.le_of_ble_eq_true rfl) (Nat.le_of_ble_eq_true rfl) rfl (Nat.le_of_ble_eq_true rfl) dX12_behindSum_175 (Nat.le_refl 0) (Nat.le_refl 0) (kI (fun x175 S hw => ?_))
    refine z_if_eq (tgt := 186) hC dX12_behindSum_178 (by decide) (fun c178 => ?_) (fun c178 => ?_)
    · have hw := hw.1 c178
      refine z_aload_n hC dX12_behindSum_186 rfl rfl ?_
      refine z_bipush hC bi_62 dX12_behindSum_187 ?_
      refine z_callV (ku' := 0) (kv' := 0) (n := 1) (As := [.int 62]) (st := []) hC (c_X12_isSign l G B S v0 62 _) hw.2 hw.1 rfl lk_1768 lk_1770 lk_72 lk_133 lk_1771 hd_X12_isSign rfl rfl (Nat.le_of_ble_eq_true rfl) (Nat.le_of_ble_eq_true rfl) rfl (Nat.le_of_ble_eq_true rfl) dX12_behindSum_189 (Nat.le_refl 0) (Nat.le_refl 0) (kI (fun x189 S hw => ?_))
      refine z_if_eq (tgt := 200) hC dX12_behindSum_192 (by decide) (fun c192 => ?_) (fun c192 => ?_)
      · have hw := hw.1 c192
        refine z_bipush hC bi_27 dX12_behindSum_200 ?_
        refine z_mask (lv' := [some (.ref v0), none, none, none]) [true, false, false, false] rfl ?_
        exact t_X12_behindSum_b202 hC hr hlk hnm hw
      · have hw := hw.2 c192
        refine z_bipush hC bi_26 dX12_behindSum_195 ?_
        refine z_goto (tgt := 202) hC dX12_behindSum_197 (by decide) ?_
        refine z_mask (lv' := [some (.ref v0), none, none, none]) [true, false, false, false] rfl ?_
        exact t_X12_behindSum_b202 hC hr hlk hnm hw
    · have hw := hw.2 c178
      refine z_bipush hC bi_25 dX12_behindSum_181 ?_
      refine z_goto (tgt := 202) hC dX12_behindSum_183 (by decide) ?_
      refine z_mask (lv' := [some (.ref v0), none, none, none]) [true, false, false, false] rfl ?_
      exact t_X12_behindSum_b202 hC hr hlk hnm hw
  · have hw := hw.2 c167
    refine z_iconst hC ic_2 dX12_behindSum_170 ?_
    exact z_iret hC hr hlk dX12_behindSum_171 ⟨_, rfl, hw⟩
def w_X12_behindSum_b71 (q : Int32 → hS → Prop) (S : hS) (v0 : Nat) (v1 : Int32) (t0 : Int32) : Prop := (t0 = (-1) → oK S v0 12 ∧ w_X12_inner (fun x98 S => (¬ x98 = 32 → (¬ x98 = (-1) → w_X12_behindSum_b163 q S v0) ∧ (x98 = (-1) → (¬ v1 = 0 → w_X12_behindSum_b163 q S v0) ∧ (v1 = 0 → q 4 S))) ∧ (x98 = 32 → oK S v0 12 ∧ w_X12_isSign (fun x112 S => oK S v0 12 ∧ w_X12_must (fun S => gI S v0 12 19 (fun x119 => (¬ x119 = 0 → q 3 S) ∧ (x119 = 0 → oK S v0 12 ∧ w_X12_settle (fun S => gI S v0 12 29 (fun x132 => pI S v0 12 29 (x132 - 1) (fun S => gI S v0 12 30 (fun x142 => pI S v0 12 30 (x142 - 1) (fun S => q 3 S))))) S v0 5))) S v0 x112) S v0 93)) S v0) ∧ (¬ t0 = (-1) → w_X12_binds (fun x79 S => oK S v0 12 ∧ w_X12_settle (fun S => oK S v0 12 ∧ w_X12_push (fun S => oK S v0 12 ∧ w_X12_next (fun S => q 1 S) S v0) S v0 t0 0) S v0 x79) S t0)
set_option maxRecDepth 100000 in
set_option maxHeartbeats 4000000 in
theorem t_X12_behindSum_b71 (hC : zC p R s m args c cX12_behindSum 4 RX12 G B mc ms 4 121) (hr : meth.sig.returnType = (Option.some FieldType.int)) (hlk : meth.locks = false) (hnm : meth.name = "behindSum") {q : Int32 → hS → Prop} {S : hS} {v0 : Nat} {v1 : Int32} {t0 : Int32} (hw : w_X12_behindSum_b71 q S v0 v1 t0) : Z p l e R s m args below meth c (MQ below (hQ G B (iP q)) args s mc ms (fun r => B ≤ r)) G B mc ms 4 S 0 0 71 [some (.ref v0), some (.int v1), none, none] [.int t0] := by
  unfold w_X12_behindSum_b71 at hw
  refine z_istore_n (i := 2) (lv' := [some (.ref v0), some (.int v1), some (.int t0), none]) hC rfl dX12_behindSum_71 (by decide) (hok_v rfl rfl) rfl ?_
  refine z_iload_n hC dX12_behindSum_72 rfl rfl ?_
  refine z_iconst hC ic_m1 dX12_behindSum_73 ?_
  refine z_icmp_eq (tgt := 97) hC dX12_behindSum_74 (by decide) (fun c74 => ?_) (fun c74 => ?_)
  · have hw := hw.1 c74
    refine z_aload_n hC dX12_behindSum_97 rfl rfl ?_
    refine z_callV (ku' := 0) (kv' := 0) (n := 0) (As := []) (st := []) hC (c_X12_inner l G B S v0 _) hw.2 hw.1 rfl lk_1813 lk_1815 lk_82 lk_133 lk_1816 hd_X12_inner rfl rfl (Nat.le_of_ble_eq_true rfl) (Nat.le_of_ble_eq_true rfl) rfl (Nat.le_of_ble_eq_true rfl) dX12_behindSum_98 (Nat.le_refl 0) (Nat.le_refl 0) (kI (fun x98 S hw => ?_))
    refine z_istore_n (i := 3) (lv' := [some (.ref v0), some (.int v1), some (.int t0), some (.int x98)]) hC rfl dX12_behindSum_101 (by decide) (hok_v rfl rfl) rfl ?_
    refine z_iload_n hC dX12_behindSum_102 rfl rfl ?_
    refine z_bipush hC bi_32 dX12_behindSum_103 ?_
    refine z_icmp_ne (tgt := 152) hC dX12_behindSum_105 (by decide) (fun c105 => ?_) (fun c105 => ?_)
    · have hw := hw.1 c105
      refine z_iload_n hC dX12_behindSum_152 rfl rfl ?_
      refine z_iconst hC ic_m1 dX12_behindSum_153 ?_
      refine z_icmp_ne (tgt := 163) hC dX12_behindSum_154 (by decide) (fun c154 => ?_) (fun c154 => ?_)
      · have hw := hw.1 c154
        refine z_mask (lv' := [some (.ref v0), none, none, none]) [true, false, false, false] rfl ?_
        exact t_X12_behindSum_b163 hC hr hlk hnm hw
      · have hw := hw.2 c154
        refine z_iload_n hC dX12_behindSum_157 rfl rfl ?_
        refine z_if_ne (tgt := 163) hC dX12_behindSum_158 (by decide) (fun c158 => ?_) (fun c158 => ?_)
        · have hw := hw.1 c158
          refine z_mask (lv' := [some (.ref v0), none, none, none]) [true, false, false, false] rfl ?_
          exact t_X12_behindSum_b163 hC hr hlk hnm hw
        · have hw := hw.2 c158
          refine z_iconst hC ic_4 dX12_behindSum_161 ?_
          exact z_iret hC hr hlk dX12_behindSum_162 ⟨_, rfl, hw⟩
    · have hw := hw.2 c105
      refine z_aload_n hC dX12_behindSum_108 rfl rfl ?_
      refine z_aload_n hC dX12_behindSum_109 rfl rfl ?_
      refine z_bipush hC bi_93 dX12_behindSum_110 ?_
      refine z_callV (ku' := 0) (kv' := 0) (n := 1) (As := [.int 93]) (st := [.ref v0]) hC (c_X12_isSign l G B S v0 93 _) hw.2 hw.1 rfl lk_1768 lk_1770 lk_72 lk_133 lk_1771 hd_X12_isSign rfl rfl (Nat.le_of_ble_eq_true rfl) (Nat.le_of_ble_eq_true rfl) rfl (Nat.le_of_ble_eq_true rfl) dX12_behindSum_112 (Nat.le_refl 0) (Nat.le_refl 0) (kI (fun x112 S hw => ?_))
      refine z_callV (ku' := 0) (kv' := 0) (n := 1) (As := [.int x112]) (st := []) hC (c_X12_must l G B S v0 x112 _) hw.2 hw.1 rfl lk_1751 lk_1753 lk_68 lk_133 lk_1754 hd_X12_must rfl rfl (Nat.le_of_ble_eq_true rfl) (Nat.le_of_ble_eq_true rfl) rfl (Nat.le_of_ble_eq_true rfl) dX12_behindSum_115 (Nat.le_refl 0) (Nat.le_refl 0) (kV (fun S hw => ?_))
      refine z_aload_n hC dX12_behindSum_118 rfl rfl ?_
      refine z_getI hC FX12 19 lk_1374 dX12_behindSum_119 (by decide) hw (fun x119 hw => ?_)
      refine z_if_ne (tgt := 150) hC dX12_behindSum_122 (by decide) (fun c122 => ?_) (fun c122 => ?_)
      · have hw := hw.1 c122
        refine z_iconst hC ic_3 dX12_behindSum_150 ?_
        exact z_iret hC hr hlk dX12_behindSum_151 ⟨_, rfl, hw⟩
      · have hw := hw.2 c122
        refine z_aload_n hC dX12_behindSum_125 rfl rfl ?_
        refine z_iconst hC ic_5 dX12_behindSum_126 ?_
        refine z_callV (ku' := 0) (kv' := 0) (n := 1) (As := [.int 5]) (st := []) hC (c_X12_settle l G B S v0 5 _) hw.2 hw.1 rfl lk_1809 lk_1811 lk_81 lk_133 lk_1812 hd_X12_settle rfl rfl (Nat.le_of_ble_eq_true rfl) (Nat.le_of_ble_eq_true rfl) rfl (Nat.le_of_ble_eq_true rfl) dX12_behindSum_127 (Nat.le_refl 0) (Nat.le_refl 0) (kV (fun S hw => ?_))
        refine z_aload_n hC dX12_behindSum_130 rfl rfl ?_
        refine z_dup hC rfl dX12_behindSum_131 ?_
        refine z_getI hC FX12 29 lk_1384 dX12_behindSum_132 (by decide) hw (fun x132 hw => ?_)
        refine z_iconst hC ic_1 dX12_behindSum_135 ?_
        refine z_isub hC dX12_behindSum_136 ?_
        refine z_putI hC FX12 29 lk_1384 dX12_behindSum_137 (by decide) rfl rfl hw (fun S hw => ?_)
        refine z_aload_n hC dX12_behindSum_140 rfl rfl ?_
        refine z_dup hC rfl dX12_behindSum_141 ?_
        refine z_getI hC FX12 30 lk_1385 dX12_behindSum_142 (by decide) hw (fun x142 hw => ?_)
        refine z_iconst hC ic_1 dX12_behindSum_145 ?_
        refine z_isub hC dX12_behindSum_146 ?_
        refine z_putI hC FX12 30 lk_1385 dX12_behindSum_147 (by decide) rfl rfl hw (fun S hw => ?_)
        refine z_iconst hC ic_3 dX12_behindSum_150 ?_
        exact z_iret hC hr hlk dX12_behindSum_151 ⟨_, rfl, hw⟩
  · have hw := hw.2 c74
    refine z_aload_n hC dX12_behindSum_77 rfl rfl ?_
    refine z_iload_n hC dX12_behindSum_78 rfl rfl ?_
    refine z_callS (ku' := 0) (kv' := 0) (n := 1) (As := [.int t0]) (st := [.ref v0]) hC (c_X12_binds l G B S t0 _) hw lk_1806 lk_1807 lk_133 lk_1808 hd_X12_binds rfl rfl (Nat.le_of_ble_eq_true rfl) (Nat.le_of_ble_eq_true rfl) rfl (Nat.le_of_ble_eq_true rfl) dX12_behindSum_79 (Nat.le_refl 0) (Nat.le_refl 0) (kI (fun x79 S hw => ?_))
    refine z_callV (ku' := 0) (kv' := 0) (n := 1) (As := [.int x79]) (st := []) hC (c_X12_settle l G B S v0 x79 _) hw.2 hw.1 rfl lk_1809 lk_1811 lk_81 lk_133 lk_1812 hd_X12_settle rfl rfl (Nat.le_of_ble_eq_true rfl) (Nat.le_of_ble_eq_true rfl) rfl (Nat.le_of_ble_eq_true rfl) dX12_behindSum_82 (Nat.le_refl 0) (Nat.le_refl 0) (kV (fun S hw => ?_))
    refine z_aload_n hC dX12_behindSum_85 rfl rfl ?_
    refine z_iload_n hC dX12_behindSum_86 rfl rfl ?_
    refine z_iconst hC ic_0 dX12_behindSum_87 ?_
    refine z_callV (ku' := 0) (kv' := 0) (n := 2) (As := [.int t0, .int 0]) (st := []) hC (c_X12_push l G B S v0 t0 0 _) hw.2 hw.1 rfl lk_1764 lk_1766 lk_71 lk_133 lk_1767 hd_X12_push rfl rfl (Nat.le_of_ble_eq_true rfl) (Nat.le_of_ble_eq_true rfl) rfl (Nat.le_of_ble_eq_true rfl) dX12_behindSum_88 (Nat.le_refl 0) (Nat.le_refl 0) (kV (fun S hw => ?_))
    refine z_aload_n hC dX12_behindSum_91 rfl rfl ?_
    refine z_callV (ku' := 0) (kv' := 0) (n := 0) (As := []) (st := []) hC (c_X12_next l G B S v0 _) hw.2 hw.1 rfl lk_1729 lk_1731 lk_65 lk_133 lk_1732 hd_X12_next rfl rfl (Nat.le_of_ble_eq_true rfl) (Nat.le_of_ble_eq_true rfl) rfl (Nat.le_of_ble_eq_true rfl) dX12_behindSum_92 (Nat.le_refl 0) (Nat.le_refl 0) (kV (fun S hw => ?_))
    refine z_iconst hC ic_1 dX12_behindSum_95 ?_
    exact z_iret hC hr hlk dX12_behindSum_96 ⟨_, rfl, hw⟩
def w_X12_behindSum (q : Int32 → hS → Prop) (S : hS) (v0 : Nat) (v1 : Int32) : Prop := oK S v0 12 ∧ w_X12_isSign (fun x3 S => (x3 = 0 → oK S v0 12 ∧ w_X12_isSign (fun x17 S => (x17 = 0 → oK S v0 12 ∧ w_X12_isSign (fun x31 S => (x31 = 0 → oK S v0 12 ∧ w_X12_isSign (fun x45 S => (x45 = 0 → oK S v0 12 ∧ w_X12_isSign (fun x59 S => (x59 = 0 → w_X12_behindSum_b71 q S v0 v1 (-1)) ∧ (¬ x59 = 0 → w_X12_behindSum_b71 q S v0 v1 24)) S v0 37) ∧ (¬ x45 = 0 → w_X12_behindSum_b71 q S v0 v1 23)) S v0 47) ∧ (¬ x31 = 0 → w_X12_behindSum_b71 q S v0 v1 22)) S v0 42) ∧ (¬ x17 = 0 → w_X12_behindSum_b71 q S v0 v1 21)) S v0 45) ∧ (¬ x3 = 0 → w_X12_behindSum_b71 q S v0 v1 20)) S v0 43
set_option maxRecDepth 100000 in
set_option maxHeartbeats 4000000 in
theorem c_X12_behindSum (l : Launch) (G : hG) (B : Nat) (S : hS) (v0 : Nat) (v1 : Int32) (q : Int32 → hS → Prop) : Met l yX12_behindSum (hws yX12_behindSum cX12_behindSum 4 (Option.some FieldType.int)) ({ frames := 4, cells := 0, slots := 0, locals := 121 }) (hPc G B S [.ref v0, .int v1] (w_X12_behindSum q S v0 v1)) (hQ G B (iP q)) (0) (0) (fun r => B ≤ r) := by
  refine hMet (rm := { frames := 4, cells := 0, slots := 0, locals := 121 }) (lv := [some (.ref v0), some (.int v1), none, none]) (own := RX12) (fr := 4) (lo := 121) (by decide) rfl rfl rfl (Nat.le_of_ble_eq_true rfl) rfl (fun hw p e R s m args below meth c hC hr hlk hnm => ?_)
  unfold w_X12_behindSum at hw
  refine z_aload_n hC dX12_behindSum_0 rfl rfl ?_
  refine z_bipush hC bi_43 dX12_behindSum_1 ?_
  refine z_callV (ku' := 0) (kv' := 0) (n := 1) (As := [.int 43]) (st := []) hC (c_X12_isSign l G B S v0 43 _) hw.2 hw.1 rfl lk_1768 lk_1770 lk_72 lk_133 lk_1771 hd_X12_isSign rfl rfl (Nat.le_of_ble_eq_true rfl) (Nat.le_of_ble_eq_true rfl) rfl (Nat.le_of_ble_eq_true rfl) dX12_behindSum_3 (Nat.le_refl 0) (Nat.le_refl 0) (kI (fun x3 S hw => ?_))
  refine z_if_eq (tgt := 14) hC dX12_behindSum_6 (by decide) (fun c6 => ?_) (fun c6 => ?_)
  · have hw := hw.1 c6
    refine z_aload_n hC dX12_behindSum_14 rfl rfl ?_
    refine z_bipush hC bi_45 dX12_behindSum_15 ?_
    refine z_callV (ku' := 0) (kv' := 0) (n := 1) (As := [.int 45]) (st := []) hC (c_X12_isSign l G B S v0 45 _) hw.2 hw.1 rfl lk_1768 lk_1770 lk_72 lk_133 lk_1771 hd_X12_isSign rfl rfl (Nat.le_of_ble_eq_true rfl) (Nat.le_of_ble_eq_true rfl) rfl (Nat.le_of_ble_eq_true rfl) dX12_behindSum_17 (Nat.le_refl 0) (Nat.le_refl 0) (kI (fun x17 S hw => ?_))
    refine z_if_eq (tgt := 28) hC dX12_behindSum_20 (by decide) (fun c20 => ?_) (fun c20 => ?_)
    · have hw := hw.1 c20
      refine z_aload_n hC dX12_behindSum_28 rfl rfl ?_
      refine z_bipush hC bi_42 dX12_behindSum_29 ?_
      refine z_callV (ku' := 0) (kv' := 0) (n := 1) (As := [.int 42]) (st := []) hC (c_X12_isSign l G B S v0 42 _) hw.2 hw.1 rfl lk_1768 lk_1770 lk_72 lk_133 lk_1771 hd_X12_isSign rfl rfl (Nat.le_of_ble_eq_true rfl) (Nat.le_of_ble_eq_true rfl) rfl (Nat.le_of_ble_eq_true rfl) dX12_behindSum_31 (Nat.le_refl 0) (Nat.le_refl 0) (kI (fun x31 S hw => ?_))
      refine z_if_eq (tgt := 42) hC dX12_behindSum_34 (by decide) (fun c34 => ?_) (fun c34 => ?_)
      · have hw := hw.1 c34
        refine z_aload_n hC dX12_behindSum_42 rfl rfl ?_
        refine z_bipush hC bi_47 dX12_behindSum_43 ?_
        refine z_callV (ku' := 0) (kv' := 0) (n := 1) (As := [.int 47]) (st := []) hC (c_X12_isSign l G B S v0 47 _) hw.2 hw.1 rfl lk_1768 lk_1770 lk_72 lk_133 lk_1771 hd_X12_isSign rfl rfl (Nat.le_of_ble_eq_true rfl) (Nat.le_of_ble_eq_true rfl) rfl (Nat.le_of_ble_eq_true rfl) dX12_behindSum_45 (Nat.le_refl 0) (Nat.le_refl 0) (kI (fun x45 S hw => ?_))
        refine z_if_eq (tgt := 56) hC dX12_behindSum_48 (by decide) (fun c48 => ?_) (fun c48 => ?_)
        · have hw := hw.1 c48
          refine z_aload_n hC dX12_behindSum_56 rfl rfl ?_
          refine z_bipush hC bi_37 dX12_behindSum_57 ?_
          refine z_callV (ku' := 0) (kv' := 0) (n := 1) (As := [.int 37]) (st := []) hC (c_X12_isSign l G B S v0 37 _) hw.2 hw.1 rfl lk_1768 lk_1770 lk_72 lk_133 lk_1771 hd_X12_isSign rfl rfl (Nat.le_of_ble_eq_true rfl) (Nat.le_of_ble_eq_true rfl) rfl (Nat.le_of_ble_eq_true rfl) dX12_behindSum_59 (Nat.le_refl 0) (Nat.le_refl 0) (kI (fun x59 S hw => ?_))
          refine z_if_eq (tgt := 70) hC dX12_behindSum_62 (by decide) (fun c62 => ?_) (fun c62 => ?_)
          · have hw := hw.1 c62
            refine z_iconst hC ic_m1 dX12_behindSum_70 ?_
            refine z_mask (lv' := [some (.ref v0), some (.int v1), none, none]) [true, true, false, false] rfl ?_
            exact t_X12_behindSum_b71 hC hr hlk hnm hw
          · have hw := hw.2 c62
            refine z_bipush hC bi_24 dX12_behindSum_65 ?_
            refine z_goto (tgt := 71) hC dX12_behindSum_67 (by decide) ?_
            refine z_mask (lv' := [some (.ref v0), some (.int v1), none, none]) [true, true, false, false] rfl ?_
            exact t_X12_behindSum_b71 hC hr hlk hnm hw
        · have hw := hw.2 c48
          refine z_bipush hC bi_23 dX12_behindSum_51 ?_
          refine z_goto (tgt := 71) hC dX12_behindSum_53 (by decide) ?_
          refine z_mask (lv' := [some (.ref v0), some (.int v1), none, none]) [true, true, false, false] rfl ?_
          exact t_X12_behindSum_b71 hC hr hlk hnm hw
      · have hw := hw.2 c34
        refine z_bipush hC bi_22 dX12_behindSum_37 ?_
        refine z_goto (tgt := 71) hC dX12_behindSum_39 (by decide) ?_
        refine z_mask (lv' := [some (.ref v0), some (.int v1), none, none]) [true, true, false, false] rfl ?_
        exact t_X12_behindSum_b71 hC hr hlk hnm hw
    · have hw := hw.2 c20
      refine z_bipush hC bi_21 dX12_behindSum_23 ?_
      refine z_goto (tgt := 71) hC dX12_behindSum_25 (by decide) ?_
      refine z_mask (lv' := [some (.ref v0), some (.int v1), none, none]) [true, true, false, false] rfl ?_
      exact t_X12_behindSum_b71 hC hr hlk hnm hw
  · have hw := hw.2 c6
    refine z_bipush hC bi_20 dX12_behindSum_9 ?_
    refine z_goto (tgt := 71) hC dX12_behindSum_11 (by decide) ?_
    refine z_mask (lv' := [some (.ref v0), some (.int v1), none, none]) [true, true, false, false] rfl ?_
    exact t_X12_behindSum_b71 hC hr hlk hnm hw
end
section
variable {p : Program} {l : Launch} {e : Env} {R : Room} {s : State} {m : MethodId} {args : Array Value} {below : List Frame} {meth : Method} {c : Code} {G : hG} {B mc ms : Nat}
def w_X12_behindTest_b66 (q : Int32 → hS → Prop) (S : hS) (v0 : Nat) (t0 : Int32) (t1 : Nat) : Prop := oK S t1 12 ∧ w_X12_emit (fun S => oK S v0 12 ∧ w_X12_next (fun S => q 0 S) S v0) S t1 t0 0
set_option maxRecDepth 100000 in
set_option maxHeartbeats 4000000 in
theorem t_X12_behindTest_b66 (hC : zC p R s m args c cX12_behindTest 2 RX12 G B mc ms 4 121) (hr : meth.sig.returnType = (Option.some FieldType.int)) (hlk : meth.locks = false) (hnm : meth.name = "behindTest") {q : Int32 → hS → Prop} {S : hS} {v0 : Nat} {t0 : Int32} {t1 : Nat} (hw : w_X12_behindTest_b66 q S v0 t0 t1) : Z p l e R s m args below meth c (MQ below (hQ G B (iP q)) args s mc ms (fun r => B ≤ r)) G B mc ms 2 S 0 0 66 [some (.ref v0), none] [.int t0, .ref t1] := by
  unfold w_X12_behindTest_b66 at hw
  refine z_iconst hC ic_0 dX12_behindTest_66 ?_
  refine z_callV (ku' := 0) (kv' := 0) (n := 2) (As := [.int t0, .int 0]) (st := []) hC (c_X12_emit l G B S t1 t0 0 _) hw.2 hw.1 rfl lk_1793 lk_1795 lk_78 lk_133 lk_1796 hd_X12_emit rfl rfl (Nat.le_of_ble_eq_true rfl) (Nat.le_of_ble_eq_true rfl) rfl (Nat.le_of_ble_eq_true rfl) dX12_behindTest_67 (Nat.le_refl 0) (Nat.le_refl 0) (kV (fun S hw => ?_))
  refine z_aload_n hC dX12_behindTest_70 rfl rfl ?_
  refine z_callV (ku' := 0) (kv' := 0) (n := 0) (As := []) (st := []) hC (c_X12_next l G B S v0 _) hw.2 hw.1 rfl lk_1729 lk_1731 lk_65 lk_133 lk_1732 hd_X12_next rfl rfl (Nat.le_of_ble_eq_true rfl) (Nat.le_of_ble_eq_true rfl) rfl (Nat.le_of_ble_eq_true rfl) dX12_behindTest_71 (Nat.le_refl 0) (Nat.le_refl 0) (kV (fun S hw => ?_))
  refine z_iconst hC ic_0 dX12_behindTest_74 ?_
  exact z_iret hC hr hlk dX12_behindTest_75 ⟨_, rfl, hw⟩
def w_X12_behindTest_b47 (q : Int32 → hS → Prop) (S : hS) (v0 : Nat) (v1 : Int32) (t0 : Int32) (t1 : Nat) : Prop := gI S v0 12 23 (fun x48 => oK S t1 12 ∧ w_X12_push (fun S => (v1 = 0 → w_X12_behindTest_b66 q S v0 30 v0) ∧ (¬ v1 = 0 → w_X12_behindTest_b66 q S v0 29 v0)) S t1 t0 x48)
set_option maxRecDepth 100000 in
set_option maxHeartbeats 4000000 in
theorem t_X12_behindTest_b47 (hC : zC p R s m args c cX12_behindTest 2 RX12 G B mc ms 4 121) (hr : meth.sig.returnType = (Option.some FieldType.int)) (hlk : meth.locks = false) (hnm : meth.name = "behindTest") {q : Int32 → hS → Prop} {S : hS} {v0 : Nat} {v1 : Int32} {t0 : Int32} {t1 : Nat} (hw : w_X12_behindTest_b47 q S v0 v1 t0 t1) : Z p l e R s m args below meth c (MQ below (hQ G B (iP q)) args s mc ms (fun r => B ≤ r)) G B mc ms 2 S 0 0 47 [some (.ref v0), some (.int v1)] [.int t0, .ref t1] := by
  unfold w_X12_behindTest_b47 at hw
  refine z_aload_n hC dX12_behindTest_47 rfl rfl ?_
  refine z_getI hC FX12 23 lk_1378 dX12_behindTest_48 (by decide) hw (fun x48 hw => ?_)
  refine z_callV (ku' := 0) (kv' := 0) (n := 2) (As := [.int t0, .int x48]) (st := []) hC (c_X12_push l G B S t1 t0 x48 _) hw.2 hw.1 rfl lk_1764 lk_1766 lk_71 lk_133 lk_1767 hd_X12_push rfl rfl (Nat.le_of_ble_eq_true rfl) (Nat.le_of_ble_eq_true rfl) rfl (Nat.le_of_ble_eq_true rfl) dX12_behindTest_51 (Nat.le_refl 0) (Nat.le_refl 0) (kV (fun S hw => ?_))
  refine z_aload_n hC dX12_behindTest_54 rfl rfl ?_
  refine z_iload_n hC dX12_behindTest_55 rfl rfl ?_
  refine z_if_eq (tgt := 64) hC dX12_behindTest_56 (by decide) (fun c56 => ?_) (fun c56 => ?_)
  · have hw := hw.1 c56
    refine z_bipush hC bi_30 dX12_behindTest_64 ?_
    refine z_mask (lv' := [some (.ref v0), none]) [true, false] rfl ?_
    exact t_X12_behindTest_b66 hC hr hlk hnm hw
  · have hw := hw.2 c56
    refine z_bipush hC bi_29 dX12_behindTest_59 ?_
    refine z_goto (tgt := 66) hC dX12_behindTest_61 (by decide) ?_
    refine z_mask (lv' := [some (.ref v0), none]) [true, false] rfl ?_
    exact t_X12_behindTest_b66 hC hr hlk hnm hw
def w_X12_behindTest_b32 (q : Int32 → hS → Prop) (S : hS) (v0 : Nat) (v1 : Int32) (t0 : Int32) (t1 : Nat) : Prop := oK S t1 12 ∧ w_X12_settle (fun S => (v1 = 0 → w_X12_behindTest_b47 q S v0 v1 30 v0) ∧ (¬ v1 = 0 → w_X12_behindTest_b47 q S v0 v1 29 v0)) S t1 t0
set_option maxRecDepth 100000 in
set_option maxHeartbeats 4000000 in
theorem t_X12_behindTest_b32 (hC : zC p R s m args c cX12_behindTest 2 RX12 G B mc ms 4 121) (hr : meth.sig.returnType = (Option.some FieldType.int)) (hlk : meth.locks = false) (hnm : meth.name = "behindTest") {q : Int32 → hS → Prop} {S : hS} {v0 : Nat} {v1 : Int32} {t0 : Int32} {t1 : Nat} (hw : w_X12_behindTest_b32 q S v0 v1 t0 t1) : Z p l e R s m args below meth c (MQ below (hQ G B (iP q)) args s mc ms (fun r => B ≤ r)) G B mc ms 2 S 0 0 32 [some (.ref v0), some (.int v1)] [.int t0, .ref t1] := by
  unfold w_X12_behindTest_b32 at hw
  refine z_callV (ku' := 0) (kv' := 0) (n := 1) (As := [.int t0]) (st := []) hC (c_X12_settle l G B S t1 t0 _) hw.2 hw.1 rfl lk_1809 lk_1811 lk_81 lk_133 lk_1812 hd_X12_settle rfl rfl (Nat.le_of_ble_eq_true rfl) (Nat.le_of_ble_eq_true rfl) rfl (Nat.le_of_ble_eq_true rfl) dX12_behindTest_32 (Nat.le_refl 0) (Nat.le_refl 0) (kV (fun S hw => ?_))
  refine z_aload_n hC dX12_behindTest_35 rfl rfl ?_
  refine z_iload_n hC dX12_behindTest_36 rfl rfl ?_
  refine z_if_eq (tgt := 45) hC dX12_behindTest_37 (by decide) (fun c37 => ?_) (fun c37 => ?_)
  · have hw := hw.1 c37
    refine z_bipush hC bi_30 dX12_behindTest_45 ?_
    refine z_mask (lv' := [some (.ref v0), some (.int v1)]) [true, true] rfl ?_
    exact t_X12_behindTest_b47 hC hr hlk hnm hw
  · have hw := hw.2 c37
    refine z_bipush hC bi_29 dX12_behindTest_40 ?_
    refine z_goto (tgt := 47) hC dX12_behindTest_42 (by decide) ?_
    refine z_mask (lv' := [some (.ref v0), some (.int v1)]) [true, true] rfl ?_
    exact t_X12_behindTest_b47 hC hr hlk hnm hw
def w_X12_behindTest_b22 (q : Int32 → hS → Prop) (S : hS) (v0 : Nat) (v1 : Int32) : Prop := (v1 = 0 → w_X12_behindTest_b32 q S v0 v1 1 v0) ∧ (¬ v1 = 0 → w_X12_behindTest_b32 q S v0 v1 2 v0)
set_option maxRecDepth 100000 in
set_option maxHeartbeats 4000000 in
theorem t_X12_behindTest_b22 (hC : zC p R s m args c cX12_behindTest 2 RX12 G B mc ms 4 121) (hr : meth.sig.returnType = (Option.some FieldType.int)) (hlk : meth.locks = false) (hnm : meth.name = "behindTest") {q : Int32 → hS → Prop} {S : hS} {v0 : Nat} {v1 : Int32} (hw : w_X12_behindTest_b22 q S v0 v1) : Z p l e R s m args below meth c (MQ below (hQ G B (iP q)) args s mc ms (fun r => B ≤ r)) G B mc ms 2 S 0 0 22 [some (.ref v0), some (.int v1)] [] := by
  unfold w_X12_behindTest_b22 at hw
  refine z_aload_n hC dX12_behindTest_22 rfl rfl ?_
  refine z_iload_n hC dX12_behindTest_23 rfl rfl ?_
  refine z_if_eq (tgt := 31) hC dX12_behindTest_24 (by decide) (fun c24 => ?_) (fun c24 => ?_)
  · have hw := hw.1 c24
    refine z_iconst hC ic_1 dX12_behindTest_31 ?_
    refine z_mask (lv' := [some (.ref v0), some (.int v1)]) [true, true] rfl ?_
    exact t_X12_behindTest_b32 hC hr hlk hnm hw
  · have hw := hw.2 c24
    refine z_iconst hC ic_2 dX12_behindTest_27 ?_
    refine z_goto (tgt := 32) hC dX12_behindTest_28 (by decide) ?_
    refine z_mask (lv' := [some (.ref v0), some (.int v1)]) [true, true] rfl ?_
    exact t_X12_behindTest_b32 hC hr hlk hnm hw
def w_X12_behindTest (q : Int32 → hS → Prop) (S : hS) (v0 : Nat) : Prop := oK S v0 12 ∧ w_X12_isWord (fun x4 S => (¬ x4 = 0 → w_X12_behindTest_b22 q S v0 x4) ∧ (x4 = 0 → oK S v0 12 ∧ w_X12_isWord (fun x16 S => (x16 = 0 → oK S v0 12 ∧ w_X12_inner (fun x77 S => (¬ x77 = (-1) → oK S v0 12 ∧ w_X12_isSign (fun x90 S => oK S v0 12 ∧ w_X12_must (fun S => gI S v0 12 19 (fun x97 => (¬ x97 = 0 → q 2 S) ∧ (x97 = 0 → oK S v0 12 ∧ w_X12_settle (fun S => gI S v0 12 29 (fun x110 => pI S v0 12 29 (x110 - 1) (fun S => gI S v0 12 30 (fun x120 => pI S v0 12 30 (x120 - 1) (fun S => q 2 S))))) S v0 1))) S v0 x90) S v0 41) ∧ (x77 = (-1) → q 4 S)) S v0) ∧ (¬ x16 = 0 → w_X12_behindTest_b22 q S v0 x4)) S v0 498)) S v0 1476
set_option maxRecDepth 100000 in
set_option maxHeartbeats 4000000 in
theorem c_X12_behindTest (l : Launch) (G : hG) (B : Nat) (S : hS) (v0 : Nat) (q : Int32 → hS → Prop) : Met l yX12_behindTest (hws yX12_behindTest cX12_behindTest 2 (Option.some FieldType.int)) ({ frames := 4, cells := 0, slots := 0, locals := 121 }) (hPc G B S [.ref v0] (w_X12_behindTest q S v0)) (hQ G B (iP q)) (0) (0) (fun r => B ≤ r) := by
  refine hMet (rm := { frames := 4, cells := 0, slots := 0, locals := 121 }) (lv := [some (.ref v0), none]) (own := RX12) (fr := 4) (lo := 121) (by decide) rfl rfl rfl (Nat.le_of_ble_eq_true rfl) rfl (fun hw p e R s m args below meth c hC hr hlk hnm => ?_)
  unfold w_X12_behindTest at hw
  refine z_aload_n hC dX12_behindTest_0 rfl rfl ?_
  refine z_ldc2 hC lk_1828 dX12_behindTest_1 ?_
  refine z_callV (ku' := 0) (kv' := 0) (n := 1) (As := [.long 1476]) (st := []) hC (c_X12_isWord l G B S v0 1476 _) hw.2 hw.1 rfl lk_1747 lk_1749 lk_67 lk_133 lk_1750 hd_X12_isWord rfl rfl (Nat.le_of_ble_eq_true rfl) (Nat.le_of_ble_eq_true rfl) rfl (Nat.le_of_ble_eq_true rfl) dX12_behindTest_4 (Nat.le_refl 0) (Nat.le_refl 0) (kI (fun x4 S hw => ?_))
  refine z_istore_n (i := 1) (lv' := [some (.ref v0), some (.int x4)]) hC rfl dX12_behindTest_7 (by decide) (hok_v rfl rfl) rfl ?_
  refine z_iload_n hC dX12_behindTest_8 rfl rfl ?_
  refine z_if_ne (tgt := 22) hC dX12_behindTest_9 (by decide) (fun c9 => ?_) (fun c9 => ?_)
  · have hw := hw.1 c9
    refine z_mask (lv' := [some (.ref v0), some (.int x4)]) [true, true] rfl ?_
    exact t_X12_behindTest_b22 hC hr hlk hnm hw
  · have hw := hw.2 c9
    refine z_aload_n hC dX12_behindTest_12 rfl rfl ?_
    refine z_ldc2 hC lk_1829 dX12_behindTest_13 ?_
    refine z_callV (ku' := 0) (kv' := 0) (n := 1) (As := [.long 498]) (st := []) hC (c_X12_isWord l G B S v0 498 _) hw.2 hw.1 rfl lk_1747 lk_1749 lk_67 lk_133 lk_1750 hd_X12_isWord rfl rfl (Nat.le_of_ble_eq_true rfl) (Nat.le_of_ble_eq_true rfl) rfl (Nat.le_of_ble_eq_true rfl) dX12_behindTest_16 (Nat.le_refl 0) (Nat.le_refl 0) (kI (fun x16 S hw => ?_))
    refine z_if_eq (tgt := 76) hC dX12_behindTest_19 (by decide) (fun c19 => ?_) (fun c19 => ?_)
    · have hw := hw.1 c19
      refine z_aload_n hC dX12_behindTest_76 rfl rfl ?_
      refine z_callV (ku' := 0) (kv' := 0) (n := 0) (As := []) (st := []) hC (c_X12_inner l G B S v0 _) hw.2 hw.1 rfl lk_1813 lk_1815 lk_82 lk_133 lk_1816 hd_X12_inner rfl rfl (Nat.le_of_ble_eq_true rfl) (Nat.le_of_ble_eq_true rfl) rfl (Nat.le_of_ble_eq_true rfl) dX12_behindTest_77 (Nat.le_refl 0) (Nat.le_refl 0) (kI (fun x77 S hw => ?_))
      refine z_iconst hC ic_m1 dX12_behindTest_80 ?_
      refine z_icmp_ne (tgt := 86) hC dX12_behindTest_81 (by decide) (fun c81 => ?_) (fun c81 => ?_)
      · have hw := hw.1 c81
        refine z_aload_n hC dX12_behindTest_86 rfl rfl ?_
        refine z_aload_n hC dX12_behindTest_87 rfl rfl ?_
        refine z_bipush hC bi_41 dX12_behindTest_88 ?_
        refine z_callV (ku' := 0) (kv' := 0) (n := 1) (As := [.int 41]) (st := [.ref v0]) hC (c_X12_isSign l G B S v0 41 _) hw.2 hw.1 rfl lk_1768 lk_1770 lk_72 lk_133 lk_1771 hd_X12_isSign rfl rfl (Nat.le_of_ble_eq_true rfl) (Nat.le_of_ble_eq_true rfl) rfl (Nat.le_of_ble_eq_true rfl) dX12_behindTest_90 (Nat.le_refl 0) (Nat.le_refl 0) (kI (fun x90 S hw => ?_))
        refine z_callV (ku' := 0) (kv' := 0) (n := 1) (As := [.int x90]) (st := []) hC (c_X12_must l G B S v0 x90 _) hw.2 hw.1 rfl lk_1751 lk_1753 lk_68 lk_133 lk_1754 hd_X12_must rfl rfl (Nat.le_of_ble_eq_true rfl) (Nat.le_of_ble_eq_true rfl) rfl (Nat.le_of_ble_eq_true rfl) dX12_behindTest_93 (Nat.le_refl 0) (Nat.le_refl 0) (kV (fun S hw => ?_))
        refine z_aload_n hC dX12_behindTest_96 rfl rfl ?_
        refine z_getI hC FX12 19 lk_1374 dX12_behindTest_97 (by decide) hw (fun x97 hw => ?_)
        refine z_if_ne (tgt := 128) hC dX12_behindTest_100 (by decide) (fun c100 => ?_) (fun c100 => ?_)
        · have hw := hw.1 c100
          refine z_iconst hC ic_2 dX12_behindTest_128 ?_
          exact z_iret hC hr hlk dX12_behindTest_129 ⟨_, rfl, hw⟩
        · have hw := hw.2 c100
          refine z_aload_n hC dX12_behindTest_103 rfl rfl ?_
          refine z_iconst hC ic_1 dX12_behindTest_104 ?_
          refine z_callV (ku' := 0) (kv' := 0) (n := 1) (As := [.int 1]) (st := []) hC (c_X12_settle l G B S v0 1 _) hw.2 hw.1 rfl lk_1809 lk_1811 lk_81 lk_133 lk_1812 hd_X12_settle rfl rfl (Nat.le_of_ble_eq_true rfl) (Nat.le_of_ble_eq_true rfl) rfl (Nat.le_of_ble_eq_true rfl) dX12_behindTest_105 (Nat.le_refl 0) (Nat.le_refl 0) (kV (fun S hw => ?_))
          refine z_aload_n hC dX12_behindTest_108 rfl rfl ?_
          refine z_dup hC rfl dX12_behindTest_109 ?_
          refine z_getI hC FX12 29 lk_1384 dX12_behindTest_110 (by decide) hw (fun x110 hw => ?_)
          refine z_iconst hC ic_1 dX12_behindTest_113 ?_
          refine z_isub hC dX12_behindTest_114 ?_
          refine z_putI hC FX12 29 lk_1384 dX12_behindTest_115 (by decide) rfl rfl hw (fun S hw => ?_)
          refine z_aload_n hC dX12_behindTest_118 rfl rfl ?_
          refine z_dup hC rfl dX12_behindTest_119 ?_
          refine z_getI hC FX12 30 lk_1385 dX12_behindTest_120 (by decide) hw (fun x120 hw => ?_)
          refine z_iconst hC ic_1 dX12_behindTest_123 ?_
          refine z_isub hC dX12_behindTest_124 ?_
          refine z_putI hC FX12 30 lk_1385 dX12_behindTest_125 (by decide) rfl rfl hw (fun S hw => ?_)
          refine z_iconst hC ic_2 dX12_behindTest_128 ?_
          exact z_iret hC hr hlk dX12_behindTest_129 ⟨_, rfl, hw⟩
      · have hw := hw.2 c81
        refine z_iconst hC ic_4 dX12_behindTest_84 ?_
        exact z_iret hC hr hlk dX12_behindTest_85 ⟨_, rfl, hw⟩
    · have hw := hw.2 c19
      refine z_mask (lv' := [some (.ref v0), some (.int x4)]) [true, true] rfl ?_
      exact t_X12_behindTest_b22 hC hr hlk hnm hw
end
section
variable {p : Program} {l : Launch} {e : Env} {R : Room} {s : State} {m : MethodId} {args : Array Value} {below : List Frame} {meth : Method} {c : Code} {G : hG} {B mc ms : Nat}
def w_X12_readExpression_b72 (q : hS → Prop) (K20 : hS → (Nat) → (Int32) → (Int32) → Prop) (S : hS) (v0 : Nat) (v1 : Int32) (t0 : Int32) : Prop := K20 S v0 v1 t0
set_option maxRecDepth 100000 in
set_option maxHeartbeats 4000000 in
theorem t_X12_readExpression_b72 (hC : zC p R s m args c cX12_readExpression 3 RX12 G B mc ms 7 189) (hr : meth.sig.returnType = (Option.none : Option FieldType)) (hlk : meth.locks = false) (hnm : meth.name = "readExpression") {q : hS → Prop} {K20 : hS → (Nat) → (Int32) → (Int32) → Prop} (hK20 : ∀ {S : hS} {v0 : Nat} {v1 : Int32} {v2 : Int32}, K20 S v0 v1 v2 → Z p l e R s m args below meth c (MQ below (hQ G B (vP q)) args s mc ms (fun r => B ≤ r)) G B mc ms 3 S 0 0 20 [some (.ref v0), some (.int v1), some (.int v2)] []) {S : hS} {v0 : Nat} {v1 : Int32} {t0 : Int32} (hw : w_X12_readExpression_b72 q K20 S v0 v1 t0) : Z p l e R s m args below meth c (MQ below (hQ G B (vP q)) args s mc ms (fun r => B ≤ r)) G B mc ms 3 S 0 0 72 [some (.ref v0), some (.int v1), none] [.int t0] := by
  unfold w_X12_readExpression_b72 at hw
  refine z_istore_n (i := 2) (lv' := [some (.ref v0), some (.int v1), some (.int t0)]) hC rfl dX12_readExpression_72 (by decide) (hok_v rfl rfl) rfl ?_
  refine z_goto (tgt := 20) hC dX12_readExpression_73 (by decide) ?_
  refine z_mask (lv' := [some (.ref v0), some (.int v1), some (.int t0)]) [true, true, true] rfl ?_
  exact hK20 hw
def w_X12_readExpression_b76 (q : hS → Prop) (S : hS) (v0 : Nat) : Prop := oK S v0 12 ∧ w_X12_settle (fun S => q S) S v0 1
set_option maxRecDepth 100000 in
set_option maxHeartbeats 4000000 in
theorem t_X12_readExpression_b76 (hC : zC p R s m args c cX12_readExpression 3 RX12 G B mc ms 7 189) (hr : meth.sig.returnType = (Option.none : Option FieldType)) (hlk : meth.locks = false) (hnm : meth.name = "readExpression") {q : hS → Prop} {S : hS} {v0 : Nat} (hw : w_X12_readExpression_b76 q S v0) : Z p l e R s m args below meth c (MQ below (hQ G B (vP q)) args s mc ms (fun r => B ≤ r)) G B mc ms 3 S 0 0 76 [some (.ref v0), none, none] [] := by
  unfold w_X12_readExpression_b76 at hw
  refine z_aload_n hC dX12_readExpression_76 rfl rfl ?_
  refine z_iconst hC ic_1 dX12_readExpression_77 ?_
  refine z_callV (ku' := 0) (kv' := 0) (n := 1) (As := [.int 1]) (st := []) hC (c_X12_settle l G B S v0 1 _) hw.2 hw.1 rfl lk_1809 lk_1811 lk_81 lk_133 lk_1812 hd_X12_settle rfl rfl (Nat.le_of_ble_eq_true rfl) (Nat.le_of_ble_eq_true rfl) rfl (Nat.le_of_ble_eq_true rfl) dX12_readExpression_78 (Nat.le_refl 0) (Nat.le_refl 0) (kV (fun S hw => ?_))
  exact z_vret hC hr hlk dX12_readExpression_81 ⟨rfl, hw⟩
def w_X12_readExpression_b20 (q : hS → Prop) : Nat → hS → (Nat) → (Int32) → (Int32) → Prop
  | 0, _, _, _, _ => False
  | n + 1, S, v0, v1, v2 => gI S v0 12 19 (fun x21 => (¬ x21 = 0 → w_X12_readExpression_b76 q S v0) ∧ (x21 = 0 → (v2 = 4 → w_X12_readExpression_b76 q S v0) ∧ (¬ v2 = 4 → (¬ v2 = 0 → (¬ v2 = 1 → (¬ v2 = 3 → oK S v0 12 ∧ w_X12_behindTest (fun x69 S => w_X12_readExpression_b72 q (fun S v0 v1 v2 => w_X12_readExpression_b20 q n S v0 v1 v2) S v0 v1 x69) S v0) ∧ (v2 = 3 → oK S v0 12 ∧ w_X12_behindSum (fun x62 S => w_X12_readExpression_b72 q (fun S v0 v1 v2 => w_X12_readExpression_b20 q n S v0 v1 v2) S v0 v1 x62) S v0 v1)) ∧ (v2 = 1 → oK S v0 12 ∧ w_X12_readPart (fun x49 S => w_X12_readExpression_b72 q (fun S v0 v1 v2 => w_X12_readExpression_b20 q n S v0 v1 v2) S v0 v1 x49) S v0)) ∧ (v2 = 0 → oK S v0 12 ∧ w_X12_readPlain (fun x37 S => w_X12_readExpression_b72 q (fun S v0 v1 v2 => w_X12_readExpression_b20 q n S v0 v1 v2) S v0 v1 x37) S v0))))
set_option maxRecDepth 100000 in
set_option maxHeartbeats 4000000 in
theorem t_X12_readExpression_b20 (hC : zC p R s m args c cX12_readExpression 3 RX12 G B mc ms 7 189) (hr : meth.sig.returnType = (Option.none : Option FieldType)) (hlk : meth.locks = false) (hnm : meth.name = "readExpression") {q : hS → Prop} (n : Nat) : ∀ {S : hS} {v0 : Nat} {v1 : Int32} {v2 : Int32} (hw : w_X12_readExpression_b20 q n S v0 v1 v2), Z p l e R s m args below meth c (MQ below (hQ G B (vP q)) args s mc ms (fun r => B ≤ r)) G B mc ms 3 S 0 0 20 [some (.ref v0), some (.int v1), some (.int v2)] [] := by
  induction n with
  | zero => intro S v0 v1 v2 hw; exact (by rw [w_X12_readExpression_b20] at hw; exact hw.elim)
  | succ n ih =>
    intro S v0 v1 v2 hw
    rw [w_X12_readExpression_b20] at hw
    refine z_aload_n hC dX12_readExpression_20 rfl rfl ?_
    refine z_getI hC FX12 19 lk_1374 dX12_readExpression_21 (by decide) hw (fun x21 hw => ?_)
    refine z_if_ne (tgt := 76) hC dX12_readExpression_24 (by decide) (fun c24 => ?_) (fun c24 => ?_)
    · have hw := hw.1 c24
      refine z_mask (lv' := [some (.ref v0), none, none]) [true, false, false] rfl ?_
      exact t_X12_readExpression_b76 hC hr hlk hnm hw
    · have hw := hw.2 c24
      refine z_iload_n hC dX12_readExpression_27 rfl rfl ?_
      refine z_iconst hC ic_4 dX12_readExpression_28 ?_
      refine z_icmp_eq (tgt := 76) hC dX12_readExpression_29 (by decide) (fun c29 => ?_) (fun c29 => ?_)
      · have hw := hw.1 c29
        refine z_mask (lv' := [some (.ref v0), none, none]) [true, false, false] rfl ?_
        exact t_X12_readExpression_b76 hC hr hlk hnm hw
      · have hw := hw.2 c29
        refine z_iload_n hC dX12_readExpression_32 rfl rfl ?_
        refine z_if_ne (tgt := 43) hC dX12_readExpression_33 (by decide) (fun c33 => ?_) (fun c33 => ?_)
        · have hw := hw.1 c33
          refine z_iload_n hC dX12_readExpression_43 rfl rfl ?_
          refine z_iconst hC ic_1 dX12_readExpression_44 ?_
          refine z_icmp_ne (tgt := 55) hC dX12_readExpression_45 (by decide) (fun c45 => ?_) (fun c45 => ?_)
          · have hw := hw.1 c45
            refine z_iload_n hC dX12_readExpression_55 rfl rfl ?_
            refine z_iconst hC ic_3 dX12_readExpression_56 ?_
            refine z_icmp_ne (tgt := 68) hC dX12_readExpression_57 (by decide) (fun c57 => ?_) (fun c57 => ?_)
            · have hw := hw.1 c57
              refine z_aload_n hC dX12_readExpression_68 rfl rfl ?_
              refine z_callV (ku' := 0) (kv' := 0) (n := 0) (As := []) (st := []) hC (c_X12_behindTest l G B S v0 _) hw.2 hw.1 rfl lk_1824 lk_1826 lk_84 lk_133 lk_1827 hd_X12_behindTest rfl rfl (Nat.le_of_ble_eq_true rfl) (Nat.le_of_ble_eq_true rfl) rfl (Nat.le_of_ble_eq_true rfl) dX12_readExpression_69 (Nat.le_refl 0) (Nat.le_refl 0) (kI (fun x69 S hw => ?_))
              refine z_mask (lv' := [some (.ref v0), some (.int v1), none]) [true, true, false] rfl ?_
              exact t_X12_readExpression_b72 hC hr hlk hnm (fun hw => ih hw) hw
            · have hw := hw.2 c57
              refine z_aload_n hC dX12_readExpression_60 rfl rfl ?_
              refine z_iload_n hC dX12_readExpression_61 rfl rfl ?_
              refine z_callV (ku' := 0) (kv' := 0) (n := 1) (As := [.int v1]) (st := []) hC (c_X12_behindSum l G B S v0 v1 _) hw.2 hw.1 rfl lk_1802 lk_1804 lk_80 lk_133 lk_1805 hd_X12_behindSum rfl rfl (Nat.le_of_ble_eq_true rfl) (Nat.le_of_ble_eq_true rfl) rfl (Nat.le_of_ble_eq_true rfl) dX12_readExpression_62 (Nat.le_refl 0) (Nat.le_refl 0) (kI (fun x62 S hw => ?_))
              refine z_goto (tgt := 72) hC dX12_readExpression_65 (by decide) ?_
              refine z_mask (lv' := [some (.ref v0), some (.int v1), none]) [true, true, false] rfl ?_
              exact t_X12_readExpression_b72 hC hr hlk hnm (fun hw => ih hw) hw
          · have hw := hw.2 c45
            refine z_aload_n hC dX12_readExpression_48 rfl rfl ?_
            refine z_callV (ku' := 0) (kv' := 0) (n := 0) (As := []) (st := []) hC (c_X12_readPart l G B S v0 _) hw.2 hw.1 rfl lk_1776 lk_1778 lk_74 lk_133 lk_1779 hd_X12_readPart rfl rfl (Nat.le_of_ble_eq_true rfl) (Nat.le_of_ble_eq_true rfl) rfl (Nat.le_of_ble_eq_true rfl) dX12_readExpression_49 (Nat.le_refl 0) (Nat.le_refl 0) (kI (fun x49 S hw => ?_))
            refine z_goto (tgt := 72) hC dX12_readExpression_52 (by decide) ?_
            refine z_mask (lv' := [some (.ref v0), some (.int v1), none]) [true, true, false] rfl ?_
            exact t_X12_readExpression_b72 hC hr hlk hnm (fun hw => ih hw) hw
        · have hw := hw.2 c33
          refine z_aload_n hC dX12_readExpression_36 rfl rfl ?_
          refine z_callV (ku' := 0) (kv' := 0) (n := 0) (As := []) (st := []) hC (c_X12_readPlain l G B S v0 _) hw.2 hw.1 rfl lk_1759 lk_1761 lk_70 lk_133 lk_1762 hd_X12_readPlain rfl rfl (Nat.le_of_ble_eq_true rfl) (Nat.le_of_ble_eq_true rfl) rfl (Nat.le_of_ble_eq_true rfl) dX12_readExpression_37 (Nat.le_refl 0) (Nat.le_refl 0) (kI (fun x37 S hw => ?_))
          refine z_goto (tgt := 72) hC dX12_readExpression_40 (by decide) ?_
          refine z_mask (lv' := [some (.ref v0), some (.int v1), none]) [true, true, false] rfl ?_
          exact t_X12_readExpression_b72 hC hr hlk hnm (fun hw => ih hw) hw
def w_X12_readExpression_b19 (q : hS → Prop) (S : hS) (v0 : Nat) (v1 : Int32) (t0 : Int32) : Prop := (∃ n20 : Nat, w_X12_readExpression_b20 q n20 S v0 v1 t0)
set_option maxRecDepth 100000 in
set_option maxHeartbeats 4000000 in
theorem t_X12_readExpression_b19 (hC : zC p R s m args c cX12_readExpression 3 RX12 G B mc ms 7 189) (hr : meth.sig.returnType = (Option.none : Option FieldType)) (hlk : meth.locks = false) (hnm : meth.name = "readExpression") {q : hS → Prop} {S : hS} {v0 : Nat} {v1 : Int32} {t0 : Int32} (hw : w_X12_readExpression_b19 q S v0 v1 t0) : Z p l e R s m args below meth c (MQ below (hQ G B (vP q)) args s mc ms (fun r => B ≤ r)) G B mc ms 3 S 0 0 19 [some (.ref v0), some (.int v1), none] [.int t0] := by
  unfold w_X12_readExpression_b19 at hw
  refine z_istore_n (i := 2) (lv' := [some (.ref v0), some (.int v1), some (.int t0)]) hC rfl dX12_readExpression_19 (by decide) (hok_v rfl rfl) rfl ?_
  refine z_mask (lv' := [some (.ref v0), some (.int v1), some (.int t0)]) [true, true, true] rfl ?_
  obtain ⟨n20, hw⟩ := hw
  exact t_X12_readExpression_b20 hC hr hlk hnm n20 hw
def w_X12_readExpression (q : hS → Prop) (S : hS) (v0 : Nat) (v1 : Int32) : Prop := pI S v0 12 29 0 (fun S => pI S v0 12 30 0 (fun S => (v1 = 0 → w_X12_readExpression_b19 q S v0 v1 1) ∧ (¬ v1 = 0 → w_X12_readExpression_b19 q S v0 v1 0)))
set_option maxRecDepth 100000 in
set_option maxHeartbeats 4000000 in
theorem c_X12_readExpression (l : Launch) (G : hG) (B : Nat) (S : hS) (v0 : Nat) (v1 : Int32) (q : hS → Prop) : Met l yX12_readExpression (hws yX12_readExpression cX12_readExpression 3 (Option.none : Option FieldType)) ({ frames := 7, cells := 0, slots := 0, locals := 189 }) (hPc G B S [.ref v0, .int v1] (w_X12_readExpression q S v0 v1)) (hQ G B (vP q)) (0) (0) (fun r => B ≤ r) := by
  refine hMet (rm := { frames := 7, cells := 0, slots := 0, locals := 189 }) (lv := [some (.ref v0), some (.int v1), none]) (own := RX12) (fr := 7) (lo := 189) (by decide) rfl rfl rfl (Nat.le_of_ble_eq_true rfl) rfl (fun hw p e R s m args below meth c hC hr hlk hnm => ?_)
  unfold w_X12_readExpression at hw
  refine z_aload_n hC dX12_readExpression_0 rfl rfl ?_
  refine z_iconst hC ic_0 dX12_readExpression_1 ?_
  refine z_putI hC FX12 29 lk_1384 dX12_readExpression_2 (by decide) rfl rfl hw (fun S hw => ?_)
  refine z_aload_n hC dX12_readExpression_5 rfl rfl ?_
  refine z_iconst hC ic_0 dX12_readExpression_6 ?_
  refine z_putI hC FX12 30 lk_1385 dX12_readExpression_7 (by decide) rfl rfl hw (fun S hw => ?_)
  refine z_iload_n hC dX12_readExpression_10 rfl rfl ?_
  refine z_if_eq (tgt := 18) hC dX12_readExpression_11 (by decide) (fun c11 => ?_) (fun c11 => ?_)
  · have hw := hw.1 c11
    refine z_iconst hC ic_1 dX12_readExpression_18 ?_
    refine z_mask (lv' := [some (.ref v0), some (.int v1), none]) [true, true, false] rfl ?_
    exact t_X12_readExpression_b19 hC hr hlk hnm hw
  · have hw := hw.2 c11
    refine z_iconst hC ic_0 dX12_readExpression_14 ?_
    refine z_goto (tgt := 19) hC dX12_readExpression_15 (by decide) ?_
    refine z_mask (lv' := [some (.ref v0), some (.int v1), none]) [true, true, false] rfl ?_
    exact t_X12_readExpression_b19 hC hr hlk hnm hw
end
section
variable {p : Program} {l : Launch} {e : Env} {R : Room} {s : State} {m : MethodId} {args : Array Value} {below : List Frame} {meth : Method} {c : Code} {G : hG} {B mc ms : Nat}
def w_X12_beginText (q : hS → Prop) (S : hS) (v0 : Nat) (v1 : Int32) : Prop := pZ S v0 12 20 v1 (fun S => oK S v0 12 ∧ w_X12_begin (fun S => pI S v0 12 21 0 (fun S => pI S v0 12 23 0 (fun S => pI S v0 12 26 0 (fun S => q S)))) S v0)
set_option maxRecDepth 100000 in
set_option maxHeartbeats 4000000 in
theorem c_X12_beginText (l : Launch) (G : hG) (B : Nat) (S : hS) (v0 : Nat) (v1 : Int32) (q : hS → Prop) : Met l yX12_beginText (hws yX12_beginText cX12_beginText 2 (Option.none : Option FieldType)) ({ frames := 4, cells := 0, slots := 0, locals := 120 }) (hPc G B S [.ref v0, .int v1] (w_X12_beginText q S v0 v1)) (hQ G B (vP q)) (0) (0) (fun r => B ≤ r) := by
  refine hMet (rm := { frames := 4, cells := 0, slots := 0, locals := 120 }) (lv := [some (.ref v0), some (.int v1)]) (own := RX12) (fr := 4) (lo := 120) (by decide) rfl rfl rfl (Nat.le_of_ble_eq_true rfl) rfl (fun hw p e R s m args below meth c hC hr hlk hnm => ?_)
  unfold w_X12_beginText at hw
  refine z_aload_n hC dX12_beginText_0 rfl rfl ?_
  refine z_iload_n hC dX12_beginText_1 rfl rfl ?_
  refine z_putZ hC FX12 20 lk_1375 dX12_beginText_2 (by decide) rfl rfl hw (fun S hw => ?_)
  refine z_aload_n hC dX12_beginText_5 rfl rfl ?_
  refine z_callV (ku' := 0) (kv' := 0) (n := 0) (As := []) (st := []) hC (c_X12_begin l G B S v0 _) hw.2 hw.1 rfl lk_1725 lk_1727 lk_64 lk_133 lk_1728 hd_X12_begin rfl rfl (Nat.le_of_ble_eq_true rfl) (Nat.le_of_ble_eq_true rfl) rfl (Nat.le_of_ble_eq_true rfl) dX12_beginText_6 (Nat.le_refl 0) (Nat.le_refl 0) (kV (fun S hw => ?_))
  refine z_aload_n hC dX12_beginText_9 rfl rfl ?_
  refine z_iconst hC ic_0 dX12_beginText_10 ?_
  refine z_putI hC FX12 21 lk_1376 dX12_beginText_11 (by decide) rfl rfl hw (fun S hw => ?_)
  refine z_aload_n hC dX12_beginText_14 rfl rfl ?_
  refine z_iconst hC ic_0 dX12_beginText_15 ?_
  refine z_putI hC FX12 23 lk_1378 dX12_beginText_16 (by decide) rfl rfl hw (fun S hw => ?_)
  refine z_aload_n hC dX12_beginText_19 rfl rfl ?_
  refine z_iconst hC ic_0 dX12_beginText_20 ?_
  refine z_putI hC FX12 26 lk_1381 dX12_beginText_21 (by decide) rfl rfl hw (fun S hw => ?_)
  exact z_vret hC hr hlk dX12_beginText_24 ⟨rfl, hw⟩
end
section
variable {p : Program} {l : Launch} {e : Env} {R : Room} {s : State} {m : MethodId} {args : Array Value} {below : List Frame} {meth : Method} {c : Code} {G : hG} {B mc ms : Nat}
def w_X12_endText_b19 (q : hS → Prop) (S : hS) (v0 : Nat) : Prop := pZ S v0 12 20 0 (fun S => pI S v0 12 13 0 (fun S => q S))
set_option maxRecDepth 100000 in
set_option maxHeartbeats 4000000 in
theorem t_X12_endText_b19 (hC : zC p R s m args c cX12_endText 1 RX12 G B mc ms 4 121) (hr : meth.sig.returnType = (Option.none : Option FieldType)) (hlk : meth.locks = false) (hnm : meth.name = "endText") {q : hS → Prop} {S : hS} {v0 : Nat} (hw : w_X12_endText_b19 q S v0) : Z p l e R s m args below meth c (MQ below (hQ G B (vP q)) args s mc ms (fun r => B ≤ r)) G B mc ms 1 S 0 0 19 [some (.ref v0)] [] := by
  unfold w_X12_endText_b19 at hw
  refine z_aload_n hC dX12_endText_19 rfl rfl ?_
  refine z_iconst hC ic_0 dX12_endText_20 ?_
  refine z_putZ hC FX12 20 lk_1375 dX12_endText_21 (by decide) rfl rfl hw (fun S hw => ?_)
  refine z_aload_n hC dX12_endText_24 rfl rfl ?_
  refine z_iconst hC ic_0 dX12_endText_25 ?_
  refine z_putI hC FX12 13 lk_1368 dX12_endText_26 (by decide) rfl rfl hw (fun S hw => ?_)
  exact z_vret hC hr hlk dX12_endText_29 ⟨rfl, hw⟩
def w_X12_endText (q : hS → Prop) (S : hS) (v0 : Nat) : Prop := gI S v0 12 19 (fun x1 => (¬ x1 = 0 → w_X12_endText_b19 q S v0) ∧ (x1 = 0 → gI S v0 12 16 (fun x8 => (x8 = 0 → w_X12_endText_b19 q S v0) ∧ (¬ x8 = 0 → oK S v0 12 ∧ w_X12_must (fun S => w_X12_endText_b19 q S v0) S v0 0))))
set_option maxRecDepth 100000 in
set_option maxHeartbeats 4000000 in
theorem c_X12_endText (l : Launch) (G : hG) (B : Nat) (S : hS) (v0 : Nat) (q : hS → Prop) : Met l yX12_endText (hws yX12_endText cX12_endText 1 (Option.none : Option FieldType)) ({ frames := 4, cells := 0, slots := 0, locals := 121 }) (hPc G B S [.ref v0] (w_X12_endText q S v0)) (hQ G B (vP q)) (0) (0) (fun r => B ≤ r) := by
  refine hMet (rm := { frames := 4, cells := 0, slots := 0, locals := 121 }) (lv := [some (.ref v0)]) (own := RX12) (fr := 4) (lo := 121) (by decide) rfl rfl rfl (Nat.le_of_ble_eq_true rfl) rfl (fun hw p e R s m args below meth c hC hr hlk hnm => ?_)
  unfold w_X12_endText at hw
  refine z_aload_n hC dX12_endText_0 rfl rfl ?_
  refine z_getI hC FX12 19 lk_1374 dX12_endText_1 (by decide) hw (fun x1 hw => ?_)
  refine z_if_ne (tgt := 19) hC dX12_endText_4 (by decide) (fun c4 => ?_) (fun c4 => ?_)
  · have hw := hw.1 c4
    refine z_mask (lv' := [some (.ref v0)]) [true] rfl ?_
    exact t_X12_endText_b19 hC hr hlk hnm hw
  · have hw := hw.2 c4
    refine z_aload_n hC dX12_endText_7 rfl rfl ?_
    refine z_getI hC FX12 16 lk_1371 dX12_endText_8 (by decide) hw (fun x8 hw => ?_)
    refine z_if_eq (tgt := 19) hC dX12_endText_11 (by decide) (fun c11 => ?_) (fun c11 => ?_)
    · have hw := hw.1 c11
      refine z_mask (lv' := [some (.ref v0)]) [true] rfl ?_
      exact t_X12_endText_b19 hC hr hlk hnm hw
    · have hw := hw.2 c11
      refine z_aload_n hC dX12_endText_14 rfl rfl ?_
      refine z_iconst hC ic_0 dX12_endText_15 ?_
      refine z_callV (ku' := 0) (kv' := 0) (n := 1) (As := [.int 0]) (st := []) hC (c_X12_must l G B S v0 0 _) hw.2 hw.1 rfl lk_1751 lk_1753 lk_68 lk_133 lk_1754 hd_X12_must rfl rfl (Nat.le_of_ble_eq_true rfl) (Nat.le_of_ble_eq_true rfl) rfl (Nat.le_of_ble_eq_true rfl) dX12_endText_16 (Nat.le_refl 0) (Nat.le_refl 0) (kV (fun S hw => ?_))
      refine z_mask (lv' := [some (.ref v0)]) [true] rfl ?_
      exact t_X12_endText_b19 hC hr hlk hnm hw
end
section
variable {p : Program} {l : Launch} {e : Env} {R : Room} {s : State} {m : MethodId} {args : Array Value} {below : List Frame} {meth : Method} {c : Code} {G : hG} {B mc ms : Nat}
def w_X12_readLaw_b27 (q : hS → Prop) (K4 : hS → (Nat) → (Int32) → (Int32) → Prop) (S : hS) (v0 : Nat) (v2 : Int32) (t0 : Int32) : Prop := ∀ y28 : Int32, y28 = v2 + 1 → K4 S v0 t0 y28
set_option maxRecDepth 100000 in
set_option maxHeartbeats 4000000 in
theorem t_X12_readLaw_b27 (hC : zC p R s m args c cX12_readLaw 4 RX12 G B mc ms 8 211) (hr : meth.sig.returnType = (Option.none : Option FieldType)) (hlk : meth.locks = false) (hnm : meth.name = "readLaw") {q : hS → Prop} {K4 : hS → (Nat) → (Int32) → (Int32) → Prop} (hK4 : ∀ {S : hS} {v0 : Nat} {v1 : Int32} {v2 : Int32}, K4 S v0 v1 v2 → Z p l e R s m args below meth c (MQ below (hQ G B (vP q)) args s mc ms (fun r => B ≤ r)) G B mc ms 4 S 0 0 4 [some (.ref v0), some (.int v1), some (.int v2), none] []) {S : hS} {v0 : Nat} {v2 : Int32} {t0 : Int32} (hw : w_X12_readLaw_b27 q K4 S v0 v2 t0) : Z p l e R s m args below meth c (MQ below (hQ G B (vP q)) args s mc ms (fun r => B ≤ r)) G B mc ms 4 S 0 0 27 [some (.ref v0), none, some (.int v2), none] [.int t0] := by
  unfold w_X12_readLaw_b27 at hw
  refine z_istore_n (i := 1) (lv' := [some (.ref v0), some (.int t0), some (.int v2), none]) hC rfl dX12_readLaw_27 (by decide) (hok_v rfl rfl) rfl ?_
  refine z_inc (i := 2) hC ic_1 dX12_readLaw_28 rfl (by decide) (hok_v rfl rfl) (fun y28 e28 => ?_)
  have hw := hw y28 e28
  refine z_goto (tgt := 4) hC dX12_readLaw_31 (by decide) ?_
  refine z_mask (lv' := [some (.ref v0), some (.int t0), some (.int y28), none]) [true, true, true, false] rfl ?_
  exact hK4 hw
def w_X12_readLaw_b185 (q : hS → Prop) (S : hS) (v0 : Nat) (v2 : Int32) : Prop := gP S v0 12 22 (fun x186 => gI S v0 12 23 (fun x194 => sI S x186 (v2 + 6) x194 (fun S => q S)))
set_option maxRecDepth 100000 in
set_option maxHeartbeats 4000000 in
theorem t_X12_readLaw_b185 (hC : zC p R s m args c cX12_readLaw 4 RX12 G B mc ms 8 211) (hr : meth.sig.returnType = (Option.none : Option FieldType)) (hlk : meth.locks = false) (hnm : meth.name = "readLaw") {q : hS → Prop} {S : hS} {v0 : Nat} {v2 : Int32} (hw : w_X12_readLaw_b185 q S v0 v2) : Z p l e R s m args below meth c (MQ below (hQ G B (vP q)) args s mc ms (fun r => B ≤ r)) G B mc ms 4 S 0 0 185 [some (.ref v0), none, some (.int v2), none] [] := by
  unfold w_X12_readLaw_b185 at hw
  refine z_aload_n hC dX12_readLaw_185 rfl rfl ?_
  refine z_getP hC FX12 22 lk_1377 dX12_readLaw_186 (by decide) hw (fun x186 hw => ?_)
  refine z_iload_n hC dX12_readLaw_189 rfl rfl ?_
  refine z_bipush hC bi_6 dX12_readLaw_190 ?_
  refine z_iadd hC dX12_readLaw_192 ?_
  refine z_aload_n hC dX12_readLaw_193 rfl rfl ?_
  refine z_getI hC FX12 23 lk_1378 dX12_readLaw_194 (by decide) hw (fun x194 hw => ?_)
  refine z_astI hC dX12_readLaw_197 hw (fun S hw => ?_)
  exact z_vret hC hr hlk dX12_readLaw_198 ⟨rfl, hw⟩
def w_X12_readLaw_b135 (q : hS → Prop) (S : hS) (v0 : Nat) (v2 : Int32) : Prop := gP S v0 12 22 (fun x136 => gI S v0 12 23 (fun x143 => sI S x136 (v2 + 4) x143 (fun S => gP S v0 12 22 (fun x148 => gI S v0 12 23 (fun x155 => sI S x148 (v2 + 5) x155 (fun S => gI S v0 12 19 (fun x160 => (¬ x160 = 0 → w_X12_readLaw_b185 q S v0 v2) ∧ (x160 = 0 → oK S v0 12 ∧ w_X12_isWord (fun x170 S => (x170 = 0 → w_X12_readLaw_b185 q S v0 v2) ∧ (¬ x170 = 0 → oK S v0 12 ∧ w_X12_next (fun S => oK S v0 12 ∧ w_X12_readExpression (fun S => w_X12_readLaw_b185 q S v0 v2) S v0 1) S v0)) S v0 294))))))))
set_option maxRecDepth 100000 in
set_option maxHeartbeats 4000000 in
theorem t_X12_readLaw_b135 (hC : zC p R s m args c cX12_readLaw 4 RX12 G B mc ms 8 211) (hr : meth.sig.returnType = (Option.none : Option FieldType)) (hlk : meth.locks = false) (hnm : meth.name = "readLaw") {q : hS → Prop} {S : hS} {v0 : Nat} {v2 : Int32} (hw : w_X12_readLaw_b135 q S v0 v2) : Z p l e R s m args below meth c (MQ below (hQ G B (vP q)) args s mc ms (fun r => B ≤ r)) G B mc ms 4 S 0 0 135 [some (.ref v0), none, some (.int v2), none] [] := by
  unfold w_X12_readLaw_b135 at hw
  refine z_aload_n hC dX12_readLaw_135 rfl rfl ?_
  refine z_getP hC FX12 22 lk_1377 dX12_readLaw_136 (by decide) hw (fun x136 hw => ?_)
  refine z_iload_n hC dX12_readLaw_139 rfl rfl ?_
  refine z_iconst hC ic_4 dX12_readLaw_140 ?_
  refine z_iadd hC dX12_readLaw_141 ?_
  refine z_aload_n hC dX12_readLaw_142 rfl rfl ?_
  refine z_getI hC FX12 23 lk_1378 dX12_readLaw_143 (by decide) hw (fun x143 hw => ?_)
  refine z_astI hC dX12_readLaw_146 hw (fun S hw => ?_)
  refine z_aload_n hC dX12_readLaw_147 rfl rfl ?_
  refine z_getP hC FX12 22 lk_1377 dX12_readLaw_148 (by decide) hw (fun x148 hw => ?_)
  refine z_iload_n hC dX12_readLaw_151 rfl rfl ?_
  refine z_iconst hC ic_5 dX12_readLaw_152 ?_
  refine z_iadd hC dX12_readLaw_153 ?_
  refine z_aload_n hC dX12_readLaw_154 rfl rfl ?_
  refine z_getI hC FX12 23 lk_1378 dX12_readLaw_155 (by decide) hw (fun x155 hw => ?_)
  refine z_astI hC dX12_readLaw_158 hw (fun S hw => ?_)
  refine z_aload_n hC dX12_readLaw_159 rfl rfl ?_
  refine z_getI hC FX12 19 lk_1374 dX12_readLaw_160 (by decide) hw (fun x160 hw => ?_)
  refine z_if_ne (tgt := 185) hC dX12_readLaw_163 (by decide) (fun c163 => ?_) (fun c163 => ?_)
  · have hw := hw.1 c163
    refine z_mask (lv' := [some (.ref v0), none, some (.int v2), none]) [true, false, true, false] rfl ?_
    exact t_X12_readLaw_b185 hC hr hlk hnm hw
  · have hw := hw.2 c163
    refine z_aload_n hC dX12_readLaw_166 rfl rfl ?_
    refine z_ldc2 hC lk_1830 dX12_readLaw_167 ?_
    refine z_callV (ku' := 0) (kv' := 0) (n := 1) (As := [.long 294]) (st := []) hC (c_X12_isWord l G B S v0 294 _) hw.2 hw.1 rfl lk_1747 lk_1749 lk_67 lk_133 lk_1750 hd_X12_isWord rfl rfl (Nat.le_of_ble_eq_true rfl) (Nat.le_of_ble_eq_true rfl) rfl (Nat.le_of_ble_eq_true rfl) dX12_readLaw_170 (Nat.le_refl 0) (Nat.le_refl 0) (kI (fun x170 S hw => ?_))
    refine z_if_eq (tgt := 185) hC dX12_readLaw_173 (by decide) (fun c173 => ?_) (fun c173 => ?_)
    · have hw := hw.1 c173
      refine z_mask (lv' := [some (.ref v0), none, some (.int v2), none]) [true, false, true, false] rfl ?_
      exact t_X12_readLaw_b185 hC hr hlk hnm hw
    · have hw := hw.2 c173
      refine z_aload_n hC dX12_readLaw_176 rfl rfl ?_
      refine z_callV (ku' := 0) (kv' := 0) (n := 0) (As := []) (st := []) hC (c_X12_next l G B S v0 _) hw.2 hw.1 rfl lk_1729 lk_1731 lk_65 lk_133 lk_1732 hd_X12_next rfl rfl (Nat.le_of_ble_eq_true rfl) (Nat.le_of_ble_eq_true rfl) rfl (Nat.le_of_ble_eq_true rfl) dX12_readLaw_177 (Nat.le_refl 0) (Nat.le_refl 0) (kV (fun S hw => ?_))
      refine z_aload_n hC dX12_readLaw_180 rfl rfl ?_
      refine z_iconst hC ic_1 dX12_readLaw_181 ?_
      refine z_callV (ku' := 0) (kv' := 0) (n := 1) (As := [.int 1]) (st := []) hC (c_X12_readExpression l G B S v0 1 _) hw.2 hw.1 rfl lk_1755 lk_1757 lk_69 lk_133 lk_1758 hd_X12_readExpression rfl rfl (Nat.le_of_ble_eq_true rfl) (Nat.le_of_ble_eq_true rfl) rfl (Nat.le_of_ble_eq_true rfl) dX12_readLaw_182 (Nat.le_refl 0) (Nat.le_refl 0) (kV (fun S hw => ?_))
      refine z_mask (lv' := [some (.ref v0), none, some (.int v2), none]) [true, false, true, false] rfl ?_
      exact t_X12_readLaw_b185 hC hr hlk hnm hw
def w_X12_readLaw_b75 (q : hS → Prop) : Nat → hS → (Nat) → (Int32) → (Int32) → (Int32) → Prop
  | 0, _, _, _, _, _ => False
  | n + 1, S, v0, v1, v2, v3 => (8 ≤ v3 → gP S v0 12 22 (fun x97 => sI S x97 v2 v1 (fun S => gI S v0 12 21 (fun x105 => pI S v0 12 21 (x105 + 1) (fun S => gP S v0 12 22 (fun x114 => gI S v0 12 23 (fun x121 => sI S x114 (v2 + 3) x121 (fun S => (3 ≤ v1 → w_X12_readLaw_b135 q S v0 v2) ∧ (¬ 3 ≤ v1 → oK S v0 12 ∧ w_X12_readExpression (fun S => w_X12_readLaw_b135 q S v0 v2) S v0 0))))))))) ∧ (¬ 8 ≤ v3 → gP S v0 12 22 (fun x82 => sI S x82 (v2 + v3) 0 (fun S => ∀ y90 : Int32, y90 = v3 + 1 → w_X12_readLaw_b75 q n S v0 v1 v2 y90)))
set_option maxRecDepth 100000 in
set_option maxHeartbeats 4000000 in
theorem t_X12_readLaw_b75 (hC : zC p R s m args c cX12_readLaw 4 RX12 G B mc ms 8 211) (hr : meth.sig.returnType = (Option.none : Option FieldType)) (hlk : meth.locks = false) (hnm : meth.name = "readLaw") {q : hS → Prop} (n : Nat) : ∀ {S : hS} {v0 : Nat} {v1 : Int32} {v2 : Int32} {v3 : Int32} (hw : w_X12_readLaw_b75 q n S v0 v1 v2 v3), Z p l e R s m args below meth c (MQ below (hQ G B (vP q)) args s mc ms (fun r => B ≤ r)) G B mc ms 4 S 0 0 75 [some (.ref v0), some (.int v1), some (.int v2), some (.int v3)] [] := by
  induction n with
  | zero => intro S v0 v1 v2 v3 hw; exact (by rw [w_X12_readLaw_b75] at hw; exact hw.elim)
  | succ n ih =>
    intro S v0 v1 v2 v3 hw
    rw [w_X12_readLaw_b75] at hw
    refine z_iload_n hC dX12_readLaw_75 rfl rfl ?_
    refine z_bipush hC bi_8 dX12_readLaw_76 ?_
    refine z_icmp_ge (tgt := 96) hC dX12_readLaw_78 (by decide) (fun c78 => ?_) (fun c78 => ?_)
    · have hw := hw.1 c78
      refine z_aload_n hC dX12_readLaw_96 rfl rfl ?_
      refine z_getP hC FX12 22 lk_1377 dX12_readLaw_97 (by decide) hw (fun x97 hw => ?_)
      refine z_iload_n hC dX12_readLaw_100 rfl rfl ?_
      refine z_iload_n hC dX12_readLaw_101 rfl rfl ?_
      refine z_astI hC dX12_readLaw_102 hw (fun S hw => ?_)
      refine z_aload_n hC dX12_readLaw_103 rfl rfl ?_
      refine z_dup hC rfl dX12_readLaw_104 ?_
      refine z_getI hC FX12 21 lk_1376 dX12_readLaw_105 (by decide) hw (fun x105 hw => ?_)
      refine z_iconst hC ic_1 dX12_readLaw_108 ?_
      refine z_iadd hC dX12_readLaw_109 ?_
      refine z_putI hC FX12 21 lk_1376 dX12_readLaw_110 (by decide) rfl rfl hw (fun S hw => ?_)
      refine z_aload_n hC dX12_readLaw_113 rfl rfl ?_
      refine z_getP hC FX12 22 lk_1377 dX12_readLaw_114 (by decide) hw (fun x114 hw => ?_)
      refine z_iload_n hC dX12_readLaw_117 rfl rfl ?_
      refine z_iconst hC ic_3 dX12_readLaw_118 ?_
      refine z_iadd hC dX12_readLaw_119 ?_
      refine z_aload_n hC dX12_readLaw_120 rfl rfl ?_
      refine z_getI hC FX12 23 lk_1378 dX12_readLaw_121 (by decide) hw (fun x121 hw => ?_)
      refine z_astI hC dX12_readLaw_124 hw (fun S hw => ?_)
      refine z_iload_n hC dX12_readLaw_125 rfl rfl ?_
      refine z_iconst hC ic_3 dX12_readLaw_126 ?_
      refine z_icmp_ge (tgt := 135) hC dX12_readLaw_127 (by decide) (fun c127 => ?_) (fun c127 => ?_)
      · have hw := hw.1 c127
        refine z_mask (lv' := [some (.ref v0), none, some (.int v2), none]) [true, false, true, false] rfl ?_
        exact t_X12_readLaw_b135 hC hr hlk hnm hw
      · have hw := hw.2 c127
        refine z_aload_n hC dX12_readLaw_130 rfl rfl ?_
        refine z_iconst hC ic_0 dX12_readLaw_131 ?_
        refine z_callV (ku' := 0) (kv' := 0) (n := 1) (As := [.int 0]) (st := []) hC (c_X12_readExpression l G B S v0 0 _) hw.2 hw.1 rfl lk_1755 lk_1757 lk_69 lk_133 lk_1758 hd_X12_readExpression rfl rfl (Nat.le_of_ble_eq_true rfl) (Nat.le_of_ble_eq_true rfl) rfl (Nat.le_of_ble_eq_true rfl) dX12_readLaw_132 (Nat.le_refl 0) (Nat.le_refl 0) (kV (fun S hw => ?_))
        refine z_mask (lv' := [some (.ref v0), none, some (.int v2), none]) [true, false, true, false] rfl ?_
        exact t_X12_readLaw_b135 hC hr hlk hnm hw
    · have hw := hw.2 c78
      refine z_aload_n hC dX12_readLaw_81 rfl rfl ?_
      refine z_getP hC FX12 22 lk_1377 dX12_readLaw_82 (by decide) hw (fun x82 hw => ?_)
      refine z_iload_n hC dX12_readLaw_85 rfl rfl ?_
      refine z_iload_n hC dX12_readLaw_86 rfl rfl ?_
      refine z_iadd hC dX12_readLaw_87 ?_
      refine z_iconst hC ic_0 dX12_readLaw_88 ?_
      refine z_astI hC dX12_readLaw_89 hw (fun S hw => ?_)
      refine z_inc (i := 3) hC ic_1 dX12_readLaw_90 rfl (by decide) (hok_v rfl rfl) (fun y90 e90 => ?_)
      have hw := hw y90 e90
      refine z_goto (tgt := 75) hC dX12_readLaw_93 (by decide) ?_
      refine z_mask (lv' := [some (.ref v0), some (.int v1), some (.int v2), some (.int y90)]) [true, true, true, true] rfl ?_
      exact ih hw
def w_X12_readLaw_b54 (q : hS → Prop) (S : hS) (v0 : Nat) (v1 : Int32) (t0 : Int32) (t1 : Nat) : Prop := oK S t1 12 ∧ w_X12_must (fun S => gI S v0 12 19 (fun x58 => (x58 = 0 → gI S v0 12 21 (fun x68 => ∀ y72 : Int32, y72 = (8 * x68) → (∃ n75 : Nat, w_X12_readLaw_b75 q n75 S v0 v1 y72 0))) ∧ (¬ x58 = 0 → q S))) S t1 t0
set_option maxRecDepth 100000 in
set_option maxHeartbeats 4000000 in
theorem t_X12_readLaw_b54 (hC : zC p R s m args c cX12_readLaw 4 RX12 G B mc ms 8 211) (hr : meth.sig.returnType = (Option.none : Option FieldType)) (hlk : meth.locks = false) (hnm : meth.name = "readLaw") {q : hS → Prop} {S : hS} {v0 : Nat} {v1 : Int32} {t0 : Int32} {t1 : Nat} (hw : w_X12_readLaw_b54 q S v0 v1 t0 t1) : Z p l e R s m args below meth c (MQ below (hQ G B (vP q)) args s mc ms (fun r => B ≤ r)) G B mc ms 4 S 0 0 54 [some (.ref v0), some (.int v1), none, none] [.int t0, .ref t1] := by
  unfold w_X12_readLaw_b54 at hw
  refine z_callV (ku' := 0) (kv' := 0) (n := 1) (As := [.int t0]) (st := []) hC (c_X12_must l G B S t1 t0 _) hw.2 hw.1 rfl lk_1751 lk_1753 lk_68 lk_133 lk_1754 hd_X12_must rfl rfl (Nat.le_of_ble_eq_true rfl) (Nat.le_of_ble_eq_true rfl) rfl (Nat.le_of_ble_eq_true rfl) dX12_readLaw_54 (Nat.le_refl 0) (Nat.le_refl 0) (kV (fun S hw => ?_))
  refine z_aload_n hC dX12_readLaw_57 rfl rfl ?_
  refine z_getI hC FX12 19 lk_1374 dX12_readLaw_58 (by decide) hw (fun x58 hw => ?_)
  refine z_if_eq (tgt := 65) hC dX12_readLaw_61 (by decide) (fun c61 => ?_) (fun c61 => ?_)
  · have hw := hw.1 c61
    refine z_bipush hC bi_8 dX12_readLaw_65 ?_
    refine z_aload_n hC dX12_readLaw_67 rfl rfl ?_
    refine z_getI hC FX12 21 lk_1376 dX12_readLaw_68 (by decide) hw (fun x68 hw => ?_)
    refine z_imul hC dX12_readLaw_71 ?_
    refine z_nmI (fun y72 e72 => ?_)
    have hw := hw y72 e72
    refine z_istore_n (i := 2) (lv' := [some (.ref v0), some (.int v1), some (.int y72), none]) hC rfl dX12_readLaw_72 (by decide) (hok_v rfl rfl) rfl ?_
    refine z_iconst hC ic_0 dX12_readLaw_73 ?_
    refine z_istore_n (i := 3) (lv' := [some (.ref v0), some (.int v1), some (.int y72), some (.int 0)]) hC rfl dX12_readLaw_74 (by decide) (hok_v rfl rfl) rfl ?_
    refine z_mask (lv' := [some (.ref v0), some (.int v1), some (.int y72), some (.int 0)]) [true, true, true, true] rfl ?_
    obtain ⟨n75, hw⟩ := hw
    exact t_X12_readLaw_b75 hC hr hlk hnm n75 hw
  · have hw := hw.2 c61
    exact z_vret hC hr hlk dX12_readLaw_64 ⟨rfl, hw⟩
def w_X12_readLaw_b53 (q : hS → Prop) (S : hS) (v0 : Nat) (v1 : Int32) (t0 : Nat) : Prop := w_X12_readLaw_b54 q S v0 v1 0 t0
set_option maxRecDepth 100000 in
set_option maxHeartbeats 4000000 in
theorem t_X12_readLaw_b53 (hC : zC p R s m args c cX12_readLaw 4 RX12 G B mc ms 8 211) (hr : meth.sig.returnType = (Option.none : Option FieldType)) (hlk : meth.locks = false) (hnm : meth.name = "readLaw") {q : hS → Prop} {S : hS} {v0 : Nat} {v1 : Int32} {t0 : Nat} (hw : w_X12_readLaw_b53 q S v0 v1 t0) : Z p l e R s m args below meth c (MQ below (hQ G B (vP q)) args s mc ms (fun r => B ≤ r)) G B mc ms 4 S 0 0 53 [some (.ref v0), some (.int v1), none, none] [.ref t0] := by
  unfold w_X12_readLaw_b53 at hw
  refine z_iconst hC ic_0 dX12_readLaw_53 ?_
  refine z_mask (lv' := [some (.ref v0), some (.int v1), none, none]) [true, true, false, false] rfl ?_
  exact t_X12_readLaw_b54 hC hr hlk hnm hw
def w_X12_readLaw_b4 (q : hS → Prop) : Nat → hS → (Nat) → (Int32) → (Int32) → Prop
  | 0, _, _, _, _ => False
  | n + 1, S, v0, v1, v2 => (5 ≤ v2 → (v1 = (-1) → w_X12_readLaw_b53 q S v0 v1 v0) ∧ (¬ v1 = (-1) → gI S v0 12 21 (fun x41 => (12 ≤ x41 → w_X12_readLaw_b53 q S v0 v1 v0) ∧ (¬ 12 ≤ x41 → w_X12_readLaw_b54 q S v0 v1 1 v0)))) ∧ (¬ 5 ≤ v2 → gP S v0 12 33 (fun x11 => aJ S x11 v2 (fun x15 => oK S v0 12 ∧ w_X12_isWord (fun x16 S => (x16 = 0 → w_X12_readLaw_b27 q (fun S v0 v1 v2 => w_X12_readLaw_b4 q n S v0 v1 v2) S v0 v2 v1) ∧ (¬ x16 = 0 → w_X12_readLaw_b27 q (fun S v0 v1 v2 => w_X12_readLaw_b4 q n S v0 v1 v2) S v0 v2 v2)) S v0 x15)))
set_option maxRecDepth 100000 in
set_option maxHeartbeats 4000000 in
theorem t_X12_readLaw_b4 (hC : zC p R s m args c cX12_readLaw 4 RX12 G B mc ms 8 211) (hr : meth.sig.returnType = (Option.none : Option FieldType)) (hlk : meth.locks = false) (hnm : meth.name = "readLaw") {q : hS → Prop} (n : Nat) : ∀ {S : hS} {v0 : Nat} {v1 : Int32} {v2 : Int32} (hw : w_X12_readLaw_b4 q n S v0 v1 v2), Z p l e R s m args below meth c (MQ below (hQ G B (vP q)) args s mc ms (fun r => B ≤ r)) G B mc ms 4 S 0 0 4 [some (.ref v0), some (.int v1), some (.int v2), none] [] := by
  induction n with
  | zero => intro S v0 v1 v2 hw; exact (by rw [w_X12_readLaw_b4] at hw; exact hw.elim)
  | succ n ih =>
    intro S v0 v1 v2 hw
    rw [w_X12_readLaw_b4] at hw
    refine z_iload_n hC dX12_readLaw_4 rfl rfl ?_
    refine z_iconst hC ic_5 dX12_readLaw_5 ?_
    refine z_icmp_ge (tgt := 34) hC dX12_readLaw_6 (by decide) (fun c6 => ?_) (fun c6 => ?_)
    · have hw := hw.1 c6
      refine z_aload_n hC dX12_readLaw_34 rfl rfl ?_
      refine z_iload_n hC dX12_readLaw_35 rfl rfl ?_
      refine z_iconst hC ic_m1 dX12_readLaw_36 ?_
      refine z_icmp_eq (tgt := 53) hC dX12_readLaw_37 (by decide) (fun c37 => ?_) (fun c37 => ?_)
      · have hw := hw.1 c37
        refine z_mask (lv' := [some (.ref v0), some (.int v1), none, none]) [true, true, false, false] rfl ?_
        exact t_X12_readLaw_b53 hC hr hlk hnm hw
      · have hw := hw.2 c37
        refine z_aload_n hC dX12_readLaw_40 rfl rfl ?_
        refine z_getI hC FX12 21 lk_1376 dX12_readLaw_41 (by decide) hw (fun x41 hw => ?_)
        refine z_bipush hC bi_12 dX12_readLaw_44 ?_
        refine z_icmp_ge (tgt := 53) hC dX12_readLaw_46 (by decide) (fun c46 => ?_) (fun c46 => ?_)
        · have hw := hw.1 c46
          refine z_mask (lv' := [some (.ref v0), some (.int v1), none, none]) [true, true, false, false] rfl ?_
          exact t_X12_readLaw_b53 hC hr hlk hnm hw
        · have hw := hw.2 c46
          refine z_iconst hC ic_1 dX12_readLaw_49 ?_
          refine z_goto (tgt := 54) hC dX12_readLaw_50 (by decide) ?_
          refine z_mask (lv' := [some (.ref v0), some (.int v1), none, none]) [true, true, false, false] rfl ?_
          exact t_X12_readLaw_b54 hC hr hlk hnm hw
    · have hw := hw.2 c6
      refine z_aload_n hC dX12_readLaw_9 rfl rfl ?_
      refine z_aload_n hC dX12_readLaw_10 rfl rfl ?_
      refine z_getP hC FX12 33 lk_1388 dX12_readLaw_11 (by decide) hw (fun x11 hw => ?_)
      refine z_iload_n hC dX12_readLaw_14 rfl rfl ?_
      refine z_aldJ hC dX12_readLaw_15 hw (fun x15 hw => ?_)
      refine z_callV (ku' := 0) (kv' := 0) (n := 1) (As := [.long x15]) (st := []) hC (c_X12_isWord l G B S v0 x15 _) hw.2 hw.1 rfl lk_1747 lk_1749 lk_67 lk_133 lk_1750 hd_X12_isWord rfl rfl (Nat.le_of_ble_eq_true rfl) (Nat.le_of_ble_eq_true rfl) rfl (Nat.le_of_ble_eq_true rfl) dX12_readLaw_16 (Nat.le_refl 0) (Nat.le_refl 0) (kI (fun x16 S hw => ?_))
      refine z_if_eq (tgt := 26) hC dX12_readLaw_19 (by decide) (fun c19 => ?_) (fun c19 => ?_)
      · have hw := hw.1 c19
        refine z_iload_n hC dX12_readLaw_26 rfl rfl ?_
        refine z_mask (lv' := [some (.ref v0), none, some (.int v2), none]) [true, false, true, false] rfl ?_
        exact t_X12_readLaw_b27 hC hr hlk hnm (fun hw => ih hw) hw
      · have hw := hw.2 c19
        refine z_iload_n hC dX12_readLaw_22 rfl rfl ?_
        refine z_goto (tgt := 27) hC dX12_readLaw_23 (by decide) ?_
        refine z_mask (lv' := [some (.ref v0), none, some (.int v2), none]) [true, false, true, false] rfl ?_
        exact t_X12_readLaw_b27 hC hr hlk hnm (fun hw => ih hw) hw
def w_X12_readLaw (q : hS → Prop) (S : hS) (v0 : Nat) : Prop := (∃ n4 : Nat, w_X12_readLaw_b4 q n4 S v0 (-1) 0)
set_option maxRecDepth 100000 in
set_option maxHeartbeats 4000000 in
theorem c_X12_readLaw (l : Launch) (G : hG) (B : Nat) (S : hS) (v0 : Nat) (q : hS → Prop) : Met l yX12_readLaw (hws yX12_readLaw cX12_readLaw 4 (Option.none : Option FieldType)) ({ frames := 8, cells := 0, slots := 0, locals := 211 }) (hPc G B S [.ref v0] (w_X12_readLaw q S v0)) (hQ G B (vP q)) (0) (0) (fun r => B ≤ r) := by
  refine hMet (rm := { frames := 8, cells := 0, slots := 0, locals := 211 }) (lv := [some (.ref v0), none, none, none]) (own := RX12) (fr := 8) (lo := 211) (by decide) rfl rfl rfl (Nat.le_of_ble_eq_true rfl) rfl (fun hw p e R s m args below meth c hC hr hlk hnm => ?_)
  unfold w_X12_readLaw at hw
  refine z_iconst hC ic_m1 dX12_readLaw_0 ?_
  refine z_istore_n (i := 1) (lv' := [some (.ref v0), some (.int (-1)), none, none]) hC rfl dX12_readLaw_1 (by decide) (hok_v rfl rfl) rfl ?_
  refine z_iconst hC ic_0 dX12_readLaw_2 ?_
  refine z_istore_n (i := 2) (lv' := [some (.ref v0), some (.int (-1)), some (.int 0), none]) hC rfl dX12_readLaw_3 (by decide) (hok_v rfl rfl) rfl ?_
  refine z_mask (lv' := [some (.ref v0), some (.int (-1)), some (.int 0), none]) [true, true, true, false] rfl ?_
  obtain ⟨n4, hw⟩ := hw
  exact t_X12_readLaw_b4 hC hr hlk hnm n4 hw
end
