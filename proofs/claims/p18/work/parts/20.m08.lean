section
variable {p : Program} {l : Launch} {e : Env} {R : Room} {s : State} {m : MethodId} {args : Array Value} {below : List Frame} {meth : Method} {c : Code} {G : hG} {B mc ms : Nat}
def w_X12_given_b142 (q : Int32 → hS → Prop) (K62 : hS → (Nat) → (Int32) → (Int32) → (Int32) → (Int32) → Prop) (K74 : hS → (Nat) → (Int32) → (Int32) → (Int32) → (Int32) → (Int32) → (Int32) → Prop) (S : hS) (v0 : Nat) (v1 : Int32) (v2 : Int32) (v3 : Int32) (v4 : Int32) (v5 : Int32) (v6 : Int32) : Prop := ∀ y142 : Int32, y142 = v6 + 1 → K74 S v0 v1 v2 v3 v4 v5 y142
set_option maxRecDepth 100000 in
set_option maxHeartbeats 4000000 in
theorem t_X12_given_b142 (hC : zC p R s m args c cX12_given 7 RX12 G B mc ms 3 106) (hr : meth.sig.returnType = (Option.some FieldType.int)) (hlk : meth.locks = false) (hnm : meth.name = "given") {q : Int32 → hS → Prop} {K62 : hS → (Nat) → (Int32) → (Int32) → (Int32) → (Int32) → Prop} (hK62 : ∀ {S : hS} {v0 : Nat} {v1 : Int32} {v2 : Int32} {v3 : Int32} {v4 : Int32}, K62 S v0 v1 v2 v3 v4 → Z p l e R s m args below meth c (MQ below (hQ G B (iP q)) args s mc ms (fun r => B ≤ r)) G B mc ms 7 S 0 0 62 [some (.ref v0), some (.int v1), some (.int v2), some (.int v3), some (.int v4), none, none] []) {K74 : hS → (Nat) → (Int32) → (Int32) → (Int32) → (Int32) → (Int32) → (Int32) → Prop} (hK74 : ∀ {S : hS} {v0 : Nat} {v1 : Int32} {v2 : Int32} {v3 : Int32} {v4 : Int32} {v5 : Int32} {v6 : Int32}, K74 S v0 v1 v2 v3 v4 v5 v6 → Z p l e R s m args below meth c (MQ below (hQ G B (iP q)) args s mc ms (fun r => B ≤ r)) G B mc ms 7 S 0 0 74 [some (.ref v0), some (.int v1), some (.int v2), some (.int v3), some (.int v4), some (.int v5), some (.int v6)] []) {S : hS} {v0 : Nat} {v1 : Int32} {v2 : Int32} {v3 : Int32} {v4 : Int32} {v5 : Int32} {v6 : Int32} (hw : w_X12_given_b142 q K62 K74 S v0 v1 v2 v3 v4 v5 v6) : Z p l e R s m args below meth c (MQ below (hQ G B (iP q)) args s mc ms (fun r => B ≤ r)) G B mc ms 7 S 0 0 142 [some (.ref v0), some (.int v1), some (.int v2), some (.int v3), some (.int v4), some (.int v5), some (.int v6)] [] := by
  unfold w_X12_given_b142 at hw
  refine z_inc (i := 6) hC ic_1 dX12_given_142 rfl (by decide) (hok_v rfl rfl) (fun y142 e142 => ?_)
  have hw := hw y142 e142
  refine z_goto (tgt := 74) hC dX12_given_145 (by decide) ?_
  refine z_mask (lv' := [some (.ref v0), some (.int v1), some (.int v2), some (.int v3), some (.int v4), some (.int v5), some (.int y142)]) [true, true, true, true, true, true, true] rfl ?_
  exact hK74 hw
def w_X12_given_b138 (q : Int32 → hS → Prop) (K62 : hS → (Nat) → (Int32) → (Int32) → (Int32) → (Int32) → Prop) (K74 : hS → (Nat) → (Int32) → (Int32) → (Int32) → (Int32) → (Int32) → (Int32) → Prop) (S : hS) (v0 : Nat) (v1 : Int32) (v2 : Int32) (v3 : Int32) (v4 : Int32) (v6 : Int32) : Prop := w_X12_given_b142 q K62 K74 S v0 v1 v2 v3 v4 v6 v6
set_option maxRecDepth 100000 in
set_option maxHeartbeats 4000000 in
theorem t_X12_given_b138 (hC : zC p R s m args c cX12_given 7 RX12 G B mc ms 3 106) (hr : meth.sig.returnType = (Option.some FieldType.int)) (hlk : meth.locks = false) (hnm : meth.name = "given") {q : Int32 → hS → Prop} {K62 : hS → (Nat) → (Int32) → (Int32) → (Int32) → (Int32) → Prop} (hK62 : ∀ {S : hS} {v0 : Nat} {v1 : Int32} {v2 : Int32} {v3 : Int32} {v4 : Int32}, K62 S v0 v1 v2 v3 v4 → Z p l e R s m args below meth c (MQ below (hQ G B (iP q)) args s mc ms (fun r => B ≤ r)) G B mc ms 7 S 0 0 62 [some (.ref v0), some (.int v1), some (.int v2), some (.int v3), some (.int v4), none, none] []) {K74 : hS → (Nat) → (Int32) → (Int32) → (Int32) → (Int32) → (Int32) → (Int32) → Prop} (hK74 : ∀ {S : hS} {v0 : Nat} {v1 : Int32} {v2 : Int32} {v3 : Int32} {v4 : Int32} {v5 : Int32} {v6 : Int32}, K74 S v0 v1 v2 v3 v4 v5 v6 → Z p l e R s m args below meth c (MQ below (hQ G B (iP q)) args s mc ms (fun r => B ≤ r)) G B mc ms 7 S 0 0 74 [some (.ref v0), some (.int v1), some (.int v2), some (.int v3), some (.int v4), some (.int v5), some (.int v6)] []) {S : hS} {v0 : Nat} {v1 : Int32} {v2 : Int32} {v3 : Int32} {v4 : Int32} {v6 : Int32} (hw : w_X12_given_b138 q K62 K74 S v0 v1 v2 v3 v4 v6) : Z p l e R s m args below meth c (MQ below (hQ G B (iP q)) args s mc ms (fun r => B ≤ r)) G B mc ms 7 S 0 0 138 [some (.ref v0), some (.int v1), some (.int v2), some (.int v3), some (.int v4), none, some (.int v6)] [] := by
  unfold w_X12_given_b138 at hw
  refine z_iload hC dX12_given_138 rfl ?_
  refine z_istore (i := 5) (lv' := [some (.ref v0), some (.int v1), some (.int v2), some (.int v3), some (.int v4), some (.int v6), some (.int v6)]) hC dX12_given_140 (by decide) (hok_v rfl rfl) rfl ?_
  refine z_mask (lv' := [some (.ref v0), some (.int v1), some (.int v2), some (.int v3), some (.int v4), some (.int v6), some (.int v6)]) [true, true, true, true, true, true, true] rfl ?_
  exact t_X12_given_b142 hC hr hlk hnm hK62 hK74 hw
def w_X12_given_b165 (q : Int32 → hS → Prop) (K62 : hS → (Nat) → (Int32) → (Int32) → (Int32) → (Int32) → Prop) (S : hS) (v0 : Nat) (v1 : Int32) (v2 : Int32) (v3 : Int32) (v4 : Int32) : Prop := ∀ y165 : Int32, y165 = v4 + 1 → K62 S v0 v1 v2 v3 y165
set_option maxRecDepth 100000 in
set_option maxHeartbeats 4000000 in
theorem t_X12_given_b165 (hC : zC p R s m args c cX12_given 7 RX12 G B mc ms 3 106) (hr : meth.sig.returnType = (Option.some FieldType.int)) (hlk : meth.locks = false) (hnm : meth.name = "given") {q : Int32 → hS → Prop} {K62 : hS → (Nat) → (Int32) → (Int32) → (Int32) → (Int32) → Prop} (hK62 : ∀ {S : hS} {v0 : Nat} {v1 : Int32} {v2 : Int32} {v3 : Int32} {v4 : Int32}, K62 S v0 v1 v2 v3 v4 → Z p l e R s m args below meth c (MQ below (hQ G B (iP q)) args s mc ms (fun r => B ≤ r)) G B mc ms 7 S 0 0 62 [some (.ref v0), some (.int v1), some (.int v2), some (.int v3), some (.int v4), none, none] []) {S : hS} {v0 : Nat} {v1 : Int32} {v2 : Int32} {v3 : Int32} {v4 : Int32} (hw : w_X12_given_b165 q K62 S v0 v1 v2 v3 v4) : Z p l e R s m args below meth c (MQ below (hQ G B (iP q)) args s mc ms (fun r => B ≤ r)) G B mc ms 7 S 0 0 165 [some (.ref v0), some (.int v1), some (.int v2), some (.int v3), some (.int v4), none, none] [] := by
  unfold w_X12_given_b165 at hw
  refine z_inc (i := 4) hC ic_1 dX12_given_165 rfl (by decide) (hok_v rfl rfl) (fun y165 e165 => ?_)
  have hw := hw y165 e165
  refine z_goto (tgt := 62) hC dX12_given_168 (by decide) ?_
  refine z_mask (lv' := [some (.ref v0), some (.int v1), some (.int v2), some (.int v3), some (.int y165), none, none]) [true, true, true, true, true, false, false] rfl ?_
  exact hK62 hw
def w_X12_given_b74 (q : Int32 → hS → Prop) (K62 : hS → (Nat) → (Int32) → (Int32) → (Int32) → (Int32) → Prop) : Nat → hS → (Nat) → (Int32) → (Int32) → (Int32) → (Int32) → (Int32) → (Int32) → Prop
  | 0, _, _, _, _, _, _, _, _ => False
  | n + 1, S, v0, v1, v2, v3, v4, v5, v6 => gP S v0 12 3 (fun x77 => aI S x77 1 (fun x81 => (x81 ≤ v6 → (v5 = (-1) → w_X12_given_b165 q K62 S v0 v1 v2 v3 v4) ∧ (¬ v5 = (-1) → gP S v0 12 47 (fun x155 => aI S x155 v5 (fun x161 => sI S x155 v5 (x161 + 1) (fun S => w_X12_given_b165 q K62 S v0 v1 v2 v3 v4))))) ∧ (¬ x81 ≤ v6 → oK S v0 12 ∧ w_X12_rights (fun x89 S => (x89 ≤ 0 → w_X12_given_b142 q K62 (fun S v0 v1 v2 v3 v4 v5 v6 => w_X12_given_b74 q K62 n S v0 v1 v2 v3 v4 v5 v6) S v0 v1 v2 v3 v4 v5 v6) ∧ (¬ x89 ≤ 0 → (v5 = (-1) → w_X12_given_b138 q K62 (fun S v0 v1 v2 v3 v4 v5 v6 => w_X12_given_b74 q K62 n S v0 v1 v2 v3 v4 v5 v6) S v0 v1 v2 v3 v4 v6) ∧ (¬ v5 = (-1) → oK S v0 12 ∧ w_X12_rights (fun x105 S => gP S v0 12 47 (fun x109 => aI S x109 v5 (fun x114 => oK S v0 12 ∧ w_X12_rights (fun x122 S => gP S v0 12 47 (fun x126 => aI S x126 v6 (fun x131 => ((x105 * (x114 + 1)) ≤ (x122 * (x131 + 1)) → w_X12_given_b142 q K62 (fun S v0 v1 v2 v3 v4 v5 v6 => w_X12_given_b74 q K62 n S v0 v1 v2 v3 v4 v5 v6) S v0 v1 v2 v3 v4 v5 v6) ∧ (¬ (x105 * (x114 + 1)) ≤ (x122 * (x131 + 1)) → w_X12_given_b138 q K62 (fun S v0 v1 v2 v3 v4 v5 v6 => w_X12_given_b74 q K62 n S v0 v1 v2 v3 v4 v5 v6) S v0 v1 v2 v3 v4 v6)))) S v0 v5 v1))) S v0 v6 v1))) S v0 v6 v1)))
set_option maxRecDepth 100000 in
set_option maxHeartbeats 4000000 in
theorem t_X12_given_b74 (hC : zC p R s m args c cX12_given 7 RX12 G B mc ms 3 106) (hr : meth.sig.returnType = (Option.some FieldType.int)) (hlk : meth.locks = false) (hnm : meth.name = "given") {q : Int32 → hS → Prop} {K62 : hS → (Nat) → (Int32) → (Int32) → (Int32) → (Int32) → Prop} (hK62 : ∀ {S : hS} {v0 : Nat} {v1 : Int32} {v2 : Int32} {v3 : Int32} {v4 : Int32}, K62 S v0 v1 v2 v3 v4 → Z p l e R s m args below meth c (MQ below (hQ G B (iP q)) args s mc ms (fun r => B ≤ r)) G B mc ms 7 S 0 0 62 [some (.ref v0), some (.int v1), some (.int v2), some (.int v3), some (.int v4), none, none] []) (n : Nat) : ∀ {S : hS} {v0 : Nat} {v1 : Int32} {v2 : Int32} {v3 : Int32} {v4 : Int32} {v5 : Int32} {v6 : Int32} (hw : w_X12_given_b74 q K62 n S v0 v1 v2 v3 v4 v5 v6), Z p l e R s m args below meth c (MQ below (hQ G B (iP q)) args s mc ms (fun r => B ≤ r)) G B mc ms 7 S 0 0 74 [some (.ref v0), some (.int v1), some (.int v2), some (.int v3), some (.int v4), some (.int v5), some (.int v6)] [] := by
  induction n with
  | zero => intro S v0 v1 v2 v3 v4 v5 v6 hw; exact (by rw [w_X12_given_b74] at hw; exact hw.elim)
  | succ n ih =>
    intro S v0 v1 v2 v3 v4 v5 v6 hw
    rw [w_X12_given_b74] at hw
    refine z_iload hC dX12_given_74 rfl ?_
    refine z_aload_n hC dX12_given_76 rfl rfl ?_
    refine z_getP hC FX12 3 lk_1358 dX12_given_77 (by decide) hw (fun x77 hw => ?_)
    refine z_iconst hC ic_1 dX12_given_80 ?_
    refine z_aldI hC dX12_given_81 hw (fun x81 hw => ?_)
    refine z_icmp_ge (tgt := 148) hC dX12_given_82 (by decide) (fun c82 => ?_) (fun c82 => ?_)
    · have hw := hw.1 c82
      refine z_iload hC dX12_given_148 rfl ?_
      refine z_iconst hC ic_m1 dX12_given_150 ?_
      refine z_icmp_eq (tgt := 165) hC dX12_given_151 (by decide) (fun c151 => ?_) (fun c151 => ?_)
      · have hw := hw.1 c151
        refine z_mask (lv' := [some (.ref v0), some (.int v1), some (.int v2), some (.int v3), some (.int v4), none, none]) [true, true, true, true, true, false, false] rfl ?_
        exact t_X12_given_b165 hC hr hlk hnm hK62 hw
      · have hw := hw.2 c151
        refine z_aload_n hC dX12_given_154 rfl rfl ?_
        refine z_getP hC FX12 47 lk_1402 dX12_given_155 (by decide) hw (fun x155 hw => ?_)
        refine z_iload hC dX12_given_158 rfl ?_
        refine z_dup2_11 hC rfl rfl dX12_given_160 ?_
        refine z_aldI hC dX12_given_161 hw (fun x161 hw => ?_)
        refine z_iconst hC ic_1 dX12_given_162 ?_
        refine z_iadd hC dX12_given_163 ?_
        refine z_astI hC dX12_given_164 hw (fun S hw => ?_)
        refine z_mask (lv' := [some (.ref v0), some (.int v1), some (.int v2), some (.int v3), some (.int v4), none, none]) [true, true, true, true, true, false, false] rfl ?_
        exact t_X12_given_b165 hC hr hlk hnm hK62 hw
    · have hw := hw.2 c82
      refine z_aload_n hC dX12_given_85 rfl rfl ?_
      refine z_iload hC dX12_given_86 rfl ?_
      refine z_iload_n hC dX12_given_88 rfl rfl ?_
      refine z_callV (ku' := 0) (kv' := 0) (n := 2) (As := [.int v6, .int v1]) (st := []) hC (c_X12_rights l G B S v0 v6 v1 _) hw.2 hw.1 rfl lk_1588 lk_1590 lk_46 lk_133 lk_1591 hd_X12_rights rfl rfl (Nat.le_of_ble_eq_true rfl) (Nat.le_of_ble_eq_true rfl) rfl (Nat.le_of_ble_eq_true rfl) dX12_given_89 (Nat.le_refl 0) (Nat.le_refl 0) (kI (fun x89 S hw => ?_))
      refine z_if_le (tgt := 142) hC dX12_given_92 (by decide) (fun c92 => ?_) (fun c92 => ?_)
      · have hw := hw.1 c92
        refine z_mask (lv' := [some (.ref v0), some (.int v1), some (.int v2), some (.int v3), some (.int v4), some (.int v5), some (.int v6)]) [true, true, true, true, true, true, true] rfl ?_
        exact t_X12_given_b142 hC hr hlk hnm hK62 (fun hw => ih hw) hw
      · have hw := hw.2 c92
        refine z_iload hC dX12_given_95 rfl ?_
        refine z_iconst hC ic_m1 dX12_given_97 ?_
        refine z_icmp_eq (tgt := 138) hC dX12_given_98 (by decide) (fun c98 => ?_) (fun c98 => ?_)
        · have hw := hw.1 c98
          refine z_mask (lv' := [some (.ref v0), some (.int v1), some (.int v2), some (.int v3), some (.int v4), none, some (.int v6)]) [true, true, true, true, true, false, true] rfl ?_
          exact t_X12_given_b138 hC hr hlk hnm hK62 (fun hw => ih hw) hw
        · have hw := hw.2 c98
          refine z_aload_n hC dX12_given_101 rfl rfl ?_
          refine z_iload hC dX12_given_102 rfl ?_
          refine z_iload_n hC dX12_given_104 rfl rfl ?_
          refine z_callV (ku' := 0) (kv' := 0) (n := 2) (As := [.int v6, .int v1]) (st := []) hC (c_X12_rights l G B S v0 v6 v1 _) hw.2 hw.1 rfl lk_1588 lk_1590 lk_46 lk_133 lk_1591 hd_X12_rights rfl rfl (Nat.le_of_ble_eq_true rfl) (Nat.le_of_ble_eq_true rfl) rfl (Nat.le_of_ble_eq_true rfl) dX12_given_105 (Nat.le_refl 0) (Nat.le_refl 0) (kI (fun x105 S hw => ?_))
          refine z_aload_n hC dX12_given_108 rfl rfl ?_
          refine z_getP hC FX12 47 lk_1402 dX12_given_109 (by decide) hw (fun x109 hw => ?_)
          refine z_iload hC dX12_given_112 rfl ?_
          refine z_aldI hC dX12_given_114 hw (fun x114 hw => ?_)
          refine z_iconst hC ic_1 dX12_given_115 ?_
          refine z_iadd hC dX12_given_116 ?_
          refine z_imul hC dX12_given_117 ?_
          refine z_aload_n hC dX12_given_118 rfl rfl ?_
          refine z_iload hC dX12_given_119 rfl ?_
          refine z_iload_n hC dX12_given_121 rfl rfl ?_
          refine z_callV (ku' := 0) (kv' := 0) (n := 2) (As := [.int v5, .int v1]) (st := [.int (x105 * (x114 + 1))]) hC (c_X12_rights l G B S v0 v5 v1 _) hw.2 hw.1 rfl lk_1588 lk_1590 lk_46 lk_133 lk_1591 hd_X12_rights rfl rfl (Nat.le_of_ble_eq_true rfl) (Nat.le_of_ble_eq_true rfl) rfl (Nat.le_of_ble_eq_true rfl) dX12_given_122 (Nat.le_refl 0) (Nat.le_refl 0) (kI (fun x122 S hw => ?_))
          refine z_aload_n hC dX12_given_125 rfl rfl ?_
          refine z_getP hC FX12 47 lk_1402 dX12_given_126 (by decide) hw (fun x126 hw => ?_)
          refine z_iload hC dX12_given_129 rfl ?_
          refine z_aldI hC dX12_given_131 hw (fun x131 hw => ?_)
          refine z_iconst hC ic_1 dX12_given_132 ?_
          refine z_iadd hC dX12_given_133 ?_
          refine z_imul hC dX12_given_134 ?_
          refine z_icmp_le (tgt := 142) hC dX12_given_135 (by decide) (fun c135 => ?_) (fun c135 => ?_)
          · have hw := hw.1 c135
            refine z_mask (lv' := [some (.ref v0), some (.int v1), some (.int v2), some (.int v3), some (.int v4), some (.int v5), some (.int v6)]) [true, true, true, true, true, true, true] rfl ?_
            exact t_X12_given_b142 hC hr hlk hnm hK62 (fun hw => ih hw) hw
          · have hw := hw.2 c135
            refine z_mask (lv' := [some (.ref v0), some (.int v1), some (.int v2), some (.int v3), some (.int v4), none, some (.int v6)]) [true, true, true, true, true, false, true] rfl ?_
            exact t_X12_given_b138 hC hr hlk hnm hK62 (fun hw => ih hw) hw
def w_X12_given_b62 (q : Int32 → hS → Prop) : Nat → hS → (Nat) → (Int32) → (Int32) → (Int32) → (Int32) → Prop
  | 0, _, _, _, _, _, _ => False
  | n + 1, S, v0, v1, v2, v3, v4 => (v2 ≤ v4 → gP S v0 12 47 (fun x172 => aI S x172 v3 (fun x176 => q x176 S))) ∧ (¬ v2 ≤ v4 → (∃ n74 : Nat, w_X12_given_b74 q (fun S v0 v1 v2 v3 v4 => w_X12_given_b62 q n S v0 v1 v2 v3 v4) n74 S v0 v1 v2 v3 v4 (-1) 0))
set_option maxRecDepth 100000 in
set_option maxHeartbeats 4000000 in
theorem t_X12_given_b62 (hC : zC p R s m args c cX12_given 7 RX12 G B mc ms 3 106) (hr : meth.sig.returnType = (Option.some FieldType.int)) (hlk : meth.locks = false) (hnm : meth.name = "given") {q : Int32 → hS → Prop} (n : Nat) : ∀ {S : hS} {v0 : Nat} {v1 : Int32} {v2 : Int32} {v3 : Int32} {v4 : Int32} (hw : w_X12_given_b62 q n S v0 v1 v2 v3 v4), Z p l e R s m args below meth c (MQ below (hQ G B (iP q)) args s mc ms (fun r => B ≤ r)) G B mc ms 7 S 0 0 62 [some (.ref v0), some (.int v1), some (.int v2), some (.int v3), some (.int v4), none, none] [] := by
  induction n with
  | zero => intro S v0 v1 v2 v3 v4 hw; exact (by rw [w_X12_given_b62] at hw; exact hw.elim)
  | succ n ih =>
    intro S v0 v1 v2 v3 v4 hw
    rw [w_X12_given_b62] at hw
    refine z_iload hC dX12_given_62 rfl ?_
    refine z_iload_n hC dX12_given_64 rfl rfl ?_
    refine z_icmp_ge (tgt := 171) hC dX12_given_65 (by decide) (fun c65 => ?_) (fun c65 => ?_)
    · have hw := hw.1 c65
      refine z_aload_n hC dX12_given_171 rfl rfl ?_
      refine z_getP hC FX12 47 lk_1402 dX12_given_172 (by decide) hw (fun x172 hw => ?_)
      refine z_iload_n hC dX12_given_175 rfl rfl ?_
      refine z_aldI hC dX12_given_176 hw (fun x176 hw => ?_)
      exact z_iret hC hr hlk dX12_given_177 ⟨_, rfl, hw⟩
    · have hw := hw.2 c65
      refine z_iconst hC ic_m1 dX12_given_68 ?_
      refine z_istore (i := 5) (lv' := [some (.ref v0), some (.int v1), some (.int v2), some (.int v3), some (.int v4), some (.int (-1)), none]) hC dX12_given_69 (by decide) (hok_v rfl rfl) rfl ?_
      refine z_iconst hC ic_0 dX12_given_71 ?_
      refine z_istore (i := 6) (lv' := [some (.ref v0), some (.int v1), some (.int v2), some (.int v3), some (.int v4), some (.int (-1)), some (.int 0)]) hC dX12_given_72 (by decide) (hok_v rfl rfl) rfl ?_
      refine z_mask (lv' := [some (.ref v0), some (.int v1), some (.int v2), some (.int v3), some (.int v4), some (.int (-1)), some (.int 0)]) [true, true, true, true, true, true, true] rfl ?_
      obtain ⟨n74, hw⟩ := hw
      exact t_X12_given_b74 hC hr hlk hnm (fun hw => ih hw) n74 hw
def w_X12_given_b38 (q : Int32 → hS → Prop) : Nat → hS → (Nat) → (Int32) → (Int32) → (Int32) → (Int32) → Prop
  | 0, _, _, _, _, _, _ => False
  | n + 1, S, v0, v1, v2, v3, v4 => (8 ≤ v4 → (∃ n62 : Nat, w_X12_given_b62 q n62 S v0 v1 v2 v3 0)) ∧ (¬ 8 ≤ v4 → gP S v0 12 47 (fun x46 => sI S x46 v4 0 (fun S => ∀ y53 : Int32, y53 = v4 + 1 → w_X12_given_b38 q n S v0 v1 v2 v3 y53)))
set_option maxRecDepth 100000 in
set_option maxHeartbeats 4000000 in
theorem t_X12_given_b38 (hC : zC p R s m args c cX12_given 7 RX12 G B mc ms 3 106) (hr : meth.sig.returnType = (Option.some FieldType.int)) (hlk : meth.locks = false) (hnm : meth.name = "given") {q : Int32 → hS → Prop} (n : Nat) : ∀ {S : hS} {v0 : Nat} {v1 : Int32} {v2 : Int32} {v3 : Int32} {v4 : Int32} (hw : w_X12_given_b38 q n S v0 v1 v2 v3 v4), Z p l e R s m args below meth c (MQ below (hQ G B (iP q)) args s mc ms (fun r => B ≤ r)) G B mc ms 7 S 0 0 38 [some (.ref v0), some (.int v1), some (.int v2), some (.int v3), some (.int v4), none, none] [] := by
  induction n with
  | zero => intro S v0 v1 v2 v3 v4 hw; exact (by rw [w_X12_given_b38] at hw; exact hw.elim)
  | succ n ih =>
    intro S v0 v1 v2 v3 v4 hw
    rw [w_X12_given_b38] at hw
    refine z_iload hC dX12_given_38 rfl ?_
    refine z_bipush hC bi_8 dX12_given_40 ?_
    refine z_icmp_ge (tgt := 59) hC dX12_given_42 (by decide) (fun c42 => ?_) (fun c42 => ?_)
    · have hw := hw.1 c42
      refine z_iconst hC ic_0 dX12_given_59 ?_
      refine z_istore (i := 4) (lv' := [some (.ref v0), some (.int v1), some (.int v2), some (.int v3), some (.int 0), none, none]) hC dX12_given_60 (by decide) (hok_v rfl rfl) rfl ?_
      refine z_mask (lv' := [some (.ref v0), some (.int v1), some (.int v2), some (.int v3), some (.int 0), none, none]) [true, true, true, true, true, false, false] rfl ?_
      obtain ⟨n62, hw⟩ := hw
      exact t_X12_given_b62 hC hr hlk hnm n62 hw
    · have hw := hw.2 c42
      refine z_aload_n hC dX12_given_45 rfl rfl ?_
      refine z_getP hC FX12 47 lk_1402 dX12_given_46 (by decide) hw (fun x46 hw => ?_)
      refine z_iload hC dX12_given_49 rfl ?_
      refine z_iconst hC ic_0 dX12_given_51 ?_
      refine z_astI hC dX12_given_52 hw (fun S hw => ?_)
      refine z_inc (i := 4) hC ic_1 dX12_given_53 rfl (by decide) (hok_v rfl rfl) (fun y53 e53 => ?_)
      have hw := hw y53 e53
      refine z_goto (tgt := 38) hC dX12_given_56 (by decide) ?_
      refine z_mask (lv' := [some (.ref v0), some (.int v1), some (.int v2), some (.int v3), some (.int y53), none, none]) [true, true, true, true, true, false, false] rfl ?_
      exact ih hw
def w_X12_given (q : Int32 → hS → Prop) (S : hS) (v0 : Nat) (v1 : Int32) (v2 : Int32) (v3 : Int32) : Prop := pI S v0 12 0 0 (fun S => oK S v0 12 ∧ w_X12_isHouse (fun x7 S => (x7 = 0 → q (-1) S) ∧ (¬ x7 = 0 → w_X12_in (fun x19 S => (x19 = 0 → q (-1) S) ∧ (¬ x19 = 0 → oK S v0 12 ∧ w_X12_isPerson (fun x27 S => (¬ x27 = 0 → (∃ n38 : Nat, w_X12_given_b38 q n38 S v0 v1 v2 v3 0)) ∧ (x27 = 0 → q (-1) S)) S v0 v3)) S (Int32.toInt64 v2) 0 99)) S v0 v1)
set_option maxRecDepth 100000 in
set_option maxHeartbeats 4000000 in
theorem c_X12_given (l : Launch) (G : hG) (B : Nat) (S : hS) (v0 : Nat) (v1 : Int32) (v2 : Int32) (v3 : Int32) (q : Int32 → hS → Prop) : Met l yX12_given (hws yX12_given cX12_given 7 (Option.some FieldType.int)) ({ frames := 3, cells := 0, slots := 0, locals := 106 }) (hPc G B S [.ref v0, .int v1, .int v2, .int v3] (w_X12_given q S v0 v1 v2 v3)) (hQ G B (iP q)) (0) (0) (fun r => B ≤ r) := by
  refine hMet (rm := { frames := 3, cells := 0, slots := 0, locals := 106 }) (lv := [some (.ref v0), some (.int v1), some (.int v2), some (.int v3), none, none, none]) (own := RX12) (fr := 3) (lo := 106) (by decide) rfl rfl rfl (Nat.le_of_ble_eq_true rfl) rfl (fun hw p e R s m args below meth c hC hr hlk hnm => ?_)
  unfold w_X12_given at hw
  refine z_aload_n hC dX12_given_0 rfl rfl ?_
  refine z_iconst hC ic_0 dX12_given_1 ?_
  refine z_putI hC FX12 0 lk_1355 dX12_given_2 (by decide) rfl rfl hw (fun S hw => ?_)
  refine z_aload_n hC dX12_given_5 rfl rfl ?_
  refine z_iload_n hC dX12_given_6 rfl rfl ?_
  refine z_callV (ku' := 0) (kv' := 0) (n := 1) (As := [.int v1]) (st := []) hC (c_X12_isHouse l G B S v0 v1 _) hw.2 hw.1 rfl lk_1580 lk_1582 lk_44 lk_133 lk_1583 hd_X12_isHouse rfl rfl (Nat.le_of_ble_eq_true rfl) (Nat.le_of_ble_eq_true rfl) rfl (Nat.le_of_ble_eq_true rfl) dX12_given_7 (Nat.le_refl 0) (Nat.le_refl 0) (kI (fun x7 S hw => ?_))
  refine z_if_eq (tgt := 33) hC dX12_given_10 (by decide) (fun c10 => ?_) (fun c10 => ?_)
  · have hw := hw.1 c10
    refine z_iconst hC ic_m1 dX12_given_33 ?_
    exact z_iret hC hr hlk dX12_given_34 ⟨_, rfl, hw⟩
  · have hw := hw.2 c10
    refine z_iload_n hC dX12_given_13 rfl rfl ?_
    refine z_i2l hC rfl dX12_given_14 ?_
    refine z_lconst hC lc_0 dX12_given_15 ?_
    refine z_ldc2 hC lk_1575 dX12_given_16 ?_
    refine z_callS (ku' := 0) (kv' := 0) (n := 3) (As := [.long (Int32.toInt64 v2), .long 0, .long 99]) (st := []) hC (c_X12_in l G B S (Int32.toInt64 v2) 0 99 _) hw lk_1556 lk_1557 lk_133 lk_1558 hd_X12_in rfl rfl (Nat.le_of_ble_eq_true rfl) (Nat.le_of_ble_eq_true rfl) rfl (Nat.le_of_ble_eq_true rfl) dX12_given_19 (Nat.le_refl 0) (Nat.le_refl 0) (kI (fun x19 S hw => ?_))
    refine z_if_eq (tgt := 33) hC dX12_given_22 (by decide) (fun c22 => ?_) (fun c22 => ?_)
    · have hw := hw.1 c22
      refine z_iconst hC ic_m1 dX12_given_33 ?_
      exact z_iret hC hr hlk dX12_given_34 ⟨_, rfl, hw⟩
    · have hw := hw.2 c22
      refine z_aload_n hC dX12_given_25 rfl rfl ?_
      refine z_iload_n hC dX12_given_26 rfl rfl ?_
      refine z_callV (ku' := 0) (kv' := 0) (n := 1) (As := [.int v3]) (st := []) hC (c_X12_isPerson l G B S v0 v3 _) hw.2 hw.1 rfl lk_1614 lk_1616 lk_52 lk_133 lk_1617 hd_X12_isPerson rfl rfl (Nat.le_of_ble_eq_true rfl) (Nat.le_of_ble_eq_true rfl) rfl (Nat.le_of_ble_eq_true rfl) dX12_given_27 (Nat.le_refl 0) (Nat.le_refl 0) (kI (fun x27 S hw => ?_))
      refine z_if_ne (tgt := 35) hC dX12_given_30 (by decide) (fun c30 => ?_) (fun c30 => ?_)
      · have hw := hw.1 c30
        refine z_iconst hC ic_0 dX12_given_35 ?_
        refine z_istore (i := 4) (lv' := [some (.ref v0), some (.int v1), some (.int v2), some (.int v3), some (.int 0), none, none]) hC dX12_given_36 (by decide) (hok_v rfl rfl) rfl ?_
        refine z_mask (lv' := [some (.ref v0), some (.int v1), some (.int v2), some (.int v3), some (.int 0), none, none]) [true, true, true, true, true, false, false] rfl ?_
        obtain ⟨n38, hw⟩ := hw
        exact t_X12_given_b38 hC hr hlk hnm n38 hw
      · have hw := hw.2 c30
        refine z_iconst hC ic_m1 dX12_given_33 ?_
        exact z_iret hC hr hlk dX12_given_34 ⟨_, rfl, hw⟩
end
section
variable {p : Program} {l : Launch} {e : Env} {R : Room} {s : State} {m : MethodId} {args : Array Value} {below : List Frame} {meth : Method} {c : Code} {G : hG} {B mc ms : Nat}
def w_X12_worthOfAll_b14 (q : Int32 → hS → Prop) : Nat → hS → (Int32) → (Int32) → (Int32) → (Int32) → Prop
  | 0, _, _, _, _, _ => False
  | n + 1, S, v3, v4, v5, v6 => (v3 ≤ v6 → q v4 S) ∧ (¬ v3 ≤ v6 → (v5 ≤ v6 → q v4 S) ∧ (¬ v5 ≤ v6 → ∀ y35 : Int32, y35 = (v4 + (v5 - v6)) → ∀ y37 : Int32, y37 = v6 + 1 → w_X12_worthOfAll_b14 q n S v3 y35 v5 y37))
set_option maxRecDepth 100000 in
set_option maxHeartbeats 4000000 in
theorem t_X12_worthOfAll_b14 (hC : zC p R s m args c cX12_worthOfAll 7 RX12 G B mc ms 8 227) (hr : meth.sig.returnType = (Option.some FieldType.int)) (hlk : meth.locks = false) (hnm : meth.name = "worthOfAll") {q : Int32 → hS → Prop} (n : Nat) : ∀ {S : hS} {v3 : Int32} {v4 : Int32} {v5 : Int32} {v6 : Int32} (hw : w_X12_worthOfAll_b14 q n S v3 v4 v5 v6), Z p l e R s m args below meth c (MQ below (hQ G B (iP q)) args s mc ms (fun r => B ≤ r)) G B mc ms 7 S 0 0 14 [none, none, none, some (.int v3), some (.int v4), some (.int v5), some (.int v6)] [] := by
  induction n with
  | zero => intro S v3 v4 v5 v6 hw; exact (by rw [w_X12_worthOfAll_b14] at hw; exact hw.elim)
  | succ n ih =>
    intro S v3 v4 v5 v6 hw
    rw [w_X12_worthOfAll_b14] at hw
    refine z_iload hC dX12_worthOfAll_14 rfl ?_
    refine z_iload_n hC dX12_worthOfAll_16 rfl rfl ?_
    refine z_icmp_ge (tgt := 43) hC dX12_worthOfAll_17 (by decide) (fun c17 => ?_) (fun c17 => ?_)
    · have hw := hw.1 c17
      refine z_iload hC dX12_worthOfAll_43 rfl ?_
      exact z_iret hC hr hlk dX12_worthOfAll_45 ⟨_, rfl, hw⟩
    · have hw := hw.2 c17
      refine z_iload hC dX12_worthOfAll_20 rfl ?_
      refine z_iload hC dX12_worthOfAll_22 rfl ?_
      refine z_icmp_le (tgt := 43) hC dX12_worthOfAll_24 (by decide) (fun c24 => ?_) (fun c24 => ?_)
      · have hw := hw.1 c24
        refine z_iload hC dX12_worthOfAll_43 rfl ?_
        exact z_iret hC hr hlk dX12_worthOfAll_45 ⟨_, rfl, hw⟩
      · have hw := hw.2 c24
        refine z_iload hC dX12_worthOfAll_27 rfl ?_
        refine z_iload hC dX12_worthOfAll_29 rfl ?_
        refine z_iload hC dX12_worthOfAll_31 rfl ?_
        refine z_isub hC dX12_worthOfAll_33 ?_
        refine z_iadd hC dX12_worthOfAll_34 ?_
        refine z_nmI (fun y35 e35 => ?_)
        have hw := hw y35 e35
        refine z_istore (i := 4) (lv' := [none, none, none, some (.int v3), some (.int y35), some (.int v5), some (.int v6)]) hC dX12_worthOfAll_35 (by decide) (hok_v rfl rfl) rfl ?_
        refine z_inc (i := 6) hC ic_1 dX12_worthOfAll_37 rfl (by decide) (hok_v rfl rfl) (fun y37 e37 => ?_)
        have hw := hw y37 e37
        refine z_goto (tgt := 14) hC dX12_worthOfAll_40 (by decide) ?_
        refine z_mask (lv' := [none, none, none, some (.int v3), some (.int y35), some (.int v5), some (.int y37)]) [false, false, false, true, true, true, true] rfl ?_
        exact ih hw
def w_X12_worthOfAll (q : Int32 → hS → Prop) (S : hS) (v0 : Nat) (v1 : Int32) (v2 : Int32) (v3 : Int32) : Prop := oK S v0 12 ∧ w_X12_worthOf (fun x6 S => (∃ n14 : Nat, w_X12_worthOfAll_b14 q n14 S v3 0 x6 0)) S v0 v1 v2
set_option maxRecDepth 100000 in
set_option maxHeartbeats 4000000 in
theorem c_X12_worthOfAll (l : Launch) (G : hG) (B : Nat) (S : hS) (v0 : Nat) (v1 : Int32) (v2 : Int32) (v3 : Int32) (q : Int32 → hS → Prop) : Met l yX12_worthOfAll (hws yX12_worthOfAll cX12_worthOfAll 7 (Option.some FieldType.int)) ({ frames := 8, cells := 0, slots := 0, locals := 227 }) (hPc G B S [.ref v0, .int v1, .int v2, .int v3] (w_X12_worthOfAll q S v0 v1 v2 v3)) (hQ G B (iP q)) (0) (0) (fun r => B ≤ r) := by
  refine hMet (rm := { frames := 8, cells := 0, slots := 0, locals := 227 }) (lv := [some (.ref v0), some (.int v1), some (.int v2), some (.int v3), none, none, none]) (own := RX12) (fr := 8) (lo := 227) (by decide) rfl rfl rfl (Nat.le_of_ble_eq_true rfl) rfl (fun hw p e R s m args below meth c hC hr hlk hnm => ?_)
  unfold w_X12_worthOfAll at hw
  refine z_iconst hC ic_0 dX12_worthOfAll_0 ?_
  refine z_istore (i := 4) (lv' := [some (.ref v0), some (.int v1), some (.int v2), some (.int v3), some (.int 0), none, none]) hC dX12_worthOfAll_1 (by decide) (hok_v rfl rfl) rfl ?_
  refine z_aload_n hC dX12_worthOfAll_3 rfl rfl ?_
  refine z_iload_n hC dX12_worthOfAll_4 rfl rfl ?_
  refine z_iload_n hC dX12_worthOfAll_5 rfl rfl ?_
  refine z_callV (ku' := 0) (kv' := 0) (n := 2) (As := [.int v1, .int v2]) (st := []) hC (c_X12_worthOf l G B S v0 v1 v2 _) hw.2 hw.1 rfl lk_1592 lk_1594 lk_47 lk_133 lk_1595 hd_X12_worthOf rfl rfl (Nat.le_of_ble_eq_true rfl) (Nat.le_of_ble_eq_true rfl) rfl (Nat.le_of_ble_eq_true rfl) dX12_worthOfAll_6 (Nat.le_refl 0) (Nat.le_refl 0) (kI (fun x6 S hw => ?_))
  refine z_istore (i := 5) (lv' := [some (.ref v0), some (.int v1), some (.int v2), some (.int v3), some (.int 0), some (.int x6), none]) hC dX12_worthOfAll_9 (by decide) (hok_v rfl rfl) rfl ?_
  refine z_iconst hC ic_0 dX12_worthOfAll_11 ?_
  refine z_istore (i := 6) (lv' := [some (.ref v0), some (.int v1), some (.int v2), some (.int v3), some (.int 0), some (.int x6), some (.int 0)]) hC dX12_worthOfAll_12 (by decide) (hok_v rfl rfl) rfl ?_
  refine z_mask (lv' := [none, none, none, some (.int v3), some (.int 0), some (.int x6), some (.int 0)]) [false, false, false, true, true, true, true] rfl ?_
  obtain ⟨n14, hw⟩ := hw
  exact t_X12_worthOfAll_b14 hC hr hlk hnm n14 hw
end
section
variable {p : Program} {l : Launch} {e : Env} {R : Room} {s : State} {m : MethodId} {args : Array Value} {below : List Frame} {meth : Method} {c : Code} {G : hG} {B mc ms : Nat}
def w_X12_keptBy (q : Int32 → hS → Prop) (S : hS) (v0 : Nat) (v1 : Int32) (v2 : Int32) (v3 : Int32) (v4 : Int32) : Prop := oK S v0 12 ∧ w_X12_yearNow (fun x3 S => oK S v0 12 ∧ w_X12_worthOfAll (fun x10 S => gP S v0 12 48 (fun x14 => aI S x14 ((((21 * v2) + 21) + v3) - v4) (fun x29 => q (x10 + x29) S))) S v0 v1 (x3 + v2) v4) S v0
set_option maxRecDepth 100000 in
set_option maxHeartbeats 4000000 in
theorem c_X12_keptBy (l : Launch) (G : hG) (B : Nat) (S : hS) (v0 : Nat) (v1 : Int32) (v2 : Int32) (v3 : Int32) (v4 : Int32) (q : Int32 → hS → Prop) : Met l yX12_keptBy (hws yX12_keptBy cX12_keptBy 5 (Option.some FieldType.int)) ({ frames := 9, cells := 0, slots := 0, locals := 253 }) (hPc G B S [.ref v0, .int v1, .int v2, .int v3, .int v4] (w_X12_keptBy q S v0 v1 v2 v3 v4)) (hQ G B (iP q)) (0) (0) (fun r => B ≤ r) := by
  refine hMet (rm := { frames := 9, cells := 0, slots := 0, locals := 253 }) (lv := [some (.ref v0), some (.int v1), some (.int v2), some (.int v3), some (.int v4)]) (own := RX12) (fr := 9) (lo := 253) (by decide) rfl rfl rfl (Nat.le_of_ble_eq_true rfl) rfl (fun hw p e R s m args below meth c hC hr hlk hnm => ?_)
  unfold w_X12_keptBy at hw
  refine z_aload_n hC dX12_keptBy_0 rfl rfl ?_
  refine z_iload_n hC dX12_keptBy_1 rfl rfl ?_
  refine z_aload_n hC dX12_keptBy_2 rfl rfl ?_
  refine z_callV (ku' := 0) (kv' := 0) (n := 0) (As := []) (st := [.int v1, .ref v0]) hC (c_X12_yearNow l G B S v0 _) hw.2 hw.1 rfl lk_1680 lk_1682 lk_60 lk_133 lk_1683 hd_X12_yearNow rfl rfl (Nat.le_of_ble_eq_true rfl) (Nat.le_of_ble_eq_true rfl) rfl (Nat.le_of_ble_eq_true rfl) dX12_keptBy_3 (Nat.le_refl 0) (Nat.le_refl 0) (kI (fun x3 S hw => ?_))
  refine z_iload_n hC dX12_keptBy_6 rfl rfl ?_
  refine z_iadd hC dX12_keptBy_7 ?_
  refine z_iload hC dX12_keptBy_8 rfl ?_
  refine z_callV (ku' := 0) (kv' := 0) (n := 3) (As := [.int v1, .int (x3 + v2), .int v4]) (st := []) hC (c_X12_worthOfAll l G B S v0 v1 (x3 + v2) v4 _) hw.2 hw.1 rfl lk_2000 lk_2002 lk_110 lk_133 lk_2003 hd_X12_worthOfAll rfl rfl (Nat.le_of_ble_eq_true rfl) (Nat.le_of_ble_eq_true rfl) rfl (Nat.le_of_ble_eq_true rfl) dX12_keptBy_10 (Nat.le_refl 0) (Nat.le_refl 0) (kI (fun x10 S hw => ?_))
  refine z_aload_n hC dX12_keptBy_13 rfl rfl ?_
  refine z_getP hC FX12 48 lk_1403 dX12_keptBy_14 (by decide) hw (fun x14 hw => ?_)
  refine z_bipush hC bi_21 dX12_keptBy_17 ?_
  refine z_iload_n hC dX12_keptBy_19 rfl rfl ?_
  refine z_imul hC dX12_keptBy_20 ?_
  refine z_bipush hC bi_21 dX12_keptBy_21 ?_
  refine z_iadd hC dX12_keptBy_23 ?_
  refine z_iload_n hC dX12_keptBy_24 rfl rfl ?_
  refine z_iadd hC dX12_keptBy_25 ?_
  refine z_iload hC dX12_keptBy_26 rfl ?_
  refine z_isub hC dX12_keptBy_28 ?_
  refine z_aldI hC dX12_keptBy_29 hw (fun x29 hw => ?_)
  refine z_iadd hC dX12_keptBy_30 ?_
  exact z_iret hC hr hlk dX12_keptBy_31 ⟨_, rfl, hw⟩
end
section
variable {p : Program} {l : Launch} {e : Env} {R : Room} {s : State} {m : MethodId} {args : Array Value} {below : List Frame} {meth : Method} {c : Code} {G : hG} {B mc ms : Nat}
def w_X12_keep_b143 (q : Int32 → hS → Prop) (K89 : hS → (Nat) → (Int32) → (Int32) → (Int32) → (Int32) → Prop) (K97 : hS → (Nat) → (Int32) → (Int32) → (Int32) → (Int32) → (Int32) → Prop) (K109 : hS → (Nat) → (Int32) → (Int32) → (Int32) → (Int32) → (Int32) → (Int32) → (Int32) → Prop) (S : hS) (v0 : Nat) (v1 : Int32) (v2 : Int32) (v4 : Int32) (v5 : Int32) (v6 : Int32) (v8 : Int32) (t0 : Int32) : Prop := ∀ y145 : Int32, y145 = v8 + 1 → K109 S v0 v1 v2 v4 v5 v6 t0 y145
set_option maxRecDepth 100000 in
set_option maxHeartbeats 4000000 in
theorem t_X12_keep_b143 (hC : zC p R s m args c cX12_keep 10 RX12 G B mc ms 10 277) (hr : meth.sig.returnType = (Option.some FieldType.int)) (hlk : meth.locks = false) (hnm : meth.name = "keep") {q : Int32 → hS → Prop} {K89 : hS → (Nat) → (Int32) → (Int32) → (Int32) → (Int32) → Prop} (hK89 : ∀ {S : hS} {v0 : Nat} {v1 : Int32} {v2 : Int32} {v4 : Int32} {v5 : Int32}, K89 S v0 v1 v2 v4 v5 → Z p l e R s m args below meth c (MQ below (hQ G B (iP q)) args s mc ms (fun r => B ≤ r)) G B mc ms 10 S 0 0 89 [some (.ref v0), some (.int v1), some (.int v2), none, some (.int v4), some (.int v5), none, none, none, none] []) {K97 : hS → (Nat) → (Int32) → (Int32) → (Int32) → (Int32) → (Int32) → Prop} (hK97 : ∀ {S : hS} {v0 : Nat} {v1 : Int32} {v2 : Int32} {v4 : Int32} {v5 : Int32} {v6 : Int32}, K97 S v0 v1 v2 v4 v5 v6 → Z p l e R s m args below meth c (MQ below (hQ G B (iP q)) args s mc ms (fun r => B ≤ r)) G B mc ms 10 S 0 0 97 [some (.ref v0), some (.int v1), some (.int v2), none, some (.int v4), some (.int v5), some (.int v6), none, none, none] []) {K109 : hS → (Nat) → (Int32) → (Int32) → (Int32) → (Int32) → (Int32) → (Int32) → (Int32) → Prop} (hK109 : ∀ {S : hS} {v0 : Nat} {v1 : Int32} {v2 : Int32} {v4 : Int32} {v5 : Int32} {v6 : Int32} {v7 : Int32} {v8 : Int32}, K109 S v0 v1 v2 v4 v5 v6 v7 v8 → Z p l e R s m args below meth c (MQ below (hQ G B (iP q)) args s mc ms (fun r => B ≤ r)) G B mc ms 10 S 0 0 109 [some (.ref v0), some (.int v1), some (.int v2), none, some (.int v4), some (.int v5), some (.int v6), some (.int v7), some (.int v8), none] []) {S : hS} {v0 : Nat} {v1 : Int32} {v2 : Int32} {v4 : Int32} {v5 : Int32} {v6 : Int32} {v8 : Int32} {t0 : Int32} (hw : w_X12_keep_b143 q K89 K97 K109 S v0 v1 v2 v4 v5 v6 v8 t0) : Z p l e R s m args below meth c (MQ below (hQ G B (iP q)) args s mc ms (fun r => B ≤ r)) G B mc ms 10 S 0 0 143 [some (.ref v0), some (.int v1), some (.int v2), none, some (.int v4), some (.int v5), some (.int v6), none, some (.int v8), none] [.int t0] := by
  unfold w_X12_keep_b143 at hw
  refine z_istore (i := 7) (lv' := [some (.ref v0), some (.int v1), some (.int v2), none, some (.int v4), some (.int v5), some (.int v6), some (.int t0), some (.int v8), none]) hC dX12_keep_143 (by decide) (hok_v rfl rfl) rfl ?_
  refine z_inc (i := 8) hC ic_1 dX12_keep_145 rfl (by decide) (hok_v rfl rfl) (fun y145 e145 => ?_)
  have hw := hw y145 e145
  refine z_goto (tgt := 109) hC dX12_keep_148 (by decide) ?_
  refine z_mask (lv' := [some (.ref v0), some (.int v1), some (.int v2), none, some (.int v4), some (.int v5), some (.int v6), some (.int t0), some (.int y145), none]) [true, true, true, false, true, true, true, true, true, false] rfl ?_
  exact hK109 hw
def w_X12_keep_b109 (q : Int32 → hS → Prop) (K89 : hS → (Nat) → (Int32) → (Int32) → (Int32) → (Int32) → Prop) (K97 : hS → (Nat) → (Int32) → (Int32) → (Int32) → (Int32) → (Int32) → Prop) : Nat → hS → (Nat) → (Int32) → (Int32) → (Int32) → (Int32) → (Int32) → (Int32) → (Int32) → Prop
  | 0, _, _, _, _, _, _, _, _, _ => False
  | n + 1, S, v0, v1, v2, v4, v5, v6, v7, v8 => (v6 < v8 → gP S v0 12 48 (fun x152 => sI S x152 ((21 * v5) + v6) v7 (fun S => ∀ y166 : Int32, y166 = v6 + 1 → K97 S v0 v1 v2 v4 v5 y166))) ∧ (¬ v6 < v8 → oK S v0 12 ∧ w_X12_keptBy (fun x124 S => (x124 ≤ v7 → w_X12_keep_b143 q K89 K97 (fun S v0 v1 v2 v4 v5 v6 v7 v8 => w_X12_keep_b109 q K89 K97 n S v0 v1 v2 v4 v5 v6 v7 v8) S v0 v1 v2 v4 v5 v6 v8 v7) ∧ (¬ x124 ≤ v7 → w_X12_keep_b143 q K89 K97 (fun S v0 v1 v2 v4 v5 v6 v7 v8 => w_X12_keep_b109 q K89 K97 n S v0 v1 v2 v4 v5 v6 v7 v8) S v0 v1 v2 v4 v5 v6 v8 x124)) S v0 v1 v5 v6 v8)
set_option maxRecDepth 100000 in
set_option maxHeartbeats 4000000 in
theorem t_X12_keep_b109 (hC : zC p R s m args c cX12_keep 10 RX12 G B mc ms 10 277) (hr : meth.sig.returnType = (Option.some FieldType.int)) (hlk : meth.locks = false) (hnm : meth.name = "keep") {q : Int32 → hS → Prop} {K89 : hS → (Nat) → (Int32) → (Int32) → (Int32) → (Int32) → Prop} (hK89 : ∀ {S : hS} {v0 : Nat} {v1 : Int32} {v2 : Int32} {v4 : Int32} {v5 : Int32}, K89 S v0 v1 v2 v4 v5 → Z p l e R s m args below meth c (MQ below (hQ G B (iP q)) args s mc ms (fun r => B ≤ r)) G B mc ms 10 S 0 0 89 [some (.ref v0), some (.int v1), some (.int v2), none, some (.int v4), some (.int v5), none, none, none, none] []) {K97 : hS → (Nat) → (Int32) → (Int32) → (Int32) → (Int32) → (Int32) → Prop} (hK97 : ∀ {S : hS} {v0 : Nat} {v1 : Int32} {v2 : Int32} {v4 : Int32} {v5 : Int32} {v6 : Int32}, K97 S v0 v1 v2 v4 v5 v6 → Z p l e R s m args below meth c (MQ below (hQ G B (iP q)) args s mc ms (fun r => B ≤ r)) G B mc ms 10 S 0 0 97 [some (.ref v0), some (.int v1), some (.int v2), none, some (.int v4), some (.int v5), some (.int v6), none, none, none] []) (n : Nat) : ∀ {S : hS} {v0 : Nat} {v1 : Int32} {v2 : Int32} {v4 : Int32} {v5 : Int32} {v6 : Int32} {v7 : Int32} {v8 : Int32} (hw : w_X12_keep_b109 q K89 K97 n S v0 v1 v2 v4 v5 v6 v7 v8), Z p l e R s m args below meth c (MQ below (hQ G B (iP q)) args s mc ms (fun r => B ≤ r)) G B mc ms 10 S 0 0 109 [some (.ref v0), some (.int v1), some (.int v2), none, some (.int v4), some (.int v5), some (.int v6), some (.int v7), some (.int v8), none] [] := by
  induction n with
  | zero => intro S v0 v1 v2 v4 v5 v6 v7 v8 hw; exact (by rw [w_X12_keep_b109] at hw; exact hw.elim)
  | succ n ih =>
    intro S v0 v1 v2 v4 v5 v6 v7 v8 hw
    rw [w_X12_keep_b109] at hw
    refine z_iload hC dX12_keep_109 rfl ?_
    refine z_iload hC dX12_keep_111 rfl ?_
    refine z_icmp_gt (tgt := 151) hC dX12_keep_113 (by decide) (fun c113 => ?_) (fun c113 => ?_)
    · have hw := hw.1 c113
      refine z_aload_n hC dX12_keep_151 rfl rfl ?_
      refine z_getP hC FX12 48 lk_1403 dX12_keep_152 (by decide) hw (fun x152 hw => ?_)
      refine z_bipush hC bi_21 dX12_keep_155 ?_
      refine z_iload hC dX12_keep_157 rfl ?_
      refine z_imul hC dX12_keep_159 ?_
      refine z_iload hC dX12_keep_160 rfl ?_
      refine z_iadd hC dX12_keep_162 ?_
      refine z_iload hC dX12_keep_163 rfl ?_
      refine z_astI hC dX12_keep_165 hw (fun S hw => ?_)
      refine z_inc (i := 6) hC ic_1 dX12_keep_166 rfl (by decide) (hok_v rfl rfl) (fun y166 e166 => ?_)
      have hw := hw y166 e166
      refine z_goto (tgt := 97) hC dX12_keep_169 (by decide) ?_
      refine z_mask (lv' := [some (.ref v0), some (.int v1), some (.int v2), none, some (.int v4), some (.int v5), some (.int y166), none, none, none]) [true, true, true, false, true, true, true, false, false, false] rfl ?_
      exact hK97 hw
    · have hw := hw.2 c113
      refine z_aload_n hC dX12_keep_116 rfl rfl ?_
      refine z_iload_n hC dX12_keep_117 rfl rfl ?_
      refine z_iload hC dX12_keep_118 rfl ?_
      refine z_iload hC dX12_keep_120 rfl ?_
      refine z_iload hC dX12_keep_122 rfl ?_
      refine z_callV (ku' := 0) (kv' := 0) (n := 4) (As := [.int v1, .int v5, .int v6, .int v8]) (st := []) hC (c_X12_keptBy l G B S v0 v1 v5 v6 v8 _) hw.2 hw.1 rfl lk_1996 lk_1998 lk_109 lk_133 lk_1999 hd_X12_keptBy rfl rfl (Nat.le_of_ble_eq_true rfl) (Nat.le_of_ble_eq_true rfl) rfl (Nat.le_of_ble_eq_true rfl) dX12_keep_124 (Nat.le_refl 0) (Nat.le_refl 0) (kI (fun x124 S hw => ?_))
      refine z_istore (i := 9) (lv' := [some (.ref v0), some (.int v1), some (.int v2), none, some (.int v4), some (.int v5), some (.int v6), some (.int v7), some (.int v8), some (.int x124)]) hC dX12_keep_127 (by decide) (hok_v rfl rfl) rfl ?_
      refine z_iload hC dX12_keep_129 rfl ?_
      refine z_iload hC dX12_keep_131 rfl ?_
      refine z_icmp_le (tgt := 141) hC dX12_keep_133 (by decide) (fun c133 => ?_) (fun c133 => ?_)
      · have hw := hw.1 c133
        refine z_iload hC dX12_keep_141 rfl ?_
        refine z_mask (lv' := [some (.ref v0), some (.int v1), some (.int v2), none, some (.int v4), some (.int v5), some (.int v6), none, some (.int v8), none]) [true, true, true, false, true, true, true, false, true, false] rfl ?_
        exact t_X12_keep_b143 hC hr hlk hnm hK89 hK97 (fun hw => ih hw) hw
      · have hw := hw.2 c133
        refine z_iload hC dX12_keep_136 rfl ?_
        refine z_goto (tgt := 143) hC dX12_keep_138 (by decide) ?_
        refine z_mask (lv' := [some (.ref v0), some (.int v1), some (.int v2), none, some (.int v4), some (.int v5), some (.int v6), none, some (.int v8), none]) [true, true, true, false, true, true, true, false, true, false] rfl ?_
        exact t_X12_keep_b143 hC hr hlk hnm hK89 hK97 (fun hw => ih hw) hw
def w_X12_keep_b97 (q : Int32 → hS → Prop) (K89 : hS → (Nat) → (Int32) → (Int32) → (Int32) → (Int32) → Prop) : Nat → hS → (Nat) → (Int32) → (Int32) → (Int32) → (Int32) → (Int32) → Prop
  | 0, _, _, _, _, _, _, _ => False
  | n + 1, S, v0, v1, v2, v4, v5, v6 => (v2 < v6 → ∀ y172 : Int32, y172 = v5 + (-1) → K89 S v0 v1 v2 v4 y172) ∧ (¬ v2 < v6 → (∃ n109 : Nat, w_X12_keep_b109 q K89 (fun S v0 v1 v2 v4 v5 v6 => w_X12_keep_b97 q K89 n S v0 v1 v2 v4 v5 v6) n109 S v0 v1 v2 v4 v5 v6 0 0))
set_option maxRecDepth 100000 in
set_option maxHeartbeats 4000000 in
theorem t_X12_keep_b97 (hC : zC p R s m args c cX12_keep 10 RX12 G B mc ms 10 277) (hr : meth.sig.returnType = (Option.some FieldType.int)) (hlk : meth.locks = false) (hnm : meth.name = "keep") {q : Int32 → hS → Prop} {K89 : hS → (Nat) → (Int32) → (Int32) → (Int32) → (Int32) → Prop} (hK89 : ∀ {S : hS} {v0 : Nat} {v1 : Int32} {v2 : Int32} {v4 : Int32} {v5 : Int32}, K89 S v0 v1 v2 v4 v5 → Z p l e R s m args below meth c (MQ below (hQ G B (iP q)) args s mc ms (fun r => B ≤ r)) G B mc ms 10 S 0 0 89 [some (.ref v0), some (.int v1), some (.int v2), none, some (.int v4), some (.int v5), none, none, none, none] []) (n : Nat) : ∀ {S : hS} {v0 : Nat} {v1 : Int32} {v2 : Int32} {v4 : Int32} {v5 : Int32} {v6 : Int32} (hw : w_X12_keep_b97 q K89 n S v0 v1 v2 v4 v5 v6), Z p l e R s m args below meth c (MQ below (hQ G B (iP q)) args s mc ms (fun r => B ≤ r)) G B mc ms 10 S 0 0 97 [some (.ref v0), some (.int v1), some (.int v2), none, some (.int v4), some (.int v5), some (.int v6), none, none, none] [] := by
  induction n with
  | zero => intro S v0 v1 v2 v4 v5 v6 hw; exact (by rw [w_X12_keep_b97] at hw; exact hw.elim)
  | succ n ih =>
    intro S v0 v1 v2 v4 v5 v6 hw
    rw [w_X12_keep_b97] at hw
    refine z_iload hC dX12_keep_97 rfl ?_
    refine z_iload_n hC dX12_keep_99 rfl rfl ?_
    refine z_icmp_gt (tgt := 172) hC dX12_keep_100 (by decide) (fun c100 => ?_) (fun c100 => ?_)
    · have hw := hw.1 c100
      refine z_inc (i := 5) hC ic_m1 dX12_keep_172 rfl (by decide) (hok_v rfl rfl) (fun y172 e172 => ?_)
      have hw := hw y172 e172
      refine z_goto (tgt := 89) hC dX12_keep_175 (by decide) ?_
      refine z_mask (lv' := [some (.ref v0), some (.int v1), some (.int v2), none, some (.int v4), some (.int y172), none, none, none, none]) [true, true, true, false, true, true, false, false, false, false] rfl ?_
      exact hK89 hw
    · have hw := hw.2 c100
      refine z_iconst hC ic_0 dX12_keep_103 ?_
      refine z_istore (i := 7) (lv' := [some (.ref v0), some (.int v1), some (.int v2), none, some (.int v4), some (.int v5), some (.int v6), some (.int 0), none, none]) hC dX12_keep_104 (by decide) (hok_v rfl rfl) rfl ?_
      refine z_iconst hC ic_0 dX12_keep_106 ?_
      refine z_istore (i := 8) (lv' := [some (.ref v0), some (.int v1), some (.int v2), none, some (.int v4), some (.int v5), some (.int v6), some (.int 0), some (.int 0), none]) hC dX12_keep_107 (by decide) (hok_v rfl rfl) rfl ?_
      refine z_mask (lv' := [some (.ref v0), some (.int v1), some (.int v2), none, some (.int v4), some (.int v5), some (.int v6), some (.int 0), some (.int 0), none]) [true, true, true, false, true, true, true, true, true, false] rfl ?_
      obtain ⟨n109, hw⟩ := hw
      exact t_X12_keep_b109 hC hr hlk hnm hK89 (fun hw => ih hw) n109 hw
def w_X12_keep_b197 (q : Int32 → hS → Prop) (K187 : hS → (Nat) → (Int32) → (Int32) → (Int32) → (Int32) → (Int32) → (Int32) → Prop) : Nat → hS → (Nat) → (Int32) → (Int32) → (Int32) → (Int32) → (Int32) → (Int32) → Prop
  | 0, _, _, _, _, _, _, _, _ => False
  | n + 1, S, v0, v1, v2, v4, v5, v6, v7 => oK S v0 12 ∧ w_X12_keptBy (fun x205 S => gP S v0 12 48 (fun x209 => aI S x209 ((21 * v7) + v5) (fun x220 => (x205 = x220 → ∀ y235 : Int32, y235 = (v5 - v6) → ∀ y237 : Int32, y237 = v7 + 1 → K187 S v0 v1 v2 v4 y235 v6 y237) ∧ (¬ x205 = x220 → ∀ y224 : Int32, y224 = v6 + 1 → w_X12_keep_b197 q K187 n S v0 v1 v2 v4 v5 y224 v7)))) S v0 v1 v7 v5 v6
set_option maxRecDepth 100000 in
set_option maxHeartbeats 4000000 in
theorem t_X12_keep_b197 (hC : zC p R s m args c cX12_keep 10 RX12 G B mc ms 10 277) (hr : meth.sig.returnType = (Option.some FieldType.int)) (hlk : meth.locks = false) (hnm : meth.name = "keep") {q : Int32 → hS → Prop} {K187 : hS → (Nat) → (Int32) → (Int32) → (Int32) → (Int32) → (Int32) → (Int32) → Prop} (hK187 : ∀ {S : hS} {v0 : Nat} {v1 : Int32} {v2 : Int32} {v4 : Int32} {v5 : Int32} {v6 : Int32} {v7 : Int32}, K187 S v0 v1 v2 v4 v5 v6 v7 → Z p l e R s m args below meth c (MQ below (hQ G B (iP q)) args s mc ms (fun r => B ≤ r)) G B mc ms 10 S 0 0 187 [some (.ref v0), some (.int v1), some (.int v2), none, some (.int v4), some (.int v5), some (.int v6), some (.int v7), none, none] []) (n : Nat) : ∀ {S : hS} {v0 : Nat} {v1 : Int32} {v2 : Int32} {v4 : Int32} {v5 : Int32} {v6 : Int32} {v7 : Int32} (hw : w_X12_keep_b197 q K187 n S v0 v1 v2 v4 v5 v6 v7), Z p l e R s m args below meth c (MQ below (hQ G B (iP q)) args s mc ms (fun r => B ≤ r)) G B mc ms 10 S 0 0 197 [some (.ref v0), some (.int v1), some (.int v2), none, some (.int v4), some (.int v5), some (.int v6), some (.int v7), none, none] [] := by
  induction n with
  | zero => intro S v0 v1 v2 v4 v5 v6 v7 hw; exact (by rw [w_X12_keep_b197] at hw; exact hw.elim)
  | succ n ih =>
    intro S v0 v1 v2 v4 v5 v6 v7 hw
    rw [w_X12_keep_b197] at hw
    refine z_aload_n hC dX12_keep_197 rfl rfl ?_
    refine z_iload_n hC dX12_keep_198 rfl rfl ?_
    refine z_iload hC dX12_keep_199 rfl ?_
    refine z_iload hC dX12_keep_201 rfl ?_
    refine z_iload hC dX12_keep_203 rfl ?_
    refine z_callV (ku' := 0) (kv' := 0) (n := 4) (As := [.int v1, .int v7, .int v5, .int v6]) (st := []) hC (c_X12_keptBy l G B S v0 v1 v7 v5 v6 _) hw.2 hw.1 rfl lk_1996 lk_1998 lk_109 lk_133 lk_1999 hd_X12_keptBy rfl rfl (Nat.le_of_ble_eq_true rfl) (Nat.le_of_ble_eq_true rfl) rfl (Nat.le_of_ble_eq_true rfl) dX12_keep_205 (Nat.le_refl 0) (Nat.le_refl 0) (kI (fun x205 S hw => ?_))
    refine z_aload_n hC dX12_keep_208 rfl rfl ?_
    refine z_getP hC FX12 48 lk_1403 dX12_keep_209 (by decide) hw (fun x209 hw => ?_)
    refine z_bipush hC bi_21 dX12_keep_212 ?_
    refine z_iload hC dX12_keep_214 rfl ?_
    refine z_imul hC dX12_keep_216 ?_
    refine z_iload hC dX12_keep_217 rfl ?_
    refine z_iadd hC dX12_keep_219 ?_
    refine z_aldI hC dX12_keep_220 hw (fun x220 hw => ?_)
    refine z_icmp_eq (tgt := 230) hC dX12_keep_221 (by decide) (fun c221 => ?_) (fun c221 => ?_)
    · have hw := hw.1 c221
      refine z_iload hC dX12_keep_230 rfl ?_
      refine z_iload hC dX12_keep_232 rfl ?_
      refine z_isub hC dX12_keep_234 ?_
      refine z_nmI (fun y235 e235 => ?_)
      have hw := hw y235 e235
      refine z_istore (i := 5) (lv' := [some (.ref v0), some (.int v1), some (.int v2), none, some (.int v4), some (.int y235), some (.int v6), some (.int v7), none, none]) hC dX12_keep_235 (by decide) (hok_v rfl rfl) rfl ?_
      refine z_inc (i := 7) hC ic_1 dX12_keep_237 rfl (by decide) (hok_v rfl rfl) (fun y237 e237 => ?_)
      have hw := hw y237 e237
      refine z_goto (tgt := 187) hC dX12_keep_240 (by decide) ?_
      refine z_mask (lv' := [some (.ref v0), some (.int v1), some (.int v2), none, some (.int v4), some (.int y235), some (.int v6), some (.int y237), none, none]) [true, true, true, false, true, true, true, true, false, false] rfl ?_
      exact hK187 hw
    · have hw := hw.2 c221
      refine z_inc (i := 6) hC ic_1 dX12_keep_224 rfl (by decide) (hok_v rfl rfl) (fun y224 e224 => ?_)
      have hw := hw y224 e224
      refine z_goto (tgt := 197) hC dX12_keep_227 (by decide) ?_
      refine z_mask (lv' := [some (.ref v0), some (.int v1), some (.int v2), none, some (.int v4), some (.int v5), some (.int y224), some (.int v7), none, none]) [true, true, true, false, true, true, true, true, false, false] rfl ?_
      exact ih hw
def w_X12_keep_b187 (q : Int32 → hS → Prop) : Nat → hS → (Nat) → (Int32) → (Int32) → (Int32) → (Int32) → (Int32) → (Int32) → Prop
  | 0, _, _, _, _, _, _, _, _ => False
  | n + 1, S, v0, v1, v2, v4, v5, v6, v7 => (v4 < v7 → (¬ v4 = (-1) → q v6 S) ∧ (v4 = (-1) → gP S v0 12 48 (fun x250 => aI S x250 v2 (fun x254 => q x254 S)))) ∧ (¬ v4 < v7 → (∃ n197 : Nat, w_X12_keep_b197 q (fun S v0 v1 v2 v4 v5 v6 v7 => w_X12_keep_b187 q n S v0 v1 v2 v4 v5 v6 v7) n197 S v0 v1 v2 v4 v5 0 v7))
set_option maxRecDepth 100000 in
set_option maxHeartbeats 4000000 in
theorem t_X12_keep_b187 (hC : zC p R s m args c cX12_keep 10 RX12 G B mc ms 10 277) (hr : meth.sig.returnType = (Option.some FieldType.int)) (hlk : meth.locks = false) (hnm : meth.name = "keep") {q : Int32 → hS → Prop} (n : Nat) : ∀ {S : hS} {v0 : Nat} {v1 : Int32} {v2 : Int32} {v4 : Int32} {v5 : Int32} {v6 : Int32} {v7 : Int32} (hw : w_X12_keep_b187 q n S v0 v1 v2 v4 v5 v6 v7), Z p l e R s m args below meth c (MQ below (hQ G B (iP q)) args s mc ms (fun r => B ≤ r)) G B mc ms 10 S 0 0 187 [some (.ref v0), some (.int v1), some (.int v2), none, some (.int v4), some (.int v5), some (.int v6), some (.int v7), none, none] [] := by
  induction n with
  | zero => intro S v0 v1 v2 v4 v5 v6 v7 hw; exact (by rw [w_X12_keep_b187] at hw; exact hw.elim)
  | succ n ih =>
    intro S v0 v1 v2 v4 v5 v6 v7 hw
    rw [w_X12_keep_b187] at hw
    refine z_iload hC dX12_keep_187 rfl ?_
    refine z_iload hC dX12_keep_189 rfl ?_
    refine z_icmp_gt (tgt := 243) hC dX12_keep_191 (by decide) (fun c191 => ?_) (fun c191 => ?_)
    · have hw := hw.1 c191
      refine z_iload hC dX12_keep_243 rfl ?_
      refine z_iconst hC ic_m1 dX12_keep_245 ?_
      refine z_icmp_ne (tgt := 258) hC dX12_keep_246 (by decide) (fun c246 => ?_) (fun c246 => ?_)
      · have hw := hw.1 c246
        refine z_iload hC dX12_keep_258 rfl ?_
        exact z_iret hC hr hlk dX12_keep_260 ⟨_, rfl, hw⟩
      · have hw := hw.2 c246
        refine z_aload_n hC dX12_keep_249 rfl rfl ?_
        refine z_getP hC FX12 48 lk_1403 dX12_keep_250 (by decide) hw (fun x250 hw => ?_)
        refine z_iload_n hC dX12_keep_253 rfl rfl ?_
        refine z_aldI hC dX12_keep_254 hw (fun x254 hw => ?_)
        refine z_goto (tgt := 260) hC dX12_keep_255 (by decide) ?_
        exact z_iret hC hr hlk dX12_keep_260 ⟨_, rfl, hw⟩
    · have hw := hw.2 c191
      refine z_iconst hC ic_0 dX12_keep_194 ?_
      refine z_istore (i := 6) (lv' := [some (.ref v0), some (.int v1), some (.int v2), none, some (.int v4), some (.int v5), some (.int 0), some (.int v7), none, none]) hC dX12_keep_195 (by decide) (hok_v rfl rfl) rfl ?_
      refine z_mask (lv' := [some (.ref v0), some (.int v1), some (.int v2), none, some (.int v4), some (.int v5), some (.int 0), some (.int v7), none, none]) [true, true, true, false, true, true, true, true, false, false] rfl ?_
      obtain ⟨n197, hw⟩ := hw
      exact t_X12_keep_b197 hC hr hlk hnm (fun hw => ih hw) n197 hw
def w_X12_keep_b89 (q : Int32 → hS → Prop) : Nat → hS → (Nat) → (Int32) → (Int32) → (Int32) → (Int32) → Prop
  | 0, _, _, _, _, _, _ => False
  | n + 1, S, v0, v1, v2, v4, v5 => (v5 < 0 → (∃ n187 : Nat, w_X12_keep_b187 q n187 S v0 v1 v2 v4 v2 0 0)) ∧ (¬ v5 < 0 → (∃ n97 : Nat, w_X12_keep_b97 q (fun S v0 v1 v2 v4 v5 => w_X12_keep_b89 q n S v0 v1 v2 v4 v5) n97 S v0 v1 v2 v4 v5 0))
set_option maxRecDepth 100000 in
set_option maxHeartbeats 4000000 in
theorem t_X12_keep_b89 (hC : zC p R s m args c cX12_keep 10 RX12 G B mc ms 10 277) (hr : meth.sig.returnType = (Option.some FieldType.int)) (hlk : meth.locks = false) (hnm : meth.name = "keep") {q : Int32 → hS → Prop} (n : Nat) : ∀ {S : hS} {v0 : Nat} {v1 : Int32} {v2 : Int32} {v4 : Int32} {v5 : Int32} (hw : w_X12_keep_b89 q n S v0 v1 v2 v4 v5), Z p l e R s m args below meth c (MQ below (hQ G B (iP q)) args s mc ms (fun r => B ≤ r)) G B mc ms 10 S 0 0 89 [some (.ref v0), some (.int v1), some (.int v2), none, some (.int v4), some (.int v5), none, none, none, none] [] := by
  induction n with
  | zero => intro S v0 v1 v2 v4 v5 hw; exact (by rw [w_X12_keep_b89] at hw; exact hw.elim)
  | succ n ih =>
    intro S v0 v1 v2 v4 v5 hw
    rw [w_X12_keep_b89] at hw
    refine z_iload hC dX12_keep_89 rfl ?_
    refine z_if_lt (tgt := 178) hC dX12_keep_91 (by decide) (fun c91 => ?_) (fun c91 => ?_)
    · have hw := hw.1 c91
      refine z_iload_n hC dX12_keep_178 rfl rfl ?_
      refine z_istore (i := 5) (lv' := [some (.ref v0), some (.int v1), some (.int v2), none, some (.int v4), some (.int v2), none, none, none, none]) hC dX12_keep_179 (by decide) (hok_v rfl rfl) rfl ?_
      refine z_iconst hC ic_0 dX12_keep_181 ?_
      refine z_istore (i := 6) (lv' := [some (.ref v0), some (.int v1), some (.int v2), none, some (.int v4), some (.int v2), some (.int 0), none, none, none]) hC dX12_keep_182 (by decide) (hok_v rfl rfl) rfl ?_
      refine z_iconst hC ic_0 dX12_keep_184 ?_
      refine z_istore (i := 7) (lv' := [some (.ref v0), some (.int v1), some (.int v2), none, some (.int v4), some (.int v2), some (.int 0), some (.int 0), none, none]) hC dX12_keep_185 (by decide) (hok_v rfl rfl) rfl ?_
      refine z_mask (lv' := [some (.ref v0), some (.int v1), some (.int v2), none, some (.int v4), some (.int v2), some (.int 0), some (.int 0), none, none]) [true, true, true, false, true, true, true, true, false, false] rfl ?_
      obtain ⟨n187, hw⟩ := hw
      exact t_X12_keep_b187 hC hr hlk hnm n187 hw
    · have hw := hw.2 c91
      refine z_iconst hC ic_0 dX12_keep_94 ?_
      refine z_istore (i := 6) (lv' := [some (.ref v0), some (.int v1), some (.int v2), none, some (.int v4), some (.int v5), some (.int 0), none, none, none]) hC dX12_keep_95 (by decide) (hok_v rfl rfl) rfl ?_
      refine z_mask (lv' := [some (.ref v0), some (.int v1), some (.int v2), none, some (.int v4), some (.int v5), some (.int 0), none, none, none]) [true, true, true, false, true, true, true, false, false, false] rfl ?_
      obtain ⟨n97, hw⟩ := hw
      exact t_X12_keep_b97 hC hr hlk hnm (fun hw => ih hw) n97 hw
def w_X12_keep_b58 (q : Int32 → hS → Prop) : Nat → hS → (Nat) → (Int32) → (Int32) → (Int32) → (Int32) → (Int32) → Prop
  | 0, _, _, _, _, _, _, _ => False
  | n + 1, S, v0, v1, v2, v3, v4, v5 => (21 ≤ v5 → ∀ y87 : Int32, y87 = (v3 - 1) → (∃ n89 : Nat, w_X12_keep_b89 q n89 S v0 v1 v2 v4 y87)) ∧ (¬ 21 ≤ v5 → gP S v0 12 48 (fun x66 => sI S x66 ((21 * v3) + v5) 0 (fun S => ∀ y78 : Int32, y78 = v5 + 1 → w_X12_keep_b58 q n S v0 v1 v2 v3 v4 y78)))
set_option maxRecDepth 100000 in
set_option maxHeartbeats 4000000 in
theorem t_X12_keep_b58 (hC : zC p R s m args c cX12_keep 10 RX12 G B mc ms 10 277) (hr : meth.sig.returnType = (Option.some FieldType.int)) (hlk : meth.locks = false) (hnm : meth.name = "keep") {q : Int32 → hS → Prop} (n : Nat) : ∀ {S : hS} {v0 : Nat} {v1 : Int32} {v2 : Int32} {v3 : Int32} {v4 : Int32} {v5 : Int32} (hw : w_X12_keep_b58 q n S v0 v1 v2 v3 v4 v5), Z p l e R s m args below meth c (MQ below (hQ G B (iP q)) args s mc ms (fun r => B ≤ r)) G B mc ms 10 S 0 0 58 [some (.ref v0), some (.int v1), some (.int v2), some (.int v3), some (.int v4), some (.int v5), none, none, none, none] [] := by
  induction n with
  | zero => intro S v0 v1 v2 v3 v4 v5 hw; exact (by rw [w_X12_keep_b58] at hw; exact hw.elim)
  | succ n ih =>
    intro S v0 v1 v2 v3 v4 v5 hw
    rw [w_X12_keep_b58] at hw
    refine z_iload hC dX12_keep_58 rfl ?_
    refine z_bipush hC bi_21 dX12_keep_60 ?_
    refine z_icmp_ge (tgt := 84) hC dX12_keep_62 (by decide) (fun c62 => ?_) (fun c62 => ?_)
    · have hw := hw.1 c62
      refine z_iload_n hC dX12_keep_84 rfl rfl ?_
      refine z_iconst hC ic_1 dX12_keep_85 ?_
      refine z_isub hC dX12_keep_86 ?_
      refine z_nmI (fun y87 e87 => ?_)
      have hw := hw y87 e87
      refine z_istore (i := 5) (lv' := [some (.ref v0), some (.int v1), some (.int v2), some (.int v3), some (.int v4), some (.int y87), none, none, none, none]) hC dX12_keep_87 (by decide) (hok_v rfl rfl) rfl ?_
      refine z_mask (lv' := [some (.ref v0), some (.int v1), some (.int v2), none, some (.int v4), some (.int y87), none, none, none, none]) [true, true, true, false, true, true, false, false, false, false] rfl ?_
      obtain ⟨n89, hw⟩ := hw
      exact t_X12_keep_b89 hC hr hlk hnm n89 hw
    · have hw := hw.2 c62
      refine z_aload_n hC dX12_keep_65 rfl rfl ?_
      refine z_getP hC FX12 48 lk_1403 dX12_keep_66 (by decide) hw (fun x66 hw => ?_)
      refine z_bipush hC bi_21 dX12_keep_69 ?_
      refine z_iload_n hC dX12_keep_71 rfl rfl ?_
      refine z_imul hC dX12_keep_72 ?_
      refine z_iload hC dX12_keep_73 rfl ?_
      refine z_iadd hC dX12_keep_75 ?_
      refine z_iconst hC ic_0 dX12_keep_76 ?_
      refine z_astI hC dX12_keep_77 hw (fun S hw => ?_)
      refine z_inc (i := 5) hC ic_1 dX12_keep_78 rfl (by decide) (hok_v rfl rfl) (fun y78 e78 => ?_)
      have hw := hw y78 e78
      refine z_goto (tgt := 58) hC dX12_keep_81 (by decide) ?_
      refine z_mask (lv' := [some (.ref v0), some (.int v1), some (.int v2), some (.int v3), some (.int v4), some (.int y78), none, none, none, none]) [true, true, true, true, true, true, false, false, false, false] rfl ?_
      exact ih hw
def w_X12_keep (q : Int32 → hS → Prop) (S : hS) (v0 : Nat) (v1 : Int32) (v2 : Int32) (v3 : Int32) (v4 : Int32) : Prop := pI S v0 12 0 0 (fun S => oK S v0 12 ∧ w_X12_isHouse (fun x7 S => (x7 = 0 → q (-1) S) ∧ (¬ x7 = 0 → w_X12_in (fun x19 S => (x19 = 0 → q (-1) S) ∧ (¬ x19 = 0 → w_X12_in (fun x31 S => (x31 = 0 → q (-1) S) ∧ (¬ x31 = 0 → w_X12_in (fun x47 S => (¬ x47 = 0 → (∃ n58 : Nat, w_X12_keep_b58 q n58 S v0 v1 v2 v3 v4 0)) ∧ (x47 = 0 → q (-1) S)) S (Int32.toInt64 v4) (-1) ((Int32.toInt64 v3) - 1))) S (Int32.toInt64 v3) 1 8)) S (Int32.toInt64 v2) 0 20)) S v0 v1)
set_option maxRecDepth 100000 in
set_option maxHeartbeats 4000000 in
theorem c_X12_keep (l : Launch) (G : hG) (B : Nat) (S : hS) (v0 : Nat) (v1 : Int32) (v2 : Int32) (v3 : Int32) (v4 : Int32) (q : Int32 → hS → Prop) : Met l yX12_keep (hws yX12_keep cX12_keep 10 (Option.some FieldType.int)) ({ frames := 10, cells := 0, slots := 0, locals := 277 }) (hPc G B S [.ref v0, .int v1, .int v2, .int v3, .int v4] (w_X12_keep q S v0 v1 v2 v3 v4)) (hQ G B (iP q)) (0) (0) (fun r => B ≤ r) := by
  refine hMet (rm := { frames := 10, cells := 0, slots := 0, locals := 277 }) (lv := [some (.ref v0), some (.int v1), some (.int v2), some (.int v3), some (.int v4), none, none, none, none, none]) (own := RX12) (fr := 10) (lo := 277) (by decide) rfl rfl rfl (Nat.le_of_ble_eq_true rfl) rfl (fun hw p e R s m args below meth c hC hr hlk hnm => ?_)
  unfold w_X12_keep at hw
  refine z_aload_n hC dX12_keep_0 rfl rfl ?_
  refine z_iconst hC ic_0 dX12_keep_1 ?_
  refine z_putI hC FX12 0 lk_1355 dX12_keep_2 (by decide) rfl rfl hw (fun S hw => ?_)
  refine z_aload_n hC dX12_keep_5 rfl rfl ?_
  refine z_iload_n hC dX12_keep_6 rfl rfl ?_
  refine z_callV (ku' := 0) (kv' := 0) (n := 1) (As := [.int v1]) (st := []) hC (c_X12_isHouse l G B S v0 v1 _) hw.2 hw.1 rfl lk_1580 lk_1582 lk_44 lk_133 lk_1583 hd_X12_isHouse rfl rfl (Nat.le_of_ble_eq_true rfl) (Nat.le_of_ble_eq_true rfl) rfl (Nat.le_of_ble_eq_true rfl) dX12_keep_7 (Nat.le_refl 0) (Nat.le_refl 0) (kI (fun x7 S hw => ?_))
  refine z_if_eq (tgt := 53) hC dX12_keep_10 (by decide) (fun c10 => ?_) (fun c10 => ?_)
  · have hw := hw.1 c10
    refine z_iconst hC ic_m1 dX12_keep_53 ?_
    exact z_iret hC hr hlk dX12_keep_54 ⟨_, rfl, hw⟩
  · have hw := hw.2 c10
    refine z_iload_n hC dX12_keep_13 rfl rfl ?_
    refine z_i2l hC rfl dX12_keep_14 ?_
    refine z_lconst hC lc_0 dX12_keep_15 ?_
    refine z_ldc2 hC lk_1821 dX12_keep_16 ?_
    refine z_callS (ku' := 0) (kv' := 0) (n := 3) (As := [.long (Int32.toInt64 v2), .long 0, .long 20]) (st := []) hC (c_X12_in l G B S (Int32.toInt64 v2) 0 20 _) hw lk_1556 lk_1557 lk_133 lk_1558 hd_X12_in rfl rfl (Nat.le_of_ble_eq_true rfl) (Nat.le_of_ble_eq_true rfl) rfl (Nat.le_of_ble_eq_true rfl) dX12_keep_19 (Nat.le_refl 0) (Nat.le_refl 0) (kI (fun x19 S hw => ?_))
    refine z_if_eq (tgt := 53) hC dX12_keep_22 (by decide) (fun c22 => ?_) (fun c22 => ?_)
    · have hw := hw.1 c22
      refine z_iconst hC ic_m1 dX12_keep_53 ?_
      exact z_iret hC hr hlk dX12_keep_54 ⟨_, rfl, hw⟩
    · have hw := hw.2 c22
      refine z_iload_n hC dX12_keep_25 rfl rfl ?_
      refine z_i2l hC rfl dX12_keep_26 ?_
      refine z_lconst hC lc_1 dX12_keep_27 ?_
      refine z_ldc2 hC lk_1995 dX12_keep_28 ?_
      refine z_callS (ku' := 0) (kv' := 0) (n := 3) (As := [.long (Int32.toInt64 v3), .long 1, .long 8]) (st := []) hC (c_X12_in l G B S (Int32.toInt64 v3) 1 8 _) hw lk_1556 lk_1557 lk_133 lk_1558 hd_X12_in rfl rfl (Nat.le_of_ble_eq_true rfl) (Nat.le_of_ble_eq_true rfl) rfl (Nat.le_of_ble_eq_true rfl) dX12_keep_31 (Nat.le_refl 0) (Nat.le_refl 0) (kI (fun x31 S hw => ?_))
      refine z_if_eq (tgt := 53) hC dX12_keep_34 (by decide) (fun c34 => ?_) (fun c34 => ?_)
      · have hw := hw.1 c34
        refine z_iconst hC ic_m1 dX12_keep_53 ?_
        exact z_iret hC hr hlk dX12_keep_54 ⟨_, rfl, hw⟩
      · have hw := hw.2 c34
        refine z_iload hC dX12_keep_37 rfl ?_
        refine z_i2l hC rfl dX12_keep_39 ?_
        refine z_ldc2 hC lk_1601 dX12_keep_40 ?_
        refine z_iload_n hC dX12_keep_43 rfl rfl ?_
        refine z_i2l hC rfl dX12_keep_44 ?_
        refine z_lconst hC lc_1 dX12_keep_45 ?_
        refine z_lsub hC dX12_keep_46 ?_
        refine z_callS (ku' := 0) (kv' := 0) (n := 3) (As := [.long (Int32.toInt64 v4), .long (-1), .long ((Int32.toInt64 v3) - 1)]) (st := []) hC (c_X12_in l G B S (Int32.toInt64 v4) (-1) ((Int32.toInt64 v3) - 1) _) hw lk_1556 lk_1557 lk_133 lk_1558 hd_X12_in rfl rfl (Nat.le_of_ble_eq_true rfl) (Nat.le_of_ble_eq_true rfl) rfl (Nat.le_of_ble_eq_true rfl) dX12_keep_47 (Nat.le_refl 0) (Nat.le_refl 0) (kI (fun x47 S hw => ?_))
        refine z_if_ne (tgt := 55) hC dX12_keep_50 (by decide) (fun c50 => ?_) (fun c50 => ?_)
        · have hw := hw.1 c50
          refine z_iconst hC ic_0 dX12_keep_55 ?_
          refine z_istore (i := 5) (lv' := [some (.ref v0), some (.int v1), some (.int v2), some (.int v3), some (.int v4), some (.int 0), none, none, none, none]) hC dX12_keep_56 (by decide) (hok_v rfl rfl) rfl ?_
          refine z_mask (lv' := [some (.ref v0), some (.int v1), some (.int v2), some (.int v3), some (.int v4), some (.int 0), none, none, none, none]) [true, true, true, true, true, true, false, false, false, false] rfl ?_
          obtain ⟨n58, hw⟩ := hw
          exact t_X12_keep_b58 hC hr hlk hnm n58 hw
        · have hw := hw.2 c50
          refine z_iconst hC ic_m1 dX12_keep_53 ?_
          exact z_iret hC hr hlk dX12_keep_54 ⟨_, rfl, hw⟩
end
section
variable {p : Program} {l : Launch} {e : Env} {R : Room} {s : State} {m : MethodId} {args : Array Value} {below : List Frame} {meth : Method} {c : Code} {G : hG} {B mc ms : Nat}
def w_X12_chainBy_b22 (q : Int32 → hS → Prop) (S : hS) : Prop := q 100000000 S
set_option maxRecDepth 100000 in
set_option maxHeartbeats 4000000 in
theorem t_X12_chainBy_b22 (hC : zC p R s m args c cX12_chainBy 4 RX12 G B mc ms 9 251) (hr : meth.sig.returnType = (Option.some FieldType.int)) (hlk : meth.locks = false) (hnm : meth.name = "chainBy") {q : Int32 → hS → Prop} {S : hS} (hw : w_X12_chainBy_b22 q S ) : Z p l e R s m args below meth c (MQ below (hQ G B (iP q)) args s mc ms (fun r => B ≤ r)) G B mc ms 4 S 0 0 22 [none, none, none, none] [] := by
  unfold w_X12_chainBy_b22 at hw
  refine z_ldcw hC lk_1982 dX12_chainBy_22 ?_
  refine z_goto (tgt := 47) hC dX12_chainBy_25 (by decide) ?_
  exact z_iret hC hr hlk dX12_chainBy_47 ⟨_, rfl, hw⟩
def w_X12_chainBy (q : Int32 → hS → Prop) (S : hS) (v0 : Nat) (v1 : Int32) (v2 : Int32) (v3 : Int32) : Prop := gP S v0 12 49 (fun x1 => aI S x1 v2 (fun x5 => (x5 = 100000000 → w_X12_chainBy_b22 q S) ∧ (¬ x5 = 100000000 → oK S v0 12 ∧ w_X12_canBuy (fun x16 S => (¬ x16 = 0 → oK S v0 12 ∧ w_X12_costsOf (fun x34 S => gP S v0 12 49 (fun x41 => aI S x41 v2 (fun x45 => q (((100 * x34) + 1) + x45) S))) S v0 v1 v2 v3) ∧ (x16 = 0 → w_X12_chainBy_b22 q S)) S v0 v1 v2 v3)))
set_option maxRecDepth 100000 in
set_option maxHeartbeats 4000000 in
theorem c_X12_chainBy (l : Launch) (G : hG) (B : Nat) (S : hS) (v0 : Nat) (v1 : Int32) (v2 : Int32) (v3 : Int32) (q : Int32 → hS → Prop) : Met l yX12_chainBy (hws yX12_chainBy cX12_chainBy 4 (Option.some FieldType.int)) ({ frames := 9, cells := 0, slots := 0, locals := 251 }) (hPc G B S [.ref v0, .int v1, .int v2, .int v3] (w_X12_chainBy q S v0 v1 v2 v3)) (hQ G B (iP q)) (0) (0) (fun r => B ≤ r) := by
  refine hMet (rm := { frames := 9, cells := 0, slots := 0, locals := 251 }) (lv := [some (.ref v0), some (.int v1), some (.int v2), some (.int v3)]) (own := RX12) (fr := 9) (lo := 251) (by decide) rfl rfl rfl (Nat.le_of_ble_eq_true rfl) rfl (fun hw p e R s m args below meth c hC hr hlk hnm => ?_)
  unfold w_X12_chainBy at hw
  refine z_aload_n hC dX12_chainBy_0 rfl rfl ?_
  refine z_getP hC FX12 49 lk_1404 dX12_chainBy_1 (by decide) hw (fun x1 hw => ?_)
  refine z_iload_n hC dX12_chainBy_4 rfl rfl ?_
  refine z_aldI hC dX12_chainBy_5 hw (fun x5 hw => ?_)
  refine z_ldcw hC lk_1982 dX12_chainBy_6 ?_
  refine z_icmp_eq (tgt := 22) hC dX12_chainBy_9 (by decide) (fun c9 => ?_) (fun c9 => ?_)
  · have hw := hw.1 c9
    refine z_mask (lv' := [none, none, none, none]) [false, false, false, false] rfl ?_
    exact t_X12_chainBy_b22 hC hr hlk hnm hw
  · have hw := hw.2 c9
    refine z_aload_n hC dX12_chainBy_12 rfl rfl ?_
    refine z_iload_n hC dX12_chainBy_13 rfl rfl ?_
    refine z_iload_n hC dX12_chainBy_14 rfl rfl ?_
    refine z_iload_n hC dX12_chainBy_15 rfl rfl ?_
    refine z_callV (ku' := 0) (kv' := 0) (n := 3) (As := [.int v1, .int v2, .int v3]) (st := []) hC (c_X12_canBuy l G B S v0 v1 v2 v3 _) hw.2 hw.1 rfl lk_1852 lk_1854 lk_88 lk_133 lk_1855 hd_X12_canBuy rfl rfl (Nat.le_of_ble_eq_true rfl) (Nat.le_of_ble_eq_true rfl) rfl (Nat.le_of_ble_eq_true rfl) dX12_chainBy_16 (Nat.le_refl 0) (Nat.le_refl 0) (kI (fun x16 S hw => ?_))
    refine z_if_ne (tgt := 28) hC dX12_chainBy_19 (by decide) (fun c19 => ?_) (fun c19 => ?_)
    · have hw := hw.1 c19
      refine z_bipush hC bi_100 dX12_chainBy_28 ?_
      refine z_aload_n hC dX12_chainBy_30 rfl rfl ?_
      refine z_iload_n hC dX12_chainBy_31 rfl rfl ?_
      refine z_iload_n hC dX12_chainBy_32 rfl rfl ?_
      refine z_iload_n hC dX12_chainBy_33 rfl rfl ?_
      refine z_callV (ku' := 0) (kv' := 0) (n := 3) (As := [.int v1, .int v2, .int v3]) (st := [.int 100]) hC (c_X12_costsOf l G B S v0 v1 v2 v3 _) hw.2 hw.1 rfl lk_1856 lk_1858 lk_89 lk_133 lk_1859 hd_X12_costsOf rfl rfl (Nat.le_of_ble_eq_true rfl) (Nat.le_of_ble_eq_true rfl) rfl (Nat.le_of_ble_eq_true rfl) dX12_chainBy_34 (Nat.le_refl 0) (Nat.le_refl 0) (kI (fun x34 S hw => ?_))
      refine z_imul hC dX12_chainBy_37 ?_
      refine z_iconst hC ic_1 dX12_chainBy_38 ?_
      refine z_iadd hC dX12_chainBy_39 ?_
      refine z_aload_n hC dX12_chainBy_40 rfl rfl ?_
      refine z_getP hC FX12 49 lk_1404 dX12_chainBy_41 (by decide) hw (fun x41 hw => ?_)
      refine z_iload_n hC dX12_chainBy_44 rfl rfl ?_
      refine z_aldI hC dX12_chainBy_45 hw (fun x45 hw => ?_)
      refine z_iadd hC dX12_chainBy_46 ?_
      exact z_iret hC hr hlk dX12_chainBy_47 ⟨_, rfl, hw⟩
    · have hw := hw.2 c19
      refine z_mask (lv' := [none, none, none, none]) [false, false, false, false] rfl ?_
      exact t_X12_chainBy_b22 hC hr hlk hnm hw
end
