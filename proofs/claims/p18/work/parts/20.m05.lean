section
variable {p : Program} {l : Launch} {e : Env} {R : Room} {s : State} {m : MethodId} {args : Array Value} {below : List Frame} {meth : Method} {c : Code} {G : hG} {B mc ms : Nat}
def w_X12_law_b146 (q : Int32 → hS → Prop) : Nat → hS → (Nat) → (Int32) → (Int32) → Prop
  | 0, _, _, _, _ => False
  | n + 1, S, v0, v1, v2 => gI S v0 12 23 (fun x148 => (x148 ≤ v2 → gP S v0 12 3 (fun x201 => aI S x201 3 (fun x206 => sI S x201 3 (x206 + 1) (fun S => gP S v0 12 3 (fun x212 => aI S x212 3 (fun x216 => oK S v0 12 ∧ w_X12_tell (fun x219 S => q x219 S) S v0 (x216 - 1))))))) ∧ (¬ x148 ≤ v2 → gP S v0 12 3 (fun x155 => gP S v0 12 24 (fun x167 => aI S x167 v2 (fun x171 => sI S x155 ((v1 + 98) + (2 * v2)) x171 (fun S => gP S v0 12 3 (fun x174 => gP S v0 12 25 (fun x188 => aI S x188 v2 (fun x192 => sI S x174 (((v1 + 98) + (2 * v2)) + 1) x192 (fun S => ∀ y194 : Int32, y194 = v2 + 1 → w_X12_law_b146 q n S v0 v1 y194))))))))))
set_option maxRecDepth 100000 in
set_option maxHeartbeats 4000000 in
theorem t_X12_law_b146 (hC : zC p R s m args c cX12_law 3 RX12 G B mc ms 9 234) (hr : meth.sig.returnType = (Option.some FieldType.int)) (hlk : meth.locks = false) (hnm : meth.name = "law") {q : Int32 → hS → Prop} (n : Nat) : ∀ {S : hS} {v0 : Nat} {v1 : Int32} {v2 : Int32} (hw : w_X12_law_b146 q n S v0 v1 v2), Z p l e R s m args below meth c (MQ below (hQ G B (iP q)) args s mc ms (fun r => B ≤ r)) G B mc ms 3 S 0 0 146 [some (.ref v0), some (.int v1), some (.int v2)] [] := by
  induction n with
  | zero => intro S v0 v1 v2 hw; exact (by rw [w_X12_law_b146] at hw; exact hw.elim)
  | succ n ih =>
    intro S v0 v1 v2 hw
    rw [w_X12_law_b146] at hw
    refine z_iload_n hC dX12_law_146 rfl rfl ?_
    refine z_aload_n hC dX12_law_147 rfl rfl ?_
    refine z_getI hC FX12 23 lk_1378 dX12_law_148 (by decide) hw (fun x148 hw => ?_)
    refine z_icmp_ge (tgt := 200) hC dX12_law_151 (by decide) (fun c151 => ?_) (fun c151 => ?_)
    · have hw := hw.1 c151
      refine z_aload_n hC dX12_law_200 rfl rfl ?_
      refine z_getP hC FX12 3 lk_1358 dX12_law_201 (by decide) hw (fun x201 hw => ?_)
      refine z_iconst hC ic_3 dX12_law_204 ?_
      refine z_dup2_11 hC rfl rfl dX12_law_205 ?_
      refine z_aldI hC dX12_law_206 hw (fun x206 hw => ?_)
      refine z_iconst hC ic_1 dX12_law_207 ?_
      refine z_iadd hC dX12_law_208 ?_
      refine z_astI hC dX12_law_209 hw (fun S hw => ?_)
      refine z_aload_n hC dX12_law_210 rfl rfl ?_
      refine z_aload_n hC dX12_law_211 rfl rfl ?_
      refine z_getP hC FX12 3 lk_1358 dX12_law_212 (by decide) hw (fun x212 hw => ?_)
      refine z_iconst hC ic_3 dX12_law_215 ?_
      refine z_aldI hC dX12_law_216 hw (fun x216 hw => ?_)
      refine z_iconst hC ic_1 dX12_law_217 ?_
      refine z_isub hC dX12_law_218 ?_
      refine z_callV (ku' := 0) (kv' := 0) (n := 1) (As := [.int (x216 - 1)]) (st := []) hC (c_X12_tell l G B S v0 (x216 - 1) _) hw.2 hw.1 rfl lk_1544 lk_1546 lk_41 lk_133 lk_1547 hd_X12_tell rfl rfl (Nat.le_of_ble_eq_true rfl) (Nat.le_of_ble_eq_true rfl) rfl (Nat.le_of_ble_eq_true rfl) dX12_law_219 (Nat.le_refl 0) (Nat.le_refl 0) (kI (fun x219 S hw => ?_))
      exact z_iret hC hr hlk dX12_law_222 ⟨_, rfl, hw⟩
    · have hw := hw.2 c151
      refine z_aload_n hC dX12_law_154 rfl rfl ?_
      refine z_getP hC FX12 3 lk_1358 dX12_law_155 (by decide) hw (fun x155 hw => ?_)
      refine z_iload_n hC dX12_law_158 rfl rfl ?_
      refine z_bipush hC bi_98 dX12_law_159 ?_
      refine z_iadd hC dX12_law_161 ?_
      refine z_iconst hC ic_2 dX12_law_162 ?_
      refine z_iload_n hC dX12_law_163 rfl rfl ?_
      refine z_imul hC dX12_law_164 ?_
      refine z_iadd hC dX12_law_165 ?_
      refine z_aload_n hC dX12_law_166 rfl rfl ?_
      refine z_getP hC FX12 24 lk_1379 dX12_law_167 (by decide) hw (fun x167 hw => ?_)
      refine z_iload_n hC dX12_law_170 rfl rfl ?_
      refine z_aldI hC dX12_law_171 hw (fun x171 hw => ?_)
      refine z_astI hC dX12_law_172 hw (fun S hw => ?_)
      refine z_aload_n hC dX12_law_173 rfl rfl ?_
      refine z_getP hC FX12 3 lk_1358 dX12_law_174 (by decide) hw (fun x174 hw => ?_)
      refine z_iload_n hC dX12_law_177 rfl rfl ?_
      refine z_bipush hC bi_98 dX12_law_178 ?_
      refine z_iadd hC dX12_law_180 ?_
      refine z_iconst hC ic_2 dX12_law_181 ?_
      refine z_iload_n hC dX12_law_182 rfl rfl ?_
      refine z_imul hC dX12_law_183 ?_
      refine z_iadd hC dX12_law_184 ?_
      refine z_iconst hC ic_1 dX12_law_185 ?_
      refine z_iadd hC dX12_law_186 ?_
      refine z_aload_n hC dX12_law_187 rfl rfl ?_
      refine z_getP hC FX12 25 lk_1380 dX12_law_188 (by decide) hw (fun x188 hw => ?_)
      refine z_iload_n hC dX12_law_191 rfl rfl ?_
      refine z_aldI hC dX12_law_192 hw (fun x192 hw => ?_)
      refine z_astI hC dX12_law_193 hw (fun S hw => ?_)
      refine z_inc (i := 2) hC ic_1 dX12_law_194 rfl (by decide) (hok_v rfl rfl) (fun y194 e194 => ?_)
      have hw := hw y194 e194
      refine z_goto (tgt := 146) hC dX12_law_197 (by decide) ?_
      refine z_mask (lv' := [some (.ref v0), some (.int v1), some (.int y194)]) [true, true, true] rfl ?_
      exact ih hw
def w_X12_law_b111 (q : Int32 → hS → Prop) : Nat → hS → (Nat) → (Int32) → (Int32) → Prop
  | 0, _, _, _, _ => False
  | n + 1, S, v0, v1, v2 => gI S v0 12 21 (fun x115 => ((8 * x115) ≤ v2 → (∃ n146 : Nat, w_X12_law_b146 q n146 S v0 v1 0)) ∧ (¬ (8 * x115) ≤ v2 → gP S v0 12 3 (fun x123 => gP S v0 12 22 (fun x132 => aI S x132 v2 (fun x136 => sI S x123 ((v1 + 2) + v2) x136 (fun S => ∀ y138 : Int32, y138 = v2 + 1 → w_X12_law_b111 q n S v0 v1 y138))))))
set_option maxRecDepth 100000 in
set_option maxHeartbeats 4000000 in
theorem t_X12_law_b111 (hC : zC p R s m args c cX12_law 3 RX12 G B mc ms 9 234) (hr : meth.sig.returnType = (Option.some FieldType.int)) (hlk : meth.locks = false) (hnm : meth.name = "law") {q : Int32 → hS → Prop} (n : Nat) : ∀ {S : hS} {v0 : Nat} {v1 : Int32} {v2 : Int32} (hw : w_X12_law_b111 q n S v0 v1 v2), Z p l e R s m args below meth c (MQ below (hQ G B (iP q)) args s mc ms (fun r => B ≤ r)) G B mc ms 3 S 0 0 111 [some (.ref v0), some (.int v1), some (.int v2)] [] := by
  induction n with
  | zero => intro S v0 v1 v2 hw; exact (by rw [w_X12_law_b111] at hw; exact hw.elim)
  | succ n ih =>
    intro S v0 v1 v2 hw
    rw [w_X12_law_b111] at hw
    refine z_iload_n hC dX12_law_111 rfl rfl ?_
    refine z_bipush hC bi_8 dX12_law_112 ?_
    refine z_aload_n hC dX12_law_114 rfl rfl ?_
    refine z_getI hC FX12 21 lk_1376 dX12_law_115 (by decide) hw (fun x115 hw => ?_)
    refine z_imul hC dX12_law_118 ?_
    refine z_icmp_ge (tgt := 144) hC dX12_law_119 (by decide) (fun c119 => ?_) (fun c119 => ?_)
    · have hw := hw.1 c119
      refine z_iconst hC ic_0 dX12_law_144 ?_
      refine z_istore_n (i := 2) (lv' := [some (.ref v0), some (.int v1), some (.int 0)]) hC rfl dX12_law_145 (by decide) (hok_v rfl rfl) rfl ?_
      refine z_mask (lv' := [some (.ref v0), some (.int v1), some (.int 0)]) [true, true, true] rfl ?_
      obtain ⟨n146, hw⟩ := hw
      exact t_X12_law_b146 hC hr hlk hnm n146 hw
    · have hw := hw.2 c119
      refine z_aload_n hC dX12_law_122 rfl rfl ?_
      refine z_getP hC FX12 3 lk_1358 dX12_law_123 (by decide) hw (fun x123 hw => ?_)
      refine z_iload_n hC dX12_law_126 rfl rfl ?_
      refine z_iconst hC ic_2 dX12_law_127 ?_
      refine z_iadd hC dX12_law_128 ?_
      refine z_iload_n hC dX12_law_129 rfl rfl ?_
      refine z_iadd hC dX12_law_130 ?_
      refine z_aload_n hC dX12_law_131 rfl rfl ?_
      refine z_getP hC FX12 22 lk_1377 dX12_law_132 (by decide) hw (fun x132 hw => ?_)
      refine z_iload_n hC dX12_law_135 rfl rfl ?_
      refine z_aldI hC dX12_law_136 hw (fun x136 hw => ?_)
      refine z_astI hC dX12_law_137 hw (fun S hw => ?_)
      refine z_inc (i := 2) hC ic_1 dX12_law_138 rfl (by decide) (hok_v rfl rfl) (fun y138 e138 => ?_)
      have hw := hw y138 e138
      refine z_goto (tgt := 111) hC dX12_law_141 (by decide) ?_
      refine z_mask (lv' := [some (.ref v0), some (.int v1), some (.int y138)]) [true, true, true] rfl ?_
      exact ih hw
def w_X12_law_b64 (q : Int32 → hS → Prop) (S : hS) (v0 : Nat) : Prop := oK S v0 12 ∧ w_X12_endText (fun S => gI S v0 12 19 (fun x69 => (x69 = 0 → gP S v0 12 3 (fun x89 => aI S x89 3 (fun x93 => ∀ y96 : Int32, y96 = (185 + (900 * x93)) → gP S v0 12 3 (fun x98 => gI S v0 12 21 (fun x105 => sI S x98 (y96 + 1) x105 (fun S => (∃ n111 : Nat, w_X12_law_b111 q n111 S v0 y96 0))))))) ∧ (¬ x69 = 0 → oK S v0 12 ∧ w_X12_tell (fun x78 S => q x78 S) S v0 (-6)))) S v0
set_option maxRecDepth 100000 in
set_option maxHeartbeats 4000000 in
theorem t_X12_law_b64 (hC : zC p R s m args c cX12_law 3 RX12 G B mc ms 9 234) (hr : meth.sig.returnType = (Option.some FieldType.int)) (hlk : meth.locks = false) (hnm : meth.name = "law") {q : Int32 → hS → Prop} {S : hS} {v0 : Nat} (hw : w_X12_law_b64 q S v0) : Z p l e R s m args below meth c (MQ below (hQ G B (iP q)) args s mc ms (fun r => B ≤ r)) G B mc ms 3 S 0 0 64 [some (.ref v0), none, none] [] := by
  unfold w_X12_law_b64 at hw
  refine z_aload_n hC dX12_law_64 rfl rfl ?_
  refine z_callV (ku' := 0) (kv' := 0) (n := 0) (As := []) (st := []) hC (c_X12_endText l G B S v0 _) hw.2 hw.1 rfl lk_1831 lk_1833 lk_85 lk_133 lk_1834 hd_X12_endText rfl rfl (Nat.le_of_ble_eq_true rfl) (Nat.le_of_ble_eq_true rfl) rfl (Nat.le_of_ble_eq_true rfl) dX12_law_65 (Nat.le_refl 0) (Nat.le_refl 0) (kV (fun S hw => ?_))
  refine z_aload_n hC dX12_law_68 rfl rfl ?_
  refine z_getI hC FX12 19 lk_1374 dX12_law_69 (by decide) hw (fun x69 hw => ?_)
  refine z_if_eq (tgt := 82) hC dX12_law_72 (by decide) (fun c72 => ?_) (fun c72 => ?_)
  · have hw := hw.1 c72
    refine z_sipush hC si_185 dX12_law_82 ?_
    refine z_sipush hC si_900 dX12_law_85 ?_
    refine z_aload_n hC dX12_law_88 rfl rfl ?_
    refine z_getP hC FX12 3 lk_1358 dX12_law_89 (by decide) hw (fun x89 hw => ?_)
    refine z_iconst hC ic_3 dX12_law_92 ?_
    refine z_aldI hC dX12_law_93 hw (fun x93 hw => ?_)
    refine z_imul hC dX12_law_94 ?_
    refine z_iadd hC dX12_law_95 ?_
    refine z_nmI (fun y96 e96 => ?_)
    have hw := hw y96 e96
    refine z_istore_n (i := 1) (lv' := [some (.ref v0), some (.int y96), none]) hC rfl dX12_law_96 (by decide) (hok_v rfl rfl) rfl ?_
    refine z_aload_n hC dX12_law_97 rfl rfl ?_
    refine z_getP hC FX12 3 lk_1358 dX12_law_98 (by decide) hw (fun x98 hw => ?_)
    refine z_iload_n hC dX12_law_101 rfl rfl ?_
    refine z_iconst hC ic_1 dX12_law_102 ?_
    refine z_iadd hC dX12_law_103 ?_
    refine z_aload_n hC dX12_law_104 rfl rfl ?_
    refine z_getI hC FX12 21 lk_1376 dX12_law_105 (by decide) hw (fun x105 hw => ?_)
    refine z_astI hC dX12_law_108 hw (fun S hw => ?_)
    refine z_iconst hC ic_0 dX12_law_109 ?_
    refine z_istore_n (i := 2) (lv' := [some (.ref v0), some (.int y96), some (.int 0)]) hC rfl dX12_law_110 (by decide) (hok_v rfl rfl) rfl ?_
    refine z_mask (lv' := [some (.ref v0), some (.int y96), some (.int 0)]) [true, true, true] rfl ?_
    obtain ⟨n111, hw⟩ := hw
    exact t_X12_law_b111 hC hr hlk hnm n111 hw
  · have hw := hw.2 c72
    refine z_aload_n hC dX12_law_75 rfl rfl ?_
    refine z_bipush hC bi_m6 dX12_law_76 ?_
    refine z_callV (ku' := 0) (kv' := 0) (n := 1) (As := [.int (-6)]) (st := []) hC (c_X12_tell l G B S v0 (-6) _) hw.2 hw.1 rfl lk_1544 lk_1546 lk_41 lk_133 lk_1547 hd_X12_tell rfl rfl (Nat.le_of_ble_eq_true rfl) (Nat.le_of_ble_eq_true rfl) rfl (Nat.le_of_ble_eq_true rfl) dX12_law_78 (Nat.le_refl 0) (Nat.le_refl 0) (kI (fun x78 S hw => ?_))
    exact z_iret hC hr hlk dX12_law_81 ⟨_, rfl, hw⟩
def w_X12_law_b37 (q : Int32 → hS → Prop) : Nat → hS → (Nat) → Prop
  | 0, _, _ => False
  | n + 1, S, v0 => gI S v0 12 19 (fun x38 => (¬ x38 = 0 → w_X12_law_b64 q S v0) ∧ (x38 = 0 → oK S v0 12 ∧ w_X12_isSign (fun x47 S => (x47 = 0 → w_X12_law_b64 q S v0) ∧ (¬ x47 = 0 → oK S v0 12 ∧ w_X12_next (fun S => oK S v0 12 ∧ w_X12_readLaw (fun S => w_X12_law_b37 q n S v0) S v0) S v0)) S v0 59))
set_option maxRecDepth 100000 in
set_option maxHeartbeats 4000000 in
theorem t_X12_law_b37 (hC : zC p R s m args c cX12_law 3 RX12 G B mc ms 9 234) (hr : meth.sig.returnType = (Option.some FieldType.int)) (hlk : meth.locks = false) (hnm : meth.name = "law") {q : Int32 → hS → Prop} (n : Nat) : ∀ {S : hS} {v0 : Nat} (hw : w_X12_law_b37 q n S v0), Z p l e R s m args below meth c (MQ below (hQ G B (iP q)) args s mc ms (fun r => B ≤ r)) G B mc ms 3 S 0 0 37 [some (.ref v0), none, none] [] := by
  induction n with
  | zero => intro S v0 hw; exact (by rw [w_X12_law_b37] at hw; exact hw.elim)
  | succ n ih =>
    intro S v0 hw
    rw [w_X12_law_b37] at hw
    refine z_aload_n hC dX12_law_37 rfl rfl ?_
    refine z_getI hC FX12 19 lk_1374 dX12_law_38 (by decide) hw (fun x38 hw => ?_)
    refine z_if_ne (tgt := 64) hC dX12_law_41 (by decide) (fun c41 => ?_) (fun c41 => ?_)
    · have hw := hw.1 c41
      refine z_mask (lv' := [some (.ref v0), none, none]) [true, false, false] rfl ?_
      exact t_X12_law_b64 hC hr hlk hnm hw
    · have hw := hw.2 c41
      refine z_aload_n hC dX12_law_44 rfl rfl ?_
      refine z_bipush hC bi_59 dX12_law_45 ?_
      refine z_callV (ku' := 0) (kv' := 0) (n := 1) (As := [.int 59]) (st := []) hC (c_X12_isSign l G B S v0 59 _) hw.2 hw.1 rfl lk_1768 lk_1770 lk_72 lk_133 lk_1771 hd_X12_isSign rfl rfl (Nat.le_of_ble_eq_true rfl) (Nat.le_of_ble_eq_true rfl) rfl (Nat.le_of_ble_eq_true rfl) dX12_law_47 (Nat.le_refl 0) (Nat.le_refl 0) (kI (fun x47 S hw => ?_))
      refine z_if_eq (tgt := 64) hC dX12_law_50 (by decide) (fun c50 => ?_) (fun c50 => ?_)
      · have hw := hw.1 c50
        refine z_mask (lv' := [some (.ref v0), none, none]) [true, false, false] rfl ?_
        exact t_X12_law_b64 hC hr hlk hnm hw
      · have hw := hw.2 c50
        refine z_aload_n hC dX12_law_53 rfl rfl ?_
        refine z_callV (ku' := 0) (kv' := 0) (n := 0) (As := []) (st := []) hC (c_X12_next l G B S v0 _) hw.2 hw.1 rfl lk_1729 lk_1731 lk_65 lk_133 lk_1732 hd_X12_next rfl rfl (Nat.le_of_ble_eq_true rfl) (Nat.le_of_ble_eq_true rfl) rfl (Nat.le_of_ble_eq_true rfl) dX12_law_54 (Nat.le_refl 0) (Nat.le_refl 0) (kV (fun S hw => ?_))
        refine z_aload_n hC dX12_law_57 rfl rfl ?_
        refine z_callV (ku' := 0) (kv' := 0) (n := 0) (As := []) (st := []) hC (c_X12_readLaw l G B S v0 _) hw.2 hw.1 rfl lk_1743 lk_1745 lk_66 lk_133 lk_1746 hd_X12_readLaw rfl rfl (Nat.le_of_ble_eq_true rfl) (Nat.le_of_ble_eq_true rfl) rfl (Nat.le_of_ble_eq_true rfl) dX12_law_58 (Nat.le_refl 0) (Nat.le_refl 0) (kV (fun S hw => ?_))
        refine z_goto (tgt := 37) hC dX12_law_61 (by decide) ?_
        refine z_mask (lv' := [some (.ref v0), none, none]) [true, false, false] rfl ?_
        exact ih hw
def w_X12_law (q : Int32 → hS → Prop) (S : hS) (v0 : Nat) : Prop := pI S v0 12 0 0 (fun S => gP S v0 12 3 (fun x6 => aI S x6 3 (fun x10 => (¬ x10 = 6 → oK S v0 12 ∧ w_X12_beginText (fun S => oK S v0 12 ∧ w_X12_readLaw (fun S => (∃ n37 : Nat, w_X12_law_b37 q n37 S v0)) S v0) S v0 0) ∧ (x10 = 6 → pI S v0 12 13 0 (fun S => oK S v0 12 ∧ w_X12_tell (fun x24 S => q x24 S) S v0 (-5))))))
set_option maxRecDepth 100000 in
set_option maxHeartbeats 4000000 in
theorem c_X12_law (l : Launch) (G : hG) (B : Nat) (S : hS) (v0 : Nat) (q : Int32 → hS → Prop) : Met l yX12_law (hws yX12_law cX12_law 3 (Option.some FieldType.int)) ({ frames := 9, cells := 0, slots := 0, locals := 234 }) (hPc G B S [.ref v0] (w_X12_law q S v0)) (hQ G B (iP q)) (0) (0) (fun r => B ≤ r) := by
  refine hMet (rm := { frames := 9, cells := 0, slots := 0, locals := 234 }) (lv := [some (.ref v0), none, none]) (own := RX12) (fr := 9) (lo := 234) (by decide) rfl rfl rfl (Nat.le_of_ble_eq_true rfl) rfl (fun hw p e R s m args below meth c hC hr hlk hnm => ?_)
  unfold w_X12_law at hw
  refine z_aload_n hC dX12_law_0 rfl rfl ?_
  refine z_iconst hC ic_0 dX12_law_1 ?_
  refine z_putI hC FX12 0 lk_1355 dX12_law_2 (by decide) rfl rfl hw (fun S hw => ?_)
  refine z_aload_n hC dX12_law_5 rfl rfl ?_
  refine z_getP hC FX12 3 lk_1358 dX12_law_6 (by decide) hw (fun x6 hw => ?_)
  refine z_iconst hC ic_3 dX12_law_9 ?_
  refine z_aldI hC dX12_law_10 hw (fun x10 hw => ?_)
  refine z_bipush hC bi_6 dX12_law_11 ?_
  refine z_icmp_ne (tgt := 28) hC dX12_law_13 (by decide) (fun c13 => ?_) (fun c13 => ?_)
  · have hw := hw.1 c13
    refine z_aload_n hC dX12_law_28 rfl rfl ?_
    refine z_iconst hC ic_0 dX12_law_29 ?_
    refine z_callV (ku' := 0) (kv' := 0) (n := 1) (As := [.int 0]) (st := []) hC (c_X12_beginText l G B S v0 0 _) hw.2 hw.1 rfl lk_1721 lk_1723 lk_63 lk_133 lk_1724 hd_X12_beginText rfl rfl (Nat.le_of_ble_eq_true rfl) (Nat.le_of_ble_eq_true rfl) rfl (Nat.le_of_ble_eq_true rfl) dX12_law_30 (Nat.le_refl 0) (Nat.le_refl 0) (kV (fun S hw => ?_))
    refine z_aload_n hC dX12_law_33 rfl rfl ?_
    refine z_callV (ku' := 0) (kv' := 0) (n := 0) (As := []) (st := []) hC (c_X12_readLaw l G B S v0 _) hw.2 hw.1 rfl lk_1743 lk_1745 lk_66 lk_133 lk_1746 hd_X12_readLaw rfl rfl (Nat.le_of_ble_eq_true rfl) (Nat.le_of_ble_eq_true rfl) rfl (Nat.le_of_ble_eq_true rfl) dX12_law_34 (Nat.le_refl 0) (Nat.le_refl 0) (kV (fun S hw => ?_))
    refine z_mask (lv' := [some (.ref v0), none, none]) [true, false, false] rfl ?_
    obtain ⟨n37, hw⟩ := hw
    exact t_X12_law_b37 hC hr hlk hnm n37 hw
  · have hw := hw.2 c13
    refine z_aload_n hC dX12_law_16 rfl rfl ?_
    refine z_iconst hC ic_0 dX12_law_17 ?_
    refine z_putI hC FX12 13 lk_1368 dX12_law_18 (by decide) rfl rfl hw (fun S hw => ?_)
    refine z_aload_n hC dX12_law_21 rfl rfl ?_
    refine z_bipush hC bi_m5 dX12_law_22 ?_
    refine z_callV (ku' := 0) (kv' := 0) (n := 1) (As := [.int (-5)]) (st := []) hC (c_X12_tell l G B S v0 (-5) _) hw.2 hw.1 rfl lk_1544 lk_1546 lk_41 lk_133 lk_1547 hd_X12_tell rfl rfl (Nat.le_of_ble_eq_true rfl) (Nat.le_of_ble_eq_true rfl) rfl (Nat.le_of_ble_eq_true rfl) dX12_law_24 (Nat.le_refl 0) (Nat.le_refl 0) (kI (fun x24 S hw => ?_))
    exact z_iret hC hr hlk dX12_law_27 ⟨_, rfl, hw⟩
end
section
variable {p : Program} {l : Launch} {e : Env} {R : Room} {s : State} {m : MethodId} {args : Array Value} {below : List Frame} {meth : Method} {c : Code} {G : hG} {B mc ms : Nat}
def w_X12_force_b28 (q : Int32 → hS → Prop) (S : hS) (v0 : Nat) (v1 : Int32) : Prop := oK S v0 12 ∧ w_X12_change (fun x31 S => q x31 S) S v0 4 v1
set_option maxRecDepth 100000 in
set_option maxHeartbeats 4000000 in
theorem t_X12_force_b28 (hC : zC p R s m args c cX12_force 2 RX12 G B mc ms 2 85) (hr : meth.sig.returnType = (Option.some FieldType.int)) (hlk : meth.locks = false) (hnm : meth.name = "force") {q : Int32 → hS → Prop} {S : hS} {v0 : Nat} {v1 : Int32} (hw : w_X12_force_b28 q S v0 v1) : Z p l e R s m args below meth c (MQ below (hQ G B (iP q)) args s mc ms (fun r => B ≤ r)) G B mc ms 2 S 0 0 28 [some (.ref v0), some (.int v1)] [] := by
  unfold w_X12_force_b28 at hw
  refine z_aload_n hC dX12_force_28 rfl rfl ?_
  refine z_iconst hC ic_4 dX12_force_29 ?_
  refine z_iload_n hC dX12_force_30 rfl rfl ?_
  refine z_callV (ku' := 0) (kv' := 0) (n := 2) (As := [.int 4, .int v1]) (st := []) hC (c_X12_change l G B S v0 4 v1 _) hw.2 hw.1 rfl lk_1660 lk_1662 lk_57 lk_133 lk_1663 hd_X12_change rfl rfl (Nat.le_of_ble_eq_true rfl) (Nat.le_of_ble_eq_true rfl) rfl (Nat.le_of_ble_eq_true rfl) dX12_force_31 (Nat.le_refl 0) (Nat.le_refl 0) (kI (fun x31 S hw => ?_))
  refine z_goto (tgt := 43) hC dX12_force_34 (by decide) ?_
  exact z_iret hC hr hlk dX12_force_43 ⟨_, rfl, hw⟩
def w_X12_force (q : Int32 → hS → Prop) (S : hS) (v0 : Nat) (v1 : Int32) : Prop := pI S v0 12 0 0 (fun S => (v1 = (-1) → w_X12_force_b28 q S v0 v1) ∧ (¬ v1 = (-1) → gP S v0 12 3 (fun x14 => aI S x14 3 (fun x18 => w_X12_in (fun x22 S => (x22 = 0 → oK S v0 12 ∧ w_X12_tell (fun x40 S => q x40 S) S v0 (-2)) ∧ (¬ x22 = 0 → w_X12_force_b28 q S v0 v1)) S (Int32.toInt64 v1) 0 ((Int32.toInt64 x18) - 1)))))
set_option maxRecDepth 100000 in
set_option maxHeartbeats 4000000 in
theorem c_X12_force (l : Launch) (G : hG) (B : Nat) (S : hS) (v0 : Nat) (v1 : Int32) (q : Int32 → hS → Prop) : Met l yX12_force (hws yX12_force cX12_force 2 (Option.some FieldType.int)) ({ frames := 2, cells := 0, slots := 0, locals := 85 }) (hPc G B S [.ref v0, .int v1] (w_X12_force q S v0 v1)) (hQ G B (iP q)) (0) (0) (fun r => B ≤ r) := by
  refine hMet (rm := { frames := 2, cells := 0, slots := 0, locals := 85 }) (lv := [some (.ref v0), some (.int v1)]) (own := RX12) (fr := 2) (lo := 85) (by decide) rfl rfl rfl (Nat.le_of_ble_eq_true rfl) rfl (fun hw p e R s m args below meth c hC hr hlk hnm => ?_)
  unfold w_X12_force at hw
  refine z_aload_n hC dX12_force_0 rfl rfl ?_
  refine z_iconst hC ic_0 dX12_force_1 ?_
  refine z_putI hC FX12 0 lk_1355 dX12_force_2 (by decide) rfl rfl hw (fun S hw => ?_)
  refine z_iload_n hC dX12_force_5 rfl rfl ?_
  refine z_iconst hC ic_m1 dX12_force_6 ?_
  refine z_icmp_eq (tgt := 28) hC dX12_force_7 (by decide) (fun c7 => ?_) (fun c7 => ?_)
  · have hw := hw.1 c7
    refine z_mask (lv' := [some (.ref v0), some (.int v1)]) [true, true] rfl ?_
    exact t_X12_force_b28 hC hr hlk hnm hw
  · have hw := hw.2 c7
    refine z_iload_n hC dX12_force_10 rfl rfl ?_
    refine z_i2l hC rfl dX12_force_11 ?_
    refine z_lconst hC lc_0 dX12_force_12 ?_
    refine z_aload_n hC dX12_force_13 rfl rfl ?_
    refine z_getP hC FX12 3 lk_1358 dX12_force_14 (by decide) hw (fun x14 hw => ?_)
    refine z_iconst hC ic_3 dX12_force_17 ?_
    refine z_aldI hC dX12_force_18 hw (fun x18 hw => ?_)
    refine z_i2l hC rfl dX12_force_19 ?_
    refine z_lconst hC lc_1 dX12_force_20 ?_
    refine z_lsub hC dX12_force_21 ?_
    refine z_callS (ku' := 0) (kv' := 0) (n := 3) (As := [.long (Int32.toInt64 v1), .long 0, .long ((Int32.toInt64 x18) - 1)]) (st := []) hC (c_X12_in l G B S (Int32.toInt64 v1) 0 ((Int32.toInt64 x18) - 1) _) hw lk_1556 lk_1557 lk_133 lk_1558 hd_X12_in rfl rfl (Nat.le_of_ble_eq_true rfl) (Nat.le_of_ble_eq_true rfl) rfl (Nat.le_of_ble_eq_true rfl) dX12_force_22 (Nat.le_refl 0) (Nat.le_refl 0) (kI (fun x22 S hw => ?_))
    refine z_if_eq (tgt := 37) hC dX12_force_25 (by decide) (fun c25 => ?_) (fun c25 => ?_)
    · have hw := hw.1 c25
      refine z_aload_n hC dX12_force_37 rfl rfl ?_
      refine z_bipush hC bi_m2 dX12_force_38 ?_
      refine z_callV (ku' := 0) (kv' := 0) (n := 1) (As := [.int (-2)]) (st := []) hC (c_X12_tell l G B S v0 (-2) _) hw.2 hw.1 rfl lk_1544 lk_1546 lk_41 lk_133 lk_1547 hd_X12_tell rfl rfl (Nat.le_of_ble_eq_true rfl) (Nat.le_of_ble_eq_true rfl) rfl (Nat.le_of_ble_eq_true rfl) dX12_force_40 (Nat.le_refl 0) (Nat.le_refl 0) (kI (fun x40 S hw => ?_))
      exact z_iret hC hr hlk dX12_force_43 ⟨_, rfl, hw⟩
    · have hw := hw.2 c25
      refine z_mask (lv' := [some (.ref v0), some (.int v1)]) [true, true] rfl ?_
      exact t_X12_force_b28 hC hr hlk hnm hw
end
section
variable {p : Program} {l : Launch} {e : Env} {R : Room} {s : State} {m : MethodId} {args : Array Value} {below : List Frame} {meth : Method} {c : Code} {G : hG} {B mc ms : Nat}
def w_X12_costsOf (q : Int32 → hS → Prop) (S : hS) (v0 : Nat) (v1 : Int32) (v2 : Int32) (v3 : Int32) : Prop := oK S v0 12 ∧ w_X12_yearNow (fun x5 S => oK S v0 12 ∧ w_X12_tells (fun x12 S => w_X12_within (fun x19 S => q x19 S) S x12 0 999) S v0 1 v1 v3 x5 v2 5) S v0
set_option maxRecDepth 100000 in
set_option maxHeartbeats 4000000 in
theorem c_X12_costsOf (l : Launch) (G : hG) (B : Nat) (S : hS) (v0 : Nat) (v1 : Int32) (v2 : Int32) (v3 : Int32) (q : Int32 → hS → Prop) : Met l yX12_costsOf (hws yX12_costsOf cX12_costsOf 4 (Option.some FieldType.int)) ({ frames := 7, cells := 0, slots := 0, locals := 205 }) (hPc G B S [.ref v0, .int v1, .int v2, .int v3] (w_X12_costsOf q S v0 v1 v2 v3)) (hQ G B (iP q)) (0) (0) (fun r => B ≤ r) := by
  refine hMet (rm := { frames := 7, cells := 0, slots := 0, locals := 205 }) (lv := [some (.ref v0), some (.int v1), some (.int v2), some (.int v3)]) (own := RX12) (fr := 7) (lo := 205) (by decide) rfl rfl rfl (Nat.le_of_ble_eq_true rfl) rfl (fun hw p e R s m args below meth c hC hr hlk hnm => ?_)
  unfold w_X12_costsOf at hw
  refine z_aload_n hC dX12_costsOf_0 rfl rfl ?_
  refine z_iconst hC ic_1 dX12_costsOf_1 ?_
  refine z_iload_n hC dX12_costsOf_2 rfl rfl ?_
  refine z_iload_n hC dX12_costsOf_3 rfl rfl ?_
  refine z_aload_n hC dX12_costsOf_4 rfl rfl ?_
  refine z_callV (ku' := 0) (kv' := 0) (n := 0) (As := []) (st := [.int v3, .int v1, .int 1, .ref v0]) hC (c_X12_yearNow l G B S v0 _) hw.2 hw.1 rfl lk_1680 lk_1682 lk_60 lk_133 lk_1683 hd_X12_yearNow rfl rfl (Nat.le_of_ble_eq_true rfl) (Nat.le_of_ble_eq_true rfl) rfl (Nat.le_of_ble_eq_true rfl) dX12_costsOf_5 (Nat.le_refl 0) (Nat.le_refl 0) (kI (fun x5 S hw => ?_))
  refine z_iload_n hC dX12_costsOf_8 rfl rfl ?_
  refine z_ldc2 hC lk_1797 dX12_costsOf_9 ?_
  refine z_callV (ku' := 0) (kv' := 0) (n := 6) (As := [.int 1, .int v1, .int v3, .int x5, .int v2, .long 5]) (st := []) hC (c_X12_tells l G B S v0 1 v1 v3 x5 v2 5 _) hw.2 hw.1 rfl lk_1597 lk_1599 lk_48 lk_133 lk_1600 hd_X12_tells rfl rfl (Nat.le_of_ble_eq_true rfl) (Nat.le_of_ble_eq_true rfl) rfl (Nat.le_of_ble_eq_true rfl) dX12_costsOf_12 (Nat.le_refl 0) (Nat.le_refl 0) (kJ (fun x12 S hw => ?_))
  refine z_iconst hC ic_0 dX12_costsOf_15 ?_
  refine z_sipush hC si_999 dX12_costsOf_16 ?_
  refine z_callS (ku' := 0) (kv' := 0) (n := 3) (As := [.long x12, .int 0, .int 999]) (st := []) hC (c_X12_within l G B S x12 0 999 _) hw lk_1628 lk_1629 lk_133 lk_1630 hd_X12_within rfl rfl (Nat.le_of_ble_eq_true rfl) (Nat.le_of_ble_eq_true rfl) rfl (Nat.le_of_ble_eq_true rfl) dX12_costsOf_19 (Nat.le_refl 0) (Nat.le_refl 0) (kI (fun x19 S hw => ?_))
  exact z_iret hC hr hlk dX12_costsOf_22 ⟨_, rfl, hw⟩
end
section
variable {p : Program} {l : Launch} {e : Env} {R : Room} {s : State} {m : MethodId} {args : Array Value} {below : List Frame} {meth : Method} {c : Code} {G : hG} {B mc ms : Nat}
def w_X12_isBarred (q : Int32 → hS → Prop) (S : hS) (v0 : Nat) (v1 : Int32) (v2 : Int32) (v3 : Int32) : Prop := oK S v0 12 ∧ w_X12_yearNow (fun x5 S => oK S v0 12 ∧ w_X12_tells (fun x10 S => (¬ (lg_cmp x10 1) = 0 → q 0 S) ∧ ((lg_cmp x10 1) = 0 → q 1 S)) S v0 4 v1 v3 x5 v2 0) S v0
set_option maxRecDepth 100000 in
set_option maxHeartbeats 4000000 in
theorem c_X12_isBarred (l : Launch) (G : hG) (B : Nat) (S : hS) (v0 : Nat) (v1 : Int32) (v2 : Int32) (v3 : Int32) (q : Int32 → hS → Prop) : Met l yX12_isBarred (hws yX12_isBarred cX12_isBarred 4 (Option.some FieldType.boolean)) ({ frames := 7, cells := 0, slots := 0, locals := 205 }) (hPc G B S [.ref v0, .int v1, .int v2, .int v3] (w_X12_isBarred q S v0 v1 v2 v3)) (hQ G B (iP q)) (0) (0) (fun r => B ≤ r) := by
  refine hMet (rm := { frames := 7, cells := 0, slots := 0, locals := 205 }) (lv := [some (.ref v0), some (.int v1), some (.int v2), some (.int v3)]) (own := RX12) (fr := 7) (lo := 205) (by decide) rfl rfl rfl (Nat.le_of_ble_eq_true rfl) rfl (fun hw p e R s m args below meth c hC hr hlk hnm => ?_)
  unfold w_X12_isBarred at hw
  refine z_aload_n hC dX12_isBarred_0 rfl rfl ?_
  refine z_iconst hC ic_4 dX12_isBarred_1 ?_
  refine z_iload_n hC dX12_isBarred_2 rfl rfl ?_
  refine z_iload_n hC dX12_isBarred_3 rfl rfl ?_
  refine z_aload_n hC dX12_isBarred_4 rfl rfl ?_
  refine z_callV (ku' := 0) (kv' := 0) (n := 0) (As := []) (st := [.int v3, .int v1, .int 4, .ref v0]) hC (c_X12_yearNow l G B S v0 _) hw.2 hw.1 rfl lk_1680 lk_1682 lk_60 lk_133 lk_1683 hd_X12_yearNow rfl rfl (Nat.le_of_ble_eq_true rfl) (Nat.le_of_ble_eq_true rfl) rfl (Nat.le_of_ble_eq_true rfl) dX12_isBarred_5 (Nat.le_refl 0) (Nat.le_refl 0) (kI (fun x5 S hw => ?_))
  refine z_iload_n hC dX12_isBarred_8 rfl rfl ?_
  refine z_lconst hC lc_0 dX12_isBarred_9 ?_
  refine z_callV (ku' := 0) (kv' := 0) (n := 6) (As := [.int 4, .int v1, .int v3, .int x5, .int v2, .long 0]) (st := []) hC (c_X12_tells l G B S v0 4 v1 v3 x5 v2 0 _) hw.2 hw.1 rfl lk_1597 lk_1599 lk_48 lk_133 lk_1600 hd_X12_tells rfl rfl (Nat.le_of_ble_eq_true rfl) (Nat.le_of_ble_eq_true rfl) rfl (Nat.le_of_ble_eq_true rfl) dX12_isBarred_10 (Nat.le_refl 0) (Nat.le_refl 0) (kJ (fun x10 S hw => ?_))
  refine z_lconst hC lc_1 dX12_isBarred_13 ?_
  refine z_lcmp hC dX12_isBarred_14 ?_
  refine z_if_ne (tgt := 22) hC dX12_isBarred_15 (by decide) (fun c15 => ?_) (fun c15 => ?_)
  · have hw := hw.1 c15
    refine z_iconst hC ic_0 dX12_isBarred_22 ?_
    exact z_zret hC hr hlk (hz01 (Or.inl rfl)).1 dX12_isBarred_23 ⟨_, rfl, hw⟩
  · have hw := hw.2 c15
    refine z_iconst hC ic_1 dX12_isBarred_18 ?_
    refine z_goto (tgt := 23) hC dX12_isBarred_19 (by decide) ?_
    exact z_zret hC hr hlk (hz01 (Or.inr rfl)).1 dX12_isBarred_23 ⟨_, rfl, hw⟩
end
section
variable {p : Program} {l : Launch} {e : Env} {R : Room} {s : State} {m : MethodId} {args : Array Value} {below : List Frame} {meth : Method} {c : Code} {G : hG} {B mc ms : Nat}
def w_X12_canBuy (q : Int32 → hS → Prop) (S : hS) (v0 : Nat) (v1 : Int32) (v2 : Int32) (v3 : Int32) : Prop := (v1 = v2 → q 0 S) ∧ (¬ v1 = v2 → oK S v0 12 ∧ w_X12_lives (fun x7 S => (x7 = 0 → q 0 S) ∧ (¬ x7 = 0 → oK S v0 12 ∧ w_X12_lives (fun x15 S => (x15 = 0 → q 0 S) ∧ (¬ x15 = 0 → oK S v0 12 ∧ w_X12_isBarred (fun x25 S => (¬ x25 = 0 → q 0 S) ∧ (x25 = 0 → oK S v0 12 ∧ w_X12_rights (fun x34 S => (99 ≤ x34 → q 0 S) ∧ (¬ 99 ≤ x34 → gP S v0 12 3 (fun x43 => aI S x43 (14 + v2) (fun x50 => oK S v0 12 ∧ w_X12_costsOf (fun x55 S => (x50 < x55 → q 0 S) ∧ (¬ x50 < x55 → q 1 S)) S v0 v1 v2 v3)))) S v0 v2 v3)) S v0 v1 v2 v3)) S v0 v2)) S v0 v1)
set_option maxRecDepth 100000 in
set_option maxHeartbeats 4000000 in
theorem c_X12_canBuy (l : Launch) (G : hG) (B : Nat) (S : hS) (v0 : Nat) (v1 : Int32) (v2 : Int32) (v3 : Int32) (q : Int32 → hS → Prop) : Met l yX12_canBuy (hws yX12_canBuy cX12_canBuy 4 (Option.some FieldType.boolean)) ({ frames := 8, cells := 0, slots := 0, locals := 228 }) (hPc G B S [.ref v0, .int v1, .int v2, .int v3] (w_X12_canBuy q S v0 v1 v2 v3)) (hQ G B (iP q)) (0) (0) (fun r => B ≤ r) := by
  refine hMet (rm := { frames := 8, cells := 0, slots := 0, locals := 228 }) (lv := [some (.ref v0), some (.int v1), some (.int v2), some (.int v3)]) (own := RX12) (fr := 8) (lo := 228) (by decide) rfl rfl rfl (Nat.le_of_ble_eq_true rfl) rfl (fun hw p e R s m args below meth c hC hr hlk hnm => ?_)
  unfold w_X12_canBuy at hw
  refine z_iload_n hC dX12_canBuy_0 rfl rfl ?_
  refine z_iload_n hC dX12_canBuy_1 rfl rfl ?_
  refine z_icmp_eq (tgt := 65) hC dX12_canBuy_2 (by decide) (fun c2 => ?_) (fun c2 => ?_)
  · have hw := hw.1 c2
    refine z_iconst hC ic_0 dX12_canBuy_65 ?_
    exact z_zret hC hr hlk (hz01 (Or.inl rfl)).1 dX12_canBuy_66 ⟨_, rfl, hw⟩
  · have hw := hw.2 c2
    refine z_aload_n hC dX12_canBuy_5 rfl rfl ?_
    refine z_iload_n hC dX12_canBuy_6 rfl rfl ?_
    refine z_callV (ku' := 0) (kv' := 0) (n := 1) (As := [.int v1]) (st := []) hC (c_X12_lives l G B S v0 v1 _) hw.2 hw.1 rfl lk_1644 lk_1646 lk_56 lk_133 lk_1647 hd_X12_lives rfl rfl (Nat.le_of_ble_eq_true rfl) (Nat.le_of_ble_eq_true rfl) rfl (Nat.le_of_ble_eq_true rfl) dX12_canBuy_7 (Nat.le_refl 0) (Nat.le_refl 0) (kI (fun x7 S hw => ?_))
    refine z_if_eq (tgt := 65) hC dX12_canBuy_10 (by decide) (fun c10 => ?_) (fun c10 => ?_)
    · have hw := hw.1 c10
      refine z_iconst hC ic_0 dX12_canBuy_65 ?_
      exact z_zret hC hr hlk (hz01 (Or.inl rfl)).1 dX12_canBuy_66 ⟨_, rfl, hw⟩
    · have hw := hw.2 c10
      refine z_aload_n hC dX12_canBuy_13 rfl rfl ?_
      refine z_iload_n hC dX12_canBuy_14 rfl rfl ?_
      refine z_callV (ku' := 0) (kv' := 0) (n := 1) (As := [.int v2]) (st := []) hC (c_X12_lives l G B S v0 v2 _) hw.2 hw.1 rfl lk_1644 lk_1646 lk_56 lk_133 lk_1647 hd_X12_lives rfl rfl (Nat.le_of_ble_eq_true rfl) (Nat.le_of_ble_eq_true rfl) rfl (Nat.le_of_ble_eq_true rfl) dX12_canBuy_15 (Nat.le_refl 0) (Nat.le_refl 0) (kI (fun x15 S hw => ?_))
      refine z_if_eq (tgt := 65) hC dX12_canBuy_18 (by decide) (fun c18 => ?_) (fun c18 => ?_)
      · have hw := hw.1 c18
        refine z_iconst hC ic_0 dX12_canBuy_65 ?_
        exact z_zret hC hr hlk (hz01 (Or.inl rfl)).1 dX12_canBuy_66 ⟨_, rfl, hw⟩
      · have hw := hw.2 c18
        refine z_aload_n hC dX12_canBuy_21 rfl rfl ?_
        refine z_iload_n hC dX12_canBuy_22 rfl rfl ?_
        refine z_iload_n hC dX12_canBuy_23 rfl rfl ?_
        refine z_iload_n hC dX12_canBuy_24 rfl rfl ?_
        refine z_callV (ku' := 0) (kv' := 0) (n := 3) (As := [.int v1, .int v2, .int v3]) (st := []) hC (c_X12_isBarred l G B S v0 v1 v2 v3 _) hw.2 hw.1 rfl lk_1844 lk_1846 lk_86 lk_133 lk_1847 hd_X12_isBarred rfl rfl (Nat.le_of_ble_eq_true rfl) (Nat.le_of_ble_eq_true rfl) rfl (Nat.le_of_ble_eq_true rfl) dX12_canBuy_25 (Nat.le_refl 0) (Nat.le_refl 0) (kI (fun x25 S hw => ?_))
        refine z_if_ne (tgt := 65) hC dX12_canBuy_28 (by decide) (fun c28 => ?_) (fun c28 => ?_)
        · have hw := hw.1 c28
          refine z_iconst hC ic_0 dX12_canBuy_65 ?_
          exact z_zret hC hr hlk (hz01 (Or.inl rfl)).1 dX12_canBuy_66 ⟨_, rfl, hw⟩
        · have hw := hw.2 c28
          refine z_aload_n hC dX12_canBuy_31 rfl rfl ?_
          refine z_iload_n hC dX12_canBuy_32 rfl rfl ?_
          refine z_iload_n hC dX12_canBuy_33 rfl rfl ?_
          refine z_callV (ku' := 0) (kv' := 0) (n := 2) (As := [.int v2, .int v3]) (st := []) hC (c_X12_rights l G B S v0 v2 v3 _) hw.2 hw.1 rfl lk_1588 lk_1590 lk_46 lk_133 lk_1591 hd_X12_rights rfl rfl (Nat.le_of_ble_eq_true rfl) (Nat.le_of_ble_eq_true rfl) rfl (Nat.le_of_ble_eq_true rfl) dX12_canBuy_34 (Nat.le_refl 0) (Nat.le_refl 0) (kI (fun x34 S hw => ?_))
          refine z_bipush hC bi_99 dX12_canBuy_37 ?_
          refine z_icmp_ge (tgt := 65) hC dX12_canBuy_39 (by decide) (fun c39 => ?_) (fun c39 => ?_)
          · have hw := hw.1 c39
            refine z_iconst hC ic_0 dX12_canBuy_65 ?_
            exact z_zret hC hr hlk (hz01 (Or.inl rfl)).1 dX12_canBuy_66 ⟨_, rfl, hw⟩
          · have hw := hw.2 c39
            refine z_aload_n hC dX12_canBuy_42 rfl rfl ?_
            refine z_getP hC FX12 3 lk_1358 dX12_canBuy_43 (by decide) hw (fun x43 hw => ?_)
            refine z_bipush hC bi_14 dX12_canBuy_46 ?_
            refine z_iload_n hC dX12_canBuy_48 rfl rfl ?_
            refine z_iadd hC dX12_canBuy_49 ?_
            refine z_aldI hC dX12_canBuy_50 hw (fun x50 hw => ?_)
            refine z_aload_n hC dX12_canBuy_51 rfl rfl ?_
            refine z_iload_n hC dX12_canBuy_52 rfl rfl ?_
            refine z_iload_n hC dX12_canBuy_53 rfl rfl ?_
            refine z_iload_n hC dX12_canBuy_54 rfl rfl ?_
            refine z_callV (ku' := 0) (kv' := 0) (n := 3) (As := [.int v1, .int v2, .int v3]) (st := [.int x50]) hC (c_X12_costsOf l G B S v0 v1 v2 v3 _) hw.2 hw.1 rfl lk_1856 lk_1858 lk_89 lk_133 lk_1859 hd_X12_costsOf rfl rfl (Nat.le_of_ble_eq_true rfl) (Nat.le_of_ble_eq_true rfl) rfl (Nat.le_of_ble_eq_true rfl) dX12_canBuy_55 (Nat.le_refl 0) (Nat.le_refl 0) (kI (fun x55 S hw => ?_))
            refine z_icmp_lt (tgt := 65) hC dX12_canBuy_58 (by decide) (fun c58 => ?_) (fun c58 => ?_)
            · have hw := hw.1 c58
              refine z_iconst hC ic_0 dX12_canBuy_65 ?_
              exact z_zret hC hr hlk (hz01 (Or.inl rfl)).1 dX12_canBuy_66 ⟨_, rfl, hw⟩
            · have hw := hw.2 c58
              refine z_iconst hC ic_1 dX12_canBuy_61 ?_
              refine z_goto (tgt := 66) hC dX12_canBuy_62 (by decide) ?_
              exact z_zret hC hr hlk (hz01 (Or.inr rfl)).1 dX12_canBuy_66 ⟨_, rfl, hw⟩
end
section
variable {p : Program} {l : Launch} {e : Env} {R : Room} {s : State} {m : MethodId} {args : Array Value} {below : List Frame} {meth : Method} {c : Code} {G : hG} {B mc ms : Nat}
def w_X12_canSell (q : Int32 → hS → Prop) (S : hS) (v0 : Nat) (v1 : Int32) (v2 : Int32) (v3 : Int32) : Prop := oK S v0 12 ∧ w_X12_leftOf (fun x3 S => (x3 ≤ 0 → q 0 S) ∧ (¬ x3 ≤ 0 → oK S v0 12 ∧ w_X12_canBuy (fun x13 S => (x13 = 0 → q 0 S) ∧ (¬ x13 = 0 → q 1 S)) S v0 v1 v2 v3)) S v0 v1 v3
set_option maxRecDepth 100000 in
set_option maxHeartbeats 4000000 in
theorem c_X12_canSell (l : Launch) (G : hG) (B : Nat) (S : hS) (v0 : Nat) (v1 : Int32) (v2 : Int32) (v3 : Int32) (q : Int32 → hS → Prop) : Met l yX12_canSell (hws yX12_canSell cX12_canSell 4 (Option.some FieldType.boolean)) ({ frames := 9, cells := 0, slots := 0, locals := 251 }) (hPc G B S [.ref v0, .int v1, .int v2, .int v3] (w_X12_canSell q S v0 v1 v2 v3)) (hQ G B (iP q)) (0) (0) (fun r => B ≤ r) := by
  refine hMet (rm := { frames := 9, cells := 0, slots := 0, locals := 251 }) (lv := [some (.ref v0), some (.int v1), some (.int v2), some (.int v3)]) (own := RX12) (fr := 9) (lo := 251) (by decide) rfl rfl rfl (Nat.le_of_ble_eq_true rfl) rfl (fun hw p e R s m args below meth c hC hr hlk hnm => ?_)
  unfold w_X12_canSell at hw
  refine z_aload_n hC dX12_canSell_0 rfl rfl ?_
  refine z_iload_n hC dX12_canSell_1 rfl rfl ?_
  refine z_iload_n hC dX12_canSell_2 rfl rfl ?_
  refine z_callV (ku' := 0) (kv' := 0) (n := 2) (As := [.int v1, .int v3]) (st := []) hC (c_X12_leftOf l G B S v0 v1 v3 _) hw.2 hw.1 rfl lk_1602 lk_1604 lk_49 lk_133 lk_1605 hd_X12_leftOf rfl rfl (Nat.le_of_ble_eq_true rfl) (Nat.le_of_ble_eq_true rfl) rfl (Nat.le_of_ble_eq_true rfl) dX12_canSell_3 (Nat.le_refl 0) (Nat.le_refl 0) (kI (fun x3 S hw => ?_))
  refine z_if_le (tgt := 23) hC dX12_canSell_6 (by decide) (fun c6 => ?_) (fun c6 => ?_)
  · have hw := hw.1 c6
    refine z_iconst hC ic_0 dX12_canSell_23 ?_
    exact z_zret hC hr hlk (hz01 (Or.inl rfl)).1 dX12_canSell_24 ⟨_, rfl, hw⟩
  · have hw := hw.2 c6
    refine z_aload_n hC dX12_canSell_9 rfl rfl ?_
    refine z_iload_n hC dX12_canSell_10 rfl rfl ?_
    refine z_iload_n hC dX12_canSell_11 rfl rfl ?_
    refine z_iload_n hC dX12_canSell_12 rfl rfl ?_
    refine z_callV (ku' := 0) (kv' := 0) (n := 3) (As := [.int v1, .int v2, .int v3]) (st := []) hC (c_X12_canBuy l G B S v0 v1 v2 v3 _) hw.2 hw.1 rfl lk_1852 lk_1854 lk_88 lk_133 lk_1855 hd_X12_canBuy rfl rfl (Nat.le_of_ble_eq_true rfl) (Nat.le_of_ble_eq_true rfl) rfl (Nat.le_of_ble_eq_true rfl) dX12_canSell_13 (Nat.le_refl 0) (Nat.le_refl 0) (kI (fun x13 S hw => ?_))
    refine z_if_eq (tgt := 23) hC dX12_canSell_16 (by decide) (fun c16 => ?_) (fun c16 => ?_)
    · have hw := hw.1 c16
      refine z_iconst hC ic_0 dX12_canSell_23 ?_
      exact z_zret hC hr hlk (hz01 (Or.inl rfl)).1 dX12_canSell_24 ⟨_, rfl, hw⟩
    · have hw := hw.2 c16
      refine z_iconst hC ic_1 dX12_canSell_19 ?_
      refine z_goto (tgt := 24) hC dX12_canSell_20 (by decide) ?_
      exact z_zret hC hr hlk (hz01 (Or.inr rfl)).1 dX12_canSell_24 ⟨_, rfl, hw⟩
end
section
variable {p : Program} {l : Launch} {e : Env} {R : Room} {s : State} {m : MethodId} {args : Array Value} {below : List Frame} {meth : Method} {c : Code} {G : hG} {B mc ms : Nat}
def w_X12_asks_b72 (q : Int32 → hS → Prop) (S : hS) (v0 : Nat) (v1 : Int32) (v2 : Int32) (v3 : Int32) (v4 : Int32) (t0 : Int32) : Prop := (¬ v4 = 0 → (t0 = 0 → q 0 S) ∧ (¬ t0 = 0 → q 1 S)) ∧ (v4 = 0 → oK S v0 12 ∧ w_X12_costsOf (fun x83 S => q x83 S) S v0 v1 v2 v3)
set_option maxRecDepth 100000 in
set_option maxHeartbeats 4000000 in
theorem t_X12_asks_b72 (hC : zC p R s m args c cX12_asks 6 RX12 G B mc ms 10 274) (hr : meth.sig.returnType = (Option.some FieldType.int)) (hlk : meth.locks = false) (hnm : meth.name = "asks") {q : Int32 → hS → Prop} {S : hS} {v0 : Nat} {v1 : Int32} {v2 : Int32} {v3 : Int32} {v4 : Int32} {t0 : Int32} (hw : w_X12_asks_b72 q S v0 v1 v2 v3 v4 t0) : Z p l e R s m args below meth c (MQ below (hQ G B (iP q)) args s mc ms (fun r => B ≤ r)) G B mc ms 6 S 0 0 72 [some (.ref v0), some (.int v1), some (.int v2), some (.int v3), some (.int v4), none] [.int t0] := by
  unfold w_X12_asks_b72 at hw
  refine z_istore (i := 5) (lv' := [some (.ref v0), some (.int v1), some (.int v2), some (.int v3), some (.int v4), some (.int t0)]) hC dX12_asks_72 (by decide) (hok_v rfl rfl) rfl ?_
  refine z_iload hC dX12_asks_74 rfl ?_
  refine z_if_ne (tgt := 89) hC dX12_asks_76 (by decide) (fun c76 => ?_) (fun c76 => ?_)
  · have hw := hw.1 c76
    refine z_iload hC dX12_asks_89 rfl ?_
    refine z_if_eq (tgt := 98) hC dX12_asks_91 (by decide) (fun c91 => ?_) (fun c91 => ?_)
    · have hw := hw.1 c91
      refine z_iconst hC ic_0 dX12_asks_98 ?_
      exact z_iret hC hr hlk dX12_asks_99 ⟨_, rfl, hw⟩
    · have hw := hw.2 c91
      refine z_iconst hC ic_1 dX12_asks_94 ?_
      refine z_goto (tgt := 99) hC dX12_asks_95 (by decide) ?_
      exact z_iret hC hr hlk dX12_asks_99 ⟨_, rfl, hw⟩
  · have hw := hw.2 c76
    refine z_aload_n hC dX12_asks_79 rfl rfl ?_
    refine z_iload_n hC dX12_asks_80 rfl rfl ?_
    refine z_iload_n hC dX12_asks_81 rfl rfl ?_
    refine z_iload_n hC dX12_asks_82 rfl rfl ?_
    refine z_callV (ku' := 0) (kv' := 0) (n := 3) (As := [.int v1, .int v2, .int v3]) (st := []) hC (c_X12_costsOf l G B S v0 v1 v2 v3 _) hw.2 hw.1 rfl lk_1856 lk_1858 lk_89 lk_133 lk_1859 hd_X12_costsOf rfl rfl (Nat.le_of_ble_eq_true rfl) (Nat.le_of_ble_eq_true rfl) rfl (Nat.le_of_ble_eq_true rfl) dX12_asks_83 (Nat.le_refl 0) (Nat.le_refl 0) (kI (fun x83 S hw => ?_))
    refine z_goto (tgt := 99) hC dX12_asks_86 (by decide) ?_
    exact z_iret hC hr hlk dX12_asks_99 ⟨_, rfl, hw⟩
def w_X12_asks (q : Int32 → hS → Prop) (S : hS) (v0 : Nat) (v1 : Int32) (v2 : Int32) (v3 : Int32) (v4 : Int32) : Prop := pI S v0 12 0 0 (fun S => (v1 = v2 → q (-1) S) ∧ (¬ v1 = v2 → oK S v0 12 ∧ w_X12_isPerson (fun x12 S => (x12 = 0 → q (-1) S) ∧ (¬ x12 = 0 → oK S v0 12 ∧ w_X12_isPerson (fun x20 S => (x20 = 0 → q (-1) S) ∧ (¬ x20 = 0 → oK S v0 12 ∧ w_X12_isHouse (fun x28 S => (x28 = 0 → q (-1) S) ∧ (¬ x28 = 0 → w_X12_in (fun x41 S => (¬ x41 = 0 → (¬ v4 = 1 → oK S v0 12 ∧ w_X12_canSell (fun x69 S => w_X12_asks_b72 q S v0 v1 v2 v3 v4 x69) S v0 v1 v2 v3) ∧ (v4 = 1 → oK S v0 12 ∧ w_X12_isBarred (fun x59 S => w_X12_asks_b72 q S v0 v1 v2 v3 v4 x59) S v0 v1 v2 v3)) ∧ (x41 = 0 → q (-1) S)) S (Int32.toInt64 v4) 0 2)) S v0 v3)) S v0 v2)) S v0 v1))
set_option maxRecDepth 100000 in
set_option maxHeartbeats 4000000 in
theorem c_X12_asks (l : Launch) (G : hG) (B : Nat) (S : hS) (v0 : Nat) (v1 : Int32) (v2 : Int32) (v3 : Int32) (v4 : Int32) (q : Int32 → hS → Prop) : Met l yX12_asks (hws yX12_asks cX12_asks 6 (Option.some FieldType.int)) ({ frames := 10, cells := 0, slots := 0, locals := 274 }) (hPc G B S [.ref v0, .int v1, .int v2, .int v3, .int v4] (w_X12_asks q S v0 v1 v2 v3 v4)) (hQ G B (iP q)) (0) (0) (fun r => B ≤ r) := by
  refine hMet (rm := { frames := 10, cells := 0, slots := 0, locals := 274 }) (lv := [some (.ref v0), some (.int v1), some (.int v2), some (.int v3), some (.int v4), none]) (own := RX12) (fr := 10) (lo := 274) (by decide) rfl rfl rfl (Nat.le_of_ble_eq_true rfl) rfl (fun hw p e R s m args below meth c hC hr hlk hnm => ?_)
  unfold w_X12_asks at hw
  refine z_aload_n hC dX12_asks_0 rfl rfl ?_
  refine z_iconst hC ic_0 dX12_asks_1 ?_
  refine z_putI hC FX12 0 lk_1355 dX12_asks_2 (by decide) rfl rfl hw (fun S hw => ?_)
  refine z_iload_n hC dX12_asks_5 rfl rfl ?_
  refine z_iload_n hC dX12_asks_6 rfl rfl ?_
  refine z_icmp_eq (tgt := 47) hC dX12_asks_7 (by decide) (fun c7 => ?_) (fun c7 => ?_)
  · have hw := hw.1 c7
    refine z_iconst hC ic_m1 dX12_asks_47 ?_
    exact z_iret hC hr hlk dX12_asks_48 ⟨_, rfl, hw⟩
  · have hw := hw.2 c7
    refine z_aload_n hC dX12_asks_10 rfl rfl ?_
    refine z_iload_n hC dX12_asks_11 rfl rfl ?_
    refine z_callV (ku' := 0) (kv' := 0) (n := 1) (As := [.int v1]) (st := []) hC (c_X12_isPerson l G B S v0 v1 _) hw.2 hw.1 rfl lk_1614 lk_1616 lk_52 lk_133 lk_1617 hd_X12_isPerson rfl rfl (Nat.le_of_ble_eq_true rfl) (Nat.le_of_ble_eq_true rfl) rfl (Nat.le_of_ble_eq_true rfl) dX12_asks_12 (Nat.le_refl 0) (Nat.le_refl 0) (kI (fun x12 S hw => ?_))
    refine z_if_eq (tgt := 47) hC dX12_asks_15 (by decide) (fun c15 => ?_) (fun c15 => ?_)
    · have hw := hw.1 c15
      refine z_iconst hC ic_m1 dX12_asks_47 ?_
      exact z_iret hC hr hlk dX12_asks_48 ⟨_, rfl, hw⟩
    · have hw := hw.2 c15
      refine z_aload_n hC dX12_asks_18 rfl rfl ?_
      refine z_iload_n hC dX12_asks_19 rfl rfl ?_
      refine z_callV (ku' := 0) (kv' := 0) (n := 1) (As := [.int v2]) (st := []) hC (c_X12_isPerson l G B S v0 v2 _) hw.2 hw.1 rfl lk_1614 lk_1616 lk_52 lk_133 lk_1617 hd_X12_isPerson rfl rfl (Nat.le_of_ble_eq_true rfl) (Nat.le_of_ble_eq_true rfl) rfl (Nat.le_of_ble_eq_true rfl) dX12_asks_20 (Nat.le_refl 0) (Nat.le_refl 0) (kI (fun x20 S hw => ?_))
      refine z_if_eq (tgt := 47) hC dX12_asks_23 (by decide) (fun c23 => ?_) (fun c23 => ?_)
      · have hw := hw.1 c23
        refine z_iconst hC ic_m1 dX12_asks_47 ?_
        exact z_iret hC hr hlk dX12_asks_48 ⟨_, rfl, hw⟩
      · have hw := hw.2 c23
        refine z_aload_n hC dX12_asks_26 rfl rfl ?_
        refine z_iload_n hC dX12_asks_27 rfl rfl ?_
        refine z_callV (ku' := 0) (kv' := 0) (n := 1) (As := [.int v3]) (st := []) hC (c_X12_isHouse l G B S v0 v3 _) hw.2 hw.1 rfl lk_1580 lk_1582 lk_44 lk_133 lk_1583 hd_X12_isHouse rfl rfl (Nat.le_of_ble_eq_true rfl) (Nat.le_of_ble_eq_true rfl) rfl (Nat.le_of_ble_eq_true rfl) dX12_asks_28 (Nat.le_refl 0) (Nat.le_refl 0) (kI (fun x28 S hw => ?_))
        refine z_if_eq (tgt := 47) hC dX12_asks_31 (by decide) (fun c31 => ?_) (fun c31 => ?_)
        · have hw := hw.1 c31
          refine z_iconst hC ic_m1 dX12_asks_47 ?_
          exact z_iret hC hr hlk dX12_asks_48 ⟨_, rfl, hw⟩
        · have hw := hw.2 c31
          refine z_iload hC dX12_asks_34 rfl ?_
          refine z_i2l hC rfl dX12_asks_36 ?_
          refine z_lconst hC lc_0 dX12_asks_37 ?_
          refine z_ldc2 hC lk_1843 dX12_asks_38 ?_
          refine z_callS (ku' := 0) (kv' := 0) (n := 3) (As := [.long (Int32.toInt64 v4), .long 0, .long 2]) (st := []) hC (c_X12_in l G B S (Int32.toInt64 v4) 0 2 _) hw lk_1556 lk_1557 lk_133 lk_1558 hd_X12_in rfl rfl (Nat.le_of_ble_eq_true rfl) (Nat.le_of_ble_eq_true rfl) rfl (Nat.le_of_ble_eq_true rfl) dX12_asks_41 (Nat.le_refl 0) (Nat.le_refl 0) (kI (fun x41 S hw => ?_))
          refine z_if_ne (tgt := 49) hC dX12_asks_44 (by decide) (fun c44 => ?_) (fun c44 => ?_)
          · have hw := hw.1 c44
            refine z_iload hC dX12_asks_49 rfl ?_
            refine z_iconst hC ic_1 dX12_asks_51 ?_
            refine z_icmp_ne (tgt := 65) hC dX12_asks_52 (by decide) (fun c52 => ?_) (fun c52 => ?_)
            · have hw := hw.1 c52
              refine z_aload_n hC dX12_asks_65 rfl rfl ?_
              refine z_iload_n hC dX12_asks_66 rfl rfl ?_
              refine z_iload_n hC dX12_asks_67 rfl rfl ?_
              refine z_iload_n hC dX12_asks_68 rfl rfl ?_
              refine z_callV (ku' := 0) (kv' := 0) (n := 3) (As := [.int v1, .int v2, .int v3]) (st := []) hC (c_X12_canSell l G B S v0 v1 v2 v3 _) hw.2 hw.1 rfl lk_1848 lk_1850 lk_87 lk_133 lk_1851 hd_X12_canSell rfl rfl (Nat.le_of_ble_eq_true rfl) (Nat.le_of_ble_eq_true rfl) rfl (Nat.le_of_ble_eq_true rfl) dX12_asks_69 (Nat.le_refl 0) (Nat.le_refl 0) (kI (fun x69 S hw => ?_))
              refine z_mask (lv' := [some (.ref v0), some (.int v1), some (.int v2), some (.int v3), some (.int v4), none]) [true, true, true, true, true, false] rfl ?_
              exact t_X12_asks_b72 hC hr hlk hnm hw
            · have hw := hw.2 c52
              refine z_aload_n hC dX12_asks_55 rfl rfl ?_
              refine z_iload_n hC dX12_asks_56 rfl rfl ?_
              refine z_iload_n hC dX12_asks_57 rfl rfl ?_
              refine z_iload_n hC dX12_asks_58 rfl rfl ?_
              refine z_callV (ku' := 0) (kv' := 0) (n := 3) (As := [.int v1, .int v2, .int v3]) (st := []) hC (c_X12_isBarred l G B S v0 v1 v2 v3 _) hw.2 hw.1 rfl lk_1844 lk_1846 lk_86 lk_133 lk_1847 hd_X12_isBarred rfl rfl (Nat.le_of_ble_eq_true rfl) (Nat.le_of_ble_eq_true rfl) rfl (Nat.le_of_ble_eq_true rfl) dX12_asks_59 (Nat.le_refl 0) (Nat.le_refl 0) (kI (fun x59 S hw => ?_))
              refine z_goto (tgt := 72) hC dX12_asks_62 (by decide) ?_
              refine z_mask (lv' := [some (.ref v0), some (.int v1), some (.int v2), some (.int v3), some (.int v4), none]) [true, true, true, true, true, false] rfl ?_
              exact t_X12_asks_b72 hC hr hlk hnm hw
          · have hw := hw.2 c44
            refine z_iconst hC ic_m1 dX12_asks_47 ?_
            exact z_iret hC hr hlk dX12_asks_48 ⟨_, rfl, hw⟩
end
section
variable {p : Program} {l : Launch} {e : Env} {R : Room} {s : State} {m : MethodId} {args : Array Value} {below : List Frame} {meth : Method} {c : Code} {G : hG} {B mc ms : Nat}
def w_X12_canRing (q : Int32 → hS → Prop) (S : hS) (v0 : Nat) (v1 : Int32) (v2 : Int32) : Prop := oK S v0 12 ∧ w_X12_lives (fun x2 S => (x2 = 0 → q 0 S) ∧ (¬ x2 = 0 → oK S v0 12 ∧ w_X12_leftOf (fun x11 S => (x11 ≤ 0 → q 0 S) ∧ (¬ x11 ≤ 0 → q 1 S)) S v0 v1 v2)) S v0 v1
set_option maxRecDepth 100000 in
set_option maxHeartbeats 4000000 in
theorem c_X12_canRing (l : Launch) (G : hG) (B : Nat) (S : hS) (v0 : Nat) (v1 : Int32) (v2 : Int32) (q : Int32 → hS → Prop) : Met l yX12_canRing (hws yX12_canRing cX12_canRing 3 (Option.some FieldType.boolean)) ({ frames := 3, cells := 0, slots := 0, locals := 104 }) (hPc G B S [.ref v0, .int v1, .int v2] (w_X12_canRing q S v0 v1 v2)) (hQ G B (iP q)) (0) (0) (fun r => B ≤ r) := by
  refine hMet (rm := { frames := 3, cells := 0, slots := 0, locals := 104 }) (lv := [some (.ref v0), some (.int v1), some (.int v2)]) (own := RX12) (fr := 3) (lo := 104) (by decide) rfl rfl rfl (Nat.le_of_ble_eq_true rfl) rfl (fun hw p e R s m args below meth c hC hr hlk hnm => ?_)
  unfold w_X12_canRing at hw
  refine z_aload_n hC dX12_canRing_0 rfl rfl ?_
  refine z_iload_n hC dX12_canRing_1 rfl rfl ?_
  refine z_callV (ku' := 0) (kv' := 0) (n := 1) (As := [.int v1]) (st := []) hC (c_X12_lives l G B S v0 v1 _) hw.2 hw.1 rfl lk_1644 lk_1646 lk_56 lk_133 lk_1647 hd_X12_lives rfl rfl (Nat.le_of_ble_eq_true rfl) (Nat.le_of_ble_eq_true rfl) rfl (Nat.le_of_ble_eq_true rfl) dX12_canRing_2 (Nat.le_refl 0) (Nat.le_refl 0) (kI (fun x2 S hw => ?_))
  refine z_if_eq (tgt := 21) hC dX12_canRing_5 (by decide) (fun c5 => ?_) (fun c5 => ?_)
  · have hw := hw.1 c5
    refine z_iconst hC ic_0 dX12_canRing_21 ?_
    exact z_zret hC hr hlk (hz01 (Or.inl rfl)).1 dX12_canRing_22 ⟨_, rfl, hw⟩
  · have hw := hw.2 c5
    refine z_aload_n hC dX12_canRing_8 rfl rfl ?_
    refine z_iload_n hC dX12_canRing_9 rfl rfl ?_
    refine z_iload_n hC dX12_canRing_10 rfl rfl ?_
    refine z_callV (ku' := 0) (kv' := 0) (n := 2) (As := [.int v1, .int v2]) (st := []) hC (c_X12_leftOf l G B S v0 v1 v2 _) hw.2 hw.1 rfl lk_1602 lk_1604 lk_49 lk_133 lk_1605 hd_X12_leftOf rfl rfl (Nat.le_of_ble_eq_true rfl) (Nat.le_of_ble_eq_true rfl) rfl (Nat.le_of_ble_eq_true rfl) dX12_canRing_11 (Nat.le_refl 0) (Nat.le_refl 0) (kI (fun x11 S hw => ?_))
    refine z_if_le (tgt := 21) hC dX12_canRing_14 (by decide) (fun c14 => ?_) (fun c14 => ?_)
    · have hw := hw.1 c14
      refine z_iconst hC ic_0 dX12_canRing_21 ?_
      exact z_zret hC hr hlk (hz01 (Or.inl rfl)).1 dX12_canRing_22 ⟨_, rfl, hw⟩
    · have hw := hw.2 c14
      refine z_iconst hC ic_1 dX12_canRing_17 ?_
      refine z_goto (tgt := 22) hC dX12_canRing_18 (by decide) ?_
      exact z_zret hC hr hlk (hz01 (Or.inr rfl)).1 dX12_canRing_22 ⟨_, rfl, hw⟩
end
section
variable {p : Program} {l : Launch} {e : Env} {R : Room} {s : State} {m : MethodId} {args : Array Value} {below : List Frame} {meth : Method} {c : Code} {G : hG} {B mc ms : Nat}
def w_X12_ringIt (q : Int32 → hS → Prop) (S : hS) (v0 : Nat) (v1 : Int32) (v2 : Int32) : Prop := oK S v0 12 ∧ w_X12_isOpen (fun x3 S => oK S v0 12 ∧ w_X12_tiresOf (fun x10 S => gP S v0 12 3 (fun x16 => aI S x16 ((78 + (6 * v1)) + v2) (fun x29 => sI S x16 ((78 + (6 * v1)) + v2) (x29 + 1) (fun S => gP S v0 12 3 (fun x34 => gP S v0 12 3 (fun x42 => aI S x42 (8 + v2) (fun x49 => w_X12_within (fun x57 S => sI S x34 (8 + v2) x57 (fun S => (x3 = 0 → q 0 S) ∧ (¬ x3 = 0 → q 1 S))) S (Int32.toInt64 (x49 + x10)) 0 99))))))) S v0 v1 v2) S v0 v1 v2
set_option maxRecDepth 100000 in
set_option maxHeartbeats 4000000 in
theorem c_X12_ringIt (l : Launch) (G : hG) (B : Nat) (S : hS) (v0 : Nat) (v1 : Int32) (v2 : Int32) (q : Int32 → hS → Prop) : Met l yX12_ringIt (hws yX12_ringIt cX12_ringIt 5 (Option.some FieldType.int)) ({ frames := 8, cells := 0, slots := 0, locals := 227 }) (hPc G B S [.ref v0, .int v1, .int v2] (w_X12_ringIt q S v0 v1 v2)) (hQ G B (iP q)) (0) (0) (fun r => B ≤ r) := by
  refine hMet (rm := { frames := 8, cells := 0, slots := 0, locals := 227 }) (lv := [some (.ref v0), some (.int v1), some (.int v2), none, none]) (own := RX12) (fr := 8) (lo := 227) (by decide) rfl rfl rfl (Nat.le_of_ble_eq_true rfl) rfl (fun hw p e R s m args below meth c hC hr hlk hnm => ?_)
  unfold w_X12_ringIt at hw
  refine z_aload_n hC dX12_ringIt_0 rfl rfl ?_
  refine z_iload_n hC dX12_ringIt_1 rfl rfl ?_
  refine z_iload_n hC dX12_ringIt_2 rfl rfl ?_
  refine z_callV (ku' := 0) (kv' := 0) (n := 2) (As := [.int v1, .int v2]) (st := []) hC (c_X12_isOpen l G B S v0 v1 v2 _) hw.2 hw.1 rfl lk_1672 lk_1674 lk_58 lk_133 lk_1675 hd_X12_isOpen rfl rfl (Nat.le_of_ble_eq_true rfl) (Nat.le_of_ble_eq_true rfl) rfl (Nat.le_of_ble_eq_true rfl) dX12_ringIt_3 (Nat.le_refl 0) (Nat.le_refl 0) (kI (fun x3 S hw => ?_))
  refine z_istore_n (i := 3) (lv' := [some (.ref v0), some (.int v1), some (.int v2), some (.int x3), none]) hC rfl dX12_ringIt_6 (by decide) (hok_v rfl rfl) rfl ?_
  refine z_aload_n hC dX12_ringIt_7 rfl rfl ?_
  refine z_iload_n hC dX12_ringIt_8 rfl rfl ?_
  refine z_iload_n hC dX12_ringIt_9 rfl rfl ?_
  refine z_callV (ku' := 0) (kv' := 0) (n := 2) (As := [.int v1, .int v2]) (st := []) hC (c_X12_tiresOf l G B S v0 v1 v2 _) hw.2 hw.1 rfl lk_1684 lk_1686 lk_61 lk_133 lk_1687 hd_X12_tiresOf rfl rfl (Nat.le_of_ble_eq_true rfl) (Nat.le_of_ble_eq_true rfl) rfl (Nat.le_of_ble_eq_true rfl) dX12_ringIt_10 (Nat.le_refl 0) (Nat.le_refl 0) (kI (fun x10 S hw => ?_))
  refine z_istore (i := 4) (lv' := [some (.ref v0), some (.int v1), some (.int v2), some (.int x3), some (.int x10)]) hC dX12_ringIt_13 (by decide) (hok_v rfl rfl) rfl ?_
  refine z_aload_n hC dX12_ringIt_15 rfl rfl ?_
  refine z_getP hC FX12 3 lk_1358 dX12_ringIt_16 (by decide) hw (fun x16 hw => ?_)
  refine z_bipush hC bi_78 dX12_ringIt_19 ?_
  refine z_bipush hC bi_6 dX12_ringIt_21 ?_
  refine z_iload_n hC dX12_ringIt_23 rfl rfl ?_
  refine z_imul hC dX12_ringIt_24 ?_
  refine z_iadd hC dX12_ringIt_25 ?_
  refine z_iload_n hC dX12_ringIt_26 rfl rfl ?_
  refine z_iadd hC dX12_ringIt_27 ?_
  refine z_dup2_11 hC rfl rfl dX12_ringIt_28 ?_
  refine z_aldI hC dX12_ringIt_29 hw (fun x29 hw => ?_)
  refine z_iconst hC ic_1 dX12_ringIt_30 ?_
  refine z_iadd hC dX12_ringIt_31 ?_
  refine z_astI hC dX12_ringIt_32 hw (fun S hw => ?_)
  refine z_aload_n hC dX12_ringIt_33 rfl rfl ?_
  refine z_getP hC FX12 3 lk_1358 dX12_ringIt_34 (by decide) hw (fun x34 hw => ?_)
  refine z_bipush hC bi_8 dX12_ringIt_37 ?_
  refine z_iload_n hC dX12_ringIt_39 rfl rfl ?_
  refine z_iadd hC dX12_ringIt_40 ?_
  refine z_aload_n hC dX12_ringIt_41 rfl rfl ?_
  refine z_getP hC FX12 3 lk_1358 dX12_ringIt_42 (by decide) hw (fun x42 hw => ?_)
  refine z_bipush hC bi_8 dX12_ringIt_45 ?_
  refine z_iload_n hC dX12_ringIt_47 rfl rfl ?_
  refine z_iadd hC dX12_ringIt_48 ?_
  refine z_aldI hC dX12_ringIt_49 hw (fun x49 hw => ?_)
  refine z_iload hC dX12_ringIt_50 rfl ?_
  refine z_iadd hC dX12_ringIt_52 ?_
  refine z_i2l hC rfl dX12_ringIt_53 ?_
  refine z_iconst hC ic_0 dX12_ringIt_54 ?_
  refine z_bipush hC bi_99 dX12_ringIt_55 ?_
  refine z_callS (ku' := 0) (kv' := 0) (n := 3) (As := [.long (Int32.toInt64 (x49 + x10)), .int 0, .int 99]) (st := [.int (8 + v2), .ref x34]) hC (c_X12_within l G B S (Int32.toInt64 (x49 + x10)) 0 99 _) hw lk_1628 lk_1629 lk_133 lk_1630 hd_X12_within rfl rfl (Nat.le_of_ble_eq_true rfl) (Nat.le_of_ble_eq_true rfl) rfl (Nat.le_of_ble_eq_true rfl) dX12_ringIt_57 (Nat.le_refl 0) (Nat.le_refl 0) (kI (fun x57 S hw => ?_))
  refine z_astI hC dX12_ringIt_60 hw (fun S hw => ?_)
  refine z_iload_n hC dX12_ringIt_61 rfl rfl ?_
  refine z_if_eq (tgt := 69) hC dX12_ringIt_62 (by decide) (fun c62 => ?_) (fun c62 => ?_)
  · have hw := hw.1 c62
    refine z_iconst hC ic_0 dX12_ringIt_69 ?_
    exact z_iret hC hr hlk dX12_ringIt_70 ⟨_, rfl, hw⟩
  · have hw := hw.2 c62
    refine z_iconst hC ic_1 dX12_ringIt_65 ?_
    refine z_goto (tgt := 70) hC dX12_ringIt_66 (by decide) ?_
    exact z_iret hC hr hlk dX12_ringIt_70 ⟨_, rfl, hw⟩
end
section
variable {p : Program} {l : Launch} {e : Env} {R : Room} {s : State} {m : MethodId} {args : Array Value} {below : List Frame} {meth : Method} {c : Code} {G : hG} {B mc ms : Nat}
def w_X12_ringNow (q : Int32 → hS → Prop) (S : hS) (v0 : Nat) (v1 : Int32) (v2 : Int32) : Prop := oK S v0 12 ∧ w_X12_isPerson (fun x2 S => (x2 = 0 → q (-2) S) ∧ (¬ x2 = 0 → oK S v0 12 ∧ w_X12_isHouse (fun x10 S => (¬ x10 = 0 → oK S v0 12 ∧ w_X12_canRing (fun x22 S => (¬ x22 = 0 → oK S v0 12 ∧ w_X12_remember (fun S => oK S v0 12 ∧ w_X12_ringIt (fun x39 S => q x39 S) S v0 v1 v2) S v0 0) ∧ (x22 = 0 → q (-3) S)) S v0 v1 v2) ∧ (x10 = 0 → q (-2) S)) S v0 v2)) S v0 v1
set_option maxRecDepth 100000 in
set_option maxHeartbeats 4000000 in
theorem c_X12_ringNow (l : Launch) (G : hG) (B : Nat) (S : hS) (v0 : Nat) (v1 : Int32) (v2 : Int32) (q : Int32 → hS → Prop) : Met l yX12_ringNow (hws yX12_ringNow cX12_ringNow 3 (Option.some FieldType.int)) ({ frames := 9, cells := 0, slots := 0, locals := 251 }) (hPc G B S [.ref v0, .int v1, .int v2] (w_X12_ringNow q S v0 v1 v2)) (hQ G B (iP q)) (0) (0) (fun r => B ≤ r) := by
  refine hMet (rm := { frames := 9, cells := 0, slots := 0, locals := 251 }) (lv := [some (.ref v0), some (.int v1), some (.int v2)]) (own := RX12) (fr := 9) (lo := 251) (by decide) rfl rfl rfl (Nat.le_of_ble_eq_true rfl) rfl (fun hw p e R s m args below meth c hC hr hlk hnm => ?_)
  unfold w_X12_ringNow at hw
  refine z_aload_n hC dX12_ringNow_0 rfl rfl ?_
  refine z_iload_n hC dX12_ringNow_1 rfl rfl ?_
  refine z_callV (ku' := 0) (kv' := 0) (n := 1) (As := [.int v1]) (st := []) hC (c_X12_isPerson l G B S v0 v1 _) hw.2 hw.1 rfl lk_1614 lk_1616 lk_52 lk_133 lk_1617 hd_X12_isPerson rfl rfl (Nat.le_of_ble_eq_true rfl) (Nat.le_of_ble_eq_true rfl) rfl (Nat.le_of_ble_eq_true rfl) dX12_ringNow_2 (Nat.le_refl 0) (Nat.le_refl 0) (kI (fun x2 S hw => ?_))
  refine z_if_eq (tgt := 16) hC dX12_ringNow_5 (by decide) (fun c5 => ?_) (fun c5 => ?_)
  · have hw := hw.1 c5
    refine z_bipush hC bi_m2 dX12_ringNow_16 ?_
    exact z_iret hC hr hlk dX12_ringNow_18 ⟨_, rfl, hw⟩
  · have hw := hw.2 c5
    refine z_aload_n hC dX12_ringNow_8 rfl rfl ?_
    refine z_iload_n hC dX12_ringNow_9 rfl rfl ?_
    refine z_callV (ku' := 0) (kv' := 0) (n := 1) (As := [.int v2]) (st := []) hC (c_X12_isHouse l G B S v0 v2 _) hw.2 hw.1 rfl lk_1580 lk_1582 lk_44 lk_133 lk_1583 hd_X12_isHouse rfl rfl (Nat.le_of_ble_eq_true rfl) (Nat.le_of_ble_eq_true rfl) rfl (Nat.le_of_ble_eq_true rfl) dX12_ringNow_10 (Nat.le_refl 0) (Nat.le_refl 0) (kI (fun x10 S hw => ?_))
    refine z_if_ne (tgt := 19) hC dX12_ringNow_13 (by decide) (fun c13 => ?_) (fun c13 => ?_)
    · have hw := hw.1 c13
      refine z_aload_n hC dX12_ringNow_19 rfl rfl ?_
      refine z_iload_n hC dX12_ringNow_20 rfl rfl ?_
      refine z_iload_n hC dX12_ringNow_21 rfl rfl ?_
      refine z_callV (ku' := 0) (kv' := 0) (n := 2) (As := [.int v1, .int v2]) (st := []) hC (c_X12_canRing l G B S v0 v1 v2 _) hw.2 hw.1 rfl lk_1868 lk_1870 lk_91 lk_133 lk_1871 hd_X12_canRing rfl rfl (Nat.le_of_ble_eq_true rfl) (Nat.le_of_ble_eq_true rfl) rfl (Nat.le_of_ble_eq_true rfl) dX12_ringNow_22 (Nat.le_refl 0) (Nat.le_refl 0) (kI (fun x22 S hw => ?_))
      refine z_if_ne (tgt := 31) hC dX12_ringNow_25 (by decide) (fun c25 => ?_) (fun c25 => ?_)
      · have hw := hw.1 c25
        refine z_aload_n hC dX12_ringNow_31 rfl rfl ?_
        refine z_iconst hC ic_0 dX12_ringNow_32 ?_
        refine z_callV (ku' := 0) (kv' := 0) (n := 1) (As := [.int 0]) (st := []) hC (c_X12_remember l G B S v0 0 _) hw.2 hw.1 rfl lk_1872 lk_1874 lk_92 lk_133 lk_1875 hd_X12_remember rfl rfl (Nat.le_of_ble_eq_true rfl) (Nat.le_of_ble_eq_true rfl) rfl (Nat.le_of_ble_eq_true rfl) dX12_ringNow_33 (Nat.le_refl 0) (Nat.le_refl 0) (kV (fun S hw => ?_))
        refine z_aload_n hC dX12_ringNow_36 rfl rfl ?_
        refine z_iload_n hC dX12_ringNow_37 rfl rfl ?_
        refine z_iload_n hC dX12_ringNow_38 rfl rfl ?_
        refine z_callV (ku' := 0) (kv' := 0) (n := 2) (As := [.int v1, .int v2]) (st := []) hC (c_X12_ringIt l G B S v0 v1 v2 _) hw.2 hw.1 rfl lk_1880 lk_1882 lk_94 lk_133 lk_1883 hd_X12_ringIt rfl rfl (Nat.le_of_ble_eq_true rfl) (Nat.le_of_ble_eq_true rfl) rfl (Nat.le_of_ble_eq_true rfl) dX12_ringNow_39 (Nat.le_refl 0) (Nat.le_refl 0) (kI (fun x39 S hw => ?_))
        exact z_iret hC hr hlk dX12_ringNow_42 ⟨_, rfl, hw⟩
      · have hw := hw.2 c25
        refine z_bipush hC bi_m3 dX12_ringNow_28 ?_
        exact z_iret hC hr hlk dX12_ringNow_30 ⟨_, rfl, hw⟩
    · have hw := hw.2 c13
      refine z_bipush hC bi_m2 dX12_ringNow_16 ?_
      exact z_iret hC hr hlk dX12_ringNow_18 ⟨_, rfl, hw⟩
end
section
variable {p : Program} {l : Launch} {e : Env} {R : Room} {s : State} {m : MethodId} {args : Array Value} {below : List Frame} {meth : Method} {c : Code} {G : hG} {B mc ms : Nat}
def w_X12_ring (q : Int32 → hS → Prop) (S : hS) (v0 : Nat) (v1 : Int32) (v2 : Int32) : Prop := pI S v0 12 0 0 (fun S => oK S v0 12 ∧ w_X12_ringNow (fun x9 S => oK S v0 12 ∧ w_X12_tell (fun x12 S => q x12 S) S v0 x9) S v0 v1 v2)
set_option maxRecDepth 100000 in
set_option maxHeartbeats 4000000 in
theorem c_X12_ring (l : Launch) (G : hG) (B : Nat) (S : hS) (v0 : Nat) (v1 : Int32) (v2 : Int32) (q : Int32 → hS → Prop) : Met l yX12_ring (hws yX12_ring cX12_ring 3 (Option.some FieldType.int)) ({ frames := 10, cells := 0, slots := 0, locals := 273 }) (hPc G B S [.ref v0, .int v1, .int v2] (w_X12_ring q S v0 v1 v2)) (hQ G B (iP q)) (0) (0) (fun r => B ≤ r) := by
  refine hMet (rm := { frames := 10, cells := 0, slots := 0, locals := 273 }) (lv := [some (.ref v0), some (.int v1), some (.int v2)]) (own := RX12) (fr := 10) (lo := 273) (by decide) rfl rfl rfl (Nat.le_of_ble_eq_true rfl) rfl (fun hw p e R s m args below meth c hC hr hlk hnm => ?_)
  unfold w_X12_ring at hw
  refine z_aload_n hC dX12_ring_0 rfl rfl ?_
  refine z_iconst hC ic_0 dX12_ring_1 ?_
  refine z_putI hC FX12 0 lk_1355 dX12_ring_2 (by decide) rfl rfl hw (fun S hw => ?_)
  refine z_aload_n hC dX12_ring_5 rfl rfl ?_
  refine z_aload_n hC dX12_ring_6 rfl rfl ?_
  refine z_iload_n hC dX12_ring_7 rfl rfl ?_
  refine z_iload_n hC dX12_ring_8 rfl rfl ?_
  refine z_callV (ku' := 0) (kv' := 0) (n := 2) (As := [.int v1, .int v2]) (st := [.ref v0]) hC (c_X12_ringNow l G B S v0 v1 v2 _) hw.2 hw.1 rfl lk_1864 lk_1866 lk_90 lk_133 lk_1867 hd_X12_ringNow rfl rfl (Nat.le_of_ble_eq_true rfl) (Nat.le_of_ble_eq_true rfl) rfl (Nat.le_of_ble_eq_true rfl) dX12_ring_9 (Nat.le_refl 0) (Nat.le_refl 0) (kI (fun x9 S hw => ?_))
  refine z_callV (ku' := 0) (kv' := 0) (n := 1) (As := [.int x9]) (st := []) hC (c_X12_tell l G B S v0 x9 _) hw.2 hw.1 rfl lk_1544 lk_1546 lk_41 lk_133 lk_1547 hd_X12_tell rfl rfl (Nat.le_of_ble_eq_true rfl) (Nat.le_of_ble_eq_true rfl) rfl (Nat.le_of_ble_eq_true rfl) dX12_ring_12 (Nat.le_refl 0) (Nat.le_refl 0) (kI (fun x12 S hw => ?_))
  exact z_iret hC hr hlk dX12_ring_15 ⟨_, rfl, hw⟩
end
section
variable {p : Program} {l : Launch} {e : Env} {R : Room} {s : State} {m : MethodId} {args : Array Value} {below : List Frame} {meth : Method} {c : Code} {G : hG} {B mc ms : Nat}
def w_X12_sellNow (q : Int32 → hS → Prop) (S : hS) (v0 : Nat) (v1 : Int32) (v2 : Int32) (v3 : Int32) : Prop := (¬ v1 = v2 → oK S v0 12 ∧ w_X12_isPerson (fun x9 S => (x9 = 0 → q (-2) S) ∧ (¬ x9 = 0 → oK S v0 12 ∧ w_X12_isPerson (fun x17 S => (x17 = 0 → q (-2) S) ∧ (¬ x17 = 0 → oK S v0 12 ∧ w_X12_isHouse (fun x25 S => (¬ x25 = 0 → oK S v0 12 ∧ w_X12_canSell (fun x38 S => (¬ x38 = 0 → oK S v0 12 ∧ w_X12_remember (fun S => oK S v0 12 ∧ w_X12_costsOf (fun x56 S => gP S v0 12 3 (fun x62 => aI S x62 ((30 + (6 * v1)) + v3) (fun x75 => sI S x62 ((30 + (6 * v1)) + v3) (x75 - 1) (fun S => gP S v0 12 3 (fun x80 => aI S x80 ((30 + (6 * v2)) + v3) (fun x93 => sI S x80 ((30 + (6 * v2)) + v3) (x93 + 1) (fun S => gP S v0 12 3 (fun x98 => aI S x98 (14 + v2) (fun x106 => sI S x98 (14 + v2) (x106 - x56) (fun S => gP S v0 12 3 (fun x112 => gP S v0 12 3 (fun x120 => aI S x120 (14 + v1) (fun x127 => w_X12_within (fun x136 S => sI S x112 (14 + v1) x136 (fun S => q x56 S)) S (Int32.toInt64 (x127 + x56)) 0 999))))))))))))) S v0 v1 v2 v3) S v0 1) ∧ (x38 = 0 → q (-3) S)) S v0 v1 v2 v3) ∧ (x25 = 0 → q (-2) S)) S v0 v3)) S v0 v2)) S v0 v1) ∧ (v1 = v2 → q (-1) S)
set_option maxRecDepth 100000 in
set_option maxHeartbeats 4000000 in
theorem c_X12_sellNow (l : Launch) (G : hG) (B : Nat) (S : hS) (v0 : Nat) (v1 : Int32) (v2 : Int32) (v3 : Int32) (q : Int32 → hS → Prop) : Met l yX12_sellNow (hws yX12_sellNow cX12_sellNow 5 (Option.some FieldType.int)) ({ frames := 10, cells := 0, slots := 0, locals := 274 }) (hPc G B S [.ref v0, .int v1, .int v2, .int v3] (w_X12_sellNow q S v0 v1 v2 v3)) (hQ G B (iP q)) (0) (0) (fun r => B ≤ r) := by
  refine hMet (rm := { frames := 10, cells := 0, slots := 0, locals := 274 }) (lv := [some (.ref v0), some (.int v1), some (.int v2), some (.int v3), none]) (own := RX12) (fr := 10) (lo := 274) (by decide) rfl rfl rfl (Nat.le_of_ble_eq_true rfl) rfl (fun hw p e R s m args below meth c hC hr hlk hnm => ?_)
  unfold w_X12_sellNow at hw
  refine z_iload_n hC dX12_sellNow_0 rfl rfl ?_
  refine z_iload_n hC dX12_sellNow_1 rfl rfl ?_
  refine z_icmp_ne (tgt := 7) hC dX12_sellNow_2 (by decide) (fun c2 => ?_) (fun c2 => ?_)
  · have hw := hw.1 c2
    refine z_aload_n hC dX12_sellNow_7 rfl rfl ?_
    refine z_iload_n hC dX12_sellNow_8 rfl rfl ?_
    refine z_callV (ku' := 0) (kv' := 0) (n := 1) (As := [.int v1]) (st := []) hC (c_X12_isPerson l G B S v0 v1 _) hw.2 hw.1 rfl lk_1614 lk_1616 lk_52 lk_133 lk_1617 hd_X12_isPerson rfl rfl (Nat.le_of_ble_eq_true rfl) (Nat.le_of_ble_eq_true rfl) rfl (Nat.le_of_ble_eq_true rfl) dX12_sellNow_9 (Nat.le_refl 0) (Nat.le_refl 0) (kI (fun x9 S hw => ?_))
    refine z_if_eq (tgt := 31) hC dX12_sellNow_12 (by decide) (fun c12 => ?_) (fun c12 => ?_)
    · have hw := hw.1 c12
      refine z_bipush hC bi_m2 dX12_sellNow_31 ?_
      exact z_iret hC hr hlk dX12_sellNow_33 ⟨_, rfl, hw⟩
    · have hw := hw.2 c12
      refine z_aload_n hC dX12_sellNow_15 rfl rfl ?_
      refine z_iload_n hC dX12_sellNow_16 rfl rfl ?_
      refine z_callV (ku' := 0) (kv' := 0) (n := 1) (As := [.int v2]) (st := []) hC (c_X12_isPerson l G B S v0 v2 _) hw.2 hw.1 rfl lk_1614 lk_1616 lk_52 lk_133 lk_1617 hd_X12_isPerson rfl rfl (Nat.le_of_ble_eq_true rfl) (Nat.le_of_ble_eq_true rfl) rfl (Nat.le_of_ble_eq_true rfl) dX12_sellNow_17 (Nat.le_refl 0) (Nat.le_refl 0) (kI (fun x17 S hw => ?_))
      refine z_if_eq (tgt := 31) hC dX12_sellNow_20 (by decide) (fun c20 => ?_) (fun c20 => ?_)
      · have hw := hw.1 c20
        refine z_bipush hC bi_m2 dX12_sellNow_31 ?_
        exact z_iret hC hr hlk dX12_sellNow_33 ⟨_, rfl, hw⟩
      · have hw := hw.2 c20
        refine z_aload_n hC dX12_sellNow_23 rfl rfl ?_
        refine z_iload_n hC dX12_sellNow_24 rfl rfl ?_
        refine z_callV (ku' := 0) (kv' := 0) (n := 1) (As := [.int v3]) (st := []) hC (c_X12_isHouse l G B S v0 v3 _) hw.2 hw.1 rfl lk_1580 lk_1582 lk_44 lk_133 lk_1583 hd_X12_isHouse rfl rfl (Nat.le_of_ble_eq_true rfl) (Nat.le_of_ble_eq_true rfl) rfl (Nat.le_of_ble_eq_true rfl) dX12_sellNow_25 (Nat.le_refl 0) (Nat.le_refl 0) (kI (fun x25 S hw => ?_))
        refine z_if_ne (tgt := 34) hC dX12_sellNow_28 (by decide) (fun c28 => ?_) (fun c28 => ?_)
        · have hw := hw.1 c28
          refine z_aload_n hC dX12_sellNow_34 rfl rfl ?_
          refine z_iload_n hC dX12_sellNow_35 rfl rfl ?_
          refine z_iload_n hC dX12_sellNow_36 rfl rfl ?_
          refine z_iload_n hC dX12_sellNow_37 rfl rfl ?_
          refine z_callV (ku' := 0) (kv' := 0) (n := 3) (As := [.int v1, .int v2, .int v3]) (st := []) hC (c_X12_canSell l G B S v0 v1 v2 v3 _) hw.2 hw.1 rfl lk_1848 lk_1850 lk_87 lk_133 lk_1851 hd_X12_canSell rfl rfl (Nat.le_of_ble_eq_true rfl) (Nat.le_of_ble_eq_true rfl) rfl (Nat.le_of_ble_eq_true rfl) dX12_sellNow_38 (Nat.le_refl 0) (Nat.le_refl 0) (kI (fun x38 S hw => ?_))
          refine z_if_ne (tgt := 47) hC dX12_sellNow_41 (by decide) (fun c41 => ?_) (fun c41 => ?_)
          · have hw := hw.1 c41
            refine z_aload_n hC dX12_sellNow_47 rfl rfl ?_
            refine z_iconst hC ic_1 dX12_sellNow_48 ?_
            refine z_callV (ku' := 0) (kv' := 0) (n := 1) (As := [.int 1]) (st := []) hC (c_X12_remember l G B S v0 1 _) hw.2 hw.1 rfl lk_1872 lk_1874 lk_92 lk_133 lk_1875 hd_X12_remember rfl rfl (Nat.le_of_ble_eq_true rfl) (Nat.le_of_ble_eq_true rfl) rfl (Nat.le_of_ble_eq_true rfl) dX12_sellNow_49 (Nat.le_refl 0) (Nat.le_refl 0) (kV (fun S hw => ?_))
            refine z_aload_n hC dX12_sellNow_52 rfl rfl ?_
            refine z_iload_n hC dX12_sellNow_53 rfl rfl ?_
            refine z_iload_n hC dX12_sellNow_54 rfl rfl ?_
            refine z_iload_n hC dX12_sellNow_55 rfl rfl ?_
            refine z_callV (ku' := 0) (kv' := 0) (n := 3) (As := [.int v1, .int v2, .int v3]) (st := []) hC (c_X12_costsOf l G B S v0 v1 v2 v3 _) hw.2 hw.1 rfl lk_1856 lk_1858 lk_89 lk_133 lk_1859 hd_X12_costsOf rfl rfl (Nat.le_of_ble_eq_true rfl) (Nat.le_of_ble_eq_true rfl) rfl (Nat.le_of_ble_eq_true rfl) dX12_sellNow_56 (Nat.le_refl 0) (Nat.le_refl 0) (kI (fun x56 S hw => ?_))
            refine z_istore (i := 4) (lv' := [some (.ref v0), some (.int v1), some (.int v2), some (.int v3), some (.int x56)]) hC dX12_sellNow_59 (by decide) (hok_v rfl rfl) rfl ?_
            refine z_aload_n hC dX12_sellNow_61 rfl rfl ?_
            refine z_getP hC FX12 3 lk_1358 dX12_sellNow_62 (by decide) hw (fun x62 hw => ?_)
            refine z_bipush hC bi_30 dX12_sellNow_65 ?_
            refine z_bipush hC bi_6 dX12_sellNow_67 ?_
            refine z_iload_n hC dX12_sellNow_69 rfl rfl ?_
            refine z_imul hC dX12_sellNow_70 ?_
            refine z_iadd hC dX12_sellNow_71 ?_
            refine z_iload_n hC dX12_sellNow_72 rfl rfl ?_
            refine z_iadd hC dX12_sellNow_73 ?_
            refine z_dup2_11 hC rfl rfl dX12_sellNow_74 ?_
            refine z_aldI hC dX12_sellNow_75 hw (fun x75 hw => ?_)
            refine z_iconst hC ic_1 dX12_sellNow_76 ?_
            refine z_isub hC dX12_sellNow_77 ?_
            refine z_astI hC dX12_sellNow_78 hw (fun S hw => ?_)
            refine z_aload_n hC dX12_sellNow_79 rfl rfl ?_
            refine z_getP hC FX12 3 lk_1358 dX12_sellNow_80 (by decide) hw (fun x80 hw => ?_)
            refine z_bipush hC bi_30 dX12_sellNow_83 ?_
            refine z_bipush hC bi_6 dX12_sellNow_85 ?_
            refine z_iload_n hC dX12_sellNow_87 rfl rfl ?_
            refine z_imul hC dX12_sellNow_88 ?_
            refine z_iadd hC dX12_sellNow_89 ?_
            refine z_iload_n hC dX12_sellNow_90 rfl rfl ?_
            refine z_iadd hC dX12_sellNow_91 ?_
            refine z_dup2_11 hC rfl rfl dX12_sellNow_92 ?_
            refine z_aldI hC dX12_sellNow_93 hw (fun x93 hw => ?_)
            refine z_iconst hC ic_1 dX12_sellNow_94 ?_
            refine z_iadd hC dX12_sellNow_95 ?_
            refine z_astI hC dX12_sellNow_96 hw (fun S hw => ?_)
            refine z_aload_n hC dX12_sellNow_97 rfl rfl ?_
            refine z_getP hC FX12 3 lk_1358 dX12_sellNow_98 (by decide) hw (fun x98 hw => ?_)
            refine z_bipush hC bi_14 dX12_sellNow_101 ?_
            refine z_iload_n hC dX12_sellNow_103 rfl rfl ?_
            refine z_iadd hC dX12_sellNow_104 ?_
            refine z_dup2_11 hC rfl rfl dX12_sellNow_105 ?_
            refine z_aldI hC dX12_sellNow_106 hw (fun x106 hw => ?_)
            refine z_iload hC dX12_sellNow_107 rfl ?_
            refine z_isub hC dX12_sellNow_109 ?_
            refine z_astI hC dX12_sellNow_110 hw (fun S hw => ?_)
            refine z_aload_n hC dX12_sellNow_111 rfl rfl ?_
            refine z_getP hC FX12 3 lk_1358 dX12_sellNow_112 (by decide) hw (fun x112 hw => ?_)
            refine z_bipush hC bi_14 dX12_sellNow_115 ?_
            refine z_iload_n hC dX12_sellNow_117 rfl rfl ?_
            refine z_iadd hC dX12_sellNow_118 ?_
            refine z_aload_n hC dX12_sellNow_119 rfl rfl ?_
            refine z_getP hC FX12 3 lk_1358 dX12_sellNow_120 (by decide) hw (fun x120 hw => ?_)
            refine z_bipush hC bi_14 dX12_sellNow_123 ?_
            refine z_iload_n hC dX12_sellNow_125 rfl rfl ?_
            refine z_iadd hC dX12_sellNow_126 ?_
            refine z_aldI hC dX12_sellNow_127 hw (fun x127 hw => ?_)
            refine z_iload hC dX12_sellNow_128 rfl ?_
            refine z_iadd hC dX12_sellNow_130 ?_
            refine z_i2l hC rfl dX12_sellNow_131 ?_
            refine z_iconst hC ic_0 dX12_sellNow_132 ?_
            refine z_sipush hC si_999 dX12_sellNow_133 ?_
            refine z_callS (ku' := 0) (kv' := 0) (n := 3) (As := [.long (Int32.toInt64 (x127 + x56)), .int 0, .int 999]) (st := [.int (14 + v1), .ref x112]) hC (c_X12_within l G B S (Int32.toInt64 (x127 + x56)) 0 999 _) hw lk_1628 lk_1629 lk_133 lk_1630 hd_X12_within rfl rfl (Nat.le_of_ble_eq_true rfl) (Nat.le_of_ble_eq_true rfl) rfl (Nat.le_of_ble_eq_true rfl) dX12_sellNow_136 (Nat.le_refl 0) (Nat.le_refl 0) (kI (fun x136 S hw => ?_))
            refine z_astI hC dX12_sellNow_139 hw (fun S hw => ?_)
            refine z_iload hC dX12_sellNow_140 rfl ?_
            exact z_iret hC hr hlk dX12_sellNow_142 ⟨_, rfl, hw⟩
          · have hw := hw.2 c41
            refine z_bipush hC bi_m3 dX12_sellNow_44 ?_
            exact z_iret hC hr hlk dX12_sellNow_46 ⟨_, rfl, hw⟩
        · have hw := hw.2 c28
          refine z_bipush hC bi_m2 dX12_sellNow_31 ?_
          exact z_iret hC hr hlk dX12_sellNow_33 ⟨_, rfl, hw⟩
  · have hw := hw.2 c2
    refine z_iconst hC ic_m1 dX12_sellNow_5 ?_
    exact z_iret hC hr hlk dX12_sellNow_6 ⟨_, rfl, hw⟩
end
section
variable {p : Program} {l : Launch} {e : Env} {R : Room} {s : State} {m : MethodId} {args : Array Value} {below : List Frame} {meth : Method} {c : Code} {G : hG} {B mc ms : Nat}
def w_X12_sell (q : Int32 → hS → Prop) (S : hS) (v0 : Nat) (v1 : Int32) (v2 : Int32) (v3 : Int32) : Prop := pI S v0 12 0 0 (fun S => oK S v0 12 ∧ w_X12_sellNow (fun x10 S => oK S v0 12 ∧ w_X12_tell (fun x13 S => q x13 S) S v0 x10) S v0 v1 v2 v3)
set_option maxRecDepth 100000 in
set_option maxHeartbeats 4000000 in
theorem c_X12_sell (l : Launch) (G : hG) (B : Nat) (S : hS) (v0 : Nat) (v1 : Int32) (v2 : Int32) (v3 : Int32) (q : Int32 → hS → Prop) : Met l yX12_sell (hws yX12_sell cX12_sell 4 (Option.some FieldType.int)) ({ frames := 11, cells := 0, slots := 0, locals := 298 }) (hPc G B S [.ref v0, .int v1, .int v2, .int v3] (w_X12_sell q S v0 v1 v2 v3)) (hQ G B (iP q)) (0) (0) (fun r => B ≤ r) := by
  refine hMet (rm := { frames := 11, cells := 0, slots := 0, locals := 298 }) (lv := [some (.ref v0), some (.int v1), some (.int v2), some (.int v3)]) (own := RX12) (fr := 11) (lo := 298) (by decide) rfl rfl rfl (Nat.le_of_ble_eq_true rfl) rfl (fun hw p e R s m args below meth c hC hr hlk hnm => ?_)
  unfold w_X12_sell at hw
  refine z_aload_n hC dX12_sell_0 rfl rfl ?_
  refine z_iconst hC ic_0 dX12_sell_1 ?_
  refine z_putI hC FX12 0 lk_1355 dX12_sell_2 (by decide) rfl rfl hw (fun S hw => ?_)
  refine z_aload_n hC dX12_sell_5 rfl rfl ?_
  refine z_aload_n hC dX12_sell_6 rfl rfl ?_
  refine z_iload_n hC dX12_sell_7 rfl rfl ?_
  refine z_iload_n hC dX12_sell_8 rfl rfl ?_
  refine z_iload_n hC dX12_sell_9 rfl rfl ?_
  refine z_callV (ku' := 0) (kv' := 0) (n := 3) (As := [.int v1, .int v2, .int v3]) (st := [.ref v0]) hC (c_X12_sellNow l G B S v0 v1 v2 v3 _) hw.2 hw.1 rfl lk_1888 lk_1890 lk_95 lk_133 lk_1891 hd_X12_sellNow rfl rfl (Nat.le_of_ble_eq_true rfl) (Nat.le_of_ble_eq_true rfl) rfl (Nat.le_of_ble_eq_true rfl) dX12_sell_10 (Nat.le_refl 0) (Nat.le_refl 0) (kI (fun x10 S hw => ?_))
  refine z_callV (ku' := 0) (kv' := 0) (n := 1) (As := [.int x10]) (st := []) hC (c_X12_tell l G B S v0 x10 _) hw.2 hw.1 rfl lk_1544 lk_1546 lk_41 lk_133 lk_1547 hd_X12_tell rfl rfl (Nat.le_of_ble_eq_true rfl) (Nat.le_of_ble_eq_true rfl) rfl (Nat.le_of_ble_eq_true rfl) dX12_sell_13 (Nat.le_refl 0) (Nat.le_refl 0) (kI (fun x13 S hw => ?_))
  exact z_iret hC hr hlk dX12_sell_16 ⟨_, rfl, hw⟩
end
section
variable {p : Program} {l : Launch} {e : Env} {R : Room} {s : State} {m : MethodId} {args : Array Value} {below : List Frame} {meth : Method} {c : Code} {G : hG} {B mc ms : Nat}
def w_X12_dieIt_b154 (q : Int32 → hS → Prop) (K34 : hS → (Nat) → (Int32) → (Int32) → (Int32) → (Int32) → Prop) (K86 : hS → (Nat) → (Int32) → (Int32) → (Int32) → (Int32) → (Int32) → (Int32) → (Int32) → Prop) (S : hS) (v0 : Nat) (v1 : Int32) (v2 : Int32) (v3 : Int32) (v4 : Int32) (v5 : Int32) (v6 : Int32) (v7 : Int32) : Prop := ∀ y154 : Int32, y154 = v7 + 1 → K86 S v0 v1 v2 v3 v4 v5 v6 y154
set_option maxRecDepth 100000 in
set_option maxHeartbeats 4000000 in
theorem t_X12_dieIt_b154 (hC : zC p R s m args c cX12_dieIt 8 RX12 G B mc ms 3 103) (hr : meth.sig.returnType = (Option.some FieldType.int)) (hlk : meth.locks = false) (hnm : meth.name = "dieIt") {q : Int32 → hS → Prop} {K34 : hS → (Nat) → (Int32) → (Int32) → (Int32) → (Int32) → Prop} (hK34 : ∀ {S : hS} {v0 : Nat} {v1 : Int32} {v2 : Int32} {v3 : Int32} {v4 : Int32}, K34 S v0 v1 v2 v3 v4 → Z p l e R s m args below meth c (MQ below (hQ G B (iP q)) args s mc ms (fun r => B ≤ r)) G B mc ms 8 S 0 0 34 [some (.ref v0), some (.int v1), some (.int v2), some (.int v3), some (.int v4), none, none, none] []) {K86 : hS → (Nat) → (Int32) → (Int32) → (Int32) → (Int32) → (Int32) → (Int32) → (Int32) → Prop} (hK86 : ∀ {S : hS} {v0 : Nat} {v1 : Int32} {v2 : Int32} {v3 : Int32} {v4 : Int32} {v5 : Int32} {v6 : Int32} {v7 : Int32}, K86 S v0 v1 v2 v3 v4 v5 v6 v7 → Z p l e R s m args below meth c (MQ below (hQ G B (iP q)) args s mc ms (fun r => B ≤ r)) G B mc ms 8 S 0 0 86 [some (.ref v0), some (.int v1), some (.int v2), some (.int v3), some (.int v4), some (.int v5), some (.int v6), some (.int v7)] []) {S : hS} {v0 : Nat} {v1 : Int32} {v2 : Int32} {v3 : Int32} {v4 : Int32} {v5 : Int32} {v6 : Int32} {v7 : Int32} (hw : w_X12_dieIt_b154 q K34 K86 S v0 v1 v2 v3 v4 v5 v6 v7) : Z p l e R s m args below meth c (MQ below (hQ G B (iP q)) args s mc ms (fun r => B ≤ r)) G B mc ms 8 S 0 0 154 [some (.ref v0), some (.int v1), some (.int v2), some (.int v3), some (.int v4), some (.int v5), some (.int v6), some (.int v7)] [] := by
  unfold w_X12_dieIt_b154 at hw
  refine z_inc (i := 7) hC ic_1 dX12_dieIt_154 rfl (by decide) (hok_v rfl rfl) (fun y154 e154 => ?_)
  have hw := hw y154 e154
  refine z_goto (tgt := 86) hC dX12_dieIt_157 (by decide) ?_
  refine z_mask (lv' := [some (.ref v0), some (.int v1), some (.int v2), some (.int v3), some (.int v4), some (.int v5), some (.int v6), some (.int y154)]) [true, true, true, true, true, true, true, true] rfl ?_
  exact hK86 hw
def w_X12_dieIt_b142 (q : Int32 → hS → Prop) (K34 : hS → (Nat) → (Int32) → (Int32) → (Int32) → (Int32) → Prop) (K86 : hS → (Nat) → (Int32) → (Int32) → (Int32) → (Int32) → (Int32) → (Int32) → (Int32) → Prop) (S : hS) (v0 : Nat) (v1 : Int32) (v2 : Int32) (v3 : Int32) (v4 : Int32) (v5 : Int32) (v6 : Int32) (v7 : Int32) (t0 : Int32) (t1 : Int32) (t2 : Int32) (t3 : Nat) : Prop := w_X12_within (fun x147 S => sI S t3 t2 x147 (fun S => ∀ y151 : Int32, y151 = v6 + (-1) → w_X12_dieIt_b154 q K34 K86 S v0 v1 v2 v3 v4 v5 y151 v7)) S (Int32.toInt64 (t1 + t0)) 0 99
set_option maxRecDepth 100000 in
set_option maxHeartbeats 4000000 in
theorem t_X12_dieIt_b142 (hC : zC p R s m args c cX12_dieIt 8 RX12 G B mc ms 3 103) (hr : meth.sig.returnType = (Option.some FieldType.int)) (hlk : meth.locks = false) (hnm : meth.name = "dieIt") {q : Int32 → hS → Prop} {K34 : hS → (Nat) → (Int32) → (Int32) → (Int32) → (Int32) → Prop} (hK34 : ∀ {S : hS} {v0 : Nat} {v1 : Int32} {v2 : Int32} {v3 : Int32} {v4 : Int32}, K34 S v0 v1 v2 v3 v4 → Z p l e R s m args below meth c (MQ below (hQ G B (iP q)) args s mc ms (fun r => B ≤ r)) G B mc ms 8 S 0 0 34 [some (.ref v0), some (.int v1), some (.int v2), some (.int v3), some (.int v4), none, none, none] []) {K86 : hS → (Nat) → (Int32) → (Int32) → (Int32) → (Int32) → (Int32) → (Int32) → (Int32) → Prop} (hK86 : ∀ {S : hS} {v0 : Nat} {v1 : Int32} {v2 : Int32} {v3 : Int32} {v4 : Int32} {v5 : Int32} {v6 : Int32} {v7 : Int32}, K86 S v0 v1 v2 v3 v4 v5 v6 v7 → Z p l e R s m args below meth c (MQ below (hQ G B (iP q)) args s mc ms (fun r => B ≤ r)) G B mc ms 8 S 0 0 86 [some (.ref v0), some (.int v1), some (.int v2), some (.int v3), some (.int v4), some (.int v5), some (.int v6), some (.int v7)] []) {S : hS} {v0 : Nat} {v1 : Int32} {v2 : Int32} {v3 : Int32} {v4 : Int32} {v5 : Int32} {v6 : Int32} {v7 : Int32} {t0 : Int32} {t1 : Int32} {t2 : Int32} {t3 : Nat} (hw : w_X12_dieIt_b142 q K34 K86 S v0 v1 v2 v3 v4 v5 v6 v7 t0 t1 t2 t3) : Z p l e R s m args below meth c (MQ below (hQ G B (iP q)) args s mc ms (fun r => B ≤ r)) G B mc ms 8 S 0 0 142 [some (.ref v0), some (.int v1), some (.int v2), some (.int v3), some (.int v4), some (.int v5), some (.int v6), some (.int v7)] [.int t0, .int t1, .int t2, .ref t3] := by
  unfold w_X12_dieIt_b142 at hw
  refine z_iadd hC dX12_dieIt_142 ?_
  refine z_i2l hC rfl dX12_dieIt_143 ?_
  refine z_iconst hC ic_0 dX12_dieIt_144 ?_
  refine z_bipush hC bi_99 dX12_dieIt_145 ?_
  refine z_callS (ku' := 0) (kv' := 0) (n := 3) (As := [.long (Int32.toInt64 (t1 + t0)), .int 0, .int 99]) (st := [.int t2, .ref t3]) hC (c_X12_within l G B S (Int32.toInt64 (t1 + t0)) 0 99 _) hw lk_1628 lk_1629 lk_133 lk_1630 hd_X12_within rfl rfl (Nat.le_of_ble_eq_true rfl) (Nat.le_of_ble_eq_true rfl) rfl (Nat.le_of_ble_eq_true rfl) dX12_dieIt_147 (Nat.le_refl 0) (Nat.le_refl 0) (kI (fun x147 S hw => ?_))
  refine z_astI hC dX12_dieIt_150 hw (fun S hw => ?_)
  refine z_inc (i := 6) hC ic_m1 dX12_dieIt_151 rfl (by decide) (hok_v rfl rfl) (fun y151 e151 => ?_)
  have hw := hw y151 e151
  refine z_mask (lv' := [some (.ref v0), some (.int v1), some (.int v2), some (.int v3), some (.int v4), some (.int v5), some (.int y151), some (.int v7)]) [true, true, true, true, true, true, true, true] rfl ?_
  exact t_X12_dieIt_b154 hC hr hlk hnm hK34 hK86 hw
def w_X12_dieIt_b86 (q : Int32 → hS → Prop) (K34 : hS → (Nat) → (Int32) → (Int32) → (Int32) → (Int32) → Prop) : Nat → hS → (Nat) → (Int32) → (Int32) → (Int32) → (Int32) → (Int32) → (Int32) → (Int32) → Prop
  | 0, _, _, _, _, _, _, _, _, _ => False
  | n + 1, S, v0, v1, v2, v3, v4, v5, v6, v7 => gP S v0 12 3 (fun x89 => aI S x89 1 (fun x93 => (x93 ≤ v7 → gP S v0 12 3 (fun x161 => sI S x161 ((30 + (6 * v1)) + v4) 0 (fun S => gP S v0 12 3 (fun x177 => sI S x177 ((78 + (6 * v1)) + v4) 0 (fun S => ∀ y192 : Int32, y192 = v4 + 1 → K34 S v0 v1 v2 v3 y192))))) ∧ (¬ x93 ≤ v7 → w_X12_is (fun x100 S => (x100 = 0 → w_X12_dieIt_b154 q K34 (fun S v0 v1 v2 v3 v4 v5 v6 v7 => w_X12_dieIt_b86 q K34 n S v0 v1 v2 v3 v4 v5 v6 v7) S v0 v1 v2 v3 v4 v5 v6 v7) ∧ (¬ x100 = 0 → gP S v0 12 3 (fun x107 => oK S v0 12 ∧ w_X12_rights (fun x126 S => (v6 ≤ 0 → w_X12_dieIt_b142 q K34 (fun S v0 v1 v2 v3 v4 v5 v6 v7 => w_X12_dieIt_b86 q K34 n S v0 v1 v2 v3 v4 v5 v6 v7) S v0 v1 v2 v3 v4 v5 v6 v7 0 (x126 + v5) ((30 + (6 * v7)) + v4) x107) ∧ (¬ v6 ≤ 0 → w_X12_dieIt_b142 q K34 (fun S v0 v1 v2 v3 v4 v5 v6 v7 => w_X12_dieIt_b86 q K34 n S v0 v1 v2 v3 v4 v5 v6 v7) S v0 v1 v2 v3 v4 v5 v6 v7 1 (x126 + v5) ((30 + (6 * v7)) + v4) x107)) S v0 v7 v4))) S v2 v7)))
set_option maxRecDepth 100000 in
set_option maxHeartbeats 4000000 in
theorem t_X12_dieIt_b86 (hC : zC p R s m args c cX12_dieIt 8 RX12 G B mc ms 3 103) (hr : meth.sig.returnType = (Option.some FieldType.int)) (hlk : meth.locks = false) (hnm : meth.name = "dieIt") {q : Int32 → hS → Prop} {K34 : hS → (Nat) → (Int32) → (Int32) → (Int32) → (Int32) → Prop} (hK34 : ∀ {S : hS} {v0 : Nat} {v1 : Int32} {v2 : Int32} {v3 : Int32} {v4 : Int32}, K34 S v0 v1 v2 v3 v4 → Z p l e R s m args below meth c (MQ below (hQ G B (iP q)) args s mc ms (fun r => B ≤ r)) G B mc ms 8 S 0 0 34 [some (.ref v0), some (.int v1), some (.int v2), some (.int v3), some (.int v4), none, none, none] []) (n : Nat) : ∀ {S : hS} {v0 : Nat} {v1 : Int32} {v2 : Int32} {v3 : Int32} {v4 : Int32} {v5 : Int32} {v6 : Int32} {v7 : Int32} (hw : w_X12_dieIt_b86 q K34 n S v0 v1 v2 v3 v4 v5 v6 v7), Z p l e R s m args below meth c (MQ below (hQ G B (iP q)) args s mc ms (fun r => B ≤ r)) G B mc ms 8 S 0 0 86 [some (.ref v0), some (.int v1), some (.int v2), some (.int v3), some (.int v4), some (.int v5), some (.int v6), some (.int v7)] [] := by
  induction n with
  | zero => intro S v0 v1 v2 v3 v4 v5 v6 v7 hw; exact (by rw [w_X12_dieIt_b86] at hw; exact hw.elim)
  | succ n ih =>
    intro S v0 v1 v2 v3 v4 v5 v6 v7 hw
    rw [w_X12_dieIt_b86] at hw
    refine z_iload hC dX12_dieIt_86 rfl ?_
    refine z_aload_n hC dX12_dieIt_88 rfl rfl ?_
    refine z_getP hC FX12 3 lk_1358 dX12_dieIt_89 (by decide) hw (fun x89 hw => ?_)
    refine z_iconst hC ic_1 dX12_dieIt_92 ?_
    refine z_aldI hC dX12_dieIt_93 hw (fun x93 hw => ?_)
    refine z_icmp_ge (tgt := 160) hC dX12_dieIt_94 (by decide) (fun c94 => ?_) (fun c94 => ?_)
    · have hw := hw.1 c94
      refine z_aload_n hC dX12_dieIt_160 rfl rfl ?_
      refine z_getP hC FX12 3 lk_1358 dX12_dieIt_161 (by decide) hw (fun x161 hw => ?_)
      refine z_bipush hC bi_30 dX12_dieIt_164 ?_
      refine z_bipush hC bi_6 dX12_dieIt_166 ?_
      refine z_iload_n hC dX12_dieIt_168 rfl rfl ?_
      refine z_imul hC dX12_dieIt_169 ?_
      refine z_iadd hC dX12_dieIt_170 ?_
      refine z_iload hC dX12_dieIt_171 rfl ?_
      refine z_iadd hC dX12_dieIt_173 ?_
      refine z_iconst hC ic_0 dX12_dieIt_174 ?_
      refine z_astI hC dX12_dieIt_175 hw (fun S hw => ?_)
      refine z_aload_n hC dX12_dieIt_176 rfl rfl ?_
      refine z_getP hC FX12 3 lk_1358 dX12_dieIt_177 (by decide) hw (fun x177 hw => ?_)
      refine z_bipush hC bi_78 dX12_dieIt_180 ?_
      refine z_bipush hC bi_6 dX12_dieIt_182 ?_
      refine z_iload_n hC dX12_dieIt_184 rfl rfl ?_
      refine z_imul hC dX12_dieIt_185 ?_
      refine z_iadd hC dX12_dieIt_186 ?_
      refine z_iload hC dX12_dieIt_187 rfl ?_
      refine z_iadd hC dX12_dieIt_189 ?_
      refine z_iconst hC ic_0 dX12_dieIt_190 ?_
      refine z_astI hC dX12_dieIt_191 hw (fun S hw => ?_)
      refine z_inc (i := 4) hC ic_1 dX12_dieIt_192 rfl (by decide) (hok_v rfl rfl) (fun y192 e192 => ?_)
      have hw := hw y192 e192
      refine z_goto (tgt := 34) hC dX12_dieIt_195 (by decide) ?_
      refine z_mask (lv' := [some (.ref v0), some (.int v1), some (.int v2), some (.int v3), some (.int y192), none, none, none]) [true, true, true, true, true, false, false, false] rfl ?_
      exact hK34 hw
    · have hw := hw.2 c94
      refine z_iload_n hC dX12_dieIt_97 rfl rfl ?_
      refine z_iload hC dX12_dieIt_98 rfl ?_
      refine z_callS (ku' := 0) (kv' := 0) (n := 2) (As := [.int v2, .int v7]) (st := []) hC (c_X12_is l G B S v2 v7 _) hw lk_1657 lk_1658 lk_133 lk_1659 hd_X12_is rfl rfl (Nat.le_of_ble_eq_true rfl) (Nat.le_of_ble_eq_true rfl) rfl (Nat.le_of_ble_eq_true rfl) dX12_dieIt_100 (Nat.le_refl 0) (Nat.le_refl 0) (kI (fun x100 S hw => ?_))
      refine z_if_eq (tgt := 154) hC dX12_dieIt_103 (by decide) (fun c103 => ?_) (fun c103 => ?_)
      · have hw := hw.1 c103
        refine z_mask (lv' := [some (.ref v0), some (.int v1), some (.int v2), some (.int v3), some (.int v4), some (.int v5), some (.int v6), some (.int v7)]) [true, true, true, true, true, true, true, true] rfl ?_
        exact t_X12_dieIt_b154 hC hr hlk hnm hK34 (fun hw => ih hw) hw
      · have hw := hw.2 c103
        refine z_aload_n hC dX12_dieIt_106 rfl rfl ?_
        refine z_getP hC FX12 3 lk_1358 dX12_dieIt_107 (by decide) hw (fun x107 hw => ?_)
        refine z_bipush hC bi_30 dX12_dieIt_110 ?_
        refine z_bipush hC bi_6 dX12_dieIt_112 ?_
        refine z_iload hC dX12_dieIt_114 rfl ?_
        refine z_imul hC dX12_dieIt_116 ?_
        refine z_iadd hC dX12_dieIt_117 ?_
        refine z_iload hC dX12_dieIt_118 rfl ?_
        refine z_iadd hC dX12_dieIt_120 ?_
        refine z_aload_n hC dX12_dieIt_121 rfl rfl ?_
        refine z_iload hC dX12_dieIt_122 rfl ?_
        refine z_iload hC dX12_dieIt_124 rfl ?_
        refine z_callV (ku' := 0) (kv' := 0) (n := 2) (As := [.int v7, .int v4]) (st := [.int ((30 + (6 * v7)) + v4), .ref x107]) hC (c_X12_rights l G B S v0 v7 v4 _) hw.2 hw.1 rfl lk_1588 lk_1590 lk_46 lk_133 lk_1591 hd_X12_rights rfl rfl (Nat.le_of_ble_eq_true rfl) (Nat.le_of_ble_eq_true rfl) rfl (Nat.le_of_ble_eq_true rfl) dX12_dieIt_126 (Nat.le_refl 0) (Nat.le_refl 0) (kI (fun x126 S hw => ?_))
        refine z_iload hC dX12_dieIt_129 rfl ?_
        refine z_iadd hC dX12_dieIt_131 ?_
        refine z_iload hC dX12_dieIt_132 rfl ?_
        refine z_if_le (tgt := 141) hC dX12_dieIt_134 (by decide) (fun c134 => ?_) (fun c134 => ?_)
        · have hw := hw.1 c134
          refine z_iconst hC ic_0 dX12_dieIt_141 ?_
          refine z_mask (lv' := [some (.ref v0), some (.int v1), some (.int v2), some (.int v3), some (.int v4), some (.int v5), some (.int v6), some (.int v7)]) [true, true, true, true, true, true, true, true] rfl ?_
          exact t_X12_dieIt_b142 hC hr hlk hnm hK34 (fun hw => ih hw) hw
        · have hw := hw.2 c134
          refine z_iconst hC ic_1 dX12_dieIt_137 ?_
          refine z_goto (tgt := 142) hC dX12_dieIt_138 (by decide) ?_
          refine z_mask (lv' := [some (.ref v0), some (.int v1), some (.int v2), some (.int v3), some (.int v4), some (.int v5), some (.int v6), some (.int v7)]) [true, true, true, true, true, true, true, true] rfl ?_
          exact t_X12_dieIt_b142 hC hr hlk hnm hK34 (fun hw => ih hw) hw
def w_X12_dieIt_b81 (q : Int32 → hS → Prop) (K34 : hS → (Nat) → (Int32) → (Int32) → (Int32) → (Int32) → Prop) (S : hS) (v0 : Nat) (v1 : Int32) (v2 : Int32) (v3 : Int32) (v4 : Int32) (v5 : Int32) (t0 : Int32) : Prop := (∃ n86 : Nat, w_X12_dieIt_b86 q K34 n86 S v0 v1 v2 v3 v4 v5 t0 0)
set_option maxRecDepth 100000 in
set_option maxHeartbeats 4000000 in
theorem t_X12_dieIt_b81 (hC : zC p R s m args c cX12_dieIt 8 RX12 G B mc ms 3 103) (hr : meth.sig.returnType = (Option.some FieldType.int)) (hlk : meth.locks = false) (hnm : meth.name = "dieIt") {q : Int32 → hS → Prop} {K34 : hS → (Nat) → (Int32) → (Int32) → (Int32) → (Int32) → Prop} (hK34 : ∀ {S : hS} {v0 : Nat} {v1 : Int32} {v2 : Int32} {v3 : Int32} {v4 : Int32}, K34 S v0 v1 v2 v3 v4 → Z p l e R s m args below meth c (MQ below (hQ G B (iP q)) args s mc ms (fun r => B ≤ r)) G B mc ms 8 S 0 0 34 [some (.ref v0), some (.int v1), some (.int v2), some (.int v3), some (.int v4), none, none, none] []) {S : hS} {v0 : Nat} {v1 : Int32} {v2 : Int32} {v3 : Int32} {v4 : Int32} {v5 : Int32} {t0 : Int32} (hw : w_X12_dieIt_b81 q K34 S v0 v1 v2 v3 v4 v5 t0) : Z p l e R s m args below meth c (MQ below (hQ G B (iP q)) args s mc ms (fun r => B ≤ r)) G B mc ms 8 S 0 0 81 [some (.ref v0), some (.int v1), some (.int v2), some (.int v3), some (.int v4), some (.int v5), none, none] [.int t0] := by
  unfold w_X12_dieIt_b81 at hw
  refine z_istore (i := 6) (lv' := [some (.ref v0), some (.int v1), some (.int v2), some (.int v3), some (.int v4), some (.int v5), some (.int t0), none]) hC dX12_dieIt_81 (by decide) (hok_v rfl rfl) rfl ?_
  refine z_iconst hC ic_0 dX12_dieIt_83 ?_
  refine z_istore (i := 7) (lv' := [some (.ref v0), some (.int v1), some (.int v2), some (.int v3), some (.int v4), some (.int v5), some (.int t0), some (.int 0)]) hC dX12_dieIt_84 (by decide) (hok_v rfl rfl) rfl ?_
  refine z_mask (lv' := [some (.ref v0), some (.int v1), some (.int v2), some (.int v3), some (.int v4), some (.int v5), some (.int t0), some (.int 0)]) [true, true, true, true, true, true, true, true] rfl ?_
  obtain ⟨n86, hw⟩ := hw
  exact t_X12_dieIt_b86 hC hr hlk hnm hK34 n86 hw
def w_X12_dieIt_b62 (q : Int32 → hS → Prop) (K34 : hS → (Nat) → (Int32) → (Int32) → (Int32) → (Int32) → Prop) (S : hS) (v0 : Nat) (v1 : Int32) (v2 : Int32) (v3 : Int32) (v4 : Int32) (t0 : Int32) : Prop := (¬ v3 = 0 → oK S v0 12 ∧ w_X12_rights (fun x76 S => (¬ v3 = 0) ∧ w_X12_dieIt_b81 q K34 S v0 v1 v2 v3 v4 t0 (x76 - x76 / v3 * v3)) S v0 v1 v4) ∧ (v3 = 0 → w_X12_dieIt_b81 q K34 S v0 v1 v2 v3 v4 t0 0)
set_option maxRecDepth 100000 in
set_option maxHeartbeats 4000000 in
theorem t_X12_dieIt_b62 (hC : zC p R s m args c cX12_dieIt 8 RX12 G B mc ms 3 103) (hr : meth.sig.returnType = (Option.some FieldType.int)) (hlk : meth.locks = false) (hnm : meth.name = "dieIt") {q : Int32 → hS → Prop} {K34 : hS → (Nat) → (Int32) → (Int32) → (Int32) → (Int32) → Prop} (hK34 : ∀ {S : hS} {v0 : Nat} {v1 : Int32} {v2 : Int32} {v3 : Int32} {v4 : Int32}, K34 S v0 v1 v2 v3 v4 → Z p l e R s m args below meth c (MQ below (hQ G B (iP q)) args s mc ms (fun r => B ≤ r)) G B mc ms 8 S 0 0 34 [some (.ref v0), some (.int v1), some (.int v2), some (.int v3), some (.int v4), none, none, none] []) {S : hS} {v0 : Nat} {v1 : Int32} {v2 : Int32} {v3 : Int32} {v4 : Int32} {t0 : Int32} (hw : w_X12_dieIt_b62 q K34 S v0 v1 v2 v3 v4 t0) : Z p l e R s m args below meth c (MQ below (hQ G B (iP q)) args s mc ms (fun r => B ≤ r)) G B mc ms 8 S 0 0 62 [some (.ref v0), some (.int v1), some (.int v2), some (.int v3), some (.int v4), none, none, none] [.int t0] := by
  unfold w_X12_dieIt_b62 at hw
  refine z_istore (i := 5) (lv' := [some (.ref v0), some (.int v1), some (.int v2), some (.int v3), some (.int v4), some (.int t0), none, none]) hC dX12_dieIt_62 (by decide) (hok_v rfl rfl) rfl ?_
  refine z_iload_n hC dX12_dieIt_64 rfl rfl ?_
  refine z_if_ne (tgt := 72) hC dX12_dieIt_65 (by decide) (fun c65 => ?_) (fun c65 => ?_)
  · have hw := hw.1 c65
    refine z_aload_n hC dX12_dieIt_72 rfl rfl ?_
    refine z_iload_n hC dX12_dieIt_73 rfl rfl ?_
    refine z_iload hC dX12_dieIt_74 rfl ?_
    refine z_callV (ku' := 0) (kv' := 0) (n := 2) (As := [.int v1, .int v4]) (st := []) hC (c_X12_rights l G B S v0 v1 v4 _) hw.2 hw.1 rfl lk_1588 lk_1590 lk_46 lk_133 lk_1591 hd_X12_rights rfl rfl (Nat.le_of_ble_eq_true rfl) (Nat.le_of_ble_eq_true rfl) rfl (Nat.le_of_ble_eq_true rfl) dX12_dieIt_76 (Nat.le_refl 0) (Nat.le_refl 0) (kI (fun x76 S hw => ?_))
    refine z_iload_n hC dX12_dieIt_79 rfl rfl ?_
    refine z_irem hC hw.1 dX12_dieIt_80 ?_
    have hw := hw.2
    refine z_mask (lv' := [some (.ref v0), some (.int v1), some (.int v2), some (.int v3), some (.int v4), some (.int t0), none, none]) [true, true, true, true, true, true, false, false] rfl ?_
    exact t_X12_dieIt_b81 hC hr hlk hnm hK34 hw
  · have hw := hw.2 c65
    refine z_iconst hC ic_0 dX12_dieIt_68 ?_
    refine z_goto (tgt := 81) hC dX12_dieIt_69 (by decide) ?_
    refine z_mask (lv' := [some (.ref v0), some (.int v1), some (.int v2), some (.int v3), some (.int v4), some (.int t0), none, none]) [true, true, true, true, true, true, false, false] rfl ?_
    exact t_X12_dieIt_b81 hC hr hlk hnm hK34 hw
def w_X12_dieIt_b34 (q : Int32 → hS → Prop) : Nat → hS → (Nat) → (Int32) → (Int32) → (Int32) → (Int32) → Prop
  | 0, _, _, _, _, _, _ => False
  | n + 1, S, v0, v1, v2, v3, v4 => gP S v0 12 3 (fun x37 => aI S x37 0 (fun x41 => (x41 ≤ v4 → q v3 S) ∧ (¬ x41 ≤ v4 → (¬ v3 = 0 → oK S v0 12 ∧ w_X12_rights (fun x57 S => (¬ v3 = 0) ∧ w_X12_dieIt_b62 q (fun S v0 v1 v2 v3 v4 => w_X12_dieIt_b34 q n S v0 v1 v2 v3 v4) S v0 v1 v2 v3 v4 (x57 / v3)) S v0 v1 v4) ∧ (v3 = 0 → w_X12_dieIt_b62 q (fun S v0 v1 v2 v3 v4 => w_X12_dieIt_b34 q n S v0 v1 v2 v3 v4) S v0 v1 v2 v3 v4 0))))
set_option maxRecDepth 100000 in
set_option maxHeartbeats 4000000 in
theorem t_X12_dieIt_b34 (hC : zC p R s m args c cX12_dieIt 8 RX12 G B mc ms 3 103) (hr : meth.sig.returnType = (Option.some FieldType.int)) (hlk : meth.locks = false) (hnm : meth.name = "dieIt") {q : Int32 → hS → Prop} (n : Nat) : ∀ {S : hS} {v0 : Nat} {v1 : Int32} {v2 : Int32} {v3 : Int32} {v4 : Int32} (hw : w_X12_dieIt_b34 q n S v0 v1 v2 v3 v4), Z p l e R s m args below meth c (MQ below (hQ G B (iP q)) args s mc ms (fun r => B ≤ r)) G B mc ms 8 S 0 0 34 [some (.ref v0), some (.int v1), some (.int v2), some (.int v3), some (.int v4), none, none, none] [] := by
  induction n with
  | zero => intro S v0 v1 v2 v3 v4 hw; exact (by rw [w_X12_dieIt_b34] at hw; exact hw.elim)
  | succ n ih =>
    intro S v0 v1 v2 v3 v4 hw
    rw [w_X12_dieIt_b34] at hw
    refine z_iload hC dX12_dieIt_34 rfl ?_
    refine z_aload_n hC dX12_dieIt_36 rfl rfl ?_
    refine z_getP hC FX12 3 lk_1358 dX12_dieIt_37 (by decide) hw (fun x37 hw => ?_)
    refine z_iconst hC ic_0 dX12_dieIt_40 ?_
    refine z_aldI hC dX12_dieIt_41 hw (fun x41 hw => ?_)
    refine z_icmp_ge (tgt := 198) hC dX12_dieIt_42 (by decide) (fun c42 => ?_) (fun c42 => ?_)
    · have hw := hw.1 c42
      refine z_iload_n hC dX12_dieIt_198 rfl rfl ?_
      exact z_iret hC hr hlk dX12_dieIt_199 ⟨_, rfl, hw⟩
    · have hw := hw.2 c42
      refine z_iload_n hC dX12_dieIt_45 rfl rfl ?_
      refine z_if_ne (tgt := 53) hC dX12_dieIt_46 (by decide) (fun c46 => ?_) (fun c46 => ?_)
      · have hw := hw.1 c46
        refine z_aload_n hC dX12_dieIt_53 rfl rfl ?_
        refine z_iload_n hC dX12_dieIt_54 rfl rfl ?_
        refine z_iload hC dX12_dieIt_55 rfl ?_
        refine z_callV (ku' := 0) (kv' := 0) (n := 2) (As := [.int v1, .int v4]) (st := []) hC (c_X12_rights l G B S v0 v1 v4 _) hw.2 hw.1 rfl lk_1588 lk_1590 lk_46 lk_133 lk_1591 hd_X12_rights rfl rfl (Nat.le_of_ble_eq_true rfl) (Nat.le_of_ble_eq_true rfl) rfl (Nat.le_of_ble_eq_true rfl) dX12_dieIt_57 (Nat.le_refl 0) (Nat.le_refl 0) (kI (fun x57 S hw => ?_))
        refine z_iload_n hC dX12_dieIt_60 rfl rfl ?_
        refine z_idiv hC hw.1 dX12_dieIt_61 ?_
        have hw := hw.2
        refine z_mask (lv' := [some (.ref v0), some (.int v1), some (.int v2), some (.int v3), some (.int v4), none, none, none]) [true, true, true, true, true, false, false, false] rfl ?_
        exact t_X12_dieIt_b62 hC hr hlk hnm (fun hw => ih hw) hw
      · have hw := hw.2 c46
        refine z_iconst hC ic_0 dX12_dieIt_49 ?_
        refine z_goto (tgt := 62) hC dX12_dieIt_50 (by decide) ?_
        refine z_mask (lv' := [some (.ref v0), some (.int v1), some (.int v2), some (.int v3), some (.int v4), none, none, none]) [true, true, true, true, true, false, false, false] rfl ?_
        exact t_X12_dieIt_b62 hC hr hlk hnm (fun hw => ih hw) hw
def w_X12_dieIt (q : Int32 → hS → Prop) (S : hS) (v0 : Nat) (v1 : Int32) : Prop := gP S v0 12 3 (fun x1 => sI S x1 (22 + v1) 1 (fun S => gP S v0 12 3 (fun x11 => aI S x11 (162 + v1) (fun x19 => oK S v0 12 ∧ w_X12_living (fun x21 S => ∀ y25 : Int32, y25 = (x19 &&& x21) → w_X12_ones (fun x27 S => (∃ n34 : Nat, w_X12_dieIt_b34 q n34 S v0 v1 y25 x27 0)) S y25) S v0))))
set_option maxRecDepth 100000 in
set_option maxHeartbeats 4000000 in
theorem c_X12_dieIt (l : Launch) (G : hG) (B : Nat) (S : hS) (v0 : Nat) (v1 : Int32) (q : Int32 → hS → Prop) : Met l yX12_dieIt (hws yX12_dieIt cX12_dieIt 8 (Option.some FieldType.int)) ({ frames := 3, cells := 0, slots := 0, locals := 103 }) (hPc G B S [.ref v0, .int v1] (w_X12_dieIt q S v0 v1)) (hQ G B (iP q)) (0) (0) (fun r => B ≤ r) := by
  refine hMet (rm := { frames := 3, cells := 0, slots := 0, locals := 103 }) (lv := [some (.ref v0), some (.int v1), none, none, none, none, none, none]) (own := RX12) (fr := 3) (lo := 103) (by decide) rfl rfl rfl (Nat.le_of_ble_eq_true rfl) rfl (fun hw p e R s m args below meth c hC hr hlk hnm => ?_)
  unfold w_X12_dieIt at hw
  refine z_aload_n hC dX12_dieIt_0 rfl rfl ?_
  refine z_getP hC FX12 3 lk_1358 dX12_dieIt_1 (by decide) hw (fun x1 hw => ?_)
  refine z_bipush hC bi_22 dX12_dieIt_4 ?_
  refine z_iload_n hC dX12_dieIt_6 rfl rfl ?_
  refine z_iadd hC dX12_dieIt_7 ?_
  refine z_iconst hC ic_1 dX12_dieIt_8 ?_
  refine z_astI hC dX12_dieIt_9 hw (fun S hw => ?_)
  refine z_aload_n hC dX12_dieIt_10 rfl rfl ?_
  refine z_getP hC FX12 3 lk_1358 dX12_dieIt_11 (by decide) hw (fun x11 hw => ?_)
  refine z_sipush hC si_162 dX12_dieIt_14 ?_
  refine z_iload_n hC dX12_dieIt_17 rfl rfl ?_
  refine z_iadd hC dX12_dieIt_18 ?_
  refine z_aldI hC dX12_dieIt_19 hw (fun x19 hw => ?_)
  refine z_aload_n hC dX12_dieIt_20 rfl rfl ?_
  refine z_callV (ku' := 0) (kv' := 0) (n := 0) (As := []) (st := [.int x19]) hC (c_X12_living l G B S v0 _) hw.2 hw.1 rfl lk_1904 lk_1906 lk_98 lk_133 lk_1907 hd_X12_living rfl rfl (Nat.le_of_ble_eq_true rfl) (Nat.le_of_ble_eq_true rfl) rfl (Nat.le_of_ble_eq_true rfl) dX12_dieIt_21 (Nat.le_refl 0) (Nat.le_refl 0) (kI (fun x21 S hw => ?_))
  refine z_iand hC dX12_dieIt_24 ?_
  refine z_nmI (fun y25 e25 => ?_)
  have hw := hw y25 e25
  refine z_istore_n (i := 2) (lv' := [some (.ref v0), some (.int v1), some (.int y25), none, none, none, none, none]) hC rfl dX12_dieIt_25 (by decide) (hok_v rfl rfl) rfl ?_
  refine z_iload_n hC dX12_dieIt_26 rfl rfl ?_
  refine z_callS (ku' := 0) (kv' := 0) (n := 1) (As := [.int y25]) (st := []) hC (c_X12_ones l G B S y25 _) hw lk_1908 lk_1909 lk_133 lk_1910 hd_X12_ones rfl rfl (Nat.le_of_ble_eq_true rfl) (Nat.le_of_ble_eq_true rfl) rfl (Nat.le_of_ble_eq_true rfl) dX12_dieIt_27 (Nat.le_refl 0) (Nat.le_refl 0) (kI (fun x27 S hw => ?_))
  refine z_istore_n (i := 3) (lv' := [some (.ref v0), some (.int v1), some (.int y25), some (.int x27), none, none, none, none]) hC rfl dX12_dieIt_30 (by decide) (hok_v rfl rfl) rfl ?_
  refine z_iconst hC ic_0 dX12_dieIt_31 ?_
  refine z_istore (i := 4) (lv' := [some (.ref v0), some (.int v1), some (.int y25), some (.int x27), some (.int 0), none, none, none]) hC dX12_dieIt_32 (by decide) (hok_v rfl rfl) rfl ?_
  refine z_mask (lv' := [some (.ref v0), some (.int v1), some (.int y25), some (.int x27), some (.int 0), none, none, none]) [true, true, true, true, true, false, false, false] rfl ?_
  obtain ⟨n34, hw⟩ := hw
  exact t_X12_dieIt_b34 hC hr hlk hnm n34 hw
end
section
variable {p : Program} {l : Launch} {e : Env} {R : Room} {s : State} {m : MethodId} {args : Array Value} {below : List Frame} {meth : Method} {c : Code} {G : hG} {B mc ms : Nat}
def w_X12_dieNow (q : Int32 → hS → Prop) (S : hS) (v0 : Nat) (v1 : Int32) : Prop := oK S v0 12 ∧ w_X12_isPerson (fun x2 S => (¬ x2 = 0 → oK S v0 12 ∧ w_X12_lives (fun x13 S => (¬ x13 = 0 → oK S v0 12 ∧ w_X12_remember (fun S => oK S v0 12 ∧ w_X12_dieIt (fun x29 S => q x29 S) S v0 v1) S v0 2) ∧ (x13 = 0 → q (-3) S)) S v0 v1) ∧ (x2 = 0 → q (-2) S)) S v0 v1
set_option maxRecDepth 100000 in
set_option maxHeartbeats 4000000 in
theorem c_X12_dieNow (l : Launch) (G : hG) (B : Nat) (S : hS) (v0 : Nat) (v1 : Int32) (q : Int32 → hS → Prop) : Met l yX12_dieNow (hws yX12_dieNow cX12_dieNow 2 (Option.some FieldType.int)) ({ frames := 4, cells := 0, slots := 0, locals := 130 }) (hPc G B S [.ref v0, .int v1] (w_X12_dieNow q S v0 v1)) (hQ G B (iP q)) (0) (0) (fun r => B ≤ r) := by
  refine hMet (rm := { frames := 4, cells := 0, slots := 0, locals := 130 }) (lv := [some (.ref v0), some (.int v1)]) (own := RX12) (fr := 4) (lo := 130) (by decide) rfl rfl rfl (Nat.le_of_ble_eq_true rfl) rfl (fun hw p e R s m args below meth c hC hr hlk hnm => ?_)
  unfold w_X12_dieNow at hw
  refine z_aload_n hC dX12_dieNow_0 rfl rfl ?_
  refine z_iload_n hC dX12_dieNow_1 rfl rfl ?_
  refine z_callV (ku' := 0) (kv' := 0) (n := 1) (As := [.int v1]) (st := []) hC (c_X12_isPerson l G B S v0 v1 _) hw.2 hw.1 rfl lk_1614 lk_1616 lk_52 lk_133 lk_1617 hd_X12_isPerson rfl rfl (Nat.le_of_ble_eq_true rfl) (Nat.le_of_ble_eq_true rfl) rfl (Nat.le_of_ble_eq_true rfl) dX12_dieNow_2 (Nat.le_refl 0) (Nat.le_refl 0) (kI (fun x2 S hw => ?_))
  refine z_if_ne (tgt := 11) hC dX12_dieNow_5 (by decide) (fun c5 => ?_) (fun c5 => ?_)
  · have hw := hw.1 c5
    refine z_aload_n hC dX12_dieNow_11 rfl rfl ?_
    refine z_iload_n hC dX12_dieNow_12 rfl rfl ?_
    refine z_callV (ku' := 0) (kv' := 0) (n := 1) (As := [.int v1]) (st := []) hC (c_X12_lives l G B S v0 v1 _) hw.2 hw.1 rfl lk_1644 lk_1646 lk_56 lk_133 lk_1647 hd_X12_lives rfl rfl (Nat.le_of_ble_eq_true rfl) (Nat.le_of_ble_eq_true rfl) rfl (Nat.le_of_ble_eq_true rfl) dX12_dieNow_13 (Nat.le_refl 0) (Nat.le_refl 0) (kI (fun x13 S hw => ?_))
    refine z_if_ne (tgt := 22) hC dX12_dieNow_16 (by decide) (fun c16 => ?_) (fun c16 => ?_)
    · have hw := hw.1 c16
      refine z_aload_n hC dX12_dieNow_22 rfl rfl ?_
      refine z_iconst hC ic_2 dX12_dieNow_23 ?_
      refine z_callV (ku' := 0) (kv' := 0) (n := 1) (As := [.int 2]) (st := []) hC (c_X12_remember l G B S v0 2 _) hw.2 hw.1 rfl lk_1872 lk_1874 lk_92 lk_133 lk_1875 hd_X12_remember rfl rfl (Nat.le_of_ble_eq_true rfl) (Nat.le_of_ble_eq_true rfl) rfl (Nat.le_of_ble_eq_true rfl) dX12_dieNow_24 (Nat.le_refl 0) (Nat.le_refl 0) (kV (fun S hw => ?_))
      refine z_aload_n hC dX12_dieNow_27 rfl rfl ?_
      refine z_iload_n hC dX12_dieNow_28 rfl rfl ?_
      refine z_callV (ku' := 0) (kv' := 0) (n := 1) (As := [.int v1]) (st := []) hC (c_X12_dieIt l G B S v0 v1 _) hw.2 hw.1 rfl lk_1900 lk_1902 lk_97 lk_133 lk_1903 hd_X12_dieIt rfl rfl (Nat.le_of_ble_eq_true rfl) (Nat.le_of_ble_eq_true rfl) rfl (Nat.le_of_ble_eq_true rfl) dX12_dieNow_29 (Nat.le_refl 0) (Nat.le_refl 0) (kI (fun x29 S hw => ?_))
      exact z_iret hC hr hlk dX12_dieNow_32 ⟨_, rfl, hw⟩
    · have hw := hw.2 c16
      refine z_bipush hC bi_m3 dX12_dieNow_19 ?_
      exact z_iret hC hr hlk dX12_dieNow_21 ⟨_, rfl, hw⟩
  · have hw := hw.2 c5
    refine z_bipush hC bi_m2 dX12_dieNow_8 ?_
    exact z_iret hC hr hlk dX12_dieNow_10 ⟨_, rfl, hw⟩
end
section
variable {p : Program} {l : Launch} {e : Env} {R : Room} {s : State} {m : MethodId} {args : Array Value} {below : List Frame} {meth : Method} {c : Code} {G : hG} {B mc ms : Nat}
def w_X12_die (q : Int32 → hS → Prop) (S : hS) (v0 : Nat) (v1 : Int32) : Prop := pI S v0 12 0 0 (fun S => oK S v0 12 ∧ w_X12_dieNow (fun x8 S => oK S v0 12 ∧ w_X12_tell (fun x11 S => q x11 S) S v0 x8) S v0 v1)
set_option maxRecDepth 100000 in
set_option maxHeartbeats 4000000 in
theorem c_X12_die (l : Launch) (G : hG) (B : Nat) (S : hS) (v0 : Nat) (v1 : Int32) (q : Int32 → hS → Prop) : Met l yX12_die (hws yX12_die cX12_die 2 (Option.some FieldType.int)) ({ frames := 5, cells := 0, slots := 0, locals := 151 }) (hPc G B S [.ref v0, .int v1] (w_X12_die q S v0 v1)) (hQ G B (iP q)) (0) (0) (fun r => B ≤ r) := by
  refine hMet (rm := { frames := 5, cells := 0, slots := 0, locals := 151 }) (lv := [some (.ref v0), some (.int v1)]) (own := RX12) (fr := 5) (lo := 151) (by decide) rfl rfl rfl (Nat.le_of_ble_eq_true rfl) rfl (fun hw p e R s m args below meth c hC hr hlk hnm => ?_)
  unfold w_X12_die at hw
  refine z_aload_n hC dX12_die_0 rfl rfl ?_
  refine z_iconst hC ic_0 dX12_die_1 ?_
  refine z_putI hC FX12 0 lk_1355 dX12_die_2 (by decide) rfl rfl hw (fun S hw => ?_)
  refine z_aload_n hC dX12_die_5 rfl rfl ?_
  refine z_aload_n hC dX12_die_6 rfl rfl ?_
  refine z_iload_n hC dX12_die_7 rfl rfl ?_
  refine z_callV (ku' := 0) (kv' := 0) (n := 1) (As := [.int v1]) (st := [.ref v0]) hC (c_X12_dieNow l G B S v0 v1 _) hw.2 hw.1 rfl lk_1896 lk_1898 lk_96 lk_133 lk_1899 hd_X12_dieNow rfl rfl (Nat.le_of_ble_eq_true rfl) (Nat.le_of_ble_eq_true rfl) rfl (Nat.le_of_ble_eq_true rfl) dX12_die_8 (Nat.le_refl 0) (Nat.le_refl 0) (kI (fun x8 S hw => ?_))
  refine z_callV (ku' := 0) (kv' := 0) (n := 1) (As := [.int x8]) (st := []) hC (c_X12_tell l G B S v0 x8 _) hw.2 hw.1 rfl lk_1544 lk_1546 lk_41 lk_133 lk_1547 hd_X12_tell rfl rfl (Nat.le_of_ble_eq_true rfl) (Nat.le_of_ble_eq_true rfl) rfl (Nat.le_of_ble_eq_true rfl) dX12_die_11 (Nat.le_refl 0) (Nat.le_refl 0) (kI (fun x11 S hw => ?_))
  exact z_iret hC hr hlk dX12_die_14 ⟨_, rfl, hw⟩
end
