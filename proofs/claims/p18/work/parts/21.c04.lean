section
variable {p : Program} {l : Launch} {e : Env} {R : Room} {s : State} {m : MethodId} {args : Array Value} {below : List Frame} {meth : Method} {c : Code} {G : hG} {B mc ms : Nat}
def w_X9_advance_b93 (q : hS → Prop) : Nat → hS → (Nat) → Prop
  | 0, _, _ => False
  | n + 1, S, v0 => gI S v0 9 5 (fun x94 => gI S v0 9 1 (fun x98 => (x98 ≤ x94 → q S) ∧ (¬ x98 ≤ x94 → gP S v0 9 0 (fun x105 => gI S v0 9 5 (fun x109 => aI S x105 x109 (fun x112 => w_X9_isLetter (fun x113 S => (x113 = 0 → q S) ∧ (¬ x113 = 0 → gI S v0 9 5 (fun x121 => pI S v0 9 5 (x121 + 1) (fun S => w_X9_advance_b93 q n S v0)))) S x112))))))
set_option maxRecDepth 100000 in
set_option maxHeartbeats 4000000 in
theorem t_X9_advance_b93 (hC : zC p R s m args c cX9_advance 1 RX9 G B mc ms 2 80) (hr : meth.sig.returnType = (Option.none : Option FieldType)) (hlk : meth.locks = false) (hnm : meth.name = "advance") {q : hS → Prop} (n : Nat) : ∀ {S : hS} {v0 : Nat} (hw : w_X9_advance_b93 q n S v0), Z p l e R s m args below meth c (MQ below (hQ G B (vP q)) args s mc ms (fun r => B ≤ r)) G B mc ms 1 S 0 0 93 [some (.ref v0)] [] := by
  induction n with
  | zero => intro S v0 hw; exact (by rw [w_X9_advance_b93] at hw; exact hw.elim)
  | succ n ih =>
    intro S v0 hw
    rw [w_X9_advance_b93] at hw
    refine z_aload_n hC dX9_advance_93 rfl rfl ?_
    refine z_getI hC FX9 5 lk_321 dX9_advance_94 (by decide) hw (fun x94 hw => ?_)
    refine z_aload_n hC dX9_advance_97 rfl rfl ?_
    refine z_getI hC FX9 1 lk_313 dX9_advance_98 (by decide) hw (fun x98 hw => ?_)
    refine z_icmp_ge (tgt := 241) hC dX9_advance_101 (by decide) (fun c101 => ?_) (fun c101 => ?_)
    · have hw := hw.1 c101
      exact z_vret hC hr hlk dX9_advance_241 ⟨rfl, hw⟩
    · have hw := hw.2 c101
      refine z_aload_n hC dX9_advance_104 rfl rfl ?_
      refine z_getP hC FX9 0 lk_311 dX9_advance_105 (by decide) hw (fun x105 hw => ?_)
      refine z_aload_n hC dX9_advance_108 rfl rfl ?_
      refine z_getI hC FX9 5 lk_321 dX9_advance_109 (by decide) hw (fun x109 hw => ?_)
      refine z_aldI hC dX9_advance_112 hw (fun x112 hw => ?_)
      refine z_callS (ku' := 0) (kv' := 0) (n := 1) (As := [.int x112]) (st := []) hC (c_X9_isLetter l G B S x112 _) hw lk_794 lk_795 lk_125 lk_796 hd_X9_isLetter rfl rfl (Nat.le_of_ble_eq_true rfl) (Nat.le_of_ble_eq_true rfl) rfl (Nat.le_of_ble_eq_true rfl) dX9_advance_113 (Nat.le_refl 0) (Nat.le_refl 0) (kI (fun x113 S hw => ?_))
      refine z_if_eq (tgt := 241) hC dX9_advance_116 (by decide) (fun c116 => ?_) (fun c116 => ?_)
      · have hw := hw.1 c116
        exact z_vret hC hr hlk dX9_advance_241 ⟨rfl, hw⟩
      · have hw := hw.2 c116
        refine z_aload_n hC dX9_advance_119 rfl rfl ?_
        refine z_dup hC rfl dX9_advance_120 ?_
        refine z_getI hC FX9 5 lk_321 dX9_advance_121 (by decide) hw (fun x121 hw => ?_)
        refine z_iconst hC ic_1 dX9_advance_124 ?_
        refine z_iadd hC dX9_advance_125 ?_
        refine z_putI hC FX9 5 lk_321 dX9_advance_126 (by decide) rfl rfl hw (fun S hw => ?_)
        refine z_goto (tgt := 93) hC dX9_advance_129 (by decide) ?_
        refine z_mask (lv' := [some (.ref v0)]) [true] rfl ?_
        exact ih hw
def w_X9_advance_b157 (q : hS → Prop) : Nat → hS → (Nat) → Prop
  | 0, _, _ => False
  | n + 1, S, v0 => gI S v0 9 5 (fun x158 => gI S v0 9 1 (fun x162 => (x162 ≤ x158 → q S) ∧ (¬ x162 ≤ x158 → gP S v0 9 0 (fun x169 => gI S v0 9 5 (fun x173 => aI S x169 x173 (fun x176 => w_X9_isDigit (fun x177 S => (x177 = 0 → q S) ∧ (¬ x177 = 0 → gI S v0 9 4 (fun x185 => gP S v0 9 0 (fun x192 => gI S v0 9 5 (fun x196 => aI S x192 x196 (fun x199 => pI S v0 9 4 (if 10000 < (((x185 * 10) + x199) - 48) then 10000 else (((x185 * 10) + x199) - 48)) (fun S => gI S v0 9 5 (fun x215 => pI S v0 9 5 (x215 + 1) (fun S => w_X9_advance_b157 q n S v0))))))))) S x176))))))
set_option maxRecDepth 100000 in
set_option maxHeartbeats 4000000 in
theorem t_X9_advance_b157 (hC : zC p R s m args c cX9_advance 1 RX9 G B mc ms 2 80) (hr : meth.sig.returnType = (Option.none : Option FieldType)) (hlk : meth.locks = false) (hnm : meth.name = "advance") {q : hS → Prop} (n : Nat) : ∀ {S : hS} {v0 : Nat} (hw : w_X9_advance_b157 q n S v0), Z p l e R s m args below meth c (MQ below (hQ G B (vP q)) args s mc ms (fun r => B ≤ r)) G B mc ms 1 S 0 0 157 [some (.ref v0)] [] := by
  induction n with
  | zero => intro S v0 hw; exact (by rw [w_X9_advance_b157] at hw; exact hw.elim)
  | succ n ih =>
    intro S v0 hw
    rw [w_X9_advance_b157] at hw
    refine z_aload_n hC dX9_advance_157 rfl rfl ?_
    refine z_getI hC FX9 5 lk_321 dX9_advance_158 (by decide) hw (fun x158 hw => ?_)
    refine z_aload_n hC dX9_advance_161 rfl rfl ?_
    refine z_getI hC FX9 1 lk_313 dX9_advance_162 (by decide) hw (fun x162 hw => ?_)
    refine z_icmp_ge (tgt := 241) hC dX9_advance_165 (by decide) (fun c165 => ?_) (fun c165 => ?_)
    · have hw := hw.1 c165
      exact z_vret hC hr hlk dX9_advance_241 ⟨rfl, hw⟩
    · have hw := hw.2 c165
      refine z_aload_n hC dX9_advance_168 rfl rfl ?_
      refine z_getP hC FX9 0 lk_311 dX9_advance_169 (by decide) hw (fun x169 hw => ?_)
      refine z_aload_n hC dX9_advance_172 rfl rfl ?_
      refine z_getI hC FX9 5 lk_321 dX9_advance_173 (by decide) hw (fun x173 hw => ?_)
      refine z_aldI hC dX9_advance_176 hw (fun x176 hw => ?_)
      refine z_callS (ku' := 0) (kv' := 0) (n := 1) (As := [.int x176]) (st := []) hC (c_X9_isDigit l G B S x176 _) hw lk_797 lk_798 lk_125 lk_799 hd_X9_isDigit rfl rfl (Nat.le_of_ble_eq_true rfl) (Nat.le_of_ble_eq_true rfl) rfl (Nat.le_of_ble_eq_true rfl) dX9_advance_177 (Nat.le_refl 0) (Nat.le_refl 0) (kI (fun x177 S hw => ?_))
      refine z_if_eq (tgt := 241) hC dX9_advance_180 (by decide) (fun c180 => ?_) (fun c180 => ?_)
      · have hw := hw.1 c180
        exact z_vret hC hr hlk dX9_advance_241 ⟨rfl, hw⟩
      · have hw := hw.2 c180
        refine z_aload_n hC dX9_advance_183 rfl rfl ?_
        refine z_aload_n hC dX9_advance_184 rfl rfl ?_
        refine z_getI hC FX9 4 lk_319 dX9_advance_185 (by decide) hw (fun x185 hw => ?_)
        refine z_bipush hC bi_10 dX9_advance_188 ?_
        refine z_imul hC dX9_advance_190 ?_
        refine z_aload_n hC dX9_advance_191 rfl rfl ?_
        refine z_getP hC FX9 0 lk_311 dX9_advance_192 (by decide) hw (fun x192 hw => ?_)
        refine z_aload_n hC dX9_advance_195 rfl rfl ?_
        refine z_getI hC FX9 5 lk_321 dX9_advance_196 (by decide) hw (fun x196 hw => ?_)
        refine z_aldI hC dX9_advance_199 hw (fun x199 hw => ?_)
        refine z_iadd hC dX9_advance_200 ?_
        refine z_bipush hC bi_48 dX9_advance_201 ?_
        refine z_isub hC dX9_advance_203 ?_
        refine z_sipush hC si_10000 dX9_advance_204 ?_
        refine z_mmin hC lk_800 lk_657 lk_134 lk_658 dX9_advance_207 (by decide) (Nat.le_of_ble_eq_true rfl) ?_
        refine z_putI hC FX9 4 lk_319 dX9_advance_210 (by decide) rfl rfl hw (fun S hw => ?_)
        refine z_aload_n hC dX9_advance_213 rfl rfl ?_
        refine z_dup hC rfl dX9_advance_214 ?_
        refine z_getI hC FX9 5 lk_321 dX9_advance_215 (by decide) hw (fun x215 hw => ?_)
        refine z_iconst hC ic_1 dX9_advance_218 ?_
        refine z_iadd hC dX9_advance_219 ?_
        refine z_putI hC FX9 5 lk_321 dX9_advance_220 (by decide) rfl rfl hw (fun S hw => ?_)
        refine z_goto (tgt := 157) hC dX9_advance_223 (by decide) ?_
        refine z_mask (lv' := [some (.ref v0)]) [true] rfl ?_
        exact ih hw
def w_X9_advance_b46 (q : hS → Prop) (S : hS) (v0 : Nat) : Prop := gI S v0 9 3 (fun x48 => pI S v0 9 5 x48 (fun S => gI S v0 9 3 (fun x55 => gI S v0 9 1 (fun x59 => (x55 < x59 → gP S v0 9 0 (fun x74 => gI S v0 9 3 (fun x78 => aI S x74 x78 (fun x81 => w_X9_isLetter (fun x82 S => (x82 = 0 → gP S v0 9 0 (fun x133 => gI S v0 9 3 (fun x137 => aI S x133 x137 (fun x140 => w_X9_isDigit (fun x141 S => (x141 = 0 → pI S v0 9 2 3 (fun S => gI S v0 9 5 (fun x233 => pI S v0 9 5 (x233 + 1) (fun S => q S)))) ∧ (¬ x141 = 0 → pI S v0 9 2 2 (fun S => pI S v0 9 4 0 (fun S => (∃ n157 : Nat, w_X9_advance_b157 q n157 S v0))))) S x140)))) ∧ (¬ x82 = 0 → pI S v0 9 2 1 (fun S => (∃ n93 : Nat, w_X9_advance_b93 q n93 S v0)))) S x81)))) ∧ (¬ x55 < x59 → pI S v0 9 2 0 (fun S => q S))))))
set_option maxRecDepth 100000 in
set_option maxHeartbeats 4000000 in
theorem t_X9_advance_b46 (hC : zC p R s m args c cX9_advance 1 RX9 G B mc ms 2 80) (hr : meth.sig.returnType = (Option.none : Option FieldType)) (hlk : meth.locks = false) (hnm : meth.name = "advance") {q : hS → Prop} {S : hS} {v0 : Nat} (hw : w_X9_advance_b46 q S v0) : Z p l e R s m args below meth c (MQ below (hQ G B (vP q)) args s mc ms (fun r => B ≤ r)) G B mc ms 1 S 0 0 46 [some (.ref v0)] [] := by
  unfold w_X9_advance_b46 at hw
  refine z_aload_n hC dX9_advance_46 rfl rfl ?_
  refine z_aload_n hC dX9_advance_47 rfl rfl ?_
  refine z_getI hC FX9 3 lk_317 dX9_advance_48 (by decide) hw (fun x48 hw => ?_)
  refine z_putI hC FX9 5 lk_321 dX9_advance_51 (by decide) rfl rfl hw (fun S hw => ?_)
  refine z_aload_n hC dX9_advance_54 rfl rfl ?_
  refine z_getI hC FX9 3 lk_317 dX9_advance_55 (by decide) hw (fun x55 hw => ?_)
  refine z_aload_n hC dX9_advance_58 rfl rfl ?_
  refine z_getI hC FX9 1 lk_313 dX9_advance_59 (by decide) hw (fun x59 hw => ?_)
  refine z_icmp_lt (tgt := 73) hC dX9_advance_62 (by decide) (fun c62 => ?_) (fun c62 => ?_)
  · have hw := hw.1 c62
    refine z_aload_n hC dX9_advance_73 rfl rfl ?_
    refine z_getP hC FX9 0 lk_311 dX9_advance_74 (by decide) hw (fun x74 hw => ?_)
    refine z_aload_n hC dX9_advance_77 rfl rfl ?_
    refine z_getI hC FX9 3 lk_317 dX9_advance_78 (by decide) hw (fun x78 hw => ?_)
    refine z_aldI hC dX9_advance_81 hw (fun x81 hw => ?_)
    refine z_callS (ku' := 0) (kv' := 0) (n := 1) (As := [.int x81]) (st := []) hC (c_X9_isLetter l G B S x81 _) hw lk_794 lk_795 lk_125 lk_796 hd_X9_isLetter rfl rfl (Nat.le_of_ble_eq_true rfl) (Nat.le_of_ble_eq_true rfl) rfl (Nat.le_of_ble_eq_true rfl) dX9_advance_82 (Nat.le_refl 0) (Nat.le_refl 0) (kI (fun x82 S hw => ?_))
    refine z_if_eq (tgt := 132) hC dX9_advance_85 (by decide) (fun c85 => ?_) (fun c85 => ?_)
    · have hw := hw.1 c85
      refine z_aload_n hC dX9_advance_132 rfl rfl ?_
      refine z_getP hC FX9 0 lk_311 dX9_advance_133 (by decide) hw (fun x133 hw => ?_)
      refine z_aload_n hC dX9_advance_136 rfl rfl ?_
      refine z_getI hC FX9 3 lk_317 dX9_advance_137 (by decide) hw (fun x137 hw => ?_)
      refine z_aldI hC dX9_advance_140 hw (fun x140 hw => ?_)
      refine z_callS (ku' := 0) (kv' := 0) (n := 1) (As := [.int x140]) (st := []) hC (c_X9_isDigit l G B S x140 _) hw lk_797 lk_798 lk_125 lk_799 hd_X9_isDigit rfl rfl (Nat.le_of_ble_eq_true rfl) (Nat.le_of_ble_eq_true rfl) rfl (Nat.le_of_ble_eq_true rfl) dX9_advance_141 (Nat.le_refl 0) (Nat.le_refl 0) (kI (fun x141 S hw => ?_))
      refine z_if_eq (tgt := 226) hC dX9_advance_144 (by decide) (fun c144 => ?_) (fun c144 => ?_)
      · have hw := hw.1 c144
        refine z_aload_n hC dX9_advance_226 rfl rfl ?_
        refine z_iconst hC ic_3 dX9_advance_227 ?_
        refine z_putI hC FX9 2 lk_315 dX9_advance_228 (by decide) rfl rfl hw (fun S hw => ?_)
        refine z_aload_n hC dX9_advance_231 rfl rfl ?_
        refine z_dup hC rfl dX9_advance_232 ?_
        refine z_getI hC FX9 5 lk_321 dX9_advance_233 (by decide) hw (fun x233 hw => ?_)
        refine z_iconst hC ic_1 dX9_advance_236 ?_
        refine z_iadd hC dX9_advance_237 ?_
        refine z_putI hC FX9 5 lk_321 dX9_advance_238 (by decide) rfl rfl hw (fun S hw => ?_)
        exact z_vret hC hr hlk dX9_advance_241 ⟨rfl, hw⟩
      · have hw := hw.2 c144
        refine z_aload_n hC dX9_advance_147 rfl rfl ?_
        refine z_iconst hC ic_2 dX9_advance_148 ?_
        refine z_putI hC FX9 2 lk_315 dX9_advance_149 (by decide) rfl rfl hw (fun S hw => ?_)
        refine z_aload_n hC dX9_advance_152 rfl rfl ?_
        refine z_iconst hC ic_0 dX9_advance_153 ?_
        refine z_putI hC FX9 4 lk_319 dX9_advance_154 (by decide) rfl rfl hw (fun S hw => ?_)
        refine z_mask (lv' := [some (.ref v0)]) [true] rfl ?_
        obtain ⟨n157, hw⟩ := hw
        exact t_X9_advance_b157 hC hr hlk hnm n157 hw
    · have hw := hw.2 c85
      refine z_aload_n hC dX9_advance_88 rfl rfl ?_
      refine z_iconst hC ic_1 dX9_advance_89 ?_
      refine z_putI hC FX9 2 lk_315 dX9_advance_90 (by decide) rfl rfl hw (fun S hw => ?_)
      refine z_mask (lv' := [some (.ref v0)]) [true] rfl ?_
      obtain ⟨n93, hw⟩ := hw
      exact t_X9_advance_b93 hC hr hlk hnm n93 hw
  · have hw := hw.2 c62
    refine z_aload_n hC dX9_advance_65 rfl rfl ?_
    refine z_iconst hC ic_0 dX9_advance_66 ?_
    refine z_putI hC FX9 2 lk_315 dX9_advance_67 (by decide) rfl rfl hw (fun S hw => ?_)
    refine z_goto (tgt := 241) hC dX9_advance_70 (by decide) ?_
    exact z_vret hC hr hlk dX9_advance_241 ⟨rfl, hw⟩
def w_X9_advance_b8 (q : hS → Prop) : Nat → hS → (Nat) → Prop
  | 0, _, _ => False
  | n + 1, S, v0 => gI S v0 9 3 (fun x9 => gI S v0 9 1 (fun x13 => (x13 ≤ x9 → w_X9_advance_b46 q S v0) ∧ (¬ x13 ≤ x9 → gP S v0 9 0 (fun x20 => gI S v0 9 3 (fun x24 => aI S x20 x24 (fun x27 => (¬ x27 = 32 → w_X9_advance_b46 q S v0) ∧ (x27 = 32 → gI S v0 9 3 (fun x35 => pI S v0 9 3 (x35 + 1) (fun S => w_X9_advance_b8 q n S v0)))))))))
set_option maxRecDepth 100000 in
set_option maxHeartbeats 4000000 in
theorem t_X9_advance_b8 (hC : zC p R s m args c cX9_advance 1 RX9 G B mc ms 2 80) (hr : meth.sig.returnType = (Option.none : Option FieldType)) (hlk : meth.locks = false) (hnm : meth.name = "advance") {q : hS → Prop} (n : Nat) : ∀ {S : hS} {v0 : Nat} (hw : w_X9_advance_b8 q n S v0), Z p l e R s m args below meth c (MQ below (hQ G B (vP q)) args s mc ms (fun r => B ≤ r)) G B mc ms 1 S 0 0 8 [some (.ref v0)] [] := by
  induction n with
  | zero => intro S v0 hw; exact (by rw [w_X9_advance_b8] at hw; exact hw.elim)
  | succ n ih =>
    intro S v0 hw
    rw [w_X9_advance_b8] at hw
    refine z_aload_n hC dX9_advance_8 rfl rfl ?_
    refine z_getI hC FX9 3 lk_317 dX9_advance_9 (by decide) hw (fun x9 hw => ?_)
    refine z_aload_n hC dX9_advance_12 rfl rfl ?_
    refine z_getI hC FX9 1 lk_313 dX9_advance_13 (by decide) hw (fun x13 hw => ?_)
    refine z_icmp_ge (tgt := 46) hC dX9_advance_16 (by decide) (fun c16 => ?_) (fun c16 => ?_)
    · have hw := hw.1 c16
      refine z_mask (lv' := [some (.ref v0)]) [true] rfl ?_
      exact t_X9_advance_b46 hC hr hlk hnm hw
    · have hw := hw.2 c16
      refine z_aload_n hC dX9_advance_19 rfl rfl ?_
      refine z_getP hC FX9 0 lk_311 dX9_advance_20 (by decide) hw (fun x20 hw => ?_)
      refine z_aload_n hC dX9_advance_23 rfl rfl ?_
      refine z_getI hC FX9 3 lk_317 dX9_advance_24 (by decide) hw (fun x24 hw => ?_)
      refine z_aldI hC dX9_advance_27 hw (fun x27 hw => ?_)
      refine z_bipush hC bi_32 dX9_advance_28 ?_
      refine z_icmp_ne (tgt := 46) hC dX9_advance_30 (by decide) (fun c30 => ?_) (fun c30 => ?_)
      · have hw := hw.1 c30
        refine z_mask (lv' := [some (.ref v0)]) [true] rfl ?_
        exact t_X9_advance_b46 hC hr hlk hnm hw
      · have hw := hw.2 c30
        refine z_aload_n hC dX9_advance_33 rfl rfl ?_
        refine z_dup hC rfl dX9_advance_34 ?_
        refine z_getI hC FX9 3 lk_317 dX9_advance_35 (by decide) hw (fun x35 hw => ?_)
        refine z_iconst hC ic_1 dX9_advance_38 ?_
        refine z_iadd hC dX9_advance_39 ?_
        refine z_putI hC FX9 3 lk_317 dX9_advance_40 (by decide) rfl rfl hw (fun S hw => ?_)
        refine z_goto (tgt := 8) hC dX9_advance_43 (by decide) ?_
        refine z_mask (lv' := [some (.ref v0)]) [true] rfl ?_
        exact ih hw
def w_X9_advance (q : hS → Prop) (S : hS) (v0 : Nat) : Prop := gI S v0 9 5 (fun x2 => pI S v0 9 3 x2 (fun S => (∃ n8 : Nat, w_X9_advance_b8 q n8 S v0)))
set_option maxRecDepth 100000 in
set_option maxHeartbeats 4000000 in
theorem c_X9_advance (l : Launch) (G : hG) (B : Nat) (S : hS) (v0 : Nat) (q : hS → Prop) : Met l yX9_advance (hws yX9_advance cX9_advance 1 (Option.none : Option FieldType)) ({ frames := 2, cells := 0, slots := 0, locals := 80 }) (hPc G B S [.ref v0] (w_X9_advance q S v0)) (hQ G B (vP q)) (0) (0) (fun r => B ≤ r) := by
  refine hMet (rm := { frames := 2, cells := 0, slots := 0, locals := 80 }) (lv := [some (.ref v0)]) (own := RX9) (fr := 2) (lo := 80) (by decide) rfl rfl rfl (Nat.le_of_ble_eq_true rfl) rfl (fun hw p e R s m args below meth c hC hr hlk hnm => ?_)
  unfold w_X9_advance at hw
  refine z_aload_n hC dX9_advance_0 rfl rfl ?_
  refine z_aload_n hC dX9_advance_1 rfl rfl ?_
  refine z_getI hC FX9 5 lk_321 dX9_advance_2 (by decide) hw (fun x2 hw => ?_)
  refine z_putI hC FX9 3 lk_317 dX9_advance_5 (by decide) rfl rfl hw (fun S hw => ?_)
  refine z_mask (lv' := [some (.ref v0)]) [true] rfl ?_
  obtain ⟨n8, hw⟩ := hw
  exact t_X9_advance_b8 hC hr hlk hnm n8 hw
end
section
variable {p : Program} {l : Launch} {e : Env} {R : Room} {s : State} {m : MethodId} {args : Array Value} {below : List Frame} {meth : Method} {c : Code} {G : hG} {B mc ms : Nat}
def w_X9_rewind (q : hS → Prop) (S : hS) (v0 : Nat) : Prop := pI S v0 9 5 0 (fun S => oK S v0 9 ∧ w_X9_advance (fun S => q S) S v0)
set_option maxRecDepth 100000 in
set_option maxHeartbeats 4000000 in
theorem c_X9_rewind (l : Launch) (G : hG) (B : Nat) (S : hS) (v0 : Nat) (q : hS → Prop) : Met l yX9_rewind (hws yX9_rewind cX9_rewind 1 (Option.none : Option FieldType)) ({ frames := 3, cells := 0, slots := 0, locals := 100 }) (hPc G B S [.ref v0] (w_X9_rewind q S v0)) (hQ G B (vP q)) (0) (0) (fun r => B ≤ r) := by
  refine hMet (rm := { frames := 3, cells := 0, slots := 0, locals := 100 }) (lv := [some (.ref v0)]) (own := RX9) (fr := 3) (lo := 100) (by decide) rfl rfl rfl (Nat.le_of_ble_eq_true rfl) rfl (fun hw p e R s m args below meth c hC hr hlk hnm => ?_)
  unfold w_X9_rewind at hw
  refine z_aload_n hC dX9_rewind_0 rfl rfl ?_
  refine z_iconst hC ic_0 dX9_rewind_1 ?_
  refine z_putI hC FX9 5 lk_321 dX9_rewind_2 (by decide) rfl rfl hw (fun S hw => ?_)
  refine z_aload_n hC dX9_rewind_5 rfl rfl ?_
  refine z_callV (ku' := 0) (kv' := 0) (n := 0) (As := []) (st := []) hC (c_X9_advance l G B S v0 _) hw.2 hw.1 rfl lk_790 lk_791 lk_792 lk_125 lk_793 hd_X9_advance rfl rfl (Nat.le_of_ble_eq_true rfl) (Nat.le_of_ble_eq_true rfl) rfl (Nat.le_of_ble_eq_true rfl) dX9_rewind_6 (Nat.le_refl 0) (Nat.le_refl 0) (kV (fun S hw => ?_))
  exact z_vret hC hr hlk dX9_rewind_9 ⟨rfl, hw⟩
end
section
variable {p : Program} {l : Launch} {e : Env} {R : Room} {s : State} {m : MethodId} {args : Array Value} {below : List Frame} {meth : Method} {c : Code} {G : hG} {B mc ms : Nat}
def w_X9_isWord_b28 (tx : Nat → Nat) (q : Int32 → hS → Prop) : Nat → hS → (Nat) → (Nat) → (Int32) → Prop
  | 0, _, _, _, _ => False
  | n + 1, S, v0, v1, v2 => sLen tx v1 (fun x30 S => (x30 ≤ v2 → q 1 S) ∧ (¬ x30 ≤ v2 → gP S v0 9 0 (fun x37 => gI S v0 9 3 (fun x41 => aI S x37 (x41 + v2) (fun x46 => sChr tx v1 v2 (fun x49 S => (x46 = x49 → ∀ y57 : Int32, y57 = v2 + 1 → w_X9_isWord_b28 tx q n S v0 v1 y57) ∧ (¬ x46 = x49 → q 0 S)) S))))) S
set_option maxRecDepth 100000 in
set_option maxHeartbeats 4000000 in
theorem t_X9_isWord_b28 (hC : zC p R s m args c cX9_isWord 3 RX9 G B mc ms 5 171) (hr : meth.sig.returnType = (Option.some FieldType.boolean)) (hlk : meth.locks = false) (hnm : meth.name = "isWord") {q : Int32 → hS → Prop} (n : Nat) : ∀ {S : hS} {v0 : Nat} {v1 : Nat} {v2 : Int32} (hw : w_X9_isWord_b28 G.2.2.1 q n S v0 v1 v2), Z p l e R s m args below meth c (MQ below (hQ G B (iP q)) args s mc ms (fun r => B ≤ r)) G B mc ms 3 S 0 0 28 [some (.ref v0), some (.ref v1), some (.int v2)] [] := by
  induction n with
  | zero => intro S v0 v1 v2 hw; exact (by rw [w_X9_isWord_b28] at hw; exact hw.elim)
  | succ n ih =>
    intro S v0 v1 v2 hw
    rw [w_X9_isWord_b28] at hw
    refine z_iload_n hC dX9_isWord_28 rfl rfl ?_
    refine z_aload_n hC dX9_isWord_29 rfl rfl ?_
    obtain ⟨i30, r30, g30, hq30, -⟩ := id hw
    have hO30 := (hC.a.2.2.2.2.1 i30 r30 g30).2.1
    rw [← hq30] at hO30
    refine z_callVT (n := 0) (As := []) (st := [.int v2]) hC (c_J0_length l G B S v1  _) hw hO30 lk_814 lk_815 lk_816 lk_135 lk_817 hd_J0_length rfl rfl (by decide) (by decide) rfl (Nat.le_of_ble_eq_true rfl) dX9_isWord_30 (Nat.le_refl 0) (Nat.le_refl 0) (kI (fun x30 S hw => ?_))
    refine z_icmp_ge (tgt := 63) hC dX9_isWord_33 (by decide) (fun c33 => ?_) (fun c33 => ?_)
    · have hw := hw.1 c33
      refine z_iconst hC ic_1 dX9_isWord_63 ?_
      exact z_zret hC hr hlk (hz01 (Or.inr rfl)).1 dX9_isWord_64 ⟨_, rfl, hw⟩
    · have hw := hw.2 c33
      refine z_aload_n hC dX9_isWord_36 rfl rfl ?_
      refine z_getP hC FX9 0 lk_311 dX9_isWord_37 (by decide) hw (fun x37 hw => ?_)
      refine z_aload_n hC dX9_isWord_40 rfl rfl ?_
      refine z_getI hC FX9 3 lk_317 dX9_isWord_41 (by decide) hw (fun x41 hw => ?_)
      refine z_iload_n hC dX9_isWord_44 rfl rfl ?_
      refine z_iadd hC dX9_isWord_45 ?_
      refine z_aldI hC dX9_isWord_46 hw (fun x46 hw => ?_)
      refine z_aload_n hC dX9_isWord_47 rfl rfl ?_
      refine z_iload_n hC dX9_isWord_48 rfl rfl ?_
      obtain ⟨i49, r49, g49, hq49, -⟩ := id hw
      have hO49 := (hC.a.2.2.2.2.1 i49 r49 g49).2.1
      rw [← hq49] at hO49
      refine z_callVT (n := 1) (As := [.int v2]) (st := [.int x46]) hC (c_J0_charAt l G B S v1 v2 _) hw hO49 lk_824 lk_825 lk_826 lk_135 lk_827 hd_J0_charAt rfl rfl (by decide) (by decide) rfl (Nat.le_of_ble_eq_true rfl) dX9_isWord_49 (Nat.le_refl 0) (Nat.le_refl 0) (kI (fun x49 S hw => ?_))
      refine z_icmp_eq (tgt := 57) hC dX9_isWord_52 (by decide) (fun c52 => ?_) (fun c52 => ?_)
      · have hw := hw.1 c52
        refine z_inc (i := 2) hC ic_1 dX9_isWord_57 rfl (by decide) (hok_v rfl rfl) (fun y57 e57 => ?_)
        have hw := hw y57 e57
        refine z_goto (tgt := 28) hC dX9_isWord_60 (by decide) ?_
        refine z_mask (lv' := [some (.ref v0), some (.ref v1), some (.int y57)]) [true, true, true] rfl ?_
        exact ih hw
      · have hw := hw.2 c52
        refine z_iconst hC ic_0 dX9_isWord_55 ?_
        exact z_zret hC hr hlk (hz01 (Or.inl rfl)).1 dX9_isWord_56 ⟨_, rfl, hw⟩
def w_X9_isWord (tx : Nat → Nat) (q : Int32 → hS → Prop) (S : hS) (v0 : Nat) (v1 : Nat) : Prop := gI S v0 9 2 (fun x1 => (¬ x1 = 1 → q 0 S) ∧ (x1 = 1 → gI S v0 9 5 (fun x9 => gI S v0 9 3 (fun x13 => sLen tx v1 (fun x18 S => ((x9 - x13) = x18 → (∃ n28 : Nat, w_X9_isWord_b28 tx q n28 S v0 v1 0)) ∧ (¬ (x9 - x13) = x18 → q 0 S)) S))))
set_option maxRecDepth 100000 in
set_option maxHeartbeats 4000000 in
theorem c_X9_isWord (l : Launch) (G : hG) (B : Nat) (S : hS) (v0 : Nat) (v1 : Nat) (q : Int32 → hS → Prop) : Met l yX9_isWord (hws yX9_isWord cX9_isWord 3 (Option.some FieldType.boolean)) ({ frames := 5, cells := 0, slots := 0, locals := 171 }) (hPc G B S [.ref v0, .ref v1] (w_X9_isWord G.2.2.1 q S v0 v1)) (hQ G B (iP q)) (0) (0) (fun r => B ≤ r) := by
  refine hMet (rm := { frames := 5, cells := 0, slots := 0, locals := 171 }) (lv := [some (.ref v0), some (.ref v1), none]) (own := RX9) (fr := 5) (lo := 171) (by decide) rfl rfl rfl (Nat.le_of_ble_eq_true rfl) rfl (fun hw p e R s m args below meth c hC hr hlk hnm => ?_)
  unfold w_X9_isWord at hw
  refine z_aload_n hC dX9_isWord_0 rfl rfl ?_
  refine z_getI hC FX9 2 lk_315 dX9_isWord_1 (by decide) hw (fun x1 hw => ?_)
  refine z_iconst hC ic_1 dX9_isWord_4 ?_
  refine z_icmp_ne (tgt := 24) hC dX9_isWord_5 (by decide) (fun c5 => ?_) (fun c5 => ?_)
  · have hw := hw.1 c5
    refine z_iconst hC ic_0 dX9_isWord_24 ?_
    exact z_zret hC hr hlk (hz01 (Or.inl rfl)).1 dX9_isWord_25 ⟨_, rfl, hw⟩
  · have hw := hw.2 c5
    refine z_aload_n hC dX9_isWord_8 rfl rfl ?_
    refine z_getI hC FX9 5 lk_321 dX9_isWord_9 (by decide) hw (fun x9 hw => ?_)
    refine z_aload_n hC dX9_isWord_12 rfl rfl ?_
    refine z_getI hC FX9 3 lk_317 dX9_isWord_13 (by decide) hw (fun x13 hw => ?_)
    refine z_isub hC dX9_isWord_16 ?_
    refine z_aload_n hC dX9_isWord_17 rfl rfl ?_
    obtain ⟨i18, r18, g18, hq18, -⟩ := id hw
    have hO18 := (hC.a.2.2.2.2.1 i18 r18 g18).2.1
    rw [← hq18] at hO18
    refine z_callVT (n := 0) (As := []) (st := [.int (x9 - x13)]) hC (c_J0_length l G B S v1  _) hw hO18 lk_814 lk_815 lk_816 lk_135 lk_817 hd_J0_length rfl rfl (by decide) (by decide) rfl (Nat.le_of_ble_eq_true rfl) dX9_isWord_18 (Nat.le_refl 0) (Nat.le_refl 0) (kI (fun x18 S hw => ?_))
    refine z_icmp_eq (tgt := 26) hC dX9_isWord_21 (by decide) (fun c21 => ?_) (fun c21 => ?_)
    · have hw := hw.1 c21
      refine z_iconst hC ic_0 dX9_isWord_26 ?_
      refine z_istore_n (i := 2) (lv' := [some (.ref v0), some (.ref v1), some (.int 0)]) hC rfl dX9_isWord_27 (by decide) (hok_v rfl rfl) rfl ?_
      refine z_mask (lv' := [some (.ref v0), some (.ref v1), some (.int 0)]) [true, true, true] rfl ?_
      obtain ⟨n28, hw⟩ := hw
      exact t_X9_isWord_b28 hC hr hlk hnm n28 hw
    · have hw := hw.2 c21
      refine z_iconst hC ic_0 dX9_isWord_24 ?_
      exact z_zret hC hr hlk (hz01 (Or.inl rfl)).1 dX9_isWord_25 ⟨_, rfl, hw⟩
end
section
variable {p : Program} {l : Launch} {e : Env} {R : Room} {s : State} {m : MethodId} {args : Array Value} {below : List Frame} {meth : Method} {c : Code} {G : hG} {B mc ms : Nat}
def w_X5_lawKind (tx : Nat → Nat) (q : Int32 → hS → Prop) (S : hS) (v0 : Nat) : Prop := gP S v0 5 1 (fun x1 => oK S x1 9 ∧ w_X9_isWord tx (fun x6 S => (x6 = 0 → gP S v0 5 1 (fun x15 => oK S x15 9 ∧ w_X9_isWord tx (fun x20 S => (x20 = 0 → gP S v0 5 1 (fun x29 => oK S x29 9 ∧ w_X9_isWord tx (fun x34 S => (x34 = 0 → gP S v0 5 1 (fun x43 => oK S x43 9 ∧ w_X9_isWord tx (fun x48 S => (x48 = 0 → gP S v0 5 1 (fun x57 => oK S x57 9 ∧ w_X9_isWord tx (fun x62 S => (x62 = 0 → q (-1) S) ∧ (¬ x62 = 0 → q 4 S)) S x57 (tx 4))) ∧ (¬ x48 = 0 → q 3 S)) S x43 (tx 3))) ∧ (¬ x34 = 0 → q 2 S)) S x29 (tx 2))) ∧ (¬ x20 = 0 → q 1 S)) S x15 (tx 1))) ∧ (¬ x6 = 0 → q 0 S)) S x1 (tx 0))
set_option maxRecDepth 100000 in
set_option maxHeartbeats 4000000 in
theorem c_X5_lawKind (l : Launch) (G : hG) (B : Nat) (S : hS) (v0 : Nat) (q : Int32 → hS → Prop) : Met l yX5_lawKind (hws yX5_lawKind cX5_lawKind 1 (Option.some FieldType.int)) ({ frames := 6, cells := 0, slots := 0, locals := 193 }) (hPc G B S [.ref v0] (w_X5_lawKind G.2.2.1 q S v0)) (hQ G B (iP q)) (0) (0) (fun r => B ≤ r) := by
  refine hMet (rm := { frames := 6, cells := 0, slots := 0, locals := 193 }) (lv := [some (.ref v0)]) (own := RX5) (fr := 6) (lo := 193) (by decide) rfl rfl rfl (Nat.le_of_ble_eq_true rfl) rfl (fun hw p e R s m args below meth c hC hr hlk hnm => ?_)
  unfold w_X5_lawKind at hw
  refine z_aload_n hC dX5_lawKind_0 rfl rfl ?_
  refine z_getP hC FX5 1 lk_380 dX5_lawKind_1 (by decide) hw (fun x1 hw => ?_)
  refine z_ldcS hC 0 rfl dX5_lawKind_4 ?_
  refine z_callV (ku' := 0) (kv' := 0) (n := 1) (As := [.ref (G.2.2.1 0)]) (st := []) hC (c_X9_isWord l G B S x1 (G.2.2.1 0) _) hw.2 hw.1 rfl lk_810 lk_811 lk_812 lk_125 lk_813 hd_X9_isWord rfl rfl (Nat.le_of_ble_eq_true rfl) (Nat.le_of_ble_eq_true rfl) rfl (Nat.le_of_ble_eq_true rfl) dX5_lawKind_6 (Nat.le_refl 0) (Nat.le_refl 0) (kI (fun x6 S hw => ?_))
  refine z_if_eq (tgt := 14) hC dX5_lawKind_9 (by decide) (fun c9 => ?_) (fun c9 => ?_)
  · have hw := hw.1 c9
    refine z_aload_n hC dX5_lawKind_14 rfl rfl ?_
    refine z_getP hC FX5 1 lk_380 dX5_lawKind_15 (by decide) hw (fun x15 hw => ?_)
    refine z_ldcS hC 1 rfl dX5_lawKind_18 ?_
    refine z_callV (ku' := 0) (kv' := 0) (n := 1) (As := [.ref (G.2.2.1 1)]) (st := []) hC (c_X9_isWord l G B S x15 (G.2.2.1 1) _) hw.2 hw.1 rfl lk_810 lk_811 lk_812 lk_125 lk_813 hd_X9_isWord rfl rfl (Nat.le_of_ble_eq_true rfl) (Nat.le_of_ble_eq_true rfl) rfl (Nat.le_of_ble_eq_true rfl) dX5_lawKind_20 (Nat.le_refl 0) (Nat.le_refl 0) (kI (fun x20 S hw => ?_))
    refine z_if_eq (tgt := 28) hC dX5_lawKind_23 (by decide) (fun c23 => ?_) (fun c23 => ?_)
    · have hw := hw.1 c23
      refine z_aload_n hC dX5_lawKind_28 rfl rfl ?_
      refine z_getP hC FX5 1 lk_380 dX5_lawKind_29 (by decide) hw (fun x29 hw => ?_)
      refine z_ldcS hC 2 rfl dX5_lawKind_32 ?_
      refine z_callV (ku' := 0) (kv' := 0) (n := 1) (As := [.ref (G.2.2.1 2)]) (st := []) hC (c_X9_isWord l G B S x29 (G.2.2.1 2) _) hw.2 hw.1 rfl lk_810 lk_811 lk_812 lk_125 lk_813 hd_X9_isWord rfl rfl (Nat.le_of_ble_eq_true rfl) (Nat.le_of_ble_eq_true rfl) rfl (Nat.le_of_ble_eq_true rfl) dX5_lawKind_34 (Nat.le_refl 0) (Nat.le_refl 0) (kI (fun x34 S hw => ?_))
      refine z_if_eq (tgt := 42) hC dX5_lawKind_37 (by decide) (fun c37 => ?_) (fun c37 => ?_)
      · have hw := hw.1 c37
        refine z_aload_n hC dX5_lawKind_42 rfl rfl ?_
        refine z_getP hC FX5 1 lk_380 dX5_lawKind_43 (by decide) hw (fun x43 hw => ?_)
        refine z_ldcS hC 3 rfl dX5_lawKind_46 ?_
        refine z_callV (ku' := 0) (kv' := 0) (n := 1) (As := [.ref (G.2.2.1 3)]) (st := []) hC (c_X9_isWord l G B S x43 (G.2.2.1 3) _) hw.2 hw.1 rfl lk_810 lk_811 lk_812 lk_125 lk_813 hd_X9_isWord rfl rfl (Nat.le_of_ble_eq_true rfl) (Nat.le_of_ble_eq_true rfl) rfl (Nat.le_of_ble_eq_true rfl) dX5_lawKind_48 (Nat.le_refl 0) (Nat.le_refl 0) (kI (fun x48 S hw => ?_))
        refine z_if_eq (tgt := 56) hC dX5_lawKind_51 (by decide) (fun c51 => ?_) (fun c51 => ?_)
        · have hw := hw.1 c51
          refine z_aload_n hC dX5_lawKind_56 rfl rfl ?_
          refine z_getP hC FX5 1 lk_380 dX5_lawKind_57 (by decide) hw (fun x57 hw => ?_)
          refine z_ldcS hC 4 rfl dX5_lawKind_60 ?_
          refine z_callV (ku' := 0) (kv' := 0) (n := 1) (As := [.ref (G.2.2.1 4)]) (st := []) hC (c_X9_isWord l G B S x57 (G.2.2.1 4) _) hw.2 hw.1 rfl lk_810 lk_811 lk_812 lk_125 lk_813 hd_X9_isWord rfl rfl (Nat.le_of_ble_eq_true rfl) (Nat.le_of_ble_eq_true rfl) rfl (Nat.le_of_ble_eq_true rfl) dX5_lawKind_62 (Nat.le_refl 0) (Nat.le_refl 0) (kI (fun x62 S hw => ?_))
          refine z_if_eq (tgt := 72) hC dX5_lawKind_65 (by decide) (fun c65 => ?_) (fun c65 => ?_)
          · have hw := hw.1 c65
            refine z_iconst hC ic_m1 dX5_lawKind_72 ?_
            exact z_iret hC hr hlk dX5_lawKind_73 ⟨_, rfl, hw⟩
          · have hw := hw.2 c65
            refine z_iconst hC ic_4 dX5_lawKind_68 ?_
            refine z_goto (tgt := 73) hC dX5_lawKind_69 (by decide) ?_
            exact z_iret hC hr hlk dX5_lawKind_73 ⟨_, rfl, hw⟩
        · have hw := hw.2 c51
          refine z_iconst hC ic_3 dX5_lawKind_54 ?_
          exact z_iret hC hr hlk dX5_lawKind_55 ⟨_, rfl, hw⟩
      · have hw := hw.2 c37
        refine z_iconst hC ic_2 dX5_lawKind_40 ?_
        exact z_iret hC hr hlk dX5_lawKind_41 ⟨_, rfl, hw⟩
    · have hw := hw.2 c23
      refine z_iconst hC ic_1 dX5_lawKind_26 ?_
      exact z_iret hC hr hlk dX5_lawKind_27 ⟨_, rfl, hw⟩
  · have hw := hw.2 c9
    refine z_iconst hC ic_0 dX5_lawKind_12 ?_
    exact z_iret hC hr hlk dX5_lawKind_13 ⟨_, rfl, hw⟩
end
section
variable {p : Program} {l : Launch} {e : Env} {R : Room} {s : State} {m : MethodId} {args : Array Value} {below : List Frame} {meth : Method} {c : Code} {G : hG} {B mc ms : Nat}
def w_X10_beginClause_b35 (q : hS → Prop) : Nat → hS → (Nat) → (Int32) → Prop
  | 0, _, _, _ => False
  | n + 1, S, v0, v2 => (5 ≤ v2 → pI S v0 10 2 0 (fun S => gI S v0 10 0 (fun x70 => pI S v0 10 0 (x70 + 1) (fun S => q S)))) ∧ (¬ 5 ≤ v2 → gP S v0 10 5 (fun x41 => gI S v0 10 0 (fun x45 => gI S v0 10 1 (fun x53 => sI S x41 ((x45 * 5) + v2) x53 (fun S => ∀ y57 : Int32, y57 = v2 + 1 → w_X10_beginClause_b35 q n S v0 y57)))))
set_option maxRecDepth 100000 in
set_option maxHeartbeats 4000000 in
theorem t_X10_beginClause_b35 (hC : zC p R s m args c cX10_beginClause 3 RX10 G B mc ms 1 60) (hr : meth.sig.returnType = (Option.none : Option FieldType)) (hlk : meth.locks = false) (hnm : meth.name = "beginClause") {q : hS → Prop} (n : Nat) : ∀ {S : hS} {v0 : Nat} {v2 : Int32} (hw : w_X10_beginClause_b35 q n S v0 v2), Z p l e R s m args below meth c (MQ below (hQ G B (vP q)) args s mc ms (fun r => B ≤ r)) G B mc ms 3 S 0 0 35 [some (.ref v0), none, some (.int v2)] [] := by
  induction n with
  | zero => intro S v0 v2 hw; exact (by rw [w_X10_beginClause_b35] at hw; exact hw.elim)
  | succ n ih =>
    intro S v0 v2 hw
    rw [w_X10_beginClause_b35] at hw
    refine z_iload_n hC dX10_beginClause_35 rfl rfl ?_
    refine z_iconst hC ic_5 dX10_beginClause_36 ?_
    refine z_icmp_ge (tgt := 63) hC dX10_beginClause_37 (by decide) (fun c37 => ?_) (fun c37 => ?_)
    · have hw := hw.1 c37
      refine z_aload_n hC dX10_beginClause_63 rfl rfl ?_
      refine z_iconst hC ic_0 dX10_beginClause_64 ?_
      refine z_putI hC FX10 2 lk_353 dX10_beginClause_65 (by decide) rfl rfl hw (fun S hw => ?_)
      refine z_aload_n hC dX10_beginClause_68 rfl rfl ?_
      refine z_dup hC rfl dX10_beginClause_69 ?_
      refine z_getI hC FX10 0 lk_347 dX10_beginClause_70 (by decide) hw (fun x70 hw => ?_)
      refine z_iconst hC ic_1 dX10_beginClause_73 ?_
      refine z_iadd hC dX10_beginClause_74 ?_
      refine z_putI hC FX10 0 lk_347 dX10_beginClause_75 (by decide) rfl rfl hw (fun S hw => ?_)
      exact z_vret hC hr hlk dX10_beginClause_78 ⟨rfl, hw⟩
    · have hw := hw.2 c37
      refine z_aload_n hC dX10_beginClause_40 rfl rfl ?_
      refine z_getP hC FX10 5 lk_359 dX10_beginClause_41 (by decide) hw (fun x41 hw => ?_)
      refine z_aload_n hC dX10_beginClause_44 rfl rfl ?_
      refine z_getI hC FX10 0 lk_347 dX10_beginClause_45 (by decide) hw (fun x45 hw => ?_)
      refine z_iconst hC ic_5 dX10_beginClause_48 ?_
      refine z_imul hC dX10_beginClause_49 ?_
      refine z_iload_n hC dX10_beginClause_50 rfl rfl ?_
      refine z_iadd hC dX10_beginClause_51 ?_
      refine z_aload_n hC dX10_beginClause_52 rfl rfl ?_
      refine z_getI hC FX10 1 lk_351 dX10_beginClause_53 (by decide) hw (fun x53 hw => ?_)
      refine z_astI hC dX10_beginClause_56 hw (fun S hw => ?_)
      refine z_inc (i := 2) hC ic_1 dX10_beginClause_57 rfl (by decide) (hok_n rfl) (fun y57 e57 => ?_)
      have hw := hw y57 e57
      refine z_goto (tgt := 35) hC dX10_beginClause_60 (by decide) ?_
      refine z_mask (lv' := [some (.ref v0), none, some (.int y57)]) [true, false, true] rfl ?_
      exact ih hw
def w_X10_beginClause (q : hS → Prop) (S : hS) (v0 : Nat) (v1 : Int32) : Prop := gI S v0 10 0 (fun x1 => gP S v0 10 3 (fun x5 => aN S x5 (fun x8 => (x1 < x8 → gP S v0 10 3 (fun x14 => gI S v0 10 0 (fun x18 => sI S x14 x18 v1 (fun S => gP S v0 10 4 (fun x24 => gI S v0 10 0 (fun x28 => sI S x24 x28 1 (fun S => (∃ n35 : Nat, w_X10_beginClause_b35 q n35 S v0 0)))))))) ∧ (¬ x1 < x8 → q S))))
set_option maxRecDepth 100000 in
set_option maxHeartbeats 4000000 in
theorem c_X10_beginClause (l : Launch) (G : hG) (B : Nat) (S : hS) (v0 : Nat) (v1 : Int32) (q : hS → Prop) : Met l yX10_beginClause (hws yX10_beginClause cX10_beginClause 3 (Option.none : Option FieldType)) ({ frames := 1, cells := 0, slots := 0, locals := 60 }) (hPc G B S [.ref v0, .int v1] (w_X10_beginClause q S v0 v1)) (hQ G B (vP q)) (0) (0) (fun r => B ≤ r) := by
  refine hMet (rm := { frames := 1, cells := 0, slots := 0, locals := 60 }) (lv := [some (.ref v0), some (.int v1), none]) (own := RX10) (fr := 1) (lo := 60) (by decide) rfl rfl rfl (Nat.le_of_ble_eq_true rfl) rfl (fun hw p e R s m args below meth c hC hr hlk hnm => ?_)
  unfold w_X10_beginClause at hw
  refine z_aload_n hC dX10_beginClause_0 rfl rfl ?_
  refine z_getI hC FX10 0 lk_347 dX10_beginClause_1 (by decide) hw (fun x1 hw => ?_)
  refine z_aload_n hC dX10_beginClause_4 rfl rfl ?_
  refine z_getP hC FX10 3 lk_354 dX10_beginClause_5 (by decide) hw (fun x5 hw => ?_)
  refine z_alen hC dX10_beginClause_8 hw (fun x8 hw => ?_)
  refine z_icmp_lt (tgt := 13) hC dX10_beginClause_9 (by decide) (fun c9 => ?_) (fun c9 => ?_)
  · have hw := hw.1 c9
    refine z_aload_n hC dX10_beginClause_13 rfl rfl ?_
    refine z_getP hC FX10 3 lk_354 dX10_beginClause_14 (by decide) hw (fun x14 hw => ?_)
    refine z_aload_n hC dX10_beginClause_17 rfl rfl ?_
    refine z_getI hC FX10 0 lk_347 dX10_beginClause_18 (by decide) hw (fun x18 hw => ?_)
    refine z_iload_n hC dX10_beginClause_21 rfl rfl ?_
    refine z_astI hC dX10_beginClause_22 hw (fun S hw => ?_)
    refine z_aload_n hC dX10_beginClause_23 rfl rfl ?_
    refine z_getP hC FX10 4 lk_357 dX10_beginClause_24 (by decide) hw (fun x24 hw => ?_)
    refine z_aload_n hC dX10_beginClause_27 rfl rfl ?_
    refine z_getI hC FX10 0 lk_347 dX10_beginClause_28 (by decide) hw (fun x28 hw => ?_)
    refine z_iconst hC ic_1 dX10_beginClause_31 ?_
    refine z_astI hC dX10_beginClause_32 hw (fun S hw => ?_)
    refine z_iconst hC ic_0 dX10_beginClause_33 ?_
    refine z_istore_n (i := 2) (lv' := [some (.ref v0), some (.int v1), some (.int 0)]) hC rfl dX10_beginClause_34 (by decide) (hok_v rfl rfl) rfl ?_
    refine z_mask (lv' := [some (.ref v0), none, some (.int 0)]) [true, false, true] rfl ?_
    obtain ⟨n35, hw⟩ := hw
    exact t_X10_beginClause_b35 hC hr hlk hnm n35 hw
  · have hw := hw.2 c9
    exact z_vret hC hr hlk dX10_beginClause_12 ⟨rfl, hw⟩
end
section
variable {p : Program} {l : Launch} {e : Env} {R : Room} {s : State} {m : MethodId} {args : Array Value} {below : List Frame} {meth : Method} {c : Code} {G : hG} {B mc ms : Nat}
def w_X5_takeWord (tx : Nat → Nat) (q : Int32 → hS → Prop) (S : hS) (v0 : Nat) (v1 : Nat) : Prop := gP S v0 5 1 (fun x1 => oK S x1 9 ∧ w_X9_isWord tx (fun x5 S => (¬ x5 = 0 → gP S v0 5 1 (fun x14 => oK S x14 9 ∧ w_X9_advance (fun S => q 1 S) S x14)) ∧ (x5 = 0 → q 0 S)) S x1 v1)
set_option maxRecDepth 100000 in
set_option maxHeartbeats 4000000 in
theorem c_X5_takeWord (l : Launch) (G : hG) (B : Nat) (S : hS) (v0 : Nat) (v1 : Nat) (q : Int32 → hS → Prop) : Met l yX5_takeWord (hws yX5_takeWord cX5_takeWord 2 (Option.some FieldType.boolean)) ({ frames := 6, cells := 0, slots := 0, locals := 193 }) (hPc G B S [.ref v0, .ref v1] (w_X5_takeWord G.2.2.1 q S v0 v1)) (hQ G B (iP q)) (0) (0) (fun r => B ≤ r) := by
  refine hMet (rm := { frames := 6, cells := 0, slots := 0, locals := 193 }) (lv := [some (.ref v0), some (.ref v1)]) (own := RX5) (fr := 6) (lo := 193) (by decide) rfl rfl rfl (Nat.le_of_ble_eq_true rfl) rfl (fun hw p e R s m args below meth c hC hr hlk hnm => ?_)
  unfold w_X5_takeWord at hw
  refine z_aload_n hC dX5_takeWord_0 rfl rfl ?_
  refine z_getP hC FX5 1 lk_380 dX5_takeWord_1 (by decide) hw (fun x1 hw => ?_)
  refine z_aload_n hC dX5_takeWord_4 rfl rfl ?_
  refine z_callV (ku' := 0) (kv' := 0) (n := 1) (As := [.ref v1]) (st := []) hC (c_X9_isWord l G B S x1 v1 _) hw.2 hw.1 rfl lk_810 lk_811 lk_812 lk_125 lk_813 hd_X9_isWord rfl rfl (Nat.le_of_ble_eq_true rfl) (Nat.le_of_ble_eq_true rfl) rfl (Nat.le_of_ble_eq_true rfl) dX5_takeWord_5 (Nat.le_refl 0) (Nat.le_refl 0) (kI (fun x5 S hw => ?_))
  refine z_if_ne (tgt := 13) hC dX5_takeWord_8 (by decide) (fun c8 => ?_) (fun c8 => ?_)
  · have hw := hw.1 c8
    refine z_aload_n hC dX5_takeWord_13 rfl rfl ?_
    refine z_getP hC FX5 1 lk_380 dX5_takeWord_14 (by decide) hw (fun x14 hw => ?_)
    refine z_callV (ku' := 0) (kv' := 0) (n := 0) (As := []) (st := []) hC (c_X9_advance l G B S x14 _) hw.2 hw.1 rfl lk_870 lk_791 lk_792 lk_125 lk_793 hd_X9_advance rfl rfl (Nat.le_of_ble_eq_true rfl) (Nat.le_of_ble_eq_true rfl) rfl (Nat.le_of_ble_eq_true rfl) dX5_takeWord_17 (Nat.le_refl 0) (Nat.le_refl 0) (kV (fun S hw => ?_))
    refine z_iconst hC ic_1 dX5_takeWord_20 ?_
    exact z_zret hC hr hlk (hz01 (Or.inr rfl)).1 dX5_takeWord_21 ⟨_, rfl, hw⟩
  · have hw := hw.2 c8
    refine z_iconst hC ic_0 dX5_takeWord_11 ?_
    exact z_zret hC hr hlk (hz01 (Or.inl rfl)).1 dX5_takeWord_12 ⟨_, rfl, hw⟩
end
section
variable {p : Program} {l : Launch} {e : Env} {R : Room} {s : State} {m : MethodId} {args : Array Value} {below : List Frame} {meth : Method} {c : Code} {G : hG} {B mc ms : Nat}
def w_X10_add_b55 (q : Int32 → hS → Prop) : Nat → hS → (Nat) → (Int32) → Prop
  | 0, _, _, _ => False
  | n + 1, S, v0, v3 => (5 ≤ v3 → gI S v0 10 1 (fun x86 => q (x86 - 1) S)) ∧ (¬ 5 ≤ v3 → gP S v0 10 5 (fun x61 => gI S v0 10 0 (fun x65 => gI S v0 10 1 (fun x75 => sI S x61 (((x65 - 1) * 5) + v3) x75 (fun S => ∀ y79 : Int32, y79 = v3 + 1 → w_X10_add_b55 q n S v0 y79)))))
set_option maxRecDepth 100000 in
set_option maxHeartbeats 4000000 in
theorem t_X10_add_b55 (hC : zC p R s m args c cX10_add 4 RX10 G B mc ms 1 60) (hr : meth.sig.returnType = (Option.some FieldType.int)) (hlk : meth.locks = false) (hnm : meth.name = "add") {q : Int32 → hS → Prop} (n : Nat) : ∀ {S : hS} {v0 : Nat} {v3 : Int32} (hw : w_X10_add_b55 q n S v0 v3), Z p l e R s m args below meth c (MQ below (hQ G B (iP q)) args s mc ms (fun r => B ≤ r)) G B mc ms 4 S 0 0 55 [some (.ref v0), none, none, some (.int v3)] [] := by
  induction n with
  | zero => intro S v0 v3 hw; exact (by rw [w_X10_add_b55] at hw; exact hw.elim)
  | succ n ih =>
    intro S v0 v3 hw
    rw [w_X10_add_b55] at hw
    refine z_iload_n hC dX10_add_55 rfl rfl ?_
    refine z_iconst hC ic_5 dX10_add_56 ?_
    refine z_icmp_ge (tgt := 85) hC dX10_add_57 (by decide) (fun c57 => ?_) (fun c57 => ?_)
    · have hw := hw.1 c57
      refine z_aload_n hC dX10_add_85 rfl rfl ?_
      refine z_getI hC FX10 1 lk_351 dX10_add_86 (by decide) hw (fun x86 hw => ?_)
      refine z_iconst hC ic_1 dX10_add_89 ?_
      refine z_isub hC dX10_add_90 ?_
      exact z_iret hC hr hlk dX10_add_91 ⟨_, rfl, hw⟩
    · have hw := hw.2 c57
      refine z_aload_n hC dX10_add_60 rfl rfl ?_
      refine z_getP hC FX10 5 lk_359 dX10_add_61 (by decide) hw (fun x61 hw => ?_)
      refine z_aload_n hC dX10_add_64 rfl rfl ?_
      refine z_getI hC FX10 0 lk_347 dX10_add_65 (by decide) hw (fun x65 hw => ?_)
      refine z_iconst hC ic_1 dX10_add_68 ?_
      refine z_isub hC dX10_add_69 ?_
      refine z_iconst hC ic_5 dX10_add_70 ?_
      refine z_imul hC dX10_add_71 ?_
      refine z_iload_n hC dX10_add_72 rfl rfl ?_
      refine z_iadd hC dX10_add_73 ?_
      refine z_aload_n hC dX10_add_74 rfl rfl ?_
      refine z_getI hC FX10 1 lk_351 dX10_add_75 (by decide) hw (fun x75 hw => ?_)
      refine z_astI hC dX10_add_78 hw (fun S hw => ?_)
      refine z_inc (i := 3) hC ic_1 dX10_add_79 rfl (by decide) (hok_n rfl) (fun y79 e79 => ?_)
      have hw := hw y79 e79
      refine z_goto (tgt := 55) hC dX10_add_82 (by decide) ?_
      refine z_mask (lv' := [some (.ref v0), none, none, some (.int y79)]) [true, false, false, true] rfl ?_
      exact ih hw
def w_X10_add (q : Int32 → hS → Prop) (S : hS) (v0 : Nat) (v1 : Int32) (v2 : Int32) : Prop := gI S v0 10 1 (fun x1 => gP S v0 10 6 (fun x5 => aN S x5 (fun x8 => (x8 ≤ x1 → q (-1) S) ∧ (¬ x8 ≤ x1 → gI S v0 10 0 (fun x13 => (1 ≤ x13 → gP S v0 10 6 (fun x23 => gI S v0 10 1 (fun x27 => sI S x23 x27 ((v1 * 2048) + v2) (fun S => gI S v0 10 1 (fun x40 => pI S v0 10 1 (x40 + 1) (fun S => gI S v0 10 2 (fun x49 => ∀ y54 : Int32, y54 = (x49 + 1) → (∃ n55 : Nat, w_X10_add_b55 q n55 S v0 y54)))))))) ∧ (¬ 1 ≤ x13 → q (-1) S))))))
set_option maxRecDepth 100000 in
set_option maxHeartbeats 4000000 in
theorem c_X10_add (l : Launch) (G : hG) (B : Nat) (S : hS) (v0 : Nat) (v1 : Int32) (v2 : Int32) (q : Int32 → hS → Prop) : Met l yX10_add (hws yX10_add cX10_add 4 (Option.some FieldType.int)) ({ frames := 1, cells := 0, slots := 0, locals := 60 }) (hPc G B S [.ref v0, .int v1, .int v2] (w_X10_add q S v0 v1 v2)) (hQ G B (iP q)) (0) (0) (fun r => B ≤ r) := by
  refine hMet (rm := { frames := 1, cells := 0, slots := 0, locals := 60 }) (lv := [some (.ref v0), some (.int v1), some (.int v2), none]) (own := RX10) (fr := 1) (lo := 60) (by decide) rfl rfl rfl (Nat.le_of_ble_eq_true rfl) rfl (fun hw p e R s m args below meth c hC hr hlk hnm => ?_)
  unfold w_X10_add at hw
  refine z_aload_n hC dX10_add_0 rfl rfl ?_
  refine z_getI hC FX10 1 lk_351 dX10_add_1 (by decide) hw (fun x1 hw => ?_)
  refine z_aload_n hC dX10_add_4 rfl rfl ?_
  refine z_getP hC FX10 6 lk_361 dX10_add_5 (by decide) hw (fun x5 hw => ?_)
  refine z_alen hC dX10_add_8 hw (fun x8 hw => ?_)
  refine z_icmp_ge (tgt := 20) hC dX10_add_9 (by decide) (fun c9 => ?_) (fun c9 => ?_)
  · have hw := hw.1 c9
    refine z_iconst hC ic_m1 dX10_add_20 ?_
    exact z_iret hC hr hlk dX10_add_21 ⟨_, rfl, hw⟩
  · have hw := hw.2 c9
    refine z_aload_n hC dX10_add_12 rfl rfl ?_
    refine z_getI hC FX10 0 lk_347 dX10_add_13 (by decide) hw (fun x13 hw => ?_)
    refine z_iconst hC ic_1 dX10_add_16 ?_
    refine z_icmp_ge (tgt := 22) hC dX10_add_17 (by decide) (fun c17 => ?_) (fun c17 => ?_)
    · have hw := hw.1 c17
      refine z_aload_n hC dX10_add_22 rfl rfl ?_
      refine z_getP hC FX10 6 lk_361 dX10_add_23 (by decide) hw (fun x23 hw => ?_)
      refine z_aload_n hC dX10_add_26 rfl rfl ?_
      refine z_getI hC FX10 1 lk_351 dX10_add_27 (by decide) hw (fun x27 hw => ?_)
      refine z_iload_n hC dX10_add_30 rfl rfl ?_
      refine z_sipush hC si_2048 dX10_add_31 ?_
      refine z_imul hC dX10_add_34 ?_
      refine z_iload_n hC dX10_add_35 rfl rfl ?_
      refine z_iadd hC dX10_add_36 ?_
      refine z_astI hC dX10_add_37 hw (fun S hw => ?_)
      refine z_aload_n hC dX10_add_38 rfl rfl ?_
      refine z_dup hC rfl dX10_add_39 ?_
      refine z_getI hC FX10 1 lk_351 dX10_add_40 (by decide) hw (fun x40 hw => ?_)
      refine z_iconst hC ic_1 dX10_add_43 ?_
      refine z_iadd hC dX10_add_44 ?_
      refine z_putI hC FX10 1 lk_351 dX10_add_45 (by decide) rfl rfl hw (fun S hw => ?_)
      refine z_aload_n hC dX10_add_48 rfl rfl ?_
      refine z_getI hC FX10 2 lk_353 dX10_add_49 (by decide) hw (fun x49 hw => ?_)
      refine z_iconst hC ic_1 dX10_add_52 ?_
      refine z_iadd hC dX10_add_53 ?_
      refine z_nmI (fun y54 e54 => ?_)
      have hw := hw y54 e54
      refine z_istore_n (i := 3) (lv' := [some (.ref v0), some (.int v1), some (.int v2), some (.int y54)]) hC rfl dX10_add_54 (by decide) (hok_v rfl rfl) rfl ?_
      refine z_mask (lv' := [some (.ref v0), none, none, some (.int y54)]) [true, false, false, true] rfl ?_
      obtain ⟨n55, hw⟩ := hw
      exact t_X10_add_b55 hC hr hlk hnm n55 hw
    · have hw := hw.2 c17
      refine z_iconst hC ic_m1 dX10_add_20 ?_
      exact z_iret hC hr hlk dX10_add_21 ⟨_, rfl, hw⟩
end
section
variable {p : Program} {l : Launch} {e : Env} {R : Room} {s : State} {m : MethodId} {args : Array Value} {below : List Frame} {meth : Method} {c : Code} {G : hG} {B mc ms : Nat}
def w_X10_landSkip (q : hS → Prop) (S : hS) (v0 : Nat) (v1 : Int32) : Prop := (v1 < 0 → q S) ∧ (¬ v1 < 0 → gI S v0 10 1 (fun x6 => (x6 ≤ v1 → q S) ∧ (¬ x6 ≤ v1 → gP S v0 10 6 (fun x13 => gP S v0 10 6 (fun x18 => aI S x18 v1 (fun x22 => gI S v0 10 1 (fun x32 => sI S x13 v1 (((x22 / 2048) * 2048) + x32) (fun S => q S))))))))
set_option maxRecDepth 100000 in
set_option maxHeartbeats 4000000 in
theorem c_X10_landSkip (l : Launch) (G : hG) (B : Nat) (S : hS) (v0 : Nat) (v1 : Int32) (q : hS → Prop) : Met l yX10_landSkip (hws yX10_landSkip cX10_landSkip 2 (Option.none : Option FieldType)) ({ frames := 1, cells := 0, slots := 0, locals := 60 }) (hPc G B S [.ref v0, .int v1] (w_X10_landSkip q S v0 v1)) (hQ G B (vP q)) (0) (0) (fun r => B ≤ r) := by
  refine hMet (rm := { frames := 1, cells := 0, slots := 0, locals := 60 }) (lv := [some (.ref v0), some (.int v1)]) (own := RX10) (fr := 1) (lo := 60) (by decide) rfl rfl rfl (Nat.le_of_ble_eq_true rfl) rfl (fun hw p e R s m args below meth c hC hr hlk hnm => ?_)
  unfold w_X10_landSkip at hw
  refine z_iload_n hC dX10_landSkip_0 rfl rfl ?_
  refine z_if_lt (tgt := 37) hC dX10_landSkip_1 (by decide) (fun c1 => ?_) (fun c1 => ?_)
  · have hw := hw.1 c1
    exact z_vret hC hr hlk dX10_landSkip_37 ⟨rfl, hw⟩
  · have hw := hw.2 c1
    refine z_iload_n hC dX10_landSkip_4 rfl rfl ?_
    refine z_aload_n hC dX10_landSkip_5 rfl rfl ?_
    refine z_getI hC FX10 1 lk_351 dX10_landSkip_6 (by decide) hw (fun x6 hw => ?_)
    refine z_icmp_ge (tgt := 37) hC dX10_landSkip_9 (by decide) (fun c9 => ?_) (fun c9 => ?_)
    · have hw := hw.1 c9
      exact z_vret hC hr hlk dX10_landSkip_37 ⟨rfl, hw⟩
    · have hw := hw.2 c9
      refine z_aload_n hC dX10_landSkip_12 rfl rfl ?_
      refine z_getP hC FX10 6 lk_361 dX10_landSkip_13 (by decide) hw (fun x13 hw => ?_)
      refine z_iload_n hC dX10_landSkip_16 rfl rfl ?_
      refine z_aload_n hC dX10_landSkip_17 rfl rfl ?_
      refine z_getP hC FX10 6 lk_361 dX10_landSkip_18 (by decide) hw (fun x18 hw => ?_)
      refine z_iload_n hC dX10_landSkip_21 rfl rfl ?_
      refine z_aldI hC dX10_landSkip_22 hw (fun x22 hw => ?_)
      refine z_sipush hC si_2048 dX10_landSkip_23 ?_
      refine z_idiv hC (by decide) dX10_landSkip_26 ?_
      refine z_sipush hC si_2048 dX10_landSkip_27 ?_
      refine z_imul hC dX10_landSkip_30 ?_
      refine z_aload_n hC dX10_landSkip_31 rfl rfl ?_
      refine z_getI hC FX10 1 lk_351 dX10_landSkip_32 (by decide) hw (fun x32 hw => ?_)
      refine z_iadd hC dX10_landSkip_35 ?_
      refine z_astI hC dX10_landSkip_36 hw (fun S hw => ?_)
      exact z_vret hC hr hlk dX10_landSkip_37 ⟨rfl, hw⟩
end
section
variable {p : Program} {l : Launch} {e : Env} {R : Room} {s : State} {m : MethodId} {args : Array Value} {below : List Frame} {meth : Method} {c : Code} {G : hG} {B mc ms : Nat}
def w_X9_isSign (q : Int32 → hS → Prop) (S : hS) (v0 : Nat) (v1 : Int32) : Prop := gI S v0 9 2 (fun x1 => (¬ x1 = 3 → q 0 S) ∧ (x1 = 3 → gI S v0 9 3 (fun x9 => gI S v0 9 1 (fun x13 => (x13 ≤ x9 → q 0 S) ∧ (¬ x13 ≤ x9 → gP S v0 9 0 (fun x20 => gI S v0 9 3 (fun x24 => aI S x20 x24 (fun x27 => (¬ x27 = v1 → q 0 S) ∧ (x27 = v1 → q 1 S)))))))))
set_option maxRecDepth 100000 in
set_option maxHeartbeats 4000000 in
theorem c_X9_isSign (l : Launch) (G : hG) (B : Nat) (S : hS) (v0 : Nat) (v1 : Int32) (q : Int32 → hS → Prop) : Met l yX9_isSign (hws yX9_isSign cX9_isSign 2 (Option.some FieldType.boolean)) ({ frames := 1, cells := 0, slots := 0, locals := 60 }) (hPc G B S [.ref v0, .int v1] (w_X9_isSign q S v0 v1)) (hQ G B (iP q)) (0) (0) (fun r => B ≤ r) := by
  refine hMet (rm := { frames := 1, cells := 0, slots := 0, locals := 60 }) (lv := [some (.ref v0), some (.int v1)]) (own := RX9) (fr := 1) (lo := 60) (by decide) rfl rfl rfl (Nat.le_of_ble_eq_true rfl) rfl (fun hw p e R s m args below meth c hC hr hlk hnm => ?_)
  unfold w_X9_isSign at hw
  refine z_aload_n hC dX9_isSign_0 rfl rfl ?_
  refine z_getI hC FX9 2 lk_315 dX9_isSign_1 (by decide) hw (fun x1 hw => ?_)
  refine z_iconst hC ic_3 dX9_isSign_4 ?_
  refine z_icmp_ne (tgt := 36) hC dX9_isSign_5 (by decide) (fun c5 => ?_) (fun c5 => ?_)
  · have hw := hw.1 c5
    refine z_iconst hC ic_0 dX9_isSign_36 ?_
    exact z_zret hC hr hlk (hz01 (Or.inl rfl)).1 dX9_isSign_37 ⟨_, rfl, hw⟩
  · have hw := hw.2 c5
    refine z_aload_n hC dX9_isSign_8 rfl rfl ?_
    refine z_getI hC FX9 3 lk_317 dX9_isSign_9 (by decide) hw (fun x9 hw => ?_)
    refine z_aload_n hC dX9_isSign_12 rfl rfl ?_
    refine z_getI hC FX9 1 lk_313 dX9_isSign_13 (by decide) hw (fun x13 hw => ?_)
    refine z_icmp_ge (tgt := 36) hC dX9_isSign_16 (by decide) (fun c16 => ?_) (fun c16 => ?_)
    · have hw := hw.1 c16
      refine z_iconst hC ic_0 dX9_isSign_36 ?_
      exact z_zret hC hr hlk (hz01 (Or.inl rfl)).1 dX9_isSign_37 ⟨_, rfl, hw⟩
    · have hw := hw.2 c16
      refine z_aload_n hC dX9_isSign_19 rfl rfl ?_
      refine z_getP hC FX9 0 lk_311 dX9_isSign_20 (by decide) hw (fun x20 hw => ?_)
      refine z_aload_n hC dX9_isSign_23 rfl rfl ?_
      refine z_getI hC FX9 3 lk_317 dX9_isSign_24 (by decide) hw (fun x24 hw => ?_)
      refine z_aldI hC dX9_isSign_27 hw (fun x27 hw => ?_)
      refine z_iload_n hC dX9_isSign_28 rfl rfl ?_
      refine z_icmp_ne (tgt := 36) hC dX9_isSign_29 (by decide) (fun c29 => ?_) (fun c29 => ?_)
      · have hw := hw.1 c29
        refine z_iconst hC ic_0 dX9_isSign_36 ?_
        exact z_zret hC hr hlk (hz01 (Or.inl rfl)).1 dX9_isSign_37 ⟨_, rfl, hw⟩
      · have hw := hw.2 c29
        refine z_iconst hC ic_1 dX9_isSign_32 ?_
        refine z_goto (tgt := 37) hC dX9_isSign_33 (by decide) ?_
        exact z_zret hC hr hlk (hz01 (Or.inr rfl)).1 dX9_isSign_37 ⟨_, rfl, hw⟩
end
section
variable {p : Program} {l : Launch} {e : Env} {R : Room} {s : State} {m : MethodId} {args : Array Value} {below : List Frame} {meth : Method} {c : Code} {G : hG} {B mc ms : Nat}
def w_X5_takeSign (q : Int32 → hS → Prop) (S : hS) (v0 : Nat) (v1 : Int32) : Prop := gP S v0 5 1 (fun x1 => oK S x1 9 ∧ w_X9_isSign (fun x5 S => (¬ x5 = 0 → gP S v0 5 1 (fun x14 => oK S x14 9 ∧ w_X9_advance (fun S => q 1 S) S x14)) ∧ (x5 = 0 → q 0 S)) S x1 v1)
set_option maxRecDepth 100000 in
set_option maxHeartbeats 4000000 in
theorem c_X5_takeSign (l : Launch) (G : hG) (B : Nat) (S : hS) (v0 : Nat) (v1 : Int32) (q : Int32 → hS → Prop) : Met l yX5_takeSign (hws yX5_takeSign cX5_takeSign 2 (Option.some FieldType.boolean)) ({ frames := 3, cells := 0, slots := 0, locals := 100 }) (hPc G B S [.ref v0, .int v1] (w_X5_takeSign q S v0 v1)) (hQ G B (iP q)) (0) (0) (fun r => B ≤ r) := by
  refine hMet (rm := { frames := 3, cells := 0, slots := 0, locals := 100 }) (lv := [some (.ref v0), some (.int v1)]) (own := RX5) (fr := 3) (lo := 100) (by decide) rfl rfl rfl (Nat.le_of_ble_eq_true rfl) rfl (fun hw p e R s m args below meth c hC hr hlk hnm => ?_)
  unfold w_X5_takeSign at hw
  refine z_aload_n hC dX5_takeSign_0 rfl rfl ?_
  refine z_getP hC FX5 1 lk_380 dX5_takeSign_1 (by decide) hw (fun x1 hw => ?_)
  refine z_iload_n hC dX5_takeSign_4 rfl rfl ?_
  refine z_callV (ku' := 0) (kv' := 0) (n := 1) (As := [.int v1]) (st := []) hC (c_X9_isSign l G B S x1 v1 _) hw.2 hw.1 rfl lk_883 lk_884 lk_885 lk_125 lk_886 hd_X9_isSign rfl rfl (Nat.le_of_ble_eq_true rfl) (Nat.le_of_ble_eq_true rfl) rfl (Nat.le_of_ble_eq_true rfl) dX5_takeSign_5 (Nat.le_refl 0) (Nat.le_refl 0) (kI (fun x5 S hw => ?_))
  refine z_if_ne (tgt := 13) hC dX5_takeSign_8 (by decide) (fun c8 => ?_) (fun c8 => ?_)
  · have hw := hw.1 c8
    refine z_aload_n hC dX5_takeSign_13 rfl rfl ?_
    refine z_getP hC FX5 1 lk_380 dX5_takeSign_14 (by decide) hw (fun x14 hw => ?_)
    refine z_callV (ku' := 0) (kv' := 0) (n := 0) (As := []) (st := []) hC (c_X9_advance l G B S x14 _) hw.2 hw.1 rfl lk_870 lk_791 lk_792 lk_125 lk_793 hd_X9_advance rfl rfl (Nat.le_of_ble_eq_true rfl) (Nat.le_of_ble_eq_true rfl) rfl (Nat.le_of_ble_eq_true rfl) dX5_takeSign_17 (Nat.le_refl 0) (Nat.le_refl 0) (kV (fun S hw => ?_))
    refine z_iconst hC ic_1 dX5_takeSign_20 ?_
    exact z_zret hC hr hlk (hz01 (Or.inr rfl)).1 dX5_takeSign_21 ⟨_, rfl, hw⟩
  · have hw := hw.2 c8
    refine z_iconst hC ic_0 dX5_takeSign_11 ?_
    exact z_zret hC hr hlk (hz01 (Or.inl rfl)).1 dX5_takeSign_12 ⟨_, rfl, hw⟩
end
section
variable {p : Program} {l : Launch} {e : Env} {R : Room} {s : State} {m : MethodId} {args : Array Value} {below : List Frame} {meth : Method} {c : Code} {G : hG} {B mc ms : Nat}
def w_X5_isTermSign_b36 (q : Int32 → hS → Prop) (S : hS) : Prop := q 1 S
set_option maxRecDepth 100000 in
set_option maxHeartbeats 4000000 in
theorem t_X5_isTermSign_b36 (hC : zC p R s m args c cX5_isTermSign 1 RX5 G B mc ms 2 81) (hr : meth.sig.returnType = (Option.some FieldType.boolean)) (hlk : meth.locks = false) (hnm : meth.name = "isTermSign") {q : Int32 → hS → Prop} {S : hS} (hw : w_X5_isTermSign_b36 q S ) : Z p l e R s m args below meth c (MQ below (hQ G B (iP q)) args s mc ms (fun r => B ≤ r)) G B mc ms 1 S 0 0 36 [none] [] := by
  unfold w_X5_isTermSign_b36 at hw
  refine z_iconst hC ic_1 dX5_isTermSign_36 ?_
  refine z_goto (tgt := 41) hC dX5_isTermSign_37 (by decide) ?_
  exact z_zret hC hr hlk (hz01 (Or.inr rfl)).1 dX5_isTermSign_41 ⟨_, rfl, hw⟩
def w_X5_isTermSign (q : Int32 → hS → Prop) (S : hS) (v0 : Nat) : Prop := gP S v0 5 1 (fun x1 => oK S x1 9 ∧ w_X9_isSign (fun x6 S => (¬ x6 = 0 → w_X5_isTermSign_b36 q S) ∧ (x6 = 0 → gP S v0 5 1 (fun x13 => oK S x13 9 ∧ w_X9_isSign (fun x18 S => (¬ x18 = 0 → w_X5_isTermSign_b36 q S) ∧ (x18 = 0 → gP S v0 5 1 (fun x25 => oK S x25 9 ∧ w_X9_isSign (fun x30 S => (x30 = 0 → q 0 S) ∧ (¬ x30 = 0 → w_X5_isTermSign_b36 q S)) S x25 37))) S x13 47))) S x1 42)
set_option maxRecDepth 100000 in
set_option maxHeartbeats 4000000 in
theorem c_X5_isTermSign (l : Launch) (G : hG) (B : Nat) (S : hS) (v0 : Nat) (q : Int32 → hS → Prop) : Met l yX5_isTermSign (hws yX5_isTermSign cX5_isTermSign 1 (Option.some FieldType.boolean)) ({ frames := 2, cells := 0, slots := 0, locals := 81 }) (hPc G B S [.ref v0] (w_X5_isTermSign q S v0)) (hQ G B (iP q)) (0) (0) (fun r => B ≤ r) := by
  refine hMet (rm := { frames := 2, cells := 0, slots := 0, locals := 81 }) (lv := [some (.ref v0)]) (own := RX5) (fr := 2) (lo := 81) (by decide) rfl rfl rfl (Nat.le_of_ble_eq_true rfl) rfl (fun hw p e R s m args below meth c hC hr hlk hnm => ?_)
  unfold w_X5_isTermSign at hw
  refine z_aload_n hC dX5_isTermSign_0 rfl rfl ?_
  refine z_getP hC FX5 1 lk_380 dX5_isTermSign_1 (by decide) hw (fun x1 hw => ?_)
  refine z_bipush hC bi_42 dX5_isTermSign_4 ?_
  refine z_callV (ku' := 0) (kv' := 0) (n := 1) (As := [.int 42]) (st := []) hC (c_X9_isSign l G B S x1 42 _) hw.2 hw.1 rfl lk_883 lk_884 lk_885 lk_125 lk_886 hd_X9_isSign rfl rfl (Nat.le_of_ble_eq_true rfl) (Nat.le_of_ble_eq_true rfl) rfl (Nat.le_of_ble_eq_true rfl) dX5_isTermSign_6 (Nat.le_refl 0) (Nat.le_refl 0) (kI (fun x6 S hw => ?_))
  refine z_if_ne (tgt := 36) hC dX5_isTermSign_9 (by decide) (fun c9 => ?_) (fun c9 => ?_)
  · have hw := hw.1 c9
    refine z_mask (lv' := [none]) [false] rfl ?_
    exact t_X5_isTermSign_b36 hC hr hlk hnm hw
  · have hw := hw.2 c9
    refine z_aload_n hC dX5_isTermSign_12 rfl rfl ?_
    refine z_getP hC FX5 1 lk_380 dX5_isTermSign_13 (by decide) hw (fun x13 hw => ?_)
    refine z_bipush hC bi_47 dX5_isTermSign_16 ?_
    refine z_callV (ku' := 0) (kv' := 0) (n := 1) (As := [.int 47]) (st := []) hC (c_X9_isSign l G B S x13 47 _) hw.2 hw.1 rfl lk_883 lk_884 lk_885 lk_125 lk_886 hd_X9_isSign rfl rfl (Nat.le_of_ble_eq_true rfl) (Nat.le_of_ble_eq_true rfl) rfl (Nat.le_of_ble_eq_true rfl) dX5_isTermSign_18 (Nat.le_refl 0) (Nat.le_refl 0) (kI (fun x18 S hw => ?_))
    refine z_if_ne (tgt := 36) hC dX5_isTermSign_21 (by decide) (fun c21 => ?_) (fun c21 => ?_)
    · have hw := hw.1 c21
      refine z_mask (lv' := [none]) [false] rfl ?_
      exact t_X5_isTermSign_b36 hC hr hlk hnm hw
    · have hw := hw.2 c21
      refine z_aload_n hC dX5_isTermSign_24 rfl rfl ?_
      refine z_getP hC FX5 1 lk_380 dX5_isTermSign_25 (by decide) hw (fun x25 hw => ?_)
      refine z_bipush hC bi_37 dX5_isTermSign_28 ?_
      refine z_callV (ku' := 0) (kv' := 0) (n := 1) (As := [.int 37]) (st := []) hC (c_X9_isSign l G B S x25 37 _) hw.2 hw.1 rfl lk_883 lk_884 lk_885 lk_125 lk_886 hd_X9_isSign rfl rfl (Nat.le_of_ble_eq_true rfl) (Nat.le_of_ble_eq_true rfl) rfl (Nat.le_of_ble_eq_true rfl) dX5_isTermSign_30 (Nat.le_refl 0) (Nat.le_refl 0) (kI (fun x30 S hw => ?_))
      refine z_if_eq (tgt := 40) hC dX5_isTermSign_33 (by decide) (fun c33 => ?_) (fun c33 => ?_)
      · have hw := hw.1 c33
        refine z_iconst hC ic_0 dX5_isTermSign_40 ?_
        exact z_zret hC hr hlk (hz01 (Or.inl rfl)).1 dX5_isTermSign_41 ⟨_, rfl, hw⟩
      · have hw := hw.2 c33
        refine z_mask (lv' := [none]) [false] rfl ?_
        exact t_X5_isTermSign_b36 hC hr hlk hnm hw
end
section
variable {p : Program} {l : Launch} {e : Env} {R : Room} {s : State} {m : MethodId} {args : Array Value} {below : List Frame} {meth : Method} {c : Code} {G : hG} {B mc ms : Nat}
def w_X9_isNumber (q : Int32 → hS → Prop) (S : hS) (v0 : Nat) (v1 : Int32) (v2 : Int32) : Prop := gI S v0 9 2 (fun x1 => (¬ x1 = 2 → q 0 S) ∧ (x1 = 2 → gI S v0 9 4 (fun x9 => (x9 < v1 → q 0 S) ∧ (¬ x9 < v1 → gI S v0 9 4 (fun x17 => (v2 < x17 → q 0 S) ∧ (¬ v2 < x17 → q 1 S))))))
set_option maxRecDepth 100000 in
set_option maxHeartbeats 4000000 in
theorem c_X9_isNumber (l : Launch) (G : hG) (B : Nat) (S : hS) (v0 : Nat) (v1 : Int32) (v2 : Int32) (q : Int32 → hS → Prop) : Met l yX9_isNumber (hws yX9_isNumber cX9_isNumber 3 (Option.some FieldType.boolean)) ({ frames := 1, cells := 0, slots := 0, locals := 60 }) (hPc G B S [.ref v0, .int v1, .int v2] (w_X9_isNumber q S v0 v1 v2)) (hQ G B (iP q)) (0) (0) (fun r => B ≤ r) := by
  refine hMet (rm := { frames := 1, cells := 0, slots := 0, locals := 60 }) (lv := [some (.ref v0), some (.int v1), some (.int v2)]) (own := RX9) (fr := 1) (lo := 60) (by decide) rfl rfl rfl (Nat.le_of_ble_eq_true rfl) rfl (fun hw p e R s m args below meth c hC hr hlk hnm => ?_)
  unfold w_X9_isNumber at hw
  refine z_aload_n hC dX9_isNumber_0 rfl rfl ?_
  refine z_getI hC FX9 2 lk_315 dX9_isNumber_1 (by decide) hw (fun x1 hw => ?_)
  refine z_iconst hC ic_2 dX9_isNumber_4 ?_
  refine z_icmp_ne (tgt := 28) hC dX9_isNumber_5 (by decide) (fun c5 => ?_) (fun c5 => ?_)
  · have hw := hw.1 c5
    refine z_iconst hC ic_0 dX9_isNumber_28 ?_
    exact z_zret hC hr hlk (hz01 (Or.inl rfl)).1 dX9_isNumber_29 ⟨_, rfl, hw⟩
  · have hw := hw.2 c5
    refine z_aload_n hC dX9_isNumber_8 rfl rfl ?_
    refine z_getI hC FX9 4 lk_319 dX9_isNumber_9 (by decide) hw (fun x9 hw => ?_)
    refine z_iload_n hC dX9_isNumber_12 rfl rfl ?_
    refine z_icmp_lt (tgt := 28) hC dX9_isNumber_13 (by decide) (fun c13 => ?_) (fun c13 => ?_)
    · have hw := hw.1 c13
      refine z_iconst hC ic_0 dX9_isNumber_28 ?_
      exact z_zret hC hr hlk (hz01 (Or.inl rfl)).1 dX9_isNumber_29 ⟨_, rfl, hw⟩
    · have hw := hw.2 c13
      refine z_aload_n hC dX9_isNumber_16 rfl rfl ?_
      refine z_getI hC FX9 4 lk_319 dX9_isNumber_17 (by decide) hw (fun x17 hw => ?_)
      refine z_iload_n hC dX9_isNumber_20 rfl rfl ?_
      refine z_icmp_gt (tgt := 28) hC dX9_isNumber_21 (by decide) (fun c21 => ?_) (fun c21 => ?_)
      · have hw := hw.1 c21
        refine z_iconst hC ic_0 dX9_isNumber_28 ?_
        exact z_zret hC hr hlk (hz01 (Or.inl rfl)).1 dX9_isNumber_29 ⟨_, rfl, hw⟩
      · have hw := hw.2 c21
        refine z_iconst hC ic_1 dX9_isNumber_24 ?_
        refine z_goto (tgt := 29) hC dX9_isNumber_25 (by decide) ?_
        exact z_zret hC hr hlk (hz01 (Or.inr rfl)).1 dX9_isNumber_29 ⟨_, rfl, hw⟩
end
section
variable {p : Program} {l : Launch} {e : Env} {R : Room} {s : State} {m : MethodId} {args : Array Value} {below : List Frame} {meth : Method} {c : Code} {G : hG} {B mc ms : Nat}
def w_X5_lawWord (tx : Nat → Nat) (q : Int32 → hS → Prop) (S : hS) (v0 : Nat) : Prop := gP S v0 5 1 (fun x1 => oK S x1 9 ∧ w_X9_isWord tx (fun x6 S => (x6 = 0 → gP S v0 5 1 (fun x15 => oK S x15 9 ∧ w_X9_isWord tx (fun x20 S => (x20 = 0 → gP S v0 5 1 (fun x29 => oK S x29 9 ∧ w_X9_isWord tx (fun x34 S => (x34 = 0 → gP S v0 5 1 (fun x43 => oK S x43 9 ∧ w_X9_isWord tx (fun x48 S => (x48 = 0 → gP S v0 5 1 (fun x57 => oK S x57 9 ∧ w_X9_isWord tx (fun x62 S => (x62 = 0 → gP S v0 5 1 (fun x71 => oK S x71 9 ∧ w_X9_isWord tx (fun x76 S => (x76 = 0 → gP S v0 5 1 (fun x85 => oK S x85 9 ∧ w_X9_isWord tx (fun x90 S => (x90 = 0 → gP S v0 5 1 (fun x100 => oK S x100 9 ∧ w_X9_isWord tx (fun x105 S => (x105 = 0 → gP S v0 5 1 (fun x115 => oK S x115 9 ∧ w_X9_isWord tx (fun x120 S => (x120 = 0 → q (-1) S) ∧ (¬ x120 = 0 → q 8 S)) S x115 (tx 13))) ∧ (¬ x105 = 0 → q 7 S)) S x100 (tx 12))) ∧ (¬ x90 = 0 → q 6 S)) S x85 (tx 11))) ∧ (¬ x76 = 0 → q 5 S)) S x71 (tx 10))) ∧ (¬ x62 = 0 → q 4 S)) S x57 (tx 9))) ∧ (¬ x48 = 0 → q 3 S)) S x43 (tx 8))) ∧ (¬ x34 = 0 → q 2 S)) S x29 (tx 7))) ∧ (¬ x20 = 0 → q 1 S)) S x15 (tx 6))) ∧ (¬ x6 = 0 → q 0 S)) S x1 (tx 5))
set_option maxRecDepth 100000 in
set_option maxHeartbeats 4000000 in
theorem c_X5_lawWord (l : Launch) (G : hG) (B : Nat) (S : hS) (v0 : Nat) (q : Int32 → hS → Prop) : Met l yX5_lawWord (hws yX5_lawWord cX5_lawWord 1 (Option.some FieldType.int)) ({ frames := 6, cells := 0, slots := 0, locals := 193 }) (hPc G B S [.ref v0] (w_X5_lawWord G.2.2.1 q S v0)) (hQ G B (iP q)) (0) (0) (fun r => B ≤ r) := by
  refine hMet (rm := { frames := 6, cells := 0, slots := 0, locals := 193 }) (lv := [some (.ref v0)]) (own := RX5) (fr := 6) (lo := 193) (by decide) rfl rfl rfl (Nat.le_of_ble_eq_true rfl) rfl (fun hw p e R s m args below meth c hC hr hlk hnm => ?_)
  unfold w_X5_lawWord at hw
  refine z_aload_n hC dX5_lawWord_0 rfl rfl ?_
  refine z_getP hC FX5 1 lk_380 dX5_lawWord_1 (by decide) hw (fun x1 hw => ?_)
  refine z_ldcS hC 5 rfl dX5_lawWord_4 ?_
  refine z_callV (ku' := 0) (kv' := 0) (n := 1) (As := [.ref (G.2.2.1 5)]) (st := []) hC (c_X9_isWord l G B S x1 (G.2.2.1 5) _) hw.2 hw.1 rfl lk_810 lk_811 lk_812 lk_125 lk_813 hd_X9_isWord rfl rfl (Nat.le_of_ble_eq_true rfl) (Nat.le_of_ble_eq_true rfl) rfl (Nat.le_of_ble_eq_true rfl) dX5_lawWord_6 (Nat.le_refl 0) (Nat.le_refl 0) (kI (fun x6 S hw => ?_))
  refine z_if_eq (tgt := 14) hC dX5_lawWord_9 (by decide) (fun c9 => ?_) (fun c9 => ?_)
  · have hw := hw.1 c9
    refine z_aload_n hC dX5_lawWord_14 rfl rfl ?_
    refine z_getP hC FX5 1 lk_380 dX5_lawWord_15 (by decide) hw (fun x15 hw => ?_)
    refine z_ldcS hC 6 rfl dX5_lawWord_18 ?_
    refine z_callV (ku' := 0) (kv' := 0) (n := 1) (As := [.ref (G.2.2.1 6)]) (st := []) hC (c_X9_isWord l G B S x15 (G.2.2.1 6) _) hw.2 hw.1 rfl lk_810 lk_811 lk_812 lk_125 lk_813 hd_X9_isWord rfl rfl (Nat.le_of_ble_eq_true rfl) (Nat.le_of_ble_eq_true rfl) rfl (Nat.le_of_ble_eq_true rfl) dX5_lawWord_20 (Nat.le_refl 0) (Nat.le_refl 0) (kI (fun x20 S hw => ?_))
    refine z_if_eq (tgt := 28) hC dX5_lawWord_23 (by decide) (fun c23 => ?_) (fun c23 => ?_)
    · have hw := hw.1 c23
      refine z_aload_n hC dX5_lawWord_28 rfl rfl ?_
      refine z_getP hC FX5 1 lk_380 dX5_lawWord_29 (by decide) hw (fun x29 hw => ?_)
      refine z_ldcS hC 7 rfl dX5_lawWord_32 ?_
      refine z_callV (ku' := 0) (kv' := 0) (n := 1) (As := [.ref (G.2.2.1 7)]) (st := []) hC (c_X9_isWord l G B S x29 (G.2.2.1 7) _) hw.2 hw.1 rfl lk_810 lk_811 lk_812 lk_125 lk_813 hd_X9_isWord rfl rfl (Nat.le_of_ble_eq_true rfl) (Nat.le_of_ble_eq_true rfl) rfl (Nat.le_of_ble_eq_true rfl) dX5_lawWord_34 (Nat.le_refl 0) (Nat.le_refl 0) (kI (fun x34 S hw => ?_))
      refine z_if_eq (tgt := 42) hC dX5_lawWord_37 (by decide) (fun c37 => ?_) (fun c37 => ?_)
      · have hw := hw.1 c37
        refine z_aload_n hC dX5_lawWord_42 rfl rfl ?_
        refine z_getP hC FX5 1 lk_380 dX5_lawWord_43 (by decide) hw (fun x43 hw => ?_)
        refine z_ldcS hC 8 rfl dX5_lawWord_46 ?_
        refine z_callV (ku' := 0) (kv' := 0) (n := 1) (As := [.ref (G.2.2.1 8)]) (st := []) hC (c_X9_isWord l G B S x43 (G.2.2.1 8) _) hw.2 hw.1 rfl lk_810 lk_811 lk_812 lk_125 lk_813 hd_X9_isWord rfl rfl (Nat.le_of_ble_eq_true rfl) (Nat.le_of_ble_eq_true rfl) rfl (Nat.le_of_ble_eq_true rfl) dX5_lawWord_48 (Nat.le_refl 0) (Nat.le_refl 0) (kI (fun x48 S hw => ?_))
        refine z_if_eq (tgt := 56) hC dX5_lawWord_51 (by decide) (fun c51 => ?_) (fun c51 => ?_)
        · have hw := hw.1 c51
          refine z_aload_n hC dX5_lawWord_56 rfl rfl ?_
          refine z_getP hC FX5 1 lk_380 dX5_lawWord_57 (by decide) hw (fun x57 hw => ?_)
          refine z_ldcS hC 9 rfl dX5_lawWord_60 ?_
          refine z_callV (ku' := 0) (kv' := 0) (n := 1) (As := [.ref (G.2.2.1 9)]) (st := []) hC (c_X9_isWord l G B S x57 (G.2.2.1 9) _) hw.2 hw.1 rfl lk_810 lk_811 lk_812 lk_125 lk_813 hd_X9_isWord rfl rfl (Nat.le_of_ble_eq_true rfl) (Nat.le_of_ble_eq_true rfl) rfl (Nat.le_of_ble_eq_true rfl) dX5_lawWord_62 (Nat.le_refl 0) (Nat.le_refl 0) (kI (fun x62 S hw => ?_))
          refine z_if_eq (tgt := 70) hC dX5_lawWord_65 (by decide) (fun c65 => ?_) (fun c65 => ?_)
          · have hw := hw.1 c65
            refine z_aload_n hC dX5_lawWord_70 rfl rfl ?_
            refine z_getP hC FX5 1 lk_380 dX5_lawWord_71 (by decide) hw (fun x71 hw => ?_)
            refine z_ldcS hC 10 rfl dX5_lawWord_74 ?_
            refine z_callV (ku' := 0) (kv' := 0) (n := 1) (As := [.ref (G.2.2.1 10)]) (st := []) hC (c_X9_isWord l G B S x71 (G.2.2.1 10) _) hw.2 hw.1 rfl lk_810 lk_811 lk_812 lk_125 lk_813 hd_X9_isWord rfl rfl (Nat.le_of_ble_eq_true rfl) (Nat.le_of_ble_eq_true rfl) rfl (Nat.le_of_ble_eq_true rfl) dX5_lawWord_76 (Nat.le_refl 0) (Nat.le_refl 0) (kI (fun x76 S hw => ?_))
            refine z_if_eq (tgt := 84) hC dX5_lawWord_79 (by decide) (fun c79 => ?_) (fun c79 => ?_)
            · have hw := hw.1 c79
              refine z_aload_n hC dX5_lawWord_84 rfl rfl ?_
              refine z_getP hC FX5 1 lk_380 dX5_lawWord_85 (by decide) hw (fun x85 hw => ?_)
              refine z_ldcS hC 11 rfl dX5_lawWord_88 ?_
              refine z_callV (ku' := 0) (kv' := 0) (n := 1) (As := [.ref (G.2.2.1 11)]) (st := []) hC (c_X9_isWord l G B S x85 (G.2.2.1 11) _) hw.2 hw.1 rfl lk_810 lk_811 lk_812 lk_125 lk_813 hd_X9_isWord rfl rfl (Nat.le_of_ble_eq_true rfl) (Nat.le_of_ble_eq_true rfl) rfl (Nat.le_of_ble_eq_true rfl) dX5_lawWord_90 (Nat.le_refl 0) (Nat.le_refl 0) (kI (fun x90 S hw => ?_))
              refine z_if_eq (tgt := 99) hC dX5_lawWord_93 (by decide) (fun c93 => ?_) (fun c93 => ?_)
              · have hw := hw.1 c93
                refine z_aload_n hC dX5_lawWord_99 rfl rfl ?_
                refine z_getP hC FX5 1 lk_380 dX5_lawWord_100 (by decide) hw (fun x100 hw => ?_)
                refine z_ldcS hC 12 rfl dX5_lawWord_103 ?_
                refine z_callV (ku' := 0) (kv' := 0) (n := 1) (As := [.ref (G.2.2.1 12)]) (st := []) hC (c_X9_isWord l G B S x100 (G.2.2.1 12) _) hw.2 hw.1 rfl lk_810 lk_811 lk_812 lk_125 lk_813 hd_X9_isWord rfl rfl (Nat.le_of_ble_eq_true rfl) (Nat.le_of_ble_eq_true rfl) rfl (Nat.le_of_ble_eq_true rfl) dX5_lawWord_105 (Nat.le_refl 0) (Nat.le_refl 0) (kI (fun x105 S hw => ?_))
                refine z_if_eq (tgt := 114) hC dX5_lawWord_108 (by decide) (fun c108 => ?_) (fun c108 => ?_)
                · have hw := hw.1 c108
                  refine z_aload_n hC dX5_lawWord_114 rfl rfl ?_
                  refine z_getP hC FX5 1 lk_380 dX5_lawWord_115 (by decide) hw (fun x115 hw => ?_)
                  refine z_ldcS hC 13 rfl dX5_lawWord_118 ?_
                  refine z_callV (ku' := 0) (kv' := 0) (n := 1) (As := [.ref (G.2.2.1 13)]) (st := []) hC (c_X9_isWord l G B S x115 (G.2.2.1 13) _) hw.2 hw.1 rfl lk_810 lk_811 lk_812 lk_125 lk_813 hd_X9_isWord rfl rfl (Nat.le_of_ble_eq_true rfl) (Nat.le_of_ble_eq_true rfl) rfl (Nat.le_of_ble_eq_true rfl) dX5_lawWord_120 (Nat.le_refl 0) (Nat.le_refl 0) (kI (fun x120 S hw => ?_))
                  refine z_if_eq (tgt := 131) hC dX5_lawWord_123 (by decide) (fun c123 => ?_) (fun c123 => ?_)
                  · have hw := hw.1 c123
                    refine z_iconst hC ic_m1 dX5_lawWord_131 ?_
                    exact z_iret hC hr hlk dX5_lawWord_132 ⟨_, rfl, hw⟩
                  · have hw := hw.2 c123
                    refine z_bipush hC bi_8 dX5_lawWord_126 ?_
                    refine z_goto (tgt := 132) hC dX5_lawWord_128 (by decide) ?_
                    exact z_iret hC hr hlk dX5_lawWord_132 ⟨_, rfl, hw⟩
                · have hw := hw.2 c108
                  refine z_bipush hC bi_7 dX5_lawWord_111 ?_
                  exact z_iret hC hr hlk dX5_lawWord_113 ⟨_, rfl, hw⟩
              · have hw := hw.2 c93
                refine z_bipush hC bi_6 dX5_lawWord_96 ?_
                exact z_iret hC hr hlk dX5_lawWord_98 ⟨_, rfl, hw⟩
            · have hw := hw.2 c79
              refine z_iconst hC ic_5 dX5_lawWord_82 ?_
              exact z_iret hC hr hlk dX5_lawWord_83 ⟨_, rfl, hw⟩
          · have hw := hw.2 c65
            refine z_iconst hC ic_4 dX5_lawWord_68 ?_
            exact z_iret hC hr hlk dX5_lawWord_69 ⟨_, rfl, hw⟩
        · have hw := hw.2 c51
          refine z_iconst hC ic_3 dX5_lawWord_54 ?_
          exact z_iret hC hr hlk dX5_lawWord_55 ⟨_, rfl, hw⟩
      · have hw := hw.2 c37
        refine z_iconst hC ic_2 dX5_lawWord_40 ?_
        exact z_iret hC hr hlk dX5_lawWord_41 ⟨_, rfl, hw⟩
    · have hw := hw.2 c23
      refine z_iconst hC ic_1 dX5_lawWord_26 ?_
      exact z_iret hC hr hlk dX5_lawWord_27 ⟨_, rfl, hw⟩
  · have hw := hw.2 c9
    refine z_iconst hC ic_0 dX5_lawWord_12 ?_
    exact z_iret hC hr hlk dX5_lawWord_13 ⟨_, rfl, hw⟩
end
section
variable {p : Program} {l : Launch} {e : Env} {R : Room} {s : State} {m : MethodId} {args : Array Value} {below : List Frame} {meth : Method} {c : Code} {G : hG} {B mc ms : Nat}
def w_X5_orderWord (tx : Nat → Nat) (q : Int32 → hS → Prop) (S : hS) (v0 : Nat) : Prop := gP S v0 5 1 (fun x1 => oK S x1 9 ∧ w_X9_isWord tx (fun x6 S => (x6 = 0 → gP S v0 5 1 (fun x15 => oK S x15 9 ∧ w_X9_isWord tx (fun x20 S => (x20 = 0 → gP S v0 5 1 (fun x29 => oK S x29 9 ∧ w_X9_isWord tx (fun x34 S => (x34 = 0 → gP S v0 5 1 (fun x43 => oK S x43 9 ∧ w_X9_isWord tx (fun x48 S => (x48 = 0 → gP S v0 5 1 (fun x57 => oK S x57 9 ∧ w_X9_isWord tx (fun x62 S => (x62 = 0 → gP S v0 5 1 (fun x71 => oK S x71 9 ∧ w_X9_isWord tx (fun x76 S => (x76 = 0 → gP S v0 5 1 (fun x86 => oK S x86 9 ∧ w_X9_isWord tx (fun x91 S => (x91 = 0 → q (-1) S) ∧ (¬ x91 = 0 → q 20 S)) S x86 (tx 9))) ∧ (¬ x76 = 0 → q 12 S)) S x71 (tx 10))) ∧ (¬ x62 = 0 → q 4 S)) S x57 (tx 7))) ∧ (¬ x48 = 0 → q 3 S)) S x43 (tx 16))) ∧ (¬ x34 = 0 → q 2 S)) S x29 (tx 15))) ∧ (¬ x20 = 0 → q 1 S)) S x15 (tx 14))) ∧ (¬ x6 = 0 → q 0 S)) S x1 (tx 11))
set_option maxRecDepth 100000 in
set_option maxHeartbeats 4000000 in
theorem c_X5_orderWord (l : Launch) (G : hG) (B : Nat) (S : hS) (v0 : Nat) (q : Int32 → hS → Prop) : Met l yX5_orderWord (hws yX5_orderWord cX5_orderWord 1 (Option.some FieldType.int)) ({ frames := 6, cells := 0, slots := 0, locals := 193 }) (hPc G B S [.ref v0] (w_X5_orderWord G.2.2.1 q S v0)) (hQ G B (iP q)) (0) (0) (fun r => B ≤ r) := by
  refine hMet (rm := { frames := 6, cells := 0, slots := 0, locals := 193 }) (lv := [some (.ref v0)]) (own := RX5) (fr := 6) (lo := 193) (by decide) rfl rfl rfl (Nat.le_of_ble_eq_true rfl) rfl (fun hw p e R s m args below meth c hC hr hlk hnm => ?_)
  unfold w_X5_orderWord at hw
  refine z_aload_n hC dX5_orderWord_0 rfl rfl ?_
  refine z_getP hC FX5 1 lk_380 dX5_orderWord_1 (by decide) hw (fun x1 hw => ?_)
  refine z_ldcS hC 11 rfl dX5_orderWord_4 ?_
  refine z_callV (ku' := 0) (kv' := 0) (n := 1) (As := [.ref (G.2.2.1 11)]) (st := []) hC (c_X9_isWord l G B S x1 (G.2.2.1 11) _) hw.2 hw.1 rfl lk_810 lk_811 lk_812 lk_125 lk_813 hd_X9_isWord rfl rfl (Nat.le_of_ble_eq_true rfl) (Nat.le_of_ble_eq_true rfl) rfl (Nat.le_of_ble_eq_true rfl) dX5_orderWord_6 (Nat.le_refl 0) (Nat.le_refl 0) (kI (fun x6 S hw => ?_))
  refine z_if_eq (tgt := 14) hC dX5_orderWord_9 (by decide) (fun c9 => ?_) (fun c9 => ?_)
  · have hw := hw.1 c9
    refine z_aload_n hC dX5_orderWord_14 rfl rfl ?_
    refine z_getP hC FX5 1 lk_380 dX5_orderWord_15 (by decide) hw (fun x15 hw => ?_)
    refine z_ldcS hC 14 rfl dX5_orderWord_18 ?_
    refine z_callV (ku' := 0) (kv' := 0) (n := 1) (As := [.ref (G.2.2.1 14)]) (st := []) hC (c_X9_isWord l G B S x15 (G.2.2.1 14) _) hw.2 hw.1 rfl lk_810 lk_811 lk_812 lk_125 lk_813 hd_X9_isWord rfl rfl (Nat.le_of_ble_eq_true rfl) (Nat.le_of_ble_eq_true rfl) rfl (Nat.le_of_ble_eq_true rfl) dX5_orderWord_20 (Nat.le_refl 0) (Nat.le_refl 0) (kI (fun x20 S hw => ?_))
    refine z_if_eq (tgt := 28) hC dX5_orderWord_23 (by decide) (fun c23 => ?_) (fun c23 => ?_)
    · have hw := hw.1 c23
      refine z_aload_n hC dX5_orderWord_28 rfl rfl ?_
      refine z_getP hC FX5 1 lk_380 dX5_orderWord_29 (by decide) hw (fun x29 hw => ?_)
      refine z_ldcS hC 15 rfl dX5_orderWord_32 ?_
      refine z_callV (ku' := 0) (kv' := 0) (n := 1) (As := [.ref (G.2.2.1 15)]) (st := []) hC (c_X9_isWord l G B S x29 (G.2.2.1 15) _) hw.2 hw.1 rfl lk_810 lk_811 lk_812 lk_125 lk_813 hd_X9_isWord rfl rfl (Nat.le_of_ble_eq_true rfl) (Nat.le_of_ble_eq_true rfl) rfl (Nat.le_of_ble_eq_true rfl) dX5_orderWord_34 (Nat.le_refl 0) (Nat.le_refl 0) (kI (fun x34 S hw => ?_))
      refine z_if_eq (tgt := 42) hC dX5_orderWord_37 (by decide) (fun c37 => ?_) (fun c37 => ?_)
      · have hw := hw.1 c37
        refine z_aload_n hC dX5_orderWord_42 rfl rfl ?_
        refine z_getP hC FX5 1 lk_380 dX5_orderWord_43 (by decide) hw (fun x43 hw => ?_)
        refine z_ldcS hC 16 rfl dX5_orderWord_46 ?_
        refine z_callV (ku' := 0) (kv' := 0) (n := 1) (As := [.ref (G.2.2.1 16)]) (st := []) hC (c_X9_isWord l G B S x43 (G.2.2.1 16) _) hw.2 hw.1 rfl lk_810 lk_811 lk_812 lk_125 lk_813 hd_X9_isWord rfl rfl (Nat.le_of_ble_eq_true rfl) (Nat.le_of_ble_eq_true rfl) rfl (Nat.le_of_ble_eq_true rfl) dX5_orderWord_48 (Nat.le_refl 0) (Nat.le_refl 0) (kI (fun x48 S hw => ?_))
        refine z_if_eq (tgt := 56) hC dX5_orderWord_51 (by decide) (fun c51 => ?_) (fun c51 => ?_)
        · have hw := hw.1 c51
          refine z_aload_n hC dX5_orderWord_56 rfl rfl ?_
          refine z_getP hC FX5 1 lk_380 dX5_orderWord_57 (by decide) hw (fun x57 hw => ?_)
          refine z_ldcS hC 7 rfl dX5_orderWord_60 ?_
          refine z_callV (ku' := 0) (kv' := 0) (n := 1) (As := [.ref (G.2.2.1 7)]) (st := []) hC (c_X9_isWord l G B S x57 (G.2.2.1 7) _) hw.2 hw.1 rfl lk_810 lk_811 lk_812 lk_125 lk_813 hd_X9_isWord rfl rfl (Nat.le_of_ble_eq_true rfl) (Nat.le_of_ble_eq_true rfl) rfl (Nat.le_of_ble_eq_true rfl) dX5_orderWord_62 (Nat.le_refl 0) (Nat.le_refl 0) (kI (fun x62 S hw => ?_))
          refine z_if_eq (tgt := 70) hC dX5_orderWord_65 (by decide) (fun c65 => ?_) (fun c65 => ?_)
          · have hw := hw.1 c65
            refine z_aload_n hC dX5_orderWord_70 rfl rfl ?_
            refine z_getP hC FX5 1 lk_380 dX5_orderWord_71 (by decide) hw (fun x71 hw => ?_)
            refine z_ldcS hC 10 rfl dX5_orderWord_74 ?_
            refine z_callV (ku' := 0) (kv' := 0) (n := 1) (As := [.ref (G.2.2.1 10)]) (st := []) hC (c_X9_isWord l G B S x71 (G.2.2.1 10) _) hw.2 hw.1 rfl lk_810 lk_811 lk_812 lk_125 lk_813 hd_X9_isWord rfl rfl (Nat.le_of_ble_eq_true rfl) (Nat.le_of_ble_eq_true rfl) rfl (Nat.le_of_ble_eq_true rfl) dX5_orderWord_76 (Nat.le_refl 0) (Nat.le_refl 0) (kI (fun x76 S hw => ?_))
            refine z_if_eq (tgt := 85) hC dX5_orderWord_79 (by decide) (fun c79 => ?_) (fun c79 => ?_)
            · have hw := hw.1 c79
              refine z_aload_n hC dX5_orderWord_85 rfl rfl ?_
              refine z_getP hC FX5 1 lk_380 dX5_orderWord_86 (by decide) hw (fun x86 hw => ?_)
              refine z_ldcS hC 9 rfl dX5_orderWord_89 ?_
              refine z_callV (ku' := 0) (kv' := 0) (n := 1) (As := [.ref (G.2.2.1 9)]) (st := []) hC (c_X9_isWord l G B S x86 (G.2.2.1 9) _) hw.2 hw.1 rfl lk_810 lk_811 lk_812 lk_125 lk_813 hd_X9_isWord rfl rfl (Nat.le_of_ble_eq_true rfl) (Nat.le_of_ble_eq_true rfl) rfl (Nat.le_of_ble_eq_true rfl) dX5_orderWord_91 (Nat.le_refl 0) (Nat.le_refl 0) (kI (fun x91 S hw => ?_))
              refine z_if_eq (tgt := 102) hC dX5_orderWord_94 (by decide) (fun c94 => ?_) (fun c94 => ?_)
              · have hw := hw.1 c94
                refine z_iconst hC ic_m1 dX5_orderWord_102 ?_
                exact z_iret hC hr hlk dX5_orderWord_103 ⟨_, rfl, hw⟩
              · have hw := hw.2 c94
                refine z_bipush hC bi_20 dX5_orderWord_97 ?_
                refine z_goto (tgt := 103) hC dX5_orderWord_99 (by decide) ?_
                exact z_iret hC hr hlk dX5_orderWord_103 ⟨_, rfl, hw⟩
            · have hw := hw.2 c79
              refine z_bipush hC bi_12 dX5_orderWord_82 ?_
              exact z_iret hC hr hlk dX5_orderWord_84 ⟨_, rfl, hw⟩
          · have hw := hw.2 c65
            refine z_iconst hC ic_4 dX5_orderWord_68 ?_
            exact z_iret hC hr hlk dX5_orderWord_69 ⟨_, rfl, hw⟩
        · have hw := hw.2 c51
          refine z_iconst hC ic_3 dX5_orderWord_54 ?_
          exact z_iret hC hr hlk dX5_orderWord_55 ⟨_, rfl, hw⟩
      · have hw := hw.2 c37
        refine z_iconst hC ic_2 dX5_orderWord_40 ?_
        exact z_iret hC hr hlk dX5_orderWord_41 ⟨_, rfl, hw⟩
    · have hw := hw.2 c23
      refine z_iconst hC ic_1 dX5_orderWord_26 ?_
      exact z_iret hC hr hlk dX5_orderWord_27 ⟨_, rfl, hw⟩
  · have hw := hw.2 c9
    refine z_iconst hC ic_0 dX5_orderWord_12 ?_
    exact z_iret hC hr hlk dX5_orderWord_13 ⟨_, rfl, hw⟩
end
section
variable {p : Program} {l : Launch} {e : Env} {R : Room} {s : State} {m : MethodId} {args : Array Value} {below : List Frame} {meth : Method} {c : Code} {G : hG} {B mc ms : Nat}
def w_X5_addWord (q : Int32 → hS → Prop) (S : hS) (v0 : Nat) (v1 : Int32) : Prop := gP S v0 5 0 (fun x1 => oK S x1 10 ∧ w_X10_add (fun x6 S => q 1 S) S x1 1 v1)
set_option maxRecDepth 100000 in
set_option maxHeartbeats 4000000 in
theorem c_X5_addWord (l : Launch) (G : hG) (B : Nat) (S : hS) (v0 : Nat) (v1 : Int32) (q : Int32 → hS → Prop) : Met l yX5_addWord (hws yX5_addWord cX5_addWord 2 (Option.some FieldType.boolean)) ({ frames := 2, cells := 0, slots := 0, locals := 83 }) (hPc G B S [.ref v0, .int v1] (w_X5_addWord q S v0 v1)) (hQ G B (iP q)) (0) (0) (fun r => B ≤ r) := by
  refine hMet (rm := { frames := 2, cells := 0, slots := 0, locals := 83 }) (lv := [some (.ref v0), some (.int v1)]) (own := RX5) (fr := 2) (lo := 83) (by decide) rfl rfl rfl (Nat.le_of_ble_eq_true rfl) rfl (fun hw p e R s m args below meth c hC hr hlk hnm => ?_)
  unfold w_X5_addWord at hw
  refine z_aload_n hC dX5_addWord_0 rfl rfl ?_
  refine z_getP hC FX5 0 lk_378 dX5_addWord_1 (by decide) hw (fun x1 hw => ?_)
  refine z_iconst hC ic_1 dX5_addWord_4 ?_
  refine z_iload_n hC dX5_addWord_5 rfl rfl ?_
  refine z_callV (ku' := 0) (kv' := 0) (n := 2) (As := [.int 1, .int v1]) (st := []) hC (c_X10_add l G B S x1 1 v1 _) hw.2 hw.1 rfl lk_895 lk_896 lk_897 lk_127 lk_898 hd_X10_add rfl rfl (Nat.le_of_ble_eq_true rfl) (Nat.le_of_ble_eq_true rfl) rfl (Nat.le_of_ble_eq_true rfl) dX5_addWord_6 (Nat.le_refl 0) (Nat.le_refl 0) (kI (fun x6 S hw => ?_))
  refine z_pop hC rfl dX5_addWord_9 ?_
  refine z_iconst hC ic_1 dX5_addWord_10 ?_
  exact z_zret hC hr hlk (hz01 (Or.inr rfl)).1 dX5_addWord_11 ⟨_, rfl, hw⟩
end
section
variable {p : Program} {l : Launch} {e : Env} {R : Room} {s : State} {m : MethodId} {args : Array Value} {below : List Frame} {meth : Method} {c : Code} {G : hG} {B mc ms : Nat}
def w_X5_readWhose_b12 (q : Int32 → hS → Prop) (S : hS) (v0 : Nat) (v1 : Int32) (t0 : Int32) : Prop := gP S v0 5 1 (fun x14 => oK S x14 9 ∧ w_X9_isNumber (fun x19 S => (¬ x19 = 0 → gP S v0 5 0 (fun x28 => gP S v0 5 1 (fun x34 => gI S x34 9 4 (fun x37 => oK S x28 10 ∧ w_X10_add (fun x41 S => gP S v0 5 1 (fun x46 => oK S x46 9 ∧ w_X9_advance (fun S => q 1 S) S x46)) S x28 1 (v1 + x37))))) ∧ (x19 = 0 → q 0 S)) S x14 0 t0)
set_option maxRecDepth 100000 in
set_option maxHeartbeats 4000000 in
theorem t_X5_readWhose_b12 (hC : zC p R s m args c cX5_readWhose 3 RX5 G B mc ms 3 100) (hr : meth.sig.returnType = (Option.some FieldType.boolean)) (hlk : meth.locks = false) (hnm : meth.name = "readWhose") {q : Int32 → hS → Prop} {S : hS} {v0 : Nat} {v1 : Int32} {t0 : Int32} (hw : w_X5_readWhose_b12 q S v0 v1 t0) : Z p l e R s m args below meth c (MQ below (hQ G B (iP q)) args s mc ms (fun r => B ≤ r)) G B mc ms 3 S 0 0 12 [some (.ref v0), some (.int v1), none] [.int t0] := by
  unfold w_X5_readWhose_b12 at hw
  refine z_istore_n (i := 2) (lv' := [some (.ref v0), some (.int v1), some (.int t0)]) hC rfl dX5_readWhose_12 (by decide) (hok_v rfl rfl) rfl ?_
  refine z_aload_n hC dX5_readWhose_13 rfl rfl ?_
  refine z_getP hC FX5 1 lk_380 dX5_readWhose_14 (by decide) hw (fun x14 hw => ?_)
  refine z_iconst hC ic_0 dX5_readWhose_17 ?_
  refine z_iload_n hC dX5_readWhose_18 rfl rfl ?_
  refine z_callV (ku' := 0) (kv' := 0) (n := 2) (As := [.int 0, .int t0]) (st := []) hC (c_X9_isNumber l G B S x14 0 t0 _) hw.2 hw.1 rfl lk_891 lk_892 lk_893 lk_125 lk_894 hd_X9_isNumber rfl rfl (Nat.le_of_ble_eq_true rfl) (Nat.le_of_ble_eq_true rfl) rfl (Nat.le_of_ble_eq_true rfl) dX5_readWhose_19 (Nat.le_refl 0) (Nat.le_refl 0) (kI (fun x19 S hw => ?_))
  refine z_if_ne (tgt := 27) hC dX5_readWhose_22 (by decide) (fun c22 => ?_) (fun c22 => ?_)
  · have hw := hw.1 c22
    refine z_aload_n hC dX5_readWhose_27 rfl rfl ?_
    refine z_getP hC FX5 0 lk_378 dX5_readWhose_28 (by decide) hw (fun x28 hw => ?_)
    refine z_iconst hC ic_1 dX5_readWhose_31 ?_
    refine z_iload_n hC dX5_readWhose_32 rfl rfl ?_
    refine z_aload_n hC dX5_readWhose_33 rfl rfl ?_
    refine z_getP hC FX5 1 lk_380 dX5_readWhose_34 (by decide) hw (fun x34 hw => ?_)
    refine z_getI hC FX9 4 lk_320 dX5_readWhose_37 (by decide) hw (fun x37 hw => ?_)
    refine z_iadd hC dX5_readWhose_40 ?_
    refine z_callV (ku' := 0) (kv' := 0) (n := 2) (As := [.int 1, .int (v1 + x37)]) (st := []) hC (c_X10_add l G B S x28 1 (v1 + x37) _) hw.2 hw.1 rfl lk_895 lk_896 lk_897 lk_127 lk_898 hd_X10_add rfl rfl (Nat.le_of_ble_eq_true rfl) (Nat.le_of_ble_eq_true rfl) rfl (Nat.le_of_ble_eq_true rfl) dX5_readWhose_41 (Nat.le_refl 0) (Nat.le_refl 0) (kI (fun x41 S hw => ?_))
    refine z_pop hC rfl dX5_readWhose_44 ?_
    refine z_aload_n hC dX5_readWhose_45 rfl rfl ?_
    refine z_getP hC FX5 1 lk_380 dX5_readWhose_46 (by decide) hw (fun x46 hw => ?_)
    refine z_callV (ku' := 0) (kv' := 0) (n := 0) (As := []) (st := []) hC (c_X9_advance l G B S x46 _) hw.2 hw.1 rfl lk_870 lk_791 lk_792 lk_125 lk_793 hd_X9_advance rfl rfl (Nat.le_of_ble_eq_true rfl) (Nat.le_of_ble_eq_true rfl) rfl (Nat.le_of_ble_eq_true rfl) dX5_readWhose_49 (Nat.le_refl 0) (Nat.le_refl 0) (kV (fun S hw => ?_))
    refine z_iconst hC ic_1 dX5_readWhose_52 ?_
    exact z_zret hC hr hlk (hz01 (Or.inr rfl)).1 dX5_readWhose_53 ⟨_, rfl, hw⟩
  · have hw := hw.2 c22
    refine z_iconst hC ic_0 dX5_readWhose_25 ?_
    exact z_zret hC hr hlk (hz01 (Or.inl rfl)).1 dX5_readWhose_26 ⟨_, rfl, hw⟩
def w_X5_readWhose (q : Int32 → hS → Prop) (S : hS) (v0 : Nat) (v1 : Int32) : Prop := (¬ v1 = 20 → w_X5_readWhose_b12 q S v0 v1 7) ∧ (v1 = 20 → w_X5_readWhose_b12 q S v0 v1 5)
set_option maxRecDepth 100000 in
set_option maxHeartbeats 4000000 in
theorem c_X5_readWhose (l : Launch) (G : hG) (B : Nat) (S : hS) (v0 : Nat) (v1 : Int32) (q : Int32 → hS → Prop) : Met l yX5_readWhose (hws yX5_readWhose cX5_readWhose 3 (Option.some FieldType.boolean)) ({ frames := 3, cells := 0, slots := 0, locals := 100 }) (hPc G B S [.ref v0, .int v1] (w_X5_readWhose q S v0 v1)) (hQ G B (iP q)) (0) (0) (fun r => B ≤ r) := by
  refine hMet (rm := { frames := 3, cells := 0, slots := 0, locals := 100 }) (lv := [some (.ref v0), some (.int v1), none]) (own := RX5) (fr := 3) (lo := 100) (by decide) rfl rfl rfl (Nat.le_of_ble_eq_true rfl) rfl (fun hw p e R s m args below meth c hC hr hlk hnm => ?_)
  unfold w_X5_readWhose at hw
  refine z_iload_n hC dX5_readWhose_0 rfl rfl ?_
  refine z_bipush hC bi_20 dX5_readWhose_1 ?_
  refine z_icmp_ne (tgt := 10) hC dX5_readWhose_3 (by decide) (fun c3 => ?_) (fun c3 => ?_)
  · have hw := hw.1 c3
    refine z_bipush hC bi_7 dX5_readWhose_10 ?_
    refine z_mask (lv' := [some (.ref v0), some (.int v1), none]) [true, true, false] rfl ?_
    exact t_X5_readWhose_b12 hC hr hlk hnm hw
  · have hw := hw.2 c3
    refine z_iconst hC ic_5 dX5_readWhose_6 ?_
    refine z_goto (tgt := 12) hC dX5_readWhose_7 (by decide) ?_
    refine z_mask (lv' := [some (.ref v0), some (.int v1), none]) [true, true, false] rfl ?_
    exact t_X5_readWhose_b12 hC hr hlk hnm hw
end
section
variable {p : Program} {l : Launch} {e : Env} {R : Room} {s : State} {m : MethodId} {args : Array Value} {below : List Frame} {meth : Method} {c : Code} {G : hG} {B mc ms : Nat}
def w_X5_readTest_b12 (tx : Nat → Nat) (rec : Nat → (Int32 → hS → Prop) → hS → (Nat) → (Int32) → Prop) (q : Int32 → hS → Prop) : Nat → hS → (Nat) → (Int32) → (Int32) → Prop
  | 0, _, _, _, _ => False
  | n + 1, S, v0, v1, v2 => (400 ≤ v2 → q 1 S) ∧ (¬ 400 ≤ v2 → oK S v0 5 ∧ w_X5_takeWord tx (fun x22 S => (x22 = 0 → q 1 S) ∧ (¬ x22 = 0 → gP S v0 5 0 (fun x29 => oK S x29 10 ∧ w_X10_add (fun x35 S => oK S v0 5 ∧ rec 1 (fun x41 S => (¬ x41 = 0 → gP S v0 5 0 (fun x50 => oK S x50 10 ∧ w_X10_landSkip (fun S => ∀ y57 : Int32, y57 = v2 + 1 → w_X5_readTest_b12 tx rec q n S v0 v1 y57) S x50 x35)) ∧ (x41 = 0 → q 0 S)) S v0 v1) S x29 11 0))) S v0 (tx 20))
set_option maxRecDepth 100000 in
set_option maxHeartbeats 4000000 in
theorem t_X5_readTest_b12 {d : Nat} (hC : zC p R s m args c cX5_readTest 4 RX5 G B mc ms (7 + (d + 1)) (214 + 23 * (d + 1))) (hr : meth.sig.returnType = (Option.some FieldType.boolean)) (hlk : meth.locks = false) (hnm : meth.name = "readTest") {rec : Nat → (Int32 → hS → Prop) → hS → (Nat) → (Int32) → Prop} (hrec1 : ∀ (S : hS) (v0 : Nat) (v1 : Int32) (q : Int32 → hS → Prop), Met l yX5_readBoth (hws yX5_readBoth cX5_readBoth 4 (Option.some FieldType.boolean)) ({ frames := 7 + d, cells := 0, slots := 0, locals := 214 + 23 * d }) (hPc G B S [.ref v0, .int v1] (rec 1 q S v0 v1)) (hQ G B (iP q)) 0 0 (fun r => B ≤ r)) {q : Int32 → hS → Prop} (n : Nat) : ∀ {S : hS} {v0 : Nat} {v1 : Int32} {v2 : Int32} (hw : w_X5_readTest_b12 G.2.2.1 rec q n S v0 v1 v2), Z p l e R s m args below meth c (MQ below (hQ G B (iP q)) args s mc ms (fun r => B ≤ r)) G B mc ms 4 S 0 0 12 [some (.ref v0), some (.int v1), some (.int v2), none] [] := by
  induction n with
  | zero => intro S v0 v1 v2 hw; exact (by rw [w_X5_readTest_b12] at hw; exact hw.elim)
  | succ n ih =>
    intro S v0 v1 v2 hw
    rw [w_X5_readTest_b12] at hw
    refine z_iload_n hC dX5_readTest_12 rfl rfl ?_
    refine z_sipush hC si_400 dX5_readTest_13 ?_
    refine z_icmp_ge (tgt := 63) hC dX5_readTest_16 (by decide) (fun c16 => ?_) (fun c16 => ?_)
    · have hw := hw.1 c16
      refine z_iconst hC ic_1 dX5_readTest_63 ?_
      exact z_zret hC hr hlk (hz01 (Or.inr rfl)).1 dX5_readTest_64 ⟨_, rfl, hw⟩
    · have hw := hw.2 c16
      refine z_aload_n hC dX5_readTest_19 rfl rfl ?_
      refine z_ldcS hC 20 rfl dX5_readTest_20 ?_
      refine z_callV (ku' := 0) (kv' := 0) (n := 1) (As := [.ref (G.2.2.1 20)]) (st := []) hC (c_X5_takeWord l G B S v0 (G.2.2.1 20) _) hw.2 hw.1 rfl lk_942 lk_944 lk_19 lk_126 lk_945 hd_X5_takeWord rfl rfl (by show 6 + 1 ≤ _; omega) (by show 8 + (2 + 11) + 193 ≤ _; omega) rfl (Nat.le_of_ble_eq_true rfl) dX5_readTest_22 (Nat.le_refl 0) (Nat.le_refl 0) (kI (fun x22 S hw => ?_))
      refine z_if_eq (tgt := 63) hC dX5_readTest_25 (by decide) (fun c25 => ?_) (fun c25 => ?_)
      · have hw := hw.1 c25
        refine z_iconst hC ic_1 dX5_readTest_63 ?_
        exact z_zret hC hr hlk (hz01 (Or.inr rfl)).1 dX5_readTest_64 ⟨_, rfl, hw⟩
      · have hw := hw.2 c25
        refine z_aload_n hC dX5_readTest_28 rfl rfl ?_
        refine z_getP hC FX5 0 lk_378 dX5_readTest_29 (by decide) hw (fun x29 hw => ?_)
        refine z_bipush hC bi_11 dX5_readTest_32 ?_
        refine z_iconst hC ic_0 dX5_readTest_34 ?_
        refine z_callV (ku' := 0) (kv' := 0) (n := 2) (As := [.int 11, .int 0]) (st := []) hC (c_X10_add l G B S x29 11 0 _) hw.2 hw.1 rfl lk_895 lk_896 lk_897 lk_127 lk_898 hd_X10_add rfl rfl (by show 1 + 1 ≤ _; omega) (by show 8 + (4 + 11) + 60 ≤ _; omega) rfl (Nat.le_of_ble_eq_true rfl) dX5_readTest_35 (Nat.le_refl 0) (Nat.le_refl 0) (kI (fun x35 S hw => ?_))
        refine z_istore_n (i := 3) (lv' := [some (.ref v0), some (.int v1), some (.int v2), some (.int x35)]) hC rfl dX5_readTest_38 (by decide) (hok_v rfl rfl) rfl ?_
        refine z_aload_n hC dX5_readTest_39 rfl rfl ?_
        refine z_iload_n hC dX5_readTest_40 rfl rfl ?_
        refine z_callV (ku' := 0) (kv' := 0) (n := 1) (As := [.int v1]) (st := []) hC (hrec1 S v0 v1 _) hw.2 hw.1 rfl lk_950 lk_952 lk_21 lk_126 lk_953 hd_X5_readBoth rfl rfl (by show 7 + d + 1 ≤ _; omega) (by show 8 + (4 + 11) + (214 + 23 * d) ≤ _; omega) rfl (Nat.le_of_ble_eq_true rfl) dX5_readTest_41 (Nat.le_refl 0) (Nat.le_refl 0) (kI (fun x41 S hw => ?_))
        refine z_if_ne (tgt := 49) hC dX5_readTest_44 (by decide) (fun c44 => ?_) (fun c44 => ?_)
        · have hw := hw.1 c44
          refine z_aload_n hC dX5_readTest_49 rfl rfl ?_
          refine z_getP hC FX5 0 lk_378 dX5_readTest_50 (by decide) hw (fun x50 hw => ?_)
          refine z_iload_n hC dX5_readTest_53 rfl rfl ?_
          refine z_callV (ku' := 0) (kv' := 0) (n := 1) (As := [.int x35]) (st := []) hC (c_X10_landSkip l G B S x50 x35 _) hw.2 hw.1 rfl lk_968 lk_969 lk_970 lk_127 lk_971 hd_X10_landSkip rfl rfl (by show 1 + 1 ≤ _; omega) (by show 8 + (2 + 11) + 60 ≤ _; omega) rfl (Nat.le_of_ble_eq_true rfl) dX5_readTest_54 (Nat.le_refl 0) (Nat.le_refl 0) (kV (fun S hw => ?_))
          refine z_inc (i := 2) hC ic_1 dX5_readTest_57 rfl (by decide) (hok_v rfl rfl) (fun y57 e57 => ?_)
          have hw := hw y57 e57
          refine z_goto (tgt := 12) hC dX5_readTest_60 (by decide) ?_
          refine z_mask (lv' := [some (.ref v0), some (.int v1), some (.int y57), none]) [true, true, true, false] rfl ?_
          exact ih hw
        · have hw := hw.2 c44
          refine z_iconst hC ic_0 dX5_readTest_47 ?_
          exact z_zret hC hr hlk (hz01 (Or.inl rfl)).1 dX5_readTest_48 ⟨_, rfl, hw⟩
def wb_X5_readTest (tx : Nat → Nat) (rec : Nat → (Int32 → hS → Prop) → hS → (Nat) → (Int32) → Prop) (q : Int32 → hS → Prop) (S : hS) (v0 : Nat) (v1 : Int32) : Prop := oK S v0 5 ∧ rec 1 (fun x2 S => (¬ x2 = 0 → (∃ n12 : Nat, w_X5_readTest_b12 tx rec q n12 S v0 v1 0)) ∧ (x2 = 0 → q 0 S)) S v0 v1
set_option maxRecDepth 100000 in
set_option maxHeartbeats 4000000 in
theorem cb_X5_readTest (l : Launch) (G : hG) (B : Nat) {d : Nat} {rec : Nat → (Int32 → hS → Prop) → hS → (Nat) → (Int32) → Prop} (hrec1 : ∀ (S : hS) (v0 : Nat) (v1 : Int32) (q : Int32 → hS → Prop), Met l yX5_readBoth (hws yX5_readBoth cX5_readBoth 4 (Option.some FieldType.boolean)) ({ frames := 7 + d, cells := 0, slots := 0, locals := 214 + 23 * d }) (hPc G B S [.ref v0, .int v1] (rec 1 q S v0 v1)) (hQ G B (iP q)) 0 0 (fun r => B ≤ r)) (S : hS) (v0 : Nat) (v1 : Int32) (q : Int32 → hS → Prop) : Met l yX5_readTest (hws yX5_readTest cX5_readTest 4 (Option.some FieldType.boolean)) ({ frames := (7 + (d + 1)), cells := 0, slots := 0, locals := (214 + 23 * (d + 1)) }) (hPc G B S [.ref v0, .int v1] (wb_X5_readTest G.2.2.1 rec q S v0 v1)) (hQ G B (iP q)) (0) (0) (fun r => B ≤ r) := by
  refine hMet (rm := { frames := (7 + (d + 1)), cells := 0, slots := 0, locals := (214 + 23 * (d + 1)) }) (lv := [some (.ref v0), some (.int v1), none, none]) (own := RX5) (fr := (7 + (d + 1))) (lo := (214 + 23 * (d + 1))) (by decide) rfl rfl rfl (Nat.le_of_ble_eq_true rfl) rfl (fun hw p e R s m args below meth c hC hr hlk hnm => ?_)
  unfold wb_X5_readTest at hw
  refine z_aload_n hC dX5_readTest_0 rfl rfl ?_
  refine z_iload_n hC dX5_readTest_1 rfl rfl ?_
  refine z_callV (ku' := 0) (kv' := 0) (n := 1) (As := [.int v1]) (st := []) hC (hrec1 S v0 v1 _) hw.2 hw.1 rfl lk_950 lk_952 lk_21 lk_126 lk_953 hd_X5_readBoth rfl rfl (by show 7 + d + 1 ≤ _; omega) (by show 8 + (4 + 11) + (214 + 23 * d) ≤ _; omega) rfl (Nat.le_of_ble_eq_true rfl) dX5_readTest_2 (Nat.le_refl 0) (Nat.le_refl 0) (kI (fun x2 S hw => ?_))
  refine z_if_ne (tgt := 10) hC dX5_readTest_5 (by decide) (fun c5 => ?_) (fun c5 => ?_)
  · have hw := hw.1 c5
    refine z_iconst hC ic_0 dX5_readTest_10 ?_
    refine z_istore_n (i := 2) (lv' := [some (.ref v0), some (.int v1), some (.int 0), none]) hC rfl dX5_readTest_11 (by decide) (hok_v rfl rfl) rfl ?_
    refine z_mask (lv' := [some (.ref v0), some (.int v1), some (.int 0), none]) [true, true, true, false] rfl ?_
    obtain ⟨n12, hw⟩ := hw
    exact t_X5_readTest_b12 hC hr hlk hnm hrec1 n12 hw
  · have hw := hw.2 c5
    refine z_iconst hC ic_0 dX5_readTest_8 ?_
    exact z_zret hC hr hlk (hz01 (Or.inl rfl)).1 dX5_readTest_9 ⟨_, rfl, hw⟩
end
section
variable {p : Program} {l : Launch} {e : Env} {R : Room} {s : State} {m : MethodId} {args : Array Value} {below : List Frame} {meth : Method} {c : Code} {G : hG} {B mc ms : Nat}
def w_X5_readBoth_b12 (tx : Nat → Nat) (rec : Nat → (Int32 → hS → Prop) → hS → (Nat) → (Int32) → Prop) (q : Int32 → hS → Prop) : Nat → hS → (Nat) → (Int32) → (Int32) → Prop
  | 0, _, _, _, _ => False
  | n + 1, S, v0, v1, v2 => (400 ≤ v2 → q 1 S) ∧ (¬ 400 ≤ v2 → oK S v0 5 ∧ w_X5_takeWord tx (fun x22 S => (x22 = 0 → q 1 S) ∧ (¬ x22 = 0 → gP S v0 5 0 (fun x29 => oK S x29 10 ∧ w_X10_add (fun x35 S => oK S v0 5 ∧ rec 2 (fun x41 S => (¬ x41 = 0 → gP S v0 5 0 (fun x50 => oK S x50 10 ∧ w_X10_landSkip (fun S => ∀ y57 : Int32, y57 = v2 + 1 → w_X5_readBoth_b12 tx rec q n S v0 v1 y57) S x50 x35)) ∧ (x41 = 0 → q 0 S)) S v0 v1) S x29 12 0))) S v0 (tx 19))
set_option maxRecDepth 100000 in
set_option maxHeartbeats 4000000 in
theorem t_X5_readBoth_b12 {d : Nat} (hC : zC p R s m args c cX5_readBoth 4 RX5 G B mc ms (7 + (d + 1)) (214 + 23 * (d + 1))) (hr : meth.sig.returnType = (Option.some FieldType.boolean)) (hlk : meth.locks = false) (hnm : meth.name = "readBoth") {rec : Nat → (Int32 → hS → Prop) → hS → (Nat) → (Int32) → Prop} (hrec2 : ∀ (S : hS) (v0 : Nat) (v1 : Int32) (q : Int32 → hS → Prop), Met l yX5_readPlain (hws yX5_readPlain cX5_readPlain 4 (Option.some FieldType.boolean)) ({ frames := 7 + d, cells := 0, slots := 0, locals := 214 + 23 * d }) (hPc G B S [.ref v0, .int v1] (rec 2 q S v0 v1)) (hQ G B (iP q)) 0 0 (fun r => B ≤ r)) {q : Int32 → hS → Prop} (n : Nat) : ∀ {S : hS} {v0 : Nat} {v1 : Int32} {v2 : Int32} (hw : w_X5_readBoth_b12 G.2.2.1 rec q n S v0 v1 v2), Z p l e R s m args below meth c (MQ below (hQ G B (iP q)) args s mc ms (fun r => B ≤ r)) G B mc ms 4 S 0 0 12 [some (.ref v0), some (.int v1), some (.int v2), none] [] := by
  induction n with
  | zero => intro S v0 v1 v2 hw; exact (by rw [w_X5_readBoth_b12] at hw; exact hw.elim)
  | succ n ih =>
    intro S v0 v1 v2 hw
    rw [w_X5_readBoth_b12] at hw
    refine z_iload_n hC dX5_readBoth_12 rfl rfl ?_
    refine z_sipush hC si_400 dX5_readBoth_13 ?_
    refine z_icmp_ge (tgt := 63) hC dX5_readBoth_16 (by decide) (fun c16 => ?_) (fun c16 => ?_)
    · have hw := hw.1 c16
      refine z_iconst hC ic_1 dX5_readBoth_63 ?_
      exact z_zret hC hr hlk (hz01 (Or.inr rfl)).1 dX5_readBoth_64 ⟨_, rfl, hw⟩
    · have hw := hw.2 c16
      refine z_aload_n hC dX5_readBoth_19 rfl rfl ?_
      refine z_ldcS hC 19 rfl dX5_readBoth_20 ?_
      refine z_callV (ku' := 0) (kv' := 0) (n := 1) (As := [.ref (G.2.2.1 19)]) (st := []) hC (c_X5_takeWord l G B S v0 (G.2.2.1 19) _) hw.2 hw.1 rfl lk_942 lk_944 lk_19 lk_126 lk_945 hd_X5_takeWord rfl rfl (by show 6 + 1 ≤ _; omega) (by show 8 + (2 + 11) + 193 ≤ _; omega) rfl (Nat.le_of_ble_eq_true rfl) dX5_readBoth_22 (Nat.le_refl 0) (Nat.le_refl 0) (kI (fun x22 S hw => ?_))
      refine z_if_eq (tgt := 63) hC dX5_readBoth_25 (by decide) (fun c25 => ?_) (fun c25 => ?_)
      · have hw := hw.1 c25
        refine z_iconst hC ic_1 dX5_readBoth_63 ?_
        exact z_zret hC hr hlk (hz01 (Or.inr rfl)).1 dX5_readBoth_64 ⟨_, rfl, hw⟩
      · have hw := hw.2 c25
        refine z_aload_n hC dX5_readBoth_28 rfl rfl ?_
        refine z_getP hC FX5 0 lk_378 dX5_readBoth_29 (by decide) hw (fun x29 hw => ?_)
        refine z_bipush hC bi_12 dX5_readBoth_32 ?_
        refine z_iconst hC ic_0 dX5_readBoth_34 ?_
        refine z_callV (ku' := 0) (kv' := 0) (n := 2) (As := [.int 12, .int 0]) (st := []) hC (c_X10_add l G B S x29 12 0 _) hw.2 hw.1 rfl lk_895 lk_896 lk_897 lk_127 lk_898 hd_X10_add rfl rfl (by show 1 + 1 ≤ _; omega) (by show 8 + (4 + 11) + 60 ≤ _; omega) rfl (Nat.le_of_ble_eq_true rfl) dX5_readBoth_35 (Nat.le_refl 0) (Nat.le_refl 0) (kI (fun x35 S hw => ?_))
        refine z_istore_n (i := 3) (lv' := [some (.ref v0), some (.int v1), some (.int v2), some (.int x35)]) hC rfl dX5_readBoth_38 (by decide) (hok_v rfl rfl) rfl ?_
        refine z_aload_n hC dX5_readBoth_39 rfl rfl ?_
        refine z_iload_n hC dX5_readBoth_40 rfl rfl ?_
        refine z_callV (ku' := 0) (kv' := 0) (n := 1) (As := [.int v1]) (st := []) hC (hrec2 S v0 v1 _) hw.2 hw.1 rfl lk_954 lk_956 lk_22 lk_126 lk_957 hd_X5_readPlain rfl rfl (by show 7 + d + 1 ≤ _; omega) (by show 8 + (4 + 11) + (214 + 23 * d) ≤ _; omega) rfl (Nat.le_of_ble_eq_true rfl) dX5_readBoth_41 (Nat.le_refl 0) (Nat.le_refl 0) (kI (fun x41 S hw => ?_))
        refine z_if_ne (tgt := 49) hC dX5_readBoth_44 (by decide) (fun c44 => ?_) (fun c44 => ?_)
        · have hw := hw.1 c44
          refine z_aload_n hC dX5_readBoth_49 rfl rfl ?_
          refine z_getP hC FX5 0 lk_378 dX5_readBoth_50 (by decide) hw (fun x50 hw => ?_)
          refine z_iload_n hC dX5_readBoth_53 rfl rfl ?_
          refine z_callV (ku' := 0) (kv' := 0) (n := 1) (As := [.int x35]) (st := []) hC (c_X10_landSkip l G B S x50 x35 _) hw.2 hw.1 rfl lk_968 lk_969 lk_970 lk_127 lk_971 hd_X10_landSkip rfl rfl (by show 1 + 1 ≤ _; omega) (by show 8 + (2 + 11) + 60 ≤ _; omega) rfl (Nat.le_of_ble_eq_true rfl) dX5_readBoth_54 (Nat.le_refl 0) (Nat.le_refl 0) (kV (fun S hw => ?_))
          refine z_inc (i := 2) hC ic_1 dX5_readBoth_57 rfl (by decide) (hok_v rfl rfl) (fun y57 e57 => ?_)
          have hw := hw y57 e57
          refine z_goto (tgt := 12) hC dX5_readBoth_60 (by decide) ?_
          refine z_mask (lv' := [some (.ref v0), some (.int v1), some (.int y57), none]) [true, true, true, false] rfl ?_
          exact ih hw
        · have hw := hw.2 c44
          refine z_iconst hC ic_0 dX5_readBoth_47 ?_
          exact z_zret hC hr hlk (hz01 (Or.inl rfl)).1 dX5_readBoth_48 ⟨_, rfl, hw⟩
def wb_X5_readBoth (tx : Nat → Nat) (rec : Nat → (Int32 → hS → Prop) → hS → (Nat) → (Int32) → Prop) (q : Int32 → hS → Prop) (S : hS) (v0 : Nat) (v1 : Int32) : Prop := oK S v0 5 ∧ rec 2 (fun x2 S => (¬ x2 = 0 → (∃ n12 : Nat, w_X5_readBoth_b12 tx rec q n12 S v0 v1 0)) ∧ (x2 = 0 → q 0 S)) S v0 v1
set_option maxRecDepth 100000 in
set_option maxHeartbeats 4000000 in
theorem cb_X5_readBoth (l : Launch) (G : hG) (B : Nat) {d : Nat} {rec : Nat → (Int32 → hS → Prop) → hS → (Nat) → (Int32) → Prop} (hrec2 : ∀ (S : hS) (v0 : Nat) (v1 : Int32) (q : Int32 → hS → Prop), Met l yX5_readPlain (hws yX5_readPlain cX5_readPlain 4 (Option.some FieldType.boolean)) ({ frames := 7 + d, cells := 0, slots := 0, locals := 214 + 23 * d }) (hPc G B S [.ref v0, .int v1] (rec 2 q S v0 v1)) (hQ G B (iP q)) 0 0 (fun r => B ≤ r)) (S : hS) (v0 : Nat) (v1 : Int32) (q : Int32 → hS → Prop) : Met l yX5_readBoth (hws yX5_readBoth cX5_readBoth 4 (Option.some FieldType.boolean)) ({ frames := (7 + (d + 1)), cells := 0, slots := 0, locals := (214 + 23 * (d + 1)) }) (hPc G B S [.ref v0, .int v1] (wb_X5_readBoth G.2.2.1 rec q S v0 v1)) (hQ G B (iP q)) (0) (0) (fun r => B ≤ r) := by
  refine hMet (rm := { frames := (7 + (d + 1)), cells := 0, slots := 0, locals := (214 + 23 * (d + 1)) }) (lv := [some (.ref v0), some (.int v1), none, none]) (own := RX5) (fr := (7 + (d + 1))) (lo := (214 + 23 * (d + 1))) (by decide) rfl rfl rfl (Nat.le_of_ble_eq_true rfl) rfl (fun hw p e R s m args below meth c hC hr hlk hnm => ?_)
  unfold wb_X5_readBoth at hw
  refine z_aload_n hC dX5_readBoth_0 rfl rfl ?_
  refine z_iload_n hC dX5_readBoth_1 rfl rfl ?_
  refine z_callV (ku' := 0) (kv' := 0) (n := 1) (As := [.int v1]) (st := []) hC (hrec2 S v0 v1 _) hw.2 hw.1 rfl lk_954 lk_956 lk_22 lk_126 lk_957 hd_X5_readPlain rfl rfl (by show 7 + d + 1 ≤ _; omega) (by show 8 + (4 + 11) + (214 + 23 * d) ≤ _; omega) rfl (Nat.le_of_ble_eq_true rfl) dX5_readBoth_2 (Nat.le_refl 0) (Nat.le_refl 0) (kI (fun x2 S hw => ?_))
  refine z_if_ne (tgt := 10) hC dX5_readBoth_5 (by decide) (fun c5 => ?_) (fun c5 => ?_)
  · have hw := hw.1 c5
    refine z_iconst hC ic_0 dX5_readBoth_10 ?_
    refine z_istore_n (i := 2) (lv' := [some (.ref v0), some (.int v1), some (.int 0), none]) hC rfl dX5_readBoth_11 (by decide) (hok_v rfl rfl) rfl ?_
    refine z_mask (lv' := [some (.ref v0), some (.int v1), some (.int 0), none]) [true, true, true, false] rfl ?_
    obtain ⟨n12, hw⟩ := hw
    exact t_X5_readBoth_b12 hC hr hlk hnm hrec2 n12 hw
  · have hw := hw.2 c5
    refine z_iconst hC ic_0 dX5_readBoth_8 ?_
    exact z_zret hC hr hlk (hz01 (Or.inl rfl)).1 dX5_readBoth_9 ⟨_, rfl, hw⟩
end
