section
variable {p : Program} {l : Launch} {e : Env} {R : Room} {s : State} {m : MethodId} {args : Array Value} {below : List Frame} {meth : Method} {c : Code} {G : hG} {B mc ms : Nat}
def w_X12_next_b227 (q : hS → Prop) (K149 : hS → (Nat) → Prop) (S : hS) (v0 : Nat) (t0 : Int64) (t1 : Nat) : Prop := pJ S t1 12 17 t0 (fun S => gI S v0 12 15 (fun x232 => pI S v0 12 15 (x232 + 1) (fun S => K149 S v0)))
set_option maxRecDepth 100000 in
set_option maxHeartbeats 4000000 in
theorem t_X12_next_b227 (hC : zC p R s m args c cX12_next 1 RX12 G B mc ms 2 80) (hr : meth.sig.returnType = (Option.none : Option FieldType)) (hlk : meth.locks = false) (hnm : meth.name = "next") {q : hS → Prop} {K149 : hS → (Nat) → Prop} (hK149 : ∀ {S : hS} {v0 : Nat}, K149 S v0 → Z p l e R s m args below meth c (MQ below (hQ G B (vP q)) args s mc ms (fun r => B ≤ r)) G B mc ms 1 S 0 0 149 [some (.ref v0)] []) {S : hS} {v0 : Nat} {t0 : Int64} {t1 : Nat} (hw : w_X12_next_b227 q K149 S v0 t0 t1) : Z p l e R s m args below meth c (MQ below (hQ G B (vP q)) args s mc ms (fun r => B ≤ r)) G B mc ms 1 S 0 0 227 [some (.ref v0)] [.long t0, .ref t1] := by
  unfold w_X12_next_b227 at hw
  refine z_putJ hC FX12 17 lk_1372 dX12_next_227 (by decide) rfl rfl hw (fun S hw => ?_)
  refine z_aload_n hC dX12_next_230 rfl rfl ?_
  refine z_dup hC rfl dX12_next_231 ?_
  refine z_getI hC FX12 15 lk_1370 dX12_next_232 (by decide) hw (fun x232 hw => ?_)
  refine z_iconst hC ic_1 dX12_next_235 ?_
  refine z_iadd hC dX12_next_236 ?_
  refine z_putI hC FX12 15 lk_1370 dX12_next_237 (by decide) rfl rfl hw (fun S hw => ?_)
  refine z_goto (tgt := 149) hC dX12_next_240 (by decide) ?_
  refine z_mask (lv' := [some (.ref v0)]) [true] rfl ?_
  exact hK149 hw
def w_X12_next_b319 (q : hS → Prop) (K243 : hS → (Nat) → Prop) (S : hS) (v0 : Nat) (t0 : Int64) (t1 : Nat) : Prop := pJ S t1 12 17 t0 (fun S => gI S v0 12 15 (fun x324 => pI S v0 12 15 (x324 + 1) (fun S => K243 S v0)))
set_option maxRecDepth 100000 in
set_option maxHeartbeats 4000000 in
theorem t_X12_next_b319 (hC : zC p R s m args c cX12_next 1 RX12 G B mc ms 2 80) (hr : meth.sig.returnType = (Option.none : Option FieldType)) (hlk : meth.locks = false) (hnm : meth.name = "next") {q : hS → Prop} {K243 : hS → (Nat) → Prop} (hK243 : ∀ {S : hS} {v0 : Nat}, K243 S v0 → Z p l e R s m args below meth c (MQ below (hQ G B (vP q)) args s mc ms (fun r => B ≤ r)) G B mc ms 1 S 0 0 243 [some (.ref v0)] []) {S : hS} {v0 : Nat} {t0 : Int64} {t1 : Nat} (hw : w_X12_next_b319 q K243 S v0 t0 t1) : Z p l e R s m args below meth c (MQ below (hQ G B (vP q)) args s mc ms (fun r => B ≤ r)) G B mc ms 1 S 0 0 319 [some (.ref v0)] [.long t0, .ref t1] := by
  unfold w_X12_next_b319 at hw
  refine z_putJ hC FX12 17 lk_1372 dX12_next_319 (by decide) rfl rfl hw (fun S hw => ?_)
  refine z_aload_n hC dX12_next_322 rfl rfl ?_
  refine z_dup hC rfl dX12_next_323 ?_
  refine z_getI hC FX12 15 lk_1370 dX12_next_324 (by decide) hw (fun x324 hw => ?_)
  refine z_iconst hC ic_1 dX12_next_327 ?_
  refine z_iadd hC dX12_next_328 ?_
  refine z_putI hC FX12 15 lk_1370 dX12_next_329 (by decide) rfl rfl hw (fun S hw => ?_)
  refine z_goto (tgt := 243) hC dX12_next_332 (by decide) ?_
  refine z_mask (lv' := [some (.ref v0)]) [true] rfl ?_
  exact hK243 hw
def w_X12_next_b243 (q : hS → Prop) : Nat → hS → (Nat) → Prop
  | 0, _, _ => False
  | n + 1, S, v0 => gI S v0 12 16 (fun x244 => (¬ x244 = 2 → q S) ∧ (x244 = 2 → gI S v0 12 15 (fun x252 => gI S v0 12 13 (fun x256 => (x256 ≤ x252 → q S) ∧ (¬ x256 ≤ x252 → gP S v0 12 12 (fun x263 => gI S v0 12 15 (fun x267 => aI S x263 x267 (fun x270 => w_X12_isDigit (fun x271 S => (x271 = 0 → q S) ∧ (¬ x271 = 0 → gJ S v0 12 17 (fun x279 => ((lg_cmp x279 1000000) ≤ 0 → gJ S v0 12 17 (fun x297 => gP S v0 12 12 (fun x305 => gI S v0 12 15 (fun x309 => aI S x305 x309 (fun x312 => w_X12_next_b319 q (fun S v0 => w_X12_next_b243 q n S v0) S v0 (((x297 * 10) + (Int32.toInt64 x312)) - 48) v0))))) ∧ (¬ (lg_cmp x279 1000000) ≤ 0 → gJ S v0 12 17 (fun x290 => w_X12_next_b319 q (fun S v0 => w_X12_next_b243 q n S v0) S v0 x290 v0))))) S x270))))))))
set_option maxRecDepth 100000 in
set_option maxHeartbeats 4000000 in
theorem t_X12_next_b243 (hC : zC p R s m args c cX12_next 1 RX12 G B mc ms 2 80) (hr : meth.sig.returnType = (Option.none : Option FieldType)) (hlk : meth.locks = false) (hnm : meth.name = "next") {q : hS → Prop} (n : Nat) : ∀ {S : hS} {v0 : Nat} (hw : w_X12_next_b243 q n S v0), Z p l e R s m args below meth c (MQ below (hQ G B (vP q)) args s mc ms (fun r => B ≤ r)) G B mc ms 1 S 0 0 243 [some (.ref v0)] [] := by
  induction n with
  | zero => intro S v0 hw; exact (by rw [w_X12_next_b243] at hw; exact hw.elim)
  | succ n ih =>
    intro S v0 hw
    rw [w_X12_next_b243] at hw
    refine z_aload_n hC dX12_next_243 rfl rfl ?_
    refine z_getI hC FX12 16 lk_1371 dX12_next_244 (by decide) hw (fun x244 hw => ?_)
    refine z_iconst hC ic_2 dX12_next_247 ?_
    refine z_icmp_ne (tgt := 335) hC dX12_next_248 (by decide) (fun c248 => ?_) (fun c248 => ?_)
    · have hw := hw.1 c248
      exact z_vret hC hr hlk dX12_next_335 ⟨rfl, hw⟩
    · have hw := hw.2 c248
      refine z_aload_n hC dX12_next_251 rfl rfl ?_
      refine z_getI hC FX12 15 lk_1370 dX12_next_252 (by decide) hw (fun x252 hw => ?_)
      refine z_aload_n hC dX12_next_255 rfl rfl ?_
      refine z_getI hC FX12 13 lk_1368 dX12_next_256 (by decide) hw (fun x256 hw => ?_)
      refine z_icmp_ge (tgt := 335) hC dX12_next_259 (by decide) (fun c259 => ?_) (fun c259 => ?_)
      · have hw := hw.1 c259
        exact z_vret hC hr hlk dX12_next_335 ⟨rfl, hw⟩
      · have hw := hw.2 c259
        refine z_aload_n hC dX12_next_262 rfl rfl ?_
        refine z_getP hC FX12 12 lk_1367 dX12_next_263 (by decide) hw (fun x263 hw => ?_)
        refine z_aload_n hC dX12_next_266 rfl rfl ?_
        refine z_getI hC FX12 15 lk_1370 dX12_next_267 (by decide) hw (fun x267 hw => ?_)
        refine z_aldI hC dX12_next_270 hw (fun x270 hw => ?_)
        refine z_callS (ku' := 0) (kv' := 0) (n := 1) (As := [.int x270]) (st := []) hC (c_X12_isDigit l G B S x270 _) hw lk_1736 lk_1737 lk_133 lk_1738 hd_X12_isDigit rfl rfl (Nat.le_of_ble_eq_true rfl) (Nat.le_of_ble_eq_true rfl) rfl (Nat.le_of_ble_eq_true rfl) dX12_next_271 (Nat.le_refl 0) (Nat.le_refl 0) (kI (fun x271 S hw => ?_))
        refine z_if_eq (tgt := 335) hC dX12_next_274 (by decide) (fun c274 => ?_) (fun c274 => ?_)
        · have hw := hw.1 c274
          exact z_vret hC hr hlk dX12_next_335 ⟨rfl, hw⟩
        · have hw := hw.2 c274
          refine z_aload_n hC dX12_next_277 rfl rfl ?_
          refine z_aload_n hC dX12_next_278 rfl rfl ?_
          refine z_getJ hC FX12 17 lk_1372 dX12_next_279 (by decide) hw (fun x279 hw => ?_)
          refine z_ldc2 hC lk_1741 dX12_next_282 ?_
          refine z_lcmp hC dX12_next_285 ?_
          refine z_if_le (tgt := 296) hC dX12_next_286 (by decide) (fun c286 => ?_) (fun c286 => ?_)
          · have hw := hw.1 c286
            refine z_aload_n hC dX12_next_296 rfl rfl ?_
            refine z_getJ hC FX12 17 lk_1372 dX12_next_297 (by decide) hw (fun x297 hw => ?_)
            refine z_ldc2 hC lk_1596 dX12_next_300 ?_
            refine z_lmul hC dX12_next_303 ?_
            refine z_aload_n hC dX12_next_304 rfl rfl ?_
            refine z_getP hC FX12 12 lk_1367 dX12_next_305 (by decide) hw (fun x305 hw => ?_)
            refine z_aload_n hC dX12_next_308 rfl rfl ?_
            refine z_getI hC FX12 15 lk_1370 dX12_next_309 (by decide) hw (fun x309 hw => ?_)
            refine z_aldI hC dX12_next_312 hw (fun x312 hw => ?_)
            refine z_i2l hC rfl dX12_next_313 ?_
            refine z_ladd hC dX12_next_314 ?_
            refine z_ldc2 hC lk_1742 dX12_next_315 ?_
            refine z_lsub hC dX12_next_318 ?_
            refine z_mask (lv' := [some (.ref v0)]) [true] rfl ?_
            exact t_X12_next_b319 hC hr hlk hnm (fun hw => ih hw) hw
          · have hw := hw.2 c286
            refine z_aload_n hC dX12_next_289 rfl rfl ?_
            refine z_getJ hC FX12 17 lk_1372 dX12_next_290 (by decide) hw (fun x290 hw => ?_)
            refine z_goto (tgt := 319) hC dX12_next_293 (by decide) ?_
            refine z_mask (lv' := [some (.ref v0)]) [true] rfl ?_
            exact t_X12_next_b319 hC hr hlk hnm (fun hw => ih hw) hw
def w_X12_next_b149 (q : hS → Prop) : Nat → hS → (Nat) → Prop
  | 0, _, _ => False
  | n + 1, S, v0 => gI S v0 12 16 (fun x150 => (¬ x150 = 1 → (∃ n243 : Nat, w_X12_next_b243 q n243 S v0)) ∧ (x150 = 1 → gI S v0 12 15 (fun x158 => gI S v0 12 13 (fun x162 => (x162 ≤ x158 → (∃ n243 : Nat, w_X12_next_b243 q n243 S v0)) ∧ (¬ x162 ≤ x158 → gP S v0 12 12 (fun x169 => gI S v0 12 15 (fun x173 => aI S x169 x173 (fun x176 => w_X12_isSmall (fun x177 S => (x177 = 0 → (∃ n243 : Nat, w_X12_next_b243 q n243 S v0)) ∧ (¬ x177 = 0 → gI S v0 12 15 (fun x185 => gI S v0 12 14 (fun x189 => (10 ≤ (x185 - x189) → w_X12_next_b227 q (fun S v0 => w_X12_next_b149 q n S v0) S v0 (-1) v0) ∧ (¬ 10 ≤ (x185 - x189) → gJ S v0 12 17 (fun x199 => gP S v0 12 12 (fun x207 => gI S v0 12 15 (fun x211 => aI S x207 x211 (fun x214 => w_X12_next_b227 q (fun S v0 => w_X12_next_b149 q n S v0) S v0 (((x199 * 32) + (Int32.toInt64 x214)) - 96) v0))))))))) S x176))))))))
set_option maxRecDepth 100000 in
set_option maxHeartbeats 4000000 in
theorem t_X12_next_b149 (hC : zC p R s m args c cX12_next 1 RX12 G B mc ms 2 80) (hr : meth.sig.returnType = (Option.none : Option FieldType)) (hlk : meth.locks = false) (hnm : meth.name = "next") {q : hS → Prop} (n : Nat) : ∀ {S : hS} {v0 : Nat} (hw : w_X12_next_b149 q n S v0), Z p l e R s m args below meth c (MQ below (hQ G B (vP q)) args s mc ms (fun r => B ≤ r)) G B mc ms 1 S 0 0 149 [some (.ref v0)] [] := by
  induction n with
  | zero => intro S v0 hw; exact (by rw [w_X12_next_b149] at hw; exact hw.elim)
  | succ n ih =>
    intro S v0 hw
    rw [w_X12_next_b149] at hw
    refine z_aload_n hC dX12_next_149 rfl rfl ?_
    refine z_getI hC FX12 16 lk_1371 dX12_next_150 (by decide) hw (fun x150 hw => ?_)
    refine z_iconst hC ic_1 dX12_next_153 ?_
    refine z_icmp_ne (tgt := 243) hC dX12_next_154 (by decide) (fun c154 => ?_) (fun c154 => ?_)
    · have hw := hw.1 c154
      refine z_mask (lv' := [some (.ref v0)]) [true] rfl ?_
      obtain ⟨n243, hw⟩ := hw
      exact t_X12_next_b243 hC hr hlk hnm n243 hw
    · have hw := hw.2 c154
      refine z_aload_n hC dX12_next_157 rfl rfl ?_
      refine z_getI hC FX12 15 lk_1370 dX12_next_158 (by decide) hw (fun x158 hw => ?_)
      refine z_aload_n hC dX12_next_161 rfl rfl ?_
      refine z_getI hC FX12 13 lk_1368 dX12_next_162 (by decide) hw (fun x162 hw => ?_)
      refine z_icmp_ge (tgt := 243) hC dX12_next_165 (by decide) (fun c165 => ?_) (fun c165 => ?_)
      · have hw := hw.1 c165
        refine z_mask (lv' := [some (.ref v0)]) [true] rfl ?_
        obtain ⟨n243, hw⟩ := hw
        exact t_X12_next_b243 hC hr hlk hnm n243 hw
      · have hw := hw.2 c165
        refine z_aload_n hC dX12_next_168 rfl rfl ?_
        refine z_getP hC FX12 12 lk_1367 dX12_next_169 (by decide) hw (fun x169 hw => ?_)
        refine z_aload_n hC dX12_next_172 rfl rfl ?_
        refine z_getI hC FX12 15 lk_1370 dX12_next_173 (by decide) hw (fun x173 hw => ?_)
        refine z_aldI hC dX12_next_176 hw (fun x176 hw => ?_)
        refine z_callS (ku' := 0) (kv' := 0) (n := 1) (As := [.int x176]) (st := []) hC (c_X12_isSmall l G B S x176 _) hw lk_1733 lk_1734 lk_133 lk_1735 hd_X12_isSmall rfl rfl (Nat.le_of_ble_eq_true rfl) (Nat.le_of_ble_eq_true rfl) rfl (Nat.le_of_ble_eq_true rfl) dX12_next_177 (Nat.le_refl 0) (Nat.le_refl 0) (kI (fun x177 S hw => ?_))
        refine z_if_eq (tgt := 243) hC dX12_next_180 (by decide) (fun c180 => ?_) (fun c180 => ?_)
        · have hw := hw.1 c180
          refine z_mask (lv' := [some (.ref v0)]) [true] rfl ?_
          obtain ⟨n243, hw⟩ := hw
          exact t_X12_next_b243 hC hr hlk hnm n243 hw
        · have hw := hw.2 c180
          refine z_aload_n hC dX12_next_183 rfl rfl ?_
          refine z_aload_n hC dX12_next_184 rfl rfl ?_
          refine z_getI hC FX12 15 lk_1370 dX12_next_185 (by decide) hw (fun x185 hw => ?_)
          refine z_aload_n hC dX12_next_188 rfl rfl ?_
          refine z_getI hC FX12 14 lk_1369 dX12_next_189 (by decide) hw (fun x189 hw => ?_)
          refine z_isub hC dX12_next_192 ?_
          refine z_bipush hC bi_10 dX12_next_193 ?_
          refine z_icmp_ge (tgt := 224) hC dX12_next_195 (by decide) (fun c195 => ?_) (fun c195 => ?_)
          · have hw := hw.1 c195
            refine z_ldc2 hC lk_1601 dX12_next_224 ?_
            refine z_mask (lv' := [some (.ref v0)]) [true] rfl ?_
            exact t_X12_next_b227 hC hr hlk hnm (fun hw => ih hw) hw
          · have hw := hw.2 c195
            refine z_aload_n hC dX12_next_198 rfl rfl ?_
            refine z_getJ hC FX12 17 lk_1372 dX12_next_199 (by decide) hw (fun x199 hw => ?_)
            refine z_ldc2 hC lk_1739 dX12_next_202 ?_
            refine z_lmul hC dX12_next_205 ?_
            refine z_aload_n hC dX12_next_206 rfl rfl ?_
            refine z_getP hC FX12 12 lk_1367 dX12_next_207 (by decide) hw (fun x207 hw => ?_)
            refine z_aload_n hC dX12_next_210 rfl rfl ?_
            refine z_getI hC FX12 15 lk_1370 dX12_next_211 (by decide) hw (fun x211 hw => ?_)
            refine z_aldI hC dX12_next_214 hw (fun x214 hw => ?_)
            refine z_i2l hC rfl dX12_next_215 ?_
            refine z_ladd hC dX12_next_216 ?_
            refine z_ldc2 hC lk_1740 dX12_next_217 ?_
            refine z_lsub hC dX12_next_220 ?_
            refine z_goto (tgt := 227) hC dX12_next_221 (by decide) ?_
            refine z_mask (lv' := [some (.ref v0)]) [true] rfl ?_
            exact t_X12_next_b227 hC hr hlk hnm (fun hw => ih hw) hw
def w_X12_next_b114 (q : hS → Prop) (S : hS) (v0 : Nat) (t0 : Int32) (t1 : Nat) : Prop := pI S t1 12 16 t0 (fun S => gI S v0 12 16 (fun x118 => (¬ x118 = 3 → (∃ n149 : Nat, w_X12_next_b149 q n149 S v0)) ∧ (x118 = 3 → gP S v0 12 12 (fun x127 => gI S v0 12 14 (fun x131 => aI S x127 x131 (fun x134 => pJ S v0 12 17 (Int32.toInt64 x134) (fun S => gI S v0 12 15 (fun x141 => pI S v0 12 15 (x141 + 1) (fun S => (∃ n149 : Nat, w_X12_next_b149 q n149 S v0))))))))))
set_option maxRecDepth 100000 in
set_option maxHeartbeats 4000000 in
theorem t_X12_next_b114 (hC : zC p R s m args c cX12_next 1 RX12 G B mc ms 2 80) (hr : meth.sig.returnType = (Option.none : Option FieldType)) (hlk : meth.locks = false) (hnm : meth.name = "next") {q : hS → Prop} {S : hS} {v0 : Nat} {t0 : Int32} {t1 : Nat} (hw : w_X12_next_b114 q S v0 t0 t1) : Z p l e R s m args below meth c (MQ below (hQ G B (vP q)) args s mc ms (fun r => B ≤ r)) G B mc ms 1 S 0 0 114 [some (.ref v0)] [.int t0, .ref t1] := by
  unfold w_X12_next_b114 at hw
  refine z_putI hC FX12 16 lk_1371 dX12_next_114 (by decide) rfl rfl hw (fun S hw => ?_)
  refine z_aload_n hC dX12_next_117 rfl rfl ?_
  refine z_getI hC FX12 16 lk_1371 dX12_next_118 (by decide) hw (fun x118 hw => ?_)
  refine z_iconst hC ic_3 dX12_next_121 ?_
  refine z_icmp_ne (tgt := 149) hC dX12_next_122 (by decide) (fun c122 => ?_) (fun c122 => ?_)
  · have hw := hw.1 c122
    refine z_mask (lv' := [some (.ref v0)]) [true] rfl ?_
    obtain ⟨n149, hw⟩ := hw
    exact t_X12_next_b149 hC hr hlk hnm n149 hw
  · have hw := hw.2 c122
    refine z_aload_n hC dX12_next_125 rfl rfl ?_
    refine z_aload_n hC dX12_next_126 rfl rfl ?_
    refine z_getP hC FX12 12 lk_1367 dX12_next_127 (by decide) hw (fun x127 hw => ?_)
    refine z_aload_n hC dX12_next_130 rfl rfl ?_
    refine z_getI hC FX12 14 lk_1369 dX12_next_131 (by decide) hw (fun x131 hw => ?_)
    refine z_aldI hC dX12_next_134 hw (fun x134 hw => ?_)
    refine z_i2l hC rfl dX12_next_135 ?_
    refine z_putJ hC FX12 17 lk_1372 dX12_next_136 (by decide) rfl rfl hw (fun S hw => ?_)
    refine z_aload_n hC dX12_next_139 rfl rfl ?_
    refine z_dup hC rfl dX12_next_140 ?_
    refine z_getI hC FX12 15 lk_1370 dX12_next_141 (by decide) hw (fun x141 hw => ?_)
    refine z_iconst hC ic_1 dX12_next_144 ?_
    refine z_iadd hC dX12_next_145 ?_
    refine z_putI hC FX12 15 lk_1370 dX12_next_146 (by decide) rfl rfl hw (fun S hw => ?_)
    refine z_mask (lv' := [some (.ref v0)]) [true] rfl ?_
    obtain ⟨n149, hw⟩ := hw
    exact t_X12_next_b149 hC hr hlk hnm n149 hw
def w_X12_next_b46 (q : hS → Prop) (S : hS) (v0 : Nat) : Prop := gI S v0 12 14 (fun x48 => pI S v0 12 15 x48 (fun S => pJ S v0 12 17 0 (fun S => gI S v0 12 14 (fun x61 => gI S v0 12 13 (fun x65 => (¬ x61 = x65 → gP S v0 12 12 (fun x76 => gI S v0 12 14 (fun x80 => aI S x76 x80 (fun x83 => w_X12_isSmall (fun x84 S => (x84 = 0 → gP S v0 12 12 (fun x95 => gI S v0 12 14 (fun x99 => aI S x95 x99 (fun x102 => w_X12_isDigit (fun x103 S => (x103 = 0 → w_X12_next_b114 q S v0 3 v0) ∧ (¬ x103 = 0 → w_X12_next_b114 q S v0 2 v0)) S x102)))) ∧ (¬ x84 = 0 → w_X12_next_b114 q S v0 1 v0)) S x83)))) ∧ (x61 = x65 → w_X12_next_b114 q S v0 0 v0))))))
set_option maxRecDepth 100000 in
set_option maxHeartbeats 4000000 in
theorem t_X12_next_b46 (hC : zC p R s m args c cX12_next 1 RX12 G B mc ms 2 80) (hr : meth.sig.returnType = (Option.none : Option FieldType)) (hlk : meth.locks = false) (hnm : meth.name = "next") {q : hS → Prop} {S : hS} {v0 : Nat} (hw : w_X12_next_b46 q S v0) : Z p l e R s m args below meth c (MQ below (hQ G B (vP q)) args s mc ms (fun r => B ≤ r)) G B mc ms 1 S 0 0 46 [some (.ref v0)] [] := by
  unfold w_X12_next_b46 at hw
  refine z_aload_n hC dX12_next_46 rfl rfl ?_
  refine z_aload_n hC dX12_next_47 rfl rfl ?_
  refine z_getI hC FX12 14 lk_1369 dX12_next_48 (by decide) hw (fun x48 hw => ?_)
  refine z_putI hC FX12 15 lk_1370 dX12_next_51 (by decide) rfl rfl hw (fun S hw => ?_)
  refine z_aload_n hC dX12_next_54 rfl rfl ?_
  refine z_lconst hC lc_0 dX12_next_55 ?_
  refine z_putJ hC FX12 17 lk_1372 dX12_next_56 (by decide) rfl rfl hw (fun S hw => ?_)
  refine z_aload_n hC dX12_next_59 rfl rfl ?_
  refine z_aload_n hC dX12_next_60 rfl rfl ?_
  refine z_getI hC FX12 14 lk_1369 dX12_next_61 (by decide) hw (fun x61 hw => ?_)
  refine z_aload_n hC dX12_next_64 rfl rfl ?_
  refine z_getI hC FX12 13 lk_1368 dX12_next_65 (by decide) hw (fun x65 hw => ?_)
  refine z_icmp_ne (tgt := 75) hC dX12_next_68 (by decide) (fun c68 => ?_) (fun c68 => ?_)
  · have hw := hw.1 c68
    refine z_aload_n hC dX12_next_75 rfl rfl ?_
    refine z_getP hC FX12 12 lk_1367 dX12_next_76 (by decide) hw (fun x76 hw => ?_)
    refine z_aload_n hC dX12_next_79 rfl rfl ?_
    refine z_getI hC FX12 14 lk_1369 dX12_next_80 (by decide) hw (fun x80 hw => ?_)
    refine z_aldI hC dX12_next_83 hw (fun x83 hw => ?_)
    refine z_callS (ku' := 0) (kv' := 0) (n := 1) (As := [.int x83]) (st := [.ref v0]) hC (c_X12_isSmall l G B S x83 _) hw lk_1733 lk_1734 lk_133 lk_1735 hd_X12_isSmall rfl rfl (Nat.le_of_ble_eq_true rfl) (Nat.le_of_ble_eq_true rfl) rfl (Nat.le_of_ble_eq_true rfl) dX12_next_84 (Nat.le_refl 0) (Nat.le_refl 0) (kI (fun x84 S hw => ?_))
    refine z_if_eq (tgt := 94) hC dX12_next_87 (by decide) (fun c87 => ?_) (fun c87 => ?_)
    · have hw := hw.1 c87
      refine z_aload_n hC dX12_next_94 rfl rfl ?_
      refine z_getP hC FX12 12 lk_1367 dX12_next_95 (by decide) hw (fun x95 hw => ?_)
      refine z_aload_n hC dX12_next_98 rfl rfl ?_
      refine z_getI hC FX12 14 lk_1369 dX12_next_99 (by decide) hw (fun x99 hw => ?_)
      refine z_aldI hC dX12_next_102 hw (fun x102 hw => ?_)
      refine z_callS (ku' := 0) (kv' := 0) (n := 1) (As := [.int x102]) (st := [.ref v0]) hC (c_X12_isDigit l G B S x102 _) hw lk_1736 lk_1737 lk_133 lk_1738 hd_X12_isDigit rfl rfl (Nat.le_of_ble_eq_true rfl) (Nat.le_of_ble_eq_true rfl) rfl (Nat.le_of_ble_eq_true rfl) dX12_next_103 (Nat.le_refl 0) (Nat.le_refl 0) (kI (fun x103 S hw => ?_))
      refine z_if_eq (tgt := 113) hC dX12_next_106 (by decide) (fun c106 => ?_) (fun c106 => ?_)
      · have hw := hw.1 c106
        refine z_iconst hC ic_3 dX12_next_113 ?_
        refine z_mask (lv' := [some (.ref v0)]) [true] rfl ?_
        exact t_X12_next_b114 hC hr hlk hnm hw
      · have hw := hw.2 c106
        refine z_iconst hC ic_2 dX12_next_109 ?_
        refine z_goto (tgt := 114) hC dX12_next_110 (by decide) ?_
        refine z_mask (lv' := [some (.ref v0)]) [true] rfl ?_
        exact t_X12_next_b114 hC hr hlk hnm hw
    · have hw := hw.2 c87
      refine z_iconst hC ic_1 dX12_next_90 ?_
      refine z_goto (tgt := 114) hC dX12_next_91 (by decide) ?_
      refine z_mask (lv' := [some (.ref v0)]) [true] rfl ?_
      exact t_X12_next_b114 hC hr hlk hnm hw
  · have hw := hw.2 c68
    refine z_iconst hC ic_0 dX12_next_71 ?_
    refine z_goto (tgt := 114) hC dX12_next_72 (by decide) ?_
    refine z_mask (lv' := [some (.ref v0)]) [true] rfl ?_
    exact t_X12_next_b114 hC hr hlk hnm hw
def w_X12_next_b8 (q : hS → Prop) : Nat → hS → (Nat) → Prop
  | 0, _, _ => False
  | n + 1, S, v0 => gI S v0 12 14 (fun x9 => gI S v0 12 13 (fun x13 => (x13 ≤ x9 → w_X12_next_b46 q S v0) ∧ (¬ x13 ≤ x9 → gP S v0 12 12 (fun x20 => gI S v0 12 14 (fun x24 => aI S x20 x24 (fun x27 => (¬ x27 = 32 → w_X12_next_b46 q S v0) ∧ (x27 = 32 → gI S v0 12 14 (fun x35 => pI S v0 12 14 (x35 + 1) (fun S => w_X12_next_b8 q n S v0)))))))))
set_option maxRecDepth 100000 in
set_option maxHeartbeats 4000000 in
theorem t_X12_next_b8 (hC : zC p R s m args c cX12_next 1 RX12 G B mc ms 2 80) (hr : meth.sig.returnType = (Option.none : Option FieldType)) (hlk : meth.locks = false) (hnm : meth.name = "next") {q : hS → Prop} (n : Nat) : ∀ {S : hS} {v0 : Nat} (hw : w_X12_next_b8 q n S v0), Z p l e R s m args below meth c (MQ below (hQ G B (vP q)) args s mc ms (fun r => B ≤ r)) G B mc ms 1 S 0 0 8 [some (.ref v0)] [] := by
  induction n with
  | zero => intro S v0 hw; exact (by rw [w_X12_next_b8] at hw; exact hw.elim)
  | succ n ih =>
    intro S v0 hw
    rw [w_X12_next_b8] at hw
    refine z_aload_n hC dX12_next_8 rfl rfl ?_
    refine z_getI hC FX12 14 lk_1369 dX12_next_9 (by decide) hw (fun x9 hw => ?_)
    refine z_aload_n hC dX12_next_12 rfl rfl ?_
    refine z_getI hC FX12 13 lk_1368 dX12_next_13 (by decide) hw (fun x13 hw => ?_)
    refine z_icmp_ge (tgt := 46) hC dX12_next_16 (by decide) (fun c16 => ?_) (fun c16 => ?_)
    · have hw := hw.1 c16
      refine z_mask (lv' := [some (.ref v0)]) [true] rfl ?_
      exact t_X12_next_b46 hC hr hlk hnm hw
    · have hw := hw.2 c16
      refine z_aload_n hC dX12_next_19 rfl rfl ?_
      refine z_getP hC FX12 12 lk_1367 dX12_next_20 (by decide) hw (fun x20 hw => ?_)
      refine z_aload_n hC dX12_next_23 rfl rfl ?_
      refine z_getI hC FX12 14 lk_1369 dX12_next_24 (by decide) hw (fun x24 hw => ?_)
      refine z_aldI hC dX12_next_27 hw (fun x27 hw => ?_)
      refine z_bipush hC bi_32 dX12_next_28 ?_
      refine z_icmp_ne (tgt := 46) hC dX12_next_30 (by decide) (fun c30 => ?_) (fun c30 => ?_)
      · have hw := hw.1 c30
        refine z_mask (lv' := [some (.ref v0)]) [true] rfl ?_
        exact t_X12_next_b46 hC hr hlk hnm hw
      · have hw := hw.2 c30
        refine z_aload_n hC dX12_next_33 rfl rfl ?_
        refine z_dup hC rfl dX12_next_34 ?_
        refine z_getI hC FX12 14 lk_1369 dX12_next_35 (by decide) hw (fun x35 hw => ?_)
        refine z_iconst hC ic_1 dX12_next_38 ?_
        refine z_iadd hC dX12_next_39 ?_
        refine z_putI hC FX12 14 lk_1369 dX12_next_40 (by decide) rfl rfl hw (fun S hw => ?_)
        refine z_goto (tgt := 8) hC dX12_next_43 (by decide) ?_
        refine z_mask (lv' := [some (.ref v0)]) [true] rfl ?_
        exact ih hw
def w_X12_next (q : hS → Prop) (S : hS) (v0 : Nat) : Prop := gI S v0 12 15 (fun x2 => pI S v0 12 14 x2 (fun S => (∃ n8 : Nat, w_X12_next_b8 q n8 S v0)))
set_option maxRecDepth 100000 in
set_option maxHeartbeats 4000000 in
theorem c_X12_next (l : Launch) (G : hG) (B : Nat) (S : hS) (v0 : Nat) (q : hS → Prop) : Met l yX12_next (hws yX12_next cX12_next 1 (Option.none : Option FieldType)) ({ frames := 2, cells := 0, slots := 0, locals := 80 }) (hPc G B S [.ref v0] (w_X12_next q S v0)) (hQ G B (vP q)) (0) (0) (fun r => B ≤ r) := by
  refine hMet (rm := { frames := 2, cells := 0, slots := 0, locals := 80 }) (lv := [some (.ref v0)]) (own := RX12) (fr := 2) (lo := 80) (by decide) rfl rfl rfl (Nat.le_of_ble_eq_true rfl) rfl (fun hw p e R s m args below meth c hC hr hlk hnm => ?_)
  unfold w_X12_next at hw
  refine z_aload_n hC dX12_next_0 rfl rfl ?_
  refine z_aload_n hC dX12_next_1 rfl rfl ?_
  refine z_getI hC FX12 15 lk_1370 dX12_next_2 (by decide) hw (fun x2 hw => ?_)
  refine z_putI hC FX12 14 lk_1369 dX12_next_5 (by decide) rfl rfl hw (fun S hw => ?_)
  refine z_mask (lv' := [some (.ref v0)]) [true] rfl ?_
  obtain ⟨n8, hw⟩ := hw
  exact t_X12_next_b8 hC hr hlk hnm n8 hw
end
section
variable {p : Program} {l : Launch} {e : Env} {R : Room} {s : State} {m : MethodId} {args : Array Value} {below : List Frame} {meth : Method} {c : Code} {G : hG} {B mc ms : Nat}
def w_X12_begin (q : hS → Prop) (S : hS) (v0 : Nat) : Prop := pI S v0 12 15 0 (fun S => pZ S v0 12 19 0 (fun S => pI S v0 12 18 (-1) (fun S => oK S v0 12 ∧ w_X12_next (fun S => q S) S v0)))
set_option maxRecDepth 100000 in
set_option maxHeartbeats 4000000 in
theorem c_X12_begin (l : Launch) (G : hG) (B : Nat) (S : hS) (v0 : Nat) (q : hS → Prop) : Met l yX12_begin (hws yX12_begin cX12_begin 1 (Option.none : Option FieldType)) ({ frames := 3, cells := 0, slots := 0, locals := 100 }) (hPc G B S [.ref v0] (w_X12_begin q S v0)) (hQ G B (vP q)) (0) (0) (fun r => B ≤ r) := by
  refine hMet (rm := { frames := 3, cells := 0, slots := 0, locals := 100 }) (lv := [some (.ref v0)]) (own := RX12) (fr := 3) (lo := 100) (by decide) rfl rfl rfl (Nat.le_of_ble_eq_true rfl) rfl (fun hw p e R s m args below meth c hC hr hlk hnm => ?_)
  unfold w_X12_begin at hw
  refine z_aload_n hC dX12_begin_0 rfl rfl ?_
  refine z_iconst hC ic_0 dX12_begin_1 ?_
  refine z_putI hC FX12 15 lk_1370 dX12_begin_2 (by decide) rfl rfl hw (fun S hw => ?_)
  refine z_aload_n hC dX12_begin_5 rfl rfl ?_
  refine z_iconst hC ic_0 dX12_begin_6 ?_
  refine z_putZ hC FX12 19 lk_1374 dX12_begin_7 (by decide) rfl rfl hw (fun S hw => ?_)
  refine z_aload_n hC dX12_begin_10 rfl rfl ?_
  refine z_iconst hC ic_m1 dX12_begin_11 ?_
  refine z_putI hC FX12 18 lk_1373 dX12_begin_12 (by decide) rfl rfl hw (fun S hw => ?_)
  refine z_aload_n hC dX12_begin_15 rfl rfl ?_
  refine z_callV (ku' := 0) (kv' := 0) (n := 0) (As := []) (st := []) hC (c_X12_next l G B S v0 _) hw.2 hw.1 rfl lk_1729 lk_1731 lk_65 lk_133 lk_1732 hd_X12_next rfl rfl (Nat.le_of_ble_eq_true rfl) (Nat.le_of_ble_eq_true rfl) rfl (Nat.le_of_ble_eq_true rfl) dX12_begin_16 (Nat.le_refl 0) (Nat.le_refl 0) (kV (fun S hw => ?_))
  exact z_vret hC hr hlk dX12_begin_19 ⟨rfl, hw⟩
end
section
variable {p : Program} {l : Launch} {e : Env} {R : Room} {s : State} {m : MethodId} {args : Array Value} {below : List Frame} {meth : Method} {c : Code} {G : hG} {B mc ms : Nat}
def w_X12_isWord (q : Int32 → hS → Prop) (S : hS) (v0 : Nat) (v1 : Int64) : Prop := gI S v0 12 16 (fun x1 => (¬ x1 = 1 → q 0 S) ∧ (x1 = 1 → gJ S v0 12 17 (fun x9 => (¬ (lg_cmp x9 v1) = 0 → q 0 S) ∧ ((lg_cmp x9 v1) = 0 → q 1 S))))
set_option maxRecDepth 100000 in
set_option maxHeartbeats 4000000 in
theorem c_X12_isWord (l : Launch) (G : hG) (B : Nat) (S : hS) (v0 : Nat) (v1 : Int64) (q : Int32 → hS → Prop) : Met l yX12_isWord (hws yX12_isWord cX12_isWord 3 (Option.some FieldType.boolean)) ({ frames := 1, cells := 0, slots := 0, locals := 60 }) (hPc G B S [.ref v0, .long v1] (w_X12_isWord q S v0 v1)) (hQ G B (iP q)) (0) (0) (fun r => B ≤ r) := by
  refine hMet (rm := { frames := 1, cells := 0, slots := 0, locals := 60 }) (lv := [some (.ref v0), some (.long v1), none]) (own := RX12) (fr := 1) (lo := 60) (by decide) rfl rfl rfl (Nat.le_of_ble_eq_true rfl) rfl (fun hw p e R s m args below meth c hC hr hlk hnm => ?_)
  unfold w_X12_isWord at hw
  refine z_aload_n hC dX12_isWord_0 rfl rfl ?_
  refine z_getI hC FX12 16 lk_1371 dX12_isWord_1 (by decide) hw (fun x1 hw => ?_)
  refine z_iconst hC ic_1 dX12_isWord_4 ?_
  refine z_icmp_ne (tgt := 21) hC dX12_isWord_5 (by decide) (fun c5 => ?_) (fun c5 => ?_)
  · have hw := hw.1 c5
    refine z_iconst hC ic_0 dX12_isWord_21 ?_
    exact z_zret hC hr hlk (hz01 (Or.inl rfl)).1 dX12_isWord_22 ⟨_, rfl, hw⟩
  · have hw := hw.2 c5
    refine z_aload_n hC dX12_isWord_8 rfl rfl ?_
    refine z_getJ hC FX12 17 lk_1372 dX12_isWord_9 (by decide) hw (fun x9 hw => ?_)
    refine z_lload_n hC dX12_isWord_12 rfl rfl ?_
    refine z_lcmp hC dX12_isWord_13 ?_
    refine z_if_ne (tgt := 21) hC dX12_isWord_14 (by decide) (fun c14 => ?_) (fun c14 => ?_)
    · have hw := hw.1 c14
      refine z_iconst hC ic_0 dX12_isWord_21 ?_
      exact z_zret hC hr hlk (hz01 (Or.inl rfl)).1 dX12_isWord_22 ⟨_, rfl, hw⟩
    · have hw := hw.2 c14
      refine z_iconst hC ic_1 dX12_isWord_17 ?_
      refine z_goto (tgt := 22) hC dX12_isWord_18 (by decide) ?_
      exact z_zret hC hr hlk (hz01 (Or.inr rfl)).1 dX12_isWord_22 ⟨_, rfl, hw⟩
end
section
variable {p : Program} {l : Launch} {e : Env} {R : Room} {s : State} {m : MethodId} {args : Array Value} {below : List Frame} {meth : Method} {c : Code} {G : hG} {B mc ms : Nat}
def w_X12_isSign (q : Int32 → hS → Prop) (S : hS) (v0 : Nat) (v1 : Int32) : Prop := gI S v0 12 16 (fun x1 => (¬ x1 = 3 → q 0 S) ∧ (x1 = 3 → gJ S v0 12 17 (fun x9 => (¬ (lg_cmp x9 (Int32.toInt64 v1)) = 0 → q 0 S) ∧ ((lg_cmp x9 (Int32.toInt64 v1)) = 0 → q 1 S))))
set_option maxRecDepth 100000 in
set_option maxHeartbeats 4000000 in
theorem c_X12_isSign (l : Launch) (G : hG) (B : Nat) (S : hS) (v0 : Nat) (v1 : Int32) (q : Int32 → hS → Prop) : Met l yX12_isSign (hws yX12_isSign cX12_isSign 2 (Option.some FieldType.boolean)) ({ frames := 1, cells := 0, slots := 0, locals := 60 }) (hPc G B S [.ref v0, .int v1] (w_X12_isSign q S v0 v1)) (hQ G B (iP q)) (0) (0) (fun r => B ≤ r) := by
  refine hMet (rm := { frames := 1, cells := 0, slots := 0, locals := 60 }) (lv := [some (.ref v0), some (.int v1)]) (own := RX12) (fr := 1) (lo := 60) (by decide) rfl rfl rfl (Nat.le_of_ble_eq_true rfl) rfl (fun hw p e R s m args below meth c hC hr hlk hnm => ?_)
  unfold w_X12_isSign at hw
  refine z_aload_n hC dX12_isSign_0 rfl rfl ?_
  refine z_getI hC FX12 16 lk_1371 dX12_isSign_1 (by decide) hw (fun x1 hw => ?_)
  refine z_iconst hC ic_3 dX12_isSign_4 ?_
  refine z_icmp_ne (tgt := 22) hC dX12_isSign_5 (by decide) (fun c5 => ?_) (fun c5 => ?_)
  · have hw := hw.1 c5
    refine z_iconst hC ic_0 dX12_isSign_22 ?_
    exact z_zret hC hr hlk (hz01 (Or.inl rfl)).1 dX12_isSign_23 ⟨_, rfl, hw⟩
  · have hw := hw.2 c5
    refine z_aload_n hC dX12_isSign_8 rfl rfl ?_
    refine z_getJ hC FX12 17 lk_1372 dX12_isSign_9 (by decide) hw (fun x9 hw => ?_)
    refine z_iload_n hC dX12_isSign_12 rfl rfl ?_
    refine z_i2l hC rfl dX12_isSign_13 ?_
    refine z_lcmp hC dX12_isSign_14 ?_
    refine z_if_ne (tgt := 22) hC dX12_isSign_15 (by decide) (fun c15 => ?_) (fun c15 => ?_)
    · have hw := hw.1 c15
      refine z_iconst hC ic_0 dX12_isSign_22 ?_
      exact z_zret hC hr hlk (hz01 (Or.inl rfl)).1 dX12_isSign_23 ⟨_, rfl, hw⟩
    · have hw := hw.2 c15
      refine z_iconst hC ic_1 dX12_isSign_18 ?_
      refine z_goto (tgt := 23) hC dX12_isSign_19 (by decide) ?_
      exact z_zret hC hr hlk (hz01 (Or.inr rfl)).1 dX12_isSign_23 ⟨_, rfl, hw⟩
end
section
variable {p : Program} {l : Launch} {e : Env} {R : Room} {s : State} {m : MethodId} {args : Array Value} {below : List Frame} {meth : Method} {c : Code} {G : hG} {B mc ms : Nat}
def w_X12_must_b24 (q : hS → Prop) (S : hS) (v0 : Nat) : Prop := gI S v0 12 19 (fun x25 => (¬ x25 = 0 → q S) ∧ (x25 = 0 → oK S v0 12 ∧ w_X12_next (fun S => q S) S v0))
set_option maxRecDepth 100000 in
set_option maxHeartbeats 4000000 in
theorem t_X12_must_b24 (hC : zC p R s m args c cX12_must 2 RX12 G B mc ms 3 100) (hr : meth.sig.returnType = (Option.none : Option FieldType)) (hlk : meth.locks = false) (hnm : meth.name = "must") {q : hS → Prop} {S : hS} {v0 : Nat} (hw : w_X12_must_b24 q S v0) : Z p l e R s m args below meth c (MQ below (hQ G B (vP q)) args s mc ms (fun r => B ≤ r)) G B mc ms 2 S 0 0 24 [some (.ref v0), none] [] := by
  unfold w_X12_must_b24 at hw
  refine z_aload_n hC dX12_must_24 rfl rfl ?_
  refine z_getI hC FX12 19 lk_1374 dX12_must_25 (by decide) hw (fun x25 hw => ?_)
  refine z_if_ne (tgt := 35) hC dX12_must_28 (by decide) (fun c28 => ?_) (fun c28 => ?_)
  · have hw := hw.1 c28
    exact z_vret hC hr hlk dX12_must_35 ⟨rfl, hw⟩
  · have hw := hw.2 c28
    refine z_aload_n hC dX12_must_31 rfl rfl ?_
    refine z_callV (ku' := 0) (kv' := 0) (n := 0) (As := []) (st := []) hC (c_X12_next l G B S v0 _) hw.2 hw.1 rfl lk_1729 lk_1731 lk_65 lk_133 lk_1732 hd_X12_next rfl rfl (Nat.le_of_ble_eq_true rfl) (Nat.le_of_ble_eq_true rfl) rfl (Nat.le_of_ble_eq_true rfl) dX12_must_32 (Nat.le_refl 0) (Nat.le_refl 0) (kV (fun S hw => ?_))
    exact z_vret hC hr hlk dX12_must_35 ⟨rfl, hw⟩
def w_X12_must (q : hS → Prop) (S : hS) (v0 : Nat) (v1 : Int32) : Prop := gI S v0 12 19 (fun x1 => (¬ x1 = 0 → w_X12_must_b24 q S v0) ∧ (x1 = 0 → (¬ v1 = 0 → w_X12_must_b24 q S v0) ∧ (v1 = 0 → pZ S v0 12 19 1 (fun S => gI S v0 12 14 (fun x18 => pI S v0 12 18 x18 (fun S => w_X12_must_b24 q S v0))))))
set_option maxRecDepth 100000 in
set_option maxHeartbeats 4000000 in
theorem c_X12_must (l : Launch) (G : hG) (B : Nat) (S : hS) (v0 : Nat) (v1 : Int32) (q : hS → Prop) : Met l yX12_must (hws yX12_must cX12_must 2 (Option.none : Option FieldType)) ({ frames := 3, cells := 0, slots := 0, locals := 100 }) (hPc G B S [.ref v0, .int v1] (w_X12_must q S v0 v1)) (hQ G B (vP q)) (0) (0) (fun r => B ≤ r) := by
  refine hMet (rm := { frames := 3, cells := 0, slots := 0, locals := 100 }) (lv := [some (.ref v0), some (.int v1)]) (own := RX12) (fr := 3) (lo := 100) (by decide) rfl rfl rfl (Nat.le_of_ble_eq_true rfl) rfl (fun hw p e R s m args below meth c hC hr hlk hnm => ?_)
  unfold w_X12_must at hw
  refine z_aload_n hC dX12_must_0 rfl rfl ?_
  refine z_getI hC FX12 19 lk_1374 dX12_must_1 (by decide) hw (fun x1 hw => ?_)
  refine z_if_ne (tgt := 24) hC dX12_must_4 (by decide) (fun c4 => ?_) (fun c4 => ?_)
  · have hw := hw.1 c4
    refine z_mask (lv' := [some (.ref v0), none]) [true, false] rfl ?_
    exact t_X12_must_b24 hC hr hlk hnm hw
  · have hw := hw.2 c4
    refine z_iload_n hC dX12_must_7 rfl rfl ?_
    refine z_if_ne (tgt := 24) hC dX12_must_8 (by decide) (fun c8 => ?_) (fun c8 => ?_)
    · have hw := hw.1 c8
      refine z_mask (lv' := [some (.ref v0), none]) [true, false] rfl ?_
      exact t_X12_must_b24 hC hr hlk hnm hw
    · have hw := hw.2 c8
      refine z_aload_n hC dX12_must_11 rfl rfl ?_
      refine z_iconst hC ic_1 dX12_must_12 ?_
      refine z_putZ hC FX12 19 lk_1374 dX12_must_13 (by decide) rfl rfl hw (fun S hw => ?_)
      refine z_aload_n hC dX12_must_16 rfl rfl ?_
      refine z_aload_n hC dX12_must_17 rfl rfl ?_
      refine z_getI hC FX12 14 lk_1369 dX12_must_18 (by decide) hw (fun x18 hw => ?_)
      refine z_putI hC FX12 18 lk_1373 dX12_must_21 (by decide) rfl rfl hw (fun S hw => ?_)
      refine z_mask (lv' := [some (.ref v0), none]) [true, false] rfl ?_
      exact t_X12_must_b24 hC hr hlk hnm hw
end
section
variable {p : Program} {l : Launch} {e : Env} {R : Room} {s : State} {m : MethodId} {args : Array Value} {below : List Frame} {meth : Method} {c : Code} {G : hG} {B mc ms : Nat}
def w_X12_number_b33 (q : Int32 → hS → Prop) (S : hS) (v5 : Int32) (t0 : Int32) (t1 : Nat) : Prop := oK S t1 12 ∧ w_X12_must (fun S => q v5 S) S t1 t0
set_option maxRecDepth 100000 in
set_option maxHeartbeats 4000000 in
theorem t_X12_number_b33 (hC : zC p R s m args c cX12_number 6 RX12 G B mc ms 4 121) (hr : meth.sig.returnType = (Option.some FieldType.int)) (hlk : meth.locks = false) (hnm : meth.name = "number") {q : Int32 → hS → Prop} {S : hS} {v5 : Int32} {t0 : Int32} {t1 : Nat} (hw : w_X12_number_b33 q S v5 t0 t1) : Z p l e R s m args below meth c (MQ below (hQ G B (iP q)) args s mc ms (fun r => B ≤ r)) G B mc ms 6 S 0 0 33 [none, none, none, none, none, some (.int v5)] [.int t0, .ref t1] := by
  unfold w_X12_number_b33 at hw
  refine z_callV (ku' := 0) (kv' := 0) (n := 1) (As := [.int t0]) (st := []) hC (c_X12_must l G B S t1 t0 _) hw.2 hw.1 rfl lk_1751 lk_1753 lk_68 lk_133 lk_1754 hd_X12_must rfl rfl (Nat.le_of_ble_eq_true rfl) (Nat.le_of_ble_eq_true rfl) rfl (Nat.le_of_ble_eq_true rfl) dX12_number_33 (Nat.le_refl 0) (Nat.le_refl 0) (kV (fun S hw => ?_))
  refine z_iload hC dX12_number_36 rfl ?_
  exact z_iret hC hr hlk dX12_number_38 ⟨_, rfl, hw⟩
def w_X12_number_b32 (q : Int32 → hS → Prop) (S : hS) (v5 : Int32) (t0 : Nat) : Prop := w_X12_number_b33 q S v5 0 t0
set_option maxRecDepth 100000 in
set_option maxHeartbeats 4000000 in
theorem t_X12_number_b32 (hC : zC p R s m args c cX12_number 6 RX12 G B mc ms 4 121) (hr : meth.sig.returnType = (Option.some FieldType.int)) (hlk : meth.locks = false) (hnm : meth.name = "number") {q : Int32 → hS → Prop} {S : hS} {v5 : Int32} {t0 : Nat} (hw : w_X12_number_b32 q S v5 t0) : Z p l e R s m args below meth c (MQ below (hQ G B (iP q)) args s mc ms (fun r => B ≤ r)) G B mc ms 6 S 0 0 32 [none, none, none, none, none, some (.int v5)] [.ref t0] := by
  unfold w_X12_number_b32 at hw
  refine z_iconst hC ic_0 dX12_number_32 ?_
  refine z_mask (lv' := [none, none, none, none, none, some (.int v5)]) [false, false, false, false, false, true] rfl ?_
  exact t_X12_number_b33 hC hr hlk hnm hw
def w_X12_number (q : Int32 → hS → Prop) (S : hS) (v0 : Nat) (v1 : Int64) (v3 : Int64) : Prop := gJ S v0 12 17 (fun x1 => ∀ y5 : Int32, y5 = (Int64.toInt32 x1) → gI S v0 12 16 (fun x9 => (¬ x9 = 2 → w_X12_number_b32 q S y5 v0) ∧ (x9 = 2 → gJ S v0 12 17 (fun x17 => w_X12_in (fun x22 S => (x22 = 0 → w_X12_number_b32 q S y5 v0) ∧ (¬ x22 = 0 → w_X12_number_b33 q S y5 1 v0)) S x17 v1 v3))))
set_option maxRecDepth 100000 in
set_option maxHeartbeats 4000000 in
theorem c_X12_number (l : Launch) (G : hG) (B : Nat) (S : hS) (v0 : Nat) (v1 : Int64) (v3 : Int64) (q : Int32 → hS → Prop) : Met l yX12_number (hws yX12_number cX12_number 6 (Option.some FieldType.int)) ({ frames := 4, cells := 0, slots := 0, locals := 121 }) (hPc G B S [.ref v0, .long v1, .long v3] (w_X12_number q S v0 v1 v3)) (hQ G B (iP q)) (0) (0) (fun r => B ≤ r) := by
  refine hMet (rm := { frames := 4, cells := 0, slots := 0, locals := 121 }) (lv := [some (.ref v0), some (.long v1), none, some (.long v3), none, none]) (own := RX12) (fr := 4) (lo := 121) (by decide) rfl rfl rfl (Nat.le_of_ble_eq_true rfl) rfl (fun hw p e R s m args below meth c hC hr hlk hnm => ?_)
  unfold w_X12_number at hw
  refine z_aload_n hC dX12_number_0 rfl rfl ?_
  refine z_getJ hC FX12 17 lk_1372 dX12_number_1 (by decide) hw (fun x1 hw => ?_)
  refine z_l2i hC rfl dX12_number_4 ?_
  refine z_nmI (fun y5 e5 => ?_)
  have hw := hw y5 e5
  refine z_istore (i := 5) (lv' := [some (.ref v0), some (.long v1), none, some (.long v3), none, some (.int y5)]) hC dX12_number_5 (by decide) (hok_n rfl) rfl ?_
  refine z_aload_n hC dX12_number_7 rfl rfl ?_
  refine z_aload_n hC dX12_number_8 rfl rfl ?_
  refine z_getI hC FX12 16 lk_1371 dX12_number_9 (by decide) hw (fun x9 hw => ?_)
  refine z_iconst hC ic_2 dX12_number_12 ?_
  refine z_icmp_ne (tgt := 32) hC dX12_number_13 (by decide) (fun c13 => ?_) (fun c13 => ?_)
  · have hw := hw.1 c13
    refine z_mask (lv' := [none, none, none, none, none, some (.int y5)]) [false, false, false, false, false, true] rfl ?_
    exact t_X12_number_b32 hC hr hlk hnm hw
  · have hw := hw.2 c13
    refine z_aload_n hC dX12_number_16 rfl rfl ?_
    refine z_getJ hC FX12 17 lk_1372 dX12_number_17 (by decide) hw (fun x17 hw => ?_)
    refine z_lload_n hC dX12_number_20 rfl rfl ?_
    refine z_lload_n hC dX12_number_21 rfl rfl ?_
    refine z_callS (ku' := 0) (kv' := 0) (n := 3) (As := [.long x17, .long v1, .long v3]) (st := [.ref v0]) hC (c_X12_in l G B S x17 v1 v3 _) hw lk_1556 lk_1557 lk_133 lk_1558 hd_X12_in rfl rfl (Nat.le_of_ble_eq_true rfl) (Nat.le_of_ble_eq_true rfl) rfl (Nat.le_of_ble_eq_true rfl) dX12_number_22 (Nat.le_refl 0) (Nat.le_refl 0) (kI (fun x22 S hw => ?_))
    refine z_if_eq (tgt := 32) hC dX12_number_25 (by decide) (fun c25 => ?_) (fun c25 => ?_)
    · have hw := hw.1 c25
      refine z_mask (lv' := [none, none, none, none, none, some (.int y5)]) [false, false, false, false, false, true] rfl ?_
      exact t_X12_number_b32 hC hr hlk hnm hw
    · have hw := hw.2 c25
      refine z_iconst hC ic_1 dX12_number_28 ?_
      refine z_goto (tgt := 33) hC dX12_number_29 (by decide) ?_
      refine z_mask (lv' := [none, none, none, none, none, some (.int y5)]) [false, false, false, false, false, true] rfl ?_
      exact t_X12_number_b33 hC hr hlk hnm hw
end
section
variable {p : Program} {l : Launch} {e : Env} {R : Room} {s : State} {m : MethodId} {args : Array Value} {below : List Frame} {meth : Method} {c : Code} {G : hG} {B mc ms : Nat}
def w_X12_fault (q : Int32 → hS → Prop) (S : hS) (v0 : Nat) : Prop := pI S v0 12 0 0 (fun S => gI S v0 12 18 (fun x6 => q x6 S))
set_option maxRecDepth 100000 in
set_option maxHeartbeats 4000000 in
theorem c_X12_fault (l : Launch) (G : hG) (B : Nat) (S : hS) (v0 : Nat) (q : Int32 → hS → Prop) : Met l yX12_fault (hws yX12_fault cX12_fault 1 (Option.some FieldType.int)) ({ frames := 1, cells := 0, slots := 0, locals := 60 }) (hPc G B S [.ref v0] (w_X12_fault q S v0)) (hQ G B (iP q)) (0) (0) (fun r => B ≤ r) := by
  refine hMet (rm := { frames := 1, cells := 0, slots := 0, locals := 60 }) (lv := [some (.ref v0)]) (own := RX12) (fr := 1) (lo := 60) (by decide) rfl rfl rfl (Nat.le_of_ble_eq_true rfl) rfl (fun hw p e R s m args below meth c hC hr hlk hnm => ?_)
  unfold w_X12_fault at hw
  refine z_aload_n hC dX12_fault_0 rfl rfl ?_
  refine z_iconst hC ic_0 dX12_fault_1 ?_
  refine z_putI hC FX12 0 lk_1355 dX12_fault_2 (by decide) rfl rfl hw (fun S hw => ?_)
  refine z_aload_n hC dX12_fault_5 rfl rfl ?_
  refine z_getI hC FX12 18 lk_1373 dX12_fault_6 (by decide) hw (fun x6 hw => ?_)
  exact z_iret hC hr hlk dX12_fault_9 ⟨_, rfl, hw⟩
end
section
variable {p : Program} {l : Launch} {e : Env} {R : Room} {s : State} {m : MethodId} {args : Array Value} {below : List Frame} {meth : Method} {c : Code} {G : hG} {B mc ms : Nat}
def w_X12_emit (q : hS → Prop) (S : hS) (v0 : Nat) (v1 : Int32) (v2 : Int32) : Prop := gP S v0 12 24 (fun x1 => gI S v0 12 23 (fun x5 => sI S x1 x5 v1 (fun S => gP S v0 12 25 (fun x11 => gI S v0 12 23 (fun x15 => sI S x11 x15 v2 (fun S => gI S v0 12 23 (fun x22 => pI S v0 12 23 (x22 + 1) (fun S => q S))))))))
set_option maxRecDepth 100000 in
set_option maxHeartbeats 4000000 in
theorem c_X12_emit (l : Launch) (G : hG) (B : Nat) (S : hS) (v0 : Nat) (v1 : Int32) (v2 : Int32) (q : hS → Prop) : Met l yX12_emit (hws yX12_emit cX12_emit 3 (Option.none : Option FieldType)) ({ frames := 1, cells := 0, slots := 0, locals := 60 }) (hPc G B S [.ref v0, .int v1, .int v2] (w_X12_emit q S v0 v1 v2)) (hQ G B (vP q)) (0) (0) (fun r => B ≤ r) := by
  refine hMet (rm := { frames := 1, cells := 0, slots := 0, locals := 60 }) (lv := [some (.ref v0), some (.int v1), some (.int v2)]) (own := RX12) (fr := 1) (lo := 60) (by decide) rfl rfl rfl (Nat.le_of_ble_eq_true rfl) rfl (fun hw p e R s m args below meth c hC hr hlk hnm => ?_)
  unfold w_X12_emit at hw
  refine z_aload_n hC dX12_emit_0 rfl rfl ?_
  refine z_getP hC FX12 24 lk_1379 dX12_emit_1 (by decide) hw (fun x1 hw => ?_)
  refine z_aload_n hC dX12_emit_4 rfl rfl ?_
  refine z_getI hC FX12 23 lk_1378 dX12_emit_5 (by decide) hw (fun x5 hw => ?_)
  refine z_iload_n hC dX12_emit_8 rfl rfl ?_
  refine z_astI hC dX12_emit_9 hw (fun S hw => ?_)
  refine z_aload_n hC dX12_emit_10 rfl rfl ?_
  refine z_getP hC FX12 25 lk_1380 dX12_emit_11 (by decide) hw (fun x11 hw => ?_)
  refine z_aload_n hC dX12_emit_14 rfl rfl ?_
  refine z_getI hC FX12 23 lk_1378 dX12_emit_15 (by decide) hw (fun x15 hw => ?_)
  refine z_iload_n hC dX12_emit_18 rfl rfl ?_
  refine z_astI hC dX12_emit_19 hw (fun S hw => ?_)
  refine z_aload_n hC dX12_emit_20 rfl rfl ?_
  refine z_dup hC rfl dX12_emit_21 ?_
  refine z_getI hC FX12 23 lk_1378 dX12_emit_22 (by decide) hw (fun x22 hw => ?_)
  refine z_iconst hC ic_1 dX12_emit_25 ?_
  refine z_iadd hC dX12_emit_26 ?_
  refine z_putI hC FX12 23 lk_1378 dX12_emit_27 (by decide) rfl rfl hw (fun S hw => ?_)
  exact z_vret hC hr hlk dX12_emit_30 ⟨rfl, hw⟩
end
section
variable {p : Program} {l : Launch} {e : Env} {R : Room} {s : State} {m : MethodId} {args : Array Value} {below : List Frame} {meth : Method} {c : Code} {G : hG} {B mc ms : Nat}
def w_X12_push (q : hS → Prop) (S : hS) (v0 : Nat) (v1 : Int32) (v2 : Int32) : Prop := gP S v0 12 27 (fun x1 => gI S v0 12 29 (fun x5 => sI S x1 x5 v1 (fun S => gP S v0 12 28 (fun x11 => gI S v0 12 29 (fun x15 => sI S x11 x15 v2 (fun S => gI S v0 12 29 (fun x22 => pI S v0 12 29 (x22 + 1) (fun S => q S))))))))
set_option maxRecDepth 100000 in
set_option maxHeartbeats 4000000 in
theorem c_X12_push (l : Launch) (G : hG) (B : Nat) (S : hS) (v0 : Nat) (v1 : Int32) (v2 : Int32) (q : hS → Prop) : Met l yX12_push (hws yX12_push cX12_push 3 (Option.none : Option FieldType)) ({ frames := 1, cells := 0, slots := 0, locals := 60 }) (hPc G B S [.ref v0, .int v1, .int v2] (w_X12_push q S v0 v1 v2)) (hQ G B (vP q)) (0) (0) (fun r => B ≤ r) := by
  refine hMet (rm := { frames := 1, cells := 0, slots := 0, locals := 60 }) (lv := [some (.ref v0), some (.int v1), some (.int v2)]) (own := RX12) (fr := 1) (lo := 60) (by decide) rfl rfl rfl (Nat.le_of_ble_eq_true rfl) rfl (fun hw p e R s m args below meth c hC hr hlk hnm => ?_)
  unfold w_X12_push at hw
  refine z_aload_n hC dX12_push_0 rfl rfl ?_
  refine z_getP hC FX12 27 lk_1382 dX12_push_1 (by decide) hw (fun x1 hw => ?_)
  refine z_aload_n hC dX12_push_4 rfl rfl ?_
  refine z_getI hC FX12 29 lk_1384 dX12_push_5 (by decide) hw (fun x5 hw => ?_)
  refine z_iload_n hC dX12_push_8 rfl rfl ?_
  refine z_astI hC dX12_push_9 hw (fun S hw => ?_)
  refine z_aload_n hC dX12_push_10 rfl rfl ?_
  refine z_getP hC FX12 28 lk_1383 dX12_push_11 (by decide) hw (fun x11 hw => ?_)
  refine z_aload_n hC dX12_push_14 rfl rfl ?_
  refine z_getI hC FX12 29 lk_1384 dX12_push_15 (by decide) hw (fun x15 hw => ?_)
  refine z_iload_n hC dX12_push_18 rfl rfl ?_
  refine z_astI hC dX12_push_19 hw (fun S hw => ?_)
  refine z_aload_n hC dX12_push_20 rfl rfl ?_
  refine z_dup hC rfl dX12_push_21 ?_
  refine z_getI hC FX12 29 lk_1384 dX12_push_22 (by decide) hw (fun x22 hw => ?_)
  refine z_iconst hC ic_1 dX12_push_25 ?_
  refine z_iadd hC dX12_push_26 ?_
  refine z_putI hC FX12 29 lk_1384 dX12_push_27 (by decide) rfl rfl hw (fun S hw => ?_)
  exact z_vret hC hr hlk dX12_push_30 ⟨rfl, hw⟩
end
section
variable {p : Program} {l : Launch} {e : Env} {R : Room} {s : State} {m : MethodId} {args : Array Value} {below : List Frame} {meth : Method} {c : Code} {G : hG} {B mc ms : Nat}
def w_X12_binds (q : Int32 → hS → Prop) (S : hS) (v0 : Int32) : Prop := (v0 < 31 → (¬ v0 = 30 → (¬ v0 = 29 → (¬ v0 = 28 → (v0 < 25 → (v0 < 22 → q 5 S) ∧ (¬ v0 < 22 → q 6 S)) ∧ (¬ v0 < 25 → q 4 S)) ∧ (v0 = 28 → q 3 S)) ∧ (v0 = 29 → q 2 S)) ∧ (v0 = 30 → q 1 S)) ∧ (¬ v0 < 31 → q 0 S)
set_option maxRecDepth 100000 in
set_option maxHeartbeats 4000000 in
theorem c_X12_binds (l : Launch) (G : hG) (B : Nat) (S : hS) (v0 : Int32) (q : Int32 → hS → Prop) : Met l yX12_binds (hws yX12_binds cX12_binds 1 (Option.some FieldType.int)) ({ frames := 1, cells := 0, slots := 0, locals := 60 }) (hPc G B S [.int v0] (w_X12_binds q S v0)) (hQ G B (iP q)) (0) (0) (fun r => B ≤ r) := by
  refine hMet (rm := { frames := 1, cells := 0, slots := 0, locals := 60 }) (lv := [some (.int v0)]) (own := RX12) (fr := 1) (lo := 60) (by decide) rfl rfl rfl (Nat.le_of_ble_eq_true rfl) rfl (fun hw p e R s m args below meth c hC hr hlk hnm => ?_)
  unfold w_X12_binds at hw
  refine z_iload_n hC dX12_binds_0 rfl rfl ?_
  refine z_bipush hC bi_31 dX12_binds_1 ?_
  refine z_icmp_lt (tgt := 10) hC dX12_binds_3 (by decide) (fun c3 => ?_) (fun c3 => ?_)
  · have hw := hw.1 c3
    refine z_iload_n hC dX12_binds_10 rfl rfl ?_
    refine z_bipush hC bi_30 dX12_binds_11 ?_
    refine z_icmp_ne (tgt := 20) hC dX12_binds_13 (by decide) (fun c13 => ?_) (fun c13 => ?_)
    · have hw := hw.1 c13
      refine z_iload_n hC dX12_binds_20 rfl rfl ?_
      refine z_bipush hC bi_29 dX12_binds_21 ?_
      refine z_icmp_ne (tgt := 30) hC dX12_binds_23 (by decide) (fun c23 => ?_) (fun c23 => ?_)
      · have hw := hw.1 c23
        refine z_iload_n hC dX12_binds_30 rfl rfl ?_
        refine z_bipush hC bi_28 dX12_binds_31 ?_
        refine z_icmp_ne (tgt := 40) hC dX12_binds_33 (by decide) (fun c33 => ?_) (fun c33 => ?_)
        · have hw := hw.1 c33
          refine z_iload_n hC dX12_binds_40 rfl rfl ?_
          refine z_bipush hC bi_25 dX12_binds_41 ?_
          refine z_icmp_lt (tgt := 50) hC dX12_binds_43 (by decide) (fun c43 => ?_) (fun c43 => ?_)
          · have hw := hw.1 c43
            refine z_iload_n hC dX12_binds_50 rfl rfl ?_
            refine z_bipush hC bi_22 dX12_binds_51 ?_
            refine z_icmp_lt (tgt := 61) hC dX12_binds_53 (by decide) (fun c53 => ?_) (fun c53 => ?_)
            · have hw := hw.1 c53
              refine z_iconst hC ic_5 dX12_binds_61 ?_
              exact z_iret hC hr hlk dX12_binds_62 ⟨_, rfl, hw⟩
            · have hw := hw.2 c53
              refine z_bipush hC bi_6 dX12_binds_56 ?_
              refine z_goto (tgt := 62) hC dX12_binds_58 (by decide) ?_
              exact z_iret hC hr hlk dX12_binds_62 ⟨_, rfl, hw⟩
          · have hw := hw.2 c43
            refine z_iconst hC ic_4 dX12_binds_46 ?_
            refine z_goto (tgt := 62) hC dX12_binds_47 (by decide) ?_
            exact z_iret hC hr hlk dX12_binds_62 ⟨_, rfl, hw⟩
        · have hw := hw.2 c33
          refine z_iconst hC ic_3 dX12_binds_36 ?_
          refine z_goto (tgt := 62) hC dX12_binds_37 (by decide) ?_
          exact z_iret hC hr hlk dX12_binds_62 ⟨_, rfl, hw⟩
      · have hw := hw.2 c23
        refine z_iconst hC ic_2 dX12_binds_26 ?_
        refine z_goto (tgt := 62) hC dX12_binds_27 (by decide) ?_
        exact z_iret hC hr hlk dX12_binds_62 ⟨_, rfl, hw⟩
    · have hw := hw.2 c13
      refine z_iconst hC ic_1 dX12_binds_16 ?_
      refine z_goto (tgt := 62) hC dX12_binds_17 (by decide) ?_
      exact z_iret hC hr hlk dX12_binds_62 ⟨_, rfl, hw⟩
  · have hw := hw.2 c3
    refine z_iconst hC ic_0 dX12_binds_6 ?_
    refine z_goto (tgt := 62) hC dX12_binds_7 (by decide) ?_
    exact z_iret hC hr hlk dX12_binds_62 ⟨_, rfl, hw⟩
end
section
variable {p : Program} {l : Launch} {e : Env} {R : Room} {s : State} {m : MethodId} {args : Array Value} {below : List Frame} {meth : Method} {c : Code} {G : hG} {B mc ms : Nat}
def w_X12_settle_b63 (q : hS → Prop) (K0 : hS → (Nat) → (Int32) → Prop) (S : hS) (v0 : Nat) (v1 : Int32) : Prop := gP S v0 12 25 (fun x64 => gP S v0 12 28 (fun x68 => gI S v0 12 29 (fun x72 => aI S x68 x72 (fun x75 => gI S v0 12 23 (fun x77 => sI S x64 x75 x77 (fun S => K0 S v0 v1))))))
set_option maxRecDepth 100000 in
set_option maxHeartbeats 4000000 in
theorem t_X12_settle_b63 (hC : zC p R s m args c cX12_settle 2 RX12 G B mc ms 2 82) (hr : meth.sig.returnType = (Option.none : Option FieldType)) (hlk : meth.locks = false) (hnm : meth.name = "settle") {q : hS → Prop} {K0 : hS → (Nat) → (Int32) → Prop} (hK0 : ∀ {S : hS} {v0 : Nat} {v1 : Int32}, K0 S v0 v1 → Z p l e R s m args below meth c (MQ below (hQ G B (vP q)) args s mc ms (fun r => B ≤ r)) G B mc ms 2 S 0 0 0 [some (.ref v0), some (.int v1)] []) {S : hS} {v0 : Nat} {v1 : Int32} (hw : w_X12_settle_b63 q K0 S v0 v1) : Z p l e R s m args below meth c (MQ below (hQ G B (vP q)) args s mc ms (fun r => B ≤ r)) G B mc ms 2 S 0 0 63 [some (.ref v0), some (.int v1)] [] := by
  unfold w_X12_settle_b63 at hw
  refine z_aload_n hC dX12_settle_63 rfl rfl ?_
  refine z_getP hC FX12 25 lk_1380 dX12_settle_64 (by decide) hw (fun x64 hw => ?_)
  refine z_aload_n hC dX12_settle_67 rfl rfl ?_
  refine z_getP hC FX12 28 lk_1383 dX12_settle_68 (by decide) hw (fun x68 hw => ?_)
  refine z_aload_n hC dX12_settle_71 rfl rfl ?_
  refine z_getI hC FX12 29 lk_1384 dX12_settle_72 (by decide) hw (fun x72 hw => ?_)
  refine z_aldI hC dX12_settle_75 hw (fun x75 hw => ?_)
  refine z_aload_n hC dX12_settle_76 rfl rfl ?_
  refine z_getI hC FX12 23 lk_1378 dX12_settle_77 (by decide) hw (fun x77 hw => ?_)
  refine z_astI hC dX12_settle_80 hw (fun S hw => ?_)
  refine z_goto (tgt := 0) hC dX12_settle_81 (by decide) ?_
  refine z_mask (lv' := [some (.ref v0), some (.int v1)]) [true, true] rfl ?_
  exact hK0 hw
def w_X12_settle_b0 (q : hS → Prop) : Nat → hS → (Nat) → (Int32) → Prop
  | 0, _, _, _ => False
  | n + 1, S, v0, v1 => gI S v0 12 29 (fun x1 => (x1 ≤ 0 → q S) ∧ (¬ x1 ≤ 0 → gP S v0 12 27 (fun x8 => gI S v0 12 29 (fun x12 => aI S x8 (x12 - 1) (fun x17 => w_X12_binds (fun x18 S => (x18 < v1 → q S) ∧ (¬ x18 < v1 → gI S v0 12 29 (fun x27 => pI S v0 12 29 (x27 - 1) (fun S => gP S v0 12 27 (fun x36 => gI S v0 12 29 (fun x40 => aI S x36 x40 (fun x43 => (x43 = 29 → w_X12_settle_b63 q (fun S v0 v1 => w_X12_settle_b0 q n S v0 v1) S v0 v1) ∧ (¬ x43 = 29 → gP S v0 12 27 (fun x50 => gI S v0 12 29 (fun x54 => aI S x50 x54 (fun x57 => (¬ x57 = 30 → gP S v0 12 27 (fun x86 => gI S v0 12 29 (fun x90 => aI S x86 x90 (fun x93 => oK S v0 12 ∧ w_X12_emit (fun S => w_X12_settle_b0 q n S v0 v1) S v0 x93 0)))) ∧ (x57 = 30 → w_X12_settle_b63 q (fun S v0 v1 => w_X12_settle_b0 q n S v0 v1) S v0 v1)))))))))))) S x17)))))
set_option maxRecDepth 100000 in
set_option maxHeartbeats 4000000 in
theorem t_X12_settle_b0 (hC : zC p R s m args c cX12_settle 2 RX12 G B mc ms 2 82) (hr : meth.sig.returnType = (Option.none : Option FieldType)) (hlk : meth.locks = false) (hnm : meth.name = "settle") {q : hS → Prop} (n : Nat) : ∀ {S : hS} {v0 : Nat} {v1 : Int32} (hw : w_X12_settle_b0 q n S v0 v1), Z p l e R s m args below meth c (MQ below (hQ G B (vP q)) args s mc ms (fun r => B ≤ r)) G B mc ms 2 S 0 0 0 [some (.ref v0), some (.int v1)] [] := by
  induction n with
  | zero => intro S v0 v1 hw; exact (by rw [w_X12_settle_b0] at hw; exact hw.elim)
  | succ n ih =>
    intro S v0 v1 hw
    rw [w_X12_settle_b0] at hw
    refine z_aload_n hC dX12_settle_0 rfl rfl ?_
    refine z_getI hC FX12 29 lk_1384 dX12_settle_1 (by decide) hw (fun x1 hw => ?_)
    refine z_if_le (tgt := 101) hC dX12_settle_4 (by decide) (fun c4 => ?_) (fun c4 => ?_)
    · have hw := hw.1 c4
      exact z_vret hC hr hlk dX12_settle_101 ⟨rfl, hw⟩
    · have hw := hw.2 c4
      refine z_aload_n hC dX12_settle_7 rfl rfl ?_
      refine z_getP hC FX12 27 lk_1382 dX12_settle_8 (by decide) hw (fun x8 hw => ?_)
      refine z_aload_n hC dX12_settle_11 rfl rfl ?_
      refine z_getI hC FX12 29 lk_1384 dX12_settle_12 (by decide) hw (fun x12 hw => ?_)
      refine z_iconst hC ic_1 dX12_settle_15 ?_
      refine z_isub hC dX12_settle_16 ?_
      refine z_aldI hC dX12_settle_17 hw (fun x17 hw => ?_)
      refine z_callS (ku' := 0) (kv' := 0) (n := 1) (As := [.int x17]) (st := []) hC (c_X12_binds l G B S x17 _) hw lk_1806 lk_1807 lk_133 lk_1808 hd_X12_binds rfl rfl (Nat.le_of_ble_eq_true rfl) (Nat.le_of_ble_eq_true rfl) rfl (Nat.le_of_ble_eq_true rfl) dX12_settle_18 (Nat.le_refl 0) (Nat.le_refl 0) (kI (fun x18 S hw => ?_))
      refine z_iload_n hC dX12_settle_21 rfl rfl ?_
      refine z_icmp_lt (tgt := 101) hC dX12_settle_22 (by decide) (fun c22 => ?_) (fun c22 => ?_)
      · have hw := hw.1 c22
        exact z_vret hC hr hlk dX12_settle_101 ⟨rfl, hw⟩
      · have hw := hw.2 c22
        refine z_aload_n hC dX12_settle_25 rfl rfl ?_
        refine z_dup hC rfl dX12_settle_26 ?_
        refine z_getI hC FX12 29 lk_1384 dX12_settle_27 (by decide) hw (fun x27 hw => ?_)
        refine z_iconst hC ic_1 dX12_settle_30 ?_
        refine z_isub hC dX12_settle_31 ?_
        refine z_putI hC FX12 29 lk_1384 dX12_settle_32 (by decide) rfl rfl hw (fun S hw => ?_)
        refine z_aload_n hC dX12_settle_35 rfl rfl ?_
        refine z_getP hC FX12 27 lk_1382 dX12_settle_36 (by decide) hw (fun x36 hw => ?_)
        refine z_aload_n hC dX12_settle_39 rfl rfl ?_
        refine z_getI hC FX12 29 lk_1384 dX12_settle_40 (by decide) hw (fun x40 hw => ?_)
        refine z_aldI hC dX12_settle_43 hw (fun x43 hw => ?_)
        refine z_bipush hC bi_29 dX12_settle_44 ?_
        refine z_icmp_eq (tgt := 63) hC dX12_settle_46 (by decide) (fun c46 => ?_) (fun c46 => ?_)
        · have hw := hw.1 c46
          refine z_mask (lv' := [some (.ref v0), some (.int v1)]) [true, true] rfl ?_
          exact t_X12_settle_b63 hC hr hlk hnm (fun hw => ih hw) hw
        · have hw := hw.2 c46
          refine z_aload_n hC dX12_settle_49 rfl rfl ?_
          refine z_getP hC FX12 27 lk_1382 dX12_settle_50 (by decide) hw (fun x50 hw => ?_)
          refine z_aload_n hC dX12_settle_53 rfl rfl ?_
          refine z_getI hC FX12 29 lk_1384 dX12_settle_54 (by decide) hw (fun x54 hw => ?_)
          refine z_aldI hC dX12_settle_57 hw (fun x57 hw => ?_)
          refine z_bipush hC bi_30 dX12_settle_58 ?_
          refine z_icmp_ne (tgt := 84) hC dX12_settle_60 (by decide) (fun c60 => ?_) (fun c60 => ?_)
          · have hw := hw.1 c60
            refine z_aload_n hC dX12_settle_84 rfl rfl ?_
            refine z_aload_n hC dX12_settle_85 rfl rfl ?_
            refine z_getP hC FX12 27 lk_1382 dX12_settle_86 (by decide) hw (fun x86 hw => ?_)
            refine z_aload_n hC dX12_settle_89 rfl rfl ?_
            refine z_getI hC FX12 29 lk_1384 dX12_settle_90 (by decide) hw (fun x90 hw => ?_)
            refine z_aldI hC dX12_settle_93 hw (fun x93 hw => ?_)
            refine z_iconst hC ic_0 dX12_settle_94 ?_
            refine z_callV (ku' := 0) (kv' := 0) (n := 2) (As := [.int x93, .int 0]) (st := []) hC (c_X12_emit l G B S v0 x93 0 _) hw.2 hw.1 rfl lk_1793 lk_1795 lk_78 lk_133 lk_1796 hd_X12_emit rfl rfl (Nat.le_of_ble_eq_true rfl) (Nat.le_of_ble_eq_true rfl) rfl (Nat.le_of_ble_eq_true rfl) dX12_settle_95 (Nat.le_refl 0) (Nat.le_refl 0) (kV (fun S hw => ?_))
            refine z_goto (tgt := 0) hC dX12_settle_98 (by decide) ?_
            refine z_mask (lv' := [some (.ref v0), some (.int v1)]) [true, true] rfl ?_
            exact ih hw
          · have hw := hw.2 c60
            refine z_mask (lv' := [some (.ref v0), some (.int v1)]) [true, true] rfl ?_
            exact t_X12_settle_b63 hC hr hlk hnm (fun hw => ih hw) hw
def w_X12_settle (q : hS → Prop) (S : hS) (v0 : Nat) (v1 : Int32) : Prop := (∃ n0 : Nat, w_X12_settle_b0 q n0 S v0 v1)
set_option maxRecDepth 100000 in
set_option maxHeartbeats 4000000 in
theorem c_X12_settle (l : Launch) (G : hG) (B : Nat) (S : hS) (v0 : Nat) (v1 : Int32) (q : hS → Prop) : Met l yX12_settle (hws yX12_settle cX12_settle 2 (Option.none : Option FieldType)) ({ frames := 2, cells := 0, slots := 0, locals := 82 }) (hPc G B S [.ref v0, .int v1] (w_X12_settle q S v0 v1)) (hQ G B (vP q)) (0) (0) (fun r => B ≤ r) := by
  refine hMet (rm := { frames := 2, cells := 0, slots := 0, locals := 82 }) (lv := [some (.ref v0), some (.int v1)]) (own := RX12) (fr := 2) (lo := 82) (by decide) rfl rfl rfl (Nat.le_of_ble_eq_true rfl) rfl (fun hw p e R s m args below meth c hC hr hlk hnm => ?_)
  unfold w_X12_settle at hw
  refine z_mask (lv' := [some (.ref v0), some (.int v1)]) [true, true] rfl ?_
  obtain ⟨n0, hw⟩ := hw
  exact t_X12_settle_b0 hC hr hlk hnm n0 hw
end
section
variable {p : Program} {l : Launch} {e : Env} {R : Room} {s : State} {m : MethodId} {args : Array Value} {below : List Frame} {meth : Method} {c : Code} {G : hG} {B mc ms : Nat}
def w_X12_inner_b33 (q : Int32 → hS → Prop) (K4 : hS → (Nat) → (Int32) → (Int32) → Prop) (S : hS) (v0 : Nat) (v2 : Int32) (t0 : Int32) : Prop := ∀ y34 : Int32, y34 = v2 + 1 → K4 S v0 t0 y34
set_option maxRecDepth 100000 in
set_option maxHeartbeats 4000000 in
theorem t_X12_inner_b33 (hC : zC p R s m args c cX12_inner 3 RX12 G B mc ms 1 60) (hr : meth.sig.returnType = (Option.some FieldType.int)) (hlk : meth.locks = false) (hnm : meth.name = "inner") {q : Int32 → hS → Prop} {K4 : hS → (Nat) → (Int32) → (Int32) → Prop} (hK4 : ∀ {S : hS} {v0 : Nat} {v1 : Int32} {v2 : Int32}, K4 S v0 v1 v2 → Z p l e R s m args below meth c (MQ below (hQ G B (iP q)) args s mc ms (fun r => B ≤ r)) G B mc ms 3 S 0 0 4 [some (.ref v0), some (.int v1), some (.int v2)] []) {S : hS} {v0 : Nat} {v2 : Int32} {t0 : Int32} (hw : w_X12_inner_b33 q K4 S v0 v2 t0) : Z p l e R s m args below meth c (MQ below (hQ G B (iP q)) args s mc ms (fun r => B ≤ r)) G B mc ms 3 S 0 0 33 [some (.ref v0), none, some (.int v2)] [.int t0] := by
  unfold w_X12_inner_b33 at hw
  refine z_istore_n (i := 1) (lv' := [some (.ref v0), some (.int t0), some (.int v2)]) hC rfl dX12_inner_33 (by decide) (hok_v rfl rfl) rfl ?_
  refine z_inc (i := 2) hC ic_1 dX12_inner_34 rfl (by decide) (hok_v rfl rfl) (fun y34 e34 => ?_)
  have hw := hw y34 e34
  refine z_goto (tgt := 4) hC dX12_inner_37 (by decide) ?_
  refine z_mask (lv' := [some (.ref v0), some (.int t0), some (.int y34)]) [true, true, true] rfl ?_
  exact hK4 hw
def w_X12_inner_b4 (q : Int32 → hS → Prop) : Nat → hS → (Nat) → (Int32) → (Int32) → Prop
  | 0, _, _, _, _ => False
  | n + 1, S, v0, v1, v2 => gI S v0 12 29 (fun x6 => (x6 ≤ v2 → q v1 S) ∧ (¬ x6 ≤ v2 → gP S v0 12 27 (fun x13 => aI S x13 v2 (fun x17 => (x17 < 31 → w_X12_inner_b33 q (fun S v0 v1 v2 => w_X12_inner_b4 q n S v0 v1 v2) S v0 v2 v1) ∧ (¬ x17 < 31 → gP S v0 12 27 (fun x24 => aI S x24 v2 (fun x28 => w_X12_inner_b33 q (fun S v0 v1 v2 => w_X12_inner_b4 q n S v0 v1 v2) S v0 v2 x28)))))))
set_option maxRecDepth 100000 in
set_option maxHeartbeats 4000000 in
theorem t_X12_inner_b4 (hC : zC p R s m args c cX12_inner 3 RX12 G B mc ms 1 60) (hr : meth.sig.returnType = (Option.some FieldType.int)) (hlk : meth.locks = false) (hnm : meth.name = "inner") {q : Int32 → hS → Prop} (n : Nat) : ∀ {S : hS} {v0 : Nat} {v1 : Int32} {v2 : Int32} (hw : w_X12_inner_b4 q n S v0 v1 v2), Z p l e R s m args below meth c (MQ below (hQ G B (iP q)) args s mc ms (fun r => B ≤ r)) G B mc ms 3 S 0 0 4 [some (.ref v0), some (.int v1), some (.int v2)] [] := by
  induction n with
  | zero => intro S v0 v1 v2 hw; exact (by rw [w_X12_inner_b4] at hw; exact hw.elim)
  | succ n ih =>
    intro S v0 v1 v2 hw
    rw [w_X12_inner_b4] at hw
    refine z_iload_n hC dX12_inner_4 rfl rfl ?_
    refine z_aload_n hC dX12_inner_5 rfl rfl ?_
    refine z_getI hC FX12 29 lk_1384 dX12_inner_6 (by decide) hw (fun x6 hw => ?_)
    refine z_icmp_ge (tgt := 40) hC dX12_inner_9 (by decide) (fun c9 => ?_) (fun c9 => ?_)
    · have hw := hw.1 c9
      refine z_iload_n hC dX12_inner_40 rfl rfl ?_
      exact z_iret hC hr hlk dX12_inner_41 ⟨_, rfl, hw⟩
    · have hw := hw.2 c9
      refine z_aload_n hC dX12_inner_12 rfl rfl ?_
      refine z_getP hC FX12 27 lk_1382 dX12_inner_13 (by decide) hw (fun x13 hw => ?_)
      refine z_iload_n hC dX12_inner_16 rfl rfl ?_
      refine z_aldI hC dX12_inner_17 hw (fun x17 hw => ?_)
      refine z_bipush hC bi_31 dX12_inner_18 ?_
      refine z_icmp_lt (tgt := 32) hC dX12_inner_20 (by decide) (fun c20 => ?_) (fun c20 => ?_)
      · have hw := hw.1 c20
        refine z_iload_n hC dX12_inner_32 rfl rfl ?_
        refine z_mask (lv' := [some (.ref v0), none, some (.int v2)]) [true, false, true] rfl ?_
        exact t_X12_inner_b33 hC hr hlk hnm (fun hw => ih hw) hw
      · have hw := hw.2 c20
        refine z_aload_n hC dX12_inner_23 rfl rfl ?_
        refine z_getP hC FX12 27 lk_1382 dX12_inner_24 (by decide) hw (fun x24 hw => ?_)
        refine z_iload_n hC dX12_inner_27 rfl rfl ?_
        refine z_aldI hC dX12_inner_28 hw (fun x28 hw => ?_)
        refine z_goto (tgt := 33) hC dX12_inner_29 (by decide) ?_
        refine z_mask (lv' := [some (.ref v0), none, some (.int v2)]) [true, false, true] rfl ?_
        exact t_X12_inner_b33 hC hr hlk hnm (fun hw => ih hw) hw
def w_X12_inner (q : Int32 → hS → Prop) (S : hS) (v0 : Nat) : Prop := (∃ n4 : Nat, w_X12_inner_b4 q n4 S v0 (-1) 0)
set_option maxRecDepth 100000 in
set_option maxHeartbeats 4000000 in
theorem c_X12_inner (l : Launch) (G : hG) (B : Nat) (S : hS) (v0 : Nat) (q : Int32 → hS → Prop) : Met l yX12_inner (hws yX12_inner cX12_inner 3 (Option.some FieldType.int)) ({ frames := 1, cells := 0, slots := 0, locals := 60 }) (hPc G B S [.ref v0] (w_X12_inner q S v0)) (hQ G B (iP q)) (0) (0) (fun r => B ≤ r) := by
  refine hMet (rm := { frames := 1, cells := 0, slots := 0, locals := 60 }) (lv := [some (.ref v0), none, none]) (own := RX12) (fr := 1) (lo := 60) (by decide) rfl rfl rfl (Nat.le_of_ble_eq_true rfl) rfl (fun hw p e R s m args below meth c hC hr hlk hnm => ?_)
  unfold w_X12_inner at hw
  refine z_iconst hC ic_m1 dX12_inner_0 ?_
  refine z_istore_n (i := 1) (lv' := [some (.ref v0), some (.int (-1)), none]) hC rfl dX12_inner_1 (by decide) (hok_v rfl rfl) rfl ?_
  refine z_iconst hC ic_0 dX12_inner_2 ?_
  refine z_istore_n (i := 2) (lv' := [some (.ref v0), some (.int (-1)), some (.int 0)]) hC rfl dX12_inner_3 (by decide) (hok_v rfl rfl) rfl ?_
  refine z_mask (lv' := [some (.ref v0), some (.int (-1)), some (.int 0)]) [true, true, true] rfl ?_
  obtain ⟨n4, hw⟩ := hw
  exact t_X12_inner_b4 hC hr hlk hnm n4 hw
end
section
variable {p : Program} {l : Launch} {e : Env} {R : Room} {s : State} {m : MethodId} {args : Array Value} {below : List Frame} {meth : Method} {c : Code} {G : hG} {B mc ms : Nat}
def w_X12_isCompared_b36 (q : Int32 → hS → Prop) (S : hS) (v0 : Nat) (v1 : Int32) : Prop := (v1 < 0 → q 0 S) ∧ (¬ v1 < 0 → gP S v0 12 27 (fun x41 => aI S x41 v1 (fun x45 => w_X12_in (fun x53 S => (x53 = 0 → q 0 S) ∧ (¬ x53 = 0 → q 1 S)) S (Int32.toInt64 x45) 25 27)))
set_option maxRecDepth 100000 in
set_option maxHeartbeats 4000000 in
theorem t_X12_isCompared_b36 (hC : zC p R s m args c cX12_isCompared 2 RX12 G B mc ms 2 85) (hr : meth.sig.returnType = (Option.some FieldType.boolean)) (hlk : meth.locks = false) (hnm : meth.name = "isCompared") {q : Int32 → hS → Prop} {S : hS} {v0 : Nat} {v1 : Int32} (hw : w_X12_isCompared_b36 q S v0 v1) : Z p l e R s m args below meth c (MQ below (hQ G B (iP q)) args s mc ms (fun r => B ≤ r)) G B mc ms 2 S 0 0 36 [some (.ref v0), some (.int v1)] [] := by
  unfold w_X12_isCompared_b36 at hw
  refine z_iload_n hC dX12_isCompared_36 rfl rfl ?_
  refine z_if_lt (tgt := 63) hC dX12_isCompared_37 (by decide) (fun c37 => ?_) (fun c37 => ?_)
  · have hw := hw.1 c37
    refine z_iconst hC ic_0 dX12_isCompared_63 ?_
    exact z_zret hC hr hlk (hz01 (Or.inl rfl)).1 dX12_isCompared_64 ⟨_, rfl, hw⟩
  · have hw := hw.2 c37
    refine z_aload_n hC dX12_isCompared_40 rfl rfl ?_
    refine z_getP hC FX12 27 lk_1382 dX12_isCompared_41 (by decide) hw (fun x41 hw => ?_)
    refine z_iload_n hC dX12_isCompared_44 rfl rfl ?_
    refine z_aldI hC dX12_isCompared_45 hw (fun x45 hw => ?_)
    refine z_i2l hC rfl dX12_isCompared_46 ?_
    refine z_ldc2 hC lk_1822 dX12_isCompared_47 ?_
    refine z_ldc2 hC lk_1823 dX12_isCompared_50 ?_
    refine z_callS (ku' := 0) (kv' := 0) (n := 3) (As := [.long (Int32.toInt64 x45), .long 25, .long 27]) (st := []) hC (c_X12_in l G B S (Int32.toInt64 x45) 25 27 _) hw lk_1556 lk_1557 lk_133 lk_1558 hd_X12_in rfl rfl (Nat.le_of_ble_eq_true rfl) (Nat.le_of_ble_eq_true rfl) rfl (Nat.le_of_ble_eq_true rfl) dX12_isCompared_53 (Nat.le_refl 0) (Nat.le_refl 0) (kI (fun x53 S hw => ?_))
    refine z_if_eq (tgt := 63) hC dX12_isCompared_56 (by decide) (fun c56 => ?_) (fun c56 => ?_)
    · have hw := hw.1 c56
      refine z_iconst hC ic_0 dX12_isCompared_63 ?_
      exact z_zret hC hr hlk (hz01 (Or.inl rfl)).1 dX12_isCompared_64 ⟨_, rfl, hw⟩
    · have hw := hw.2 c56
      refine z_iconst hC ic_1 dX12_isCompared_59 ?_
      refine z_goto (tgt := 64) hC dX12_isCompared_60 (by decide) ?_
      exact z_zret hC hr hlk (hz01 (Or.inr rfl)).1 dX12_isCompared_64 ⟨_, rfl, hw⟩
def w_X12_isCompared_b7 (q : Int32 → hS → Prop) : Nat → hS → (Nat) → (Int32) → Prop
  | 0, _, _, _ => False
  | n + 1, S, v0, v1 => (v1 < 0 → w_X12_isCompared_b36 q S v0 v1) ∧ (¬ v1 < 0 → gP S v0 12 27 (fun x12 => aI S x12 v1 (fun x16 => w_X12_in (fun x24 S => (x24 = 0 → w_X12_isCompared_b36 q S v0 v1) ∧ (¬ x24 = 0 → ∀ y30 : Int32, y30 = v1 + (-1) → w_X12_isCompared_b7 q n S v0 y30)) S (Int32.toInt64 x16) 20 24)))
set_option maxRecDepth 100000 in
set_option maxHeartbeats 4000000 in
theorem t_X12_isCompared_b7 (hC : zC p R s m args c cX12_isCompared 2 RX12 G B mc ms 2 85) (hr : meth.sig.returnType = (Option.some FieldType.boolean)) (hlk : meth.locks = false) (hnm : meth.name = "isCompared") {q : Int32 → hS → Prop} (n : Nat) : ∀ {S : hS} {v0 : Nat} {v1 : Int32} (hw : w_X12_isCompared_b7 q n S v0 v1), Z p l e R s m args below meth c (MQ below (hQ G B (iP q)) args s mc ms (fun r => B ≤ r)) G B mc ms 2 S 0 0 7 [some (.ref v0), some (.int v1)] [] := by
  induction n with
  | zero => intro S v0 v1 hw; exact (by rw [w_X12_isCompared_b7] at hw; exact hw.elim)
  | succ n ih =>
    intro S v0 v1 hw
    rw [w_X12_isCompared_b7] at hw
    refine z_iload_n hC dX12_isCompared_7 rfl rfl ?_
    refine z_if_lt (tgt := 36) hC dX12_isCompared_8 (by decide) (fun c8 => ?_) (fun c8 => ?_)
    · have hw := hw.1 c8
      refine z_mask (lv' := [some (.ref v0), some (.int v1)]) [true, true] rfl ?_
      exact t_X12_isCompared_b36 hC hr hlk hnm hw
    · have hw := hw.2 c8
      refine z_aload_n hC dX12_isCompared_11 rfl rfl ?_
      refine z_getP hC FX12 27 lk_1382 dX12_isCompared_12 (by decide) hw (fun x12 hw => ?_)
      refine z_iload_n hC dX12_isCompared_15 rfl rfl ?_
      refine z_aldI hC dX12_isCompared_16 hw (fun x16 hw => ?_)
      refine z_i2l hC rfl dX12_isCompared_17 ?_
      refine z_ldc2 hC lk_1821 dX12_isCompared_18 ?_
      refine z_ldc2 hC lk_1574 dX12_isCompared_21 ?_
      refine z_callS (ku' := 0) (kv' := 0) (n := 3) (As := [.long (Int32.toInt64 x16), .long 20, .long 24]) (st := []) hC (c_X12_in l G B S (Int32.toInt64 x16) 20 24 _) hw lk_1556 lk_1557 lk_133 lk_1558 hd_X12_in rfl rfl (Nat.le_of_ble_eq_true rfl) (Nat.le_of_ble_eq_true rfl) rfl (Nat.le_of_ble_eq_true rfl) dX12_isCompared_24 (Nat.le_refl 0) (Nat.le_refl 0) (kI (fun x24 S hw => ?_))
      refine z_if_eq (tgt := 36) hC dX12_isCompared_27 (by decide) (fun c27 => ?_) (fun c27 => ?_)
      · have hw := hw.1 c27
        refine z_mask (lv' := [some (.ref v0), some (.int v1)]) [true, true] rfl ?_
        exact t_X12_isCompared_b36 hC hr hlk hnm hw
      · have hw := hw.2 c27
        refine z_inc (i := 1) hC ic_m1 dX12_isCompared_30 rfl (by decide) (hok_v rfl rfl) (fun y30 e30 => ?_)
        have hw := hw y30 e30
        refine z_goto (tgt := 7) hC dX12_isCompared_33 (by decide) ?_
        refine z_mask (lv' := [some (.ref v0), some (.int y30)]) [true, true] rfl ?_
        exact ih hw
def w_X12_isCompared (q : Int32 → hS → Prop) (S : hS) (v0 : Nat) : Prop := gI S v0 12 29 (fun x1 => ∀ y6 : Int32, y6 = (x1 - 1) → (∃ n7 : Nat, w_X12_isCompared_b7 q n7 S v0 y6))
set_option maxRecDepth 100000 in
set_option maxHeartbeats 4000000 in
theorem c_X12_isCompared (l : Launch) (G : hG) (B : Nat) (S : hS) (v0 : Nat) (q : Int32 → hS → Prop) : Met l yX12_isCompared (hws yX12_isCompared cX12_isCompared 2 (Option.some FieldType.boolean)) ({ frames := 2, cells := 0, slots := 0, locals := 85 }) (hPc G B S [.ref v0] (w_X12_isCompared q S v0)) (hQ G B (iP q)) (0) (0) (fun r => B ≤ r) := by
  refine hMet (rm := { frames := 2, cells := 0, slots := 0, locals := 85 }) (lv := [some (.ref v0), none]) (own := RX12) (fr := 2) (lo := 85) (by decide) rfl rfl rfl (Nat.le_of_ble_eq_true rfl) rfl (fun hw p e R s m args below meth c hC hr hlk hnm => ?_)
  unfold w_X12_isCompared at hw
  refine z_aload_n hC dX12_isCompared_0 rfl rfl ?_
  refine z_getI hC FX12 29 lk_1384 dX12_isCompared_1 (by decide) hw (fun x1 hw => ?_)
  refine z_iconst hC ic_1 dX12_isCompared_4 ?_
  refine z_isub hC dX12_isCompared_5 ?_
  refine z_nmI (fun y6 e6 => ?_)
  have hw := hw y6 e6
  refine z_istore_n (i := 1) (lv' := [some (.ref v0), some (.int y6)]) hC rfl dX12_isCompared_6 (by decide) (hok_v rfl rfl) rfl ?_
  refine z_mask (lv' := [some (.ref v0), some (.int y6)]) [true, true] rfl ?_
  obtain ⟨n7, hw⟩ := hw
  exact t_X12_isCompared_b7 hC hr hlk hnm n7 hw
end
section
variable {p : Program} {l : Launch} {e : Env} {R : Room} {s : State} {m : MethodId} {args : Array Value} {below : List Frame} {meth : Method} {c : Code} {G : hG} {B mc ms : Nat}
def w_X12_partAt_b30 (q : Int32 → hS → Prop) (K4 : hS → (Nat) → (Int32) → (Int32) → Prop) (S : hS) (v0 : Nat) (v2 : Int32) (t0 : Int32) : Prop := ∀ y31 : Int32, y31 = v2 + 1 → K4 S v0 t0 y31
set_option maxRecDepth 100000 in
set_option maxHeartbeats 4000000 in
theorem t_X12_partAt_b30 (hC : zC p R s m args c cX12_partAt 3 RX12 G B mc ms 2 82) (hr : meth.sig.returnType = (Option.some FieldType.int)) (hlk : meth.locks = false) (hnm : meth.name = "partAt") {q : Int32 → hS → Prop} {K4 : hS → (Nat) → (Int32) → (Int32) → Prop} (hK4 : ∀ {S : hS} {v0 : Nat} {v1 : Int32} {v2 : Int32}, K4 S v0 v1 v2 → Z p l e R s m args below meth c (MQ below (hQ G B (iP q)) args s mc ms (fun r => B ≤ r)) G B mc ms 3 S 0 0 4 [some (.ref v0), some (.int v1), some (.int v2)] []) {S : hS} {v0 : Nat} {v2 : Int32} {t0 : Int32} (hw : w_X12_partAt_b30 q K4 S v0 v2 t0) : Z p l e R s m args below meth c (MQ below (hQ G B (iP q)) args s mc ms (fun r => B ≤ r)) G B mc ms 3 S 0 0 30 [some (.ref v0), none, some (.int v2)] [.int t0] := by
  unfold w_X12_partAt_b30 at hw
  refine z_istore_n (i := 1) (lv' := [some (.ref v0), some (.int t0), some (.int v2)]) hC rfl dX12_partAt_30 (by decide) (hok_v rfl rfl) rfl ?_
  refine z_inc (i := 2) hC ic_1 dX12_partAt_31 rfl (by decide) (hok_v rfl rfl) (fun y31 e31 => ?_)
  have hw := hw y31 e31
  refine z_goto (tgt := 4) hC dX12_partAt_34 (by decide) ?_
  refine z_mask (lv' := [some (.ref v0), some (.int t0), some (.int y31)]) [true, true, true] rfl ?_
  exact hK4 hw
def w_X12_partAt_b4 (q : Int32 → hS → Prop) : Nat → hS → (Nat) → (Int32) → (Int32) → Prop
  | 0, _, _, _, _ => False
  | n + 1, S, v0, v1, v2 => (9 ≤ v2 → q v1 S) ∧ (¬ 9 ≤ v2 → gP S v0 12 31 (fun x12 => aJ S x12 v2 (fun x16 => oK S v0 12 ∧ w_X12_isWord (fun x17 S => (x17 = 0 → w_X12_partAt_b30 q (fun S v0 v1 v2 => w_X12_partAt_b4 q n S v0 v1 v2) S v0 v2 v1) ∧ (¬ x17 = 0 → w_X12_partAt_b30 q (fun S v0 v1 v2 => w_X12_partAt_b4 q n S v0 v1 v2) S v0 v2 (v2 + 1))) S v0 x16)))
set_option maxRecDepth 100000 in
set_option maxHeartbeats 4000000 in
theorem t_X12_partAt_b4 (hC : zC p R s m args c cX12_partAt 3 RX12 G B mc ms 2 82) (hr : meth.sig.returnType = (Option.some FieldType.int)) (hlk : meth.locks = false) (hnm : meth.name = "partAt") {q : Int32 → hS → Prop} (n : Nat) : ∀ {S : hS} {v0 : Nat} {v1 : Int32} {v2 : Int32} (hw : w_X12_partAt_b4 q n S v0 v1 v2), Z p l e R s m args below meth c (MQ below (hQ G B (iP q)) args s mc ms (fun r => B ≤ r)) G B mc ms 3 S 0 0 4 [some (.ref v0), some (.int v1), some (.int v2)] [] := by
  induction n with
  | zero => intro S v0 v1 v2 hw; exact (by rw [w_X12_partAt_b4] at hw; exact hw.elim)
  | succ n ih =>
    intro S v0 v1 v2 hw
    rw [w_X12_partAt_b4] at hw
    refine z_iload_n hC dX12_partAt_4 rfl rfl ?_
    refine z_bipush hC bi_9 dX12_partAt_5 ?_
    refine z_icmp_ge (tgt := 37) hC dX12_partAt_7 (by decide) (fun c7 => ?_) (fun c7 => ?_)
    · have hw := hw.1 c7
      refine z_iload_n hC dX12_partAt_37 rfl rfl ?_
      exact z_iret hC hr hlk dX12_partAt_38 ⟨_, rfl, hw⟩
    · have hw := hw.2 c7
      refine z_aload_n hC dX12_partAt_10 rfl rfl ?_
      refine z_aload_n hC dX12_partAt_11 rfl rfl ?_
      refine z_getP hC FX12 31 lk_1386 dX12_partAt_12 (by decide) hw (fun x12 hw => ?_)
      refine z_iload_n hC dX12_partAt_15 rfl rfl ?_
      refine z_aldJ hC dX12_partAt_16 hw (fun x16 hw => ?_)
      refine z_callV (ku' := 0) (kv' := 0) (n := 1) (As := [.long x16]) (st := []) hC (c_X12_isWord l G B S v0 x16 _) hw.2 hw.1 rfl lk_1747 lk_1749 lk_67 lk_133 lk_1750 hd_X12_isWord rfl rfl (Nat.le_of_ble_eq_true rfl) (Nat.le_of_ble_eq_true rfl) rfl (Nat.le_of_ble_eq_true rfl) dX12_partAt_17 (Nat.le_refl 0) (Nat.le_refl 0) (kI (fun x17 S hw => ?_))
      refine z_if_eq (tgt := 29) hC dX12_partAt_20 (by decide) (fun c20 => ?_) (fun c20 => ?_)
      · have hw := hw.1 c20
        refine z_iload_n hC dX12_partAt_29 rfl rfl ?_
        refine z_mask (lv' := [some (.ref v0), none, some (.int v2)]) [true, false, true] rfl ?_
        exact t_X12_partAt_b30 hC hr hlk hnm (fun hw => ih hw) hw
      · have hw := hw.2 c20
        refine z_iload_n hC dX12_partAt_23 rfl rfl ?_
        refine z_iconst hC ic_1 dX12_partAt_24 ?_
        refine z_iadd hC dX12_partAt_25 ?_
        refine z_goto (tgt := 30) hC dX12_partAt_26 (by decide) ?_
        refine z_mask (lv' := [some (.ref v0), none, some (.int v2)]) [true, false, true] rfl ?_
        exact t_X12_partAt_b30 hC hr hlk hnm (fun hw => ih hw) hw
def w_X12_partAt (q : Int32 → hS → Prop) (S : hS) (v0 : Nat) : Prop := (∃ n4 : Nat, w_X12_partAt_b4 q n4 S v0 (-1) 0)
set_option maxRecDepth 100000 in
set_option maxHeartbeats 4000000 in
theorem c_X12_partAt (l : Launch) (G : hG) (B : Nat) (S : hS) (v0 : Nat) (q : Int32 → hS → Prop) : Met l yX12_partAt (hws yX12_partAt cX12_partAt 3 (Option.some FieldType.int)) ({ frames := 2, cells := 0, slots := 0, locals := 82 }) (hPc G B S [.ref v0] (w_X12_partAt q S v0)) (hQ G B (iP q)) (0) (0) (fun r => B ≤ r) := by
  refine hMet (rm := { frames := 2, cells := 0, slots := 0, locals := 82 }) (lv := [some (.ref v0), none, none]) (own := RX12) (fr := 2) (lo := 82) (by decide) rfl rfl rfl (Nat.le_of_ble_eq_true rfl) rfl (fun hw p e R s m args below meth c hC hr hlk hnm => ?_)
  unfold w_X12_partAt at hw
  refine z_iconst hC ic_m1 dX12_partAt_0 ?_
  refine z_istore_n (i := 1) (lv' := [some (.ref v0), some (.int (-1)), none]) hC rfl dX12_partAt_1 (by decide) (hok_v rfl rfl) rfl ?_
  refine z_iconst hC ic_0 dX12_partAt_2 ?_
  refine z_istore_n (i := 2) (lv' := [some (.ref v0), some (.int (-1)), some (.int 0)]) hC rfl dX12_partAt_3 (by decide) (hok_v rfl rfl) rfl ?_
  refine z_mask (lv' := [some (.ref v0), some (.int (-1)), some (.int 0)]) [true, true, true] rfl ?_
  obtain ⟨n4, hw⟩ := hw
  exact t_X12_partAt_b4 hC hr hlk hnm n4 hw
end
section
variable {p : Program} {l : Launch} {e : Env} {R : Room} {s : State} {m : MethodId} {args : Array Value} {below : List Frame} {meth : Method} {c : Code} {G : hG} {B mc ms : Nat}
def w_X12_orderPartAt_b30 (q : Int32 → hS → Prop) (K4 : hS → (Nat) → (Int32) → (Int32) → Prop) (S : hS) (v0 : Nat) (v2 : Int32) (t0 : Int32) : Prop := ∀ y31 : Int32, y31 = v2 + 1 → K4 S v0 t0 y31
set_option maxRecDepth 100000 in
set_option maxHeartbeats 4000000 in
theorem t_X12_orderPartAt_b30 (hC : zC p R s m args c cX12_orderPartAt 3 RX12 G B mc ms 2 82) (hr : meth.sig.returnType = (Option.some FieldType.int)) (hlk : meth.locks = false) (hnm : meth.name = "orderPartAt") {q : Int32 → hS → Prop} {K4 : hS → (Nat) → (Int32) → (Int32) → Prop} (hK4 : ∀ {S : hS} {v0 : Nat} {v1 : Int32} {v2 : Int32}, K4 S v0 v1 v2 → Z p l e R s m args below meth c (MQ below (hQ G B (iP q)) args s mc ms (fun r => B ≤ r)) G B mc ms 3 S 0 0 4 [some (.ref v0), some (.int v1), some (.int v2)] []) {S : hS} {v0 : Nat} {v2 : Int32} {t0 : Int32} (hw : w_X12_orderPartAt_b30 q K4 S v0 v2 t0) : Z p l e R s m args below meth c (MQ below (hQ G B (iP q)) args s mc ms (fun r => B ≤ r)) G B mc ms 3 S 0 0 30 [some (.ref v0), none, some (.int v2)] [.int t0] := by
  unfold w_X12_orderPartAt_b30 at hw
  refine z_istore_n (i := 1) (lv' := [some (.ref v0), some (.int t0), some (.int v2)]) hC rfl dX12_orderPartAt_30 (by decide) (hok_v rfl rfl) rfl ?_
  refine z_inc (i := 2) hC ic_1 dX12_orderPartAt_31 rfl (by decide) (hok_v rfl rfl) (fun y31 e31 => ?_)
  have hw := hw y31 e31
  refine z_goto (tgt := 4) hC dX12_orderPartAt_34 (by decide) ?_
  refine z_mask (lv' := [some (.ref v0), some (.int t0), some (.int y31)]) [true, true, true] rfl ?_
  exact hK4 hw
def w_X12_orderPartAt_b4 (q : Int32 → hS → Prop) : Nat → hS → (Nat) → (Int32) → (Int32) → Prop
  | 0, _, _, _, _ => False
  | n + 1, S, v0, v1, v2 => (7 ≤ v2 → q v1 S) ∧ (¬ 7 ≤ v2 → gP S v0 12 32 (fun x12 => aJ S x12 v2 (fun x16 => oK S v0 12 ∧ w_X12_isWord (fun x17 S => (x17 = 0 → w_X12_orderPartAt_b30 q (fun S v0 v1 v2 => w_X12_orderPartAt_b4 q n S v0 v1 v2) S v0 v2 v1) ∧ (¬ x17 = 0 → w_X12_orderPartAt_b30 q (fun S v0 v1 v2 => w_X12_orderPartAt_b4 q n S v0 v1 v2) S v0 v2 (v2 + 1))) S v0 x16)))
set_option maxRecDepth 100000 in
set_option maxHeartbeats 4000000 in
theorem t_X12_orderPartAt_b4 (hC : zC p R s m args c cX12_orderPartAt 3 RX12 G B mc ms 2 82) (hr : meth.sig.returnType = (Option.some FieldType.int)) (hlk : meth.locks = false) (hnm : meth.name = "orderPartAt") {q : Int32 → hS → Prop} (n : Nat) : ∀ {S : hS} {v0 : Nat} {v1 : Int32} {v2 : Int32} (hw : w_X12_orderPartAt_b4 q n S v0 v1 v2), Z p l e R s m args below meth c (MQ below (hQ G B (iP q)) args s mc ms (fun r => B ≤ r)) G B mc ms 3 S 0 0 4 [some (.ref v0), some (.int v1), some (.int v2)] [] := by
  induction n with
  | zero => intro S v0 v1 v2 hw; exact (by rw [w_X12_orderPartAt_b4] at hw; exact hw.elim)
  | succ n ih =>
    intro S v0 v1 v2 hw
    rw [w_X12_orderPartAt_b4] at hw
    refine z_iload_n hC dX12_orderPartAt_4 rfl rfl ?_
    refine z_bipush hC bi_7 dX12_orderPartAt_5 ?_
    refine z_icmp_ge (tgt := 37) hC dX12_orderPartAt_7 (by decide) (fun c7 => ?_) (fun c7 => ?_)
    · have hw := hw.1 c7
      refine z_iload_n hC dX12_orderPartAt_37 rfl rfl ?_
      exact z_iret hC hr hlk dX12_orderPartAt_38 ⟨_, rfl, hw⟩
    · have hw := hw.2 c7
      refine z_aload_n hC dX12_orderPartAt_10 rfl rfl ?_
      refine z_aload_n hC dX12_orderPartAt_11 rfl rfl ?_
      refine z_getP hC FX12 32 lk_1387 dX12_orderPartAt_12 (by decide) hw (fun x12 hw => ?_)
      refine z_iload_n hC dX12_orderPartAt_15 rfl rfl ?_
      refine z_aldJ hC dX12_orderPartAt_16 hw (fun x16 hw => ?_)
      refine z_callV (ku' := 0) (kv' := 0) (n := 1) (As := [.long x16]) (st := []) hC (c_X12_isWord l G B S v0 x16 _) hw.2 hw.1 rfl lk_1747 lk_1749 lk_67 lk_133 lk_1750 hd_X12_isWord rfl rfl (Nat.le_of_ble_eq_true rfl) (Nat.le_of_ble_eq_true rfl) rfl (Nat.le_of_ble_eq_true rfl) dX12_orderPartAt_17 (Nat.le_refl 0) (Nat.le_refl 0) (kI (fun x17 S hw => ?_))
      refine z_if_eq (tgt := 29) hC dX12_orderPartAt_20 (by decide) (fun c20 => ?_) (fun c20 => ?_)
      · have hw := hw.1 c20
        refine z_iload_n hC dX12_orderPartAt_29 rfl rfl ?_
        refine z_mask (lv' := [some (.ref v0), none, some (.int v2)]) [true, false, true] rfl ?_
        exact t_X12_orderPartAt_b30 hC hr hlk hnm (fun hw => ih hw) hw
      · have hw := hw.2 c20
        refine z_iload_n hC dX12_orderPartAt_23 rfl rfl ?_
        refine z_iconst hC ic_1 dX12_orderPartAt_24 ?_
        refine z_iadd hC dX12_orderPartAt_25 ?_
        refine z_goto (tgt := 30) hC dX12_orderPartAt_26 (by decide) ?_
        refine z_mask (lv' := [some (.ref v0), none, some (.int v2)]) [true, false, true] rfl ?_
        exact t_X12_orderPartAt_b30 hC hr hlk hnm (fun hw => ih hw) hw
def w_X12_orderPartAt (q : Int32 → hS → Prop) (S : hS) (v0 : Nat) : Prop := (∃ n4 : Nat, w_X12_orderPartAt_b4 q n4 S v0 (-1) 0)
set_option maxRecDepth 100000 in
set_option maxHeartbeats 4000000 in
theorem c_X12_orderPartAt (l : Launch) (G : hG) (B : Nat) (S : hS) (v0 : Nat) (q : Int32 → hS → Prop) : Met l yX12_orderPartAt (hws yX12_orderPartAt cX12_orderPartAt 3 (Option.some FieldType.int)) ({ frames := 2, cells := 0, slots := 0, locals := 82 }) (hPc G B S [.ref v0] (w_X12_orderPartAt q S v0)) (hQ G B (iP q)) (0) (0) (fun r => B ≤ r) := by
  refine hMet (rm := { frames := 2, cells := 0, slots := 0, locals := 82 }) (lv := [some (.ref v0), none, none]) (own := RX12) (fr := 2) (lo := 82) (by decide) rfl rfl rfl (Nat.le_of_ble_eq_true rfl) rfl (fun hw p e R s m args below meth c hC hr hlk hnm => ?_)
  unfold w_X12_orderPartAt at hw
  refine z_iconst hC ic_m1 dX12_orderPartAt_0 ?_
  refine z_istore_n (i := 1) (lv' := [some (.ref v0), some (.int (-1)), none]) hC rfl dX12_orderPartAt_1 (by decide) (hok_v rfl rfl) rfl ?_
  refine z_iconst hC ic_0 dX12_orderPartAt_2 ?_
  refine z_istore_n (i := 2) (lv' := [some (.ref v0), some (.int (-1)), some (.int 0)]) hC rfl dX12_orderPartAt_3 (by decide) (hok_v rfl rfl) rfl ?_
  refine z_mask (lv' := [some (.ref v0), some (.int (-1)), some (.int 0)]) [true, true, true] rfl ?_
  obtain ⟨n4, hw⟩ := hw
  exact t_X12_orderPartAt_b4 hC hr hlk hnm n4 hw
end
section
variable {p : Program} {l : Launch} {e : Env} {R : Room} {s : State} {m : MethodId} {args : Array Value} {below : List Frame} {meth : Method} {c : Code} {G : hG} {B mc ms : Nat}
def w_X12_openBracket_b15 (q : hS → Prop) (S : hS) (v0 : Nat) (v1 : Int32) (t0 : Int32) (t1 : Nat) : Prop := oK S t1 12 ∧ w_X12_must (fun S => gI S v0 12 19 (fun x19 => (¬ x19 = 0 → q S) ∧ (x19 = 0 → gI S v0 12 30 (fun x27 => pI S v0 12 30 (x27 + 1) (fun S => oK S v0 12 ∧ w_X12_push (fun S => q S) S v0 v1 0))))) S t1 t0
set_option maxRecDepth 100000 in
set_option maxHeartbeats 4000000 in
theorem t_X12_openBracket_b15 (hC : zC p R s m args c cX12_openBracket 2 RX12 G B mc ms 4 121) (hr : meth.sig.returnType = (Option.none : Option FieldType)) (hlk : meth.locks = false) (hnm : meth.name = "openBracket") {q : hS → Prop} {S : hS} {v0 : Nat} {v1 : Int32} {t0 : Int32} {t1 : Nat} (hw : w_X12_openBracket_b15 q S v0 v1 t0 t1) : Z p l e R s m args below meth c (MQ below (hQ G B (vP q)) args s mc ms (fun r => B ≤ r)) G B mc ms 2 S 0 0 15 [some (.ref v0), some (.int v1)] [.int t0, .ref t1] := by
  unfold w_X12_openBracket_b15 at hw
  refine z_callV (ku' := 0) (kv' := 0) (n := 1) (As := [.int t0]) (st := []) hC (c_X12_must l G B S t1 t0 _) hw.2 hw.1 rfl lk_1751 lk_1753 lk_68 lk_133 lk_1754 hd_X12_must rfl rfl (Nat.le_of_ble_eq_true rfl) (Nat.le_of_ble_eq_true rfl) rfl (Nat.le_of_ble_eq_true rfl) dX12_openBracket_15 (Nat.le_refl 0) (Nat.le_refl 0) (kV (fun S hw => ?_))
  refine z_aload_n hC dX12_openBracket_18 rfl rfl ?_
  refine z_getI hC FX12 19 lk_1374 dX12_openBracket_19 (by decide) hw (fun x19 hw => ?_)
  refine z_if_ne (tgt := 41) hC dX12_openBracket_22 (by decide) (fun c22 => ?_) (fun c22 => ?_)
  · have hw := hw.1 c22
    exact z_vret hC hr hlk dX12_openBracket_41 ⟨rfl, hw⟩
  · have hw := hw.2 c22
    refine z_aload_n hC dX12_openBracket_25 rfl rfl ?_
    refine z_dup hC rfl dX12_openBracket_26 ?_
    refine z_getI hC FX12 30 lk_1385 dX12_openBracket_27 (by decide) hw (fun x27 hw => ?_)
    refine z_iconst hC ic_1 dX12_openBracket_30 ?_
    refine z_iadd hC dX12_openBracket_31 ?_
    refine z_putI hC FX12 30 lk_1385 dX12_openBracket_32 (by decide) rfl rfl hw (fun S hw => ?_)
    refine z_aload_n hC dX12_openBracket_35 rfl rfl ?_
    refine z_iload_n hC dX12_openBracket_36 rfl rfl ?_
    refine z_iconst hC ic_0 dX12_openBracket_37 ?_
    refine z_callV (ku' := 0) (kv' := 0) (n := 2) (As := [.int v1, .int 0]) (st := []) hC (c_X12_push l G B S v0 v1 0 _) hw.2 hw.1 rfl lk_1764 lk_1766 lk_71 lk_133 lk_1767 hd_X12_push rfl rfl (Nat.le_of_ble_eq_true rfl) (Nat.le_of_ble_eq_true rfl) rfl (Nat.le_of_ble_eq_true rfl) dX12_openBracket_38 (Nat.le_refl 0) (Nat.le_refl 0) (kV (fun S hw => ?_))
    exact z_vret hC hr hlk dX12_openBracket_41 ⟨rfl, hw⟩
def w_X12_openBracket (q : hS → Prop) (S : hS) (v0 : Nat) (v1 : Int32) : Prop := gI S v0 12 30 (fun x2 => (8 ≤ x2 → w_X12_openBracket_b15 q S v0 v1 0 v0) ∧ (¬ 8 ≤ x2 → w_X12_openBracket_b15 q S v0 v1 1 v0))
set_option maxRecDepth 100000 in
set_option maxHeartbeats 4000000 in
theorem c_X12_openBracket (l : Launch) (G : hG) (B : Nat) (S : hS) (v0 : Nat) (v1 : Int32) (q : hS → Prop) : Met l yX12_openBracket (hws yX12_openBracket cX12_openBracket 2 (Option.none : Option FieldType)) ({ frames := 4, cells := 0, slots := 0, locals := 121 }) (hPc G B S [.ref v0, .int v1] (w_X12_openBracket q S v0 v1)) (hQ G B (vP q)) (0) (0) (fun r => B ≤ r) := by
  refine hMet (rm := { frames := 4, cells := 0, slots := 0, locals := 121 }) (lv := [some (.ref v0), some (.int v1)]) (own := RX12) (fr := 4) (lo := 121) (by decide) rfl rfl rfl (Nat.le_of_ble_eq_true rfl) rfl (fun hw p e R s m args below meth c hC hr hlk hnm => ?_)
  unfold w_X12_openBracket at hw
  refine z_aload_n hC dX12_openBracket_0 rfl rfl ?_
  refine z_aload_n hC dX12_openBracket_1 rfl rfl ?_
  refine z_getI hC FX12 30 lk_1385 dX12_openBracket_2 (by decide) hw (fun x2 hw => ?_)
  refine z_bipush hC bi_8 dX12_openBracket_5 ?_
  refine z_icmp_ge (tgt := 14) hC dX12_openBracket_7 (by decide) (fun c7 => ?_) (fun c7 => ?_)
  · have hw := hw.1 c7
    refine z_iconst hC ic_0 dX12_openBracket_14 ?_
    refine z_mask (lv' := [some (.ref v0), some (.int v1)]) [true, true] rfl ?_
    exact t_X12_openBracket_b15 hC hr hlk hnm hw
  · have hw := hw.2 c7
    refine z_iconst hC ic_1 dX12_openBracket_10 ?_
    refine z_goto (tgt := 15) hC dX12_openBracket_11 (by decide) ?_
    refine z_mask (lv' := [some (.ref v0), some (.int v1)]) [true, true] rfl ?_
    exact t_X12_openBracket_b15 hC hr hlk hnm hw
end
section
variable {p : Program} {l : Launch} {e : Env} {R : Room} {s : State} {m : MethodId} {args : Array Value} {below : List Frame} {meth : Method} {c : Code} {G : hG} {B mc ms : Nat}
def w_X12_leaf_b19 (q : hS → Prop) (S : hS) (v0 : Nat) (v2 : Int32) (v3 : Int32) (t0 : Int32) (t1 : Nat) : Prop := oK S t1 12 ∧ w_X12_must (fun S => gI S v0 12 19 (fun x23 => (¬ x23 = 0 → q S) ∧ (x23 = 0 → oK S v0 12 ∧ w_X12_emit (fun S => gI S v0 12 26 (fun x37 => pI S v0 12 26 (x37 + 1) (fun S => q S))) S v0 v2 v3))) S t1 t0
set_option maxRecDepth 100000 in
set_option maxHeartbeats 4000000 in
theorem t_X12_leaf_b19 (hC : zC p R s m args c cX12_leaf 4 RX12 G B mc ms 4 121) (hr : meth.sig.returnType = (Option.none : Option FieldType)) (hlk : meth.locks = false) (hnm : meth.name = "leaf") {q : hS → Prop} {S : hS} {v0 : Nat} {v2 : Int32} {v3 : Int32} {t0 : Int32} {t1 : Nat} (hw : w_X12_leaf_b19 q S v0 v2 v3 t0 t1) : Z p l e R s m args below meth c (MQ below (hQ G B (vP q)) args s mc ms (fun r => B ≤ r)) G B mc ms 4 S 0 0 19 [some (.ref v0), none, some (.int v2), some (.int v3)] [.int t0, .ref t1] := by
  unfold w_X12_leaf_b19 at hw
  refine z_callV (ku' := 0) (kv' := 0) (n := 1) (As := [.int t0]) (st := []) hC (c_X12_must l G B S t1 t0 _) hw.2 hw.1 rfl lk_1751 lk_1753 lk_68 lk_133 lk_1754 hd_X12_must rfl rfl (Nat.le_of_ble_eq_true rfl) (Nat.le_of_ble_eq_true rfl) rfl (Nat.le_of_ble_eq_true rfl) dX12_leaf_19 (Nat.le_refl 0) (Nat.le_refl 0) (kV (fun S hw => ?_))
  refine z_aload_n hC dX12_leaf_22 rfl rfl ?_
  refine z_getI hC FX12 19 lk_1374 dX12_leaf_23 (by decide) hw (fun x23 hw => ?_)
  refine z_if_ne (tgt := 45) hC dX12_leaf_26 (by decide) (fun c26 => ?_) (fun c26 => ?_)
  · have hw := hw.1 c26
    exact z_vret hC hr hlk dX12_leaf_45 ⟨rfl, hw⟩
  · have hw := hw.2 c26
    refine z_aload_n hC dX12_leaf_29 rfl rfl ?_
    refine z_iload_n hC dX12_leaf_30 rfl rfl ?_
    refine z_iload_n hC dX12_leaf_31 rfl rfl ?_
    refine z_callV (ku' := 0) (kv' := 0) (n := 2) (As := [.int v2, .int v3]) (st := []) hC (c_X12_emit l G B S v0 v2 v3 _) hw.2 hw.1 rfl lk_1793 lk_1795 lk_78 lk_133 lk_1796 hd_X12_emit rfl rfl (Nat.le_of_ble_eq_true rfl) (Nat.le_of_ble_eq_true rfl) rfl (Nat.le_of_ble_eq_true rfl) dX12_leaf_32 (Nat.le_refl 0) (Nat.le_refl 0) (kV (fun S hw => ?_))
    refine z_aload_n hC dX12_leaf_35 rfl rfl ?_
    refine z_dup hC rfl dX12_leaf_36 ?_
    refine z_getI hC FX12 26 lk_1381 dX12_leaf_37 (by decide) hw (fun x37 hw => ?_)
    refine z_iconst hC ic_1 dX12_leaf_40 ?_
    refine z_iadd hC dX12_leaf_41 ?_
    refine z_putI hC FX12 26 lk_1381 dX12_leaf_42 (by decide) rfl rfl hw (fun S hw => ?_)
    exact z_vret hC hr hlk dX12_leaf_45 ⟨rfl, hw⟩
def w_X12_leaf_b18 (q : hS → Prop) (S : hS) (v0 : Nat) (v2 : Int32) (v3 : Int32) (t0 : Nat) : Prop := w_X12_leaf_b19 q S v0 v2 v3 0 t0
set_option maxRecDepth 100000 in
set_option maxHeartbeats 4000000 in
theorem t_X12_leaf_b18 (hC : zC p R s m args c cX12_leaf 4 RX12 G B mc ms 4 121) (hr : meth.sig.returnType = (Option.none : Option FieldType)) (hlk : meth.locks = false) (hnm : meth.name = "leaf") {q : hS → Prop} {S : hS} {v0 : Nat} {v2 : Int32} {v3 : Int32} {t0 : Nat} (hw : w_X12_leaf_b18 q S v0 v2 v3 t0) : Z p l e R s m args below meth c (MQ below (hQ G B (vP q)) args s mc ms (fun r => B ≤ r)) G B mc ms 4 S 0 0 18 [some (.ref v0), none, some (.int v2), some (.int v3)] [.ref t0] := by
  unfold w_X12_leaf_b18 at hw
  refine z_iconst hC ic_0 dX12_leaf_18 ?_
  refine z_mask (lv' := [some (.ref v0), none, some (.int v2), some (.int v3)]) [true, false, true, true] rfl ?_
  exact t_X12_leaf_b19 hC hr hlk hnm hw
def w_X12_leaf (q : hS → Prop) (S : hS) (v0 : Nat) (v1 : Int32) (v2 : Int32) (v3 : Int32) : Prop := (v1 = 0 → w_X12_leaf_b18 q S v0 v2 v3 v0) ∧ (¬ v1 = 0 → gI S v0 12 26 (fun x6 => (50 ≤ x6 → w_X12_leaf_b18 q S v0 v2 v3 v0) ∧ (¬ 50 ≤ x6 → w_X12_leaf_b19 q S v0 v2 v3 1 v0)))
set_option maxRecDepth 100000 in
set_option maxHeartbeats 4000000 in
theorem c_X12_leaf (l : Launch) (G : hG) (B : Nat) (S : hS) (v0 : Nat) (v1 : Int32) (v2 : Int32) (v3 : Int32) (q : hS → Prop) : Met l yX12_leaf (hws yX12_leaf cX12_leaf 4 (Option.none : Option FieldType)) ({ frames := 4, cells := 0, slots := 0, locals := 121 }) (hPc G B S [.ref v0, .int v1, .int v2, .int v3] (w_X12_leaf q S v0 v1 v2 v3)) (hQ G B (vP q)) (0) (0) (fun r => B ≤ r) := by
  refine hMet (rm := { frames := 4, cells := 0, slots := 0, locals := 121 }) (lv := [some (.ref v0), some (.int v1), some (.int v2), some (.int v3)]) (own := RX12) (fr := 4) (lo := 121) (by decide) rfl rfl rfl (Nat.le_of_ble_eq_true rfl) rfl (fun hw p e R s m args below meth c hC hr hlk hnm => ?_)
  unfold w_X12_leaf at hw
  refine z_aload_n hC dX12_leaf_0 rfl rfl ?_
  refine z_iload_n hC dX12_leaf_1 rfl rfl ?_
  refine z_if_eq (tgt := 18) hC dX12_leaf_2 (by decide) (fun c2 => ?_) (fun c2 => ?_)
  · have hw := hw.1 c2
    refine z_mask (lv' := [some (.ref v0), none, some (.int v2), some (.int v3)]) [true, false, true, true] rfl ?_
    exact t_X12_leaf_b18 hC hr hlk hnm hw
  · have hw := hw.2 c2
    refine z_aload_n hC dX12_leaf_5 rfl rfl ?_
    refine z_getI hC FX12 26 lk_1381 dX12_leaf_6 (by decide) hw (fun x6 hw => ?_)
    refine z_bipush hC bi_50 dX12_leaf_9 ?_
    refine z_icmp_ge (tgt := 18) hC dX12_leaf_11 (by decide) (fun c11 => ?_) (fun c11 => ?_)
    · have hw := hw.1 c11
      refine z_mask (lv' := [some (.ref v0), none, some (.int v2), some (.int v3)]) [true, false, true, true] rfl ?_
      exact t_X12_leaf_b18 hC hr hlk hnm hw
    · have hw := hw.2 c11
      refine z_iconst hC ic_1 dX12_leaf_14 ?_
      refine z_goto (tgt := 19) hC dX12_leaf_15 (by decide) ?_
      refine z_mask (lv' := [some (.ref v0), none, some (.int v2), some (.int v3)]) [true, false, true, true] rfl ?_
      exact t_X12_leaf_b19 hC hr hlk hnm hw
end
