section
variable {p : Program} {l : Launch} {e : Env} {R : Room} {s : State} {m : MethodId} {args : Array Value} {below : List Frame} {meth : Method} {c : Code} {G : hG} {B mc ms : Nat}
def w_X12_chain_b88 (q : Int32 → hS → Prop) (K62 : hS → (Nat) → (Int32) → (Int32) → (Int32) → (Int32) → (Int32) → (Int32) → Prop) (S : hS) (v0 : Nat) (v1 : Int32) (v2 : Int32) (v3 : Int32) (v4 : Int32) (v5 : Int32) (v6 : Int32) (t0 : Int32) (t1 : Int32) (t2 : Nat) : Prop := sI S t2 t1 t0 (fun S => ∀ y89 : Int32, y89 = v6 + 1 → K62 S v0 v1 v2 v3 v4 v5 y89)
set_option maxRecDepth 100000 in
set_option maxHeartbeats 4000000 in
theorem t_X12_chain_b88 (hC : zC p R s m args c cX12_chain 10 RX12 G B mc ms 10 274) (hr : meth.sig.returnType = (Option.some FieldType.int)) (hlk : meth.locks = false) (hnm : meth.name = "chain") {q : Int32 → hS → Prop} {K62 : hS → (Nat) → (Int32) → (Int32) → (Int32) → (Int32) → (Int32) → (Int32) → Prop} (hK62 : ∀ {S : hS} {v0 : Nat} {v1 : Int32} {v2 : Int32} {v3 : Int32} {v4 : Int32} {v5 : Int32} {v6 : Int32}, K62 S v0 v1 v2 v3 v4 v5 v6 → Z p l e R s m args below meth c (MQ below (hQ G B (iP q)) args s mc ms (fun r => B ≤ r)) G B mc ms 10 S 0 0 62 [some (.ref v0), some (.int v1), some (.int v2), some (.int v3), some (.int v4), some (.int v5), some (.int v6), none, none, none] []) {S : hS} {v0 : Nat} {v1 : Int32} {v2 : Int32} {v3 : Int32} {v4 : Int32} {v5 : Int32} {v6 : Int32} {t0 : Int32} {t1 : Int32} {t2 : Nat} (hw : w_X12_chain_b88 q K62 S v0 v1 v2 v3 v4 v5 v6 t0 t1 t2) : Z p l e R s m args below meth c (MQ below (hQ G B (iP q)) args s mc ms (fun r => B ≤ r)) G B mc ms 10 S 0 0 88 [some (.ref v0), some (.int v1), some (.int v2), some (.int v3), some (.int v4), some (.int v5), some (.int v6), none, none, none] [.int t0, .int t1, .ref t2] := by
  unfold w_X12_chain_b88 at hw
  refine z_astI hC dX12_chain_88 hw (fun S hw => ?_)
  refine z_inc (i := 6) hC ic_1 dX12_chain_89 rfl (by decide) (hok_v rfl rfl) (fun y89 e89 => ?_)
  have hw := hw y89 e89
  refine z_goto (tgt := 62) hC dX12_chain_92 (by decide) ?_
  refine z_mask (lv' := [some (.ref v0), some (.int v1), some (.int v2), some (.int v3), some (.int v4), some (.int v5), some (.int y89), none, none, none]) [true, true, true, true, true, true, true, false, false, false] rfl ?_
  exact hK62 hw
def w_X12_chain_b172 (q : Int32 → hS → Prop) (K98 : hS → (Nat) → (Int32) → (Int32) → (Int32) → (Int32) → (Int32) → (Int32) → Prop) (K108 : hS → (Nat) → (Int32) → (Int32) → (Int32) → (Int32) → (Int32) → (Int32) → (Int32) → Prop) (K118 : hS → (Nat) → (Int32) → (Int32) → (Int32) → (Int32) → (Int32) → (Int32) → (Int32) → (Int32) → Prop) (S : hS) (v0 : Nat) (v1 : Int32) (v2 : Int32) (v3 : Int32) (v4 : Int32) (v5 : Int32) (v6 : Int32) (v7 : Int32) (v8 : Int32) (t0 : Int32) (t1 : Int32) (t2 : Nat) : Prop := sI S t2 t1 t0 (fun S => ∀ y173 : Int32, y173 = v8 + 1 → K118 S v0 v1 v2 v3 v4 v5 v6 v7 y173)
set_option maxRecDepth 100000 in
set_option maxHeartbeats 4000000 in
theorem t_X12_chain_b172 (hC : zC p R s m args c cX12_chain 10 RX12 G B mc ms 10 274) (hr : meth.sig.returnType = (Option.some FieldType.int)) (hlk : meth.locks = false) (hnm : meth.name = "chain") {q : Int32 → hS → Prop} {K98 : hS → (Nat) → (Int32) → (Int32) → (Int32) → (Int32) → (Int32) → (Int32) → Prop} (hK98 : ∀ {S : hS} {v0 : Nat} {v1 : Int32} {v2 : Int32} {v3 : Int32} {v4 : Int32} {v5 : Int32} {v6 : Int32}, K98 S v0 v1 v2 v3 v4 v5 v6 → Z p l e R s m args below meth c (MQ below (hQ G B (iP q)) args s mc ms (fun r => B ≤ r)) G B mc ms 10 S 0 0 98 [some (.ref v0), some (.int v1), some (.int v2), some (.int v3), some (.int v4), some (.int v5), some (.int v6), none, none, none] []) {K108 : hS → (Nat) → (Int32) → (Int32) → (Int32) → (Int32) → (Int32) → (Int32) → (Int32) → Prop} (hK108 : ∀ {S : hS} {v0 : Nat} {v1 : Int32} {v2 : Int32} {v3 : Int32} {v4 : Int32} {v5 : Int32} {v6 : Int32} {v7 : Int32}, K108 S v0 v1 v2 v3 v4 v5 v6 v7 → Z p l e R s m args below meth c (MQ below (hQ G B (iP q)) args s mc ms (fun r => B ≤ r)) G B mc ms 10 S 0 0 108 [some (.ref v0), some (.int v1), some (.int v2), some (.int v3), some (.int v4), some (.int v5), some (.int v6), some (.int v7), none, none] []) {K118 : hS → (Nat) → (Int32) → (Int32) → (Int32) → (Int32) → (Int32) → (Int32) → (Int32) → (Int32) → Prop} (hK118 : ∀ {S : hS} {v0 : Nat} {v1 : Int32} {v2 : Int32} {v3 : Int32} {v4 : Int32} {v5 : Int32} {v6 : Int32} {v7 : Int32} {v8 : Int32}, K118 S v0 v1 v2 v3 v4 v5 v6 v7 v8 → Z p l e R s m args below meth c (MQ below (hQ G B (iP q)) args s mc ms (fun r => B ≤ r)) G B mc ms 10 S 0 0 118 [some (.ref v0), some (.int v1), some (.int v2), some (.int v3), some (.int v4), some (.int v5), some (.int v6), some (.int v7), some (.int v8), none] []) {S : hS} {v0 : Nat} {v1 : Int32} {v2 : Int32} {v3 : Int32} {v4 : Int32} {v5 : Int32} {v6 : Int32} {v7 : Int32} {v8 : Int32} {t0 : Int32} {t1 : Int32} {t2 : Nat} (hw : w_X12_chain_b172 q K98 K108 K118 S v0 v1 v2 v3 v4 v5 v6 v7 v8 t0 t1 t2) : Z p l e R s m args below meth c (MQ below (hQ G B (iP q)) args s mc ms (fun r => B ≤ r)) G B mc ms 10 S 0 0 172 [some (.ref v0), some (.int v1), some (.int v2), some (.int v3), some (.int v4), some (.int v5), some (.int v6), some (.int v7), some (.int v8), none] [.int t0, .int t1, .ref t2] := by
  unfold w_X12_chain_b172 at hw
  refine z_astI hC dX12_chain_172 hw (fun S hw => ?_)
  refine z_inc (i := 8) hC ic_1 dX12_chain_173 rfl (by decide) (hok_v rfl rfl) (fun y173 e173 => ?_)
  have hw := hw y173 e173
  refine z_goto (tgt := 118) hC dX12_chain_176 (by decide) ?_
  refine z_mask (lv' := [some (.ref v0), some (.int v1), some (.int v2), some (.int v3), some (.int v4), some (.int v5), some (.int v6), some (.int v7), some (.int y173), none]) [true, true, true, true, true, true, true, true, true, false] rfl ?_
  exact hK118 hw
def w_X12_chain_b179 (q : Int32 → hS → Prop) (K98 : hS → (Nat) → (Int32) → (Int32) → (Int32) → (Int32) → (Int32) → (Int32) → Prop) (K108 : hS → (Nat) → (Int32) → (Int32) → (Int32) → (Int32) → (Int32) → (Int32) → (Int32) → Prop) (S : hS) (v0 : Nat) (v1 : Int32) (v2 : Int32) (v3 : Int32) (v4 : Int32) (v5 : Int32) (v6 : Int32) (v7 : Int32) : Prop := ∀ y179 : Int32, y179 = v7 + 1 → K108 S v0 v1 v2 v3 v4 v5 v6 y179
set_option maxRecDepth 100000 in
set_option maxHeartbeats 4000000 in
theorem t_X12_chain_b179 (hC : zC p R s m args c cX12_chain 10 RX12 G B mc ms 10 274) (hr : meth.sig.returnType = (Option.some FieldType.int)) (hlk : meth.locks = false) (hnm : meth.name = "chain") {q : Int32 → hS → Prop} {K98 : hS → (Nat) → (Int32) → (Int32) → (Int32) → (Int32) → (Int32) → (Int32) → Prop} (hK98 : ∀ {S : hS} {v0 : Nat} {v1 : Int32} {v2 : Int32} {v3 : Int32} {v4 : Int32} {v5 : Int32} {v6 : Int32}, K98 S v0 v1 v2 v3 v4 v5 v6 → Z p l e R s m args below meth c (MQ below (hQ G B (iP q)) args s mc ms (fun r => B ≤ r)) G B mc ms 10 S 0 0 98 [some (.ref v0), some (.int v1), some (.int v2), some (.int v3), some (.int v4), some (.int v5), some (.int v6), none, none, none] []) {K108 : hS → (Nat) → (Int32) → (Int32) → (Int32) → (Int32) → (Int32) → (Int32) → (Int32) → Prop} (hK108 : ∀ {S : hS} {v0 : Nat} {v1 : Int32} {v2 : Int32} {v3 : Int32} {v4 : Int32} {v5 : Int32} {v6 : Int32} {v7 : Int32}, K108 S v0 v1 v2 v3 v4 v5 v6 v7 → Z p l e R s m args below meth c (MQ below (hQ G B (iP q)) args s mc ms (fun r => B ≤ r)) G B mc ms 10 S 0 0 108 [some (.ref v0), some (.int v1), some (.int v2), some (.int v3), some (.int v4), some (.int v5), some (.int v6), some (.int v7), none, none] []) {S : hS} {v0 : Nat} {v1 : Int32} {v2 : Int32} {v3 : Int32} {v4 : Int32} {v5 : Int32} {v6 : Int32} {v7 : Int32} (hw : w_X12_chain_b179 q K98 K108 S v0 v1 v2 v3 v4 v5 v6 v7) : Z p l e R s m args below meth c (MQ below (hQ G B (iP q)) args s mc ms (fun r => B ≤ r)) G B mc ms 10 S 0 0 179 [some (.ref v0), some (.int v1), some (.int v2), some (.int v3), some (.int v4), some (.int v5), some (.int v6), some (.int v7), none, none] [] := by
  unfold w_X12_chain_b179 at hw
  refine z_inc (i := 7) hC ic_1 dX12_chain_179 rfl (by decide) (hok_v rfl rfl) (fun y179 e179 => ?_)
  have hw := hw y179 e179
  refine z_goto (tgt := 108) hC dX12_chain_182 (by decide) ?_
  refine z_mask (lv' := [some (.ref v0), some (.int v1), some (.int v2), some (.int v3), some (.int v4), some (.int v5), some (.int v6), some (.int y179), none, none]) [true, true, true, true, true, true, true, true, false, false] rfl ?_
  exact hK108 hw
def w_X12_chain_b118 (q : Int32 → hS → Prop) (K98 : hS → (Nat) → (Int32) → (Int32) → (Int32) → (Int32) → (Int32) → (Int32) → Prop) (K108 : hS → (Nat) → (Int32) → (Int32) → (Int32) → (Int32) → (Int32) → (Int32) → (Int32) → Prop) : Nat → hS → (Nat) → (Int32) → (Int32) → (Int32) → (Int32) → (Int32) → (Int32) → (Int32) → (Int32) → Prop
  | 0, _, _, _, _, _, _, _, _, _, _ => False
  | n + 1, S, v0, v1, v2, v3, v4, v5, v6, v7, v8 => (v5 ≤ v8 → w_X12_chain_b179 q K98 K108 S v0 v1 v2 v3 v4 v5 v6 v7) ∧ (¬ v5 ≤ v8 → (v7 = v2 → w_X12_chain_b179 q K98 K108 S v0 v1 v2 v3 v4 v5 v6 v7) ∧ (¬ v7 = v2 → oK S v0 12 ∧ w_X12_chainBy (fun x137 S => gP S v0 12 49 (fun x143 => gP S v0 12 49 (fun x151 => aI S x151 v7 (fun x156 => (x156 ≤ x137 → gP S v0 12 49 (fun x166 => aI S x166 v7 (fun x171 => w_X12_chain_b172 q K98 K108 (fun S v0 v1 v2 v3 v4 v5 v6 v7 v8 => w_X12_chain_b118 q K98 K108 n S v0 v1 v2 v3 v4 v5 v6 v7 v8) S v0 v1 v2 v3 v4 v5 v6 v7 v8 x171 v7 x143))) ∧ (¬ x156 ≤ x137 → w_X12_chain_b172 q K98 K108 (fun S v0 v1 v2 v3 v4 v5 v6 v7 v8 => w_X12_chain_b118 q K98 K108 n S v0 v1 v2 v3 v4 v5 v6 v7 v8) S v0 v1 v2 v3 v4 v5 v6 v7 v8 x137 v7 x143))))) S v0 v7 v8 v3))
set_option maxRecDepth 100000 in
set_option maxHeartbeats 4000000 in
theorem t_X12_chain_b118 (hC : zC p R s m args c cX12_chain 10 RX12 G B mc ms 10 274) (hr : meth.sig.returnType = (Option.some FieldType.int)) (hlk : meth.locks = false) (hnm : meth.name = "chain") {q : Int32 → hS → Prop} {K98 : hS → (Nat) → (Int32) → (Int32) → (Int32) → (Int32) → (Int32) → (Int32) → Prop} (hK98 : ∀ {S : hS} {v0 : Nat} {v1 : Int32} {v2 : Int32} {v3 : Int32} {v4 : Int32} {v5 : Int32} {v6 : Int32}, K98 S v0 v1 v2 v3 v4 v5 v6 → Z p l e R s m args below meth c (MQ below (hQ G B (iP q)) args s mc ms (fun r => B ≤ r)) G B mc ms 10 S 0 0 98 [some (.ref v0), some (.int v1), some (.int v2), some (.int v3), some (.int v4), some (.int v5), some (.int v6), none, none, none] []) {K108 : hS → (Nat) → (Int32) → (Int32) → (Int32) → (Int32) → (Int32) → (Int32) → (Int32) → Prop} (hK108 : ∀ {S : hS} {v0 : Nat} {v1 : Int32} {v2 : Int32} {v3 : Int32} {v4 : Int32} {v5 : Int32} {v6 : Int32} {v7 : Int32}, K108 S v0 v1 v2 v3 v4 v5 v6 v7 → Z p l e R s m args below meth c (MQ below (hQ G B (iP q)) args s mc ms (fun r => B ≤ r)) G B mc ms 10 S 0 0 108 [some (.ref v0), some (.int v1), some (.int v2), some (.int v3), some (.int v4), some (.int v5), some (.int v6), some (.int v7), none, none] []) (n : Nat) : ∀ {S : hS} {v0 : Nat} {v1 : Int32} {v2 : Int32} {v3 : Int32} {v4 : Int32} {v5 : Int32} {v6 : Int32} {v7 : Int32} {v8 : Int32} (hw : w_X12_chain_b118 q K98 K108 n S v0 v1 v2 v3 v4 v5 v6 v7 v8), Z p l e R s m args below meth c (MQ below (hQ G B (iP q)) args s mc ms (fun r => B ≤ r)) G B mc ms 10 S 0 0 118 [some (.ref v0), some (.int v1), some (.int v2), some (.int v3), some (.int v4), some (.int v5), some (.int v6), some (.int v7), some (.int v8), none] [] := by
  induction n with
  | zero => intro S v0 v1 v2 v3 v4 v5 v6 v7 v8 hw; exact (by rw [w_X12_chain_b118] at hw; exact hw.elim)
  | succ n ih =>
    intro S v0 v1 v2 v3 v4 v5 v6 v7 v8 hw
    rw [w_X12_chain_b118] at hw
    refine z_iload hC dX12_chain_118 rfl ?_
    refine z_iload hC dX12_chain_120 rfl ?_
    refine z_icmp_ge (tgt := 179) hC dX12_chain_122 (by decide) (fun c122 => ?_) (fun c122 => ?_)
    · have hw := hw.1 c122
      refine z_mask (lv' := [some (.ref v0), some (.int v1), some (.int v2), some (.int v3), some (.int v4), some (.int v5), some (.int v6), some (.int v7), none, none]) [true, true, true, true, true, true, true, true, false, false] rfl ?_
      exact t_X12_chain_b179 hC hr hlk hnm hK98 hK108 hw
    · have hw := hw.2 c122
      refine z_iload hC dX12_chain_125 rfl ?_
      refine z_iload_n hC dX12_chain_127 rfl rfl ?_
      refine z_icmp_eq (tgt := 179) hC dX12_chain_128 (by decide) (fun c128 => ?_) (fun c128 => ?_)
      · have hw := hw.1 c128
        refine z_mask (lv' := [some (.ref v0), some (.int v1), some (.int v2), some (.int v3), some (.int v4), some (.int v5), some (.int v6), some (.int v7), none, none]) [true, true, true, true, true, true, true, true, false, false] rfl ?_
        exact t_X12_chain_b179 hC hr hlk hnm hK98 hK108 hw
      · have hw := hw.2 c128
        refine z_aload_n hC dX12_chain_131 rfl rfl ?_
        refine z_iload hC dX12_chain_132 rfl ?_
        refine z_iload hC dX12_chain_134 rfl ?_
        refine z_iload_n hC dX12_chain_136 rfl rfl ?_
        refine z_callV (ku' := 0) (kv' := 0) (n := 3) (As := [.int v7, .int v8, .int v3]) (st := []) hC (c_X12_chainBy l G B S v0 v7 v8 v3 _) hw.2 hw.1 rfl lk_2008 lk_2010 lk_111 lk_133 lk_2011 hd_X12_chainBy rfl rfl (Nat.le_of_ble_eq_true rfl) (Nat.le_of_ble_eq_true rfl) rfl (Nat.le_of_ble_eq_true rfl) dX12_chain_137 (Nat.le_refl 0) (Nat.le_refl 0) (kI (fun x137 S hw => ?_))
        refine z_istore (i := 9) (lv' := [some (.ref v0), some (.int v1), some (.int v2), some (.int v3), some (.int v4), some (.int v5), some (.int v6), some (.int v7), some (.int v8), some (.int x137)]) hC dX12_chain_140 (by decide) (hok_v rfl rfl) rfl ?_
        refine z_aload_n hC dX12_chain_142 rfl rfl ?_
        refine z_getP hC FX12 49 lk_1404 dX12_chain_143 (by decide) hw (fun x143 hw => ?_)
        refine z_iload hC dX12_chain_146 rfl ?_
        refine z_iload hC dX12_chain_148 rfl ?_
        refine z_aload_n hC dX12_chain_150 rfl rfl ?_
        refine z_getP hC FX12 49 lk_1404 dX12_chain_151 (by decide) hw (fun x151 hw => ?_)
        refine z_iload hC dX12_chain_154 rfl ?_
        refine z_aldI hC dX12_chain_156 hw (fun x156 hw => ?_)
        refine z_icmp_ge (tgt := 165) hC dX12_chain_157 (by decide) (fun c157 => ?_) (fun c157 => ?_)
        · have hw := hw.1 c157
          refine z_aload_n hC dX12_chain_165 rfl rfl ?_
          refine z_getP hC FX12 49 lk_1404 dX12_chain_166 (by decide) hw (fun x166 hw => ?_)
          refine z_iload hC dX12_chain_169 rfl ?_
          refine z_aldI hC dX12_chain_171 hw (fun x171 hw => ?_)
          refine z_mask (lv' := [some (.ref v0), some (.int v1), some (.int v2), some (.int v3), some (.int v4), some (.int v5), some (.int v6), some (.int v7), some (.int v8), none]) [true, true, true, true, true, true, true, true, true, false] rfl ?_
          exact t_X12_chain_b172 hC hr hlk hnm hK98 hK108 (fun hw => ih hw) hw
        · have hw := hw.2 c157
          refine z_iload hC dX12_chain_160 rfl ?_
          refine z_goto (tgt := 172) hC dX12_chain_162 (by decide) ?_
          refine z_mask (lv' := [some (.ref v0), some (.int v1), some (.int v2), some (.int v3), some (.int v4), some (.int v5), some (.int v6), some (.int v7), some (.int v8), none]) [true, true, true, true, true, true, true, true, true, false] rfl ?_
          exact t_X12_chain_b172 hC hr hlk hnm hK98 hK108 (fun hw => ih hw) hw
def w_X12_chain_b108 (q : Int32 → hS → Prop) (K98 : hS → (Nat) → (Int32) → (Int32) → (Int32) → (Int32) → (Int32) → (Int32) → Prop) : Nat → hS → (Nat) → (Int32) → (Int32) → (Int32) → (Int32) → (Int32) → (Int32) → (Int32) → Prop
  | 0, _, _, _, _, _, _, _, _, _ => False
  | n + 1, S, v0, v1, v2, v3, v4, v5, v6, v7 => (v5 ≤ v7 → ∀ y185 : Int32, y185 = v6 + 1 → K98 S v0 v1 v2 v3 v4 v5 y185) ∧ (¬ v5 ≤ v7 → (∃ n118 : Nat, w_X12_chain_b118 q K98 (fun S v0 v1 v2 v3 v4 v5 v6 v7 => w_X12_chain_b108 q K98 n S v0 v1 v2 v3 v4 v5 v6 v7) n118 S v0 v1 v2 v3 v4 v5 v6 v7 0))
set_option maxRecDepth 100000 in
set_option maxHeartbeats 4000000 in
theorem t_X12_chain_b108 (hC : zC p R s m args c cX12_chain 10 RX12 G B mc ms 10 274) (hr : meth.sig.returnType = (Option.some FieldType.int)) (hlk : meth.locks = false) (hnm : meth.name = "chain") {q : Int32 → hS → Prop} {K98 : hS → (Nat) → (Int32) → (Int32) → (Int32) → (Int32) → (Int32) → (Int32) → Prop} (hK98 : ∀ {S : hS} {v0 : Nat} {v1 : Int32} {v2 : Int32} {v3 : Int32} {v4 : Int32} {v5 : Int32} {v6 : Int32}, K98 S v0 v1 v2 v3 v4 v5 v6 → Z p l e R s m args below meth c (MQ below (hQ G B (iP q)) args s mc ms (fun r => B ≤ r)) G B mc ms 10 S 0 0 98 [some (.ref v0), some (.int v1), some (.int v2), some (.int v3), some (.int v4), some (.int v5), some (.int v6), none, none, none] []) (n : Nat) : ∀ {S : hS} {v0 : Nat} {v1 : Int32} {v2 : Int32} {v3 : Int32} {v4 : Int32} {v5 : Int32} {v6 : Int32} {v7 : Int32} (hw : w_X12_chain_b108 q K98 n S v0 v1 v2 v3 v4 v5 v6 v7), Z p l e R s m args below meth c (MQ below (hQ G B (iP q)) args s mc ms (fun r => B ≤ r)) G B mc ms 10 S 0 0 108 [some (.ref v0), some (.int v1), some (.int v2), some (.int v3), some (.int v4), some (.int v5), some (.int v6), some (.int v7), none, none] [] := by
  induction n with
  | zero => intro S v0 v1 v2 v3 v4 v5 v6 v7 hw; exact (by rw [w_X12_chain_b108] at hw; exact hw.elim)
  | succ n ih =>
    intro S v0 v1 v2 v3 v4 v5 v6 v7 hw
    rw [w_X12_chain_b108] at hw
    refine z_iload hC dX12_chain_108 rfl ?_
    refine z_iload hC dX12_chain_110 rfl ?_
    refine z_icmp_ge (tgt := 185) hC dX12_chain_112 (by decide) (fun c112 => ?_) (fun c112 => ?_)
    · have hw := hw.1 c112
      refine z_inc (i := 6) hC ic_1 dX12_chain_185 rfl (by decide) (hok_v rfl rfl) (fun y185 e185 => ?_)
      have hw := hw y185 e185
      refine z_goto (tgt := 98) hC dX12_chain_188 (by decide) ?_
      refine z_mask (lv' := [some (.ref v0), some (.int v1), some (.int v2), some (.int v3), some (.int v4), some (.int v5), some (.int y185), none, none, none]) [true, true, true, true, true, true, true, false, false, false] rfl ?_
      exact hK98 hw
    · have hw := hw.2 c112
      refine z_iconst hC ic_0 dX12_chain_115 ?_
      refine z_istore (i := 8) (lv' := [some (.ref v0), some (.int v1), some (.int v2), some (.int v3), some (.int v4), some (.int v5), some (.int v6), some (.int v7), some (.int 0), none]) hC dX12_chain_116 (by decide) (hok_v rfl rfl) rfl ?_
      refine z_mask (lv' := [some (.ref v0), some (.int v1), some (.int v2), some (.int v3), some (.int v4), some (.int v5), some (.int v6), some (.int v7), some (.int 0), none]) [true, true, true, true, true, true, true, true, true, false] rfl ?_
      obtain ⟨n118, hw⟩ := hw
      exact t_X12_chain_b118 hC hr hlk hnm hK98 (fun hw => ih hw) n118 hw
def w_X12_chain_b209 (q : Int32 → hS → Prop) (S : hS) (v0 : Nat) (v1 : Int32) : Prop := gP S v0 12 49 (fun x210 => aI S x210 v1 (fun x214 => (¬ x214 = 100000000 → gP S v0 12 49 (fun x226 => aI S x226 v1 (fun x230 => q (x230 / 100) S))) ∧ (x214 = 100000000 → q (-1) S)))
set_option maxRecDepth 100000 in
set_option maxHeartbeats 4000000 in
theorem t_X12_chain_b209 (hC : zC p R s m args c cX12_chain 10 RX12 G B mc ms 10 274) (hr : meth.sig.returnType = (Option.some FieldType.int)) (hlk : meth.locks = false) (hnm : meth.name = "chain") {q : Int32 → hS → Prop} {S : hS} {v0 : Nat} {v1 : Int32} (hw : w_X12_chain_b209 q S v0 v1) : Z p l e R s m args below meth c (MQ below (hQ G B (iP q)) args s mc ms (fun r => B ≤ r)) G B mc ms 10 S 0 0 209 [some (.ref v0), some (.int v1), none, none, none, none, none, none, none, none] [] := by
  unfold w_X12_chain_b209 at hw
  refine z_aload_n hC dX12_chain_209 rfl rfl ?_
  refine z_getP hC FX12 49 lk_1404 dX12_chain_210 (by decide) hw (fun x210 hw => ?_)
  refine z_iload_n hC dX12_chain_213 rfl rfl ?_
  refine z_aldI hC dX12_chain_214 hw (fun x214 hw => ?_)
  refine z_ldcw hC lk_1982 dX12_chain_215 ?_
  refine z_icmp_ne (tgt := 225) hC dX12_chain_218 (by decide) (fun c218 => ?_) (fun c218 => ?_)
  · have hw := hw.1 c218
    refine z_aload_n hC dX12_chain_225 rfl rfl ?_
    refine z_getP hC FX12 49 lk_1404 dX12_chain_226 (by decide) hw (fun x226 hw => ?_)
    refine z_iload_n hC dX12_chain_229 rfl rfl ?_
    refine z_aldI hC dX12_chain_230 hw (fun x230 hw => ?_)
    refine z_bipush hC bi_100 dX12_chain_231 ?_
    refine z_idiv hC (by decide) dX12_chain_233 ?_
    exact z_iret hC hr hlk dX12_chain_234 ⟨_, rfl, hw⟩
  · have hw := hw.2 c218
    refine z_iconst hC ic_m1 dX12_chain_221 ?_
    refine z_goto (tgt := 234) hC dX12_chain_222 (by decide) ?_
    exact z_iret hC hr hlk dX12_chain_234 ⟨_, rfl, hw⟩
def w_X12_chain_b259 (q : Int32 → hS → Prop) (K241 : hS → (Nat) → (Int32) → (Int32) → (Int32) → (Int32) → (Int32) → Prop) : Nat → hS → (Nat) → (Int32) → (Int32) → (Int32) → (Int32) → (Int32) → (Int32) → Prop
  | 0, _, _, _, _, _, _, _, _ => False
  | n + 1, S, v0, v2, v3, v4, v6, v7, v8 => oK S v0 12 ∧ w_X12_chainBy (fun x265 S => gP S v0 12 49 (fun x269 => aI S x269 v6 (fun x274 => (x265 = x274 → ∀ y288 : Int32, y288 = v7 + 1 → K241 S v0 v2 v3 v4 v8 y288) ∧ (¬ x265 = x274 → ∀ y278 : Int32, y278 = v8 + 1 → w_X12_chain_b259 q K241 n S v0 v2 v3 v4 v6 v7 y278)))) S v0 v6 v8 v3
set_option maxRecDepth 100000 in
set_option maxHeartbeats 4000000 in
theorem t_X12_chain_b259 (hC : zC p R s m args c cX12_chain 10 RX12 G B mc ms 10 274) (hr : meth.sig.returnType = (Option.some FieldType.int)) (hlk : meth.locks = false) (hnm : meth.name = "chain") {q : Int32 → hS → Prop} {K241 : hS → (Nat) → (Int32) → (Int32) → (Int32) → (Int32) → (Int32) → Prop} (hK241 : ∀ {S : hS} {v0 : Nat} {v2 : Int32} {v3 : Int32} {v4 : Int32} {v6 : Int32} {v7 : Int32}, K241 S v0 v2 v3 v4 v6 v7 → Z p l e R s m args below meth c (MQ below (hQ G B (iP q)) args s mc ms (fun r => B ≤ r)) G B mc ms 10 S 0 0 241 [some (.ref v0), none, some (.int v2), some (.int v3), some (.int v4), none, some (.int v6), some (.int v7), none, none] []) (n : Nat) : ∀ {S : hS} {v0 : Nat} {v2 : Int32} {v3 : Int32} {v4 : Int32} {v6 : Int32} {v7 : Int32} {v8 : Int32} (hw : w_X12_chain_b259 q K241 n S v0 v2 v3 v4 v6 v7 v8), Z p l e R s m args below meth c (MQ below (hQ G B (iP q)) args s mc ms (fun r => B ≤ r)) G B mc ms 10 S 0 0 259 [some (.ref v0), none, some (.int v2), some (.int v3), some (.int v4), none, some (.int v6), some (.int v7), some (.int v8), none] [] := by
  induction n with
  | zero => intro S v0 v2 v3 v4 v6 v7 v8 hw; exact (by rw [w_X12_chain_b259] at hw; exact hw.elim)
  | succ n ih =>
    intro S v0 v2 v3 v4 v6 v7 v8 hw
    rw [w_X12_chain_b259] at hw
    refine z_aload_n hC dX12_chain_259 rfl rfl ?_
    refine z_iload hC dX12_chain_260 rfl ?_
    refine z_iload hC dX12_chain_262 rfl ?_
    refine z_iload_n hC dX12_chain_264 rfl rfl ?_
    refine z_callV (ku' := 0) (kv' := 0) (n := 3) (As := [.int v6, .int v8, .int v3]) (st := []) hC (c_X12_chainBy l G B S v0 v6 v8 v3 _) hw.2 hw.1 rfl lk_2008 lk_2010 lk_111 lk_133 lk_2011 hd_X12_chainBy rfl rfl (Nat.le_of_ble_eq_true rfl) (Nat.le_of_ble_eq_true rfl) rfl (Nat.le_of_ble_eq_true rfl) dX12_chain_265 (Nat.le_refl 0) (Nat.le_refl 0) (kI (fun x265 S hw => ?_))
    refine z_aload_n hC dX12_chain_268 rfl rfl ?_
    refine z_getP hC FX12 49 lk_1404 dX12_chain_269 (by decide) hw (fun x269 hw => ?_)
    refine z_iload hC dX12_chain_272 rfl ?_
    refine z_aldI hC dX12_chain_274 hw (fun x274 hw => ?_)
    refine z_icmp_eq (tgt := 284) hC dX12_chain_275 (by decide) (fun c275 => ?_) (fun c275 => ?_)
    · have hw := hw.1 c275
      refine z_iload hC dX12_chain_284 rfl ?_
      refine z_istore (i := 6) (lv' := [some (.ref v0), none, some (.int v2), some (.int v3), some (.int v4), none, some (.int v8), some (.int v7), some (.int v8), none]) hC dX12_chain_286 (by decide) (hok_n rfl) rfl ?_
      refine z_inc (i := 7) hC ic_1 dX12_chain_288 rfl (by decide) (hok_v rfl rfl) (fun y288 e288 => ?_)
      have hw := hw y288 e288
      refine z_goto (tgt := 241) hC dX12_chain_291 (by decide) ?_
      refine z_mask (lv' := [some (.ref v0), none, some (.int v2), some (.int v3), some (.int v4), none, some (.int v8), some (.int y288), none, none]) [true, false, true, true, true, false, true, true, false, false] rfl ?_
      exact hK241 hw
    · have hw := hw.2 c275
      refine z_inc (i := 8) hC ic_1 dX12_chain_278 rfl (by decide) (hok_v rfl rfl) (fun y278 e278 => ?_)
      have hw := hw y278 e278
      refine z_goto (tgt := 259) hC dX12_chain_281 (by decide) ?_
      refine z_mask (lv' := [some (.ref v0), none, some (.int v2), some (.int v3), some (.int v4), none, some (.int v6), some (.int v7), some (.int y278), none]) [true, false, true, true, true, false, true, true, true, false] rfl ?_
      exact ih hw
def w_X12_chain_b241 (q : Int32 → hS → Prop) : Nat → hS → (Nat) → (Int32) → (Int32) → (Int32) → (Int32) → (Int32) → Prop
  | 0, _, _, _, _, _, _, _ => False
  | n + 1, S, v0, v2, v3, v4, v6, v7 => (v4 < v7 → q v6 S) ∧ (¬ v4 < v7 → (¬ v6 = v2 → (∃ n259 : Nat, w_X12_chain_b259 q (fun S v0 v2 v3 v4 v6 v7 => w_X12_chain_b241 q n S v0 v2 v3 v4 v6 v7) n259 S v0 v2 v3 v4 v6 v7 0)) ∧ (v6 = v2 → q (-1) S))
set_option maxRecDepth 100000 in
set_option maxHeartbeats 4000000 in
theorem t_X12_chain_b241 (hC : zC p R s m args c cX12_chain 10 RX12 G B mc ms 10 274) (hr : meth.sig.returnType = (Option.some FieldType.int)) (hlk : meth.locks = false) (hnm : meth.name = "chain") {q : Int32 → hS → Prop} (n : Nat) : ∀ {S : hS} {v0 : Nat} {v2 : Int32} {v3 : Int32} {v4 : Int32} {v6 : Int32} {v7 : Int32} (hw : w_X12_chain_b241 q n S v0 v2 v3 v4 v6 v7), Z p l e R s m args below meth c (MQ below (hQ G B (iP q)) args s mc ms (fun r => B ≤ r)) G B mc ms 10 S 0 0 241 [some (.ref v0), none, some (.int v2), some (.int v3), some (.int v4), none, some (.int v6), some (.int v7), none, none] [] := by
  induction n with
  | zero => intro S v0 v2 v3 v4 v6 v7 hw; exact (by rw [w_X12_chain_b241] at hw; exact hw.elim)
  | succ n ih =>
    intro S v0 v2 v3 v4 v6 v7 hw
    rw [w_X12_chain_b241] at hw
    refine z_iload hC dX12_chain_241 rfl ?_
    refine z_iload hC dX12_chain_243 rfl ?_
    refine z_icmp_gt (tgt := 294) hC dX12_chain_245 (by decide) (fun c245 => ?_) (fun c245 => ?_)
    · have hw := hw.1 c245
      refine z_iload hC dX12_chain_294 rfl ?_
      exact z_iret hC hr hlk dX12_chain_296 ⟨_, rfl, hw⟩
    · have hw := hw.2 c245
      refine z_iload hC dX12_chain_248 rfl ?_
      refine z_iload_n hC dX12_chain_250 rfl rfl ?_
      refine z_icmp_ne (tgt := 256) hC dX12_chain_251 (by decide) (fun c251 => ?_) (fun c251 => ?_)
      · have hw := hw.1 c251
        refine z_iconst hC ic_0 dX12_chain_256 ?_
        refine z_istore (i := 8) (lv' := [some (.ref v0), none, some (.int v2), some (.int v3), some (.int v4), none, some (.int v6), some (.int v7), some (.int 0), none]) hC dX12_chain_257 (by decide) (hok_v rfl rfl) rfl ?_
        refine z_mask (lv' := [some (.ref v0), none, some (.int v2), some (.int v3), some (.int v4), none, some (.int v6), some (.int v7), some (.int 0), none]) [true, false, true, true, true, false, true, true, true, false] rfl ?_
        obtain ⟨n259, hw⟩ := hw
        exact t_X12_chain_b259 hC hr hlk hnm (fun hw => ih hw) n259 hw
      · have hw := hw.2 c251
        refine z_iconst hC ic_m1 dX12_chain_254 ?_
        exact z_iret hC hr hlk dX12_chain_255 ⟨_, rfl, hw⟩
def w_X12_chain_b98 (q : Int32 → hS → Prop) : Nat → hS → (Nat) → (Int32) → (Int32) → (Int32) → (Int32) → (Int32) → (Int32) → Prop
  | 0, _, _, _, _, _, _, _, _ => False
  | n + 1, S, v0, v1, v2, v3, v4, v5, v6 => (v5 ≤ v6 → gP S v0 12 49 (fun x192 => aI S x192 v1 (fun x196 => (x196 = 100000000 → w_X12_chain_b209 q S v0 v1) ∧ (¬ x196 = 100000000 → (¬ v4 = (-1) → (∃ n241 : Nat, w_X12_chain_b241 q n241 S v0 v2 v3 v4 v1 0)) ∧ (v4 = (-1) → w_X12_chain_b209 q S v0 v1))))) ∧ (¬ v5 ≤ v6 → (∃ n108 : Nat, w_X12_chain_b108 q (fun S v0 v1 v2 v3 v4 v5 v6 => w_X12_chain_b98 q n S v0 v1 v2 v3 v4 v5 v6) n108 S v0 v1 v2 v3 v4 v5 v6 0))
set_option maxRecDepth 100000 in
set_option maxHeartbeats 4000000 in
theorem t_X12_chain_b98 (hC : zC p R s m args c cX12_chain 10 RX12 G B mc ms 10 274) (hr : meth.sig.returnType = (Option.some FieldType.int)) (hlk : meth.locks = false) (hnm : meth.name = "chain") {q : Int32 → hS → Prop} (n : Nat) : ∀ {S : hS} {v0 : Nat} {v1 : Int32} {v2 : Int32} {v3 : Int32} {v4 : Int32} {v5 : Int32} {v6 : Int32} (hw : w_X12_chain_b98 q n S v0 v1 v2 v3 v4 v5 v6), Z p l e R s m args below meth c (MQ below (hQ G B (iP q)) args s mc ms (fun r => B ≤ r)) G B mc ms 10 S 0 0 98 [some (.ref v0), some (.int v1), some (.int v2), some (.int v3), some (.int v4), some (.int v5), some (.int v6), none, none, none] [] := by
  induction n with
  | zero => intro S v0 v1 v2 v3 v4 v5 v6 hw; exact (by rw [w_X12_chain_b98] at hw; exact hw.elim)
  | succ n ih =>
    intro S v0 v1 v2 v3 v4 v5 v6 hw
    rw [w_X12_chain_b98] at hw
    refine z_iload hC dX12_chain_98 rfl ?_
    refine z_iload hC dX12_chain_100 rfl ?_
    refine z_icmp_ge (tgt := 191) hC dX12_chain_102 (by decide) (fun c102 => ?_) (fun c102 => ?_)
    · have hw := hw.1 c102
      refine z_aload_n hC dX12_chain_191 rfl rfl ?_
      refine z_getP hC FX12 49 lk_1404 dX12_chain_192 (by decide) hw (fun x192 hw => ?_)
      refine z_iload_n hC dX12_chain_195 rfl rfl ?_
      refine z_aldI hC dX12_chain_196 hw (fun x196 hw => ?_)
      refine z_ldcw hC lk_1982 dX12_chain_197 ?_
      refine z_icmp_eq (tgt := 209) hC dX12_chain_200 (by decide) (fun c200 => ?_) (fun c200 => ?_)
      · have hw := hw.1 c200
        refine z_mask (lv' := [some (.ref v0), some (.int v1), none, none, none, none, none, none, none, none]) [true, true, false, false, false, false, false, false, false, false] rfl ?_
        exact t_X12_chain_b209 hC hr hlk hnm hw
      · have hw := hw.2 c200
        refine z_iload hC dX12_chain_203 rfl ?_
        refine z_iconst hC ic_m1 dX12_chain_205 ?_
        refine z_icmp_ne (tgt := 235) hC dX12_chain_206 (by decide) (fun c206 => ?_) (fun c206 => ?_)
        · have hw := hw.1 c206
          refine z_iload_n hC dX12_chain_235 rfl rfl ?_
          refine z_istore (i := 6) (lv' := [some (.ref v0), some (.int v1), some (.int v2), some (.int v3), some (.int v4), some (.int v5), some (.int v1), none, none, none]) hC dX12_chain_236 (by decide) (hok_v rfl rfl) rfl ?_
          refine z_iconst hC ic_0 dX12_chain_238 ?_
          refine z_istore (i := 7) (lv' := [some (.ref v0), some (.int v1), some (.int v2), some (.int v3), some (.int v4), some (.int v5), some (.int v1), some (.int 0), none, none]) hC dX12_chain_239 (by decide) (hok_v rfl rfl) rfl ?_
          refine z_mask (lv' := [some (.ref v0), none, some (.int v2), some (.int v3), some (.int v4), none, some (.int v1), some (.int 0), none, none]) [true, false, true, true, true, false, true, true, false, false] rfl ?_
          obtain ⟨n241, hw⟩ := hw
          exact t_X12_chain_b241 hC hr hlk hnm n241 hw
        · have hw := hw.2 c206
          refine z_mask (lv' := [some (.ref v0), some (.int v1), none, none, none, none, none, none, none, none]) [true, true, false, false, false, false, false, false, false, false] rfl ?_
          exact t_X12_chain_b209 hC hr hlk hnm hw
    · have hw := hw.2 c102
      refine z_iconst hC ic_0 dX12_chain_105 ?_
      refine z_istore (i := 7) (lv' := [some (.ref v0), some (.int v1), some (.int v2), some (.int v3), some (.int v4), some (.int v5), some (.int v6), some (.int 0), none, none]) hC dX12_chain_106 (by decide) (hok_v rfl rfl) rfl ?_
      refine z_mask (lv' := [some (.ref v0), some (.int v1), some (.int v2), some (.int v3), some (.int v4), some (.int v5), some (.int v6), some (.int 0), none, none]) [true, true, true, true, true, true, true, true, false, false] rfl ?_
      obtain ⟨n108, hw⟩ := hw
      exact t_X12_chain_b108 hC hr hlk hnm (fun hw => ih hw) n108 hw
def w_X12_chain_b62 (q : Int32 → hS → Prop) : Nat → hS → (Nat) → (Int32) → (Int32) → (Int32) → (Int32) → (Int32) → (Int32) → Prop
  | 0, _, _, _, _, _, _, _, _ => False
  | n + 1, S, v0, v1, v2, v3, v4, v5, v6 => (v5 ≤ v6 → (∃ n98 : Nat, w_X12_chain_b98 q n98 S v0 v1 v2 v3 v4 v5 0)) ∧ (¬ v5 ≤ v6 → gP S v0 12 49 (fun x70 => (¬ v6 = v2 → w_X12_chain_b88 q (fun S v0 v1 v2 v3 v4 v5 v6 => w_X12_chain_b62 q n S v0 v1 v2 v3 v4 v5 v6) S v0 v1 v2 v3 v4 v5 v6 100000000 v6 x70) ∧ (v6 = v2 → w_X12_chain_b88 q (fun S v0 v1 v2 v3 v4 v5 v6 => w_X12_chain_b62 q n S v0 v1 v2 v3 v4 v5 v6) S v0 v1 v2 v3 v4 v5 v6 0 v6 x70)))
set_option maxRecDepth 100000 in
set_option maxHeartbeats 4000000 in
theorem t_X12_chain_b62 (hC : zC p R s m args c cX12_chain 10 RX12 G B mc ms 10 274) (hr : meth.sig.returnType = (Option.some FieldType.int)) (hlk : meth.locks = false) (hnm : meth.name = "chain") {q : Int32 → hS → Prop} (n : Nat) : ∀ {S : hS} {v0 : Nat} {v1 : Int32} {v2 : Int32} {v3 : Int32} {v4 : Int32} {v5 : Int32} {v6 : Int32} (hw : w_X12_chain_b62 q n S v0 v1 v2 v3 v4 v5 v6), Z p l e R s m args below meth c (MQ below (hQ G B (iP q)) args s mc ms (fun r => B ≤ r)) G B mc ms 10 S 0 0 62 [some (.ref v0), some (.int v1), some (.int v2), some (.int v3), some (.int v4), some (.int v5), some (.int v6), none, none, none] [] := by
  induction n with
  | zero => intro S v0 v1 v2 v3 v4 v5 v6 hw; exact (by rw [w_X12_chain_b62] at hw; exact hw.elim)
  | succ n ih =>
    intro S v0 v1 v2 v3 v4 v5 v6 hw
    rw [w_X12_chain_b62] at hw
    refine z_iload hC dX12_chain_62 rfl ?_
    refine z_iload hC dX12_chain_64 rfl ?_
    refine z_icmp_ge (tgt := 95) hC dX12_chain_66 (by decide) (fun c66 => ?_) (fun c66 => ?_)
    · have hw := hw.1 c66
      refine z_iconst hC ic_0 dX12_chain_95 ?_
      refine z_istore (i := 6) (lv' := [some (.ref v0), some (.int v1), some (.int v2), some (.int v3), some (.int v4), some (.int v5), some (.int 0), none, none, none]) hC dX12_chain_96 (by decide) (hok_v rfl rfl) rfl ?_
      refine z_mask (lv' := [some (.ref v0), some (.int v1), some (.int v2), some (.int v3), some (.int v4), some (.int v5), some (.int 0), none, none, none]) [true, true, true, true, true, true, true, false, false, false] rfl ?_
      obtain ⟨n98, hw⟩ := hw
      exact t_X12_chain_b98 hC hr hlk hnm n98 hw
    · have hw := hw.2 c66
      refine z_aload_n hC dX12_chain_69 rfl rfl ?_
      refine z_getP hC FX12 49 lk_1404 dX12_chain_70 (by decide) hw (fun x70 hw => ?_)
      refine z_iload hC dX12_chain_73 rfl ?_
      refine z_iload hC dX12_chain_75 rfl ?_
      refine z_iload_n hC dX12_chain_77 rfl rfl ?_
      refine z_icmp_ne (tgt := 85) hC dX12_chain_78 (by decide) (fun c78 => ?_) (fun c78 => ?_)
      · have hw := hw.1 c78
        refine z_ldcw hC lk_1982 dX12_chain_85 ?_
        refine z_mask (lv' := [some (.ref v0), some (.int v1), some (.int v2), some (.int v3), some (.int v4), some (.int v5), some (.int v6), none, none, none]) [true, true, true, true, true, true, true, false, false, false] rfl ?_
        exact t_X12_chain_b88 hC hr hlk hnm (fun hw => ih hw) hw
      · have hw := hw.2 c78
        refine z_iconst hC ic_0 dX12_chain_81 ?_
        refine z_goto (tgt := 88) hC dX12_chain_82 (by decide) ?_
        refine z_mask (lv' := [some (.ref v0), some (.int v1), some (.int v2), some (.int v3), some (.int v4), some (.int v5), some (.int v6), none, none, none]) [true, true, true, true, true, true, true, false, false, false] rfl ?_
        exact t_X12_chain_b88 hC hr hlk hnm (fun hw => ih hw) hw
def w_X12_chain (q : Int32 → hS → Prop) (S : hS) (v0 : Nat) (v1 : Int32) (v2 : Int32) (v3 : Int32) (v4 : Int32) : Prop := pI S v0 12 0 0 (fun S => (v1 = v2 → q (-1) S) ∧ (¬ v1 = v2 → oK S v0 12 ∧ w_X12_isPerson (fun x12 S => (x12 = 0 → q (-1) S) ∧ (¬ x12 = 0 → oK S v0 12 ∧ w_X12_isPerson (fun x20 S => (x20 = 0 → q (-1) S) ∧ (¬ x20 = 0 → oK S v0 12 ∧ w_X12_isHouse (fun x28 S => (x28 = 0 → q (-1) S) ∧ (¬ x28 = 0 → (v4 < (-1) → q (-1) S) ∧ (¬ v4 < (-1) → oK S v0 12 ∧ w_X12_leftOf (fun x43 S => (¬ x43 = 0 → gP S v0 12 3 (fun x52 => aI S x52 1 (fun x56 => (∃ n62 : Nat, w_X12_chain_b62 q n62 S v0 v1 v2 v3 v4 x56 0)))) ∧ (x43 = 0 → q (-1) S)) S v0 v1 v3))) S v0 v3)) S v0 v2)) S v0 v1))
set_option maxRecDepth 100000 in
set_option maxHeartbeats 4000000 in
theorem c_X12_chain (l : Launch) (G : hG) (B : Nat) (S : hS) (v0 : Nat) (v1 : Int32) (v2 : Int32) (v3 : Int32) (v4 : Int32) (q : Int32 → hS → Prop) : Met l yX12_chain (hws yX12_chain cX12_chain 10 (Option.some FieldType.int)) ({ frames := 10, cells := 0, slots := 0, locals := 274 }) (hPc G B S [.ref v0, .int v1, .int v2, .int v3, .int v4] (w_X12_chain q S v0 v1 v2 v3 v4)) (hQ G B (iP q)) (0) (0) (fun r => B ≤ r) := by
  refine hMet (rm := { frames := 10, cells := 0, slots := 0, locals := 274 }) (lv := [some (.ref v0), some (.int v1), some (.int v2), some (.int v3), some (.int v4), none, none, none, none, none]) (own := RX12) (fr := 10) (lo := 274) (by decide) rfl rfl rfl (Nat.le_of_ble_eq_true rfl) rfl (fun hw p e R s m args below meth c hC hr hlk hnm => ?_)
  unfold w_X12_chain at hw
  refine z_aload_n hC dX12_chain_0 rfl rfl ?_
  refine z_iconst hC ic_0 dX12_chain_1 ?_
  refine z_putI hC FX12 0 lk_1355 dX12_chain_2 (by decide) rfl rfl hw (fun S hw => ?_)
  refine z_iload_n hC dX12_chain_5 rfl rfl ?_
  refine z_iload_n hC dX12_chain_6 rfl rfl ?_
  refine z_icmp_eq (tgt := 49) hC dX12_chain_7 (by decide) (fun c7 => ?_) (fun c7 => ?_)
  · have hw := hw.1 c7
    refine z_iconst hC ic_m1 dX12_chain_49 ?_
    exact z_iret hC hr hlk dX12_chain_50 ⟨_, rfl, hw⟩
  · have hw := hw.2 c7
    refine z_aload_n hC dX12_chain_10 rfl rfl ?_
    refine z_iload_n hC dX12_chain_11 rfl rfl ?_
    refine z_callV (ku' := 0) (kv' := 0) (n := 1) (As := [.int v1]) (st := []) hC (c_X12_isPerson l G B S v0 v1 _) hw.2 hw.1 rfl lk_1614 lk_1616 lk_52 lk_133 lk_1617 hd_X12_isPerson rfl rfl (Nat.le_of_ble_eq_true rfl) (Nat.le_of_ble_eq_true rfl) rfl (Nat.le_of_ble_eq_true rfl) dX12_chain_12 (Nat.le_refl 0) (Nat.le_refl 0) (kI (fun x12 S hw => ?_))
    refine z_if_eq (tgt := 49) hC dX12_chain_15 (by decide) (fun c15 => ?_) (fun c15 => ?_)
    · have hw := hw.1 c15
      refine z_iconst hC ic_m1 dX12_chain_49 ?_
      exact z_iret hC hr hlk dX12_chain_50 ⟨_, rfl, hw⟩
    · have hw := hw.2 c15
      refine z_aload_n hC dX12_chain_18 rfl rfl ?_
      refine z_iload_n hC dX12_chain_19 rfl rfl ?_
      refine z_callV (ku' := 0) (kv' := 0) (n := 1) (As := [.int v2]) (st := []) hC (c_X12_isPerson l G B S v0 v2 _) hw.2 hw.1 rfl lk_1614 lk_1616 lk_52 lk_133 lk_1617 hd_X12_isPerson rfl rfl (Nat.le_of_ble_eq_true rfl) (Nat.le_of_ble_eq_true rfl) rfl (Nat.le_of_ble_eq_true rfl) dX12_chain_20 (Nat.le_refl 0) (Nat.le_refl 0) (kI (fun x20 S hw => ?_))
      refine z_if_eq (tgt := 49) hC dX12_chain_23 (by decide) (fun c23 => ?_) (fun c23 => ?_)
      · have hw := hw.1 c23
        refine z_iconst hC ic_m1 dX12_chain_49 ?_
        exact z_iret hC hr hlk dX12_chain_50 ⟨_, rfl, hw⟩
      · have hw := hw.2 c23
        refine z_aload_n hC dX12_chain_26 rfl rfl ?_
        refine z_iload_n hC dX12_chain_27 rfl rfl ?_
        refine z_callV (ku' := 0) (kv' := 0) (n := 1) (As := [.int v3]) (st := []) hC (c_X12_isHouse l G B S v0 v3 _) hw.2 hw.1 rfl lk_1580 lk_1582 lk_44 lk_133 lk_1583 hd_X12_isHouse rfl rfl (Nat.le_of_ble_eq_true rfl) (Nat.le_of_ble_eq_true rfl) rfl (Nat.le_of_ble_eq_true rfl) dX12_chain_28 (Nat.le_refl 0) (Nat.le_refl 0) (kI (fun x28 S hw => ?_))
        refine z_if_eq (tgt := 49) hC dX12_chain_31 (by decide) (fun c31 => ?_) (fun c31 => ?_)
        · have hw := hw.1 c31
          refine z_iconst hC ic_m1 dX12_chain_49 ?_
          exact z_iret hC hr hlk dX12_chain_50 ⟨_, rfl, hw⟩
        · have hw := hw.2 c31
          refine z_iload hC dX12_chain_34 rfl ?_
          refine z_iconst hC ic_m1 dX12_chain_36 ?_
          refine z_icmp_lt (tgt := 49) hC dX12_chain_37 (by decide) (fun c37 => ?_) (fun c37 => ?_)
          · have hw := hw.1 c37
            refine z_iconst hC ic_m1 dX12_chain_49 ?_
            exact z_iret hC hr hlk dX12_chain_50 ⟨_, rfl, hw⟩
          · have hw := hw.2 c37
            refine z_aload_n hC dX12_chain_40 rfl rfl ?_
            refine z_iload_n hC dX12_chain_41 rfl rfl ?_
            refine z_iload_n hC dX12_chain_42 rfl rfl ?_
            refine z_callV (ku' := 0) (kv' := 0) (n := 2) (As := [.int v1, .int v3]) (st := []) hC (c_X12_leftOf l G B S v0 v1 v3 _) hw.2 hw.1 rfl lk_1602 lk_1604 lk_49 lk_133 lk_1605 hd_X12_leftOf rfl rfl (Nat.le_of_ble_eq_true rfl) (Nat.le_of_ble_eq_true rfl) rfl (Nat.le_of_ble_eq_true rfl) dX12_chain_43 (Nat.le_refl 0) (Nat.le_refl 0) (kI (fun x43 S hw => ?_))
            refine z_if_ne (tgt := 51) hC dX12_chain_46 (by decide) (fun c46 => ?_) (fun c46 => ?_)
            · have hw := hw.1 c46
              refine z_aload_n hC dX12_chain_51 rfl rfl ?_
              refine z_getP hC FX12 3 lk_1358 dX12_chain_52 (by decide) hw (fun x52 hw => ?_)
              refine z_iconst hC ic_1 dX12_chain_55 ?_
              refine z_aldI hC dX12_chain_56 hw (fun x56 hw => ?_)
              refine z_istore (i := 5) (lv' := [some (.ref v0), some (.int v1), some (.int v2), some (.int v3), some (.int v4), some (.int x56), none, none, none, none]) hC dX12_chain_57 (by decide) (hok_v rfl rfl) rfl ?_
              refine z_iconst hC ic_0 dX12_chain_59 ?_
              refine z_istore (i := 6) (lv' := [some (.ref v0), some (.int v1), some (.int v2), some (.int v3), some (.int v4), some (.int x56), some (.int 0), none, none, none]) hC dX12_chain_60 (by decide) (hok_v rfl rfl) rfl ?_
              refine z_mask (lv' := [some (.ref v0), some (.int v1), some (.int v2), some (.int v3), some (.int v4), some (.int x56), some (.int 0), none, none, none]) [true, true, true, true, true, true, true, false, false, false] rfl ?_
              obtain ⟨n62, hw⟩ := hw
              exact t_X12_chain_b62 hC hr hlk hnm n62 hw
            · have hw := hw.2 c46
              refine z_iconst hC ic_m1 dX12_chain_49 ?_
              exact z_iret hC hr hlk dX12_chain_50 ⟨_, rfl, hw⟩
end
section
variable {p : Program} {l : Launch} {e : Env} {R : Room} {s : State} {m : MethodId} {args : Array Value} {below : List Frame} {meth : Method} {c : Code} {G : hG} {B mc ms : Nat}
def w_X12_likely_b85 (q : Int64 → hS → Prop) (K74 : hS → (Nat) → (Int32) → (Int32) → (Int32) → (Int32) → Prop) : Nat → hS → (Nat) → (Int32) → (Int32) → (Int32) → (Int32) → (Int32) → Prop
  | 0, _, _, _, _, _, _, _ => False
  | n + 1, S, v0, v1, v2, v3, v4, v5 => (v5 < 0 → ∀ y145 : Int32, y145 = v4 + 1 → K74 S v0 v1 v2 v3 y145) ∧ (¬ v5 < 0 → gP S v0 12 50 (fun x91 => aJ S x91 v5 (fun x96 => gP S v0 12 50 (fun x100 => sJ S x100 v5 ((x96 * (Int32.toInt64 v3)) / 10) (fun S => gP S v0 12 50 (fun x116 => aJ S x116 (v5 + 1) (fun x124 => sJ S x116 (v5 + 1) (x124 + ((x96 * (Int32.toInt64 (10 - v3))) / 10)) (fun S => ∀ y139 : Int32, y139 = v5 + (-1) → w_X12_likely_b85 q K74 n S v0 v1 v2 v3 v4 y139))))))))
set_option maxRecDepth 100000 in
set_option maxHeartbeats 4000000 in
theorem t_X12_likely_b85 (hC : zC p R s m args c cX12_likely 8 RX12 G B mc ms 2 85) (hr : meth.sig.returnType = (Option.some FieldType.long)) (hlk : meth.locks = false) (hnm : meth.name = "likely") {q : Int64 → hS → Prop} {K74 : hS → (Nat) → (Int32) → (Int32) → (Int32) → (Int32) → Prop} (hK74 : ∀ {S : hS} {v0 : Nat} {v1 : Int32} {v2 : Int32} {v3 : Int32} {v4 : Int32}, K74 S v0 v1 v2 v3 v4 → Z p l e R s m args below meth c (MQ below (hQ G B (jP q)) args s mc ms (fun r => B ≤ r)) G B mc ms 8 S 0 0 74 [some (.ref v0), some (.int v1), some (.int v2), some (.int v3), some (.int v4), none, none, none] []) (n : Nat) : ∀ {S : hS} {v0 : Nat} {v1 : Int32} {v2 : Int32} {v3 : Int32} {v4 : Int32} {v5 : Int32} (hw : w_X12_likely_b85 q K74 n S v0 v1 v2 v3 v4 v5), Z p l e R s m args below meth c (MQ below (hQ G B (jP q)) args s mc ms (fun r => B ≤ r)) G B mc ms 8 S 0 0 85 [some (.ref v0), some (.int v1), some (.int v2), some (.int v3), some (.int v4), some (.int v5), none, none] [] := by
  induction n with
  | zero => intro S v0 v1 v2 v3 v4 v5 hw; exact (by rw [w_X12_likely_b85] at hw; exact hw.elim)
  | succ n ih =>
    intro S v0 v1 v2 v3 v4 v5 hw
    rw [w_X12_likely_b85] at hw
    refine z_iload hC dX12_likely_85 rfl ?_
    refine z_if_lt (tgt := 145) hC dX12_likely_87 (by decide) (fun c87 => ?_) (fun c87 => ?_)
    · have hw := hw.1 c87
      refine z_inc (i := 4) hC ic_1 dX12_likely_145 rfl (by decide) (hok_v rfl rfl) (fun y145 e145 => ?_)
      have hw := hw y145 e145
      refine z_goto (tgt := 74) hC dX12_likely_148 (by decide) ?_
      refine z_mask (lv' := [some (.ref v0), some (.int v1), some (.int v2), some (.int v3), some (.int y145), none, none, none]) [true, true, true, true, true, false, false, false] rfl ?_
      exact hK74 hw
    · have hw := hw.2 c87
      refine z_aload_n hC dX12_likely_90 rfl rfl ?_
      refine z_getP hC FX12 50 lk_1405 dX12_likely_91 (by decide) hw (fun x91 hw => ?_)
      refine z_iload hC dX12_likely_94 rfl ?_
      refine z_aldJ hC dX12_likely_96 hw (fun x96 hw => ?_)
      refine z_lstore (i := 6) (lv' := [some (.ref v0), some (.int v1), some (.int v2), some (.int v3), some (.int v4), some (.int v5), some (.long x96), none]) hC dX12_likely_97 (by decide) (hok_v rfl rfl) rfl ?_
      refine z_aload_n hC dX12_likely_99 rfl rfl ?_
      refine z_getP hC FX12 50 lk_1405 dX12_likely_100 (by decide) hw (fun x100 hw => ?_)
      refine z_iload hC dX12_likely_103 rfl ?_
      refine z_lload hC dX12_likely_105 rfl ?_
      refine z_iload_n hC dX12_likely_107 rfl rfl ?_
      refine z_i2l hC rfl dX12_likely_108 ?_
      refine z_lmul hC dX12_likely_109 ?_
      refine z_ldc2 hC lk_1596 dX12_likely_110 ?_
      refine z_ldiv hC (by decide) dX12_likely_113 ?_
      refine z_astJ hC dX12_likely_114 hw (fun S hw => ?_)
      refine z_aload_n hC dX12_likely_115 rfl rfl ?_
      refine z_getP hC FX12 50 lk_1405 dX12_likely_116 (by decide) hw (fun x116 hw => ?_)
      refine z_iload hC dX12_likely_119 rfl ?_
      refine z_iconst hC ic_1 dX12_likely_121 ?_
      refine z_iadd hC dX12_likely_122 ?_
      refine z_dup2_11 hC rfl rfl dX12_likely_123 ?_
      refine z_aldJ hC dX12_likely_124 hw (fun x124 hw => ?_)
      refine z_lload hC dX12_likely_125 rfl ?_
      refine z_bipush hC bi_10 dX12_likely_127 ?_
      refine z_iload_n hC dX12_likely_129 rfl rfl ?_
      refine z_isub hC dX12_likely_130 ?_
      refine z_i2l hC rfl dX12_likely_131 ?_
      refine z_lmul hC dX12_likely_132 ?_
      refine z_ldc2 hC lk_1596 dX12_likely_133 ?_
      refine z_ldiv hC (by decide) dX12_likely_136 ?_
      refine z_ladd hC dX12_likely_137 ?_
      refine z_astJ hC dX12_likely_138 hw (fun S hw => ?_)
      refine z_inc (i := 5) hC ic_m1 dX12_likely_139 rfl (by decide) (hok_v rfl rfl) (fun y139 e139 => ?_)
      have hw := hw y139 e139
      refine z_goto (tgt := 85) hC dX12_likely_142 (by decide) ?_
      refine z_mask (lv' := [some (.ref v0), some (.int v1), some (.int v2), some (.int v3), some (.int v4), some (.int y139), none, none]) [true, true, true, true, true, true, false, false] rfl ?_
      exact ih hw
def w_X12_likely_b74 (q : Int64 → hS → Prop) : Nat → hS → (Nat) → (Int32) → (Int32) → (Int32) → (Int32) → Prop
  | 0, _, _, _, _, _, _ => False
  | n + 1, S, v0, v1, v2, v3, v4 => (v2 ≤ v4 → gP S v0 12 50 (fun x152 => aJ S x152 v1 (fun x156 => q x156 S))) ∧ (¬ v2 ≤ v4 → ∀ y83 : Int32, y83 = (v1 - 1) → (∃ n85 : Nat, w_X12_likely_b85 q (fun S v0 v1 v2 v3 v4 => w_X12_likely_b74 q n S v0 v1 v2 v3 v4) n85 S v0 v1 v2 v3 v4 y83))
set_option maxRecDepth 100000 in
set_option maxHeartbeats 4000000 in
theorem t_X12_likely_b74 (hC : zC p R s m args c cX12_likely 8 RX12 G B mc ms 2 85) (hr : meth.sig.returnType = (Option.some FieldType.long)) (hlk : meth.locks = false) (hnm : meth.name = "likely") {q : Int64 → hS → Prop} (n : Nat) : ∀ {S : hS} {v0 : Nat} {v1 : Int32} {v2 : Int32} {v3 : Int32} {v4 : Int32} (hw : w_X12_likely_b74 q n S v0 v1 v2 v3 v4), Z p l e R s m args below meth c (MQ below (hQ G B (jP q)) args s mc ms (fun r => B ≤ r)) G B mc ms 8 S 0 0 74 [some (.ref v0), some (.int v1), some (.int v2), some (.int v3), some (.int v4), none, none, none] [] := by
  induction n with
  | zero => intro S v0 v1 v2 v3 v4 hw; exact (by rw [w_X12_likely_b74] at hw; exact hw.elim)
  | succ n ih =>
    intro S v0 v1 v2 v3 v4 hw
    rw [w_X12_likely_b74] at hw
    refine z_iload hC dX12_likely_74 rfl ?_
    refine z_iload_n hC dX12_likely_76 rfl rfl ?_
    refine z_icmp_ge (tgt := 151) hC dX12_likely_77 (by decide) (fun c77 => ?_) (fun c77 => ?_)
    · have hw := hw.1 c77
      refine z_aload_n hC dX12_likely_151 rfl rfl ?_
      refine z_getP hC FX12 50 lk_1405 dX12_likely_152 (by decide) hw (fun x152 hw => ?_)
      refine z_iload_n hC dX12_likely_155 rfl rfl ?_
      refine z_aldJ hC dX12_likely_156 hw (fun x156 hw => ?_)
      exact z_lret hC hr hlk dX12_likely_157 ⟨_, rfl, hw⟩
    · have hw := hw.2 c77
      refine z_iload_n hC dX12_likely_80 rfl rfl ?_
      refine z_iconst hC ic_1 dX12_likely_81 ?_
      refine z_isub hC dX12_likely_82 ?_
      refine z_nmI (fun y83 e83 => ?_)
      have hw := hw y83 e83
      refine z_istore (i := 5) (lv' := [some (.ref v0), some (.int v1), some (.int v2), some (.int v3), some (.int v4), some (.int y83), none, none]) hC dX12_likely_83 (by decide) (hok_v rfl rfl) rfl ?_
      refine z_mask (lv' := [some (.ref v0), some (.int v1), some (.int v2), some (.int v3), some (.int v4), some (.int y83), none, none]) [true, true, true, true, true, true, false, false] rfl ?_
      obtain ⟨n85, hw⟩ := hw
      exact t_X12_likely_b85 hC hr hlk hnm (fun hw => ih hw) n85 hw
def w_X12_likely_b35 (q : Int64 → hS → Prop) : Nat → hS → (Nat) → (Int32) → (Int32) → (Int32) → Prop
  | 0, _, _, _, _, _ => False
  | n + 1, S, v0, v1, v2, v3 => (22 ≤ v3 → gP S v0 12 50 (fun x55 => sJ S x55 0 1000000000000 (fun S => gP S v0 12 3 (fun x64 => aI S x64 6 (fun x69 => (∃ n74 : Nat, w_X12_likely_b74 q n74 S v0 v1 v2 x69 0)))))) ∧ (¬ 22 ≤ v3 → gP S v0 12 50 (fun x42 => sJ S x42 v3 0 (fun S => ∀ y48 : Int32, y48 = v3 + 1 → w_X12_likely_b35 q n S v0 v1 v2 y48)))
set_option maxRecDepth 100000 in
set_option maxHeartbeats 4000000 in
theorem t_X12_likely_b35 (hC : zC p R s m args c cX12_likely 8 RX12 G B mc ms 2 85) (hr : meth.sig.returnType = (Option.some FieldType.long)) (hlk : meth.locks = false) (hnm : meth.name = "likely") {q : Int64 → hS → Prop} (n : Nat) : ∀ {S : hS} {v0 : Nat} {v1 : Int32} {v2 : Int32} {v3 : Int32} (hw : w_X12_likely_b35 q n S v0 v1 v2 v3), Z p l e R s m args below meth c (MQ below (hQ G B (jP q)) args s mc ms (fun r => B ≤ r)) G B mc ms 8 S 0 0 35 [some (.ref v0), some (.int v1), some (.int v2), some (.int v3), none, none, none, none] [] := by
  induction n with
  | zero => intro S v0 v1 v2 v3 hw; exact (by rw [w_X12_likely_b35] at hw; exact hw.elim)
  | succ n ih =>
    intro S v0 v1 v2 v3 hw
    rw [w_X12_likely_b35] at hw
    refine z_iload_n hC dX12_likely_35 rfl rfl ?_
    refine z_bipush hC bi_22 dX12_likely_36 ?_
    refine z_icmp_ge (tgt := 54) hC dX12_likely_38 (by decide) (fun c38 => ?_) (fun c38 => ?_)
    · have hw := hw.1 c38
      refine z_aload_n hC dX12_likely_54 rfl rfl ?_
      refine z_getP hC FX12 50 lk_1405 dX12_likely_55 (by decide) hw (fun x55 hw => ?_)
      refine z_iconst hC ic_0 dX12_likely_58 ?_
      refine z_ldc2 hC lk_2017 dX12_likely_59 ?_
      refine z_astJ hC dX12_likely_62 hw (fun S hw => ?_)
      refine z_aload_n hC dX12_likely_63 rfl rfl ?_
      refine z_getP hC FX12 3 lk_1358 dX12_likely_64 (by decide) hw (fun x64 hw => ?_)
      refine z_bipush hC bi_6 dX12_likely_67 ?_
      refine z_aldI hC dX12_likely_69 hw (fun x69 hw => ?_)
      refine z_istore_n (i := 3) (lv' := [some (.ref v0), some (.int v1), some (.int v2), some (.int x69), none, none, none, none]) hC rfl dX12_likely_70 (by decide) (hok_v rfl rfl) rfl ?_
      refine z_iconst hC ic_0 dX12_likely_71 ?_
      refine z_istore (i := 4) (lv' := [some (.ref v0), some (.int v1), some (.int v2), some (.int x69), some (.int 0), none, none, none]) hC dX12_likely_72 (by decide) (hok_v rfl rfl) rfl ?_
      refine z_mask (lv' := [some (.ref v0), some (.int v1), some (.int v2), some (.int x69), some (.int 0), none, none, none]) [true, true, true, true, true, false, false, false] rfl ?_
      obtain ⟨n74, hw⟩ := hw
      exact t_X12_likely_b74 hC hr hlk hnm n74 hw
    · have hw := hw.2 c38
      refine z_aload_n hC dX12_likely_41 rfl rfl ?_
      refine z_getP hC FX12 50 lk_1405 dX12_likely_42 (by decide) hw (fun x42 hw => ?_)
      refine z_iload_n hC dX12_likely_45 rfl rfl ?_
      refine z_lconst hC lc_0 dX12_likely_46 ?_
      refine z_astJ hC dX12_likely_47 hw (fun S hw => ?_)
      refine z_inc (i := 3) hC ic_1 dX12_likely_48 rfl (by decide) (hok_v rfl rfl) (fun y48 e48 => ?_)
      have hw := hw y48 e48
      refine z_goto (tgt := 35) hC dX12_likely_51 (by decide) ?_
      refine z_mask (lv' := [some (.ref v0), some (.int v1), some (.int v2), some (.int y48), none, none, none, none]) [true, true, true, true, false, false, false, false] rfl ?_
      exact ih hw
def w_X12_likely (q : Int64 → hS → Prop) (S : hS) (v0 : Nat) (v1 : Int32) (v2 : Int32) : Prop := pI S v0 12 0 0 (fun S => w_X12_in (fun x11 S => (x11 = 0 → q (-1) S) ∧ (¬ x11 = 0 → w_X12_in (fun x23 S => (¬ x23 = 0 → (∃ n35 : Nat, w_X12_likely_b35 q n35 S v0 v1 v2 0)) ∧ (x23 = 0 → q (-1) S)) S (Int32.toInt64 v2) 0 60)) S (Int32.toInt64 v1) 0 20)
set_option maxRecDepth 100000 in
set_option maxHeartbeats 4000000 in
theorem c_X12_likely (l : Launch) (G : hG) (B : Nat) (S : hS) (v0 : Nat) (v1 : Int32) (v2 : Int32) (q : Int64 → hS → Prop) : Met l yX12_likely (hws yX12_likely cX12_likely 8 (Option.some FieldType.long)) ({ frames := 2, cells := 0, slots := 0, locals := 85 }) (hPc G B S [.ref v0, .int v1, .int v2] (w_X12_likely q S v0 v1 v2)) (hQ G B (jP q)) (0) (0) (fun r => B ≤ r) := by
  refine hMet (rm := { frames := 2, cells := 0, slots := 0, locals := 85 }) (lv := [some (.ref v0), some (.int v1), some (.int v2), none, none, none, none, none]) (own := RX12) (fr := 2) (lo := 85) (by decide) rfl rfl rfl (Nat.le_of_ble_eq_true rfl) rfl (fun hw p e R s m args below meth c hC hr hlk hnm => ?_)
  unfold w_X12_likely at hw
  refine z_aload_n hC dX12_likely_0 rfl rfl ?_
  refine z_iconst hC ic_0 dX12_likely_1 ?_
  refine z_putI hC FX12 0 lk_1355 dX12_likely_2 (by decide) rfl rfl hw (fun S hw => ?_)
  refine z_iload_n hC dX12_likely_5 rfl rfl ?_
  refine z_i2l hC rfl dX12_likely_6 ?_
  refine z_lconst hC lc_0 dX12_likely_7 ?_
  refine z_ldc2 hC lk_1821 dX12_likely_8 ?_
  refine z_callS (ku' := 0) (kv' := 0) (n := 3) (As := [.long (Int32.toInt64 v1), .long 0, .long 20]) (st := []) hC (c_X12_in l G B S (Int32.toInt64 v1) 0 20 _) hw lk_1556 lk_1557 lk_133 lk_1558 hd_X12_in rfl rfl (Nat.le_of_ble_eq_true rfl) (Nat.le_of_ble_eq_true rfl) rfl (Nat.le_of_ble_eq_true rfl) dX12_likely_11 (Nat.le_refl 0) (Nat.le_refl 0) (kI (fun x11 S hw => ?_))
  refine z_if_eq (tgt := 29) hC dX12_likely_14 (by decide) (fun c14 => ?_) (fun c14 => ?_)
  · have hw := hw.1 c14
    refine z_ldc2 hC lk_1601 dX12_likely_29 ?_
    exact z_lret hC hr hlk dX12_likely_32 ⟨_, rfl, hw⟩
  · have hw := hw.2 c14
    refine z_iload_n hC dX12_likely_17 rfl rfl ?_
    refine z_i2l hC rfl dX12_likely_18 ?_
    refine z_lconst hC lc_0 dX12_likely_19 ?_
    refine z_ldc2 hC lk_2016 dX12_likely_20 ?_
    refine z_callS (ku' := 0) (kv' := 0) (n := 3) (As := [.long (Int32.toInt64 v2), .long 0, .long 60]) (st := []) hC (c_X12_in l G B S (Int32.toInt64 v2) 0 60 _) hw lk_1556 lk_1557 lk_133 lk_1558 hd_X12_in rfl rfl (Nat.le_of_ble_eq_true rfl) (Nat.le_of_ble_eq_true rfl) rfl (Nat.le_of_ble_eq_true rfl) dX12_likely_23 (Nat.le_refl 0) (Nat.le_refl 0) (kI (fun x23 S hw => ?_))
    refine z_if_ne (tgt := 33) hC dX12_likely_26 (by decide) (fun c26 => ?_) (fun c26 => ?_)
    · have hw := hw.1 c26
      refine z_iconst hC ic_0 dX12_likely_33 ?_
      refine z_istore_n (i := 3) (lv' := [some (.ref v0), some (.int v1), some (.int v2), some (.int 0), none, none, none, none]) hC rfl dX12_likely_34 (by decide) (hok_v rfl rfl) rfl ?_
      refine z_mask (lv' := [some (.ref v0), some (.int v1), some (.int v2), some (.int 0), none, none, none, none]) [true, true, true, true, false, false, false, false] rfl ?_
      obtain ⟨n35, hw⟩ := hw
      exact t_X12_likely_b35 hC hr hlk hnm n35 hw
    · have hw := hw.2 c26
      refine z_ldc2 hC lk_1601 dX12_likely_29 ?_
      exact z_lret hC hr hlk dX12_likely_32 ⟨_, rfl, hw⟩
end
section
variable {p : Program} {l : Launch} {e : Env} {R : Room} {s : State} {m : MethodId} {args : Array Value} {below : List Frame} {meth : Method} {c : Code} {G : hG} {B mc ms : Nat}
def w_X12_readSum_b22 (q : hS → Prop) (S : hS) (v0 : Nat) (v1 : Int32) : Prop := gP S v0 12 52 (fun x23 => gI S v0 12 23 (fun x30 => sI S x23 (v1 + 1) x30 (fun S => q S)))
set_option maxRecDepth 100000 in
set_option maxHeartbeats 4000000 in
theorem t_X12_readSum_b22 (hC : zC p R s m args c cX12_readSum 2 RX12 G B mc ms 8 211) (hr : meth.sig.returnType = (Option.none : Option FieldType)) (hlk : meth.locks = false) (hnm : meth.name = "readSum") {q : hS → Prop} {S : hS} {v0 : Nat} {v1 : Int32} (hw : w_X12_readSum_b22 q S v0 v1) : Z p l e R s m args below meth c (MQ below (hQ G B (vP q)) args s mc ms (fun r => B ≤ r)) G B mc ms 2 S 0 0 22 [some (.ref v0), some (.int v1)] [] := by
  unfold w_X12_readSum_b22 at hw
  refine z_aload_n hC dX12_readSum_22 rfl rfl ?_
  refine z_getP hC FX12 52 lk_1407 dX12_readSum_23 (by decide) hw (fun x23 hw => ?_)
  refine z_iload_n hC dX12_readSum_26 rfl rfl ?_
  refine z_iconst hC ic_1 dX12_readSum_27 ?_
  refine z_iadd hC dX12_readSum_28 ?_
  refine z_aload_n hC dX12_readSum_29 rfl rfl ?_
  refine z_getI hC FX12 23 lk_1378 dX12_readSum_30 (by decide) hw (fun x30 hw => ?_)
  refine z_astI hC dX12_readSum_33 hw (fun S hw => ?_)
  exact z_vret hC hr hlk dX12_readSum_34 ⟨rfl, hw⟩
def w_X12_readSum (q : hS → Prop) (S : hS) (v0 : Nat) (v1 : Int32) : Prop := gP S v0 12 52 (fun x1 => gI S v0 12 23 (fun x6 => sI S x1 v1 x6 (fun S => gI S v0 12 19 (fun x11 => (¬ x11 = 0 → w_X12_readSum_b22 q S v0 v1) ∧ (x11 = 0 → oK S v0 12 ∧ w_X12_readExpression (fun S => w_X12_readSum_b22 q S v0 v1) S v0 0)))))
set_option maxRecDepth 100000 in
set_option maxHeartbeats 4000000 in
theorem c_X12_readSum (l : Launch) (G : hG) (B : Nat) (S : hS) (v0 : Nat) (v1 : Int32) (q : hS → Prop) : Met l yX12_readSum (hws yX12_readSum cX12_readSum 2 (Option.none : Option FieldType)) ({ frames := 8, cells := 0, slots := 0, locals := 211 }) (hPc G B S [.ref v0, .int v1] (w_X12_readSum q S v0 v1)) (hQ G B (vP q)) (0) (0) (fun r => B ≤ r) := by
  refine hMet (rm := { frames := 8, cells := 0, slots := 0, locals := 211 }) (lv := [some (.ref v0), some (.int v1)]) (own := RX12) (fr := 8) (lo := 211) (by decide) rfl rfl rfl (Nat.le_of_ble_eq_true rfl) rfl (fun hw p e R s m args below meth c hC hr hlk hnm => ?_)
  unfold w_X12_readSum at hw
  refine z_aload_n hC dX12_readSum_0 rfl rfl ?_
  refine z_getP hC FX12 52 lk_1407 dX12_readSum_1 (by decide) hw (fun x1 hw => ?_)
  refine z_iload_n hC dX12_readSum_4 rfl rfl ?_
  refine z_aload_n hC dX12_readSum_5 rfl rfl ?_
  refine z_getI hC FX12 23 lk_1378 dX12_readSum_6 (by decide) hw (fun x6 hw => ?_)
  refine z_astI hC dX12_readSum_9 hw (fun S hw => ?_)
  refine z_aload_n hC dX12_readSum_10 rfl rfl ?_
  refine z_getI hC FX12 19 lk_1374 dX12_readSum_11 (by decide) hw (fun x11 hw => ?_)
  refine z_if_ne (tgt := 22) hC dX12_readSum_14 (by decide) (fun c14 => ?_) (fun c14 => ?_)
  · have hw := hw.1 c14
    refine z_mask (lv' := [some (.ref v0), some (.int v1)]) [true, true] rfl ?_
    exact t_X12_readSum_b22 hC hr hlk hnm hw
  · have hw := hw.2 c14
    refine z_aload_n hC dX12_readSum_17 rfl rfl ?_
    refine z_iconst hC ic_0 dX12_readSum_18 ?_
    refine z_callV (ku' := 0) (kv' := 0) (n := 1) (As := [.int 0]) (st := []) hC (c_X12_readExpression l G B S v0 0 _) hw.2 hw.1 rfl lk_1755 lk_1757 lk_69 lk_133 lk_1758 hd_X12_readExpression rfl rfl (Nat.le_of_ble_eq_true rfl) (Nat.le_of_ble_eq_true rfl) rfl (Nat.le_of_ble_eq_true rfl) dX12_readSum_19 (Nat.le_refl 0) (Nat.le_refl 0) (kV (fun S hw => ?_))
    refine z_mask (lv' := [some (.ref v0), some (.int v1)]) [true, true] rfl ?_
    exact t_X12_readSum_b22 hC hr hlk hnm hw
end
section
variable {p : Program} {l : Launch} {e : Env} {R : Room} {s : State} {m : MethodId} {args : Array Value} {below : List Frame} {meth : Method} {c : Code} {G : hG} {B mc ms : Nat}
def w_X12_behind_b16 (q : hS → Prop) (S : hS) (v0 : Nat) (v3 : Int32) : Prop := oK S v0 12 ∧ w_X12_readSum (fun S => q S) S v0 v3
set_option maxRecDepth 100000 in
set_option maxHeartbeats 4000000 in
theorem t_X12_behind_b16 (hC : zC p R s m args c cX12_behind 4 RX12 G B mc ms 9 232) (hr : meth.sig.returnType = (Option.none : Option FieldType)) (hlk : meth.locks = false) (hnm : meth.name = "behind") {q : hS → Prop} {S : hS} {v0 : Nat} {v3 : Int32} (hw : w_X12_behind_b16 q S v0 v3) : Z p l e R s m args below meth c (MQ below (hQ G B (vP q)) args s mc ms (fun r => B ≤ r)) G B mc ms 4 S 0 0 16 [some (.ref v0), none, none, some (.int v3)] [] := by
  unfold w_X12_behind_b16 at hw
  refine z_aload_n hC dX12_behind_16 rfl rfl ?_
  refine z_iload_n hC dX12_behind_17 rfl rfl ?_
  refine z_callV (ku' := 0) (kv' := 0) (n := 1) (As := [.int v3]) (st := []) hC (c_X12_readSum l G B S v0 v3 _) hw.2 hw.1 rfl lk_2026 lk_2028 lk_113 lk_133 lk_2029 hd_X12_readSum rfl rfl (Nat.le_of_ble_eq_true rfl) (Nat.le_of_ble_eq_true rfl) rfl (Nat.le_of_ble_eq_true rfl) dX12_behind_18 (Nat.le_refl 0) (Nat.le_refl 0) (kV (fun S hw => ?_))
  exact z_vret hC hr hlk dX12_behind_21 ⟨rfl, hw⟩
def w_X12_behind (q : hS → Prop) (S : hS) (v0 : Nat) (v1 : Int64) (v3 : Int32) : Prop := gI S v0 12 19 (fun x1 => (¬ x1 = 0 → w_X12_behind_b16 q S v0 v3) ∧ (x1 = 0 → oK S v0 12 ∧ w_X12_isWord (fun x10 S => oK S v0 12 ∧ w_X12_must (fun S => w_X12_behind_b16 q S v0 v3) S v0 x10) S v0 v1))
set_option maxRecDepth 100000 in
set_option maxHeartbeats 4000000 in
theorem c_X12_behind (l : Launch) (G : hG) (B : Nat) (S : hS) (v0 : Nat) (v1 : Int64) (v3 : Int32) (q : hS → Prop) : Met l yX12_behind (hws yX12_behind cX12_behind 4 (Option.none : Option FieldType)) ({ frames := 9, cells := 0, slots := 0, locals := 232 }) (hPc G B S [.ref v0, .long v1, .int v3] (w_X12_behind q S v0 v1 v3)) (hQ G B (vP q)) (0) (0) (fun r => B ≤ r) := by
  refine hMet (rm := { frames := 9, cells := 0, slots := 0, locals := 232 }) (lv := [some (.ref v0), some (.long v1), none, some (.int v3)]) (own := RX12) (fr := 9) (lo := 232) (by decide) rfl rfl rfl (Nat.le_of_ble_eq_true rfl) rfl (fun hw p e R s m args below meth c hC hr hlk hnm => ?_)
  unfold w_X12_behind at hw
  refine z_aload_n hC dX12_behind_0 rfl rfl ?_
  refine z_getI hC FX12 19 lk_1374 dX12_behind_1 (by decide) hw (fun x1 hw => ?_)
  refine z_if_ne (tgt := 16) hC dX12_behind_4 (by decide) (fun c4 => ?_) (fun c4 => ?_)
  · have hw := hw.1 c4
    refine z_mask (lv' := [some (.ref v0), none, none, some (.int v3)]) [true, false, false, true] rfl ?_
    exact t_X12_behind_b16 hC hr hlk hnm hw
  · have hw := hw.2 c4
    refine z_aload_n hC dX12_behind_7 rfl rfl ?_
    refine z_aload_n hC dX12_behind_8 rfl rfl ?_
    refine z_lload_n hC dX12_behind_9 rfl rfl ?_
    refine z_callV (ku' := 0) (kv' := 0) (n := 1) (As := [.long v1]) (st := [.ref v0]) hC (c_X12_isWord l G B S v0 v1 _) hw.2 hw.1 rfl lk_1747 lk_1749 lk_67 lk_133 lk_1750 hd_X12_isWord rfl rfl (Nat.le_of_ble_eq_true rfl) (Nat.le_of_ble_eq_true rfl) rfl (Nat.le_of_ble_eq_true rfl) dX12_behind_10 (Nat.le_refl 0) (Nat.le_refl 0) (kI (fun x10 S hw => ?_))
    refine z_callV (ku' := 0) (kv' := 0) (n := 1) (As := [.int x10]) (st := []) hC (c_X12_must l G B S v0 x10 _) hw.2 hw.1 rfl lk_1751 lk_1753 lk_68 lk_133 lk_1754 hd_X12_must rfl rfl (Nat.le_of_ble_eq_true rfl) (Nat.le_of_ble_eq_true rfl) rfl (Nat.le_of_ble_eq_true rfl) dX12_behind_13 (Nat.le_refl 0) (Nat.le_refl 0) (kV (fun S hw => ?_))
    refine z_mask (lv' := [some (.ref v0), none, none, some (.int v3)]) [true, false, false, true] rfl ?_
    exact t_X12_behind_b16 hC hr hlk hnm hw
end
section
variable {p : Program} {l : Launch} {e : Env} {R : Room} {s : State} {m : MethodId} {args : Array Value} {below : List Frame} {meth : Method} {c : Code} {G : hG} {B mc ms : Nat}
def w_X12_readOrder_b27 (q : hS → Prop) (K4 : hS → (Nat) → (Int32) → (Int32) → Prop) (S : hS) (v0 : Nat) (v2 : Int32) (t0 : Int32) : Prop := ∀ y28 : Int32, y28 = v2 + 1 → K4 S v0 t0 y28
set_option maxRecDepth 100000 in
set_option maxHeartbeats 4000000 in
theorem t_X12_readOrder_b27 (hC : zC p R s m args c cX12_readOrder 4 RX12 G B mc ms 10 255) (hr : meth.sig.returnType = (Option.none : Option FieldType)) (hlk : meth.locks = false) (hnm : meth.name = "readOrder") {q : hS → Prop} {K4 : hS → (Nat) → (Int32) → (Int32) → Prop} (hK4 : ∀ {S : hS} {v0 : Nat} {v1 : Int32} {v2 : Int32}, K4 S v0 v1 v2 → Z p l e R s m args below meth c (MQ below (hQ G B (vP q)) args s mc ms (fun r => B ≤ r)) G B mc ms 4 S 0 0 4 [some (.ref v0), some (.int v1), some (.int v2), none] []) {S : hS} {v0 : Nat} {v2 : Int32} {t0 : Int32} (hw : w_X12_readOrder_b27 q K4 S v0 v2 t0) : Z p l e R s m args below meth c (MQ below (hQ G B (vP q)) args s mc ms (fun r => B ≤ r)) G B mc ms 4 S 0 0 27 [some (.ref v0), none, some (.int v2), none] [.int t0] := by
  unfold w_X12_readOrder_b27 at hw
  refine z_istore_n (i := 1) (lv' := [some (.ref v0), some (.int t0), some (.int v2), none]) hC rfl dX12_readOrder_27 (by decide) (hok_v rfl rfl) rfl ?_
  refine z_inc (i := 2) hC ic_1 dX12_readOrder_28 rfl (by decide) (hok_v rfl rfl) (fun y28 e28 => ?_)
  have hw := hw y28 e28
  refine z_goto (tgt := 4) hC dX12_readOrder_31 (by decide) ?_
  refine z_mask (lv' := [some (.ref v0), some (.int t0), some (.int y28), none]) [true, true, true, false] rfl ?_
  exact hK4 hw
def w_X12_readOrder_b251 (q : hS → Prop) (S : hS) (v0 : Nat) (v2 : Int32) : Prop := gP S v0 12 52 (fun x252 => gI S v0 12 23 (fun x262 => sI S x252 ((v2 + 7) + 1) x262 (fun S => q S)))
set_option maxRecDepth 100000 in
set_option maxHeartbeats 4000000 in
theorem t_X12_readOrder_b251 (hC : zC p R s m args c cX12_readOrder 4 RX12 G B mc ms 10 255) (hr : meth.sig.returnType = (Option.none : Option FieldType)) (hlk : meth.locks = false) (hnm : meth.name = "readOrder") {q : hS → Prop} {S : hS} {v0 : Nat} {v2 : Int32} (hw : w_X12_readOrder_b251 q S v0 v2) : Z p l e R s m args below meth c (MQ below (hQ G B (vP q)) args s mc ms (fun r => B ≤ r)) G B mc ms 4 S 0 0 251 [some (.ref v0), none, some (.int v2), none] [] := by
  unfold w_X12_readOrder_b251 at hw
  refine z_aload_n hC dX12_readOrder_251 rfl rfl ?_
  refine z_getP hC FX12 52 lk_1407 dX12_readOrder_252 (by decide) hw (fun x252 hw => ?_)
  refine z_iload_n hC dX12_readOrder_255 rfl rfl ?_
  refine z_bipush hC bi_7 dX12_readOrder_256 ?_
  refine z_iadd hC dX12_readOrder_258 ?_
  refine z_iconst hC ic_1 dX12_readOrder_259 ?_
  refine z_iadd hC dX12_readOrder_260 ?_
  refine z_aload_n hC dX12_readOrder_261 rfl rfl ?_
  refine z_getI hC FX12 23 lk_1378 dX12_readOrder_262 (by decide) hw (fun x262 hw => ?_)
  refine z_astI hC dX12_readOrder_265 hw (fun S hw => ?_)
  exact z_vret hC hr hlk dX12_readOrder_266 ⟨rfl, hw⟩
def w_X12_readOrder_b212 (q : hS → Prop) (S : hS) (v0 : Nat) (v2 : Int32) : Prop := gP S v0 12 52 (fun x213 => gI S v0 12 23 (fun x221 => sI S x213 (v2 + 7) x221 (fun S => gI S v0 12 19 (fun x226 => (¬ x226 = 0 → w_X12_readOrder_b251 q S v0 v2) ∧ (x226 = 0 → oK S v0 12 ∧ w_X12_isWord (fun x236 S => (x236 = 0 → w_X12_readOrder_b251 q S v0 v2) ∧ (¬ x236 = 0 → oK S v0 12 ∧ w_X12_next (fun S => oK S v0 12 ∧ w_X12_readExpression (fun S => w_X12_readOrder_b251 q S v0 v2) S v0 1) S v0)) S v0 294)))))
set_option maxRecDepth 100000 in
set_option maxHeartbeats 4000000 in
theorem t_X12_readOrder_b212 (hC : zC p R s m args c cX12_readOrder 4 RX12 G B mc ms 10 255) (hr : meth.sig.returnType = (Option.none : Option FieldType)) (hlk : meth.locks = false) (hnm : meth.name = "readOrder") {q : hS → Prop} {S : hS} {v0 : Nat} {v2 : Int32} (hw : w_X12_readOrder_b212 q S v0 v2) : Z p l e R s m args below meth c (MQ below (hQ G B (vP q)) args s mc ms (fun r => B ≤ r)) G B mc ms 4 S 0 0 212 [some (.ref v0), none, some (.int v2), none] [] := by
  unfold w_X12_readOrder_b212 at hw
  refine z_aload_n hC dX12_readOrder_212 rfl rfl ?_
  refine z_getP hC FX12 52 lk_1407 dX12_readOrder_213 (by decide) hw (fun x213 hw => ?_)
  refine z_iload_n hC dX12_readOrder_216 rfl rfl ?_
  refine z_bipush hC bi_7 dX12_readOrder_217 ?_
  refine z_iadd hC dX12_readOrder_219 ?_
  refine z_aload_n hC dX12_readOrder_220 rfl rfl ?_
  refine z_getI hC FX12 23 lk_1378 dX12_readOrder_221 (by decide) hw (fun x221 hw => ?_)
  refine z_astI hC dX12_readOrder_224 hw (fun S hw => ?_)
  refine z_aload_n hC dX12_readOrder_225 rfl rfl ?_
  refine z_getI hC FX12 19 lk_1374 dX12_readOrder_226 (by decide) hw (fun x226 hw => ?_)
  refine z_if_ne (tgt := 251) hC dX12_readOrder_229 (by decide) (fun c229 => ?_) (fun c229 => ?_)
  · have hw := hw.1 c229
    refine z_mask (lv' := [some (.ref v0), none, some (.int v2), none]) [true, false, true, false] rfl ?_
    exact t_X12_readOrder_b251 hC hr hlk hnm hw
  · have hw := hw.2 c229
    refine z_aload_n hC dX12_readOrder_232 rfl rfl ?_
    refine z_ldc2 hC lk_1830 dX12_readOrder_233 ?_
    refine z_callV (ku' := 0) (kv' := 0) (n := 1) (As := [.long 294]) (st := []) hC (c_X12_isWord l G B S v0 294 _) hw.2 hw.1 rfl lk_1747 lk_1749 lk_67 lk_133 lk_1750 hd_X12_isWord rfl rfl (Nat.le_of_ble_eq_true rfl) (Nat.le_of_ble_eq_true rfl) rfl (Nat.le_of_ble_eq_true rfl) dX12_readOrder_236 (Nat.le_refl 0) (Nat.le_refl 0) (kI (fun x236 S hw => ?_))
    refine z_if_eq (tgt := 251) hC dX12_readOrder_239 (by decide) (fun c239 => ?_) (fun c239 => ?_)
    · have hw := hw.1 c239
      refine z_mask (lv' := [some (.ref v0), none, some (.int v2), none]) [true, false, true, false] rfl ?_
      exact t_X12_readOrder_b251 hC hr hlk hnm hw
    · have hw := hw.2 c239
      refine z_aload_n hC dX12_readOrder_242 rfl rfl ?_
      refine z_callV (ku' := 0) (kv' := 0) (n := 0) (As := []) (st := []) hC (c_X12_next l G B S v0 _) hw.2 hw.1 rfl lk_1729 lk_1731 lk_65 lk_133 lk_1732 hd_X12_next rfl rfl (Nat.le_of_ble_eq_true rfl) (Nat.le_of_ble_eq_true rfl) rfl (Nat.le_of_ble_eq_true rfl) dX12_readOrder_243 (Nat.le_refl 0) (Nat.le_refl 0) (kV (fun S hw => ?_))
      refine z_aload_n hC dX12_readOrder_246 rfl rfl ?_
      refine z_iconst hC ic_1 dX12_readOrder_247 ?_
      refine z_callV (ku' := 0) (kv' := 0) (n := 1) (As := [.int 1]) (st := []) hC (c_X12_readExpression l G B S v0 1 _) hw.2 hw.1 rfl lk_1755 lk_1757 lk_69 lk_133 lk_1758 hd_X12_readExpression rfl rfl (Nat.le_of_ble_eq_true rfl) (Nat.le_of_ble_eq_true rfl) rfl (Nat.le_of_ble_eq_true rfl) dX12_readOrder_248 (Nat.le_refl 0) (Nat.le_refl 0) (kV (fun S hw => ?_))
      refine z_mask (lv' := [some (.ref v0), none, some (.int v2), none]) [true, false, true, false] rfl ?_
      exact t_X12_readOrder_b251 hC hr hlk hnm hw
def w_X12_readOrder_b164 (q : hS → Prop) (S : hS) (v0 : Nat) (v2 : Int32) : Prop := gP S v0 12 52 (fun x165 => sI S x165 (v2 + 9) 1 (fun S => gI S v0 12 19 (fun x175 => (¬ x175 = 0 → w_X12_readOrder_b212 q S v0 v2) ∧ (x175 = 0 → oK S v0 12 ∧ w_X12_isWord (fun x185 S => (x185 = 0 → w_X12_readOrder_b212 q S v0 v2) ∧ (¬ x185 = 0 → oK S v0 12 ∧ w_X12_next (fun S => gP S v0 12 52 (fun x196 => oK S v0 12 ∧ w_X12_number (fun x208 S => sI S x196 (v2 + 9) x208 (fun S => w_X12_readOrder_b212 q S v0 v2)) S v0 1 20)) S v0)) S v0 21279923))))
set_option maxRecDepth 100000 in
set_option maxHeartbeats 4000000 in
theorem t_X12_readOrder_b164 (hC : zC p R s m args c cX12_readOrder 4 RX12 G B mc ms 10 255) (hr : meth.sig.returnType = (Option.none : Option FieldType)) (hlk : meth.locks = false) (hnm : meth.name = "readOrder") {q : hS → Prop} {S : hS} {v0 : Nat} {v2 : Int32} (hw : w_X12_readOrder_b164 q S v0 v2) : Z p l e R s m args below meth c (MQ below (hQ G B (vP q)) args s mc ms (fun r => B ≤ r)) G B mc ms 4 S 0 0 164 [some (.ref v0), none, some (.int v2), none] [] := by
  unfold w_X12_readOrder_b164 at hw
  refine z_aload_n hC dX12_readOrder_164 rfl rfl ?_
  refine z_getP hC FX12 52 lk_1407 dX12_readOrder_165 (by decide) hw (fun x165 hw => ?_)
  refine z_iload_n hC dX12_readOrder_168 rfl rfl ?_
  refine z_bipush hC bi_9 dX12_readOrder_169 ?_
  refine z_iadd hC dX12_readOrder_171 ?_
  refine z_iconst hC ic_1 dX12_readOrder_172 ?_
  refine z_astI hC dX12_readOrder_173 hw (fun S hw => ?_)
  refine z_aload_n hC dX12_readOrder_174 rfl rfl ?_
  refine z_getI hC FX12 19 lk_1374 dX12_readOrder_175 (by decide) hw (fun x175 hw => ?_)
  refine z_if_ne (tgt := 212) hC dX12_readOrder_178 (by decide) (fun c178 => ?_) (fun c178 => ?_)
  · have hw := hw.1 c178
    refine z_mask (lv' := [some (.ref v0), none, some (.int v2), none]) [true, false, true, false] rfl ?_
    exact t_X12_readOrder_b212 hC hr hlk hnm hw
  · have hw := hw.2 c178
    refine z_aload_n hC dX12_readOrder_181 rfl rfl ?_
    refine z_ldc2 hC lk_2036 dX12_readOrder_182 ?_
    refine z_callV (ku' := 0) (kv' := 0) (n := 1) (As := [.long 21279923]) (st := []) hC (c_X12_isWord l G B S v0 21279923 _) hw.2 hw.1 rfl lk_1747 lk_1749 lk_67 lk_133 lk_1750 hd_X12_isWord rfl rfl (Nat.le_of_ble_eq_true rfl) (Nat.le_of_ble_eq_true rfl) rfl (Nat.le_of_ble_eq_true rfl) dX12_readOrder_185 (Nat.le_refl 0) (Nat.le_refl 0) (kI (fun x185 S hw => ?_))
    refine z_if_eq (tgt := 212) hC dX12_readOrder_188 (by decide) (fun c188 => ?_) (fun c188 => ?_)
    · have hw := hw.1 c188
      refine z_mask (lv' := [some (.ref v0), none, some (.int v2), none]) [true, false, true, false] rfl ?_
      exact t_X12_readOrder_b212 hC hr hlk hnm hw
    · have hw := hw.2 c188
      refine z_aload_n hC dX12_readOrder_191 rfl rfl ?_
      refine z_callV (ku' := 0) (kv' := 0) (n := 0) (As := []) (st := []) hC (c_X12_next l G B S v0 _) hw.2 hw.1 rfl lk_1729 lk_1731 lk_65 lk_133 lk_1732 hd_X12_next rfl rfl (Nat.le_of_ble_eq_true rfl) (Nat.le_of_ble_eq_true rfl) rfl (Nat.le_of_ble_eq_true rfl) dX12_readOrder_192 (Nat.le_refl 0) (Nat.le_refl 0) (kV (fun S hw => ?_))
      refine z_aload_n hC dX12_readOrder_195 rfl rfl ?_
      refine z_getP hC FX12 52 lk_1407 dX12_readOrder_196 (by decide) hw (fun x196 hw => ?_)
      refine z_iload_n hC dX12_readOrder_199 rfl rfl ?_
      refine z_bipush hC bi_9 dX12_readOrder_200 ?_
      refine z_iadd hC dX12_readOrder_202 ?_
      refine z_aload_n hC dX12_readOrder_203 rfl rfl ?_
      refine z_lconst hC lc_1 dX12_readOrder_204 ?_
      refine z_ldc2 hC lk_1821 dX12_readOrder_205 ?_
      refine z_callV (ku' := 0) (kv' := 0) (n := 2) (As := [.long 1, .long 20]) (st := [.int (v2 + 9), .ref x196]) hC (c_X12_number l G B S v0 1 20 _) hw.2 hw.1 rfl lk_1798 lk_1800 lk_79 lk_133 lk_1801 hd_X12_number rfl rfl (Nat.le_of_ble_eq_true rfl) (Nat.le_of_ble_eq_true rfl) rfl (Nat.le_of_ble_eq_true rfl) dX12_readOrder_208 (Nat.le_refl 0) (Nat.le_refl 0) (kI (fun x208 S hw => ?_))
      refine z_astI hC dX12_readOrder_211 hw (fun S hw => ?_)
      refine z_mask (lv' := [some (.ref v0), none, some (.int v2), none]) [true, false, true, false] rfl ?_
      exact t_X12_readOrder_b212 hC hr hlk hnm hw
def w_X12_readOrder_b139 (q : hS → Prop) (S : hS) (v0 : Nat) (v1 : Int32) (v2 : Int32) : Prop := (¬ v1 = 1 → w_X12_readOrder_b164 q S v0 v2) ∧ (v1 = 1 → oK S v0 12 ∧ w_X12_behind (fun S => oK S v0 12 ∧ w_X12_behind (fun S => w_X12_readOrder_b164 q S v0 v2) S v0 486 (v2 + 5)) S v0 655 (v2 + 3))
set_option maxRecDepth 100000 in
set_option maxHeartbeats 4000000 in
theorem t_X12_readOrder_b139 (hC : zC p R s m args c cX12_readOrder 4 RX12 G B mc ms 10 255) (hr : meth.sig.returnType = (Option.none : Option FieldType)) (hlk : meth.locks = false) (hnm : meth.name = "readOrder") {q : hS → Prop} {S : hS} {v0 : Nat} {v1 : Int32} {v2 : Int32} (hw : w_X12_readOrder_b139 q S v0 v1 v2) : Z p l e R s m args below meth c (MQ below (hQ G B (vP q)) args s mc ms (fun r => B ≤ r)) G B mc ms 4 S 0 0 139 [some (.ref v0), some (.int v1), some (.int v2), none] [] := by
  unfold w_X12_readOrder_b139 at hw
  refine z_iload_n hC dX12_readOrder_139 rfl rfl ?_
  refine z_iconst hC ic_1 dX12_readOrder_140 ?_
  refine z_icmp_ne (tgt := 164) hC dX12_readOrder_141 (by decide) (fun c141 => ?_) (fun c141 => ?_)
  · have hw := hw.1 c141
    refine z_mask (lv' := [some (.ref v0), none, some (.int v2), none]) [true, false, true, false] rfl ?_
    exact t_X12_readOrder_b164 hC hr hlk hnm hw
  · have hw := hw.2 c141
    refine z_aload_n hC dX12_readOrder_144 rfl rfl ?_
    refine z_ldc2 hC lk_1341 dX12_readOrder_145 ?_
    refine z_iload_n hC dX12_readOrder_148 rfl rfl ?_
    refine z_iconst hC ic_3 dX12_readOrder_149 ?_
    refine z_iadd hC dX12_readOrder_150 ?_
    refine z_callV (ku' := 0) (kv' := 0) (n := 2) (As := [.long 655, .int (v2 + 3)]) (st := []) hC (c_X12_behind l G B S v0 655 (v2 + 3) _) hw.2 hw.1 rfl lk_2031 lk_2033 lk_114 lk_133 lk_2034 hd_X12_behind rfl rfl (Nat.le_of_ble_eq_true rfl) (Nat.le_of_ble_eq_true rfl) rfl (Nat.le_of_ble_eq_true rfl) dX12_readOrder_151 (Nat.le_refl 0) (Nat.le_refl 0) (kV (fun S hw => ?_))
    refine z_aload_n hC dX12_readOrder_154 rfl rfl ?_
    refine z_ldc2 hC lk_2035 dX12_readOrder_155 ?_
    refine z_iload_n hC dX12_readOrder_158 rfl rfl ?_
    refine z_iconst hC ic_5 dX12_readOrder_159 ?_
    refine z_iadd hC dX12_readOrder_160 ?_
    refine z_callV (ku' := 0) (kv' := 0) (n := 2) (As := [.long 486, .int (v2 + 5)]) (st := []) hC (c_X12_behind l G B S v0 486 (v2 + 5) _) hw.2 hw.1 rfl lk_2031 lk_2033 lk_114 lk_133 lk_2034 hd_X12_behind rfl rfl (Nat.le_of_ble_eq_true rfl) (Nat.le_of_ble_eq_true rfl) rfl (Nat.le_of_ble_eq_true rfl) dX12_readOrder_161 (Nat.le_refl 0) (Nat.le_refl 0) (kV (fun S hw => ?_))
    refine z_mask (lv' := [some (.ref v0), none, some (.int v2), none]) [true, false, true, false] rfl ?_
    exact t_X12_readOrder_b164 hC hr hlk hnm hw
def w_X12_readOrder_b125 (q : hS → Prop) (S : hS) (v0 : Nat) (v1 : Int32) (v2 : Int32) : Prop := (¬ v1 = 0 → w_X12_readOrder_b139 q S v0 v1 v2) ∧ (v1 = 0 → oK S v0 12 ∧ w_X12_behind (fun S => w_X12_readOrder_b139 q S v0 v1 v2) S v0 52 (v2 + 3))
set_option maxRecDepth 100000 in
set_option maxHeartbeats 4000000 in
theorem t_X12_readOrder_b125 (hC : zC p R s m args c cX12_readOrder 4 RX12 G B mc ms 10 255) (hr : meth.sig.returnType = (Option.none : Option FieldType)) (hlk : meth.locks = false) (hnm : meth.name = "readOrder") {q : hS → Prop} {S : hS} {v0 : Nat} {v1 : Int32} {v2 : Int32} (hw : w_X12_readOrder_b125 q S v0 v1 v2) : Z p l e R s m args below meth c (MQ below (hQ G B (vP q)) args s mc ms (fun r => B ≤ r)) G B mc ms 4 S 0 0 125 [some (.ref v0), some (.int v1), some (.int v2), none] [] := by
  unfold w_X12_readOrder_b125 at hw
  refine z_iload_n hC dX12_readOrder_125 rfl rfl ?_
  refine z_if_ne (tgt := 139) hC dX12_readOrder_126 (by decide) (fun c126 => ?_) (fun c126 => ?_)
  · have hw := hw.1 c126
    refine z_mask (lv' := [some (.ref v0), some (.int v1), some (.int v2), none]) [true, true, true, false] rfl ?_
    exact t_X12_readOrder_b139 hC hr hlk hnm hw
  · have hw := hw.2 c126
    refine z_aload_n hC dX12_readOrder_129 rfl rfl ?_
    refine z_ldc2 hC lk_2030 dX12_readOrder_130 ?_
    refine z_iload_n hC dX12_readOrder_133 rfl rfl ?_
    refine z_iconst hC ic_3 dX12_readOrder_134 ?_
    refine z_iadd hC dX12_readOrder_135 ?_
    refine z_callV (ku' := 0) (kv' := 0) (n := 2) (As := [.long 52, .int (v2 + 3)]) (st := []) hC (c_X12_behind l G B S v0 52 (v2 + 3) _) hw.2 hw.1 rfl lk_2031 lk_2033 lk_114 lk_133 lk_2034 hd_X12_behind rfl rfl (Nat.le_of_ble_eq_true rfl) (Nat.le_of_ble_eq_true rfl) rfl (Nat.le_of_ble_eq_true rfl) dX12_readOrder_136 (Nat.le_refl 0) (Nat.le_refl 0) (kV (fun S hw => ?_))
    refine z_mask (lv' := [some (.ref v0), some (.int v1), some (.int v2), none]) [true, true, true, false] rfl ?_
    exact t_X12_readOrder_b139 hC hr hlk hnm hw
def w_X12_readOrder_b85 (q : hS → Prop) : Nat → hS → (Nat) → (Int32) → (Int32) → (Int32) → Prop
  | 0, _, _, _, _, _ => False
  | n + 1, S, v0, v1, v2, v3 => (10 ≤ v3 → gP S v0 12 52 (fun x107 => sI S x107 v2 v1 (fun S => (v1 = 3 → w_X12_readOrder_b125 q S v0 v1 v2) ∧ (¬ v1 = 3 → oK S v0 12 ∧ w_X12_readSum (fun S => w_X12_readOrder_b125 q S v0 v1 v2) S v0 (v2 + 1))))) ∧ (¬ 10 ≤ v3 → gP S v0 12 52 (fun x92 => sI S x92 (v2 + v3) 0 (fun S => ∀ y100 : Int32, y100 = v3 + 1 → w_X12_readOrder_b85 q n S v0 v1 v2 y100)))
set_option maxRecDepth 100000 in
set_option maxHeartbeats 4000000 in
theorem t_X12_readOrder_b85 (hC : zC p R s m args c cX12_readOrder 4 RX12 G B mc ms 10 255) (hr : meth.sig.returnType = (Option.none : Option FieldType)) (hlk : meth.locks = false) (hnm : meth.name = "readOrder") {q : hS → Prop} (n : Nat) : ∀ {S : hS} {v0 : Nat} {v1 : Int32} {v2 : Int32} {v3 : Int32} (hw : w_X12_readOrder_b85 q n S v0 v1 v2 v3), Z p l e R s m args below meth c (MQ below (hQ G B (vP q)) args s mc ms (fun r => B ≤ r)) G B mc ms 4 S 0 0 85 [some (.ref v0), some (.int v1), some (.int v2), some (.int v3)] [] := by
  induction n with
  | zero => intro S v0 v1 v2 v3 hw; exact (by rw [w_X12_readOrder_b85] at hw; exact hw.elim)
  | succ n ih =>
    intro S v0 v1 v2 v3 hw
    rw [w_X12_readOrder_b85] at hw
    refine z_iload_n hC dX12_readOrder_85 rfl rfl ?_
    refine z_bipush hC bi_10 dX12_readOrder_86 ?_
    refine z_icmp_ge (tgt := 106) hC dX12_readOrder_88 (by decide) (fun c88 => ?_) (fun c88 => ?_)
    · have hw := hw.1 c88
      refine z_aload_n hC dX12_readOrder_106 rfl rfl ?_
      refine z_getP hC FX12 52 lk_1407 dX12_readOrder_107 (by decide) hw (fun x107 hw => ?_)
      refine z_iload_n hC dX12_readOrder_110 rfl rfl ?_
      refine z_iload_n hC dX12_readOrder_111 rfl rfl ?_
      refine z_astI hC dX12_readOrder_112 hw (fun S hw => ?_)
      refine z_iload_n hC dX12_readOrder_113 rfl rfl ?_
      refine z_iconst hC ic_3 dX12_readOrder_114 ?_
      refine z_icmp_eq (tgt := 125) hC dX12_readOrder_115 (by decide) (fun c115 => ?_) (fun c115 => ?_)
      · have hw := hw.1 c115
        refine z_mask (lv' := [some (.ref v0), some (.int v1), some (.int v2), none]) [true, true, true, false] rfl ?_
        exact t_X12_readOrder_b125 hC hr hlk hnm hw
      · have hw := hw.2 c115
        refine z_aload_n hC dX12_readOrder_118 rfl rfl ?_
        refine z_iload_n hC dX12_readOrder_119 rfl rfl ?_
        refine z_iconst hC ic_1 dX12_readOrder_120 ?_
        refine z_iadd hC dX12_readOrder_121 ?_
        refine z_callV (ku' := 0) (kv' := 0) (n := 1) (As := [.int (v2 + 1)]) (st := []) hC (c_X12_readSum l G B S v0 (v2 + 1) _) hw.2 hw.1 rfl lk_2026 lk_2028 lk_113 lk_133 lk_2029 hd_X12_readSum rfl rfl (Nat.le_of_ble_eq_true rfl) (Nat.le_of_ble_eq_true rfl) rfl (Nat.le_of_ble_eq_true rfl) dX12_readOrder_122 (Nat.le_refl 0) (Nat.le_refl 0) (kV (fun S hw => ?_))
        refine z_mask (lv' := [some (.ref v0), some (.int v1), some (.int v2), none]) [true, true, true, false] rfl ?_
        exact t_X12_readOrder_b125 hC hr hlk hnm hw
    · have hw := hw.2 c88
      refine z_aload_n hC dX12_readOrder_91 rfl rfl ?_
      refine z_getP hC FX12 52 lk_1407 dX12_readOrder_92 (by decide) hw (fun x92 hw => ?_)
      refine z_iload_n hC dX12_readOrder_95 rfl rfl ?_
      refine z_iload_n hC dX12_readOrder_96 rfl rfl ?_
      refine z_iadd hC dX12_readOrder_97 ?_
      refine z_iconst hC ic_0 dX12_readOrder_98 ?_
      refine z_astI hC dX12_readOrder_99 hw (fun S hw => ?_)
      refine z_inc (i := 3) hC ic_1 dX12_readOrder_100 rfl (by decide) (hok_v rfl rfl) (fun y100 e100 => ?_)
      have hw := hw y100 e100
      refine z_goto (tgt := 85) hC dX12_readOrder_103 (by decide) ?_
      refine z_mask (lv' := [some (.ref v0), some (.int v1), some (.int v2), some (.int y100)]) [true, true, true, true] rfl ?_
      exact ih hw
def w_X12_readOrder_b54 (q : hS → Prop) (S : hS) (v0 : Nat) (v1 : Int32) (t0 : Int32) (t1 : Nat) : Prop := oK S t1 12 ∧ w_X12_must (fun S => gI S v0 12 19 (fun x58 => (x58 = 0 → gI S v0 12 21 (fun x68 => ∀ y72 : Int32, y72 = (10 * x68) → gI S v0 12 21 (fun x75 => pI S v0 12 21 (x75 + 1) (fun S => (∃ n85 : Nat, w_X12_readOrder_b85 q n85 S v0 v1 y72 0))))) ∧ (¬ x58 = 0 → q S))) S t1 t0
set_option maxRecDepth 100000 in
set_option maxHeartbeats 4000000 in
theorem t_X12_readOrder_b54 (hC : zC p R s m args c cX12_readOrder 4 RX12 G B mc ms 10 255) (hr : meth.sig.returnType = (Option.none : Option FieldType)) (hlk : meth.locks = false) (hnm : meth.name = "readOrder") {q : hS → Prop} {S : hS} {v0 : Nat} {v1 : Int32} {t0 : Int32} {t1 : Nat} (hw : w_X12_readOrder_b54 q S v0 v1 t0 t1) : Z p l e R s m args below meth c (MQ below (hQ G B (vP q)) args s mc ms (fun r => B ≤ r)) G B mc ms 4 S 0 0 54 [some (.ref v0), some (.int v1), none, none] [.int t0, .ref t1] := by
  unfold w_X12_readOrder_b54 at hw
  refine z_callV (ku' := 0) (kv' := 0) (n := 1) (As := [.int t0]) (st := []) hC (c_X12_must l G B S t1 t0 _) hw.2 hw.1 rfl lk_1751 lk_1753 lk_68 lk_133 lk_1754 hd_X12_must rfl rfl (Nat.le_of_ble_eq_true rfl) (Nat.le_of_ble_eq_true rfl) rfl (Nat.le_of_ble_eq_true rfl) dX12_readOrder_54 (Nat.le_refl 0) (Nat.le_refl 0) (kV (fun S hw => ?_))
  refine z_aload_n hC dX12_readOrder_57 rfl rfl ?_
  refine z_getI hC FX12 19 lk_1374 dX12_readOrder_58 (by decide) hw (fun x58 hw => ?_)
  refine z_if_eq (tgt := 65) hC dX12_readOrder_61 (by decide) (fun c61 => ?_) (fun c61 => ?_)
  · have hw := hw.1 c61
    refine z_bipush hC bi_10 dX12_readOrder_65 ?_
    refine z_aload_n hC dX12_readOrder_67 rfl rfl ?_
    refine z_getI hC FX12 21 lk_1376 dX12_readOrder_68 (by decide) hw (fun x68 hw => ?_)
    refine z_imul hC dX12_readOrder_71 ?_
    refine z_nmI (fun y72 e72 => ?_)
    have hw := hw y72 e72
    refine z_istore_n (i := 2) (lv' := [some (.ref v0), some (.int v1), some (.int y72), none]) hC rfl dX12_readOrder_72 (by decide) (hok_v rfl rfl) rfl ?_
    refine z_aload_n hC dX12_readOrder_73 rfl rfl ?_
    refine z_dup hC rfl dX12_readOrder_74 ?_
    refine z_getI hC FX12 21 lk_1376 dX12_readOrder_75 (by decide) hw (fun x75 hw => ?_)
    refine z_iconst hC ic_1 dX12_readOrder_78 ?_
    refine z_iadd hC dX12_readOrder_79 ?_
    refine z_putI hC FX12 21 lk_1376 dX12_readOrder_80 (by decide) rfl rfl hw (fun S hw => ?_)
    refine z_iconst hC ic_0 dX12_readOrder_83 ?_
    refine z_istore_n (i := 3) (lv' := [some (.ref v0), some (.int v1), some (.int y72), some (.int 0)]) hC rfl dX12_readOrder_84 (by decide) (hok_v rfl rfl) rfl ?_
    refine z_mask (lv' := [some (.ref v0), some (.int v1), some (.int y72), some (.int 0)]) [true, true, true, true] rfl ?_
    obtain ⟨n85, hw⟩ := hw
    exact t_X12_readOrder_b85 hC hr hlk hnm n85 hw
  · have hw := hw.2 c61
    exact z_vret hC hr hlk dX12_readOrder_64 ⟨rfl, hw⟩
def w_X12_readOrder_b53 (q : hS → Prop) (S : hS) (v0 : Nat) (v1 : Int32) (t0 : Nat) : Prop := w_X12_readOrder_b54 q S v0 v1 0 t0
set_option maxRecDepth 100000 in
set_option maxHeartbeats 4000000 in
theorem t_X12_readOrder_b53 (hC : zC p R s m args c cX12_readOrder 4 RX12 G B mc ms 10 255) (hr : meth.sig.returnType = (Option.none : Option FieldType)) (hlk : meth.locks = false) (hnm : meth.name = "readOrder") {q : hS → Prop} {S : hS} {v0 : Nat} {v1 : Int32} {t0 : Nat} (hw : w_X12_readOrder_b53 q S v0 v1 t0) : Z p l e R s m args below meth c (MQ below (hQ G B (vP q)) args s mc ms (fun r => B ≤ r)) G B mc ms 4 S 0 0 53 [some (.ref v0), some (.int v1), none, none] [.ref t0] := by
  unfold w_X12_readOrder_b53 at hw
  refine z_iconst hC ic_0 dX12_readOrder_53 ?_
  refine z_mask (lv' := [some (.ref v0), some (.int v1), none, none]) [true, true, false, false] rfl ?_
  exact t_X12_readOrder_b54 hC hr hlk hnm hw
def w_X12_readOrder_b4 (q : hS → Prop) : Nat → hS → (Nat) → (Int32) → (Int32) → Prop
  | 0, _, _, _, _ => False
  | n + 1, S, v0, v1, v2 => (4 ≤ v2 → (v1 = (-1) → w_X12_readOrder_b53 q S v0 v1 v0) ∧ (¬ v1 = (-1) → gI S v0 12 21 (fun x41 => (12 ≤ x41 → w_X12_readOrder_b53 q S v0 v1 v0) ∧ (¬ 12 ≤ x41 → w_X12_readOrder_b54 q S v0 v1 1 v0)))) ∧ (¬ 4 ≤ v2 → gP S v0 12 51 (fun x11 => aJ S x11 v2 (fun x15 => oK S v0 12 ∧ w_X12_isWord (fun x16 S => (x16 = 0 → w_X12_readOrder_b27 q (fun S v0 v1 v2 => w_X12_readOrder_b4 q n S v0 v1 v2) S v0 v2 v1) ∧ (¬ x16 = 0 → w_X12_readOrder_b27 q (fun S v0 v1 v2 => w_X12_readOrder_b4 q n S v0 v1 v2) S v0 v2 v2)) S v0 x15)))
set_option maxRecDepth 100000 in
set_option maxHeartbeats 4000000 in
theorem t_X12_readOrder_b4 (hC : zC p R s m args c cX12_readOrder 4 RX12 G B mc ms 10 255) (hr : meth.sig.returnType = (Option.none : Option FieldType)) (hlk : meth.locks = false) (hnm : meth.name = "readOrder") {q : hS → Prop} (n : Nat) : ∀ {S : hS} {v0 : Nat} {v1 : Int32} {v2 : Int32} (hw : w_X12_readOrder_b4 q n S v0 v1 v2), Z p l e R s m args below meth c (MQ below (hQ G B (vP q)) args s mc ms (fun r => B ≤ r)) G B mc ms 4 S 0 0 4 [some (.ref v0), some (.int v1), some (.int v2), none] [] := by
  induction n with
  | zero => intro S v0 v1 v2 hw; exact (by rw [w_X12_readOrder_b4] at hw; exact hw.elim)
  | succ n ih =>
    intro S v0 v1 v2 hw
    rw [w_X12_readOrder_b4] at hw
    refine z_iload_n hC dX12_readOrder_4 rfl rfl ?_
    refine z_iconst hC ic_4 dX12_readOrder_5 ?_
    refine z_icmp_ge (tgt := 34) hC dX12_readOrder_6 (by decide) (fun c6 => ?_) (fun c6 => ?_)
    · have hw := hw.1 c6
      refine z_aload_n hC dX12_readOrder_34 rfl rfl ?_
      refine z_iload_n hC dX12_readOrder_35 rfl rfl ?_
      refine z_iconst hC ic_m1 dX12_readOrder_36 ?_
      refine z_icmp_eq (tgt := 53) hC dX12_readOrder_37 (by decide) (fun c37 => ?_) (fun c37 => ?_)
      · have hw := hw.1 c37
        refine z_mask (lv' := [some (.ref v0), some (.int v1), none, none]) [true, true, false, false] rfl ?_
        exact t_X12_readOrder_b53 hC hr hlk hnm hw
      · have hw := hw.2 c37
        refine z_aload_n hC dX12_readOrder_40 rfl rfl ?_
        refine z_getI hC FX12 21 lk_1376 dX12_readOrder_41 (by decide) hw (fun x41 hw => ?_)
        refine z_bipush hC bi_12 dX12_readOrder_44 ?_
        refine z_icmp_ge (tgt := 53) hC dX12_readOrder_46 (by decide) (fun c46 => ?_) (fun c46 => ?_)
        · have hw := hw.1 c46
          refine z_mask (lv' := [some (.ref v0), some (.int v1), none, none]) [true, true, false, false] rfl ?_
          exact t_X12_readOrder_b53 hC hr hlk hnm hw
        · have hw := hw.2 c46
          refine z_iconst hC ic_1 dX12_readOrder_49 ?_
          refine z_goto (tgt := 54) hC dX12_readOrder_50 (by decide) ?_
          refine z_mask (lv' := [some (.ref v0), some (.int v1), none, none]) [true, true, false, false] rfl ?_
          exact t_X12_readOrder_b54 hC hr hlk hnm hw
    · have hw := hw.2 c6
      refine z_aload_n hC dX12_readOrder_9 rfl rfl ?_
      refine z_aload_n hC dX12_readOrder_10 rfl rfl ?_
      refine z_getP hC FX12 51 lk_1406 dX12_readOrder_11 (by decide) hw (fun x11 hw => ?_)
      refine z_iload_n hC dX12_readOrder_14 rfl rfl ?_
      refine z_aldJ hC dX12_readOrder_15 hw (fun x15 hw => ?_)
      refine z_callV (ku' := 0) (kv' := 0) (n := 1) (As := [.long x15]) (st := []) hC (c_X12_isWord l G B S v0 x15 _) hw.2 hw.1 rfl lk_1747 lk_1749 lk_67 lk_133 lk_1750 hd_X12_isWord rfl rfl (Nat.le_of_ble_eq_true rfl) (Nat.le_of_ble_eq_true rfl) rfl (Nat.le_of_ble_eq_true rfl) dX12_readOrder_16 (Nat.le_refl 0) (Nat.le_refl 0) (kI (fun x16 S hw => ?_))
      refine z_if_eq (tgt := 26) hC dX12_readOrder_19 (by decide) (fun c19 => ?_) (fun c19 => ?_)
      · have hw := hw.1 c19
        refine z_iload_n hC dX12_readOrder_26 rfl rfl ?_
        refine z_mask (lv' := [some (.ref v0), none, some (.int v2), none]) [true, false, true, false] rfl ?_
        exact t_X12_readOrder_b27 hC hr hlk hnm (fun hw => ih hw) hw
      · have hw := hw.2 c19
        refine z_iload_n hC dX12_readOrder_22 rfl rfl ?_
        refine z_goto (tgt := 27) hC dX12_readOrder_23 (by decide) ?_
        refine z_mask (lv' := [some (.ref v0), none, some (.int v2), none]) [true, false, true, false] rfl ?_
        exact t_X12_readOrder_b27 hC hr hlk hnm (fun hw => ih hw) hw
def w_X12_readOrder (q : hS → Prop) (S : hS) (v0 : Nat) : Prop := (∃ n4 : Nat, w_X12_readOrder_b4 q n4 S v0 (-1) 0)
set_option maxRecDepth 100000 in
set_option maxHeartbeats 4000000 in
theorem c_X12_readOrder (l : Launch) (G : hG) (B : Nat) (S : hS) (v0 : Nat) (q : hS → Prop) : Met l yX12_readOrder (hws yX12_readOrder cX12_readOrder 4 (Option.none : Option FieldType)) ({ frames := 10, cells := 0, slots := 0, locals := 255 }) (hPc G B S [.ref v0] (w_X12_readOrder q S v0)) (hQ G B (vP q)) (0) (0) (fun r => B ≤ r) := by
  refine hMet (rm := { frames := 10, cells := 0, slots := 0, locals := 255 }) (lv := [some (.ref v0), none, none, none]) (own := RX12) (fr := 10) (lo := 255) (by decide) rfl rfl rfl (Nat.le_of_ble_eq_true rfl) rfl (fun hw p e R s m args below meth c hC hr hlk hnm => ?_)
  unfold w_X12_readOrder at hw
  refine z_iconst hC ic_m1 dX12_readOrder_0 ?_
  refine z_istore_n (i := 1) (lv' := [some (.ref v0), some (.int (-1)), none, none]) hC rfl dX12_readOrder_1 (by decide) (hok_v rfl rfl) rfl ?_
  refine z_iconst hC ic_0 dX12_readOrder_2 ?_
  refine z_istore_n (i := 2) (lv' := [some (.ref v0), some (.int (-1)), some (.int 0), none]) hC rfl dX12_readOrder_3 (by decide) (hok_v rfl rfl) rfl ?_
  refine z_mask (lv' := [some (.ref v0), some (.int (-1)), some (.int 0), none]) [true, true, true, false] rfl ?_
  obtain ⟨n4, hw⟩ := hw
  exact t_X12_readOrder_b4 hC hr hlk hnm n4 hw
end
section
variable {p : Program} {l : Launch} {e : Env} {R : Room} {s : State} {m : MethodId} {args : Array Value} {below : List Frame} {meth : Method} {c : Code} {G : hG} {B mc ms : Nat}
def w_X12_sumOf (q : Int32 → hS → Prop) (S : hS) (v0 : Nat) (v1 : Int32) : Prop := gI S v0 12 56 (fun x1 => (¬ x1 = 0 → q (-1) S) ∧ (x1 = 0 → gP S v0 12 52 (fun x8 => aI S x8 v1 (fun x12 => gP S v0 12 52 (fun x14 => aI S x14 (v1 + 1) (fun x20 => (¬ x12 = x20 → pZ S v0 12 20 1 (fun S => gP S v0 12 52 (fun x33 => aI S x33 v1 (fun x37 => gP S v0 12 52 (fun x39 => aI S x39 (v1 + 1) (fun x45 => oK S v0 12 ∧ w_X12_reckonAll (fun S => pZ S v0 12 20 0 (fun S => gI S v0 12 38 (fun x56 => pZ S v0 12 56 x56 (fun S => gJ S v0 12 39 (fun x63 => q (Int64.toInt32 x63) S))))) S v0 x37 x45)))))) ∧ (x12 = x20 → q (-1) S)))))))
set_option maxRecDepth 100000 in
set_option maxHeartbeats 4000000 in
theorem c_X12_sumOf (l : Launch) (G : hG) (B : Nat) (S : hS) (v0 : Nat) (v1 : Int32) (q : Int32 → hS → Prop) : Met l yX12_sumOf (hws yX12_sumOf cX12_sumOf 2 (Option.some FieldType.int)) ({ frames := 5, cells := 0, slots := 0, locals := 153 }) (hPc G B S [.ref v0, .int v1] (w_X12_sumOf q S v0 v1)) (hQ G B (iP q)) (0) (0) (fun r => B ≤ r) := by
  refine hMet (rm := { frames := 5, cells := 0, slots := 0, locals := 153 }) (lv := [some (.ref v0), some (.int v1)]) (own := RX12) (fr := 5) (lo := 153) (by decide) rfl rfl rfl (Nat.le_of_ble_eq_true rfl) rfl (fun hw p e R s m args below meth c hC hr hlk hnm => ?_)
  unfold w_X12_sumOf at hw
  refine z_aload_n hC dX12_sumOf_0 rfl rfl ?_
  refine z_getI hC FX12 56 lk_1411 dX12_sumOf_1 (by decide) hw (fun x1 hw => ?_)
  refine z_if_ne (tgt := 24) hC dX12_sumOf_4 (by decide) (fun c4 => ?_) (fun c4 => ?_)
  · have hw := hw.1 c4
    refine z_iconst hC ic_m1 dX12_sumOf_24 ?_
    exact z_iret hC hr hlk dX12_sumOf_25 ⟨_, rfl, hw⟩
  · have hw := hw.2 c4
    refine z_aload_n hC dX12_sumOf_7 rfl rfl ?_
    refine z_getP hC FX12 52 lk_1407 dX12_sumOf_8 (by decide) hw (fun x8 hw => ?_)
    refine z_iload_n hC dX12_sumOf_11 rfl rfl ?_
    refine z_aldI hC dX12_sumOf_12 hw (fun x12 hw => ?_)
    refine z_aload_n hC dX12_sumOf_13 rfl rfl ?_
    refine z_getP hC FX12 52 lk_1407 dX12_sumOf_14 (by decide) hw (fun x14 hw => ?_)
    refine z_iload_n hC dX12_sumOf_17 rfl rfl ?_
    refine z_iconst hC ic_1 dX12_sumOf_18 ?_
    refine z_iadd hC dX12_sumOf_19 ?_
    refine z_aldI hC dX12_sumOf_20 hw (fun x20 hw => ?_)
    refine z_icmp_ne (tgt := 26) hC dX12_sumOf_21 (by decide) (fun c21 => ?_) (fun c21 => ?_)
    · have hw := hw.1 c21
      refine z_aload_n hC dX12_sumOf_26 rfl rfl ?_
      refine z_iconst hC ic_1 dX12_sumOf_27 ?_
      refine z_putZ hC FX12 20 lk_1375 dX12_sumOf_28 (by decide) rfl rfl hw (fun S hw => ?_)
      refine z_aload_n hC dX12_sumOf_31 rfl rfl ?_
      refine z_aload_n hC dX12_sumOf_32 rfl rfl ?_
      refine z_getP hC FX12 52 lk_1407 dX12_sumOf_33 (by decide) hw (fun x33 hw => ?_)
      refine z_iload_n hC dX12_sumOf_36 rfl rfl ?_
      refine z_aldI hC dX12_sumOf_37 hw (fun x37 hw => ?_)
      refine z_aload_n hC dX12_sumOf_38 rfl rfl ?_
      refine z_getP hC FX12 52 lk_1407 dX12_sumOf_39 (by decide) hw (fun x39 hw => ?_)
      refine z_iload_n hC dX12_sumOf_42 rfl rfl ?_
      refine z_iconst hC ic_1 dX12_sumOf_43 ?_
      refine z_iadd hC dX12_sumOf_44 ?_
      refine z_aldI hC dX12_sumOf_45 hw (fun x45 hw => ?_)
      refine z_callV (ku' := 0) (kv' := 0) (n := 2) (As := [.int x37, .int x45]) (st := []) hC (c_X12_reckonAll l G B S v0 x37 x45 _) hw.2 hw.1 rfl lk_1610 lk_1612 lk_51 lk_133 lk_1613 hd_X12_reckonAll rfl rfl (Nat.le_of_ble_eq_true rfl) (Nat.le_of_ble_eq_true rfl) rfl (Nat.le_of_ble_eq_true rfl) dX12_sumOf_46 (Nat.le_refl 0) (Nat.le_refl 0) (kV (fun S hw => ?_))
      refine z_aload_n hC dX12_sumOf_49 rfl rfl ?_
      refine z_iconst hC ic_0 dX12_sumOf_50 ?_
      refine z_putZ hC FX12 20 lk_1375 dX12_sumOf_51 (by decide) rfl rfl hw (fun S hw => ?_)
      refine z_aload_n hC dX12_sumOf_54 rfl rfl ?_
      refine z_aload_n hC dX12_sumOf_55 rfl rfl ?_
      refine z_getI hC FX12 38 lk_1393 dX12_sumOf_56 (by decide) hw (fun x56 hw => ?_)
      refine z_putZ hC FX12 56 lk_1411 dX12_sumOf_59 (by decide) rfl rfl hw (fun S hw => ?_)
      refine z_aload_n hC dX12_sumOf_62 rfl rfl ?_
      refine z_getJ hC FX12 39 lk_1394 dX12_sumOf_63 (by decide) hw (fun x63 hw => ?_)
      refine z_l2i hC rfl dX12_sumOf_66 ?_
      exact z_iret hC hr hlk dX12_sumOf_67 ⟨_, rfl, hw⟩
    · have hw := hw.2 c21
      refine z_iconst hC ic_m1 dX12_sumOf_24 ?_
      exact z_iret hC hr hlk dX12_sumOf_25 ⟨_, rfl, hw⟩
end
section
variable {p : Program} {l : Launch} {e : Env} {R : Room} {s : State} {m : MethodId} {args : Array Value} {below : List Frame} {meth : Method} {c : Code} {G : hG} {B mc ms : Nat}
def w_X12_act (q : Int32 → hS → Prop) (S : hS) (v0 : Nat) (v1 : Int32) (v2 : Int32) (v3 : Int32) (v4 : Int32) : Prop := ∀ y1 : Int32, y1 = v1 → ((y1.toInt = 0 → oK S v0 12 ∧ w_X12_ringNow (fun x31 S => q x31 S) S v0 v2 v3) ∧ (y1.toInt = 1 → oK S v0 12 ∧ w_X12_sellNow (fun x40 S => q x40 S) S v0 v2 v3 v4) ∧ (y1.toInt = 2 → oK S v0 12 ∧ w_X12_dieNow (fun x46 S => q x46 S) S v0 v2) ∧ ((y1.toInt < 0 ∨ 2 < y1.toInt) → oK S v0 12 ∧ w_X12_passNow (fun x51 S => q x51 S) S v0))
set_option maxRecDepth 100000 in
set_option maxHeartbeats 4000000 in
theorem c_X12_act (l : Launch) (G : hG) (B : Nat) (S : hS) (v0 : Nat) (v1 : Int32) (v2 : Int32) (v3 : Int32) (v4 : Int32) (q : Int32 → hS → Prop) : Met l yX12_act (hws yX12_act cX12_act 5 (Option.some FieldType.int)) ({ frames := 11, cells := 0, slots := 0, locals := 298 }) (hPc G B S [.ref v0, .int v1, .int v2, .int v3, .int v4] (w_X12_act q S v0 v1 v2 v3 v4)) (hQ G B (iP q)) (0) (0) (fun r => B ≤ r) := by
  refine hMet (rm := { frames := 11, cells := 0, slots := 0, locals := 298 }) (lv := [some (.ref v0), some (.int v1), some (.int v2), some (.int v3), some (.int v4)]) (own := RX12) (fr := 11) (lo := 298) (by decide) rfl rfl rfl (Nat.le_of_ble_eq_true rfl) rfl (fun hw p e R s m args below meth c hC hr hlk hnm => ?_)
  unfold w_X12_act at hw
  refine z_iload_n hC dX12_act_0 rfl rfl ?_
  refine z_nmI (fun y1 e1 => ?_)
  have hw := hw y1 e1
  by_cases q1_0 : y1.toInt = 0
  · have hw := hw.1 q1_0
    refine z_tabIn (tgt := 28) (off := 27) hC 0 dX12_act_1 q1_0 (by decide) rfl (by decide) ?_
    refine z_aload_n hC dX12_act_28 rfl rfl ?_
    refine z_iload_n hC dX12_act_29 rfl rfl ?_
    refine z_iload_n hC dX12_act_30 rfl rfl ?_
    refine z_callV (ku' := 0) (kv' := 0) (n := 2) (As := [.int v2, .int v3]) (st := []) hC (c_X12_ringNow l G B S v0 v2 v3 _) hw.2 hw.1 rfl lk_1864 lk_1866 lk_90 lk_133 lk_1867 hd_X12_ringNow rfl rfl (Nat.le_of_ble_eq_true rfl) (Nat.le_of_ble_eq_true rfl) rfl (Nat.le_of_ble_eq_true rfl) dX12_act_31 (Nat.le_refl 0) (Nat.le_refl 0) (kI (fun x31 S hw => ?_))
    exact z_iret hC hr hlk dX12_act_34 ⟨_, rfl, hw⟩
  by_cases q1_1 : y1.toInt = 1
  · have hw := hw.2.1 q1_1
    refine z_tabIn (tgt := 35) (off := 34) hC 1 dX12_act_1 q1_1 (by decide) rfl (by decide) ?_
    refine z_aload_n hC dX12_act_35 rfl rfl ?_
    refine z_iload_n hC dX12_act_36 rfl rfl ?_
    refine z_iload_n hC dX12_act_37 rfl rfl ?_
    refine z_iload hC dX12_act_38 rfl ?_
    refine z_callV (ku' := 0) (kv' := 0) (n := 3) (As := [.int v2, .int v3, .int v4]) (st := []) hC (c_X12_sellNow l G B S v0 v2 v3 v4 _) hw.2 hw.1 rfl lk_1888 lk_1890 lk_95 lk_133 lk_1891 hd_X12_sellNow rfl rfl (Nat.le_of_ble_eq_true rfl) (Nat.le_of_ble_eq_true rfl) rfl (Nat.le_of_ble_eq_true rfl) dX12_act_40 (Nat.le_refl 0) (Nat.le_refl 0) (kI (fun x40 S hw => ?_))
    exact z_iret hC hr hlk dX12_act_43 ⟨_, rfl, hw⟩
  by_cases q1_2 : y1.toInt = 2
  · have hw := hw.2.2.1 q1_2
    refine z_tabIn (tgt := 44) (off := 43) hC 2 dX12_act_1 q1_2 (by decide) rfl (by decide) ?_
    refine z_aload_n hC dX12_act_44 rfl rfl ?_
    refine z_iload_n hC dX12_act_45 rfl rfl ?_
    refine z_callV (ku' := 0) (kv' := 0) (n := 1) (As := [.int v2]) (st := []) hC (c_X12_dieNow l G B S v0 v2 _) hw.2 hw.1 rfl lk_1896 lk_1898 lk_96 lk_133 lk_1899 hd_X12_dieNow rfl rfl (Nat.le_of_ble_eq_true rfl) (Nat.le_of_ble_eq_true rfl) rfl (Nat.le_of_ble_eq_true rfl) dX12_act_46 (Nat.le_refl 0) (Nat.le_refl 0) (kI (fun x46 S hw => ?_))
    exact z_iret hC hr hlk dX12_act_49 ⟨_, rfl, hw⟩
  have o1 : y1.toInt < 0 ∨ 2 < y1.toInt := by omega
  have hw := hw.2.2.2 o1
  refine z_tabOut (tgt := 50) hC dX12_act_1 o1 (by decide) ?_
  refine z_aload_n hC dX12_act_50 rfl rfl ?_
  refine z_callV (ku' := 0) (kv' := 0) (n := 0) (As := []) (st := []) hC (c_X12_passNow l G B S v0 _) hw.2 hw.1 rfl lk_1915 lk_1917 lk_99 lk_133 lk_1918 hd_X12_passNow rfl rfl (Nat.le_of_ble_eq_true rfl) (Nat.le_of_ble_eq_true rfl) rfl (Nat.le_of_ble_eq_true rfl) dX12_act_51 (Nat.le_refl 0) (Nat.le_refl 0) (kI (fun x51 S hw => ?_))
  exact z_iret hC hr hlk dX12_act_54 ⟨_, rfl, hw⟩
end
