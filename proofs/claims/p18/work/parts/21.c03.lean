section
variable {p : Program} {l : Launch} {e : Env} {R : Room} {s : State} {m : MethodId} {args : Array Value} {below : List Frame} {meth : Method} {c : Code} {G : hG} {B mc ms : Nat}
def w_X4_walk_b155 (rec : Nat → (hS → Prop) → hS → (Nat) → (Nat) → (Int32) → (Int32) → (Int32) → (Int32) → (Int32) → Prop) (q : hS → Prop) (K65 : hS → (Nat) → (Nat) → (Int32) → (Int32) → (Int32) → (Int32) → (Int32) → (Int32) → Prop) (S : hS) (v0 : Nat) (v1 : Nat) (v2 : Int32) (v3 : Int32) (v4 : Int32) (v5 : Int32) (v6 : Int32) (v7 : Int32) : Prop := ∀ y155 : Int32, y155 = v7 + 1 → K65 S v0 v1 v2 v3 v4 v5 v6 y155
set_option maxRecDepth 100000 in
set_option maxHeartbeats 4000000 in
theorem t_X4_walk_b155 {d : Nat} (hC : zC p R s m args c cX4_walk 9 RX4 G B mc ms (3 + (d + 1)) (103 + 28 * (d + 1))) (hr : meth.sig.returnType = (Option.none : Option FieldType)) (hlk : meth.locks = false) (hnm : meth.name = "walk") {rec : Nat → (hS → Prop) → hS → (Nat) → (Nat) → (Int32) → (Int32) → (Int32) → (Int32) → (Int32) → Prop} (hrec0 : ∀ (S : hS) (v0 : Nat) (v1 : Nat) (v2 : Int32) (v3 : Int32) (v4 : Int32) (v5 : Int32) (v6 : Int32) (q : hS → Prop), Met l yX4_walk (hws yX4_walk cX4_walk 9 (Option.none : Option FieldType)) ({ frames := 3 + d, cells := 0, slots := 0, locals := 103 + 28 * d }) (hPc G B S [.ref v0, .ref v1, .int v2, .int v3, .int v4, .int v5, .int v6] (rec 0 q S v0 v1 v2 v3 v4 v5 v6)) (hQ G B (vP q)) 0 0 (fun r => B ≤ r)) {q : hS → Prop} {K65 : hS → (Nat) → (Nat) → (Int32) → (Int32) → (Int32) → (Int32) → (Int32) → (Int32) → Prop} (hK65 : ∀ {S : hS} {v0 : Nat} {v1 : Nat} {v2 : Int32} {v3 : Int32} {v4 : Int32} {v5 : Int32} {v6 : Int32} {v7 : Int32}, K65 S v0 v1 v2 v3 v4 v5 v6 v7 → Z p l e R s m args below meth c (MQ below (hQ G B (vP q)) args s mc ms (fun r => B ≤ r)) G B mc ms 9 S 0 0 65 [some (.ref v0), some (.ref v1), some (.int v2), some (.int v3), some (.int v4), some (.int v5), some (.int v6), some (.int v7), none] []) {S : hS} {v0 : Nat} {v1 : Nat} {v2 : Int32} {v3 : Int32} {v4 : Int32} {v5 : Int32} {v6 : Int32} {v7 : Int32} (hw : w_X4_walk_b155 rec q K65 S v0 v1 v2 v3 v4 v5 v6 v7) : Z p l e R s m args below meth c (MQ below (hQ G B (vP q)) args s mc ms (fun r => B ≤ r)) G B mc ms 9 S 0 0 155 [some (.ref v0), some (.ref v1), some (.int v2), some (.int v3), some (.int v4), some (.int v5), some (.int v6), some (.int v7), none] [] := by
  unfold w_X4_walk_b155 at hw
  refine z_inc (i := 7) hC ic_1 dX4_walk_155 rfl (by decide) (hok_v rfl rfl) (fun y155 e155 => ?_)
  have hw := hw y155 e155
  refine z_goto (tgt := 65) hC dX4_walk_158 (by decide) ?_
  refine z_mask (lv' := [some (.ref v0), some (.ref v1), some (.int v2), some (.int v3), some (.int v4), some (.int v5), some (.int v6), some (.int y155), none]) [true, true, true, true, true, true, true, true, false] rfl ?_
  exact hK65 hw
def w_X4_walk_b65 (rec : Nat → (hS → Prop) → hS → (Nat) → (Nat) → (Int32) → (Int32) → (Int32) → (Int32) → (Int32) → Prop) (q : hS → Prop) : Nat → hS → (Nat) → (Nat) → (Int32) → (Int32) → (Int32) → (Int32) → (Int32) → (Int32) → Prop
  | 0, _, _, _, _, _, _, _, _, _ => False
  | n + 1, S, v0, v1, v2, v3, v4, v5, v6, v7 => gI S v1 8 1 (fun x68 => (x68 ≤ v7 → q S) ∧ (¬ x68 ≤ v7 → gP S v1 8 2 (fun x78 => aI S x78 v7 (fun x83 => w_X11_stepsBetween (fun x84 S => ∀ y88 : Int32, y88 = (v4 + x84) → w_X11_hasBit (fun x94 S => (¬ x94 = 0 → w_X4_walk_b155 rec q (fun S v0 v1 v2 v3 v4 v5 v6 v7 => w_X4_walk_b65 rec q n S v0 v1 v2 v3 v4 v5 v6 v7) S v0 v1 v2 v3 v4 v5 v6 v7) ∧ (x94 = 0 → oK S v1 8 ∧ w_X8_leftOf (fun x104 S => (x104 < 1 → w_X4_walk_b155 rec q (fun S v0 v1 v2 v3 v4 v5 v6 v7 => w_X4_walk_b65 rec q n S v0 v1 v2 v3 v4 v5 v6 v7) S v0 v1 v2 v3 v4 v5 v6 v7) ∧ (¬ x104 < 1 → gI S v0 4 1 (fun x114 => (x114 < y88 → w_X4_walk_b155 rec q (fun S v0 v1 v2 v3 v4 v5 v6 v7 => w_X4_walk_b65 rec q n S v0 v1 v2 v3 v4 v5 v6 v7) S v0 v1 v2 v3 v4 v5 v6 v7) ∧ (¬ x114 < y88 → gP S v0 4 0 (fun x121 => sI S x121 v6 v7 (fun S => gP S v1 8 2 (fun x133 => aI S x133 v7 (fun x138 => oK S v0 4 ∧ rec 0 (fun S => w_X4_walk_b155 rec q (fun S v0 v1 v2 v3 v4 v5 v6 v7 => w_X4_walk_b65 rec q n S v0 v1 v2 v3 v4 v5 v6 v7) S v0 v1 v2 v3 v4 v5 v6 v7) S v0 v1 v2 x138 y88 (v5 ||| (1 <<< (v7 &&& 31))) (v6 + 1))))))))) S v1 v2 v7)) S v5 v7) S v3 x83))))
set_option maxRecDepth 100000 in
set_option maxHeartbeats 4000000 in
theorem t_X4_walk_b65 {d : Nat} (hC : zC p R s m args c cX4_walk 9 RX4 G B mc ms (3 + (d + 1)) (103 + 28 * (d + 1))) (hr : meth.sig.returnType = (Option.none : Option FieldType)) (hlk : meth.locks = false) (hnm : meth.name = "walk") {rec : Nat → (hS → Prop) → hS → (Nat) → (Nat) → (Int32) → (Int32) → (Int32) → (Int32) → (Int32) → Prop} (hrec0 : ∀ (S : hS) (v0 : Nat) (v1 : Nat) (v2 : Int32) (v3 : Int32) (v4 : Int32) (v5 : Int32) (v6 : Int32) (q : hS → Prop), Met l yX4_walk (hws yX4_walk cX4_walk 9 (Option.none : Option FieldType)) ({ frames := 3 + d, cells := 0, slots := 0, locals := 103 + 28 * d }) (hPc G B S [.ref v0, .ref v1, .int v2, .int v3, .int v4, .int v5, .int v6] (rec 0 q S v0 v1 v2 v3 v4 v5 v6)) (hQ G B (vP q)) 0 0 (fun r => B ≤ r)) {q : hS → Prop} (n : Nat) : ∀ {S : hS} {v0 : Nat} {v1 : Nat} {v2 : Int32} {v3 : Int32} {v4 : Int32} {v5 : Int32} {v6 : Int32} {v7 : Int32} (hw : w_X4_walk_b65 rec q n S v0 v1 v2 v3 v4 v5 v6 v7), Z p l e R s m args below meth c (MQ below (hQ G B (vP q)) args s mc ms (fun r => B ≤ r)) G B mc ms 9 S 0 0 65 [some (.ref v0), some (.ref v1), some (.int v2), some (.int v3), some (.int v4), some (.int v5), some (.int v6), some (.int v7), none] [] := by
  induction n with
  | zero => intro S v0 v1 v2 v3 v4 v5 v6 v7 hw; exact (by rw [w_X4_walk_b65] at hw; exact hw.elim)
  | succ n ih =>
    intro S v0 v1 v2 v3 v4 v5 v6 v7 hw
    rw [w_X4_walk_b65] at hw
    refine z_iload hC dX4_walk_65 rfl ?_
    refine z_aload_n hC dX4_walk_67 rfl rfl ?_
    refine z_getI hC FX8 1 lk_207 dX4_walk_68 (by decide) hw (fun x68 hw => ?_)
    refine z_icmp_ge (tgt := 161) hC dX4_walk_71 (by decide) (fun c71 => ?_) (fun c71 => ?_)
    · have hw := hw.1 c71
      exact z_vret hC hr hlk dX4_walk_161 ⟨rfl, hw⟩
    · have hw := hw.2 c71
      refine z_iload hC dX4_walk_74 rfl ?_
      refine z_iload_n hC dX4_walk_76 rfl rfl ?_
      refine z_aload_n hC dX4_walk_77 rfl rfl ?_
      refine z_getP hC FX8 2 lk_211 dX4_walk_78 (by decide) hw (fun x78 hw => ?_)
      refine z_iload hC dX4_walk_81 rfl ?_
      refine z_aldI hC dX4_walk_83 hw (fun x83 hw => ?_)
      refine z_callSN (ku' := 0) (kv' := 0) (n := 2) (As := [.int v3, .int x83]) (st := [.int v4]) (host := "BellHeirs") hC (c_X11_stepsBetween l G B S v3 x83 _) hw (by decide +kernel) lk_1147 lk_121 lk_1148 hd_X11_stepsBetween.2 rfl rfl (by show 1 + 1 ≤ _; omega) (by show 8 + (2 + 11) + 60 ≤ _; omega) rfl (Nat.le_of_ble_eq_true rfl) dX4_walk_84 (Nat.le_refl 0) (Nat.le_refl 0) (kI (fun x84 S hw => ?_))
      refine z_iadd hC dX4_walk_87 ?_
      refine z_nmI (fun y88 e88 => ?_)
      have hw := hw y88 e88
      refine z_istore (i := 8) (lv' := [some (.ref v0), some (.ref v1), some (.int v2), some (.int v3), some (.int v4), some (.int v5), some (.int v6), some (.int v7), some (.int y88)]) hC dX4_walk_88 (by decide) (hok_v rfl rfl) rfl ?_
      refine z_iload hC dX4_walk_90 rfl ?_
      refine z_iload hC dX4_walk_92 rfl ?_
      refine z_callSN (ku' := 0) (kv' := 0) (n := 2) (As := [.int v5, .int v7]) (st := []) (host := "BellHeirs") hC (c_X11_hasBit l G B S v5 v7 _) hw (by decide +kernel) lk_680 lk_121 lk_681 hd_X11_hasBit.2 rfl rfl (by show 1 + 1 ≤ _; omega) (by show 8 + (2 + 11) + 60 ≤ _; omega) rfl (Nat.le_of_ble_eq_true rfl) dX4_walk_94 (Nat.le_refl 0) (Nat.le_refl 0) (kI (fun x94 S hw => ?_))
      refine z_if_ne (tgt := 155) hC dX4_walk_97 (by decide) (fun c97 => ?_) (fun c97 => ?_)
      · have hw := hw.1 c97
        refine z_mask (lv' := [some (.ref v0), some (.ref v1), some (.int v2), some (.int v3), some (.int v4), some (.int v5), some (.int v6), some (.int v7), none]) [true, true, true, true, true, true, true, true, false] rfl ?_
        exact t_X4_walk_b155 hC hr hlk hnm hrec0 (fun hw => ih hw) hw
      · have hw := hw.2 c97
        refine z_aload_n hC dX4_walk_100 rfl rfl ?_
        refine z_iload_n hC dX4_walk_101 rfl rfl ?_
        refine z_iload hC dX4_walk_102 rfl ?_
        refine z_callV (ku' := 0) (kv' := 0) (n := 2) (As := [.int v2, .int v7]) (st := []) hC (c_X8_leftOf l G B S v1 v2 v7 _) hw.2 hw.1 rfl lk_1153 lk_628 lk_629 lk_122 lk_630 hd_X8_leftOf rfl rfl (by show 2 + 1 ≤ _; omega) (by show 8 + (3 + 11) + 81 ≤ _; omega) rfl (Nat.le_of_ble_eq_true rfl) dX4_walk_104 (Nat.le_refl 0) (Nat.le_refl 0) (kI (fun x104 S hw => ?_))
        refine z_iconst hC ic_1 dX4_walk_107 ?_
        refine z_icmp_lt (tgt := 155) hC dX4_walk_108 (by decide) (fun c108 => ?_) (fun c108 => ?_)
        · have hw := hw.1 c108
          refine z_mask (lv' := [some (.ref v0), some (.ref v1), some (.int v2), some (.int v3), some (.int v4), some (.int v5), some (.int v6), some (.int v7), none]) [true, true, true, true, true, true, true, true, false] rfl ?_
          exact t_X4_walk_b155 hC hr hlk hnm hrec0 (fun hw => ih hw) hw
        · have hw := hw.2 c108
          refine z_iload hC dX4_walk_111 rfl ?_
          refine z_aload_n hC dX4_walk_113 rfl rfl ?_
          refine z_getI hC FX4 1 lk_450 dX4_walk_114 (by decide) hw (fun x114 hw => ?_)
          refine z_icmp_gt (tgt := 155) hC dX4_walk_117 (by decide) (fun c117 => ?_) (fun c117 => ?_)
          · have hw := hw.1 c117
            refine z_mask (lv' := [some (.ref v0), some (.ref v1), some (.int v2), some (.int v3), some (.int v4), some (.int v5), some (.int v6), some (.int v7), none]) [true, true, true, true, true, true, true, true, false] rfl ?_
            exact t_X4_walk_b155 hC hr hlk hnm hrec0 (fun hw => ih hw) hw
          · have hw := hw.2 c117
            refine z_aload_n hC dX4_walk_120 rfl rfl ?_
            refine z_getP hC FX4 0 lk_449 dX4_walk_121 (by decide) hw (fun x121 hw => ?_)
            refine z_iload hC dX4_walk_124 rfl ?_
            refine z_iload hC dX4_walk_126 rfl ?_
            refine z_astI hC dX4_walk_128 hw (fun S hw => ?_)
            refine z_aload_n hC dX4_walk_129 rfl rfl ?_
            refine z_aload_n hC dX4_walk_130 rfl rfl ?_
            refine z_iload_n hC dX4_walk_131 rfl rfl ?_
            refine z_aload_n hC dX4_walk_132 rfl rfl ?_
            refine z_getP hC FX8 2 lk_211 dX4_walk_133 (by decide) hw (fun x133 hw => ?_)
            refine z_iload hC dX4_walk_136 rfl ?_
            refine z_aldI hC dX4_walk_138 hw (fun x138 hw => ?_)
            refine z_iload hC dX4_walk_139 rfl ?_
            refine z_iload hC dX4_walk_141 rfl ?_
            refine z_iconst hC ic_1 dX4_walk_143 ?_
            refine z_iload hC dX4_walk_144 rfl ?_
            refine z_ishl hC dX4_walk_146 ?_
            refine z_ior hC dX4_walk_147 ?_
            refine z_iload hC dX4_walk_148 rfl ?_
            refine z_iconst hC ic_1 dX4_walk_150 ?_
            refine z_iadd hC dX4_walk_151 ?_
            refine z_callV (ku' := 0) (kv' := 0) (n := 6) (As := [.ref v1, .int v2, .int x138, .int y88, .int (v5 ||| (1 <<< (v7 &&& 31))), .int (v6 + 1)]) (st := []) hC (hrec0 S v0 v1 v2 x138 y88 (v5 ||| (1 <<< (v7 &&& 31))) (v6 + 1) _) hw.2 hw.1 rfl lk_1141 lk_1143 lk_30 lk_131 lk_1144 hd_X4_walk rfl rfl (by show 3 + d + 1 ≤ _; omega) (by show 8 + (9 + 11) + (103 + 28 * d) ≤ _; omega) rfl (Nat.le_of_ble_eq_true rfl) dX4_walk_152 (Nat.le_refl 0) (Nat.le_refl 0) (kV (fun S hw => ?_))
            refine z_mask (lv' := [some (.ref v0), some (.ref v1), some (.int v2), some (.int v3), some (.int v4), some (.int v5), some (.int v6), some (.int v7), none]) [true, true, true, true, true, true, true, true, false] rfl ?_
            exact t_X4_walk_b155 hC hr hlk hnm hrec0 (fun hw => ih hw) hw
def w_X4_walk_b54 (rec : Nat → (hS → Prop) → hS → (Nat) → (Nat) → (Int32) → (Int32) → (Int32) → (Int32) → (Int32) → Prop) (q : hS → Prop) (S : hS) (v0 : Nat) (v1 : Nat) (v2 : Int32) (v3 : Int32) (v4 : Int32) (v5 : Int32) (v6 : Int32) : Prop := (v6 < 6 → (∃ n65 : Nat, w_X4_walk_b65 rec q n65 S v0 v1 v2 v3 v4 v5 v6 0)) ∧ (¬ v6 < 6 → q S)
set_option maxRecDepth 100000 in
set_option maxHeartbeats 4000000 in
theorem t_X4_walk_b54 {d : Nat} (hC : zC p R s m args c cX4_walk 9 RX4 G B mc ms (3 + (d + 1)) (103 + 28 * (d + 1))) (hr : meth.sig.returnType = (Option.none : Option FieldType)) (hlk : meth.locks = false) (hnm : meth.name = "walk") {rec : Nat → (hS → Prop) → hS → (Nat) → (Nat) → (Int32) → (Int32) → (Int32) → (Int32) → (Int32) → Prop} (hrec0 : ∀ (S : hS) (v0 : Nat) (v1 : Nat) (v2 : Int32) (v3 : Int32) (v4 : Int32) (v5 : Int32) (v6 : Int32) (q : hS → Prop), Met l yX4_walk (hws yX4_walk cX4_walk 9 (Option.none : Option FieldType)) ({ frames := 3 + d, cells := 0, slots := 0, locals := 103 + 28 * d }) (hPc G B S [.ref v0, .ref v1, .int v2, .int v3, .int v4, .int v5, .int v6] (rec 0 q S v0 v1 v2 v3 v4 v5 v6)) (hQ G B (vP q)) 0 0 (fun r => B ≤ r)) {q : hS → Prop} {S : hS} {v0 : Nat} {v1 : Nat} {v2 : Int32} {v3 : Int32} {v4 : Int32} {v5 : Int32} {v6 : Int32} (hw : w_X4_walk_b54 rec q S v0 v1 v2 v3 v4 v5 v6) : Z p l e R s m args below meth c (MQ below (hQ G B (vP q)) args s mc ms (fun r => B ≤ r)) G B mc ms 9 S 0 0 54 [some (.ref v0), some (.ref v1), some (.int v2), some (.int v3), some (.int v4), some (.int v5), some (.int v6), none, none] [] := by
  unfold w_X4_walk_b54 at hw
  refine z_iload hC dX4_walk_54 rfl ?_
  refine z_bipush hC bi_6 dX4_walk_56 ?_
  refine z_icmp_lt (tgt := 62) hC dX4_walk_58 (by decide) (fun c58 => ?_) (fun c58 => ?_)
  · have hw := hw.1 c58
    refine z_iconst hC ic_0 dX4_walk_62 ?_
    refine z_istore (i := 7) (lv' := [some (.ref v0), some (.ref v1), some (.int v2), some (.int v3), some (.int v4), some (.int v5), some (.int v6), some (.int 0), none]) hC dX4_walk_63 (by decide) (hok_v rfl rfl) rfl ?_
    refine z_mask (lv' := [some (.ref v0), some (.ref v1), some (.int v2), some (.int v3), some (.int v4), some (.int v5), some (.int v6), some (.int 0), none]) [true, true, true, true, true, true, true, true, false] rfl ?_
    obtain ⟨n65, hw⟩ := hw
    exact t_X4_walk_b65 hC hr hlk hnm hrec0 n65 hw
  · have hw := hw.2 c58
    exact z_vret hC hr hlk dX4_walk_61 ⟨rfl, hw⟩
def w_X4_walk_b27 (rec : Nat → (hS → Prop) → hS → (Nat) → (Nat) → (Int32) → (Int32) → (Int32) → (Int32) → (Int32) → Prop) (q : hS → Prop) (S : hS) (v0 : Nat) (v1 : Nat) (v2 : Int32) (v3 : Int32) (v4 : Int32) (v5 : Int32) (v6 : Int32) : Prop := pI S v0 4 4 v6 (fun S => pI S v0 4 2 v4 (fun S => gP S v0 4 0 (fun x40 => gP S v0 4 3 (fun x45 => cI S x40 0 x45 0 v6 (fun S => w_X4_walk_b54 rec q S v0 v1 v2 v3 v4 v5 v6)))))
set_option maxRecDepth 100000 in
set_option maxHeartbeats 4000000 in
theorem t_X4_walk_b27 {d : Nat} (hC : zC p R s m args c cX4_walk 9 RX4 G B mc ms (3 + (d + 1)) (103 + 28 * (d + 1))) (hr : meth.sig.returnType = (Option.none : Option FieldType)) (hlk : meth.locks = false) (hnm : meth.name = "walk") {rec : Nat → (hS → Prop) → hS → (Nat) → (Nat) → (Int32) → (Int32) → (Int32) → (Int32) → (Int32) → Prop} (hrec0 : ∀ (S : hS) (v0 : Nat) (v1 : Nat) (v2 : Int32) (v3 : Int32) (v4 : Int32) (v5 : Int32) (v6 : Int32) (q : hS → Prop), Met l yX4_walk (hws yX4_walk cX4_walk 9 (Option.none : Option FieldType)) ({ frames := 3 + d, cells := 0, slots := 0, locals := 103 + 28 * d }) (hPc G B S [.ref v0, .ref v1, .int v2, .int v3, .int v4, .int v5, .int v6] (rec 0 q S v0 v1 v2 v3 v4 v5 v6)) (hQ G B (vP q)) 0 0 (fun r => B ≤ r)) {q : hS → Prop} {S : hS} {v0 : Nat} {v1 : Nat} {v2 : Int32} {v3 : Int32} {v4 : Int32} {v5 : Int32} {v6 : Int32} (hw : w_X4_walk_b27 rec q S v0 v1 v2 v3 v4 v5 v6) : Z p l e R s m args below meth c (MQ below (hQ G B (vP q)) args s mc ms (fun r => B ≤ r)) G B mc ms 9 S 0 0 27 [some (.ref v0), some (.ref v1), some (.int v2), some (.int v3), some (.int v4), some (.int v5), some (.int v6), none, none] [] := by
  unfold w_X4_walk_b27 at hw
  refine z_aload_n hC dX4_walk_27 rfl rfl ?_
  refine z_iload hC dX4_walk_28 rfl ?_
  refine z_putI hC FX4 4 lk_454 dX4_walk_30 (by decide) rfl rfl hw (fun S hw => ?_)
  refine z_aload_n hC dX4_walk_33 rfl rfl ?_
  refine z_iload hC dX4_walk_34 rfl ?_
  refine z_putI hC FX4 2 lk_451 dX4_walk_36 (by decide) rfl rfl hw (fun S hw => ?_)
  refine z_aload_n hC dX4_walk_39 rfl rfl ?_
  refine z_getP hC FX4 0 lk_449 dX4_walk_40 (by decide) hw (fun x40 hw => ?_)
  refine z_iconst hC ic_0 dX4_walk_43 ?_
  refine z_aload_n hC dX4_walk_44 rfl rfl ?_
  refine z_getP hC FX4 3 lk_452 dX4_walk_45 (by decide) hw (fun x45 hw => ?_)
  refine z_iconst hC ic_0 dX4_walk_48 ?_
  refine z_iload hC dX4_walk_49 rfl ?_
  refine z_copyI hC lk_1145 lk_1002 lk_1001 lk_139 dX4_walk_51 (by omega) (Nat.le_trans (Nat.le_of_ble_eq_true rfl : _ ≤ 60) (by omega)) hw (fun S hw => ?_)
  refine z_mask (lv' := [some (.ref v0), some (.ref v1), some (.int v2), some (.int v3), some (.int v4), some (.int v5), some (.int v6), none, none]) [true, true, true, true, true, true, true, false, false] rfl ?_
  exact t_X4_walk_b54 hC hr hlk hnm hrec0 hw
def wb_X4_walk (rec : Nat → (hS → Prop) → hS → (Nat) → (Nat) → (Int32) → (Int32) → (Int32) → (Int32) → (Int32) → Prop) (q : hS → Prop) (S : hS) (v0 : Nat) (v1 : Nat) (v2 : Int32) (v3 : Int32) (v4 : Int32) (v5 : Int32) (v6 : Int32) : Prop := gI S v0 4 4 (fun x3 => (x3 < v6 → w_X4_walk_b27 rec q S v0 v1 v2 v3 v4 v5 v6) ∧ (¬ x3 < v6 → gI S v0 4 4 (fun x12 => (¬ v6 = x12 → w_X4_walk_b54 rec q S v0 v1 v2 v3 v4 v5 v6) ∧ (v6 = x12 → gI S v0 4 2 (fun x21 => (x21 ≤ v4 → w_X4_walk_b54 rec q S v0 v1 v2 v3 v4 v5 v6) ∧ (¬ x21 ≤ v4 → w_X4_walk_b27 rec q S v0 v1 v2 v3 v4 v5 v6))))))
set_option maxRecDepth 100000 in
set_option maxHeartbeats 4000000 in
theorem cb_X4_walk (l : Launch) (G : hG) (B : Nat) {d : Nat} {rec : Nat → (hS → Prop) → hS → (Nat) → (Nat) → (Int32) → (Int32) → (Int32) → (Int32) → (Int32) → Prop} (hrec0 : ∀ (S : hS) (v0 : Nat) (v1 : Nat) (v2 : Int32) (v3 : Int32) (v4 : Int32) (v5 : Int32) (v6 : Int32) (q : hS → Prop), Met l yX4_walk (hws yX4_walk cX4_walk 9 (Option.none : Option FieldType)) ({ frames := 3 + d, cells := 0, slots := 0, locals := 103 + 28 * d }) (hPc G B S [.ref v0, .ref v1, .int v2, .int v3, .int v4, .int v5, .int v6] (rec 0 q S v0 v1 v2 v3 v4 v5 v6)) (hQ G B (vP q)) 0 0 (fun r => B ≤ r)) (S : hS) (v0 : Nat) (v1 : Nat) (v2 : Int32) (v3 : Int32) (v4 : Int32) (v5 : Int32) (v6 : Int32) (q : hS → Prop) : Met l yX4_walk (hws yX4_walk cX4_walk 9 (Option.none : Option FieldType)) ({ frames := (3 + (d + 1)), cells := 0, slots := 0, locals := (103 + 28 * (d + 1)) }) (hPc G B S [.ref v0, .ref v1, .int v2, .int v3, .int v4, .int v5, .int v6] (wb_X4_walk rec q S v0 v1 v2 v3 v4 v5 v6)) (hQ G B (vP q)) (0) (0) (fun r => B ≤ r) := by
  refine hMet (rm := { frames := (3 + (d + 1)), cells := 0, slots := 0, locals := (103 + 28 * (d + 1)) }) (lv := [some (.ref v0), some (.ref v1), some (.int v2), some (.int v3), some (.int v4), some (.int v5), some (.int v6), none, none]) (own := RX4) (fr := (3 + (d + 1))) (lo := (103 + 28 * (d + 1))) (by decide) rfl rfl rfl (Nat.le_of_ble_eq_true rfl) rfl (fun hw p e R s m args below meth c hC hr hlk hnm => ?_)
  unfold wb_X4_walk at hw
  refine z_iload hC dX4_walk_0 rfl ?_
  refine z_aload_n hC dX4_walk_2 rfl rfl ?_
  refine z_getI hC FX4 4 lk_454 dX4_walk_3 (by decide) hw (fun x3 hw => ?_)
  refine z_icmp_gt (tgt := 27) hC dX4_walk_6 (by decide) (fun c6 => ?_) (fun c6 => ?_)
  · have hw := hw.1 c6
    refine z_mask (lv' := [some (.ref v0), some (.ref v1), some (.int v2), some (.int v3), some (.int v4), some (.int v5), some (.int v6), none, none]) [true, true, true, true, true, true, true, false, false] rfl ?_
    exact t_X4_walk_b27 hC hr hlk hnm hrec0 hw
  · have hw := hw.2 c6
    refine z_iload hC dX4_walk_9 rfl ?_
    refine z_aload_n hC dX4_walk_11 rfl rfl ?_
    refine z_getI hC FX4 4 lk_454 dX4_walk_12 (by decide) hw (fun x12 hw => ?_)
    refine z_icmp_ne (tgt := 54) hC dX4_walk_15 (by decide) (fun c15 => ?_) (fun c15 => ?_)
    · have hw := hw.1 c15
      refine z_mask (lv' := [some (.ref v0), some (.ref v1), some (.int v2), some (.int v3), some (.int v4), some (.int v5), some (.int v6), none, none]) [true, true, true, true, true, true, true, false, false] rfl ?_
      exact t_X4_walk_b54 hC hr hlk hnm hrec0 hw
    · have hw := hw.2 c15
      refine z_iload hC dX4_walk_18 rfl ?_
      refine z_aload_n hC dX4_walk_20 rfl rfl ?_
      refine z_getI hC FX4 2 lk_451 dX4_walk_21 (by decide) hw (fun x21 hw => ?_)
      refine z_icmp_ge (tgt := 54) hC dX4_walk_24 (by decide) (fun c24 => ?_) (fun c24 => ?_)
      · have hw := hw.1 c24
        refine z_mask (lv' := [some (.ref v0), some (.ref v1), some (.int v2), some (.int v3), some (.int v4), some (.int v5), some (.int v6), none, none]) [true, true, true, true, true, true, true, false, false] rfl ?_
        exact t_X4_walk_b54 hC hr hlk hnm hrec0 hw
      · have hw := hw.2 c24
        refine z_mask (lv' := [some (.ref v0), some (.ref v1), some (.int v2), some (.int v3), some (.int v4), some (.int v5), some (.int v6), none, none]) [true, true, true, true, true, true, true, false, false] rfl ?_
        exact t_X4_walk_b27 hC hr hlk hnm hrec0 hw
end
def wr_W : Nat → Nat → (hS → Prop) → hS → (Nat) → (Nat) → (Int32) → (Int32) → (Int32) → (Int32) → (Int32) → Prop
  | 0, _, _, _, _, _, _, _, _, _, _ => False
  | d + 1, t, q, S, v0, v1, v2, v3, v4, v5, v6 => match t with
    | 0 => wb_X4_walk (wr_W d) q S v0 v1 v2 v3 v4 v5 v6
    | _ => False
set_option maxRecDepth 100000 in
set_option maxHeartbeats 4000000 in
theorem cr_W (l : Launch) (G : hG) (B : Nat) : ∀ d : Nat, (∀ (S : hS) (v0 : Nat) (v1 : Nat) (v2 : Int32) (v3 : Int32) (v4 : Int32) (v5 : Int32) (v6 : Int32) (q : hS → Prop), Met l yX4_walk (hws yX4_walk cX4_walk 9 (Option.none : Option FieldType)) ({ frames := 3 + d, cells := 0, slots := 0, locals := 103 + 28 * d }) (hPc G B S [.ref v0, .ref v1, .int v2, .int v3, .int v4, .int v5, .int v6] (wr_W d 0 q S v0 v1 v2 v3 v4 v5 v6)) (hQ G B (vP q)) 0 0 (fun r => B ≤ r)) := by
  intro d
  induction d with
  | zero =>
    exact fun S v0 v1 v2 v3 v4 v5 v6 q => hMet (rm := { frames := 3 + 0, cells := 0, slots := 0, locals := 103 + 28 * 0 }) (lv := [some (.ref v0), some (.ref v1), some (.int v2), some (.int v3), some (.int v4), some (.int v5), some (.int v6), none, none]) (own := RX4) (fr := 3 + 0) (lo := 103 + 28 * 0) (by decide) rfl rfl rfl (Nat.le_of_ble_eq_true rfl) rfl (fun hw => (by rw [wr_W] at hw; exact hw.elim))
  | succ d ih =>
    have i0 := ih
    exact fun S v0 v1 v2 v3 v4 v5 v6 q => by
        have h := cb_X4_walk l G B (d := d) (rec := wr_W d) i0 S v0 v1 v2 v3 v4 v5 v6 q
        rw [wr_W]
        exact h
def w_X4_walk (q : hS → Prop) (S : hS) (v0 : Nat) (v1 : Nat) (v2 : Int32) (v3 : Int32) (v4 : Int32) (v5 : Int32) (v6 : Int32) : Prop := wr_W 8 0 q S v0 v1 v2 v3 v4 v5 v6
theorem c_X4_walk (l : Launch) (G : hG) (B : Nat) (S : hS) (v0 : Nat) (v1 : Nat) (v2 : Int32) (v3 : Int32) (v4 : Int32) (v5 : Int32) (v6 : Int32) (q : hS → Prop) : Met l yX4_walk (hws yX4_walk cX4_walk 9 (Option.none : Option FieldType)) ({ frames := 11, cells := 0, slots := 0, locals := 327 }) (hPc G B S [.ref v0, .ref v1, .int v2, .int v3, .int v4, .int v5, .int v6] (w_X4_walk q S v0 v1 v2 v3 v4 v5 v6)) (hQ G B (vP q)) 0 0 (fun r => B ≤ r) := (cr_W l G B 8) S v0 v1 v2 v3 v4 v5 v6 q
section
variable {p : Program} {l : Launch} {e : Env} {R : Room} {s : State} {m : MethodId} {args : Array Value} {below : List Frame} {meth : Method} {c : Code} {G : hG} {B mc ms : Nat}
def w_X4_findVisits (q : hS → Prop) (S : hS) (v0 : Nat) (v1 : Nat) (v2 : Int32) (v3 : Int32) : Prop := pI S v0 4 1 v3 (fun S => pI S v0 4 4 0 (fun S => pI S v0 4 2 0 (fun S => oK S v1 8 ∧ w_X8_hasPerson (fun x17 S => (x17 = 0 → q S) ∧ (¬ x17 = 0 → gP S v1 8 5 (fun x27 => aI S x27 v2 (fun x31 => oK S v0 4 ∧ w_X4_walk (fun S => q S) S v0 v1 v2 x31 0 0 0)))) S v1 v2)))
set_option maxRecDepth 100000 in
set_option maxHeartbeats 4000000 in
theorem c_X4_findVisits (l : Launch) (G : hG) (B : Nat) (S : hS) (v0 : Nat) (v1 : Nat) (v2 : Int32) (v3 : Int32) (q : hS → Prop) : Met l yX4_findVisits (hws yX4_findVisits cX4_findVisits 4 (Option.none : Option FieldType)) ({ frames := 12, cells := 0, slots := 0, locals := 355 }) (hPc G B S [.ref v0, .ref v1, .int v2, .int v3] (w_X4_findVisits q S v0 v1 v2 v3)) (hQ G B (vP q)) (0) (0) (fun r => B ≤ r) := by
  refine hMet (rm := { frames := 12, cells := 0, slots := 0, locals := 355 }) (lv := [some (.ref v0), some (.ref v1), some (.int v2), some (.int v3)]) (own := RX4) (fr := 12) (lo := 355) (by decide) rfl rfl rfl (Nat.le_of_ble_eq_true rfl) rfl (fun hw p e R s m args below meth c hC hr hlk hnm => ?_)
  unfold w_X4_findVisits at hw
  refine z_aload_n hC dX4_findVisits_0 rfl rfl ?_
  refine z_iload_n hC dX4_findVisits_1 rfl rfl ?_
  refine z_putI hC FX4 1 lk_450 dX4_findVisits_2 (by decide) rfl rfl hw (fun S hw => ?_)
  refine z_aload_n hC dX4_findVisits_5 rfl rfl ?_
  refine z_iconst hC ic_0 dX4_findVisits_6 ?_
  refine z_putI hC FX4 4 lk_454 dX4_findVisits_7 (by decide) rfl rfl hw (fun S hw => ?_)
  refine z_aload_n hC dX4_findVisits_10 rfl rfl ?_
  refine z_iconst hC ic_0 dX4_findVisits_11 ?_
  refine z_putI hC FX4 2 lk_451 dX4_findVisits_12 (by decide) rfl rfl hw (fun S hw => ?_)
  refine z_aload_n hC dX4_findVisits_15 rfl rfl ?_
  refine z_iload_n hC dX4_findVisits_16 rfl rfl ?_
  refine z_callV (ku' := 0) (kv' := 0) (n := 1) (As := [.int v2]) (st := []) hC (c_X8_hasPerson l G B S v1 v2 _) hw.2 hw.1 rfl lk_1140 lk_613 lk_614 lk_122 lk_615 hd_X8_hasPerson rfl rfl (Nat.le_of_ble_eq_true rfl) (Nat.le_of_ble_eq_true rfl) rfl (Nat.le_of_ble_eq_true rfl) dX4_findVisits_17 (Nat.le_refl 0) (Nat.le_refl 0) (kI (fun x17 S hw => ?_))
  refine z_if_eq (tgt := 38) hC dX4_findVisits_20 (by decide) (fun c20 => ?_) (fun c20 => ?_)
  · have hw := hw.1 c20
    exact z_vret hC hr hlk dX4_findVisits_38 ⟨rfl, hw⟩
  · have hw := hw.2 c20
    refine z_aload_n hC dX4_findVisits_23 rfl rfl ?_
    refine z_aload_n hC dX4_findVisits_24 rfl rfl ?_
    refine z_iload_n hC dX4_findVisits_25 rfl rfl ?_
    refine z_aload_n hC dX4_findVisits_26 rfl rfl ?_
    refine z_getP hC FX8 5 lk_221 dX4_findVisits_27 (by decide) hw (fun x27 hw => ?_)
    refine z_iload_n hC dX4_findVisits_30 rfl rfl ?_
    refine z_aldI hC dX4_findVisits_31 hw (fun x31 hw => ?_)
    refine z_iconst hC ic_0 dX4_findVisits_32 ?_
    refine z_iconst hC ic_0 dX4_findVisits_33 ?_
    refine z_iconst hC ic_0 dX4_findVisits_34 ?_
    refine z_callV (ku' := 0) (kv' := 0) (n := 6) (As := [.ref v1, .int v2, .int x31, .int 0, .int 0, .int 0]) (st := []) hC (c_X4_walk l G B S v0 v1 v2 x31 0 0 0 _) hw.2 hw.1 rfl lk_1141 lk_1143 lk_30 lk_131 lk_1144 hd_X4_walk rfl rfl (Nat.le_of_ble_eq_true rfl) (Nat.le_of_ble_eq_true rfl) rfl (Nat.le_of_ble_eq_true rfl) dX4_findVisits_35 (Nat.le_refl 0) (Nat.le_refl 0) (kV (fun S hw => ?_))
    exact z_vret hC hr hlk dX4_findVisits_38 ⟨rfl, hw⟩
end
section
variable {p : Program} {l : Launch} {e : Env} {R : Room} {s : State} {m : MethodId} {args : Array Value} {below : List Frame} {meth : Method} {c : Code} {G : hG} {B mc ms : Nat}
def w_J6_bitCount_0f7a4 (q : Int32 → hS → Prop) (S : hS) (v0 : Int32) : Prop := ∀ y9 : Int32, y9 = (v0 - ((UInt32.toInt32 (Int32.toUInt32 v0 >>> (Int32.toUInt32 1 &&& Int32.toUInt32 31))) &&& 1431655765)) → ∀ y23 : Int32, y23 = ((y9 &&& 858993459) + ((UInt32.toInt32 (Int32.toUInt32 y9 >>> (Int32.toUInt32 2 &&& Int32.toUInt32 31))) &&& 858993459)) → ∀ y33 : Int32, y33 = ((y23 + (UInt32.toInt32 (Int32.toUInt32 y23 >>> (Int32.toUInt32 4 &&& Int32.toUInt32 31)))) &&& 252645135) → ∀ y40 : Int32, y40 = (y33 + (UInt32.toInt32 (Int32.toUInt32 y33 >>> (Int32.toUInt32 8 &&& Int32.toUInt32 31)))) → ∀ y47 : Int32, y47 = (y40 + (UInt32.toInt32 (Int32.toUInt32 y40 >>> (Int32.toUInt32 16 &&& Int32.toUInt32 31)))) → q (y47 &&& 63) S
set_option maxRecDepth 100000 in
set_option maxHeartbeats 4000000 in
theorem c_J6_bitCount_0f7a4 (l : Launch) (G : hG) (B : Nat) (S : hS) (v0 : Int32) (q : Int32 → hS → Prop) : Met l yJ6_bitCount_0f7a4 (hws yJ6_bitCount_0f7a4 cJ6_bitCount_0f7a4 1 (Option.some FieldType.int)) ({ frames := 1, cells := 0, slots := 0, locals := 60 }) (hPc G B S [.int v0] (w_J6_bitCount_0f7a4 q S v0)) (hQ G B (iP q)) (0) (0) (fun r => B ≤ r) := by
  refine hMet (rm := { frames := 1, cells := 0, slots := 0, locals := 60 }) (lv := [some (.int v0)]) (own := RJ6) (fr := 1) (lo := 60) (by decide) rfl rfl rfl (Nat.le_of_ble_eq_true rfl) rfl (fun hw p e R s m args below meth c hC hr hlk hnm => ?_)
  unfold w_J6_bitCount_0f7a4 at hw
  refine z_iload_n hC dJ6_bitCount_0f7a4_0 rfl rfl ?_
  refine z_iload_n hC dJ6_bitCount_0f7a4_1 rfl rfl ?_
  refine z_iconst hC ic_1 dJ6_bitCount_0f7a4_2 ?_
  refine z_iushr hC rfl dJ6_bitCount_0f7a4_3 ?_
  refine z_ldcw hC lk_1165 dJ6_bitCount_0f7a4_4 ?_
  refine z_iand hC dJ6_bitCount_0f7a4_7 ?_
  refine z_isub hC dJ6_bitCount_0f7a4_8 ?_
  refine z_nmI (fun y9 e9 => ?_)
  have hw := hw y9 e9
  refine z_istore_n (i := 0) (lv' := [some (.int y9)]) hC rfl dJ6_bitCount_0f7a4_9 (by decide) hok_0 rfl ?_
  refine z_iload_n hC dJ6_bitCount_0f7a4_10 rfl rfl ?_
  refine z_ldcw hC lk_1166 dJ6_bitCount_0f7a4_11 ?_
  refine z_iand hC dJ6_bitCount_0f7a4_14 ?_
  refine z_iload_n hC dJ6_bitCount_0f7a4_15 rfl rfl ?_
  refine z_iconst hC ic_2 dJ6_bitCount_0f7a4_16 ?_
  refine z_iushr hC rfl dJ6_bitCount_0f7a4_17 ?_
  refine z_ldcw hC lk_1166 dJ6_bitCount_0f7a4_18 ?_
  refine z_iand hC dJ6_bitCount_0f7a4_21 ?_
  refine z_iadd hC dJ6_bitCount_0f7a4_22 ?_
  refine z_nmI (fun y23 e23 => ?_)
  have hw := hw y23 e23
  refine z_istore_n (i := 0) (lv' := [some (.int y23)]) hC rfl dJ6_bitCount_0f7a4_23 (by decide) hok_0 rfl ?_
  refine z_iload_n hC dJ6_bitCount_0f7a4_24 rfl rfl ?_
  refine z_iload_n hC dJ6_bitCount_0f7a4_25 rfl rfl ?_
  refine z_iconst hC ic_4 dJ6_bitCount_0f7a4_26 ?_
  refine z_iushr hC rfl dJ6_bitCount_0f7a4_27 ?_
  refine z_iadd hC dJ6_bitCount_0f7a4_28 ?_
  refine z_ldcw hC lk_1167 dJ6_bitCount_0f7a4_29 ?_
  refine z_iand hC dJ6_bitCount_0f7a4_32 ?_
  refine z_nmI (fun y33 e33 => ?_)
  have hw := hw y33 e33
  refine z_istore_n (i := 0) (lv' := [some (.int y33)]) hC rfl dJ6_bitCount_0f7a4_33 (by decide) hok_0 rfl ?_
  refine z_iload_n hC dJ6_bitCount_0f7a4_34 rfl rfl ?_
  refine z_iload_n hC dJ6_bitCount_0f7a4_35 rfl rfl ?_
  refine z_bipush hC bi_8 dJ6_bitCount_0f7a4_36 ?_
  refine z_iushr hC rfl dJ6_bitCount_0f7a4_38 ?_
  refine z_iadd hC dJ6_bitCount_0f7a4_39 ?_
  refine z_nmI (fun y40 e40 => ?_)
  have hw := hw y40 e40
  refine z_istore_n (i := 0) (lv' := [some (.int y40)]) hC rfl dJ6_bitCount_0f7a4_40 (by decide) hok_0 rfl ?_
  refine z_iload_n hC dJ6_bitCount_0f7a4_41 rfl rfl ?_
  refine z_iload_n hC dJ6_bitCount_0f7a4_42 rfl rfl ?_
  refine z_bipush hC bi_16 dJ6_bitCount_0f7a4_43 ?_
  refine z_iushr hC rfl dJ6_bitCount_0f7a4_45 ?_
  refine z_iadd hC dJ6_bitCount_0f7a4_46 ?_
  refine z_nmI (fun y47 e47 => ?_)
  have hw := hw y47 e47
  refine z_istore_n (i := 0) (lv' := [some (.int y47)]) hC rfl dJ6_bitCount_0f7a4_47 (by decide) hok_0 rfl ?_
  refine z_iload_n hC dJ6_bitCount_0f7a4_48 rfl rfl ?_
  refine z_bipush hC bi_63 dJ6_bitCount_0f7a4_49 ?_
  refine z_iand hC dJ6_bitCount_0f7a4_51 ?_
  exact z_iret hC hr hlk dJ6_bitCount_0f7a4_52 ⟨_, rfl, hw⟩
end
section
variable {p : Program} {l : Launch} {e : Env} {R : Room} {s : State} {m : MethodId} {args : Array Value} {below : List Frame} {meth : Method} {c : Code} {G : hG} {B mc ms : Nat}
def w_X4_canGive (q : Int32 → hS → Prop) (S : hS) (v0 : Nat) (v1 : Int32) (v2 : Int32) : Prop := oK S v0 8 ∧ w_X8_lives (fun x2 S => (x2 = 0 → q 0 S) ∧ (¬ x2 = 0 → oK S v0 8 ∧ w_X8_lives (fun x10 S => (x10 = 0 → q 0 S) ∧ (¬ x10 = 0 → gP S v0 8 7 (fun x19 => aI S x19 v1 (fun x23 => oK S v0 8 ∧ w_X8_leftOf (fun x24 S => (x24 < 1 → q 0 S) ∧ (¬ x24 < 1 → q 1 S)) S v0 v2 x23)))) S v0 v2)) S v0 v1
set_option maxRecDepth 100000 in
set_option maxHeartbeats 4000000 in
theorem c_X4_canGive (l : Launch) (G : hG) (B : Nat) (S : hS) (v0 : Nat) (v1 : Int32) (v2 : Int32) (q : Int32 → hS → Prop) : Met l yX4_canGive (hws yX4_canGive cX4_canGive 3 (Option.some FieldType.boolean)) ({ frames := 3, cells := 0, slots := 0, locals := 103 }) (hPc G B S [.ref v0, .int v1, .int v2] (w_X4_canGive q S v0 v1 v2)) (hQ G B (iP q)) (0) (0) (fun r => B ≤ r) := by
  refine hMet (rm := { frames := 3, cells := 0, slots := 0, locals := 103 }) (lv := [some (.ref v0), some (.int v1), some (.int v2)]) (own := RX4) (fr := 3) (lo := 103) (by decide) rfl rfl rfl (Nat.le_of_ble_eq_true rfl) rfl (fun hw p e R s m args below meth c hC hr hlk hnm => ?_)
  unfold w_X4_canGive at hw
  refine z_aload_n hC dX4_canGive_0 rfl rfl ?_
  refine z_iload_n hC dX4_canGive_1 rfl rfl ?_
  refine z_callV (ku' := 0) (kv' := 0) (n := 1) (As := [.int v1]) (st := []) hC (c_X8_lives l G B S v0 v1 _) hw.2 hw.1 rfl lk_1175 lk_676 lk_677 lk_122 lk_678 hd_X8_lives rfl rfl (Nat.le_of_ble_eq_true rfl) (Nat.le_of_ble_eq_true rfl) rfl (Nat.le_of_ble_eq_true rfl) dX4_canGive_2 (Nat.le_refl 0) (Nat.le_refl 0) (kI (fun x2 S hw => ?_))
  refine z_if_eq (tgt := 35) hC dX4_canGive_5 (by decide) (fun c5 => ?_) (fun c5 => ?_)
  · have hw := hw.1 c5
    refine z_iconst hC ic_0 dX4_canGive_35 ?_
    exact z_zret hC hr hlk (hz01 (Or.inl rfl)).1 dX4_canGive_36 ⟨_, rfl, hw⟩
  · have hw := hw.2 c5
    refine z_aload_n hC dX4_canGive_8 rfl rfl ?_
    refine z_iload_n hC dX4_canGive_9 rfl rfl ?_
    refine z_callV (ku' := 0) (kv' := 0) (n := 1) (As := [.int v2]) (st := []) hC (c_X8_lives l G B S v0 v2 _) hw.2 hw.1 rfl lk_1175 lk_676 lk_677 lk_122 lk_678 hd_X8_lives rfl rfl (Nat.le_of_ble_eq_true rfl) (Nat.le_of_ble_eq_true rfl) rfl (Nat.le_of_ble_eq_true rfl) dX4_canGive_10 (Nat.le_refl 0) (Nat.le_refl 0) (kI (fun x10 S hw => ?_))
    refine z_if_eq (tgt := 35) hC dX4_canGive_13 (by decide) (fun c13 => ?_) (fun c13 => ?_)
    · have hw := hw.1 c13
      refine z_iconst hC ic_0 dX4_canGive_35 ?_
      exact z_zret hC hr hlk (hz01 (Or.inl rfl)).1 dX4_canGive_36 ⟨_, rfl, hw⟩
    · have hw := hw.2 c13
      refine z_aload_n hC dX4_canGive_16 rfl rfl ?_
      refine z_iload_n hC dX4_canGive_17 rfl rfl ?_
      refine z_aload_n hC dX4_canGive_18 rfl rfl ?_
      refine z_getP hC FX8 7 lk_228 dX4_canGive_19 (by decide) hw (fun x19 hw => ?_)
      refine z_iload_n hC dX4_canGive_22 rfl rfl ?_
      refine z_aldI hC dX4_canGive_23 hw (fun x23 hw => ?_)
      refine z_callV (ku' := 0) (kv' := 0) (n := 2) (As := [.int v2, .int x23]) (st := []) hC (c_X8_leftOf l G B S v0 v2 x23 _) hw.2 hw.1 rfl lk_1153 lk_628 lk_629 lk_122 lk_630 hd_X8_leftOf rfl rfl (Nat.le_of_ble_eq_true rfl) (Nat.le_of_ble_eq_true rfl) rfl (Nat.le_of_ble_eq_true rfl) dX4_canGive_24 (Nat.le_refl 0) (Nat.le_refl 0) (kI (fun x24 S hw => ?_))
      refine z_iconst hC ic_1 dX4_canGive_27 ?_
      refine z_icmp_lt (tgt := 35) hC dX4_canGive_28 (by decide) (fun c28 => ?_) (fun c28 => ?_)
      · have hw := hw.1 c28
        refine z_iconst hC ic_0 dX4_canGive_35 ?_
        exact z_zret hC hr hlk (hz01 (Or.inl rfl)).1 dX4_canGive_36 ⟨_, rfl, hw⟩
      · have hw := hw.2 c28
        refine z_iconst hC ic_1 dX4_canGive_31 ?_
        refine z_goto (tgt := 36) hC dX4_canGive_32 (by decide) ?_
        exact z_zret hC hr hlk (hz01 (Or.inr rfl)).1 dX4_canGive_36 ⟨_, rfl, hw⟩
end
section
variable {p : Program} {l : Launch} {e : Env} {R : Room} {s : State} {m : MethodId} {args : Array Value} {below : List Frame} {meth : Method} {c : Code} {G : hG} {B mc ms : Nat}
def w_X4_mostIfGives (q : Int32 → hS → Prop) (S : hS) (v0 : Nat) (v1 : Nat) (v2 : Int32) (v3 : Int32) (v4 : Int32) : Prop := w_X11_hasBit (fun x3 S => (x3 = 0 → gP S v0 4 5 (fun x12 => aI S x12 (v2 ||| (1 <<< (v4 &&& 31))) (fun x21 => (x21 = (-1) → q x21 S) ∧ (¬ x21 = (-1) → (¬ v3 = v4 → w_X4_canGive (fun x43 S => (x43 = 0 → q (-1) S) ∧ (¬ x43 = 0 → q (x21 + 1) S)) S v1 v3 v4) ∧ (v3 = v4 → q x21 S))))) ∧ (¬ x3 = 0 → q (-1) S)) S v2 v4
set_option maxRecDepth 100000 in
set_option maxHeartbeats 4000000 in
theorem c_X4_mostIfGives (l : Launch) (G : hG) (B : Nat) (S : hS) (v0 : Nat) (v1 : Nat) (v2 : Int32) (v3 : Int32) (v4 : Int32) (q : Int32 → hS → Prop) : Met l yX4_mostIfGives (hws yX4_mostIfGives cX4_mostIfGives 6 (Option.some FieldType.int)) ({ frames := 4, cells := 0, slots := 0, locals := 125 }) (hPc G B S [.ref v0, .ref v1, .int v2, .int v3, .int v4] (w_X4_mostIfGives q S v0 v1 v2 v3 v4)) (hQ G B (iP q)) (0) (0) (fun r => B ≤ r) := by
  refine hMet (rm := { frames := 4, cells := 0, slots := 0, locals := 125 }) (lv := [some (.ref v0), some (.ref v1), some (.int v2), some (.int v3), some (.int v4), none]) (own := RX4) (fr := 4) (lo := 125) (by decide) rfl rfl rfl (Nat.le_of_ble_eq_true rfl) rfl (fun hw p e R s m args below meth c hC hr hlk hnm => ?_)
  unfold w_X4_mostIfGives at hw
  refine z_iload_n hC dX4_mostIfGives_0 rfl rfl ?_
  refine z_iload hC dX4_mostIfGives_1 rfl ?_
  refine z_callSN (ku' := 0) (kv' := 0) (n := 2) (As := [.int v2, .int v4]) (st := []) (host := "BellHeirs") hC (c_X11_hasBit l G B S v2 v4 _) hw (by decide +kernel) lk_680 lk_121 lk_681 hd_X11_hasBit.2 rfl rfl (Nat.le_of_ble_eq_true rfl) (Nat.le_of_ble_eq_true rfl) rfl (Nat.le_of_ble_eq_true rfl) dX4_mostIfGives_3 (Nat.le_refl 0) (Nat.le_refl 0) (kI (fun x3 S hw => ?_))
  refine z_if_eq (tgt := 11) hC dX4_mostIfGives_6 (by decide) (fun c6 => ?_) (fun c6 => ?_)
  · have hw := hw.1 c6
    refine z_aload_n hC dX4_mostIfGives_11 rfl rfl ?_
    refine z_getP hC FX4 5 lk_456 dX4_mostIfGives_12 (by decide) hw (fun x12 hw => ?_)
    refine z_iload_n hC dX4_mostIfGives_15 rfl rfl ?_
    refine z_iconst hC ic_1 dX4_mostIfGives_16 ?_
    refine z_iload hC dX4_mostIfGives_17 rfl ?_
    refine z_ishl hC dX4_mostIfGives_19 ?_
    refine z_ior hC dX4_mostIfGives_20 ?_
    refine z_aldI hC dX4_mostIfGives_21 hw (fun x21 hw => ?_)
    refine z_istore (i := 5) (lv' := [some (.ref v0), some (.ref v1), some (.int v2), some (.int v3), some (.int v4), some (.int x21)]) hC dX4_mostIfGives_22 (by decide) (hok_v rfl rfl) rfl ?_
    refine z_iload hC dX4_mostIfGives_24 rfl ?_
    refine z_iconst hC ic_m1 dX4_mostIfGives_26 ?_
    refine z_icmp_eq (tgt := 36) hC dX4_mostIfGives_27 (by decide) (fun c27 => ?_) (fun c27 => ?_)
    · have hw := hw.1 c27
      refine z_iload hC dX4_mostIfGives_36 rfl ?_
      exact z_iret hC hr hlk dX4_mostIfGives_38 ⟨_, rfl, hw⟩
    · have hw := hw.2 c27
      refine z_iload_n hC dX4_mostIfGives_30 rfl rfl ?_
      refine z_iload hC dX4_mostIfGives_31 rfl ?_
      refine z_icmp_ne (tgt := 39) hC dX4_mostIfGives_33 (by decide) (fun c33 => ?_) (fun c33 => ?_)
      · have hw := hw.1 c33
        refine z_aload_n hC dX4_mostIfGives_39 rfl rfl ?_
        refine z_iload_n hC dX4_mostIfGives_40 rfl rfl ?_
        refine z_iload hC dX4_mostIfGives_41 rfl ?_
        refine z_callS (ku' := 0) (kv' := 0) (n := 3) (As := [.ref v1, .int v3, .int v4]) (st := []) hC (c_X4_canGive l G B S v1 v3 v4 _) hw lk_1172 lk_1173 lk_131 lk_1174 hd_X4_canGive rfl rfl (Nat.le_of_ble_eq_true rfl) (Nat.le_of_ble_eq_true rfl) rfl (Nat.le_of_ble_eq_true rfl) dX4_mostIfGives_43 (Nat.le_refl 0) (Nat.le_refl 0) (kI (fun x43 S hw => ?_))
        refine z_if_eq (tgt := 56) hC dX4_mostIfGives_46 (by decide) (fun c46 => ?_) (fun c46 => ?_)
        · have hw := hw.1 c46
          refine z_iconst hC ic_m1 dX4_mostIfGives_56 ?_
          exact z_iret hC hr hlk dX4_mostIfGives_57 ⟨_, rfl, hw⟩
        · have hw := hw.2 c46
          refine z_iload hC dX4_mostIfGives_49 rfl ?_
          refine z_iconst hC ic_1 dX4_mostIfGives_51 ?_
          refine z_iadd hC dX4_mostIfGives_52 ?_
          refine z_goto (tgt := 57) hC dX4_mostIfGives_53 (by decide) ?_
          exact z_iret hC hr hlk dX4_mostIfGives_57 ⟨_, rfl, hw⟩
      · have hw := hw.2 c33
        refine z_iload hC dX4_mostIfGives_36 rfl ?_
        exact z_iret hC hr hlk dX4_mostIfGives_38 ⟨_, rfl, hw⟩
  · have hw := hw.2 c6
    refine z_iconst hC ic_m1 dX4_mostIfGives_9 ?_
    exact z_iret hC hr hlk dX4_mostIfGives_10 ⟨_, rfl, hw⟩
end
section
variable {p : Program} {l : Launch} {e : Env} {R : Room} {s : State} {m : MethodId} {args : Array Value} {below : List Frame} {meth : Method} {c : Code} {G : hG} {B mc ms : Nat}
def w_X4_firstBestGiver_b39 (q : Int32 → hS → Prop) (K3 : hS → (Nat) → (Nat) → (Int32) → (Int32) → (Int32) → Prop) (S : hS) (v0 : Nat) (v1 : Nat) (v2 : Int32) (v3 : Int32) (v4 : Int32) : Prop := ∀ y39 : Int32, y39 = v4 + 1 → K3 S v0 v1 v2 v3 y39
set_option maxRecDepth 100000 in
set_option maxHeartbeats 4000000 in
theorem t_X4_firstBestGiver_b39 (hC : zC p R s m args c cX4_firstBestGiver 5 RX4 G B mc ms 5 150) (hr : meth.sig.returnType = (Option.some FieldType.int)) (hlk : meth.locks = false) (hnm : meth.name = "firstBestGiver") {q : Int32 → hS → Prop} {K3 : hS → (Nat) → (Nat) → (Int32) → (Int32) → (Int32) → Prop} (hK3 : ∀ {S : hS} {v0 : Nat} {v1 : Nat} {v2 : Int32} {v3 : Int32} {v4 : Int32}, K3 S v0 v1 v2 v3 v4 → Z p l e R s m args below meth c (MQ below (hQ G B (iP q)) args s mc ms (fun r => B ≤ r)) G B mc ms 5 S 0 0 3 [some (.ref v0), some (.ref v1), some (.int v2), some (.int v3), some (.int v4)] []) {S : hS} {v0 : Nat} {v1 : Nat} {v2 : Int32} {v3 : Int32} {v4 : Int32} (hw : w_X4_firstBestGiver_b39 q K3 S v0 v1 v2 v3 v4) : Z p l e R s m args below meth c (MQ below (hQ G B (iP q)) args s mc ms (fun r => B ≤ r)) G B mc ms 5 S 0 0 39 [some (.ref v0), some (.ref v1), some (.int v2), some (.int v3), some (.int v4)] [] := by
  unfold w_X4_firstBestGiver_b39 at hw
  refine z_inc (i := 4) hC ic_1 dX4_firstBestGiver_39 rfl (by decide) (hok_v rfl rfl) (fun y39 e39 => ?_)
  have hw := hw y39 e39
  refine z_goto (tgt := 3) hC dX4_firstBestGiver_42 (by decide) ?_
  refine z_mask (lv' := [some (.ref v0), some (.ref v1), some (.int v2), some (.int v3), some (.int y39)]) [true, true, true, true, true] rfl ?_
  exact hK3 hw
def w_X4_firstBestGiver_b3 (q : Int32 → hS → Prop) : Nat → hS → (Nat) → (Nat) → (Int32) → (Int32) → (Int32) → Prop
  | 0, _, _, _, _, _, _ => False
  | n + 1, S, v0, v1, v2, v3, v4 => gI S v1 8 4 (fun x6 => (x6 ≤ v4 → q v3 S) ∧ (¬ x6 ≤ v4 → (v4 = v3 → w_X4_firstBestGiver_b39 q (fun S v0 v1 v2 v3 v4 => w_X4_firstBestGiver_b3 q n S v0 v1 v2 v3 v4) S v0 v1 v2 v3 v4) ∧ (¬ v4 = v3 → oK S v0 4 ∧ w_X4_mostIfGives (fun x24 S => gP S v0 4 5 (fun x28 => aI S x28 v2 (fun x32 => (¬ x24 = x32 → w_X4_firstBestGiver_b39 q (fun S v0 v1 v2 v3 v4 => w_X4_firstBestGiver_b3 q n S v0 v1 v2 v3 v4) S v0 v1 v2 v3 v4) ∧ (x24 = x32 → q v4 S)))) S v0 v1 v2 v3 v4)))
set_option maxRecDepth 100000 in
set_option maxHeartbeats 4000000 in
theorem t_X4_firstBestGiver_b3 (hC : zC p R s m args c cX4_firstBestGiver 5 RX4 G B mc ms 5 150) (hr : meth.sig.returnType = (Option.some FieldType.int)) (hlk : meth.locks = false) (hnm : meth.name = "firstBestGiver") {q : Int32 → hS → Prop} (n : Nat) : ∀ {S : hS} {v0 : Nat} {v1 : Nat} {v2 : Int32} {v3 : Int32} {v4 : Int32} (hw : w_X4_firstBestGiver_b3 q n S v0 v1 v2 v3 v4), Z p l e R s m args below meth c (MQ below (hQ G B (iP q)) args s mc ms (fun r => B ≤ r)) G B mc ms 5 S 0 0 3 [some (.ref v0), some (.ref v1), some (.int v2), some (.int v3), some (.int v4)] [] := by
  induction n with
  | zero => intro S v0 v1 v2 v3 v4 hw; exact (by rw [w_X4_firstBestGiver_b3] at hw; exact hw.elim)
  | succ n ih =>
    intro S v0 v1 v2 v3 v4 hw
    rw [w_X4_firstBestGiver_b3] at hw
    refine z_iload hC dX4_firstBestGiver_3 rfl ?_
    refine z_aload_n hC dX4_firstBestGiver_5 rfl rfl ?_
    refine z_getI hC FX8 4 lk_217 dX4_firstBestGiver_6 (by decide) hw (fun x6 hw => ?_)
    refine z_icmp_ge (tgt := 45) hC dX4_firstBestGiver_9 (by decide) (fun c9 => ?_) (fun c9 => ?_)
    · have hw := hw.1 c9
      refine z_iload_n hC dX4_firstBestGiver_45 rfl rfl ?_
      exact z_iret hC hr hlk dX4_firstBestGiver_46 ⟨_, rfl, hw⟩
    · have hw := hw.2 c9
      refine z_iload hC dX4_firstBestGiver_12 rfl ?_
      refine z_iload_n hC dX4_firstBestGiver_14 rfl rfl ?_
      refine z_icmp_eq (tgt := 39) hC dX4_firstBestGiver_15 (by decide) (fun c15 => ?_) (fun c15 => ?_)
      · have hw := hw.1 c15
        refine z_mask (lv' := [some (.ref v0), some (.ref v1), some (.int v2), some (.int v3), some (.int v4)]) [true, true, true, true, true] rfl ?_
        exact t_X4_firstBestGiver_b39 hC hr hlk hnm (fun hw => ih hw) hw
      · have hw := hw.2 c15
        refine z_aload_n hC dX4_firstBestGiver_18 rfl rfl ?_
        refine z_aload_n hC dX4_firstBestGiver_19 rfl rfl ?_
        refine z_iload_n hC dX4_firstBestGiver_20 rfl rfl ?_
        refine z_iload_n hC dX4_firstBestGiver_21 rfl rfl ?_
        refine z_iload hC dX4_firstBestGiver_22 rfl ?_
        refine z_callV (ku' := 0) (kv' := 0) (n := 4) (As := [.ref v1, .int v2, .int v3, .int v4]) (st := []) hC (c_X4_mostIfGives l G B S v0 v1 v2 v3 v4 _) hw.2 hw.1 rfl lk_1168 lk_1170 lk_31 lk_131 lk_1171 hd_X4_mostIfGives rfl rfl (Nat.le_of_ble_eq_true rfl) (Nat.le_of_ble_eq_true rfl) rfl (Nat.le_of_ble_eq_true rfl) dX4_firstBestGiver_24 (Nat.le_refl 0) (Nat.le_refl 0) (kI (fun x24 S hw => ?_))
        refine z_aload_n hC dX4_firstBestGiver_27 rfl rfl ?_
        refine z_getP hC FX4 5 lk_456 dX4_firstBestGiver_28 (by decide) hw (fun x28 hw => ?_)
        refine z_iload_n hC dX4_firstBestGiver_31 rfl rfl ?_
        refine z_aldI hC dX4_firstBestGiver_32 hw (fun x32 hw => ?_)
        refine z_icmp_ne (tgt := 39) hC dX4_firstBestGiver_33 (by decide) (fun c33 => ?_) (fun c33 => ?_)
        · have hw := hw.1 c33
          refine z_mask (lv' := [some (.ref v0), some (.ref v1), some (.int v2), some (.int v3), some (.int v4)]) [true, true, true, true, true] rfl ?_
          exact t_X4_firstBestGiver_b39 hC hr hlk hnm (fun hw => ih hw) hw
        · have hw := hw.2 c33
          refine z_iload hC dX4_firstBestGiver_36 rfl ?_
          exact z_iret hC hr hlk dX4_firstBestGiver_38 ⟨_, rfl, hw⟩
def w_X4_firstBestGiver (q : Int32 → hS → Prop) (S : hS) (v0 : Nat) (v1 : Nat) (v2 : Int32) (v3 : Int32) : Prop := (∃ n3 : Nat, w_X4_firstBestGiver_b3 q n3 S v0 v1 v2 v3 0)
set_option maxRecDepth 100000 in
set_option maxHeartbeats 4000000 in
theorem c_X4_firstBestGiver (l : Launch) (G : hG) (B : Nat) (S : hS) (v0 : Nat) (v1 : Nat) (v2 : Int32) (v3 : Int32) (q : Int32 → hS → Prop) : Met l yX4_firstBestGiver (hws yX4_firstBestGiver cX4_firstBestGiver 5 (Option.some FieldType.int)) ({ frames := 5, cells := 0, slots := 0, locals := 150 }) (hPc G B S [.ref v0, .ref v1, .int v2, .int v3] (w_X4_firstBestGiver q S v0 v1 v2 v3)) (hQ G B (iP q)) (0) (0) (fun r => B ≤ r) := by
  refine hMet (rm := { frames := 5, cells := 0, slots := 0, locals := 150 }) (lv := [some (.ref v0), some (.ref v1), some (.int v2), some (.int v3), none]) (own := RX4) (fr := 5) (lo := 150) (by decide) rfl rfl rfl (Nat.le_of_ble_eq_true rfl) rfl (fun hw p e R s m args below meth c hC hr hlk hnm => ?_)
  unfold w_X4_firstBestGiver at hw
  refine z_iconst hC ic_0 dX4_firstBestGiver_0 ?_
  refine z_istore (i := 4) (lv' := [some (.ref v0), some (.ref v1), some (.int v2), some (.int v3), some (.int 0)]) hC dX4_firstBestGiver_1 (by decide) (hok_v rfl rfl) rfl ?_
  refine z_mask (lv' := [some (.ref v0), some (.ref v1), some (.int v2), some (.int v3), some (.int 0)]) [true, true, true, true, true] rfl ?_
  obtain ⟨n3, hw⟩ := hw
  exact t_X4_firstBestGiver_b3 hC hr hlk hnm n3 hw
end
section
variable {p : Program} {l : Launch} {e : Env} {R : Room} {s : State} {m : MethodId} {args : Array Value} {below : List Frame} {meth : Method} {c : Code} {G : hG} {B mc ms : Nat}
def w_X4_findExchange_b41 (q : Int32 → hS → Prop) (K23 : hS → (Nat) → (Nat) → (Int32) → (Int32) → Prop) : Nat → hS → (Nat) → (Nat) → (Int32) → (Int32) → (Int32) → (Int32) → (Int32) → Prop
  | 0, _, _, _, _, _, _, _, _ => False
  | n + 1, S, v0, v1, v2, v4, v5, v6, v7 => (v2 ≤ v7 → gP S v0 4 5 (fun x72 => sI S x72 v4 v6 (fun S => ∀ y80 : Int32, y80 = v4 + (-1) → K23 S v0 v1 v2 y80))) ∧ (¬ v2 ≤ v7 → oK S v0 4 ∧ w_X4_mostIfGives (fun x57 S => ∀ y63 : Int32, y63 = (if v6 < x57 then x57 else v6) → ∀ y65 : Int32, y65 = v7 + 1 → w_X4_findExchange_b41 q K23 n S v0 v1 v2 v4 v5 y63 y65) S v0 v1 v4 v5 v7)
set_option maxRecDepth 100000 in
set_option maxHeartbeats 4000000 in
theorem t_X4_findExchange_b41 (hC : zC p R s m args c cX4_findExchange 8 RX4 G B mc ms 6 174) (hr : meth.sig.returnType = (Option.some FieldType.int)) (hlk : meth.locks = false) (hnm : meth.name = "findExchange") {q : Int32 → hS → Prop} {K23 : hS → (Nat) → (Nat) → (Int32) → (Int32) → Prop} (hK23 : ∀ {S : hS} {v0 : Nat} {v1 : Nat} {v2 : Int32} {v4 : Int32}, K23 S v0 v1 v2 v4 → Z p l e R s m args below meth c (MQ below (hQ G B (iP q)) args s mc ms (fun r => B ≤ r)) G B mc ms 8 S 0 0 23 [some (.ref v0), some (.ref v1), some (.int v2), none, some (.int v4), none, none, none] []) (n : Nat) : ∀ {S : hS} {v0 : Nat} {v1 : Nat} {v2 : Int32} {v4 : Int32} {v5 : Int32} {v6 : Int32} {v7 : Int32} (hw : w_X4_findExchange_b41 q K23 n S v0 v1 v2 v4 v5 v6 v7), Z p l e R s m args below meth c (MQ below (hQ G B (iP q)) args s mc ms (fun r => B ≤ r)) G B mc ms 8 S 0 0 41 [some (.ref v0), some (.ref v1), some (.int v2), none, some (.int v4), some (.int v5), some (.int v6), some (.int v7)] [] := by
  induction n with
  | zero => intro S v0 v1 v2 v4 v5 v6 v7 hw; exact (by rw [w_X4_findExchange_b41] at hw; exact hw.elim)
  | succ n ih =>
    intro S v0 v1 v2 v4 v5 v6 v7 hw
    rw [w_X4_findExchange_b41] at hw
    refine z_iload hC dX4_findExchange_41 rfl ?_
    refine z_iload_n hC dX4_findExchange_43 rfl rfl ?_
    refine z_icmp_ge (tgt := 71) hC dX4_findExchange_44 (by decide) (fun c44 => ?_) (fun c44 => ?_)
    · have hw := hw.1 c44
      refine z_aload_n hC dX4_findExchange_71 rfl rfl ?_
      refine z_getP hC FX4 5 lk_456 dX4_findExchange_72 (by decide) hw (fun x72 hw => ?_)
      refine z_iload hC dX4_findExchange_75 rfl ?_
      refine z_iload hC dX4_findExchange_77 rfl ?_
      refine z_astI hC dX4_findExchange_79 hw (fun S hw => ?_)
      refine z_inc (i := 4) hC ic_m1 dX4_findExchange_80 rfl (by decide) (hok_n rfl) (fun y80 e80 => ?_)
      have hw := hw y80 e80
      refine z_goto (tgt := 23) hC dX4_findExchange_83 (by decide) ?_
      refine z_mask (lv' := [some (.ref v0), some (.ref v1), some (.int v2), none, some (.int y80), none, none, none]) [true, true, true, false, true, false, false, false] rfl ?_
      exact hK23 hw
    · have hw := hw.2 c44
      refine z_iload hC dX4_findExchange_47 rfl ?_
      refine z_aload_n hC dX4_findExchange_49 rfl rfl ?_
      refine z_aload_n hC dX4_findExchange_50 rfl rfl ?_
      refine z_iload hC dX4_findExchange_51 rfl ?_
      refine z_iload hC dX4_findExchange_53 rfl ?_
      refine z_iload hC dX4_findExchange_55 rfl ?_
      refine z_callV (ku' := 0) (kv' := 0) (n := 4) (As := [.ref v1, .int v4, .int v5, .int v7]) (st := [.int v6]) hC (c_X4_mostIfGives l G B S v0 v1 v4 v5 v7 _) hw.2 hw.1 rfl lk_1168 lk_1170 lk_31 lk_131 lk_1171 hd_X4_mostIfGives rfl rfl (Nat.le_of_ble_eq_true rfl) (Nat.le_of_ble_eq_true rfl) rfl (Nat.le_of_ble_eq_true rfl) dX4_findExchange_57 (Nat.le_refl 0) (Nat.le_refl 0) (kI (fun x57 S hw => ?_))
      refine z_mmax hC lk_1176 lk_645 lk_134 lk_646 dX4_findExchange_60 (by decide) (Nat.le_of_ble_eq_true rfl) ?_
      refine z_nmI (fun y63 e63 => ?_)
      have hw := hw y63 e63
      refine z_istore (i := 6) (lv' := [some (.ref v0), some (.ref v1), some (.int v2), none, some (.int v4), some (.int v5), some (.int y63), some (.int v7)]) hC dX4_findExchange_63 (by decide) (hok_v rfl rfl) rfl ?_
      refine z_inc (i := 7) hC ic_1 dX4_findExchange_65 rfl (by decide) (hok_v rfl rfl) (fun y65 e65 => ?_)
      have hw := hw y65 e65
      refine z_goto (tgt := 41) hC dX4_findExchange_68 (by decide) ?_
      refine z_mask (lv' := [some (.ref v0), some (.ref v1), some (.int v2), none, some (.int v4), some (.int v5), some (.int y63), some (.int y65)]) [true, true, true, false, true, true, true, true] rfl ?_
      exact ih hw
def w_X4_findExchange_b129 (q : Int32 → hS → Prop) (K92 : hS → (Nat) → (Nat) → (Int32) → (Int32) → (Int32) → Prop) (S : hS) (v0 : Nat) (v1 : Nat) (v2 : Int32) (v4 : Int32) (v5 : Int32) (v6 : Int32) (t0 : Int32) (t1 : Int32) (t2 : Nat) : Prop := sI S t2 t1 t0 (fun S => ∀ y137 : Int32, y137 = (v4 ||| (1 <<< (v6 &&& 31))) → ∀ y139 : Int32, y139 = v5 + 1 → K92 S v0 v1 v2 y137 y139)
set_option maxRecDepth 100000 in
set_option maxHeartbeats 4000000 in
theorem t_X4_findExchange_b129 (hC : zC p R s m args c cX4_findExchange 8 RX4 G B mc ms 6 174) (hr : meth.sig.returnType = (Option.some FieldType.int)) (hlk : meth.locks = false) (hnm : meth.name = "findExchange") {q : Int32 → hS → Prop} {K92 : hS → (Nat) → (Nat) → (Int32) → (Int32) → (Int32) → Prop} (hK92 : ∀ {S : hS} {v0 : Nat} {v1 : Nat} {v2 : Int32} {v4 : Int32} {v5 : Int32}, K92 S v0 v1 v2 v4 v5 → Z p l e R s m args below meth c (MQ below (hQ G B (iP q)) args s mc ms (fun r => B ≤ r)) G B mc ms 8 S 0 0 92 [some (.ref v0), some (.ref v1), some (.int v2), none, some (.int v4), some (.int v5), none, none] []) {S : hS} {v0 : Nat} {v1 : Nat} {v2 : Int32} {v4 : Int32} {v5 : Int32} {v6 : Int32} {t0 : Int32} {t1 : Int32} {t2 : Nat} (hw : w_X4_findExchange_b129 q K92 S v0 v1 v2 v4 v5 v6 t0 t1 t2) : Z p l e R s m args below meth c (MQ below (hQ G B (iP q)) args s mc ms (fun r => B ≤ r)) G B mc ms 8 S 0 0 129 [some (.ref v0), some (.ref v1), some (.int v2), none, some (.int v4), some (.int v5), some (.int v6), none] [.int t0, .int t1, .ref t2] := by
  unfold w_X4_findExchange_b129 at hw
  refine z_astI hC dX4_findExchange_129 hw (fun S hw => ?_)
  refine z_iload hC dX4_findExchange_130 rfl ?_
  refine z_iconst hC ic_1 dX4_findExchange_132 ?_
  refine z_iload hC dX4_findExchange_133 rfl ?_
  refine z_ishl hC dX4_findExchange_135 ?_
  refine z_ior hC dX4_findExchange_136 ?_
  refine z_nmI (fun y137 e137 => ?_)
  have hw := hw y137 e137
  refine z_istore (i := 4) (lv' := [some (.ref v0), some (.ref v1), some (.int v2), none, some (.int y137), some (.int v5), some (.int v6), none]) hC dX4_findExchange_137 (by decide) (hok_n rfl) rfl ?_
  refine z_inc (i := 5) hC ic_1 dX4_findExchange_139 rfl (by decide) (hok_v rfl rfl) (fun y139 e139 => ?_)
  have hw := hw y139 e139
  refine z_goto (tgt := 92) hC dX4_findExchange_142 (by decide) ?_
  refine z_mask (lv' := [some (.ref v0), some (.ref v1), some (.int v2), none, some (.int y137), some (.int y139), none, none]) [true, true, true, false, true, true, false, false] rfl ?_
  exact hK92 hw
def w_X4_findExchange_b92 (q : Int32 → hS → Prop) : Nat → hS → (Nat) → (Nat) → (Int32) → (Int32) → (Int32) → Prop
  | 0, _, _, _, _, _, _ => False
  | n + 1, S, v0, v1, v2, v4, v5 => (v2 ≤ v5 → gP S v0 4 5 (fun x146 => aI S x146 0 (fun x150 => q x150 S))) ∧ (¬ v2 ≤ v5 → oK S v0 4 ∧ w_X4_firstBestGiver (fun x104 S => gP S v0 4 6 (fun x110 => (¬ x104 = v5 → w_X4_findExchange_b129 q (fun S v0 v1 v2 v4 v5 => w_X4_findExchange_b92 q n S v0 v1 v2 v4 v5) S v0 v1 v2 v4 v5 x104 x104 v5 x110) ∧ (x104 = v5 → w_X4_findExchange_b129 q (fun S v0 v1 v2 v4 v5 => w_X4_findExchange_b92 q n S v0 v1 v2 v4 v5) S v0 v1 v2 v4 v5 x104 100 v5 x110))) S v0 v1 v4 v5)
set_option maxRecDepth 100000 in
set_option maxHeartbeats 4000000 in
theorem t_X4_findExchange_b92 (hC : zC p R s m args c cX4_findExchange 8 RX4 G B mc ms 6 174) (hr : meth.sig.returnType = (Option.some FieldType.int)) (hlk : meth.locks = false) (hnm : meth.name = "findExchange") {q : Int32 → hS → Prop} (n : Nat) : ∀ {S : hS} {v0 : Nat} {v1 : Nat} {v2 : Int32} {v4 : Int32} {v5 : Int32} (hw : w_X4_findExchange_b92 q n S v0 v1 v2 v4 v5), Z p l e R s m args below meth c (MQ below (hQ G B (iP q)) args s mc ms (fun r => B ≤ r)) G B mc ms 8 S 0 0 92 [some (.ref v0), some (.ref v1), some (.int v2), none, some (.int v4), some (.int v5), none, none] [] := by
  induction n with
  | zero => intro S v0 v1 v2 v4 v5 hw; exact (by rw [w_X4_findExchange_b92] at hw; exact hw.elim)
  | succ n ih =>
    intro S v0 v1 v2 v4 v5 hw
    rw [w_X4_findExchange_b92] at hw
    refine z_iload hC dX4_findExchange_92 rfl ?_
    refine z_iload_n hC dX4_findExchange_94 rfl rfl ?_
    refine z_icmp_ge (tgt := 145) hC dX4_findExchange_95 (by decide) (fun c95 => ?_) (fun c95 => ?_)
    · have hw := hw.1 c95
      refine z_aload_n hC dX4_findExchange_145 rfl rfl ?_
      refine z_getP hC FX4 5 lk_456 dX4_findExchange_146 (by decide) hw (fun x146 hw => ?_)
      refine z_iconst hC ic_0 dX4_findExchange_149 ?_
      refine z_aldI hC dX4_findExchange_150 hw (fun x150 hw => ?_)
      exact z_iret hC hr hlk dX4_findExchange_151 ⟨_, rfl, hw⟩
    · have hw := hw.2 c95
      refine z_aload_n hC dX4_findExchange_98 rfl rfl ?_
      refine z_aload_n hC dX4_findExchange_99 rfl rfl ?_
      refine z_iload hC dX4_findExchange_100 rfl ?_
      refine z_iload hC dX4_findExchange_102 rfl ?_
      refine z_callV (ku' := 0) (kv' := 0) (n := 3) (As := [.ref v1, .int v4, .int v5]) (st := []) hC (c_X4_firstBestGiver l G B S v0 v1 v4 v5 _) hw.2 hw.1 rfl lk_1177 lk_1179 lk_32 lk_131 lk_1180 hd_X4_firstBestGiver rfl rfl (Nat.le_of_ble_eq_true rfl) (Nat.le_of_ble_eq_true rfl) rfl (Nat.le_of_ble_eq_true rfl) dX4_findExchange_104 (Nat.le_refl 0) (Nat.le_refl 0) (kI (fun x104 S hw => ?_))
      refine z_istore (i := 6) (lv' := [some (.ref v0), some (.ref v1), some (.int v2), none, some (.int v4), some (.int v5), some (.int x104), none]) hC dX4_findExchange_107 (by decide) (hok_v rfl rfl) rfl ?_
      refine z_aload_n hC dX4_findExchange_109 rfl rfl ?_
      refine z_getP hC FX4 6 lk_457 dX4_findExchange_110 (by decide) hw (fun x110 hw => ?_)
      refine z_iload hC dX4_findExchange_113 rfl ?_
      refine z_iload hC dX4_findExchange_115 rfl ?_
      refine z_iload hC dX4_findExchange_117 rfl ?_
      refine z_icmp_ne (tgt := 127) hC dX4_findExchange_119 (by decide) (fun c119 => ?_) (fun c119 => ?_)
      · have hw := hw.1 c119
        refine z_iload hC dX4_findExchange_127 rfl ?_
        refine z_mask (lv' := [some (.ref v0), some (.ref v1), some (.int v2), none, some (.int v4), some (.int v5), some (.int x104), none]) [true, true, true, false, true, true, true, false] rfl ?_
        exact t_X4_findExchange_b129 hC hr hlk hnm (fun hw => ih hw) hw
      · have hw := hw.2 c119
        refine z_bipush hC bi_100 dX4_findExchange_122 ?_
        refine z_goto (tgt := 129) hC dX4_findExchange_124 (by decide) ?_
        refine z_mask (lv' := [some (.ref v0), some (.ref v1), some (.int v2), none, some (.int v4), some (.int v5), some (.int x104), none]) [true, true, true, false, true, true, true, false] rfl ?_
        exact t_X4_findExchange_b129 hC hr hlk hnm (fun hw => ih hw) hw
def w_X4_findExchange_b23 (q : Int32 → hS → Prop) : Nat → hS → (Nat) → (Nat) → (Int32) → (Int32) → Prop
  | 0, _, _, _, _, _ => False
  | n + 1, S, v0, v1, v2, v4 => (v4 < 0 → (∃ n92 : Nat, w_X4_findExchange_b92 q n92 S v0 v1 v2 0 0)) ∧ (¬ v4 < 0 → w_J6_bitCount_0f7a4 (fun x30 S => (∃ n41 : Nat, w_X4_findExchange_b41 q (fun S v0 v1 v2 v4 => w_X4_findExchange_b23 q n S v0 v1 v2 v4) n41 S v0 v1 v2 v4 x30 (-1) 0)) S v4)
set_option maxRecDepth 100000 in
set_option maxHeartbeats 4000000 in
theorem t_X4_findExchange_b23 (hC : zC p R s m args c cX4_findExchange 8 RX4 G B mc ms 6 174) (hr : meth.sig.returnType = (Option.some FieldType.int)) (hlk : meth.locks = false) (hnm : meth.name = "findExchange") {q : Int32 → hS → Prop} (n : Nat) : ∀ {S : hS} {v0 : Nat} {v1 : Nat} {v2 : Int32} {v4 : Int32} (hw : w_X4_findExchange_b23 q n S v0 v1 v2 v4), Z p l e R s m args below meth c (MQ below (hQ G B (iP q)) args s mc ms (fun r => B ≤ r)) G B mc ms 8 S 0 0 23 [some (.ref v0), some (.ref v1), some (.int v2), none, some (.int v4), none, none, none] [] := by
  induction n with
  | zero => intro S v0 v1 v2 v4 hw; exact (by rw [w_X4_findExchange_b23] at hw; exact hw.elim)
  | succ n ih =>
    intro S v0 v1 v2 v4 hw
    rw [w_X4_findExchange_b23] at hw
    refine z_iload hC dX4_findExchange_23 rfl ?_
    refine z_if_lt (tgt := 86) hC dX4_findExchange_25 (by decide) (fun c25 => ?_) (fun c25 => ?_)
    · have hw := hw.1 c25
      refine z_iconst hC ic_0 dX4_findExchange_86 ?_
      refine z_istore (i := 4) (lv' := [some (.ref v0), some (.ref v1), some (.int v2), none, some (.int 0), none, none, none]) hC dX4_findExchange_87 (by decide) (hok_n rfl) rfl ?_
      refine z_iconst hC ic_0 dX4_findExchange_89 ?_
      refine z_istore (i := 5) (lv' := [some (.ref v0), some (.ref v1), some (.int v2), none, some (.int 0), some (.int 0), none, none]) hC dX4_findExchange_90 (by decide) (hok_v rfl rfl) rfl ?_
      refine z_mask (lv' := [some (.ref v0), some (.ref v1), some (.int v2), none, some (.int 0), some (.int 0), none, none]) [true, true, true, false, true, true, false, false] rfl ?_
      obtain ⟨n92, hw⟩ := hw
      exact t_X4_findExchange_b92 hC hr hlk hnm n92 hw
    · have hw := hw.2 c25
      refine z_iload hC dX4_findExchange_28 rfl ?_
      refine z_callSO (ku' := 0) (kv' := 0) (n := 1) (As := [.int v4]) (st := []) hC (c_J6_bitCount_0f7a4 l G B S v4 _) hw lk_1162 lk_1163 lk_140 lk_1164 hd_J6_bitCount_0f7a4.2 rfl rfl (Nat.le_of_ble_eq_true rfl) (Nat.le_of_ble_eq_true rfl) rfl (Nat.le_of_ble_eq_true rfl) dX4_findExchange_30 (Nat.le_refl 0) (Nat.le_refl 0) (kI (fun x30 S hw => ?_))
      refine z_istore (i := 5) (lv' := [some (.ref v0), some (.ref v1), some (.int v2), none, some (.int v4), some (.int x30), none, none]) hC dX4_findExchange_33 (by decide) (hok_v rfl rfl) rfl ?_
      refine z_iconst hC ic_m1 dX4_findExchange_35 ?_
      refine z_istore (i := 6) (lv' := [some (.ref v0), some (.ref v1), some (.int v2), none, some (.int v4), some (.int x30), some (.int (-1)), none]) hC dX4_findExchange_36 (by decide) (hok_v rfl rfl) rfl ?_
      refine z_iconst hC ic_0 dX4_findExchange_38 ?_
      refine z_istore (i := 7) (lv' := [some (.ref v0), some (.ref v1), some (.int v2), none, some (.int v4), some (.int x30), some (.int (-1)), some (.int 0)]) hC dX4_findExchange_39 (by decide) (hok_v rfl rfl) rfl ?_
      refine z_mask (lv' := [some (.ref v0), some (.ref v1), some (.int v2), none, some (.int v4), some (.int x30), some (.int (-1)), some (.int 0)]) [true, true, true, false, true, true, true, true] rfl ?_
      obtain ⟨n41, hw⟩ := hw
      exact t_X4_findExchange_b41 hC hr hlk hnm (fun hw => ih hw) n41 hw
def w_X4_findExchange (q : Int32 → hS → Prop) (S : hS) (v0 : Nat) (v1 : Nat) : Prop := gI S v1 8 4 (fun x1 => ∀ y10 : Int32, y10 = ((1 <<< (x1 &&& 31)) - 1) → gP S v0 4 5 (fun x12 => sI S x12 y10 0 (fun S => ∀ y21 : Int32, y21 = (y10 - 1) → (∃ n23 : Nat, w_X4_findExchange_b23 q n23 S v0 v1 x1 y21))))
set_option maxRecDepth 100000 in
set_option maxHeartbeats 4000000 in
theorem c_X4_findExchange (l : Launch) (G : hG) (B : Nat) (S : hS) (v0 : Nat) (v1 : Nat) (q : Int32 → hS → Prop) : Met l yX4_findExchange (hws yX4_findExchange cX4_findExchange 8 (Option.some FieldType.int)) ({ frames := 6, cells := 0, slots := 0, locals := 174 }) (hPc G B S [.ref v0, .ref v1] (w_X4_findExchange q S v0 v1)) (hQ G B (iP q)) (0) (0) (fun r => B ≤ r) := by
  refine hMet (rm := { frames := 6, cells := 0, slots := 0, locals := 174 }) (lv := [some (.ref v0), some (.ref v1), none, none, none, none, none, none]) (own := RX4) (fr := 6) (lo := 174) (by decide) rfl rfl rfl (Nat.le_of_ble_eq_true rfl) rfl (fun hw p e R s m args below meth c hC hr hlk hnm => ?_)
  unfold w_X4_findExchange at hw
  refine z_aload_n hC dX4_findExchange_0 rfl rfl ?_
  refine z_getI hC FX8 4 lk_217 dX4_findExchange_1 (by decide) hw (fun x1 hw => ?_)
  refine z_istore_n (i := 2) (lv' := [some (.ref v0), some (.ref v1), some (.int x1), none, none, none, none, none]) hC rfl dX4_findExchange_4 (by decide) (hok_v rfl rfl) rfl ?_
  refine z_iconst hC ic_1 dX4_findExchange_5 ?_
  refine z_iload_n hC dX4_findExchange_6 rfl rfl ?_
  refine z_ishl hC dX4_findExchange_7 ?_
  refine z_iconst hC ic_1 dX4_findExchange_8 ?_
  refine z_isub hC dX4_findExchange_9 ?_
  refine z_nmI (fun y10 e10 => ?_)
  have hw := hw y10 e10
  refine z_istore_n (i := 3) (lv' := [some (.ref v0), some (.ref v1), some (.int x1), some (.int y10), none, none, none, none]) hC rfl dX4_findExchange_10 (by decide) (hok_v rfl rfl) rfl ?_
  refine z_aload_n hC dX4_findExchange_11 rfl rfl ?_
  refine z_getP hC FX4 5 lk_456 dX4_findExchange_12 (by decide) hw (fun x12 hw => ?_)
  refine z_iload_n hC dX4_findExchange_15 rfl rfl ?_
  refine z_iconst hC ic_0 dX4_findExchange_16 ?_
  refine z_astI hC dX4_findExchange_17 hw (fun S hw => ?_)
  refine z_iload_n hC dX4_findExchange_18 rfl rfl ?_
  refine z_iconst hC ic_1 dX4_findExchange_19 ?_
  refine z_isub hC dX4_findExchange_20 ?_
  refine z_nmI (fun y21 e21 => ?_)
  have hw := hw y21 e21
  refine z_istore (i := 4) (lv' := [some (.ref v0), some (.ref v1), some (.int x1), some (.int y10), some (.int y21), none, none, none]) hC dX4_findExchange_21 (by decide) (hok_v rfl rfl) rfl ?_
  refine z_mask (lv' := [some (.ref v0), some (.ref v1), some (.int x1), none, some (.int y21), none, none, none]) [true, true, true, false, true, false, false, false] rfl ?_
  obtain ⟨n23, hw⟩ := hw
  exact t_X4_findExchange_b23 hC hr hlk hnm n23 hw
end
section
variable {p : Program} {l : Launch} {e : Env} {R : Room} {s : State} {m : MethodId} {args : Array Value} {below : List Frame} {meth : Method} {c : Code} {G : hG} {B mc ms : Nat}
def w_X4_toGoBy_b28 (q : Int32 → hS → Prop) (S : hS) : Prop := q 1000000 S
set_option maxRecDepth 100000 in
set_option maxHeartbeats 4000000 in
theorem t_X4_toGoBy_b28 (hC : zC p R s m args c cX4_toGoBy 4 RX4 G B mc ms 1 60) (hr : meth.sig.returnType = (Option.some FieldType.int)) (hlk : meth.locks = false) (hnm : meth.name = "toGoBy") {q : Int32 → hS → Prop} {S : hS} (hw : w_X4_toGoBy_b28 q S ) : Z p l e R s m args below meth c (MQ below (hQ G B (iP q)) args s mc ms (fun r => B ≤ r)) G B mc ms 4 S 0 0 28 [none, none, none, none] [] := by
  unfold w_X4_toGoBy_b28 at hw
  refine z_ldc hC lk_1269 dX4_toGoBy_28 ?_
  refine z_goto (tgt := 46) hC dX4_toGoBy_30 (by decide) ?_
  exact z_iret hC hr hlk dX4_toGoBy_46 ⟨_, rfl, hw⟩
def w_X4_toGoBy (q : Int32 → hS → Prop) (S : hS) (v0 : Nat) (v1 : Int32) (v2 : Int32) : Prop := gP S v0 4 7 (fun x1 => aI S x1 ((v1 * 8) + v2) (fun x10 => (x10 = (-1) → w_X4_toGoBy_b28 q S) ∧ (¬ x10 = (-1) → gP S v0 4 8 (fun x18 => aI S x18 v2 (fun x22 => (x22 < 1000000 → gP S v0 4 8 (fun x40 => aI S x40 v2 (fun x44 => q (((x10 * 16) + 1) + x44) S))) ∧ (¬ x22 < 1000000 → w_X4_toGoBy_b28 q S))))))
set_option maxRecDepth 100000 in
set_option maxHeartbeats 4000000 in
theorem c_X4_toGoBy (l : Launch) (G : hG) (B : Nat) (S : hS) (v0 : Nat) (v1 : Int32) (v2 : Int32) (q : Int32 → hS → Prop) : Met l yX4_toGoBy (hws yX4_toGoBy cX4_toGoBy 4 (Option.some FieldType.int)) ({ frames := 1, cells := 0, slots := 0, locals := 60 }) (hPc G B S [.ref v0, .int v1, .int v2] (w_X4_toGoBy q S v0 v1 v2)) (hQ G B (iP q)) (0) (0) (fun r => B ≤ r) := by
  refine hMet (rm := { frames := 1, cells := 0, slots := 0, locals := 60 }) (lv := [some (.ref v0), some (.int v1), some (.int v2), none]) (own := RX4) (fr := 1) (lo := 60) (by decide) rfl rfl rfl (Nat.le_of_ble_eq_true rfl) rfl (fun hw p e R s m args below meth c hC hr hlk hnm => ?_)
  unfold w_X4_toGoBy at hw
  refine z_aload_n hC dX4_toGoBy_0 rfl rfl ?_
  refine z_getP hC FX4 7 lk_459 dX4_toGoBy_1 (by decide) hw (fun x1 hw => ?_)
  refine z_iload_n hC dX4_toGoBy_4 rfl rfl ?_
  refine z_bipush hC bi_8 dX4_toGoBy_5 ?_
  refine z_imul hC dX4_toGoBy_7 ?_
  refine z_iload_n hC dX4_toGoBy_8 rfl rfl ?_
  refine z_iadd hC dX4_toGoBy_9 ?_
  refine z_aldI hC dX4_toGoBy_10 hw (fun x10 hw => ?_)
  refine z_istore_n (i := 3) (lv' := [some (.ref v0), some (.int v1), some (.int v2), some (.int x10)]) hC rfl dX4_toGoBy_11 (by decide) (hok_v rfl rfl) rfl ?_
  refine z_iload_n hC dX4_toGoBy_12 rfl rfl ?_
  refine z_iconst hC ic_m1 dX4_toGoBy_13 ?_
  refine z_icmp_eq (tgt := 28) hC dX4_toGoBy_14 (by decide) (fun c14 => ?_) (fun c14 => ?_)
  · have hw := hw.1 c14
    refine z_mask (lv' := [none, none, none, none]) [false, false, false, false] rfl ?_
    exact t_X4_toGoBy_b28 hC hr hlk hnm hw
  · have hw := hw.2 c14
    refine z_aload_n hC dX4_toGoBy_17 rfl rfl ?_
    refine z_getP hC FX4 8 lk_461 dX4_toGoBy_18 (by decide) hw (fun x18 hw => ?_)
    refine z_iload_n hC dX4_toGoBy_21 rfl rfl ?_
    refine z_aldI hC dX4_toGoBy_22 hw (fun x22 hw => ?_)
    refine z_ldc hC lk_1269 dX4_toGoBy_23 ?_
    refine z_icmp_lt (tgt := 33) hC dX4_toGoBy_25 (by decide) (fun c25 => ?_) (fun c25 => ?_)
    · have hw := hw.1 c25
      refine z_iload_n hC dX4_toGoBy_33 rfl rfl ?_
      refine z_bipush hC bi_16 dX4_toGoBy_34 ?_
      refine z_imul hC dX4_toGoBy_36 ?_
      refine z_iconst hC ic_1 dX4_toGoBy_37 ?_
      refine z_iadd hC dX4_toGoBy_38 ?_
      refine z_aload_n hC dX4_toGoBy_39 rfl rfl ?_
      refine z_getP hC FX4 8 lk_461 dX4_toGoBy_40 (by decide) hw (fun x40 hw => ?_)
      refine z_iload_n hC dX4_toGoBy_43 rfl rfl ?_
      refine z_aldI hC dX4_toGoBy_44 hw (fun x44 hw => ?_)
      refine z_iadd hC dX4_toGoBy_45 ?_
      exact z_iret hC hr hlk dX4_toGoBy_46 ⟨_, rfl, hw⟩
    · have hw := hw.2 c25
      refine z_mask (lv' := [none, none, none, none]) [false, false, false, false] rfl ?_
      exact t_X4_toGoBy_b28 hC hr hlk hnm hw
end
section
variable {p : Program} {l : Launch} {e : Env} {R : Room} {s : State} {m : MethodId} {args : Array Value} {below : List Frame} {meth : Method} {c : Code} {G : hG} {B mc ms : Nat}
def w_X4_firstBestBuyer_b2 (q : Int32 → hS → Prop) : Nat → hS → (Nat) → (Int32) → (Int32) → (Int32) → Prop
  | 0, _, _, _, _, _ => False
  | n + 1, S, v0, v1, v2, v3 => (v2 ≤ v3 → q v1 S) ∧ (¬ v2 ≤ v3 → oK S v0 4 ∧ w_X4_toGoBy (fun x10 S => gP S v0 4 8 (fun x14 => aI S x14 v1 (fun x18 => (¬ x10 = x18 → ∀ y24 : Int32, y24 = v3 + 1 → w_X4_firstBestBuyer_b2 q n S v0 v1 v2 y24) ∧ (x10 = x18 → q v3 S)))) S v0 v1 v3)
set_option maxRecDepth 100000 in
set_option maxHeartbeats 4000000 in
theorem t_X4_firstBestBuyer_b2 (hC : zC p R s m args c cX4_firstBestBuyer 4 RX4 G B mc ms 2 83) (hr : meth.sig.returnType = (Option.some FieldType.int)) (hlk : meth.locks = false) (hnm : meth.name = "firstBestBuyer") {q : Int32 → hS → Prop} (n : Nat) : ∀ {S : hS} {v0 : Nat} {v1 : Int32} {v2 : Int32} {v3 : Int32} (hw : w_X4_firstBestBuyer_b2 q n S v0 v1 v2 v3), Z p l e R s m args below meth c (MQ below (hQ G B (iP q)) args s mc ms (fun r => B ≤ r)) G B mc ms 4 S 0 0 2 [some (.ref v0), some (.int v1), some (.int v2), some (.int v3)] [] := by
  induction n with
  | zero => intro S v0 v1 v2 v3 hw; exact (by rw [w_X4_firstBestBuyer_b2] at hw; exact hw.elim)
  | succ n ih =>
    intro S v0 v1 v2 v3 hw
    rw [w_X4_firstBestBuyer_b2] at hw
    refine z_iload_n hC dX4_firstBestBuyer_2 rfl rfl ?_
    refine z_iload_n hC dX4_firstBestBuyer_3 rfl rfl ?_
    refine z_icmp_ge (tgt := 30) hC dX4_firstBestBuyer_4 (by decide) (fun c4 => ?_) (fun c4 => ?_)
    · have hw := hw.1 c4
      refine z_iload_n hC dX4_firstBestBuyer_30 rfl rfl ?_
      exact z_iret hC hr hlk dX4_firstBestBuyer_31 ⟨_, rfl, hw⟩
    · have hw := hw.2 c4
      refine z_aload_n hC dX4_firstBestBuyer_7 rfl rfl ?_
      refine z_iload_n hC dX4_firstBestBuyer_8 rfl rfl ?_
      refine z_iload_n hC dX4_firstBestBuyer_9 rfl rfl ?_
      refine z_callV (ku' := 0) (kv' := 0) (n := 2) (As := [.int v1, .int v3]) (st := []) hC (c_X4_toGoBy l G B S v0 v1 v3 _) hw.2 hw.1 rfl lk_1270 lk_1272 lk_38 lk_131 lk_1273 hd_X4_toGoBy rfl rfl (Nat.le_of_ble_eq_true rfl) (Nat.le_of_ble_eq_true rfl) rfl (Nat.le_of_ble_eq_true rfl) dX4_firstBestBuyer_10 (Nat.le_refl 0) (Nat.le_refl 0) (kI (fun x10 S hw => ?_))
      refine z_aload_n hC dX4_firstBestBuyer_13 rfl rfl ?_
      refine z_getP hC FX4 8 lk_461 dX4_firstBestBuyer_14 (by decide) hw (fun x14 hw => ?_)
      refine z_iload_n hC dX4_firstBestBuyer_17 rfl rfl ?_
      refine z_aldI hC dX4_firstBestBuyer_18 hw (fun x18 hw => ?_)
      refine z_icmp_ne (tgt := 24) hC dX4_firstBestBuyer_19 (by decide) (fun c19 => ?_) (fun c19 => ?_)
      · have hw := hw.1 c19
        refine z_inc (i := 3) hC ic_1 dX4_firstBestBuyer_24 rfl (by decide) (hok_v rfl rfl) (fun y24 e24 => ?_)
        have hw := hw y24 e24
        refine z_goto (tgt := 2) hC dX4_firstBestBuyer_27 (by decide) ?_
        refine z_mask (lv' := [some (.ref v0), some (.int v1), some (.int v2), some (.int y24)]) [true, true, true, true] rfl ?_
        exact ih hw
      · have hw := hw.2 c19
        refine z_iload_n hC dX4_firstBestBuyer_22 rfl rfl ?_
        exact z_iret hC hr hlk dX4_firstBestBuyer_23 ⟨_, rfl, hw⟩
def w_X4_firstBestBuyer (q : Int32 → hS → Prop) (S : hS) (v0 : Nat) (v1 : Int32) (v2 : Int32) : Prop := (∃ n2 : Nat, w_X4_firstBestBuyer_b2 q n2 S v0 v1 v2 0)
set_option maxRecDepth 100000 in
set_option maxHeartbeats 4000000 in
theorem c_X4_firstBestBuyer (l : Launch) (G : hG) (B : Nat) (S : hS) (v0 : Nat) (v1 : Int32) (v2 : Int32) (q : Int32 → hS → Prop) : Met l yX4_firstBestBuyer (hws yX4_firstBestBuyer cX4_firstBestBuyer 4 (Option.some FieldType.int)) ({ frames := 2, cells := 0, slots := 0, locals := 83 }) (hPc G B S [.ref v0, .int v1, .int v2] (w_X4_firstBestBuyer q S v0 v1 v2)) (hQ G B (iP q)) (0) (0) (fun r => B ≤ r) := by
  refine hMet (rm := { frames := 2, cells := 0, slots := 0, locals := 83 }) (lv := [some (.ref v0), some (.int v1), some (.int v2), none]) (own := RX4) (fr := 2) (lo := 83) (by decide) rfl rfl rfl (Nat.le_of_ble_eq_true rfl) rfl (fun hw p e R s m args below meth c hC hr hlk hnm => ?_)
  unfold w_X4_firstBestBuyer at hw
  refine z_iconst hC ic_0 dX4_firstBestBuyer_0 ?_
  refine z_istore_n (i := 3) (lv' := [some (.ref v0), some (.int v1), some (.int v2), some (.int 0)]) hC rfl dX4_firstBestBuyer_1 (by decide) (hok_v rfl rfl) rfl ?_
  refine z_mask (lv' := [some (.ref v0), some (.int v1), some (.int v2), some (.int 0)]) [true, true, true, true] rfl ?_
  obtain ⟨n2, hw⟩ := hw
  exact t_X4_firstBestBuyer_b2 hC hr hlk hnm n2 hw
end
section
variable {p : Program} {l : Launch} {e : Env} {R : Room} {s : State} {m : MethodId} {args : Array Value} {below : List Frame} {meth : Method} {c : Code} {G : hG} {B mc ms : Nat}
def w_X4_findChain_b27 (q : Int32 → hS → Prop) (K3 : hS → (Nat) → (Int32) → (Int32) → (Int32) → (Int32) → Prop) (S : hS) (v0 : Nat) (v1 : Int32) (v2 : Int32) (v3 : Int32) (v4 : Int32) (t0 : Int32) (t1 : Int32) (t2 : Nat) : Prop := sI S t2 t1 t0 (fun S => ∀ y28 : Int32, y28 = v4 + 1 → K3 S v0 v1 v2 v3 y28)
set_option maxRecDepth 100000 in
set_option maxHeartbeats 4000000 in
theorem t_X4_findChain_b27 (hC : zC p R s m args c cX4_findChain 7 RX4 G B mc ms 3 106) (hr : meth.sig.returnType = (Option.some FieldType.int)) (hlk : meth.locks = false) (hnm : meth.name = "findChain") {q : Int32 → hS → Prop} {K3 : hS → (Nat) → (Int32) → (Int32) → (Int32) → (Int32) → Prop} (hK3 : ∀ {S : hS} {v0 : Nat} {v1 : Int32} {v2 : Int32} {v3 : Int32} {v4 : Int32}, K3 S v0 v1 v2 v3 v4 → Z p l e R s m args below meth c (MQ below (hQ G B (iP q)) args s mc ms (fun r => B ≤ r)) G B mc ms 7 S 0 0 3 [some (.ref v0), some (.int v1), some (.int v2), some (.int v3), some (.int v4), none, none] []) {S : hS} {v0 : Nat} {v1 : Int32} {v2 : Int32} {v3 : Int32} {v4 : Int32} {t0 : Int32} {t1 : Int32} {t2 : Nat} (hw : w_X4_findChain_b27 q K3 S v0 v1 v2 v3 v4 t0 t1 t2) : Z p l e R s m args below meth c (MQ below (hQ G B (iP q)) args s mc ms (fun r => B ≤ r)) G B mc ms 7 S 0 0 27 [some (.ref v0), some (.int v1), some (.int v2), some (.int v3), some (.int v4), none, none] [.int t0, .int t1, .ref t2] := by
  unfold w_X4_findChain_b27 at hw
  refine z_astI hC dX4_findChain_27 hw (fun S hw => ?_)
  refine z_inc (i := 4) hC ic_1 dX4_findChain_28 rfl (by decide) (hok_v rfl rfl) (fun y28 e28 => ?_)
  have hw := hw y28 e28
  refine z_goto (tgt := 3) hC dX4_findChain_31 (by decide) ?_
  refine z_mask (lv' := [some (.ref v0), some (.int v1), some (.int v2), some (.int v3), some (.int y28), none, none]) [true, true, true, true, true, false, false] rfl ?_
  exact hK3 hw
def w_X4_findChain_b55 (q : Int32 → hS → Prop) (K37 : hS → (Nat) → (Int32) → (Int32) → (Int32) → (Int32) → Prop) (K46 : hS → (Nat) → (Int32) → (Int32) → (Int32) → (Int32) → (Int32) → Prop) : Nat → hS → (Nat) → (Int32) → (Int32) → (Int32) → (Int32) → (Int32) → (Int32) → Prop
  | 0, _, _, _, _, _, _, _, _ => False
  | n + 1, S, v0, v1, v2, v3, v4, v5, v6 => (v3 ≤ v6 → ∀ y92 : Int32, y92 = v5 + 1 → K46 S v0 v1 v2 v3 v4 y92) ∧ (¬ v3 ≤ v6 → gP S v0 4 8 (fun x62 => gP S v0 4 8 (fun x68 => aI S x68 v5 (fun x73 => oK S v0 4 ∧ w_X4_toGoBy (fun x79 S => sI S x62 v5 (if x79 < x73 then x79 else x73) (fun S => ∀ y86 : Int32, y86 = v6 + 1 → w_X4_findChain_b55 q K37 K46 n S v0 v1 v2 v3 v4 v5 y86)) S v0 v5 v6))))
set_option maxRecDepth 100000 in
set_option maxHeartbeats 4000000 in
theorem t_X4_findChain_b55 (hC : zC p R s m args c cX4_findChain 7 RX4 G B mc ms 3 106) (hr : meth.sig.returnType = (Option.some FieldType.int)) (hlk : meth.locks = false) (hnm : meth.name = "findChain") {q : Int32 → hS → Prop} {K37 : hS → (Nat) → (Int32) → (Int32) → (Int32) → (Int32) → Prop} (hK37 : ∀ {S : hS} {v0 : Nat} {v1 : Int32} {v2 : Int32} {v3 : Int32} {v4 : Int32}, K37 S v0 v1 v2 v3 v4 → Z p l e R s m args below meth c (MQ below (hQ G B (iP q)) args s mc ms (fun r => B ≤ r)) G B mc ms 7 S 0 0 37 [some (.ref v0), some (.int v1), some (.int v2), some (.int v3), some (.int v4), none, none] []) {K46 : hS → (Nat) → (Int32) → (Int32) → (Int32) → (Int32) → (Int32) → Prop} (hK46 : ∀ {S : hS} {v0 : Nat} {v1 : Int32} {v2 : Int32} {v3 : Int32} {v4 : Int32} {v5 : Int32}, K46 S v0 v1 v2 v3 v4 v5 → Z p l e R s m args below meth c (MQ below (hQ G B (iP q)) args s mc ms (fun r => B ≤ r)) G B mc ms 7 S 0 0 46 [some (.ref v0), some (.int v1), some (.int v2), some (.int v3), some (.int v4), some (.int v5), none] []) (n : Nat) : ∀ {S : hS} {v0 : Nat} {v1 : Int32} {v2 : Int32} {v3 : Int32} {v4 : Int32} {v5 : Int32} {v6 : Int32} (hw : w_X4_findChain_b55 q K37 K46 n S v0 v1 v2 v3 v4 v5 v6), Z p l e R s m args below meth c (MQ below (hQ G B (iP q)) args s mc ms (fun r => B ≤ r)) G B mc ms 7 S 0 0 55 [some (.ref v0), some (.int v1), some (.int v2), some (.int v3), some (.int v4), some (.int v5), some (.int v6)] [] := by
  induction n with
  | zero => intro S v0 v1 v2 v3 v4 v5 v6 hw; exact (by rw [w_X4_findChain_b55] at hw; exact hw.elim)
  | succ n ih =>
    intro S v0 v1 v2 v3 v4 v5 v6 hw
    rw [w_X4_findChain_b55] at hw
    refine z_iload hC dX4_findChain_55 rfl ?_
    refine z_iload_n hC dX4_findChain_57 rfl rfl ?_
    refine z_icmp_ge (tgt := 92) hC dX4_findChain_58 (by decide) (fun c58 => ?_) (fun c58 => ?_)
    · have hw := hw.1 c58
      refine z_inc (i := 5) hC ic_1 dX4_findChain_92 rfl (by decide) (hok_v rfl rfl) (fun y92 e92 => ?_)
      have hw := hw y92 e92
      refine z_goto (tgt := 46) hC dX4_findChain_95 (by decide) ?_
      refine z_mask (lv' := [some (.ref v0), some (.int v1), some (.int v2), some (.int v3), some (.int v4), some (.int y92), none]) [true, true, true, true, true, true, false] rfl ?_
      exact hK46 hw
    · have hw := hw.2 c58
      refine z_aload_n hC dX4_findChain_61 rfl rfl ?_
      refine z_getP hC FX4 8 lk_461 dX4_findChain_62 (by decide) hw (fun x62 hw => ?_)
      refine z_iload hC dX4_findChain_65 rfl ?_
      refine z_aload_n hC dX4_findChain_67 rfl rfl ?_
      refine z_getP hC FX4 8 lk_461 dX4_findChain_68 (by decide) hw (fun x68 hw => ?_)
      refine z_iload hC dX4_findChain_71 rfl ?_
      refine z_aldI hC dX4_findChain_73 hw (fun x73 hw => ?_)
      refine z_aload_n hC dX4_findChain_74 rfl rfl ?_
      refine z_iload hC dX4_findChain_75 rfl ?_
      refine z_iload hC dX4_findChain_77 rfl ?_
      refine z_callV (ku' := 0) (kv' := 0) (n := 2) (As := [.int v5, .int v6]) (st := [.int x73, .int v5, .ref x62]) hC (c_X4_toGoBy l G B S v0 v5 v6 _) hw.2 hw.1 rfl lk_1270 lk_1272 lk_38 lk_131 lk_1273 hd_X4_toGoBy rfl rfl (Nat.le_of_ble_eq_true rfl) (Nat.le_of_ble_eq_true rfl) rfl (Nat.le_of_ble_eq_true rfl) dX4_findChain_79 (Nat.le_refl 0) (Nat.le_refl 0) (kI (fun x79 S hw => ?_))
      refine z_mmin hC lk_1274 lk_657 lk_134 lk_658 dX4_findChain_82 (by decide) (Nat.le_of_ble_eq_true rfl) ?_
      refine z_astI hC dX4_findChain_85 hw (fun S hw => ?_)
      refine z_inc (i := 6) hC ic_1 dX4_findChain_86 rfl (by decide) (hok_v rfl rfl) (fun y86 e86 => ?_)
      have hw := hw y86 e86
      refine z_goto (tgt := 55) hC dX4_findChain_89 (by decide) ?_
      refine z_mask (lv' := [some (.ref v0), some (.int v1), some (.int v2), some (.int v3), some (.int v4), some (.int v5), some (.int y86)]) [true, true, true, true, true, true, true] rfl ?_
      exact ih hw
def w_X4_findChain_b46 (q : Int32 → hS → Prop) (K37 : hS → (Nat) → (Int32) → (Int32) → (Int32) → (Int32) → Prop) : Nat → hS → (Nat) → (Int32) → (Int32) → (Int32) → (Int32) → (Int32) → Prop
  | 0, _, _, _, _, _, _, _ => False
  | n + 1, S, v0, v1, v2, v3, v4, v5 => (v3 ≤ v5 → ∀ y98 : Int32, y98 = v4 + 1 → K37 S v0 v1 v2 v3 y98) ∧ (¬ v3 ≤ v5 → (∃ n55 : Nat, w_X4_findChain_b55 q K37 (fun S v0 v1 v2 v3 v4 v5 => w_X4_findChain_b46 q K37 n S v0 v1 v2 v3 v4 v5) n55 S v0 v1 v2 v3 v4 v5 0))
set_option maxRecDepth 100000 in
set_option maxHeartbeats 4000000 in
theorem t_X4_findChain_b46 (hC : zC p R s m args c cX4_findChain 7 RX4 G B mc ms 3 106) (hr : meth.sig.returnType = (Option.some FieldType.int)) (hlk : meth.locks = false) (hnm : meth.name = "findChain") {q : Int32 → hS → Prop} {K37 : hS → (Nat) → (Int32) → (Int32) → (Int32) → (Int32) → Prop} (hK37 : ∀ {S : hS} {v0 : Nat} {v1 : Int32} {v2 : Int32} {v3 : Int32} {v4 : Int32}, K37 S v0 v1 v2 v3 v4 → Z p l e R s m args below meth c (MQ below (hQ G B (iP q)) args s mc ms (fun r => B ≤ r)) G B mc ms 7 S 0 0 37 [some (.ref v0), some (.int v1), some (.int v2), some (.int v3), some (.int v4), none, none] []) (n : Nat) : ∀ {S : hS} {v0 : Nat} {v1 : Int32} {v2 : Int32} {v3 : Int32} {v4 : Int32} {v5 : Int32} (hw : w_X4_findChain_b46 q K37 n S v0 v1 v2 v3 v4 v5), Z p l e R s m args below meth c (MQ below (hQ G B (iP q)) args s mc ms (fun r => B ≤ r)) G B mc ms 7 S 0 0 46 [some (.ref v0), some (.int v1), some (.int v2), some (.int v3), some (.int v4), some (.int v5), none] [] := by
  induction n with
  | zero => intro S v0 v1 v2 v3 v4 v5 hw; exact (by rw [w_X4_findChain_b46] at hw; exact hw.elim)
  | succ n ih =>
    intro S v0 v1 v2 v3 v4 v5 hw
    rw [w_X4_findChain_b46] at hw
    refine z_iload hC dX4_findChain_46 rfl ?_
    refine z_iload_n hC dX4_findChain_48 rfl rfl ?_
    refine z_icmp_ge (tgt := 98) hC dX4_findChain_49 (by decide) (fun c49 => ?_) (fun c49 => ?_)
    · have hw := hw.1 c49
      refine z_inc (i := 4) hC ic_1 dX4_findChain_98 rfl (by decide) (hok_v rfl rfl) (fun y98 e98 => ?_)
      have hw := hw y98 e98
      refine z_goto (tgt := 37) hC dX4_findChain_101 (by decide) ?_
      refine z_mask (lv' := [some (.ref v0), some (.int v1), some (.int v2), some (.int v3), some (.int y98), none, none]) [true, true, true, true, true, false, false] rfl ?_
      exact hK37 hw
    · have hw := hw.2 c49
      refine z_iconst hC ic_0 dX4_findChain_52 ?_
      refine z_istore (i := 6) (lv' := [some (.ref v0), some (.int v1), some (.int v2), some (.int v3), some (.int v4), some (.int v5), some (.int 0)]) hC dX4_findChain_53 (by decide) (hok_v rfl rfl) rfl ?_
      refine z_mask (lv' := [some (.ref v0), some (.int v1), some (.int v2), some (.int v3), some (.int v4), some (.int v5), some (.int 0)]) [true, true, true, true, true, true, true] rfl ?_
      obtain ⟨n55, hw⟩ := hw
      exact t_X4_findChain_b55 hC hr hlk hnm hK37 (fun hw => ih hw) n55 hw
def w_X4_findChain_b174 (q : Int32 → hS → Prop) (S : hS) (v0 : Nat) (v1 : Int32) : Prop := gP S v0 4 8 (fun x175 => aI S x175 v1 (fun x179 => q (x179 / 16) S))
set_option maxRecDepth 100000 in
set_option maxHeartbeats 4000000 in
theorem t_X4_findChain_b174 (hC : zC p R s m args c cX4_findChain 7 RX4 G B mc ms 3 106) (hr : meth.sig.returnType = (Option.some FieldType.int)) (hlk : meth.locks = false) (hnm : meth.name = "findChain") {q : Int32 → hS → Prop} {S : hS} {v0 : Nat} {v1 : Int32} (hw : w_X4_findChain_b174 q S v0 v1) : Z p l e R s m args below meth c (MQ below (hQ G B (iP q)) args s mc ms (fun r => B ≤ r)) G B mc ms 7 S 0 0 174 [some (.ref v0), some (.int v1), none, none, none, none, none] [] := by
  unfold w_X4_findChain_b174 at hw
  refine z_aload_n hC dX4_findChain_174 rfl rfl ?_
  refine z_getP hC FX4 8 lk_461 dX4_findChain_175 (by decide) hw (fun x175 hw => ?_)
  refine z_iload_n hC dX4_findChain_178 rfl rfl ?_
  refine z_aldI hC dX4_findChain_179 hw (fun x179 hw => ?_)
  refine z_bipush hC bi_16 dX4_findChain_180 ?_
  refine z_idiv hC (by decide) dX4_findChain_182 ?_
  exact z_iret hC hr hlk dX4_findChain_183 ⟨_, rfl, hw⟩
def w_X4_findChain_b128 (q : Int32 → hS → Prop) : Nat → hS → (Nat) → (Int32) → (Int32) → (Int32) → (Int32) → (Int32) → Prop
  | 0, _, _, _, _, _, _, _ => False
  | n + 1, S, v0, v1, v2, v3, v4, v5 => (v3 ≤ v5 → w_X4_findChain_b174 q S v0 v1) ∧ (¬ v3 ≤ v5 → (v4 = v2 → w_X4_findChain_b174 q S v0 v1) ∧ (¬ v4 = v2 → oK S v0 4 ∧ w_X4_firstBestBuyer (fun x144 S => gP S v0 4 9 (fun x150 => sI S x150 v5 x144 (fun S => gI S v0 4 10 (fun x160 => pI S v0 4 10 (x160 + 1) (fun S => ∀ y168 : Int32, y168 = v5 + 1 → w_X4_findChain_b128 q n S v0 v1 v2 v3 x144 y168))))) S v0 v4 v3))
set_option maxRecDepth 100000 in
set_option maxHeartbeats 4000000 in
theorem t_X4_findChain_b128 (hC : zC p R s m args c cX4_findChain 7 RX4 G B mc ms 3 106) (hr : meth.sig.returnType = (Option.some FieldType.int)) (hlk : meth.locks = false) (hnm : meth.name = "findChain") {q : Int32 → hS → Prop} (n : Nat) : ∀ {S : hS} {v0 : Nat} {v1 : Int32} {v2 : Int32} {v3 : Int32} {v4 : Int32} {v5 : Int32} (hw : w_X4_findChain_b128 q n S v0 v1 v2 v3 v4 v5), Z p l e R s m args below meth c (MQ below (hQ G B (iP q)) args s mc ms (fun r => B ≤ r)) G B mc ms 7 S 0 0 128 [some (.ref v0), some (.int v1), some (.int v2), some (.int v3), some (.int v4), some (.int v5), none] [] := by
  induction n with
  | zero => intro S v0 v1 v2 v3 v4 v5 hw; exact (by rw [w_X4_findChain_b128] at hw; exact hw.elim)
  | succ n ih =>
    intro S v0 v1 v2 v3 v4 v5 hw
    rw [w_X4_findChain_b128] at hw
    refine z_iload hC dX4_findChain_128 rfl ?_
    refine z_iload_n hC dX4_findChain_130 rfl rfl ?_
    refine z_icmp_ge (tgt := 174) hC dX4_findChain_131 (by decide) (fun c131 => ?_) (fun c131 => ?_)
    · have hw := hw.1 c131
      refine z_mask (lv' := [some (.ref v0), some (.int v1), none, none, none, none, none]) [true, true, false, false, false, false, false] rfl ?_
      exact t_X4_findChain_b174 hC hr hlk hnm hw
    · have hw := hw.2 c131
      refine z_iload hC dX4_findChain_134 rfl ?_
      refine z_iload_n hC dX4_findChain_136 rfl rfl ?_
      refine z_icmp_eq (tgt := 174) hC dX4_findChain_137 (by decide) (fun c137 => ?_) (fun c137 => ?_)
      · have hw := hw.1 c137
        refine z_mask (lv' := [some (.ref v0), some (.int v1), none, none, none, none, none]) [true, true, false, false, false, false, false] rfl ?_
        exact t_X4_findChain_b174 hC hr hlk hnm hw
      · have hw := hw.2 c137
        refine z_aload_n hC dX4_findChain_140 rfl rfl ?_
        refine z_iload hC dX4_findChain_141 rfl ?_
        refine z_iload_n hC dX4_findChain_143 rfl rfl ?_
        refine z_callV (ku' := 0) (kv' := 0) (n := 2) (As := [.int v4, .int v3]) (st := []) hC (c_X4_firstBestBuyer l G B S v0 v4 v3 _) hw.2 hw.1 rfl lk_1275 lk_1277 lk_39 lk_131 lk_1278 hd_X4_firstBestBuyer rfl rfl (Nat.le_of_ble_eq_true rfl) (Nat.le_of_ble_eq_true rfl) rfl (Nat.le_of_ble_eq_true rfl) dX4_findChain_144 (Nat.le_refl 0) (Nat.le_refl 0) (kI (fun x144 S hw => ?_))
        refine z_istore (i := 4) (lv' := [some (.ref v0), some (.int v1), some (.int v2), some (.int v3), some (.int x144), some (.int v5), none]) hC dX4_findChain_147 (by decide) (hok_v rfl rfl) rfl ?_
        refine z_aload_n hC dX4_findChain_149 rfl rfl ?_
        refine z_getP hC FX4 9 lk_462 dX4_findChain_150 (by decide) hw (fun x150 hw => ?_)
        refine z_iload hC dX4_findChain_153 rfl ?_
        refine z_iload hC dX4_findChain_155 rfl ?_
        refine z_astI hC dX4_findChain_157 hw (fun S hw => ?_)
        refine z_aload_n hC dX4_findChain_158 rfl rfl ?_
        refine z_dup hC rfl dX4_findChain_159 ?_
        refine z_getI hC FX4 10 lk_464 dX4_findChain_160 (by decide) hw (fun x160 hw => ?_)
        refine z_iconst hC ic_1 dX4_findChain_163 ?_
        refine z_iadd hC dX4_findChain_164 ?_
        refine z_putI hC FX4 10 lk_464 dX4_findChain_165 (by decide) rfl rfl hw (fun S hw => ?_)
        refine z_inc (i := 5) hC ic_1 dX4_findChain_168 rfl (by decide) (hok_v rfl rfl) (fun y168 e168 => ?_)
        have hw := hw y168 e168
        refine z_goto (tgt := 128) hC dX4_findChain_171 (by decide) ?_
        refine z_mask (lv' := [some (.ref v0), some (.int v1), some (.int v2), some (.int v3), some (.int x144), some (.int y168), none]) [true, true, true, true, true, true, false] rfl ?_
        exact ih hw
def w_X4_findChain_b37 (q : Int32 → hS → Prop) : Nat → hS → (Nat) → (Int32) → (Int32) → (Int32) → (Int32) → Prop
  | 0, _, _, _, _, _, _ => False
  | n + 1, S, v0, v1, v2, v3, v4 => (v3 ≤ v4 → pI S v0 4 10 0 (fun S => gP S v0 4 8 (fun x110 => aI S x110 v1 (fun x114 => (x114 < 1000000 → (∃ n128 : Nat, w_X4_findChain_b128 q n128 S v0 v1 v2 v3 v1 0)) ∧ (¬ x114 < 1000000 → q (-1) S))))) ∧ (¬ v3 ≤ v4 → (∃ n46 : Nat, w_X4_findChain_b46 q (fun S v0 v1 v2 v3 v4 => w_X4_findChain_b37 q n S v0 v1 v2 v3 v4) n46 S v0 v1 v2 v3 v4 0))
set_option maxRecDepth 100000 in
set_option maxHeartbeats 4000000 in
theorem t_X4_findChain_b37 (hC : zC p R s m args c cX4_findChain 7 RX4 G B mc ms 3 106) (hr : meth.sig.returnType = (Option.some FieldType.int)) (hlk : meth.locks = false) (hnm : meth.name = "findChain") {q : Int32 → hS → Prop} (n : Nat) : ∀ {S : hS} {v0 : Nat} {v1 : Int32} {v2 : Int32} {v3 : Int32} {v4 : Int32} (hw : w_X4_findChain_b37 q n S v0 v1 v2 v3 v4), Z p l e R s m args below meth c (MQ below (hQ G B (iP q)) args s mc ms (fun r => B ≤ r)) G B mc ms 7 S 0 0 37 [some (.ref v0), some (.int v1), some (.int v2), some (.int v3), some (.int v4), none, none] [] := by
  induction n with
  | zero => intro S v0 v1 v2 v3 v4 hw; exact (by rw [w_X4_findChain_b37] at hw; exact hw.elim)
  | succ n ih =>
    intro S v0 v1 v2 v3 v4 hw
    rw [w_X4_findChain_b37] at hw
    refine z_iload hC dX4_findChain_37 rfl ?_
    refine z_iload_n hC dX4_findChain_39 rfl rfl ?_
    refine z_icmp_ge (tgt := 104) hC dX4_findChain_40 (by decide) (fun c40 => ?_) (fun c40 => ?_)
    · have hw := hw.1 c40
      refine z_aload_n hC dX4_findChain_104 rfl rfl ?_
      refine z_iconst hC ic_0 dX4_findChain_105 ?_
      refine z_putI hC FX4 10 lk_464 dX4_findChain_106 (by decide) rfl rfl hw (fun S hw => ?_)
      refine z_aload_n hC dX4_findChain_109 rfl rfl ?_
      refine z_getP hC FX4 8 lk_461 dX4_findChain_110 (by decide) hw (fun x110 hw => ?_)
      refine z_iload_n hC dX4_findChain_113 rfl rfl ?_
      refine z_aldI hC dX4_findChain_114 hw (fun x114 hw => ?_)
      refine z_ldc hC lk_1269 dX4_findChain_115 ?_
      refine z_icmp_lt (tgt := 122) hC dX4_findChain_117 (by decide) (fun c117 => ?_) (fun c117 => ?_)
      · have hw := hw.1 c117
        refine z_iload_n hC dX4_findChain_122 rfl rfl ?_
        refine z_istore (i := 4) (lv' := [some (.ref v0), some (.int v1), some (.int v2), some (.int v3), some (.int v1), none, none]) hC dX4_findChain_123 (by decide) (hok_v rfl rfl) rfl ?_
        refine z_iconst hC ic_0 dX4_findChain_125 ?_
        refine z_istore (i := 5) (lv' := [some (.ref v0), some (.int v1), some (.int v2), some (.int v3), some (.int v1), some (.int 0), none]) hC dX4_findChain_126 (by decide) (hok_v rfl rfl) rfl ?_
        refine z_mask (lv' := [some (.ref v0), some (.int v1), some (.int v2), some (.int v3), some (.int v1), some (.int 0), none]) [true, true, true, true, true, true, false] rfl ?_
        obtain ⟨n128, hw⟩ := hw
        exact t_X4_findChain_b128 hC hr hlk hnm n128 hw
      · have hw := hw.2 c117
        refine z_iconst hC ic_m1 dX4_findChain_120 ?_
        exact z_iret hC hr hlk dX4_findChain_121 ⟨_, rfl, hw⟩
    · have hw := hw.2 c40
      refine z_iconst hC ic_0 dX4_findChain_43 ?_
      refine z_istore (i := 5) (lv' := [some (.ref v0), some (.int v1), some (.int v2), some (.int v3), some (.int v4), some (.int 0), none]) hC dX4_findChain_44 (by decide) (hok_v rfl rfl) rfl ?_
      refine z_mask (lv' := [some (.ref v0), some (.int v1), some (.int v2), some (.int v3), some (.int v4), some (.int 0), none]) [true, true, true, true, true, true, false] rfl ?_
      obtain ⟨n46, hw⟩ := hw
      exact t_X4_findChain_b46 hC hr hlk hnm (fun hw => ih hw) n46 hw
def w_X4_findChain_b3 (q : Int32 → hS → Prop) : Nat → hS → (Nat) → (Int32) → (Int32) → (Int32) → (Int32) → Prop
  | 0, _, _, _, _, _, _ => False
  | n + 1, S, v0, v1, v2, v3, v4 => (v3 ≤ v4 → (∃ n37 : Nat, w_X4_findChain_b37 q n37 S v0 v1 v2 v3 0)) ∧ (¬ v3 ≤ v4 → gP S v0 4 8 (fun x10 => (¬ v4 = v2 → w_X4_findChain_b27 q (fun S v0 v1 v2 v3 v4 => w_X4_findChain_b3 q n S v0 v1 v2 v3 v4) S v0 v1 v2 v3 v4 1000000 v4 x10) ∧ (v4 = v2 → w_X4_findChain_b27 q (fun S v0 v1 v2 v3 v4 => w_X4_findChain_b3 q n S v0 v1 v2 v3 v4) S v0 v1 v2 v3 v4 0 v4 x10)))
set_option maxRecDepth 100000 in
set_option maxHeartbeats 4000000 in
theorem t_X4_findChain_b3 (hC : zC p R s m args c cX4_findChain 7 RX4 G B mc ms 3 106) (hr : meth.sig.returnType = (Option.some FieldType.int)) (hlk : meth.locks = false) (hnm : meth.name = "findChain") {q : Int32 → hS → Prop} (n : Nat) : ∀ {S : hS} {v0 : Nat} {v1 : Int32} {v2 : Int32} {v3 : Int32} {v4 : Int32} (hw : w_X4_findChain_b3 q n S v0 v1 v2 v3 v4), Z p l e R s m args below meth c (MQ below (hQ G B (iP q)) args s mc ms (fun r => B ≤ r)) G B mc ms 7 S 0 0 3 [some (.ref v0), some (.int v1), some (.int v2), some (.int v3), some (.int v4), none, none] [] := by
  induction n with
  | zero => intro S v0 v1 v2 v3 v4 hw; exact (by rw [w_X4_findChain_b3] at hw; exact hw.elim)
  | succ n ih =>
    intro S v0 v1 v2 v3 v4 hw
    rw [w_X4_findChain_b3] at hw
    refine z_iload hC dX4_findChain_3 rfl ?_
    refine z_iload_n hC dX4_findChain_5 rfl rfl ?_
    refine z_icmp_ge (tgt := 34) hC dX4_findChain_6 (by decide) (fun c6 => ?_) (fun c6 => ?_)
    · have hw := hw.1 c6
      refine z_iconst hC ic_0 dX4_findChain_34 ?_
      refine z_istore (i := 4) (lv' := [some (.ref v0), some (.int v1), some (.int v2), some (.int v3), some (.int 0), none, none]) hC dX4_findChain_35 (by decide) (hok_v rfl rfl) rfl ?_
      refine z_mask (lv' := [some (.ref v0), some (.int v1), some (.int v2), some (.int v3), some (.int 0), none, none]) [true, true, true, true, true, false, false] rfl ?_
      obtain ⟨n37, hw⟩ := hw
      exact t_X4_findChain_b37 hC hr hlk hnm n37 hw
    · have hw := hw.2 c6
      refine z_aload_n hC dX4_findChain_9 rfl rfl ?_
      refine z_getP hC FX4 8 lk_461 dX4_findChain_10 (by decide) hw (fun x10 hw => ?_)
      refine z_iload hC dX4_findChain_13 rfl ?_
      refine z_iload hC dX4_findChain_15 rfl ?_
      refine z_iload_n hC dX4_findChain_17 rfl rfl ?_
      refine z_icmp_ne (tgt := 25) hC dX4_findChain_18 (by decide) (fun c18 => ?_) (fun c18 => ?_)
      · have hw := hw.1 c18
        refine z_ldc hC lk_1269 dX4_findChain_25 ?_
        refine z_mask (lv' := [some (.ref v0), some (.int v1), some (.int v2), some (.int v3), some (.int v4), none, none]) [true, true, true, true, true, false, false] rfl ?_
        exact t_X4_findChain_b27 hC hr hlk hnm (fun hw => ih hw) hw
      · have hw := hw.2 c18
        refine z_iconst hC ic_0 dX4_findChain_21 ?_
        refine z_goto (tgt := 27) hC dX4_findChain_22 (by decide) ?_
        refine z_mask (lv' := [some (.ref v0), some (.int v1), some (.int v2), some (.int v3), some (.int v4), none, none]) [true, true, true, true, true, false, false] rfl ?_
        exact t_X4_findChain_b27 hC hr hlk hnm (fun hw => ih hw) hw
def w_X4_findChain (q : Int32 → hS → Prop) (S : hS) (v0 : Nat) (v1 : Int32) (v2 : Int32) (v3 : Int32) : Prop := (∃ n3 : Nat, w_X4_findChain_b3 q n3 S v0 v1 v2 v3 0)
set_option maxRecDepth 100000 in
set_option maxHeartbeats 4000000 in
theorem c_X4_findChain (l : Launch) (G : hG) (B : Nat) (S : hS) (v0 : Nat) (v1 : Int32) (v2 : Int32) (v3 : Int32) (q : Int32 → hS → Prop) : Met l yX4_findChain (hws yX4_findChain cX4_findChain 7 (Option.some FieldType.int)) ({ frames := 3, cells := 0, slots := 0, locals := 106 }) (hPc G B S [.ref v0, .int v1, .int v2, .int v3] (w_X4_findChain q S v0 v1 v2 v3)) (hQ G B (iP q)) (0) (0) (fun r => B ≤ r) := by
  refine hMet (rm := { frames := 3, cells := 0, slots := 0, locals := 106 }) (lv := [some (.ref v0), some (.int v1), some (.int v2), some (.int v3), none, none, none]) (own := RX4) (fr := 3) (lo := 106) (by decide) rfl rfl rfl (Nat.le_of_ble_eq_true rfl) rfl (fun hw p e R s m args below meth c hC hr hlk hnm => ?_)
  unfold w_X4_findChain at hw
  refine z_iconst hC ic_0 dX4_findChain_0 ?_
  refine z_istore (i := 4) (lv' := [some (.ref v0), some (.int v1), some (.int v2), some (.int v3), some (.int 0), none, none]) hC dX4_findChain_1 (by decide) (hok_v rfl rfl) rfl ?_
  refine z_mask (lv' := [some (.ref v0), some (.int v1), some (.int v2), some (.int v3), some (.int 0), none, none]) [true, true, true, true, true, false, false] rfl ?_
  obtain ⟨n3, hw⟩ := hw
  exact t_X4_findChain_b3 hC hr hlk hnm n3 hw
end
section
variable {p : Program} {l : Launch} {e : Env} {R : Room} {s : State} {m : MethodId} {args : Array Value} {below : List Frame} {meth : Method} {c : Code} {G : hG} {B mc ms : Nat}
def w_X10_init (q : hS → Prop) (S : hS) (v0 : Nat) : Prop := pI S v0 10 0 0 (fun S => pI S v0 10 1 0 (fun S => pI S v0 10 2 0 (fun S => mkI S 12 12 (fun S o22 => pP S v0 10 3 o22 (fun S => mkI S 12 12 (fun S o30 => pP S v0 10 4 o30 (fun S => mkI S 60 60 (fun S o38 => pP S v0 10 5 o38 (fun S => mkI S 400 400 (fun S o47 => pP S v0 10 6 o47 (fun S => q S)))))))))))
set_option maxRecDepth 100000 in
set_option maxHeartbeats 4000000 in
theorem c_X10_init (l : Launch) (G : hG) (B : Nat) (S : hS) (v0 : Nat) (q : hS → Prop) : Met l yX10_init (hws yX10_init cX10_init 1 (Option.none : Option FieldType)) ({ frames := 1, cells := 4, slots := 484, locals := 60 }) (hPc G B S [.ref v0] (w_X10_init q S v0)) (hQ G B (vP q)) (4) (484) (fun r => B ≤ r) := by
  refine hMet (rm := { frames := 1, cells := 4, slots := 484, locals := 60 }) (lv := [some (.ref v0)]) (own := RX10) (fr := 1) (lo := 60) (by decide) rfl rfl rfl (Nat.le_of_ble_eq_true rfl) rfl (fun hw p e R s m args below meth c hC hr hlk hnm => ?_)
  unfold w_X10_init at hw
  refine z_less (ku' := 4) (kv' := 484) (Nat.le_refl _) (Nat.le_refl _) ?_
  refine z_aload_n hC dX10_init_0 rfl rfl ?_
  refine z_obj hC lk_346 lk_147 lk_148 dX10_init_1 (by decide) (Nat.le_of_ble_eq_true rfl) ?_
  refine z_aload_n hC dX10_init_4 rfl rfl ?_
  refine z_iconst hC ic_0 dX10_init_5 ?_
  refine z_putI hC FX10 0 lk_347 dX10_init_6 (by decide) rfl rfl hw (fun S hw => ?_)
  refine z_aload_n hC dX10_init_9 rfl rfl ?_
  refine z_iconst hC ic_0 dX10_init_10 ?_
  refine z_putI hC FX10 1 lk_351 dX10_init_11 (by decide) rfl rfl hw (fun S hw => ?_)
  refine z_aload_n hC dX10_init_14 rfl rfl ?_
  refine z_iconst hC ic_0 dX10_init_15 ?_
  refine z_putI hC FX10 2 lk_353 dX10_init_16 (by decide) rfl rfl hw (fun S hw => ?_)
  refine z_aload_n hC dX10_init_19 rfl rfl ?_
  refine z_bipush hC bi_12 dX10_init_20 ?_
  refine z_mkI (cap := 12) (ku' := 3) (kv' := 472) hC lk_198 dX10_init_22 (by decide) (by decide) (by decide) hw (fun S o22 hw => ?_)
  refine z_putPF hC FX10 3 lk_354 dX10_init_24 (by decide) rfl hnm rfl rfl rfl hw (fun S hw => ?_)
  refine z_aload_n hC dX10_init_27 rfl rfl ?_
  refine z_bipush hC bi_12 dX10_init_28 ?_
  refine z_mkI (cap := 12) (ku' := 2) (kv' := 460) hC lk_198 dX10_init_30 (by decide) (by decide) (by decide) hw (fun S o30 hw => ?_)
  refine z_putPF hC FX10 4 lk_357 dX10_init_32 (by decide) rfl hnm rfl rfl rfl hw (fun S hw => ?_)
  refine z_aload_n hC dX10_init_35 rfl rfl ?_
  refine z_bipush hC bi_60 dX10_init_36 ?_
  refine z_mkI (cap := 60) (ku' := 1) (kv' := 400) hC lk_198 dX10_init_38 (by decide) (by decide) (by decide) hw (fun S o38 hw => ?_)
  refine z_putPF hC FX10 5 lk_359 dX10_init_40 (by decide) rfl hnm rfl rfl rfl hw (fun S hw => ?_)
  refine z_aload_n hC dX10_init_43 rfl rfl ?_
  refine z_sipush hC si_400 dX10_init_44 ?_
  refine z_mkI (cap := 400) (ku' := 0) (kv' := 0) hC lk_198 dX10_init_47 (by decide) (by decide) (by decide) hw (fun S o47 hw => ?_)
  refine z_putPF hC FX10 6 lk_361 dX10_init_49 (by decide) rfl hnm rfl rfl rfl hw (fun S hw => ?_)
  exact z_vret hC hr hlk dX10_init_52 ⟨rfl, hw⟩
end
section
variable {p : Program} {l : Launch} {e : Env} {R : Room} {s : State} {m : MethodId} {args : Array Value} {below : List Frame} {meth : Method} {c : Code} {G : hG} {B mc ms : Nat}
def w_X5_init (q : hS → Prop) (S : hS) (v0 : Nat) (v1 : Nat) : Prop := nO S 10 FX10_0 (fun S o5 => w_X10_init (fun S => pP S v0 5 0 o5 (fun S => pZ S v0 5 2 1 (fun S => pI S v0 5 3 0 (fun S => pP S v0 5 1 v1 (fun S => q S))))) S o5)
set_option maxRecDepth 100000 in
set_option maxHeartbeats 4000000 in
theorem c_X5_init (l : Launch) (G : hG) (B : Nat) (S : hS) (v0 : Nat) (v1 : Nat) (q : hS → Prop) : Met l yX5_init (hws yX5_init cX5_init 2 (Option.none : Option FieldType)) ({ frames := 2, cells := 5, slots := 491, locals := 80 }) (hPc G B S [.ref v0, .ref v1] (w_X5_init q S v0 v1)) (hQ G B (vP q)) (5) (491) (fun r => B ≤ r) := by
  refine hMet (rm := { frames := 2, cells := 5, slots := 491, locals := 80 }) (lv := [some (.ref v0), some (.ref v1)]) (own := RX5) (fr := 2) (lo := 80) (by decide) rfl rfl rfl (Nat.le_of_ble_eq_true rfl) rfl (fun hw p e R s m args below meth c hC hr hlk hnm => ?_)
  unfold w_X5_init at hw
  refine z_less (ku' := 5) (kv' := 491) (Nat.le_refl _) (Nat.le_refl _) ?_
  refine z_aload_n hC dX5_init_0 rfl rfl ?_
  refine z_obj hC lk_340 lk_147 lk_148 dX5_init_1 (by decide) (Nat.le_of_ble_eq_true rfl) ?_
  refine z_aload_n hC dX5_init_4 rfl rfl ?_
  refine z_nO (ku' := 4) (kv' := 484) hC FX10 lk_341 lk_342 lk_127 FX10_d dX5_init_5 (by decide) (by decide) hw (fun S o5 hw => ?_)
  refine z_dup hC rfl dX5_init_8 ?_
  refine z_callI (ku' := 0) (kv' := 0) (n := 0) (As := []) (st := [.ref o5, .ref v0]) hC rfl (c_X10_init l G B S o5 _) hw lk_343 lk_344 lk_127 lk_345 rfl hd_X10_init.2 rfl rfl (Nat.le_of_ble_eq_true rfl) (Nat.le_of_ble_eq_true rfl) rfl (Nat.le_of_ble_eq_true rfl) dX5_init_9 (by decide) (by decide) (kV (fun S hw => ?_))
  refine z_putPF hC FX5 0 lk_378 dX5_init_12 (by decide) rfl hnm rfl rfl rfl hw (fun S hw => ?_)
  refine z_aload_n hC dX5_init_15 rfl rfl ?_
  refine z_iconst hC ic_1 dX5_init_16 ?_
  refine z_putZ hC FX5 2 lk_381 dX5_init_17 (by decide) rfl rfl hw (fun S hw => ?_)
  refine z_aload_n hC dX5_init_20 rfl rfl ?_
  refine z_iconst hC ic_0 dX5_init_21 ?_
  refine z_putI hC FX5 3 lk_382 dX5_init_22 (by decide) rfl rfl hw (fun S hw => ?_)
  refine z_aload_n hC dX5_init_25 rfl rfl ?_
  refine z_aload_n hC dX5_init_26 rfl rfl ?_
  refine z_putPF hC FX5 1 lk_380 dX5_init_27 (by decide) rfl hnm rfl rfl rfl hw (fun S hw => ?_)
  exact z_vret hC hr hlk dX5_init_30 ⟨rfl, hw⟩
end
section
variable {p : Program} {l : Launch} {e : Env} {R : Room} {s : State} {m : MethodId} {args : Array Value} {below : List Frame} {meth : Method} {c : Code} {G : hG} {B mc ms : Nat}
def w_X10_empty (q : hS → Prop) (S : hS) (v0 : Nat) : Prop := pI S v0 10 0 0 (fun S => pI S v0 10 1 0 (fun S => q S))
set_option maxRecDepth 100000 in
set_option maxHeartbeats 4000000 in
theorem c_X10_empty (l : Launch) (G : hG) (B : Nat) (S : hS) (v0 : Nat) (q : hS → Prop) : Met l yX10_empty (hws yX10_empty cX10_empty 1 (Option.none : Option FieldType)) ({ frames := 1, cells := 0, slots := 0, locals := 60 }) (hPc G B S [.ref v0] (w_X10_empty q S v0)) (hQ G B (vP q)) (0) (0) (fun r => B ≤ r) := by
  refine hMet (rm := { frames := 1, cells := 0, slots := 0, locals := 60 }) (lv := [some (.ref v0)]) (own := RX10) (fr := 1) (lo := 60) (by decide) rfl rfl rfl (Nat.le_of_ble_eq_true rfl) rfl (fun hw p e R s m args below meth c hC hr hlk hnm => ?_)
  unfold w_X10_empty at hw
  refine z_aload_n hC dX10_empty_0 rfl rfl ?_
  refine z_iconst hC ic_0 dX10_empty_1 ?_
  refine z_putI hC FX10 0 lk_347 dX10_empty_2 (by decide) rfl rfl hw (fun S hw => ?_)
  refine z_aload_n hC dX10_empty_5 rfl rfl ?_
  refine z_iconst hC ic_0 dX10_empty_6 ?_
  refine z_putI hC FX10 1 lk_351 dX10_empty_7 (by decide) rfl rfl hw (fun S hw => ?_)
  exact z_vret hC hr hlk dX10_empty_10 ⟨rfl, hw⟩
end
section
variable {p : Program} {l : Launch} {e : Env} {R : Room} {s : State} {m : MethodId} {args : Array Value} {below : List Frame} {meth : Method} {c : Code} {G : hG} {B mc ms : Nat}
def w_X9_isLetter (q : Int32 → hS → Prop) (S : hS) (v0 : Int32) : Prop := (v0 < 97 → q 0 S) ∧ (¬ v0 < 97 → (122 < v0 → q 0 S) ∧ (¬ 122 < v0 → q 1 S))
set_option maxRecDepth 100000 in
set_option maxHeartbeats 4000000 in
theorem c_X9_isLetter (l : Launch) (G : hG) (B : Nat) (S : hS) (v0 : Int32) (q : Int32 → hS → Prop) : Met l yX9_isLetter (hws yX9_isLetter cX9_isLetter 1 (Option.some FieldType.boolean)) ({ frames := 1, cells := 0, slots := 0, locals := 60 }) (hPc G B S [.int v0] (w_X9_isLetter q S v0)) (hQ G B (iP q)) (0) (0) (fun r => B ≤ r) := by
  refine hMet (rm := { frames := 1, cells := 0, slots := 0, locals := 60 }) (lv := [some (.int v0)]) (own := RX9) (fr := 1) (lo := 60) (by decide) rfl rfl rfl (Nat.le_of_ble_eq_true rfl) rfl (fun hw p e R s m args below meth c hC hr hlk hnm => ?_)
  unfold w_X9_isLetter at hw
  refine z_iload_n hC dX9_isLetter_0 rfl rfl ?_
  refine z_bipush hC bi_97 dX9_isLetter_1 ?_
  refine z_icmp_lt (tgt := 16) hC dX9_isLetter_3 (by decide) (fun c3 => ?_) (fun c3 => ?_)
  · have hw := hw.1 c3
    refine z_iconst hC ic_0 dX9_isLetter_16 ?_
    exact z_zret hC hr hlk (hz01 (Or.inl rfl)).1 dX9_isLetter_17 ⟨_, rfl, hw⟩
  · have hw := hw.2 c3
    refine z_iload_n hC dX9_isLetter_6 rfl rfl ?_
    refine z_bipush hC bi_122 dX9_isLetter_7 ?_
    refine z_icmp_gt (tgt := 16) hC dX9_isLetter_9 (by decide) (fun c9 => ?_) (fun c9 => ?_)
    · have hw := hw.1 c9
      refine z_iconst hC ic_0 dX9_isLetter_16 ?_
      exact z_zret hC hr hlk (hz01 (Or.inl rfl)).1 dX9_isLetter_17 ⟨_, rfl, hw⟩
    · have hw := hw.2 c9
      refine z_iconst hC ic_1 dX9_isLetter_12 ?_
      refine z_goto (tgt := 17) hC dX9_isLetter_13 (by decide) ?_
      exact z_zret hC hr hlk (hz01 (Or.inr rfl)).1 dX9_isLetter_17 ⟨_, rfl, hw⟩
end
section
variable {p : Program} {l : Launch} {e : Env} {R : Room} {s : State} {m : MethodId} {args : Array Value} {below : List Frame} {meth : Method} {c : Code} {G : hG} {B mc ms : Nat}
def w_X9_isDigit (q : Int32 → hS → Prop) (S : hS) (v0 : Int32) : Prop := (v0 < 48 → q 0 S) ∧ (¬ v0 < 48 → (57 < v0 → q 0 S) ∧ (¬ 57 < v0 → q 1 S))
set_option maxRecDepth 100000 in
set_option maxHeartbeats 4000000 in
theorem c_X9_isDigit (l : Launch) (G : hG) (B : Nat) (S : hS) (v0 : Int32) (q : Int32 → hS → Prop) : Met l yX9_isDigit (hws yX9_isDigit cX9_isDigit 1 (Option.some FieldType.boolean)) ({ frames := 1, cells := 0, slots := 0, locals := 60 }) (hPc G B S [.int v0] (w_X9_isDigit q S v0)) (hQ G B (iP q)) (0) (0) (fun r => B ≤ r) := by
  refine hMet (rm := { frames := 1, cells := 0, slots := 0, locals := 60 }) (lv := [some (.int v0)]) (own := RX9) (fr := 1) (lo := 60) (by decide) rfl rfl rfl (Nat.le_of_ble_eq_true rfl) rfl (fun hw p e R s m args below meth c hC hr hlk hnm => ?_)
  unfold w_X9_isDigit at hw
  refine z_iload_n hC dX9_isDigit_0 rfl rfl ?_
  refine z_bipush hC bi_48 dX9_isDigit_1 ?_
  refine z_icmp_lt (tgt := 16) hC dX9_isDigit_3 (by decide) (fun c3 => ?_) (fun c3 => ?_)
  · have hw := hw.1 c3
    refine z_iconst hC ic_0 dX9_isDigit_16 ?_
    exact z_zret hC hr hlk (hz01 (Or.inl rfl)).1 dX9_isDigit_17 ⟨_, rfl, hw⟩
  · have hw := hw.2 c3
    refine z_iload_n hC dX9_isDigit_6 rfl rfl ?_
    refine z_bipush hC bi_57 dX9_isDigit_7 ?_
    refine z_icmp_gt (tgt := 16) hC dX9_isDigit_9 (by decide) (fun c9 => ?_) (fun c9 => ?_)
    · have hw := hw.1 c9
      refine z_iconst hC ic_0 dX9_isDigit_16 ?_
      exact z_zret hC hr hlk (hz01 (Or.inl rfl)).1 dX9_isDigit_17 ⟨_, rfl, hw⟩
    · have hw := hw.2 c9
      refine z_iconst hC ic_1 dX9_isDigit_12 ?_
      refine z_goto (tgt := 17) hC dX9_isDigit_13 (by decide) ?_
      exact z_zret hC hr hlk (hz01 (Or.inr rfl)).1 dX9_isDigit_17 ⟨_, rfl, hw⟩
end
