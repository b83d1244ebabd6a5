section
variable {p : Program} {l : Launch} {e : Env} {R : Room} {s : State} {m : MethodId} {args : Array Value} {below : List Frame} {meth : Method} {c : Code} {G : hG} {B mc ms : Nat}
def w_X5_readPlain_b29 (tx : Nat → Nat) (rec : Nat → (Int32 → hS → Prop) → hS → (Nat) → (Int32) → Prop) (q : Int32 → hS → Prop) (K4 : hS → (Nat) → (Int32) → (Int32) → (Int32) → Prop) (S : hS) (v0 : Nat) (v1 : Int32) (v3 : Int32) (t0 : Int32) : Prop := ∀ y30 : Int32, y30 = v3 + 1 → K4 S v0 v1 t0 y30
set_option maxRecDepth 100000 in
set_option maxHeartbeats 4000000 in
theorem t_X5_readPlain_b29 {d : Nat} (hC : zC p R s m args c cX5_readPlain 4 RX5 G B mc ms (7 + (d + 1)) (214 + 23 * (d + 1))) (hr : meth.sig.returnType = (Option.some FieldType.boolean)) (hlk : meth.locks = false) (hnm : meth.name = "readPlain") {rec : Nat → (Int32 → hS → Prop) → hS → (Nat) → (Int32) → Prop} (hrec3 : ∀ (S : hS) (v0 : Nat) (v1 : Int32) (q : Int32 → hS → Prop), Met l yX5_readBracketedTest (hws yX5_readBracketedTest cX5_readBracketedTest 2 (Option.some FieldType.boolean)) ({ frames := 7 + d, cells := 0, slots := 0, locals := 214 + 23 * d }) (hPc G B S [.ref v0, .int v1] (rec 3 q S v0 v1)) (hQ G B (iP q)) 0 0 (fun r => B ≤ r)) (hrec4 : ∀ (S : hS) (v0 : Nat) (v1 : Int32) (q : Int32 → hS → Prop), Met l yX5_readComparison (hws yX5_readComparison cX5_readComparison 3 (Option.some FieldType.boolean)) ({ frames := 7 + d, cells := 0, slots := 0, locals := 214 + 23 * d }) (hPc G B S [.ref v0, .int v1] (rec 4 q S v0 v1)) (hQ G B (iP q)) 0 0 (fun r => B ≤ r)) {q : Int32 → hS → Prop} {K4 : hS → (Nat) → (Int32) → (Int32) → (Int32) → Prop} (hK4 : ∀ {S : hS} {v0 : Nat} {v1 : Int32} {v2 : Int32} {v3 : Int32}, K4 S v0 v1 v2 v3 → Z p l e R s m args below meth c (MQ below (hQ G B (iP q)) args s mc ms (fun r => B ≤ r)) G B mc ms 4 S 0 0 4 [some (.ref v0), some (.int v1), some (.int v2), some (.int v3)] []) {S : hS} {v0 : Nat} {v1 : Int32} {v3 : Int32} {t0 : Int32} (hw : w_X5_readPlain_b29 G.2.2.1 rec q K4 S v0 v1 v3 t0) : Z p l e R s m args below meth c (MQ below (hQ G B (iP q)) args s mc ms (fun r => B ≤ r)) G B mc ms 4 S 0 0 29 [some (.ref v0), some (.int v1), none, some (.int v3)] [.int t0] := by
  unfold w_X5_readPlain_b29 at hw
  refine z_istore_n (i := 2) (lv' := [some (.ref v0), some (.int v1), some (.int t0), some (.int v3)]) hC rfl dX5_readPlain_29 (by decide) (hok_v rfl rfl) rfl ?_
  refine z_inc (i := 3) hC ic_1 dX5_readPlain_30 rfl (by decide) (hok_v rfl rfl) (fun y30 e30 => ?_)
  have hw := hw y30 e30
  refine z_goto (tgt := 4) hC dX5_readPlain_33 (by decide) ?_
  refine z_mask (lv' := [some (.ref v0), some (.int v1), some (.int t0), some (.int y30)]) [true, true, true, true] rfl ?_
  exact hK4 hw
def w_X5_readPlain_b61 (tx : Nat → Nat) (rec : Nat → (Int32 → hS → Prop) → hS → (Nat) → (Int32) → Prop) (q : Int32 → hS → Prop) (S : hS) (v0 : Nat) (v2 : Int32) (t0 : Int32) : Prop := (t0 = 0 → (t0 = 0 ∨ t0 = 1) ∧ q t0 S) ∧ (¬ t0 = 0 → (v2 = 0 → (t0 = 0 ∨ t0 = 1) ∧ q t0 S) ∧ (¬ v2 = 0 → gP S v0 5 0 (fun x71 => oK S x71 10 ∧ w_X10_add (fun x77 S => (t0 = 0 ∨ t0 = 1) ∧ q t0 S) S x71 10 0)))
set_option maxRecDepth 100000 in
set_option maxHeartbeats 4000000 in
theorem t_X5_readPlain_b61 {d : Nat} (hC : zC p R s m args c cX5_readPlain 4 RX5 G B mc ms (7 + (d + 1)) (214 + 23 * (d + 1))) (hr : meth.sig.returnType = (Option.some FieldType.boolean)) (hlk : meth.locks = false) (hnm : meth.name = "readPlain") {rec : Nat → (Int32 → hS → Prop) → hS → (Nat) → (Int32) → Prop} (hrec3 : ∀ (S : hS) (v0 : Nat) (v1 : Int32) (q : Int32 → hS → Prop), Met l yX5_readBracketedTest (hws yX5_readBracketedTest cX5_readBracketedTest 2 (Option.some FieldType.boolean)) ({ frames := 7 + d, cells := 0, slots := 0, locals := 214 + 23 * d }) (hPc G B S [.ref v0, .int v1] (rec 3 q S v0 v1)) (hQ G B (iP q)) 0 0 (fun r => B ≤ r)) (hrec4 : ∀ (S : hS) (v0 : Nat) (v1 : Int32) (q : Int32 → hS → Prop), Met l yX5_readComparison (hws yX5_readComparison cX5_readComparison 3 (Option.some FieldType.boolean)) ({ frames := 7 + d, cells := 0, slots := 0, locals := 214 + 23 * d }) (hPc G B S [.ref v0, .int v1] (rec 4 q S v0 v1)) (hQ G B (iP q)) 0 0 (fun r => B ≤ r)) {q : Int32 → hS → Prop} {S : hS} {v0 : Nat} {v2 : Int32} {t0 : Int32} (hw : w_X5_readPlain_b61 G.2.2.1 rec q S v0 v2 t0) : Z p l e R s m args below meth c (MQ below (hQ G B (iP q)) args s mc ms (fun r => B ≤ r)) G B mc ms 4 S 0 0 61 [some (.ref v0), none, some (.int v2), none] [.int t0] := by
  unfold w_X5_readPlain_b61 at hw
  refine z_istore_n (i := 3) (lv' := [some (.ref v0), none, some (.int v2), some (.int t0)]) hC rfl dX5_readPlain_61 (by decide) (hok_v rfl rfl) rfl ?_
  refine z_iload_n hC dX5_readPlain_62 rfl rfl ?_
  refine z_if_eq (tgt := 81) hC dX5_readPlain_63 (by decide) (fun c63 => ?_) (fun c63 => ?_)
  · have hw := hw.1 c63
    refine z_iload_n hC dX5_readPlain_81 rfl rfl ?_
    exact z_zret hC hr hlk (hz01 hw.1).1 dX5_readPlain_82 ⟨_, rfl, hw.2⟩
  · have hw := hw.2 c63
    refine z_iload_n hC dX5_readPlain_66 rfl rfl ?_
    refine z_if_eq (tgt := 81) hC dX5_readPlain_67 (by decide) (fun c67 => ?_) (fun c67 => ?_)
    · have hw := hw.1 c67
      refine z_iload_n hC dX5_readPlain_81 rfl rfl ?_
      exact z_zret hC hr hlk (hz01 hw.1).1 dX5_readPlain_82 ⟨_, rfl, hw.2⟩
    · have hw := hw.2 c67
      refine z_aload_n hC dX5_readPlain_70 rfl rfl ?_
      refine z_getP hC FX5 0 lk_378 dX5_readPlain_71 (by decide) hw (fun x71 hw => ?_)
      refine z_bipush hC bi_10 dX5_readPlain_74 ?_
      refine z_iconst hC ic_0 dX5_readPlain_76 ?_
      refine z_callV (ku' := 0) (kv' := 0) (n := 2) (As := [.int 10, .int 0]) (st := []) hC (c_X10_add l G B S x71 10 0 _) hw.2 hw.1 rfl lk_895 lk_896 lk_897 lk_127 lk_898 hd_X10_add rfl rfl (by show 1 + 1 ≤ _; omega) (by show 8 + (4 + 11) + 60 ≤ _; omega) rfl (Nat.le_of_ble_eq_true rfl) dX5_readPlain_77 (Nat.le_refl 0) (Nat.le_refl 0) (kI (fun x77 S hw => ?_))
      refine z_pop hC rfl dX5_readPlain_80 ?_
      refine z_iload_n hC dX5_readPlain_81 rfl rfl ?_
      exact z_zret hC hr hlk (hz01 hw.1).1 dX5_readPlain_82 ⟨_, rfl, hw.2⟩
def w_X5_readPlain_b36 (tx : Nat → Nat) (rec : Nat → (Int32 → hS → Prop) → hS → (Nat) → (Int32) → Prop) (q : Int32 → hS → Prop) (S : hS) (v0 : Nat) (v1 : Int32) (v2 : Int32) : Prop := gP S v0 5 1 (fun x37 => oK S x37 9 ∧ w_X9_isSign (fun x42 S => (x42 = 0 → oK S v0 5 ∧ rec 4 (fun x58 S => w_X5_readPlain_b61 tx rec q S v0 v2 x58) S v0 v1) ∧ (¬ x42 = 0 → oK S v0 5 ∧ rec 3 (fun x50 S => w_X5_readPlain_b61 tx rec q S v0 v2 x50) S v0 v1)) S x37 40)
set_option maxRecDepth 100000 in
set_option maxHeartbeats 4000000 in
theorem t_X5_readPlain_b36 {d : Nat} (hC : zC p R s m args c cX5_readPlain 4 RX5 G B mc ms (7 + (d + 1)) (214 + 23 * (d + 1))) (hr : meth.sig.returnType = (Option.some FieldType.boolean)) (hlk : meth.locks = false) (hnm : meth.name = "readPlain") {rec : Nat → (Int32 → hS → Prop) → hS → (Nat) → (Int32) → Prop} (hrec3 : ∀ (S : hS) (v0 : Nat) (v1 : Int32) (q : Int32 → hS → Prop), Met l yX5_readBracketedTest (hws yX5_readBracketedTest cX5_readBracketedTest 2 (Option.some FieldType.boolean)) ({ frames := 7 + d, cells := 0, slots := 0, locals := 214 + 23 * d }) (hPc G B S [.ref v0, .int v1] (rec 3 q S v0 v1)) (hQ G B (iP q)) 0 0 (fun r => B ≤ r)) (hrec4 : ∀ (S : hS) (v0 : Nat) (v1 : Int32) (q : Int32 → hS → Prop), Met l yX5_readComparison (hws yX5_readComparison cX5_readComparison 3 (Option.some FieldType.boolean)) ({ frames := 7 + d, cells := 0, slots := 0, locals := 214 + 23 * d }) (hPc G B S [.ref v0, .int v1] (rec 4 q S v0 v1)) (hQ G B (iP q)) 0 0 (fun r => B ≤ r)) {q : Int32 → hS → Prop} {S : hS} {v0 : Nat} {v1 : Int32} {v2 : Int32} (hw : w_X5_readPlain_b36 G.2.2.1 rec q S v0 v1 v2) : Z p l e R s m args below meth c (MQ below (hQ G B (iP q)) args s mc ms (fun r => B ≤ r)) G B mc ms 4 S 0 0 36 [some (.ref v0), some (.int v1), some (.int v2), none] [] := by
  unfold w_X5_readPlain_b36 at hw
  refine z_aload_n hC dX5_readPlain_36 rfl rfl ?_
  refine z_getP hC FX5 1 lk_380 dX5_readPlain_37 (by decide) hw (fun x37 hw => ?_)
  refine z_bipush hC bi_40 dX5_readPlain_40 ?_
  refine z_callV (ku' := 0) (kv' := 0) (n := 1) (As := [.int 40]) (st := []) hC (c_X9_isSign l G B S x37 40 _) hw.2 hw.1 rfl lk_883 lk_884 lk_885 lk_125 lk_886 hd_X9_isSign rfl rfl (by show 1 + 1 ≤ _; omega) (by show 8 + (2 + 11) + 60 ≤ _; omega) rfl (Nat.le_of_ble_eq_true rfl) dX5_readPlain_42 (Nat.le_refl 0) (Nat.le_refl 0) (kI (fun x42 S hw => ?_))
  refine z_if_eq (tgt := 56) hC dX5_readPlain_45 (by decide) (fun c45 => ?_) (fun c45 => ?_)
  · have hw := hw.1 c45
    refine z_aload_n hC dX5_readPlain_56 rfl rfl ?_
    refine z_iload_n hC dX5_readPlain_57 rfl rfl ?_
    refine z_callV (ku' := 0) (kv' := 0) (n := 1) (As := [.int v1]) (st := []) hC (hrec4 S v0 v1 _) hw.2 hw.1 rfl lk_963 lk_965 lk_24 lk_126 lk_966 hd_X5_readComparison rfl rfl (by show 7 + d + 1 ≤ _; omega) (by show 8 + (3 + 11) + (214 + 23 * d) ≤ _; omega) rfl (Nat.le_of_ble_eq_true rfl) dX5_readPlain_58 (Nat.le_refl 0) (Nat.le_refl 0) (kI (fun x58 S hw => ?_))
    refine z_mask (lv' := [some (.ref v0), none, some (.int v2), none]) [true, false, true, false] rfl ?_
    exact t_X5_readPlain_b61 hC hr hlk hnm hrec3 hrec4 hw
  · have hw := hw.2 c45
    refine z_aload_n hC dX5_readPlain_48 rfl rfl ?_
    refine z_iload_n hC dX5_readPlain_49 rfl rfl ?_
    refine z_callV (ku' := 0) (kv' := 0) (n := 1) (As := [.int v1]) (st := []) hC (hrec3 S v0 v1 _) hw.2 hw.1 rfl lk_959 lk_961 lk_23 lk_126 lk_962 hd_X5_readBracketedTest rfl rfl (by show 7 + d + 1 ≤ _; omega) (by show 8 + (2 + 11) + (214 + 23 * d) ≤ _; omega) rfl (Nat.le_of_ble_eq_true rfl) dX5_readPlain_50 (Nat.le_refl 0) (Nat.le_refl 0) (kI (fun x50 S hw => ?_))
    refine z_goto (tgt := 61) hC dX5_readPlain_53 (by decide) ?_
    refine z_mask (lv' := [some (.ref v0), none, some (.int v2), none]) [true, false, true, false] rfl ?_
    exact t_X5_readPlain_b61 hC hr hlk hnm hrec3 hrec4 hw
def w_X5_readPlain_b4 (tx : Nat → Nat) (rec : Nat → (Int32 → hS → Prop) → hS → (Nat) → (Int32) → Prop) (q : Int32 → hS → Prop) : Nat → hS → (Nat) → (Int32) → (Int32) → (Int32) → Prop
  | 0, _, _, _, _, _ => False
  | n + 1, S, v0, v1, v2, v3 => (400 ≤ v3 → w_X5_readPlain_b36 tx rec q S v0 v1 v2) ∧ (¬ 400 ≤ v3 → oK S v0 5 ∧ w_X5_takeWord tx (fun x14 S => (x14 = 0 → w_X5_readPlain_b36 tx rec q S v0 v1 v2) ∧ (¬ x14 = 0 → (¬ v2 = 0 → w_X5_readPlain_b29 tx rec q (fun S v0 v1 v2 v3 => w_X5_readPlain_b4 tx rec q n S v0 v1 v2 v3) S v0 v1 v3 0) ∧ (v2 = 0 → w_X5_readPlain_b29 tx rec q (fun S v0 v1 v2 v3 => w_X5_readPlain_b4 tx rec q n S v0 v1 v2 v3) S v0 v1 v3 1))) S v0 (tx 18))
set_option maxRecDepth 100000 in
set_option maxHeartbeats 4000000 in
theorem t_X5_readPlain_b4 {d : Nat} (hC : zC p R s m args c cX5_readPlain 4 RX5 G B mc ms (7 + (d + 1)) (214 + 23 * (d + 1))) (hr : meth.sig.returnType = (Option.some FieldType.boolean)) (hlk : meth.locks = false) (hnm : meth.name = "readPlain") {rec : Nat → (Int32 → hS → Prop) → hS → (Nat) → (Int32) → Prop} (hrec3 : ∀ (S : hS) (v0 : Nat) (v1 : Int32) (q : Int32 → hS → Prop), Met l yX5_readBracketedTest (hws yX5_readBracketedTest cX5_readBracketedTest 2 (Option.some FieldType.boolean)) ({ frames := 7 + d, cells := 0, slots := 0, locals := 214 + 23 * d }) (hPc G B S [.ref v0, .int v1] (rec 3 q S v0 v1)) (hQ G B (iP q)) 0 0 (fun r => B ≤ r)) (hrec4 : ∀ (S : hS) (v0 : Nat) (v1 : Int32) (q : Int32 → hS → Prop), Met l yX5_readComparison (hws yX5_readComparison cX5_readComparison 3 (Option.some FieldType.boolean)) ({ frames := 7 + d, cells := 0, slots := 0, locals := 214 + 23 * d }) (hPc G B S [.ref v0, .int v1] (rec 4 q S v0 v1)) (hQ G B (iP q)) 0 0 (fun r => B ≤ r)) {q : Int32 → hS → Prop} (n : Nat) : ∀ {S : hS} {v0 : Nat} {v1 : Int32} {v2 : Int32} {v3 : Int32} (hw : w_X5_readPlain_b4 G.2.2.1 rec q n S v0 v1 v2 v3), Z p l e R s m args below meth c (MQ below (hQ G B (iP q)) args s mc ms (fun r => B ≤ r)) G B mc ms 4 S 0 0 4 [some (.ref v0), some (.int v1), some (.int v2), some (.int v3)] [] := by
  induction n with
  | zero => intro S v0 v1 v2 v3 hw; exact (by rw [w_X5_readPlain_b4] at hw; exact hw.elim)
  | succ n ih =>
    intro S v0 v1 v2 v3 hw
    rw [w_X5_readPlain_b4] at hw
    refine z_iload_n hC dX5_readPlain_4 rfl rfl ?_
    refine z_sipush hC si_400 dX5_readPlain_5 ?_
    refine z_icmp_ge (tgt := 36) hC dX5_readPlain_8 (by decide) (fun c8 => ?_) (fun c8 => ?_)
    · have hw := hw.1 c8
      refine z_mask (lv' := [some (.ref v0), some (.int v1), some (.int v2), none]) [true, true, true, false] rfl ?_
      exact t_X5_readPlain_b36 hC hr hlk hnm hrec3 hrec4 hw
    · have hw := hw.2 c8
      refine z_aload_n hC dX5_readPlain_11 rfl rfl ?_
      refine z_ldcS hC 18 rfl dX5_readPlain_12 ?_
      refine z_callV (ku' := 0) (kv' := 0) (n := 1) (As := [.ref (G.2.2.1 18)]) (st := []) hC (c_X5_takeWord l G B S v0 (G.2.2.1 18) _) hw.2 hw.1 rfl lk_942 lk_944 lk_19 lk_126 lk_945 hd_X5_takeWord rfl rfl (by show 6 + 1 ≤ _; omega) (by show 8 + (2 + 11) + 193 ≤ _; omega) rfl (Nat.le_of_ble_eq_true rfl) dX5_readPlain_14 (Nat.le_refl 0) (Nat.le_refl 0) (kI (fun x14 S hw => ?_))
      refine z_if_eq (tgt := 36) hC dX5_readPlain_17 (by decide) (fun c17 => ?_) (fun c17 => ?_)
      · have hw := hw.1 c17
        refine z_mask (lv' := [some (.ref v0), some (.int v1), some (.int v2), none]) [true, true, true, false] rfl ?_
        exact t_X5_readPlain_b36 hC hr hlk hnm hrec3 hrec4 hw
      · have hw := hw.2 c17
        refine z_iload_n hC dX5_readPlain_20 rfl rfl ?_
        refine z_if_ne (tgt := 28) hC dX5_readPlain_21 (by decide) (fun c21 => ?_) (fun c21 => ?_)
        · have hw := hw.1 c21
          refine z_iconst hC ic_0 dX5_readPlain_28 ?_
          refine z_mask (lv' := [some (.ref v0), some (.int v1), none, some (.int v3)]) [true, true, false, true] rfl ?_
          exact t_X5_readPlain_b29 hC hr hlk hnm hrec3 hrec4 (fun hw => ih hw) hw
        · have hw := hw.2 c21
          refine z_iconst hC ic_1 dX5_readPlain_24 ?_
          refine z_goto (tgt := 29) hC dX5_readPlain_25 (by decide) ?_
          refine z_mask (lv' := [some (.ref v0), some (.int v1), none, some (.int v3)]) [true, true, false, true] rfl ?_
          exact t_X5_readPlain_b29 hC hr hlk hnm hrec3 hrec4 (fun hw => ih hw) hw
def wb_X5_readPlain (tx : Nat → Nat) (rec : Nat → (Int32 → hS → Prop) → hS → (Nat) → (Int32) → Prop) (q : Int32 → hS → Prop) (S : hS) (v0 : Nat) (v1 : Int32) : Prop := (∃ n4 : Nat, w_X5_readPlain_b4 tx rec q n4 S v0 v1 0 0)
set_option maxRecDepth 100000 in
set_option maxHeartbeats 4000000 in
theorem cb_X5_readPlain (l : Launch) (G : hG) (B : Nat) {d : Nat} {rec : Nat → (Int32 → hS → Prop) → hS → (Nat) → (Int32) → Prop} (hrec3 : ∀ (S : hS) (v0 : Nat) (v1 : Int32) (q : Int32 → hS → Prop), Met l yX5_readBracketedTest (hws yX5_readBracketedTest cX5_readBracketedTest 2 (Option.some FieldType.boolean)) ({ frames := 7 + d, cells := 0, slots := 0, locals := 214 + 23 * d }) (hPc G B S [.ref v0, .int v1] (rec 3 q S v0 v1)) (hQ G B (iP q)) 0 0 (fun r => B ≤ r)) (hrec4 : ∀ (S : hS) (v0 : Nat) (v1 : Int32) (q : Int32 → hS → Prop), Met l yX5_readComparison (hws yX5_readComparison cX5_readComparison 3 (Option.some FieldType.boolean)) ({ frames := 7 + d, cells := 0, slots := 0, locals := 214 + 23 * d }) (hPc G B S [.ref v0, .int v1] (rec 4 q S v0 v1)) (hQ G B (iP q)) 0 0 (fun r => B ≤ r)) (S : hS) (v0 : Nat) (v1 : Int32) (q : Int32 → hS → Prop) : Met l yX5_readPlain (hws yX5_readPlain cX5_readPlain 4 (Option.some FieldType.boolean)) ({ frames := (7 + (d + 1)), cells := 0, slots := 0, locals := (214 + 23 * (d + 1)) }) (hPc G B S [.ref v0, .int v1] (wb_X5_readPlain G.2.2.1 rec q S v0 v1)) (hQ G B (iP q)) (0) (0) (fun r => B ≤ r) := by
  refine hMet (rm := { frames := (7 + (d + 1)), cells := 0, slots := 0, locals := (214 + 23 * (d + 1)) }) (lv := [some (.ref v0), some (.int v1), none, none]) (own := RX5) (fr := (7 + (d + 1))) (lo := (214 + 23 * (d + 1))) (by decide) rfl rfl rfl (Nat.le_of_ble_eq_true rfl) rfl (fun hw p e R s m args below meth c hC hr hlk hnm => ?_)
  unfold wb_X5_readPlain at hw
  refine z_iconst hC ic_0 dX5_readPlain_0 ?_
  refine z_istore_n (i := 2) (lv' := [some (.ref v0), some (.int v1), some (.int 0), none]) hC rfl dX5_readPlain_1 (by decide) (hok_v rfl rfl) rfl ?_
  refine z_iconst hC ic_0 dX5_readPlain_2 ?_
  refine z_istore_n (i := 3) (lv' := [some (.ref v0), some (.int v1), some (.int 0), some (.int 0)]) hC rfl dX5_readPlain_3 (by decide) (hok_v rfl rfl) rfl ?_
  refine z_mask (lv' := [some (.ref v0), some (.int v1), some (.int 0), some (.int 0)]) [true, true, true, true] rfl ?_
  obtain ⟨n4, hw⟩ := hw
  exact t_X5_readPlain_b4 hC hr hlk hnm hrec3 hrec4 n4 hw
end
section
variable {p : Program} {l : Launch} {e : Env} {R : Room} {s : State} {m : MethodId} {args : Array Value} {below : List Frame} {meth : Method} {c : Code} {G : hG} {B mc ms : Nat}
def wb_X5_readBracketedTest (tx : Nat → Nat) (rec : Nat → (Int32 → hS → Prop) → hS → (Nat) → (Int32) → Prop) (q : Int32 → hS → Prop) (S : hS) (v0 : Nat) (v1 : Int32) : Prop := (8 ≤ v1 → q 0 S) ∧ (¬ 8 ≤ v1 → oK S v0 5 ∧ w_X5_takeSign (fun x9 S => (x9 = 0 → q 0 S) ∧ (¬ x9 = 0 → oK S v0 5 ∧ rec 0 (fun x19 S => (x19 = 0 → q 0 S) ∧ (¬ x19 = 0 → oK S v0 5 ∧ w_X5_takeSign (fun x28 S => (x28 = 0 → q 0 S) ∧ (¬ x28 = 0 → q 1 S)) S v0 41)) S v0 (v1 + 1))) S v0 40)
set_option maxRecDepth 100000 in
set_option maxHeartbeats 4000000 in
theorem cb_X5_readBracketedTest (l : Launch) (G : hG) (B : Nat) {d : Nat} {rec : Nat → (Int32 → hS → Prop) → hS → (Nat) → (Int32) → Prop} (hrec0 : ∀ (S : hS) (v0 : Nat) (v1 : Int32) (q : Int32 → hS → Prop), Met l yX5_readTest (hws yX5_readTest cX5_readTest 4 (Option.some FieldType.boolean)) ({ frames := 7 + d, cells := 0, slots := 0, locals := 214 + 23 * d }) (hPc G B S [.ref v0, .int v1] (rec 0 q S v0 v1)) (hQ G B (iP q)) 0 0 (fun r => B ≤ r)) (S : hS) (v0 : Nat) (v1 : Int32) (q : Int32 → hS → Prop) : Met l yX5_readBracketedTest (hws yX5_readBracketedTest cX5_readBracketedTest 2 (Option.some FieldType.boolean)) ({ frames := (7 + (d + 1)), cells := 0, slots := 0, locals := (214 + 23 * (d + 1)) }) (hPc G B S [.ref v0, .int v1] (wb_X5_readBracketedTest G.2.2.1 rec q S v0 v1)) (hQ G B (iP q)) (0) (0) (fun r => B ≤ r) := by
  refine hMet (rm := { frames := (7 + (d + 1)), cells := 0, slots := 0, locals := (214 + 23 * (d + 1)) }) (lv := [some (.ref v0), some (.int v1)]) (own := RX5) (fr := (7 + (d + 1))) (lo := (214 + 23 * (d + 1))) (by decide) rfl rfl rfl (Nat.le_of_ble_eq_true rfl) rfl (fun hw p e R s m args below meth c hC hr hlk hnm => ?_)
  unfold wb_X5_readBracketedTest at hw
  refine z_iload_n hC dX5_readBracketedTest_0 rfl rfl ?_
  refine z_bipush hC bi_8 dX5_readBracketedTest_1 ?_
  refine z_icmp_ge (tgt := 38) hC dX5_readBracketedTest_3 (by decide) (fun c3 => ?_) (fun c3 => ?_)
  · have hw := hw.1 c3
    refine z_iconst hC ic_0 dX5_readBracketedTest_38 ?_
    exact z_zret hC hr hlk (hz01 (Or.inl rfl)).1 dX5_readBracketedTest_39 ⟨_, rfl, hw⟩
  · have hw := hw.2 c3
    refine z_aload_n hC dX5_readBracketedTest_6 rfl rfl ?_
    refine z_bipush hC bi_40 dX5_readBracketedTest_7 ?_
    refine z_callV (ku' := 0) (kv' := 0) (n := 1) (As := [.int 40]) (st := []) hC (c_X5_takeSign l G B S v0 40 _) hw.2 hw.1 rfl lk_887 lk_889 lk_12 lk_126 lk_890 hd_X5_takeSign rfl rfl (by show 3 + 1 ≤ _; omega) (by show 8 + (2 + 11) + 100 ≤ _; omega) rfl (Nat.le_of_ble_eq_true rfl) dX5_readBracketedTest_9 (Nat.le_refl 0) (Nat.le_refl 0) (kI (fun x9 S hw => ?_))
    refine z_if_eq (tgt := 38) hC dX5_readBracketedTest_12 (by decide) (fun c12 => ?_) (fun c12 => ?_)
    · have hw := hw.1 c12
      refine z_iconst hC ic_0 dX5_readBracketedTest_38 ?_
      exact z_zret hC hr hlk (hz01 (Or.inl rfl)).1 dX5_readBracketedTest_39 ⟨_, rfl, hw⟩
    · have hw := hw.2 c12
      refine z_aload_n hC dX5_readBracketedTest_15 rfl rfl ?_
      refine z_iload_n hC dX5_readBracketedTest_16 rfl rfl ?_
      refine z_iconst hC ic_1 dX5_readBracketedTest_17 ?_
      refine z_iadd hC dX5_readBracketedTest_18 ?_
      refine z_callV (ku' := 0) (kv' := 0) (n := 1) (As := [.int (v1 + 1)]) (st := []) hC (hrec0 S v0 (v1 + 1) _) hw.2 hw.1 rfl lk_946 lk_948 lk_20 lk_126 lk_949 hd_X5_readTest rfl rfl (by show 7 + d + 1 ≤ _; omega) (by show 8 + (4 + 11) + (214 + 23 * d) ≤ _; omega) rfl (Nat.le_of_ble_eq_true rfl) dX5_readBracketedTest_19 (Nat.le_refl 0) (Nat.le_refl 0) (kI (fun x19 S hw => ?_))
      refine z_if_eq (tgt := 38) hC dX5_readBracketedTest_22 (by decide) (fun c22 => ?_) (fun c22 => ?_)
      · have hw := hw.1 c22
        refine z_iconst hC ic_0 dX5_readBracketedTest_38 ?_
        exact z_zret hC hr hlk (hz01 (Or.inl rfl)).1 dX5_readBracketedTest_39 ⟨_, rfl, hw⟩
      · have hw := hw.2 c22
        refine z_aload_n hC dX5_readBracketedTest_25 rfl rfl ?_
        refine z_bipush hC bi_41 dX5_readBracketedTest_26 ?_
        refine z_callV (ku' := 0) (kv' := 0) (n := 1) (As := [.int 41]) (st := []) hC (c_X5_takeSign l G B S v0 41 _) hw.2 hw.1 rfl lk_887 lk_889 lk_12 lk_126 lk_890 hd_X5_takeSign rfl rfl (by show 3 + 1 ≤ _; omega) (by show 8 + (2 + 11) + 100 ≤ _; omega) rfl (Nat.le_of_ble_eq_true rfl) dX5_readBracketedTest_28 (Nat.le_refl 0) (Nat.le_refl 0) (kI (fun x28 S hw => ?_))
        refine z_if_eq (tgt := 38) hC dX5_readBracketedTest_31 (by decide) (fun c31 => ?_) (fun c31 => ?_)
        · have hw := hw.1 c31
          refine z_iconst hC ic_0 dX5_readBracketedTest_38 ?_
          exact z_zret hC hr hlk (hz01 (Or.inl rfl)).1 dX5_readBracketedTest_39 ⟨_, rfl, hw⟩
        · have hw := hw.2 c31
          refine z_iconst hC ic_1 dX5_readBracketedTest_34 ?_
          refine z_goto (tgt := 39) hC dX5_readBracketedTest_35 (by decide) ?_
          exact z_zret hC hr hlk (hz01 (Or.inr rfl)).1 dX5_readBracketedTest_39 ⟨_, rfl, hw⟩
end
section
variable {p : Program} {l : Launch} {e : Env} {R : Room} {s : State} {m : MethodId} {args : Array Value} {below : List Frame} {meth : Method} {c : Code} {G : hG} {B mc ms : Nat}
def w_X5_readComparison_b67 (tx : Nat → Nat) (rec : Nat → (Int32 → hS → Prop) → hS → (Nat) → (Int32) → Prop) (q : Int32 → hS → Prop) (S : hS) (v0 : Nat) (v1 : Int32) (v2 : Int32) : Prop := gP S v0 5 1 (fun x68 => oK S x68 9 ∧ w_X9_advance (fun S => oK S v0 5 ∧ rec 5 (fun x76 S => (¬ x76 = 0 → gP S v0 5 0 (fun x85 => oK S x85 10 ∧ w_X10_add (fun x90 S => q 1 S) S x85 v2 0)) ∧ (x76 = 0 → q 0 S)) S v0 v1) S x68)
set_option maxRecDepth 100000 in
set_option maxHeartbeats 4000000 in
theorem t_X5_readComparison_b67 {d : Nat} (hC : zC p R s m args c cX5_readComparison 3 RX5 G B mc ms (7 + (d + 1)) (214 + 23 * (d + 1))) (hr : meth.sig.returnType = (Option.some FieldType.boolean)) (hlk : meth.locks = false) (hnm : meth.name = "readComparison") {rec : Nat → (Int32 → hS → Prop) → hS → (Nat) → (Int32) → Prop} (hrec5 : ∀ (S : hS) (v0 : Nat) (v1 : Int32) (q : Int32 → hS → Prop), Met l yX5_readSum (hws yX5_readSum cX5_readSum 4 (Option.some FieldType.boolean)) ({ frames := 7 + d, cells := 0, slots := 0, locals := 214 + 23 * d }) (hPc G B S [.ref v0, .int v1] (rec 5 q S v0 v1)) (hQ G B (iP q)) 0 0 (fun r => B ≤ r)) {q : Int32 → hS → Prop} {S : hS} {v0 : Nat} {v1 : Int32} {v2 : Int32} (hw : w_X5_readComparison_b67 G.2.2.1 rec q S v0 v1 v2) : Z p l e R s m args below meth c (MQ below (hQ G B (iP q)) args s mc ms (fun r => B ≤ r)) G B mc ms 3 S 0 0 67 [some (.ref v0), some (.int v1), some (.int v2)] [] := by
  unfold w_X5_readComparison_b67 at hw
  refine z_aload_n hC dX5_readComparison_67 rfl rfl ?_
  refine z_getP hC FX5 1 lk_380 dX5_readComparison_68 (by decide) hw (fun x68 hw => ?_)
  refine z_callV (ku' := 0) (kv' := 0) (n := 0) (As := []) (st := []) hC (c_X9_advance l G B S x68 _) hw.2 hw.1 rfl lk_870 lk_791 lk_792 lk_125 lk_793 hd_X9_advance rfl rfl (by show 2 + 1 ≤ _; omega) (by show 8 + (1 + 11) + 80 ≤ _; omega) rfl (Nat.le_of_ble_eq_true rfl) dX5_readComparison_71 (Nat.le_refl 0) (Nat.le_refl 0) (kV (fun S hw => ?_))
  refine z_aload_n hC dX5_readComparison_74 rfl rfl ?_
  refine z_iload_n hC dX5_readComparison_75 rfl rfl ?_
  refine z_callV (ku' := 0) (kv' := 0) (n := 1) (As := [.int v1]) (st := []) hC (hrec5 S v0 v1 _) hw.2 hw.1 rfl lk_871 lk_873 lk_9 lk_126 lk_874 hd_X5_readSum rfl rfl (by show 7 + d + 1 ≤ _; omega) (by show 8 + (4 + 11) + (214 + 23 * d) ≤ _; omega) rfl (Nat.le_of_ble_eq_true rfl) dX5_readComparison_76 (Nat.le_refl 0) (Nat.le_refl 0) (kI (fun x76 S hw => ?_))
  refine z_if_ne (tgt := 84) hC dX5_readComparison_79 (by decide) (fun c79 => ?_) (fun c79 => ?_)
  · have hw := hw.1 c79
    refine z_aload_n hC dX5_readComparison_84 rfl rfl ?_
    refine z_getP hC FX5 0 lk_378 dX5_readComparison_85 (by decide) hw (fun x85 hw => ?_)
    refine z_iload_n hC dX5_readComparison_88 rfl rfl ?_
    refine z_iconst hC ic_0 dX5_readComparison_89 ?_
    refine z_callV (ku' := 0) (kv' := 0) (n := 2) (As := [.int v2, .int 0]) (st := []) hC (c_X10_add l G B S x85 v2 0 _) hw.2 hw.1 rfl lk_895 lk_896 lk_897 lk_127 lk_898 hd_X10_add rfl rfl (by show 1 + 1 ≤ _; omega) (by show 8 + (4 + 11) + 60 ≤ _; omega) rfl (Nat.le_of_ble_eq_true rfl) dX5_readComparison_90 (Nat.le_refl 0) (Nat.le_refl 0) (kI (fun x90 S hw => ?_))
    refine z_pop hC rfl dX5_readComparison_93 ?_
    refine z_iconst hC ic_1 dX5_readComparison_94 ?_
    exact z_zret hC hr hlk (hz01 (Or.inr rfl)).1 dX5_readComparison_95 ⟨_, rfl, hw⟩
  · have hw := hw.2 c79
    refine z_iconst hC ic_0 dX5_readComparison_82 ?_
    exact z_zret hC hr hlk (hz01 (Or.inl rfl)).1 dX5_readComparison_83 ⟨_, rfl, hw⟩
def w_X5_readComparison_b46 (tx : Nat → Nat) (rec : Nat → (Int32 → hS → Prop) → hS → (Nat) → (Int32) → Prop) (q : Int32 → hS → Prop) (S : hS) (v0 : Nat) (v1 : Int32) (t0 : Int32) : Prop := (¬ t0 = 9 → w_X5_readComparison_b67 tx rec q S v0 v1 t0) ∧ (t0 = 9 → gP S v0 5 1 (fun x54 => oK S x54 9 ∧ w_X9_isSign (fun x59 S => (¬ x59 = 0 → w_X5_readComparison_b67 tx rec q S v0 v1 t0) ∧ (x59 = 0 → q 0 S)) S x54 61))
set_option maxRecDepth 100000 in
set_option maxHeartbeats 4000000 in
theorem t_X5_readComparison_b46 {d : Nat} (hC : zC p R s m args c cX5_readComparison 3 RX5 G B mc ms (7 + (d + 1)) (214 + 23 * (d + 1))) (hr : meth.sig.returnType = (Option.some FieldType.boolean)) (hlk : meth.locks = false) (hnm : meth.name = "readComparison") {rec : Nat → (Int32 → hS → Prop) → hS → (Nat) → (Int32) → Prop} (hrec5 : ∀ (S : hS) (v0 : Nat) (v1 : Int32) (q : Int32 → hS → Prop), Met l yX5_readSum (hws yX5_readSum cX5_readSum 4 (Option.some FieldType.boolean)) ({ frames := 7 + d, cells := 0, slots := 0, locals := 214 + 23 * d }) (hPc G B S [.ref v0, .int v1] (rec 5 q S v0 v1)) (hQ G B (iP q)) 0 0 (fun r => B ≤ r)) {q : Int32 → hS → Prop} {S : hS} {v0 : Nat} {v1 : Int32} {t0 : Int32} (hw : w_X5_readComparison_b46 G.2.2.1 rec q S v0 v1 t0) : Z p l e R s m args below meth c (MQ below (hQ G B (iP q)) args s mc ms (fun r => B ≤ r)) G B mc ms 3 S 0 0 46 [some (.ref v0), some (.int v1), none] [.int t0] := by
  unfold w_X5_readComparison_b46 at hw
  refine z_istore_n (i := 2) (lv' := [some (.ref v0), some (.int v1), some (.int t0)]) hC rfl dX5_readComparison_46 (by decide) (hok_v rfl rfl) rfl ?_
  refine z_iload_n hC dX5_readComparison_47 rfl rfl ?_
  refine z_bipush hC bi_9 dX5_readComparison_48 ?_
  refine z_icmp_ne (tgt := 67) hC dX5_readComparison_50 (by decide) (fun c50 => ?_) (fun c50 => ?_)
  · have hw := hw.1 c50
    refine z_mask (lv' := [some (.ref v0), some (.int v1), some (.int t0)]) [true, true, true] rfl ?_
    exact t_X5_readComparison_b67 hC hr hlk hnm hrec5 hw
  · have hw := hw.2 c50
    refine z_aload_n hC dX5_readComparison_53 rfl rfl ?_
    refine z_getP hC FX5 1 lk_380 dX5_readComparison_54 (by decide) hw (fun x54 hw => ?_)
    refine z_bipush hC bi_61 dX5_readComparison_57 ?_
    refine z_callV (ku' := 0) (kv' := 0) (n := 1) (As := [.int 61]) (st := []) hC (c_X9_isSign l G B S x54 61 _) hw.2 hw.1 rfl lk_883 lk_884 lk_885 lk_125 lk_886 hd_X9_isSign rfl rfl (by show 1 + 1 ≤ _; omega) (by show 8 + (2 + 11) + 60 ≤ _; omega) rfl (Nat.le_of_ble_eq_true rfl) dX5_readComparison_59 (Nat.le_refl 0) (Nat.le_refl 0) (kI (fun x59 S hw => ?_))
    refine z_if_ne (tgt := 67) hC dX5_readComparison_62 (by decide) (fun c62 => ?_) (fun c62 => ?_)
    · have hw := hw.1 c62
      refine z_mask (lv' := [some (.ref v0), some (.int v1), some (.int t0)]) [true, true, true] rfl ?_
      exact t_X5_readComparison_b67 hC hr hlk hnm hrec5 hw
    · have hw := hw.2 c62
      refine z_iconst hC ic_0 dX5_readComparison_65 ?_
      exact z_zret hC hr hlk (hz01 (Or.inl rfl)).1 dX5_readComparison_66 ⟨_, rfl, hw⟩
def wb_X5_readComparison (tx : Nat → Nat) (rec : Nat → (Int32 → hS → Prop) → hS → (Nat) → (Int32) → Prop) (q : Int32 → hS → Prop) (S : hS) (v0 : Nat) (v1 : Int32) : Prop := oK S v0 5 ∧ rec 5 (fun x2 S => (¬ x2 = 0 → gP S v0 5 1 (fun x11 => oK S x11 9 ∧ w_X9_isSign (fun x16 S => (x16 = 0 → gP S v0 5 1 (fun x28 => oK S x28 9 ∧ w_X9_isSign (fun x33 S => (x33 = 0 → w_X5_readComparison_b46 tx rec q S v0 v1 9) ∧ (¬ x33 = 0 → w_X5_readComparison_b46 tx rec q S v0 v1 8)) S x28 62)) ∧ (¬ x16 = 0 → w_X5_readComparison_b46 tx rec q S v0 v1 7)) S x11 60)) ∧ (x2 = 0 → q 0 S)) S v0 v1
set_option maxRecDepth 100000 in
set_option maxHeartbeats 4000000 in
theorem cb_X5_readComparison (l : Launch) (G : hG) (B : Nat) {d : Nat} {rec : Nat → (Int32 → hS → Prop) → hS → (Nat) → (Int32) → Prop} (hrec5 : ∀ (S : hS) (v0 : Nat) (v1 : Int32) (q : Int32 → hS → Prop), Met l yX5_readSum (hws yX5_readSum cX5_readSum 4 (Option.some FieldType.boolean)) ({ frames := 7 + d, cells := 0, slots := 0, locals := 214 + 23 * d }) (hPc G B S [.ref v0, .int v1] (rec 5 q S v0 v1)) (hQ G B (iP q)) 0 0 (fun r => B ≤ r)) (S : hS) (v0 : Nat) (v1 : Int32) (q : Int32 → hS → Prop) : Met l yX5_readComparison (hws yX5_readComparison cX5_readComparison 3 (Option.some FieldType.boolean)) ({ frames := (7 + (d + 1)), cells := 0, slots := 0, locals := (214 + 23 * (d + 1)) }) (hPc G B S [.ref v0, .int v1] (wb_X5_readComparison G.2.2.1 rec q S v0 v1)) (hQ G B (iP q)) (0) (0) (fun r => B ≤ r) := by
  refine hMet (rm := { frames := (7 + (d + 1)), cells := 0, slots := 0, locals := (214 + 23 * (d + 1)) }) (lv := [some (.ref v0), some (.int v1), none]) (own := RX5) (fr := (7 + (d + 1))) (lo := (214 + 23 * (d + 1))) (by decide) rfl rfl rfl (Nat.le_of_ble_eq_true rfl) rfl (fun hw p e R s m args below meth c hC hr hlk hnm => ?_)
  unfold wb_X5_readComparison at hw
  refine z_aload_n hC dX5_readComparison_0 rfl rfl ?_
  refine z_iload_n hC dX5_readComparison_1 rfl rfl ?_
  refine z_callV (ku' := 0) (kv' := 0) (n := 1) (As := [.int v1]) (st := []) hC (hrec5 S v0 v1 _) hw.2 hw.1 rfl lk_871 lk_873 lk_9 lk_126 lk_874 hd_X5_readSum rfl rfl (by show 7 + d + 1 ≤ _; omega) (by show 8 + (4 + 11) + (214 + 23 * d) ≤ _; omega) rfl (Nat.le_of_ble_eq_true rfl) dX5_readComparison_2 (Nat.le_refl 0) (Nat.le_refl 0) (kI (fun x2 S hw => ?_))
  refine z_if_ne (tgt := 10) hC dX5_readComparison_5 (by decide) (fun c5 => ?_) (fun c5 => ?_)
  · have hw := hw.1 c5
    refine z_aload_n hC dX5_readComparison_10 rfl rfl ?_
    refine z_getP hC FX5 1 lk_380 dX5_readComparison_11 (by decide) hw (fun x11 hw => ?_)
    refine z_bipush hC bi_60 dX5_readComparison_14 ?_
    refine z_callV (ku' := 0) (kv' := 0) (n := 1) (As := [.int 60]) (st := []) hC (c_X9_isSign l G B S x11 60 _) hw.2 hw.1 rfl lk_883 lk_884 lk_885 lk_125 lk_886 hd_X9_isSign rfl rfl (by show 1 + 1 ≤ _; omega) (by show 8 + (2 + 11) + 60 ≤ _; omega) rfl (Nat.le_of_ble_eq_true rfl) dX5_readComparison_16 (Nat.le_refl 0) (Nat.le_refl 0) (kI (fun x16 S hw => ?_))
    refine z_if_eq (tgt := 27) hC dX5_readComparison_19 (by decide) (fun c19 => ?_) (fun c19 => ?_)
    · have hw := hw.1 c19
      refine z_aload_n hC dX5_readComparison_27 rfl rfl ?_
      refine z_getP hC FX5 1 lk_380 dX5_readComparison_28 (by decide) hw (fun x28 hw => ?_)
      refine z_bipush hC bi_62 dX5_readComparison_31 ?_
      refine z_callV (ku' := 0) (kv' := 0) (n := 1) (As := [.int 62]) (st := []) hC (c_X9_isSign l G B S x28 62 _) hw.2 hw.1 rfl lk_883 lk_884 lk_885 lk_125 lk_886 hd_X9_isSign rfl rfl (by show 1 + 1 ≤ _; omega) (by show 8 + (2 + 11) + 60 ≤ _; omega) rfl (Nat.le_of_ble_eq_true rfl) dX5_readComparison_33 (Nat.le_refl 0) (Nat.le_refl 0) (kI (fun x33 S hw => ?_))
      refine z_if_eq (tgt := 44) hC dX5_readComparison_36 (by decide) (fun c36 => ?_) (fun c36 => ?_)
      · have hw := hw.1 c36
        refine z_bipush hC bi_9 dX5_readComparison_44 ?_
        refine z_mask (lv' := [some (.ref v0), some (.int v1), none]) [true, true, false] rfl ?_
        exact t_X5_readComparison_b46 hC hr hlk hnm hrec5 hw
      · have hw := hw.2 c36
        refine z_bipush hC bi_8 dX5_readComparison_39 ?_
        refine z_goto (tgt := 46) hC dX5_readComparison_41 (by decide) ?_
        refine z_mask (lv' := [some (.ref v0), some (.int v1), none]) [true, true, false] rfl ?_
        exact t_X5_readComparison_b46 hC hr hlk hnm hrec5 hw
    · have hw := hw.2 c19
      refine z_bipush hC bi_7 dX5_readComparison_22 ?_
      refine z_goto (tgt := 46) hC dX5_readComparison_24 (by decide) ?_
      refine z_mask (lv' := [some (.ref v0), some (.int v1), none]) [true, true, false] rfl ?_
      exact t_X5_readComparison_b46 hC hr hlk hnm hrec5 hw
  · have hw := hw.2 c5
    refine z_iconst hC ic_0 dX5_readComparison_8 ?_
    exact z_zret hC hr hlk (hz01 (Or.inl rfl)).1 dX5_readComparison_9 ⟨_, rfl, hw⟩
end
section
variable {p : Program} {l : Launch} {e : Env} {R : Room} {s : State} {m : MethodId} {args : Array Value} {below : List Frame} {meth : Method} {c : Code} {G : hG} {B mc ms : Nat}
def w_X5_readSum_b60 (tx : Nat → Nat) (rec : Nat → (Int32 → hS → Prop) → hS → (Nat) → (Int32) → Prop) (q : Int32 → hS → Prop) (K12 : hS → (Nat) → (Int32) → (Int32) → Prop) (S : hS) (v0 : Nat) (v1 : Int32) (v2 : Int32) (t0 : Int32) : Prop := gP S v0 5 1 (fun x62 => oK S x62 9 ∧ w_X9_advance (fun S => oK S v0 5 ∧ rec 6 (fun x70 S => (¬ x70 = 0 → gP S v0 5 0 (fun x79 => oK S x79 10 ∧ w_X10_add (fun x84 S => ∀ y88 : Int32, y88 = v2 + 1 → K12 S v0 v1 y88) S x79 t0 0)) ∧ (x70 = 0 → q 0 S)) S v0 v1) S x62)
set_option maxRecDepth 100000 in
set_option maxHeartbeats 4000000 in
theorem t_X5_readSum_b60 {d : Nat} (hC : zC p R s m args c cX5_readSum 4 RX5 G B mc ms (7 + (d + 1)) (214 + 23 * (d + 1))) (hr : meth.sig.returnType = (Option.some FieldType.boolean)) (hlk : meth.locks = false) (hnm : meth.name = "readSum") {rec : Nat → (Int32 → hS → Prop) → hS → (Nat) → (Int32) → Prop} (hrec6 : ∀ (S : hS) (v0 : Nat) (v1 : Int32) (q : Int32 → hS → Prop), Met l yX5_readTerm (hws yX5_readTerm cX5_readTerm 4 (Option.some FieldType.boolean)) ({ frames := 7 + d, cells := 0, slots := 0, locals := 214 + 23 * d }) (hPc G B S [.ref v0, .int v1] (rec 6 q S v0 v1)) (hQ G B (iP q)) 0 0 (fun r => B ≤ r)) {q : Int32 → hS → Prop} {K12 : hS → (Nat) → (Int32) → (Int32) → Prop} (hK12 : ∀ {S : hS} {v0 : Nat} {v1 : Int32} {v2 : Int32}, K12 S v0 v1 v2 → Z p l e R s m args below meth c (MQ below (hQ G B (iP q)) args s mc ms (fun r => B ≤ r)) G B mc ms 4 S 0 0 12 [some (.ref v0), some (.int v1), some (.int v2), none] []) {S : hS} {v0 : Nat} {v1 : Int32} {v2 : Int32} {t0 : Int32} (hw : w_X5_readSum_b60 G.2.2.1 rec q K12 S v0 v1 v2 t0) : Z p l e R s m args below meth c (MQ below (hQ G B (iP q)) args s mc ms (fun r => B ≤ r)) G B mc ms 4 S 0 0 60 [some (.ref v0), some (.int v1), some (.int v2), none] [.int t0] := by
  unfold w_X5_readSum_b60 at hw
  refine z_istore_n (i := 3) (lv' := [some (.ref v0), some (.int v1), some (.int v2), some (.int t0)]) hC rfl dX5_readSum_60 (by decide) (hok_v rfl rfl) rfl ?_
  refine z_aload_n hC dX5_readSum_61 rfl rfl ?_
  refine z_getP hC FX5 1 lk_380 dX5_readSum_62 (by decide) hw (fun x62 hw => ?_)
  refine z_callV (ku' := 0) (kv' := 0) (n := 0) (As := []) (st := []) hC (c_X9_advance l G B S x62 _) hw.2 hw.1 rfl lk_870 lk_791 lk_792 lk_125 lk_793 hd_X9_advance rfl rfl (by show 2 + 1 ≤ _; omega) (by show 8 + (1 + 11) + 80 ≤ _; omega) rfl (Nat.le_of_ble_eq_true rfl) dX5_readSum_65 (Nat.le_refl 0) (Nat.le_refl 0) (kV (fun S hw => ?_))
  refine z_aload_n hC dX5_readSum_68 rfl rfl ?_
  refine z_iload_n hC dX5_readSum_69 rfl rfl ?_
  refine z_callV (ku' := 0) (kv' := 0) (n := 1) (As := [.int v1]) (st := []) hC (hrec6 S v0 v1 _) hw.2 hw.1 rfl lk_875 lk_877 lk_10 lk_126 lk_878 hd_X5_readTerm rfl rfl (by show 7 + d + 1 ≤ _; omega) (by show 8 + (4 + 11) + (214 + 23 * d) ≤ _; omega) rfl (Nat.le_of_ble_eq_true rfl) dX5_readSum_70 (Nat.le_refl 0) (Nat.le_refl 0) (kI (fun x70 S hw => ?_))
  refine z_if_ne (tgt := 78) hC dX5_readSum_73 (by decide) (fun c73 => ?_) (fun c73 => ?_)
  · have hw := hw.1 c73
    refine z_aload_n hC dX5_readSum_78 rfl rfl ?_
    refine z_getP hC FX5 0 lk_378 dX5_readSum_79 (by decide) hw (fun x79 hw => ?_)
    refine z_iload_n hC dX5_readSum_82 rfl rfl ?_
    refine z_iconst hC ic_0 dX5_readSum_83 ?_
    refine z_callV (ku' := 0) (kv' := 0) (n := 2) (As := [.int t0, .int 0]) (st := []) hC (c_X10_add l G B S x79 t0 0 _) hw.2 hw.1 rfl lk_895 lk_896 lk_897 lk_127 lk_898 hd_X10_add rfl rfl (by show 1 + 1 ≤ _; omega) (by show 8 + (4 + 11) + 60 ≤ _; omega) rfl (Nat.le_of_ble_eq_true rfl) dX5_readSum_84 (Nat.le_refl 0) (Nat.le_refl 0) (kI (fun x84 S hw => ?_))
    refine z_pop hC rfl dX5_readSum_87 ?_
    refine z_inc (i := 2) hC ic_1 dX5_readSum_88 rfl (by decide) (hok_v rfl rfl) (fun y88 e88 => ?_)
    have hw := hw y88 e88
    refine z_goto (tgt := 12) hC dX5_readSum_91 (by decide) ?_
    refine z_mask (lv' := [some (.ref v0), some (.int v1), some (.int y88), none]) [true, true, true, false] rfl ?_
    exact hK12 hw
  · have hw := hw.2 c73
    refine z_iconst hC ic_0 dX5_readSum_76 ?_
    exact z_zret hC hr hlk (hz01 (Or.inl rfl)).1 dX5_readSum_77 ⟨_, rfl, hw⟩
def w_X5_readSum_b43 (tx : Nat → Nat) (rec : Nat → (Int32 → hS → Prop) → hS → (Nat) → (Int32) → Prop) (q : Int32 → hS → Prop) (K12 : hS → (Nat) → (Int32) → (Int32) → Prop) (S : hS) (v0 : Nat) (v1 : Int32) (v2 : Int32) : Prop := gP S v0 5 1 (fun x44 => oK S x44 9 ∧ w_X9_isSign (fun x49 S => (x49 = 0 → w_X5_readSum_b60 tx rec q K12 S v0 v1 v2 3) ∧ (¬ x49 = 0 → w_X5_readSum_b60 tx rec q K12 S v0 v1 v2 2)) S x44 43)
set_option maxRecDepth 100000 in
set_option maxHeartbeats 4000000 in
theorem t_X5_readSum_b43 {d : Nat} (hC : zC p R s m args c cX5_readSum 4 RX5 G B mc ms (7 + (d + 1)) (214 + 23 * (d + 1))) (hr : meth.sig.returnType = (Option.some FieldType.boolean)) (hlk : meth.locks = false) (hnm : meth.name = "readSum") {rec : Nat → (Int32 → hS → Prop) → hS → (Nat) → (Int32) → Prop} (hrec6 : ∀ (S : hS) (v0 : Nat) (v1 : Int32) (q : Int32 → hS → Prop), Met l yX5_readTerm (hws yX5_readTerm cX5_readTerm 4 (Option.some FieldType.boolean)) ({ frames := 7 + d, cells := 0, slots := 0, locals := 214 + 23 * d }) (hPc G B S [.ref v0, .int v1] (rec 6 q S v0 v1)) (hQ G B (iP q)) 0 0 (fun r => B ≤ r)) {q : Int32 → hS → Prop} {K12 : hS → (Nat) → (Int32) → (Int32) → Prop} (hK12 : ∀ {S : hS} {v0 : Nat} {v1 : Int32} {v2 : Int32}, K12 S v0 v1 v2 → Z p l e R s m args below meth c (MQ below (hQ G B (iP q)) args s mc ms (fun r => B ≤ r)) G B mc ms 4 S 0 0 12 [some (.ref v0), some (.int v1), some (.int v2), none] []) {S : hS} {v0 : Nat} {v1 : Int32} {v2 : Int32} (hw : w_X5_readSum_b43 G.2.2.1 rec q K12 S v0 v1 v2) : Z p l e R s m args below meth c (MQ below (hQ G B (iP q)) args s mc ms (fun r => B ≤ r)) G B mc ms 4 S 0 0 43 [some (.ref v0), some (.int v1), some (.int v2), none] [] := by
  unfold w_X5_readSum_b43 at hw
  refine z_aload_n hC dX5_readSum_43 rfl rfl ?_
  refine z_getP hC FX5 1 lk_380 dX5_readSum_44 (by decide) hw (fun x44 hw => ?_)
  refine z_bipush hC bi_43 dX5_readSum_47 ?_
  refine z_callV (ku' := 0) (kv' := 0) (n := 1) (As := [.int 43]) (st := []) hC (c_X9_isSign l G B S x44 43 _) hw.2 hw.1 rfl lk_883 lk_884 lk_885 lk_125 lk_886 hd_X9_isSign rfl rfl (by show 1 + 1 ≤ _; omega) (by show 8 + (2 + 11) + 60 ≤ _; omega) rfl (Nat.le_of_ble_eq_true rfl) dX5_readSum_49 (Nat.le_refl 0) (Nat.le_refl 0) (kI (fun x49 S hw => ?_))
  refine z_if_eq (tgt := 59) hC dX5_readSum_52 (by decide) (fun c52 => ?_) (fun c52 => ?_)
  · have hw := hw.1 c52
    refine z_iconst hC ic_3 dX5_readSum_59 ?_
    refine z_mask (lv' := [some (.ref v0), some (.int v1), some (.int v2), none]) [true, true, true, false] rfl ?_
    exact t_X5_readSum_b60 hC hr hlk hnm hrec6 hK12 hw
  · have hw := hw.2 c52
    refine z_iconst hC ic_2 dX5_readSum_55 ?_
    refine z_goto (tgt := 60) hC dX5_readSum_56 (by decide) ?_
    refine z_mask (lv' := [some (.ref v0), some (.int v1), some (.int v2), none]) [true, true, true, false] rfl ?_
    exact t_X5_readSum_b60 hC hr hlk hnm hrec6 hK12 hw
def w_X5_readSum_b12 (tx : Nat → Nat) (rec : Nat → (Int32 → hS → Prop) → hS → (Nat) → (Int32) → Prop) (q : Int32 → hS → Prop) : Nat → hS → (Nat) → (Int32) → (Int32) → Prop
  | 0, _, _, _, _ => False
  | n + 1, S, v0, v1, v2 => (400 ≤ v2 → q 1 S) ∧ (¬ 400 ≤ v2 → gP S v0 5 1 (fun x20 => oK S x20 9 ∧ w_X9_isSign (fun x25 S => (¬ x25 = 0 → w_X5_readSum_b43 tx rec q (fun S v0 v1 v2 => w_X5_readSum_b12 tx rec q n S v0 v1 v2) S v0 v1 v2) ∧ (x25 = 0 → gP S v0 5 1 (fun x32 => oK S x32 9 ∧ w_X9_isSign (fun x37 S => (x37 = 0 → q 1 S) ∧ (¬ x37 = 0 → w_X5_readSum_b43 tx rec q (fun S v0 v1 v2 => w_X5_readSum_b12 tx rec q n S v0 v1 v2) S v0 v1 v2)) S x32 45))) S x20 43))
set_option maxRecDepth 100000 in
set_option maxHeartbeats 4000000 in
theorem t_X5_readSum_b12 {d : Nat} (hC : zC p R s m args c cX5_readSum 4 RX5 G B mc ms (7 + (d + 1)) (214 + 23 * (d + 1))) (hr : meth.sig.returnType = (Option.some FieldType.boolean)) (hlk : meth.locks = false) (hnm : meth.name = "readSum") {rec : Nat → (Int32 → hS → Prop) → hS → (Nat) → (Int32) → Prop} (hrec6 : ∀ (S : hS) (v0 : Nat) (v1 : Int32) (q : Int32 → hS → Prop), Met l yX5_readTerm (hws yX5_readTerm cX5_readTerm 4 (Option.some FieldType.boolean)) ({ frames := 7 + d, cells := 0, slots := 0, locals := 214 + 23 * d }) (hPc G B S [.ref v0, .int v1] (rec 6 q S v0 v1)) (hQ G B (iP q)) 0 0 (fun r => B ≤ r)) {q : Int32 → hS → Prop} (n : Nat) : ∀ {S : hS} {v0 : Nat} {v1 : Int32} {v2 : Int32} (hw : w_X5_readSum_b12 G.2.2.1 rec q n S v0 v1 v2), Z p l e R s m args below meth c (MQ below (hQ G B (iP q)) args s mc ms (fun r => B ≤ r)) G B mc ms 4 S 0 0 12 [some (.ref v0), some (.int v1), some (.int v2), none] [] := by
  induction n with
  | zero => intro S v0 v1 v2 hw; exact (by rw [w_X5_readSum_b12] at hw; exact hw.elim)
  | succ n ih =>
    intro S v0 v1 v2 hw
    rw [w_X5_readSum_b12] at hw
    refine z_iload_n hC dX5_readSum_12 rfl rfl ?_
    refine z_sipush hC si_400 dX5_readSum_13 ?_
    refine z_icmp_ge (tgt := 94) hC dX5_readSum_16 (by decide) (fun c16 => ?_) (fun c16 => ?_)
    · have hw := hw.1 c16
      refine z_iconst hC ic_1 dX5_readSum_94 ?_
      exact z_zret hC hr hlk (hz01 (Or.inr rfl)).1 dX5_readSum_95 ⟨_, rfl, hw⟩
    · have hw := hw.2 c16
      refine z_aload_n hC dX5_readSum_19 rfl rfl ?_
      refine z_getP hC FX5 1 lk_380 dX5_readSum_20 (by decide) hw (fun x20 hw => ?_)
      refine z_bipush hC bi_43 dX5_readSum_23 ?_
      refine z_callV (ku' := 0) (kv' := 0) (n := 1) (As := [.int 43]) (st := []) hC (c_X9_isSign l G B S x20 43 _) hw.2 hw.1 rfl lk_883 lk_884 lk_885 lk_125 lk_886 hd_X9_isSign rfl rfl (by show 1 + 1 ≤ _; omega) (by show 8 + (2 + 11) + 60 ≤ _; omega) rfl (Nat.le_of_ble_eq_true rfl) dX5_readSum_25 (Nat.le_refl 0) (Nat.le_refl 0) (kI (fun x25 S hw => ?_))
      refine z_if_ne (tgt := 43) hC dX5_readSum_28 (by decide) (fun c28 => ?_) (fun c28 => ?_)
      · have hw := hw.1 c28
        refine z_mask (lv' := [some (.ref v0), some (.int v1), some (.int v2), none]) [true, true, true, false] rfl ?_
        exact t_X5_readSum_b43 hC hr hlk hnm hrec6 (fun hw => ih hw) hw
      · have hw := hw.2 c28
        refine z_aload_n hC dX5_readSum_31 rfl rfl ?_
        refine z_getP hC FX5 1 lk_380 dX5_readSum_32 (by decide) hw (fun x32 hw => ?_)
        refine z_bipush hC bi_45 dX5_readSum_35 ?_
        refine z_callV (ku' := 0) (kv' := 0) (n := 1) (As := [.int 45]) (st := []) hC (c_X9_isSign l G B S x32 45 _) hw.2 hw.1 rfl lk_883 lk_884 lk_885 lk_125 lk_886 hd_X9_isSign rfl rfl (by show 1 + 1 ≤ _; omega) (by show 8 + (2 + 11) + 60 ≤ _; omega) rfl (Nat.le_of_ble_eq_true rfl) dX5_readSum_37 (Nat.le_refl 0) (Nat.le_refl 0) (kI (fun x37 S hw => ?_))
        refine z_if_eq (tgt := 94) hC dX5_readSum_40 (by decide) (fun c40 => ?_) (fun c40 => ?_)
        · have hw := hw.1 c40
          refine z_iconst hC ic_1 dX5_readSum_94 ?_
          exact z_zret hC hr hlk (hz01 (Or.inr rfl)).1 dX5_readSum_95 ⟨_, rfl, hw⟩
        · have hw := hw.2 c40
          refine z_mask (lv' := [some (.ref v0), some (.int v1), some (.int v2), none]) [true, true, true, false] rfl ?_
          exact t_X5_readSum_b43 hC hr hlk hnm hrec6 (fun hw => ih hw) hw
def wb_X5_readSum (tx : Nat → Nat) (rec : Nat → (Int32 → hS → Prop) → hS → (Nat) → (Int32) → Prop) (q : Int32 → hS → Prop) (S : hS) (v0 : Nat) (v1 : Int32) : Prop := oK S v0 5 ∧ rec 6 (fun x2 S => (¬ x2 = 0 → (∃ n12 : Nat, w_X5_readSum_b12 tx rec q n12 S v0 v1 0)) ∧ (x2 = 0 → q 0 S)) S v0 v1
set_option maxRecDepth 100000 in
set_option maxHeartbeats 4000000 in
theorem cb_X5_readSum (l : Launch) (G : hG) (B : Nat) {d : Nat} {rec : Nat → (Int32 → hS → Prop) → hS → (Nat) → (Int32) → Prop} (hrec6 : ∀ (S : hS) (v0 : Nat) (v1 : Int32) (q : Int32 → hS → Prop), Met l yX5_readTerm (hws yX5_readTerm cX5_readTerm 4 (Option.some FieldType.boolean)) ({ frames := 7 + d, cells := 0, slots := 0, locals := 214 + 23 * d }) (hPc G B S [.ref v0, .int v1] (rec 6 q S v0 v1)) (hQ G B (iP q)) 0 0 (fun r => B ≤ r)) (S : hS) (v0 : Nat) (v1 : Int32) (q : Int32 → hS → Prop) : Met l yX5_readSum (hws yX5_readSum cX5_readSum 4 (Option.some FieldType.boolean)) ({ frames := (7 + (d + 1)), cells := 0, slots := 0, locals := (214 + 23 * (d + 1)) }) (hPc G B S [.ref v0, .int v1] (wb_X5_readSum G.2.2.1 rec q S v0 v1)) (hQ G B (iP q)) (0) (0) (fun r => B ≤ r) := by
  refine hMet (rm := { frames := (7 + (d + 1)), cells := 0, slots := 0, locals := (214 + 23 * (d + 1)) }) (lv := [some (.ref v0), some (.int v1), none, none]) (own := RX5) (fr := (7 + (d + 1))) (lo := (214 + 23 * (d + 1))) (by decide) rfl rfl rfl (Nat.le_of_ble_eq_true rfl) rfl (fun hw p e R s m args below meth c hC hr hlk hnm => ?_)
  unfold wb_X5_readSum at hw
  refine z_aload_n hC dX5_readSum_0 rfl rfl ?_
  refine z_iload_n hC dX5_readSum_1 rfl rfl ?_
  refine z_callV (ku' := 0) (kv' := 0) (n := 1) (As := [.int v1]) (st := []) hC (hrec6 S v0 v1 _) hw.2 hw.1 rfl lk_875 lk_877 lk_10 lk_126 lk_878 hd_X5_readTerm rfl rfl (by show 7 + d + 1 ≤ _; omega) (by show 8 + (4 + 11) + (214 + 23 * d) ≤ _; omega) rfl (Nat.le_of_ble_eq_true rfl) dX5_readSum_2 (Nat.le_refl 0) (Nat.le_refl 0) (kI (fun x2 S hw => ?_))
  refine z_if_ne (tgt := 10) hC dX5_readSum_5 (by decide) (fun c5 => ?_) (fun c5 => ?_)
  · have hw := hw.1 c5
    refine z_iconst hC ic_0 dX5_readSum_10 ?_
    refine z_istore_n (i := 2) (lv' := [some (.ref v0), some (.int v1), some (.int 0), none]) hC rfl dX5_readSum_11 (by decide) (hok_v rfl rfl) rfl ?_
    refine z_mask (lv' := [some (.ref v0), some (.int v1), some (.int 0), none]) [true, true, true, false] rfl ?_
    obtain ⟨n12, hw⟩ := hw
    exact t_X5_readSum_b12 hC hr hlk hnm hrec6 n12 hw
  · have hw := hw.2 c5
    refine z_iconst hC ic_0 dX5_readSum_8 ?_
    exact z_zret hC hr hlk (hz01 (Or.inl rfl)).1 dX5_readSum_9 ⟨_, rfl, hw⟩
end
section
variable {p : Program} {l : Launch} {e : Env} {R : Room} {s : State} {m : MethodId} {args : Array Value} {below : List Frame} {meth : Method} {c : Code} {G : hG} {B mc ms : Nat}
def w_X5_readTerm_b60 (tx : Nat → Nat) (rec : Nat → (Int32 → hS → Prop) → hS → (Nat) → (Int32) → Prop) (q : Int32 → hS → Prop) (K12 : hS → (Nat) → (Int32) → (Int32) → Prop) (S : hS) (v0 : Nat) (v1 : Int32) (v2 : Int32) (t0 : Int32) : Prop := gP S v0 5 1 (fun x62 => oK S x62 9 ∧ w_X9_advance (fun S => oK S v0 5 ∧ rec 7 (fun x70 S => (¬ x70 = 0 → gP S v0 5 0 (fun x79 => oK S x79 10 ∧ w_X10_add (fun x84 S => ∀ y88 : Int32, y88 = v2 + 1 → K12 S v0 v1 y88) S x79 t0 0)) ∧ (x70 = 0 → q 0 S)) S v0 v1) S x62)
set_option maxRecDepth 100000 in
set_option maxHeartbeats 4000000 in
theorem t_X5_readTerm_b60 {d : Nat} (hC : zC p R s m args c cX5_readTerm 4 RX5 G B mc ms (7 + (d + 1)) (214 + 23 * (d + 1))) (hr : meth.sig.returnType = (Option.some FieldType.boolean)) (hlk : meth.locks = false) (hnm : meth.name = "readTerm") {rec : Nat → (Int32 → hS → Prop) → hS → (Nat) → (Int32) → Prop} (hrec7 : ∀ (S : hS) (v0 : Nat) (v1 : Int32) (q : Int32 → hS → Prop), Met l yX5_readFactor (hws yX5_readFactor cX5_readFactor 3 (Option.some FieldType.boolean)) ({ frames := 7 + d, cells := 0, slots := 0, locals := 214 + 23 * d }) (hPc G B S [.ref v0, .int v1] (rec 7 q S v0 v1)) (hQ G B (iP q)) 0 0 (fun r => B ≤ r)) {q : Int32 → hS → Prop} {K12 : hS → (Nat) → (Int32) → (Int32) → Prop} (hK12 : ∀ {S : hS} {v0 : Nat} {v1 : Int32} {v2 : Int32}, K12 S v0 v1 v2 → Z p l e R s m args below meth c (MQ below (hQ G B (iP q)) args s mc ms (fun r => B ≤ r)) G B mc ms 4 S 0 0 12 [some (.ref v0), some (.int v1), some (.int v2), none] []) {S : hS} {v0 : Nat} {v1 : Int32} {v2 : Int32} {t0 : Int32} (hw : w_X5_readTerm_b60 G.2.2.1 rec q K12 S v0 v1 v2 t0) : Z p l e R s m args below meth c (MQ below (hQ G B (iP q)) args s mc ms (fun r => B ≤ r)) G B mc ms 4 S 0 0 60 [some (.ref v0), some (.int v1), some (.int v2), none] [.int t0] := by
  unfold w_X5_readTerm_b60 at hw
  refine z_istore_n (i := 3) (lv' := [some (.ref v0), some (.int v1), some (.int v2), some (.int t0)]) hC rfl dX5_readTerm_60 (by decide) (hok_v rfl rfl) rfl ?_
  refine z_aload_n hC dX5_readTerm_61 rfl rfl ?_
  refine z_getP hC FX5 1 lk_380 dX5_readTerm_62 (by decide) hw (fun x62 hw => ?_)
  refine z_callV (ku' := 0) (kv' := 0) (n := 0) (As := []) (st := []) hC (c_X9_advance l G B S x62 _) hw.2 hw.1 rfl lk_870 lk_791 lk_792 lk_125 lk_793 hd_X9_advance rfl rfl (by show 2 + 1 ≤ _; omega) (by show 8 + (1 + 11) + 80 ≤ _; omega) rfl (Nat.le_of_ble_eq_true rfl) dX5_readTerm_65 (Nat.le_refl 0) (Nat.le_refl 0) (kV (fun S hw => ?_))
  refine z_aload_n hC dX5_readTerm_68 rfl rfl ?_
  refine z_iload_n hC dX5_readTerm_69 rfl rfl ?_
  refine z_callV (ku' := 0) (kv' := 0) (n := 1) (As := [.int v1]) (st := []) hC (hrec7 S v0 v1 _) hw.2 hw.1 rfl lk_879 lk_881 lk_11 lk_126 lk_882 hd_X5_readFactor rfl rfl (by show 7 + d + 1 ≤ _; omega) (by show 8 + (3 + 11) + (214 + 23 * d) ≤ _; omega) rfl (Nat.le_of_ble_eq_true rfl) dX5_readTerm_70 (Nat.le_refl 0) (Nat.le_refl 0) (kI (fun x70 S hw => ?_))
  refine z_if_ne (tgt := 78) hC dX5_readTerm_73 (by decide) (fun c73 => ?_) (fun c73 => ?_)
  · have hw := hw.1 c73
    refine z_aload_n hC dX5_readTerm_78 rfl rfl ?_
    refine z_getP hC FX5 0 lk_378 dX5_readTerm_79 (by decide) hw (fun x79 hw => ?_)
    refine z_iload_n hC dX5_readTerm_82 rfl rfl ?_
    refine z_iconst hC ic_0 dX5_readTerm_83 ?_
    refine z_callV (ku' := 0) (kv' := 0) (n := 2) (As := [.int t0, .int 0]) (st := []) hC (c_X10_add l G B S x79 t0 0 _) hw.2 hw.1 rfl lk_895 lk_896 lk_897 lk_127 lk_898 hd_X10_add rfl rfl (by show 1 + 1 ≤ _; omega) (by show 8 + (4 + 11) + 60 ≤ _; omega) rfl (Nat.le_of_ble_eq_true rfl) dX5_readTerm_84 (Nat.le_refl 0) (Nat.le_refl 0) (kI (fun x84 S hw => ?_))
    refine z_pop hC rfl dX5_readTerm_87 ?_
    refine z_inc (i := 2) hC ic_1 dX5_readTerm_88 rfl (by decide) (hok_v rfl rfl) (fun y88 e88 => ?_)
    have hw := hw y88 e88
    refine z_goto (tgt := 12) hC dX5_readTerm_91 (by decide) ?_
    refine z_mask (lv' := [some (.ref v0), some (.int v1), some (.int y88), none]) [true, true, true, false] rfl ?_
    exact hK12 hw
  · have hw := hw.2 c73
    refine z_iconst hC ic_0 dX5_readTerm_76 ?_
    exact z_zret hC hr hlk (hz01 (Or.inl rfl)).1 dX5_readTerm_77 ⟨_, rfl, hw⟩
def w_X5_readTerm_b12 (tx : Nat → Nat) (rec : Nat → (Int32 → hS → Prop) → hS → (Nat) → (Int32) → Prop) (q : Int32 → hS → Prop) : Nat → hS → (Nat) → (Int32) → (Int32) → Prop
  | 0, _, _, _, _ => False
  | n + 1, S, v0, v1, v2 => (400 ≤ v2 → q 1 S) ∧ (¬ 400 ≤ v2 → oK S v0 5 ∧ w_X5_isTermSign (fun x20 S => (x20 = 0 → q 1 S) ∧ (¬ x20 = 0 → gP S v0 5 1 (fun x27 => oK S x27 9 ∧ w_X9_isSign (fun x32 S => (x32 = 0 → gP S v0 5 1 (fun x43 => oK S x43 9 ∧ w_X9_isSign (fun x48 S => (x48 = 0 → w_X5_readTerm_b60 tx rec q (fun S v0 v1 v2 => w_X5_readTerm_b12 tx rec q n S v0 v1 v2) S v0 v1 v2 6) ∧ (¬ x48 = 0 → w_X5_readTerm_b60 tx rec q (fun S v0 v1 v2 => w_X5_readTerm_b12 tx rec q n S v0 v1 v2) S v0 v1 v2 5)) S x43 47)) ∧ (¬ x32 = 0 → w_X5_readTerm_b60 tx rec q (fun S v0 v1 v2 => w_X5_readTerm_b12 tx rec q n S v0 v1 v2) S v0 v1 v2 4)) S x27 42))) S v0)
set_option maxRecDepth 100000 in
set_option maxHeartbeats 4000000 in
theorem t_X5_readTerm_b12 {d : Nat} (hC : zC p R s m args c cX5_readTerm 4 RX5 G B mc ms (7 + (d + 1)) (214 + 23 * (d + 1))) (hr : meth.sig.returnType = (Option.some FieldType.boolean)) (hlk : meth.locks = false) (hnm : meth.name = "readTerm") {rec : Nat → (Int32 → hS → Prop) → hS → (Nat) → (Int32) → Prop} (hrec7 : ∀ (S : hS) (v0 : Nat) (v1 : Int32) (q : Int32 → hS → Prop), Met l yX5_readFactor (hws yX5_readFactor cX5_readFactor 3 (Option.some FieldType.boolean)) ({ frames := 7 + d, cells := 0, slots := 0, locals := 214 + 23 * d }) (hPc G B S [.ref v0, .int v1] (rec 7 q S v0 v1)) (hQ G B (iP q)) 0 0 (fun r => B ≤ r)) {q : Int32 → hS → Prop} (n : Nat) : ∀ {S : hS} {v0 : Nat} {v1 : Int32} {v2 : Int32} (hw : w_X5_readTerm_b12 G.2.2.1 rec q n S v0 v1 v2), Z p l e R s m args below meth c (MQ below (hQ G B (iP q)) args s mc ms (fun r => B ≤ r)) G B mc ms 4 S 0 0 12 [some (.ref v0), some (.int v1), some (.int v2), none] [] := by
  induction n with
  | zero => intro S v0 v1 v2 hw; exact (by rw [w_X5_readTerm_b12] at hw; exact hw.elim)
  | succ n ih =>
    intro S v0 v1 v2 hw
    rw [w_X5_readTerm_b12] at hw
    refine z_iload_n hC dX5_readTerm_12 rfl rfl ?_
    refine z_sipush hC si_400 dX5_readTerm_13 ?_
    refine z_icmp_ge (tgt := 94) hC dX5_readTerm_16 (by decide) (fun c16 => ?_) (fun c16 => ?_)
    · have hw := hw.1 c16
      refine z_iconst hC ic_1 dX5_readTerm_94 ?_
      exact z_zret hC hr hlk (hz01 (Or.inr rfl)).1 dX5_readTerm_95 ⟨_, rfl, hw⟩
    · have hw := hw.2 c16
      refine z_aload_n hC dX5_readTerm_19 rfl rfl ?_
      refine z_callV (ku' := 0) (kv' := 0) (n := 0) (As := []) (st := []) hC (c_X5_isTermSign l G B S v0 _) hw.2 hw.1 rfl lk_927 lk_929 lk_17 lk_126 lk_930 hd_X5_isTermSign rfl rfl (by show 2 + 1 ≤ _; omega) (by show 8 + (1 + 11) + 81 ≤ _; omega) rfl (Nat.le_of_ble_eq_true rfl) dX5_readTerm_20 (Nat.le_refl 0) (Nat.le_refl 0) (kI (fun x20 S hw => ?_))
      refine z_if_eq (tgt := 94) hC dX5_readTerm_23 (by decide) (fun c23 => ?_) (fun c23 => ?_)
      · have hw := hw.1 c23
        refine z_iconst hC ic_1 dX5_readTerm_94 ?_
        exact z_zret hC hr hlk (hz01 (Or.inr rfl)).1 dX5_readTerm_95 ⟨_, rfl, hw⟩
      · have hw := hw.2 c23
        refine z_aload_n hC dX5_readTerm_26 rfl rfl ?_
        refine z_getP hC FX5 1 lk_380 dX5_readTerm_27 (by decide) hw (fun x27 hw => ?_)
        refine z_bipush hC bi_42 dX5_readTerm_30 ?_
        refine z_callV (ku' := 0) (kv' := 0) (n := 1) (As := [.int 42]) (st := []) hC (c_X9_isSign l G B S x27 42 _) hw.2 hw.1 rfl lk_883 lk_884 lk_885 lk_125 lk_886 hd_X9_isSign rfl rfl (by show 1 + 1 ≤ _; omega) (by show 8 + (2 + 11) + 60 ≤ _; omega) rfl (Nat.le_of_ble_eq_true rfl) dX5_readTerm_32 (Nat.le_refl 0) (Nat.le_refl 0) (kI (fun x32 S hw => ?_))
        refine z_if_eq (tgt := 42) hC dX5_readTerm_35 (by decide) (fun c35 => ?_) (fun c35 => ?_)
        · have hw := hw.1 c35
          refine z_aload_n hC dX5_readTerm_42 rfl rfl ?_
          refine z_getP hC FX5 1 lk_380 dX5_readTerm_43 (by decide) hw (fun x43 hw => ?_)
          refine z_bipush hC bi_47 dX5_readTerm_46 ?_
          refine z_callV (ku' := 0) (kv' := 0) (n := 1) (As := [.int 47]) (st := []) hC (c_X9_isSign l G B S x43 47 _) hw.2 hw.1 rfl lk_883 lk_884 lk_885 lk_125 lk_886 hd_X9_isSign rfl rfl (by show 1 + 1 ≤ _; omega) (by show 8 + (2 + 11) + 60 ≤ _; omega) rfl (Nat.le_of_ble_eq_true rfl) dX5_readTerm_48 (Nat.le_refl 0) (Nat.le_refl 0) (kI (fun x48 S hw => ?_))
          refine z_if_eq (tgt := 58) hC dX5_readTerm_51 (by decide) (fun c51 => ?_) (fun c51 => ?_)
          · have hw := hw.1 c51
            refine z_bipush hC bi_6 dX5_readTerm_58 ?_
            refine z_mask (lv' := [some (.ref v0), some (.int v1), some (.int v2), none]) [true, true, true, false] rfl ?_
            exact t_X5_readTerm_b60 hC hr hlk hnm hrec7 (fun hw => ih hw) hw
          · have hw := hw.2 c51
            refine z_iconst hC ic_5 dX5_readTerm_54 ?_
            refine z_goto (tgt := 60) hC dX5_readTerm_55 (by decide) ?_
            refine z_mask (lv' := [some (.ref v0), some (.int v1), some (.int v2), none]) [true, true, true, false] rfl ?_
            exact t_X5_readTerm_b60 hC hr hlk hnm hrec7 (fun hw => ih hw) hw
        · have hw := hw.2 c35
          refine z_iconst hC ic_4 dX5_readTerm_38 ?_
          refine z_goto (tgt := 60) hC dX5_readTerm_39 (by decide) ?_
          refine z_mask (lv' := [some (.ref v0), some (.int v1), some (.int v2), none]) [true, true, true, false] rfl ?_
          exact t_X5_readTerm_b60 hC hr hlk hnm hrec7 (fun hw => ih hw) hw
def wb_X5_readTerm (tx : Nat → Nat) (rec : Nat → (Int32 → hS → Prop) → hS → (Nat) → (Int32) → Prop) (q : Int32 → hS → Prop) (S : hS) (v0 : Nat) (v1 : Int32) : Prop := oK S v0 5 ∧ rec 7 (fun x2 S => (¬ x2 = 0 → (∃ n12 : Nat, w_X5_readTerm_b12 tx rec q n12 S v0 v1 0)) ∧ (x2 = 0 → q 0 S)) S v0 v1
set_option maxRecDepth 100000 in
set_option maxHeartbeats 4000000 in
theorem cb_X5_readTerm (l : Launch) (G : hG) (B : Nat) {d : Nat} {rec : Nat → (Int32 → hS → Prop) → hS → (Nat) → (Int32) → Prop} (hrec7 : ∀ (S : hS) (v0 : Nat) (v1 : Int32) (q : Int32 → hS → Prop), Met l yX5_readFactor (hws yX5_readFactor cX5_readFactor 3 (Option.some FieldType.boolean)) ({ frames := 7 + d, cells := 0, slots := 0, locals := 214 + 23 * d }) (hPc G B S [.ref v0, .int v1] (rec 7 q S v0 v1)) (hQ G B (iP q)) 0 0 (fun r => B ≤ r)) (S : hS) (v0 : Nat) (v1 : Int32) (q : Int32 → hS → Prop) : Met l yX5_readTerm (hws yX5_readTerm cX5_readTerm 4 (Option.some FieldType.boolean)) ({ frames := (7 + (d + 1)), cells := 0, slots := 0, locals := (214 + 23 * (d + 1)) }) (hPc G B S [.ref v0, .int v1] (wb_X5_readTerm G.2.2.1 rec q S v0 v1)) (hQ G B (iP q)) (0) (0) (fun r => B ≤ r) := by
  refine hMet (rm := { frames := (7 + (d + 1)), cells := 0, slots := 0, locals := (214 + 23 * (d + 1)) }) (lv := [some (.ref v0), some (.int v1), none, none]) (own := RX5) (fr := (7 + (d + 1))) (lo := (214 + 23 * (d + 1))) (by decide) rfl rfl rfl (Nat.le_of_ble_eq_true rfl) rfl (fun hw p e R s m args below meth c hC hr hlk hnm => ?_)
  unfold wb_X5_readTerm at hw
  refine z_aload_n hC dX5_readTerm_0 rfl rfl ?_
  refine z_iload_n hC dX5_readTerm_1 rfl rfl ?_
  refine z_callV (ku' := 0) (kv' := 0) (n := 1) (As := [.int v1]) (st := []) hC (hrec7 S v0 v1 _) hw.2 hw.1 rfl lk_879 lk_881 lk_11 lk_126 lk_882 hd_X5_readFactor rfl rfl (by show 7 + d + 1 ≤ _; omega) (by show 8 + (3 + 11) + (214 + 23 * d) ≤ _; omega) rfl (Nat.le_of_ble_eq_true rfl) dX5_readTerm_2 (Nat.le_refl 0) (Nat.le_refl 0) (kI (fun x2 S hw => ?_))
  refine z_if_ne (tgt := 10) hC dX5_readTerm_5 (by decide) (fun c5 => ?_) (fun c5 => ?_)
  · have hw := hw.1 c5
    refine z_iconst hC ic_0 dX5_readTerm_10 ?_
    refine z_istore_n (i := 2) (lv' := [some (.ref v0), some (.int v1), some (.int 0), none]) hC rfl dX5_readTerm_11 (by decide) (hok_v rfl rfl) rfl ?_
    refine z_mask (lv' := [some (.ref v0), some (.int v1), some (.int 0), none]) [true, true, true, false] rfl ?_
    obtain ⟨n12, hw⟩ := hw
    exact t_X5_readTerm_b12 hC hr hlk hnm hrec7 n12 hw
  · have hw := hw.2 c5
    refine z_iconst hC ic_0 dX5_readTerm_8 ?_
    exact z_zret hC hr hlk (hz01 (Or.inl rfl)).1 dX5_readTerm_9 ⟨_, rfl, hw⟩
end
section
variable {p : Program} {l : Launch} {e : Env} {R : Room} {s : State} {m : MethodId} {args : Array Value} {below : List Frame} {meth : Method} {c : Code} {G : hG} {B mc ms : Nat}
def w_X5_readFactor_b157 (tx : Nat → Nat) (rec : Nat → (Int32 → hS → Prop) → hS → (Nat) → (Int32) → Prop) (q : Int32 → hS → Prop) (S : hS) (v0 : Nat) (v2 : Int32) : Prop := oK S v0 5 ∧ w_X5_addWord (fun x159 S => (x159 = 0 ∨ x159 = 1) ∧ q x159 S) S v0 v2
set_option maxRecDepth 100000 in
set_option maxHeartbeats 4000000 in
theorem t_X5_readFactor_b157 {d : Nat} (hC : zC p R s m args c cX5_readFactor 3 RX5 G B mc ms (7 + (d + 1)) (214 + 23 * (d + 1))) (hr : meth.sig.returnType = (Option.some FieldType.boolean)) (hlk : meth.locks = false) (hnm : meth.name = "readFactor") {rec : Nat → (Int32 → hS → Prop) → hS → (Nat) → (Int32) → Prop} (hrec5 : ∀ (S : hS) (v0 : Nat) (v1 : Int32) (q : Int32 → hS → Prop), Met l yX5_readSum (hws yX5_readSum cX5_readSum 4 (Option.some FieldType.boolean)) ({ frames := 7 + d, cells := 0, slots := 0, locals := 214 + 23 * d }) (hPc G B S [.ref v0, .int v1] (rec 5 q S v0 v1)) (hQ G B (iP q)) 0 0 (fun r => B ≤ r)) {q : Int32 → hS → Prop} {S : hS} {v0 : Nat} {v2 : Int32} (hw : w_X5_readFactor_b157 G.2.2.1 rec q S v0 v2) : Z p l e R s m args below meth c (MQ below (hQ G B (iP q)) args s mc ms (fun r => B ≤ r)) G B mc ms 3 S 0 0 157 [some (.ref v0), none, some (.int v2)] [] := by
  unfold w_X5_readFactor_b157 at hw
  refine z_aload_n hC dX5_readFactor_157 rfl rfl ?_
  refine z_iload_n hC dX5_readFactor_158 rfl rfl ?_
  refine z_callV (ku' := 0) (kv' := 0) (n := 1) (As := [.int v2]) (st := []) hC (c_X5_addWord l G B S v0 v2 _) hw.2 hw.1 rfl lk_919 lk_921 lk_15 lk_126 lk_922 hd_X5_addWord rfl rfl (by show 2 + 1 ≤ _; omega) (by show 8 + (2 + 11) + 83 ≤ _; omega) rfl (Nat.le_of_ble_eq_true rfl) dX5_readFactor_159 (Nat.le_refl 0) (Nat.le_refl 0) (kI (fun x159 S hw => ?_))
  refine z_goto (tgt := 170) hC dX5_readFactor_162 (by decide) ?_
  exact z_zret hC hr hlk (hz01 hw.1).1 dX5_readFactor_170 ⟨_, rfl, hw.2⟩
def w_X5_readFactor_b130 (tx : Nat → Nat) (rec : Nat → (Int32 → hS → Prop) → hS → (Nat) → (Int32) → Prop) (q : Int32 → hS → Prop) (S : hS) (v0 : Nat) (t0 : Int32) : Prop := (¬ t0 = (-1) → gP S v0 5 1 (fun x139 => oK S x139 9 ∧ w_X9_advance (fun S => gI S v0 5 2 (fun x146 => (¬ x146 = 0 → w_X5_readFactor_b157 tx rec q S v0 t0) ∧ (x146 = 0 → (4 ≤ t0 → oK S v0 5 ∧ w_X5_readWhose (fun x167 S => (x167 = 0 ∨ x167 = 1) ∧ q x167 S) S v0 t0) ∧ (¬ 4 ≤ t0 → w_X5_readFactor_b157 tx rec q S v0 t0)))) S x139)) ∧ (t0 = (-1) → q 0 S)
set_option maxRecDepth 100000 in
set_option maxHeartbeats 4000000 in
theorem t_X5_readFactor_b130 {d : Nat} (hC : zC p R s m args c cX5_readFactor 3 RX5 G B mc ms (7 + (d + 1)) (214 + 23 * (d + 1))) (hr : meth.sig.returnType = (Option.some FieldType.boolean)) (hlk : meth.locks = false) (hnm : meth.name = "readFactor") {rec : Nat → (Int32 → hS → Prop) → hS → (Nat) → (Int32) → Prop} (hrec5 : ∀ (S : hS) (v0 : Nat) (v1 : Int32) (q : Int32 → hS → Prop), Met l yX5_readSum (hws yX5_readSum cX5_readSum 4 (Option.some FieldType.boolean)) ({ frames := 7 + d, cells := 0, slots := 0, locals := 214 + 23 * d }) (hPc G B S [.ref v0, .int v1] (rec 5 q S v0 v1)) (hQ G B (iP q)) 0 0 (fun r => B ≤ r)) {q : Int32 → hS → Prop} {S : hS} {v0 : Nat} {t0 : Int32} (hw : w_X5_readFactor_b130 G.2.2.1 rec q S v0 t0) : Z p l e R s m args below meth c (MQ below (hQ G B (iP q)) args s mc ms (fun r => B ≤ r)) G B mc ms 3 S 0 0 130 [some (.ref v0), none, none] [.int t0] := by
  unfold w_X5_readFactor_b130 at hw
  refine z_istore_n (i := 2) (lv' := [some (.ref v0), none, some (.int t0)]) hC rfl dX5_readFactor_130 (by decide) (hok_n rfl) rfl ?_
  refine z_iload_n hC dX5_readFactor_131 rfl rfl ?_
  refine z_iconst hC ic_m1 dX5_readFactor_132 ?_
  refine z_icmp_ne (tgt := 138) hC dX5_readFactor_133 (by decide) (fun c133 => ?_) (fun c133 => ?_)
  · have hw := hw.1 c133
    refine z_aload_n hC dX5_readFactor_138 rfl rfl ?_
    refine z_getP hC FX5 1 lk_380 dX5_readFactor_139 (by decide) hw (fun x139 hw => ?_)
    refine z_callV (ku' := 0) (kv' := 0) (n := 0) (As := []) (st := []) hC (c_X9_advance l G B S x139 _) hw.2 hw.1 rfl lk_870 lk_791 lk_792 lk_125 lk_793 hd_X9_advance rfl rfl (by show 2 + 1 ≤ _; omega) (by show 8 + (1 + 11) + 80 ≤ _; omega) rfl (Nat.le_of_ble_eq_true rfl) dX5_readFactor_142 (Nat.le_refl 0) (Nat.le_refl 0) (kV (fun S hw => ?_))
    refine z_aload_n hC dX5_readFactor_145 rfl rfl ?_
    refine z_getI hC FX5 2 lk_381 dX5_readFactor_146 (by decide) hw (fun x146 hw => ?_)
    refine z_if_ne (tgt := 157) hC dX5_readFactor_149 (by decide) (fun c149 => ?_) (fun c149 => ?_)
    · have hw := hw.1 c149
      refine z_mask (lv' := [some (.ref v0), none, some (.int t0)]) [true, false, true] rfl ?_
      exact t_X5_readFactor_b157 hC hr hlk hnm hrec5 hw
    · have hw := hw.2 c149
      refine z_iload_n hC dX5_readFactor_152 rfl rfl ?_
      refine z_iconst hC ic_4 dX5_readFactor_153 ?_
      refine z_icmp_ge (tgt := 165) hC dX5_readFactor_154 (by decide) (fun c154 => ?_) (fun c154 => ?_)
      · have hw := hw.1 c154
        refine z_aload_n hC dX5_readFactor_165 rfl rfl ?_
        refine z_iload_n hC dX5_readFactor_166 rfl rfl ?_
        refine z_callV (ku' := 0) (kv' := 0) (n := 1) (As := [.int t0]) (st := []) hC (c_X5_readWhose l G B S v0 t0 _) hw.2 hw.1 rfl lk_923 lk_925 lk_16 lk_126 lk_926 hd_X5_readWhose rfl rfl (by show 3 + 1 ≤ _; omega) (by show 8 + (3 + 11) + 100 ≤ _; omega) rfl (Nat.le_of_ble_eq_true rfl) dX5_readFactor_167 (Nat.le_refl 0) (Nat.le_refl 0) (kI (fun x167 S hw => ?_))
        exact z_zret hC hr hlk (hz01 hw.1).1 dX5_readFactor_170 ⟨_, rfl, hw.2⟩
      · have hw := hw.2 c154
        refine z_mask (lv' := [some (.ref v0), none, some (.int t0)]) [true, false, true] rfl ?_
        exact t_X5_readFactor_b157 hC hr hlk hnm hrec5 hw
  · have hw := hw.2 c133
    refine z_iconst hC ic_0 dX5_readFactor_136 ?_
    exact z_zret hC hr hlk (hz01 (Or.inl rfl)).1 dX5_readFactor_137 ⟨_, rfl, hw⟩
def wb_X5_readFactor (tx : Nat → Nat) (rec : Nat → (Int32 → hS → Prop) → hS → (Nat) → (Int32) → Prop) (q : Int32 → hS → Prop) (S : hS) (v0 : Nat) (v1 : Int32) : Prop := gP S v0 5 1 (fun x1 => oK S x1 9 ∧ w_X9_isSign (fun x6 S => (x6 = 0 → gI S v0 5 3 (fun x53 => (x53 < 50 → gI S v0 5 3 (fun x65 => pI S v0 5 3 (x65 + 1) (fun S => gP S v0 5 1 (fun x74 => oK S x74 9 ∧ w_X9_isNumber (fun x81 S => (x81 = 0 → gI S v0 5 2 (fun x113 => (x113 = 0 → oK S v0 5 ∧ w_X5_orderWord tx (fun x127 S => w_X5_readFactor_b130 tx rec q S v0 x127) S v0) ∧ (¬ x113 = 0 → oK S v0 5 ∧ w_X5_lawWord tx (fun x120 S => w_X5_readFactor_b130 tx rec q S v0 x120) S v0))) ∧ (¬ x81 = 0 → gP S v0 5 0 (fun x88 => gP S v0 5 1 (fun x93 => gI S x93 9 4 (fun x96 => oK S x88 10 ∧ w_X10_add (fun x99 S => gP S v0 5 1 (fun x104 => oK S x104 9 ∧ w_X9_advance (fun S => q 1 S) S x104)) S x88 0 x96))))) S x74 0 1000)))) ∧ (¬ x53 < 50 → q 0 S))) ∧ (¬ x6 = 0 → (8 ≤ v1 → q 0 S) ∧ (¬ 8 ≤ v1 → oK S v0 5 ∧ w_X5_takeSign (fun x21 S => (x21 = 0 → q 0 S) ∧ (¬ x21 = 0 → oK S v0 5 ∧ rec 5 (fun x31 S => (x31 = 0 → q 0 S) ∧ (¬ x31 = 0 → oK S v0 5 ∧ w_X5_takeSign (fun x40 S => (x40 = 0 → q 0 S) ∧ (¬ x40 = 0 → q 1 S)) S v0 93)) S v0 (v1 + 1))) S v0 91))) S x1 91)
set_option maxRecDepth 100000 in
set_option maxHeartbeats 4000000 in
theorem cb_X5_readFactor (l : Launch) (G : hG) (B : Nat) {d : Nat} {rec : Nat → (Int32 → hS → Prop) → hS → (Nat) → (Int32) → Prop} (hrec5 : ∀ (S : hS) (v0 : Nat) (v1 : Int32) (q : Int32 → hS → Prop), Met l yX5_readSum (hws yX5_readSum cX5_readSum 4 (Option.some FieldType.boolean)) ({ frames := 7 + d, cells := 0, slots := 0, locals := 214 + 23 * d }) (hPc G B S [.ref v0, .int v1] (rec 5 q S v0 v1)) (hQ G B (iP q)) 0 0 (fun r => B ≤ r)) (S : hS) (v0 : Nat) (v1 : Int32) (q : Int32 → hS → Prop) : Met l yX5_readFactor (hws yX5_readFactor cX5_readFactor 3 (Option.some FieldType.boolean)) ({ frames := (7 + (d + 1)), cells := 0, slots := 0, locals := (214 + 23 * (d + 1)) }) (hPc G B S [.ref v0, .int v1] (wb_X5_readFactor G.2.2.1 rec q S v0 v1)) (hQ G B (iP q)) (0) (0) (fun r => B ≤ r) := by
  refine hMet (rm := { frames := (7 + (d + 1)), cells := 0, slots := 0, locals := (214 + 23 * (d + 1)) }) (lv := [some (.ref v0), some (.int v1), none]) (own := RX5) (fr := (7 + (d + 1))) (lo := (214 + 23 * (d + 1))) (by decide) rfl rfl rfl (Nat.le_of_ble_eq_true rfl) rfl (fun hw p e R s m args below meth c hC hr hlk hnm => ?_)
  unfold wb_X5_readFactor at hw
  refine z_aload_n hC dX5_readFactor_0 rfl rfl ?_
  refine z_getP hC FX5 1 lk_380 dX5_readFactor_1 (by decide) hw (fun x1 hw => ?_)
  refine z_bipush hC bi_91 dX5_readFactor_4 ?_
  refine z_callV (ku' := 0) (kv' := 0) (n := 1) (As := [.int 91]) (st := []) hC (c_X9_isSign l G B S x1 91 _) hw.2 hw.1 rfl lk_883 lk_884 lk_885 lk_125 lk_886 hd_X9_isSign rfl rfl (by show 1 + 1 ≤ _; omega) (by show 8 + (2 + 11) + 60 ≤ _; omega) rfl (Nat.le_of_ble_eq_true rfl) dX5_readFactor_6 (Nat.le_refl 0) (Nat.le_refl 0) (kI (fun x6 S hw => ?_))
  refine z_if_eq (tgt := 52) hC dX5_readFactor_9 (by decide) (fun c9 => ?_) (fun c9 => ?_)
  · have hw := hw.1 c9
    refine z_aload_n hC dX5_readFactor_52 rfl rfl ?_
    refine z_getI hC FX5 3 lk_382 dX5_readFactor_53 (by decide) hw (fun x53 hw => ?_)
    refine z_bipush hC bi_50 dX5_readFactor_56 ?_
    refine z_icmp_lt (tgt := 63) hC dX5_readFactor_58 (by decide) (fun c58 => ?_) (fun c58 => ?_)
    · have hw := hw.1 c58
      refine z_aload_n hC dX5_readFactor_63 rfl rfl ?_
      refine z_dup hC rfl dX5_readFactor_64 ?_
      refine z_getI hC FX5 3 lk_382 dX5_readFactor_65 (by decide) hw (fun x65 hw => ?_)
      refine z_iconst hC ic_1 dX5_readFactor_68 ?_
      refine z_iadd hC dX5_readFactor_69 ?_
      refine z_putI hC FX5 3 lk_382 dX5_readFactor_70 (by decide) rfl rfl hw (fun S hw => ?_)
      refine z_aload_n hC dX5_readFactor_73 rfl rfl ?_
      refine z_getP hC FX5 1 lk_380 dX5_readFactor_74 (by decide) hw (fun x74 hw => ?_)
      refine z_iconst hC ic_0 dX5_readFactor_77 ?_
      refine z_sipush hC si_1000 dX5_readFactor_78 ?_
      refine z_callV (ku' := 0) (kv' := 0) (n := 2) (As := [.int 0, .int 1000]) (st := []) hC (c_X9_isNumber l G B S x74 0 1000 _) hw.2 hw.1 rfl lk_891 lk_892 lk_893 lk_125 lk_894 hd_X9_isNumber rfl rfl (by show 1 + 1 ≤ _; omega) (by show 8 + (3 + 11) + 60 ≤ _; omega) rfl (Nat.le_of_ble_eq_true rfl) dX5_readFactor_81 (Nat.le_refl 0) (Nat.le_refl 0) (kI (fun x81 S hw => ?_))
      refine z_if_eq (tgt := 112) hC dX5_readFactor_84 (by decide) (fun c84 => ?_) (fun c84 => ?_)
      · have hw := hw.1 c84
        refine z_aload_n hC dX5_readFactor_112 rfl rfl ?_
        refine z_getI hC FX5 2 lk_381 dX5_readFactor_113 (by decide) hw (fun x113 hw => ?_)
        refine z_if_eq (tgt := 126) hC dX5_readFactor_116 (by decide) (fun c116 => ?_) (fun c116 => ?_)
        · have hw := hw.1 c116
          refine z_aload_n hC dX5_readFactor_126 rfl rfl ?_
          refine z_callV (ku' := 0) (kv' := 0) (n := 0) (As := []) (st := []) hC (c_X5_orderWord l G B S v0 _) hw.2 hw.1 rfl lk_912 lk_914 lk_14 lk_126 lk_915 hd_X5_orderWord rfl rfl (by show 6 + 1 ≤ _; omega) (by show 8 + (1 + 11) + 193 ≤ _; omega) rfl (Nat.le_of_ble_eq_true rfl) dX5_readFactor_127 (Nat.le_refl 0) (Nat.le_refl 0) (kI (fun x127 S hw => ?_))
          refine z_mask (lv' := [some (.ref v0), none, none]) [true, false, false] rfl ?_
          exact t_X5_readFactor_b130 hC hr hlk hnm hrec5 hw
        · have hw := hw.2 c116
          refine z_aload_n hC dX5_readFactor_119 rfl rfl ?_
          refine z_callV (ku' := 0) (kv' := 0) (n := 0) (As := []) (st := []) hC (c_X5_lawWord l G B S v0 _) hw.2 hw.1 rfl lk_899 lk_901 lk_13 lk_126 lk_902 hd_X5_lawWord rfl rfl (by show 6 + 1 ≤ _; omega) (by show 8 + (1 + 11) + 193 ≤ _; omega) rfl (Nat.le_of_ble_eq_true rfl) dX5_readFactor_120 (Nat.le_refl 0) (Nat.le_refl 0) (kI (fun x120 S hw => ?_))
          refine z_goto (tgt := 130) hC dX5_readFactor_123 (by decide) ?_
          refine z_mask (lv' := [some (.ref v0), none, none]) [true, false, false] rfl ?_
          exact t_X5_readFactor_b130 hC hr hlk hnm hrec5 hw
      · have hw := hw.2 c84
        refine z_aload_n hC dX5_readFactor_87 rfl rfl ?_
        refine z_getP hC FX5 0 lk_378 dX5_readFactor_88 (by decide) hw (fun x88 hw => ?_)
        refine z_iconst hC ic_0 dX5_readFactor_91 ?_
        refine z_aload_n hC dX5_readFactor_92 rfl rfl ?_
        refine z_getP hC FX5 1 lk_380 dX5_readFactor_93 (by decide) hw (fun x93 hw => ?_)
        refine z_getI hC FX9 4 lk_320 dX5_readFactor_96 (by decide) hw (fun x96 hw => ?_)
        refine z_callV (ku' := 0) (kv' := 0) (n := 2) (As := [.int 0, .int x96]) (st := []) hC (c_X10_add l G B S x88 0 x96 _) hw.2 hw.1 rfl lk_895 lk_896 lk_897 lk_127 lk_898 hd_X10_add rfl rfl (by show 1 + 1 ≤ _; omega) (by show 8 + (4 + 11) + 60 ≤ _; omega) rfl (Nat.le_of_ble_eq_true rfl) dX5_readFactor_99 (Nat.le_refl 0) (Nat.le_refl 0) (kI (fun x99 S hw => ?_))
        refine z_pop hC rfl dX5_readFactor_102 ?_
        refine z_aload_n hC dX5_readFactor_103 rfl rfl ?_
        refine z_getP hC FX5 1 lk_380 dX5_readFactor_104 (by decide) hw (fun x104 hw => ?_)
        refine z_callV (ku' := 0) (kv' := 0) (n := 0) (As := []) (st := []) hC (c_X9_advance l G B S x104 _) hw.2 hw.1 rfl lk_870 lk_791 lk_792 lk_125 lk_793 hd_X9_advance rfl rfl (by show 2 + 1 ≤ _; omega) (by show 8 + (1 + 11) + 80 ≤ _; omega) rfl (Nat.le_of_ble_eq_true rfl) dX5_readFactor_107 (Nat.le_refl 0) (Nat.le_refl 0) (kV (fun S hw => ?_))
        refine z_iconst hC ic_1 dX5_readFactor_110 ?_
        exact z_zret hC hr hlk (hz01 (Or.inr rfl)).1 dX5_readFactor_111 ⟨_, rfl, hw⟩
    · have hw := hw.2 c58
      refine z_iconst hC ic_0 dX5_readFactor_61 ?_
      exact z_zret hC hr hlk (hz01 (Or.inl rfl)).1 dX5_readFactor_62 ⟨_, rfl, hw⟩
  · have hw := hw.2 c9
    refine z_iload_n hC dX5_readFactor_12 rfl rfl ?_
    refine z_bipush hC bi_8 dX5_readFactor_13 ?_
    refine z_icmp_ge (tgt := 50) hC dX5_readFactor_15 (by decide) (fun c15 => ?_) (fun c15 => ?_)
    · have hw := hw.1 c15
      refine z_iconst hC ic_0 dX5_readFactor_50 ?_
      exact z_zret hC hr hlk (hz01 (Or.inl rfl)).1 dX5_readFactor_51 ⟨_, rfl, hw⟩
    · have hw := hw.2 c15
      refine z_aload_n hC dX5_readFactor_18 rfl rfl ?_
      refine z_bipush hC bi_91 dX5_readFactor_19 ?_
      refine z_callV (ku' := 0) (kv' := 0) (n := 1) (As := [.int 91]) (st := []) hC (c_X5_takeSign l G B S v0 91 _) hw.2 hw.1 rfl lk_887 lk_889 lk_12 lk_126 lk_890 hd_X5_takeSign rfl rfl (by show 3 + 1 ≤ _; omega) (by show 8 + (2 + 11) + 100 ≤ _; omega) rfl (Nat.le_of_ble_eq_true rfl) dX5_readFactor_21 (Nat.le_refl 0) (Nat.le_refl 0) (kI (fun x21 S hw => ?_))
      refine z_if_eq (tgt := 50) hC dX5_readFactor_24 (by decide) (fun c24 => ?_) (fun c24 => ?_)
      · have hw := hw.1 c24
        refine z_iconst hC ic_0 dX5_readFactor_50 ?_
        exact z_zret hC hr hlk (hz01 (Or.inl rfl)).1 dX5_readFactor_51 ⟨_, rfl, hw⟩
      · have hw := hw.2 c24
        refine z_aload_n hC dX5_readFactor_27 rfl rfl ?_
        refine z_iload_n hC dX5_readFactor_28 rfl rfl ?_
        refine z_iconst hC ic_1 dX5_readFactor_29 ?_
        refine z_iadd hC dX5_readFactor_30 ?_
        refine z_callV (ku' := 0) (kv' := 0) (n := 1) (As := [.int (v1 + 1)]) (st := []) hC (hrec5 S v0 (v1 + 1) _) hw.2 hw.1 rfl lk_871 lk_873 lk_9 lk_126 lk_874 hd_X5_readSum rfl rfl (by show 7 + d + 1 ≤ _; omega) (by show 8 + (4 + 11) + (214 + 23 * d) ≤ _; omega) rfl (Nat.le_of_ble_eq_true rfl) dX5_readFactor_31 (Nat.le_refl 0) (Nat.le_refl 0) (kI (fun x31 S hw => ?_))
        refine z_if_eq (tgt := 50) hC dX5_readFactor_34 (by decide) (fun c34 => ?_) (fun c34 => ?_)
        · have hw := hw.1 c34
          refine z_iconst hC ic_0 dX5_readFactor_50 ?_
          exact z_zret hC hr hlk (hz01 (Or.inl rfl)).1 dX5_readFactor_51 ⟨_, rfl, hw⟩
        · have hw := hw.2 c34
          refine z_aload_n hC dX5_readFactor_37 rfl rfl ?_
          refine z_bipush hC bi_93 dX5_readFactor_38 ?_
          refine z_callV (ku' := 0) (kv' := 0) (n := 1) (As := [.int 93]) (st := []) hC (c_X5_takeSign l G B S v0 93 _) hw.2 hw.1 rfl lk_887 lk_889 lk_12 lk_126 lk_890 hd_X5_takeSign rfl rfl (by show 3 + 1 ≤ _; omega) (by show 8 + (2 + 11) + 100 ≤ _; omega) rfl (Nat.le_of_ble_eq_true rfl) dX5_readFactor_40 (Nat.le_refl 0) (Nat.le_refl 0) (kI (fun x40 S hw => ?_))
          refine z_if_eq (tgt := 50) hC dX5_readFactor_43 (by decide) (fun c43 => ?_) (fun c43 => ?_)
          · have hw := hw.1 c43
            refine z_iconst hC ic_0 dX5_readFactor_50 ?_
            exact z_zret hC hr hlk (hz01 (Or.inl rfl)).1 dX5_readFactor_51 ⟨_, rfl, hw⟩
          · have hw := hw.2 c43
            refine z_iconst hC ic_1 dX5_readFactor_46 ?_
            refine z_goto (tgt := 51) hC dX5_readFactor_47 (by decide) ?_
            exact z_zret hC hr hlk (hz01 (Or.inr rfl)).1 dX5_readFactor_51 ⟨_, rfl, hw⟩
end
def wr_R (tx : Nat → Nat) : Nat → Nat → (Int32 → hS → Prop) → hS → (Nat) → (Int32) → Prop
  | 0, _, _, _, _, _ => False
  | d + 1, t, q, S, v0, v1 => match t with
    | 0 => wb_X5_readTest tx (wr_R tx d) q S v0 v1
    | 1 => wb_X5_readBoth tx (wr_R tx d) q S v0 v1
    | 2 => wb_X5_readPlain tx (wr_R tx d) q S v0 v1
    | 3 => wb_X5_readBracketedTest tx (wr_R tx d) q S v0 v1
    | 4 => wb_X5_readComparison tx (wr_R tx d) q S v0 v1
    | 5 => wb_X5_readSum tx (wr_R tx d) q S v0 v1
    | 6 => wb_X5_readTerm tx (wr_R tx d) q S v0 v1
    | 7 => wb_X5_readFactor tx (wr_R tx d) q S v0 v1
    | _ => False
set_option maxRecDepth 100000 in
set_option maxHeartbeats 4000000 in
theorem cr_R (l : Launch) (G : hG) (B : Nat) : ∀ d : Nat, (∀ (S : hS) (v0 : Nat) (v1 : Int32) (q : Int32 → hS → Prop), Met l yX5_readTest (hws yX5_readTest cX5_readTest 4 (Option.some FieldType.boolean)) ({ frames := 7 + d, cells := 0, slots := 0, locals := 214 + 23 * d }) (hPc G B S [.ref v0, .int v1] (wr_R G.2.2.1 d 0 q S v0 v1)) (hQ G B (iP q)) 0 0 (fun r => B ≤ r)) ∧ (∀ (S : hS) (v0 : Nat) (v1 : Int32) (q : Int32 → hS → Prop), Met l yX5_readBoth (hws yX5_readBoth cX5_readBoth 4 (Option.some FieldType.boolean)) ({ frames := 7 + d, cells := 0, slots := 0, locals := 214 + 23 * d }) (hPc G B S [.ref v0, .int v1] (wr_R G.2.2.1 d 1 q S v0 v1)) (hQ G B (iP q)) 0 0 (fun r => B ≤ r)) ∧ (∀ (S : hS) (v0 : Nat) (v1 : Int32) (q : Int32 → hS → Prop), Met l yX5_readPlain (hws yX5_readPlain cX5_readPlain 4 (Option.some FieldType.boolean)) ({ frames := 7 + d, cells := 0, slots := 0, locals := 214 + 23 * d }) (hPc G B S [.ref v0, .int v1] (wr_R G.2.2.1 d 2 q S v0 v1)) (hQ G B (iP q)) 0 0 (fun r => B ≤ r)) ∧ (∀ (S : hS) (v0 : Nat) (v1 : Int32) (q : Int32 → hS → Prop), Met l yX5_readBracketedTest (hws yX5_readBracketedTest cX5_readBracketedTest 2 (Option.some FieldType.boolean)) ({ frames := 7 + d, cells := 0, slots := 0, locals := 214 + 23 * d }) (hPc G B S [.ref v0, .int v1] (wr_R G.2.2.1 d 3 q S v0 v1)) (hQ G B (iP q)) 0 0 (fun r => B ≤ r)) ∧ (∀ (S : hS) (v0 : Nat) (v1 : Int32) (q : Int32 → hS → Prop), Met l yX5_readComparison (hws yX5_readComparison cX5_readComparison 3 (Option.some FieldType.boolean)) ({ frames := 7 + d, cells := 0, slots := 0, locals := 214 + 23 * d }) (hPc G B S [.ref v0, .int v1] (wr_R G.2.2.1 d 4 q S v0 v1)) (hQ G B (iP q)) 0 0 (fun r => B ≤ r)) ∧ (∀ (S : hS) (v0 : Nat) (v1 : Int32) (q : Int32 → hS → Prop), Met l yX5_readSum (hws yX5_readSum cX5_readSum 4 (Option.some FieldType.boolean)) ({ frames := 7 + d, cells := 0, slots := 0, locals := 214 + 23 * d }) (hPc G B S [.ref v0, .int v1] (wr_R G.2.2.1 d 5 q S v0 v1)) (hQ G B (iP q)) 0 0 (fun r => B ≤ r)) ∧ (∀ (S : hS) (v0 : Nat) (v1 : Int32) (q : Int32 → hS → Prop), Met l yX5_readTerm (hws yX5_readTerm cX5_readTerm 4 (Option.some FieldType.boolean)) ({ frames := 7 + d, cells := 0, slots := 0, locals := 214 + 23 * d }) (hPc G B S [.ref v0, .int v1] (wr_R G.2.2.1 d 6 q S v0 v1)) (hQ G B (iP q)) 0 0 (fun r => B ≤ r)) ∧ (∀ (S : hS) (v0 : Nat) (v1 : Int32) (q : Int32 → hS → Prop), Met l yX5_readFactor (hws yX5_readFactor cX5_readFactor 3 (Option.some FieldType.boolean)) ({ frames := 7 + d, cells := 0, slots := 0, locals := 214 + 23 * d }) (hPc G B S [.ref v0, .int v1] (wr_R G.2.2.1 d 7 q S v0 v1)) (hQ G B (iP q)) 0 0 (fun r => B ≤ r)) := by
  intro d
  induction d with
  | zero =>
    exact ⟨fun S v0 v1 q => hMet (rm := { frames := 7 + 0, cells := 0, slots := 0, locals := 214 + 23 * 0 }) (lv := [some (.ref v0), some (.int v1), none, none]) (own := RX5) (fr := 7 + 0) (lo := 214 + 23 * 0) (by decide) rfl rfl rfl (Nat.le_of_ble_eq_true rfl) rfl (fun hw => (by rw [wr_R] at hw; exact hw.elim)), fun S v0 v1 q => hMet (rm := { frames := 7 + 0, cells := 0, slots := 0, locals := 214 + 23 * 0 }) (lv := [some (.ref v0), some (.int v1), none, none]) (own := RX5) (fr := 7 + 0) (lo := 214 + 23 * 0) (by decide) rfl rfl rfl (Nat.le_of_ble_eq_true rfl) rfl (fun hw => (by rw [wr_R] at hw; exact hw.elim)), fun S v0 v1 q => hMet (rm := { frames := 7 + 0, cells := 0, slots := 0, locals := 214 + 23 * 0 }) (lv := [some (.ref v0), some (.int v1), none, none]) (own := RX5) (fr := 7 + 0) (lo := 214 + 23 * 0) (by decide) rfl rfl rfl (Nat.le_of_ble_eq_true rfl) rfl (fun hw => (by rw [wr_R] at hw; exact hw.elim)), fun S v0 v1 q => hMet (rm := { frames := 7 + 0, cells := 0, slots := 0, locals := 214 + 23 * 0 }) (lv := [some (.ref v0), some (.int v1)]) (own := RX5) (fr := 7 + 0) (lo := 214 + 23 * 0) (by decide) rfl rfl rfl (Nat.le_of_ble_eq_true rfl) rfl (fun hw => (by rw [wr_R] at hw; exact hw.elim)), fun S v0 v1 q => hMet (rm := { frames := 7 + 0, cells := 0, slots := 0, locals := 214 + 23 * 0 }) (lv := [some (.ref v0), some (.int v1), none]) (own := RX5) (fr := 7 + 0) (lo := 214 + 23 * 0) (by decide) rfl rfl rfl (Nat.le_of_ble_eq_true rfl) rfl (fun hw => (by rw [wr_R] at hw; exact hw.elim)), fun S v0 v1 q => hMet (rm := { frames := 7 + 0, cells := 0, slots := 0, locals := 214 + 23 * 0 }) (lv := [some (.ref v0), some (.int v1), none, none]) (own := RX5) (fr := 7 + 0) (lo := 214 + 23 * 0) (by decide) rfl rfl rfl (Nat.le_of_ble_eq_true rfl) rfl (fun hw => (by rw [wr_R] at hw; exact hw.elim)), fun S v0 v1 q => hMet (rm := { frames := 7 + 0, cells := 0, slots := 0, locals := 214 + 23 * 0 }) (lv := [some (.ref v0), some (.int v1), none, none]) (own := RX5) (fr := 7 + 0) (lo := 214 + 23 * 0) (by decide) rfl rfl rfl (Nat.le_of_ble_eq_true rfl) rfl (fun hw => (by rw [wr_R] at hw; exact hw.elim)), fun S v0 v1 q => hMet (rm := { frames := 7 + 0, cells := 0, slots := 0, locals := 214 + 23 * 0 }) (lv := [some (.ref v0), some (.int v1), none]) (own := RX5) (fr := 7 + 0) (lo := 214 + 23 * 0) (by decide) rfl rfl rfl (Nat.le_of_ble_eq_true rfl) rfl (fun hw => (by rw [wr_R] at hw; exact hw.elim))⟩
  | succ d ih =>
    obtain ⟨i0, i1, i2, i3, i4, i5, i6, i7⟩ := ih
    refine ⟨?_, ?_, ?_, ?_, ?_, ?_, ?_, ?_⟩
    · exact fun S v0 v1 q => by
        have h := cb_X5_readTest l G B (d := d) (rec := wr_R G.2.2.1 d) i1 S v0 v1 q
        rw [wr_R]
        exact h
    · exact fun S v0 v1 q => by
        have h := cb_X5_readBoth l G B (d := d) (rec := wr_R G.2.2.1 d) i2 S v0 v1 q
        rw [wr_R]
        exact h
    · exact fun S v0 v1 q => by
        have h := cb_X5_readPlain l G B (d := d) (rec := wr_R G.2.2.1 d) i3 i4 S v0 v1 q
        rw [wr_R]
        exact h
    · exact fun S v0 v1 q => by
        have h := cb_X5_readBracketedTest l G B (d := d) (rec := wr_R G.2.2.1 d) i0 S v0 v1 q
        rw [wr_R]
        exact h
    · exact fun S v0 v1 q => by
        have h := cb_X5_readComparison l G B (d := d) (rec := wr_R G.2.2.1 d) i5 S v0 v1 q
        rw [wr_R]
        exact h
    · exact fun S v0 v1 q => by
        have h := cb_X5_readSum l G B (d := d) (rec := wr_R G.2.2.1 d) i6 S v0 v1 q
        rw [wr_R]
        exact h
    · exact fun S v0 v1 q => by
        have h := cb_X5_readTerm l G B (d := d) (rec := wr_R G.2.2.1 d) i7 S v0 v1 q
        rw [wr_R]
        exact h
    · exact fun S v0 v1 q => by
        have h := cb_X5_readFactor l G B (d := d) (rec := wr_R G.2.2.1 d) i5 S v0 v1 q
        rw [wr_R]
        exact h
def w_X5_readTest (tx : Nat → Nat) (q : Int32 → hS → Prop) (S : hS) (v0 : Nat) (v1 : Int32) : Prop := wr_R tx 64 0 q S v0 v1
theorem c_X5_readTest (l : Launch) (G : hG) (B : Nat) (S : hS) (v0 : Nat) (v1 : Int32) (q : Int32 → hS → Prop) : Met l yX5_readTest (hws yX5_readTest cX5_readTest 4 (Option.some FieldType.boolean)) ({ frames := 71, cells := 0, slots := 0, locals := 1686 }) (hPc G B S [.ref v0, .int v1] (w_X5_readTest G.2.2.1 q S v0 v1)) (hQ G B (iP q)) 0 0 (fun r => B ≤ r) := (cr_R l G B 64).1 S v0 v1 q
def w_X5_readBoth (tx : Nat → Nat) (q : Int32 → hS → Prop) (S : hS) (v0 : Nat) (v1 : Int32) : Prop := wr_R tx 64 1 q S v0 v1
theorem c_X5_readBoth (l : Launch) (G : hG) (B : Nat) (S : hS) (v0 : Nat) (v1 : Int32) (q : Int32 → hS → Prop) : Met l yX5_readBoth (hws yX5_readBoth cX5_readBoth 4 (Option.some FieldType.boolean)) ({ frames := 71, cells := 0, slots := 0, locals := 1686 }) (hPc G B S [.ref v0, .int v1] (w_X5_readBoth G.2.2.1 q S v0 v1)) (hQ G B (iP q)) 0 0 (fun r => B ≤ r) := (cr_R l G B 64).2.1 S v0 v1 q
def w_X5_readPlain (tx : Nat → Nat) (q : Int32 → hS → Prop) (S : hS) (v0 : Nat) (v1 : Int32) : Prop := wr_R tx 64 2 q S v0 v1
theorem c_X5_readPlain (l : Launch) (G : hG) (B : Nat) (S : hS) (v0 : Nat) (v1 : Int32) (q : Int32 → hS → Prop) : Met l yX5_readPlain (hws yX5_readPlain cX5_readPlain 4 (Option.some FieldType.boolean)) ({ frames := 71, cells := 0, slots := 0, locals := 1686 }) (hPc G B S [.ref v0, .int v1] (w_X5_readPlain G.2.2.1 q S v0 v1)) (hQ G B (iP q)) 0 0 (fun r => B ≤ r) := (cr_R l G B 64).2.2.1 S v0 v1 q
def w_X5_readBracketedTest (tx : Nat → Nat) (q : Int32 → hS → Prop) (S : hS) (v0 : Nat) (v1 : Int32) : Prop := wr_R tx 64 3 q S v0 v1
theorem c_X5_readBracketedTest (l : Launch) (G : hG) (B : Nat) (S : hS) (v0 : Nat) (v1 : Int32) (q : Int32 → hS → Prop) : Met l yX5_readBracketedTest (hws yX5_readBracketedTest cX5_readBracketedTest 2 (Option.some FieldType.boolean)) ({ frames := 71, cells := 0, slots := 0, locals := 1686 }) (hPc G B S [.ref v0, .int v1] (w_X5_readBracketedTest G.2.2.1 q S v0 v1)) (hQ G B (iP q)) 0 0 (fun r => B ≤ r) := (cr_R l G B 64).2.2.2.1 S v0 v1 q
def w_X5_readComparison (tx : Nat → Nat) (q : Int32 → hS → Prop) (S : hS) (v0 : Nat) (v1 : Int32) : Prop := wr_R tx 64 4 q S v0 v1
theorem c_X5_readComparison (l : Launch) (G : hG) (B : Nat) (S : hS) (v0 : Nat) (v1 : Int32) (q : Int32 → hS → Prop) : Met l yX5_readComparison (hws yX5_readComparison cX5_readComparison 3 (Option.some FieldType.boolean)) ({ frames := 71, cells := 0, slots := 0, locals := 1686 }) (hPc G B S [.ref v0, .int v1] (w_X5_readComparison G.2.2.1 q S v0 v1)) (hQ G B (iP q)) 0 0 (fun r => B ≤ r) := (cr_R l G B 64).2.2.2.2.1 S v0 v1 q
def w_X5_readSum (tx : Nat → Nat) (q : Int32 → hS → Prop) (S : hS) (v0 : Nat) (v1 : Int32) : Prop := wr_R tx 64 5 q S v0 v1
theorem c_X5_readSum (l : Launch) (G : hG) (B : Nat) (S : hS) (v0 : Nat) (v1 : Int32) (q : Int32 → hS → Prop) : Met l yX5_readSum (hws yX5_readSum cX5_readSum 4 (Option.some FieldType.boolean)) ({ frames := 71, cells := 0, slots := 0, locals := 1686 }) (hPc G B S [.ref v0, .int v1] (w_X5_readSum G.2.2.1 q S v0 v1)) (hQ G B (iP q)) 0 0 (fun r => B ≤ r) := (cr_R l G B 64).2.2.2.2.2.1 S v0 v1 q
def w_X5_readTerm (tx : Nat → Nat) (q : Int32 → hS → Prop) (S : hS) (v0 : Nat) (v1 : Int32) : Prop := wr_R tx 64 6 q S v0 v1
theorem c_X5_readTerm (l : Launch) (G : hG) (B : Nat) (S : hS) (v0 : Nat) (v1 : Int32) (q : Int32 → hS → Prop) : Met l yX5_readTerm (hws yX5_readTerm cX5_readTerm 4 (Option.some FieldType.boolean)) ({ frames := 71, cells := 0, slots := 0, locals := 1686 }) (hPc G B S [.ref v0, .int v1] (w_X5_readTerm G.2.2.1 q S v0 v1)) (hQ G B (iP q)) 0 0 (fun r => B ≤ r) := (cr_R l G B 64).2.2.2.2.2.2.1 S v0 v1 q
def w_X5_readFactor (tx : Nat → Nat) (q : Int32 → hS → Prop) (S : hS) (v0 : Nat) (v1 : Int32) : Prop := wr_R tx 64 7 q S v0 v1
theorem c_X5_readFactor (l : Launch) (G : hG) (B : Nat) (S : hS) (v0 : Nat) (v1 : Int32) (q : Int32 → hS → Prop) : Met l yX5_readFactor (hws yX5_readFactor cX5_readFactor 3 (Option.some FieldType.boolean)) ({ frames := 71, cells := 0, slots := 0, locals := 1686 }) (hPc G B S [.ref v0, .int v1] (w_X5_readFactor G.2.2.1 q S v0 v1)) (hQ G B (iP q)) 0 0 (fun r => B ≤ r) := (cr_R l G B 64).2.2.2.2.2.2.2 S v0 v1 q
section
variable {p : Program} {l : Launch} {e : Env} {R : Room} {s : State} {m : MethodId} {args : Array Value} {below : List Frame} {meth : Method} {c : Code} {G : hG} {B mc ms : Nat}
def w_X10_openPart (q : hS → Prop) (S : hS) (v0 : Nat) (v1 : Int32) : Prop := pI S v0 10 2 (if 0 < (if 3 < v1 then 3 else v1) then (if 3 < v1 then 3 else v1) else 0) (fun S => q S)
set_option maxRecDepth 100000 in
set_option maxHeartbeats 4000000 in
theorem c_X10_openPart (l : Launch) (G : hG) (B : Nat) (S : hS) (v0 : Nat) (v1 : Int32) (q : hS → Prop) : Met l yX10_openPart (hws yX10_openPart cX10_openPart 2 (Option.none : Option FieldType)) ({ frames := 1, cells := 0, slots := 0, locals := 60 }) (hPc G B S [.ref v0, .int v1] (w_X10_openPart q S v0 v1)) (hQ G B (vP q)) (0) (0) (fun r => B ≤ r) := by
  refine hMet (rm := { frames := 1, cells := 0, slots := 0, locals := 60 }) (lv := [some (.ref v0), some (.int v1)]) (own := RX10) (fr := 1) (lo := 60) (by decide) rfl rfl rfl (Nat.le_of_ble_eq_true rfl) rfl (fun hw p e R s m args below meth c hC hr hlk hnm => ?_)
  unfold w_X10_openPart at hw
  refine z_aload_n hC dX10_openPart_0 rfl rfl ?_
  refine z_iconst hC ic_0 dX10_openPart_1 ?_
  refine z_iload_n hC dX10_openPart_2 rfl rfl ?_
  refine z_iconst hC ic_3 dX10_openPart_3 ?_
  refine z_mmin hC lk_939 lk_657 lk_134 lk_658 dX10_openPart_4 (by decide) (Nat.le_of_ble_eq_true rfl) ?_
  refine z_mmax hC lk_940 lk_645 lk_134 lk_646 dX10_openPart_7 (by decide) (Nat.le_of_ble_eq_true rfl) ?_
  refine z_putI hC FX10 2 lk_353 dX10_openPart_10 (by decide) rfl rfl hw (fun S hw => ?_)
  exact z_vret hC hr hlk dX10_openPart_13 ⟨rfl, hw⟩
end
section
variable {p : Program} {l : Launch} {e : Env} {R : Room} {s : State} {m : MethodId} {args : Array Value} {below : List Frame} {meth : Method} {c : Code} {G : hG} {B mc ms : Nat}
def w_X5_readIf_b25 (tx : Nat → Nat) (q : Int32 → hS → Prop) (S : hS) : Prop := q 1 S
set_option maxRecDepth 100000 in
set_option maxHeartbeats 4000000 in
theorem t_X5_readIf_b25 (hC : zC p R s m args c cX5_readIf 1 RX5 G B mc ms 72 1709) (hr : meth.sig.returnType = (Option.some FieldType.boolean)) (hlk : meth.locks = false) (hnm : meth.name = "readIf") {q : Int32 → hS → Prop} {S : hS} (hw : w_X5_readIf_b25 G.2.2.1 q S ) : Z p l e R s m args below meth c (MQ below (hQ G B (iP q)) args s mc ms (fun r => B ≤ r)) G B mc ms 1 S 0 0 25 [none] [] := by
  unfold w_X5_readIf_b25 at hw
  refine z_iconst hC ic_1 dX5_readIf_25 ?_
  refine z_goto (tgt := 30) hC dX5_readIf_26 (by decide) ?_
  exact z_zret hC hr hlk (hz01 (Or.inr rfl)).1 dX5_readIf_30 ⟨_, rfl, hw⟩
def w_X5_readIf (tx : Nat → Nat) (q : Int32 → hS → Prop) (S : hS) (v0 : Nat) : Prop := gP S v0 5 0 (fun x1 => oK S x1 10 ∧ w_X10_openPart (fun S => oK S v0 5 ∧ w_X5_takeWord tx (fun x11 S => (x11 = 0 → w_X5_readIf_b25 tx q S) ∧ (¬ x11 = 0 → oK S v0 5 ∧ w_X5_readTest tx (fun x19 S => (x19 = 0 → q 0 S) ∧ (¬ x19 = 0 → w_X5_readIf_b25 tx q S)) S v0 0)) S v0 (tx 17)) S x1 3)
set_option maxRecDepth 100000 in
set_option maxHeartbeats 4000000 in
theorem c_X5_readIf (l : Launch) (G : hG) (B : Nat) (S : hS) (v0 : Nat) (q : Int32 → hS → Prop) : Met l yX5_readIf (hws yX5_readIf cX5_readIf 1 (Option.some FieldType.boolean)) ({ frames := 72, cells := 0, slots := 0, locals := 1709 }) (hPc G B S [.ref v0] (w_X5_readIf G.2.2.1 q S v0)) (hQ G B (iP q)) (0) (0) (fun r => B ≤ r) := by
  refine hMet (rm := { frames := 72, cells := 0, slots := 0, locals := 1709 }) (lv := [some (.ref v0)]) (own := RX5) (fr := 72) (lo := 1709) (by decide) rfl rfl rfl (Nat.le_of_ble_eq_true rfl) rfl (fun hw p e R s m args below meth c hC hr hlk hnm => ?_)
  unfold w_X5_readIf at hw
  refine z_aload_n hC dX5_readIf_0 rfl rfl ?_
  refine z_getP hC FX5 0 lk_378 dX5_readIf_1 (by decide) hw (fun x1 hw => ?_)
  refine z_iconst hC ic_3 dX5_readIf_4 ?_
  refine z_callV (ku' := 0) (kv' := 0) (n := 1) (As := [.int 3]) (st := []) hC (c_X10_openPart l G B S x1 3 _) hw.2 hw.1 rfl lk_935 lk_936 lk_937 lk_127 lk_938 hd_X10_openPart rfl rfl (Nat.le_of_ble_eq_true rfl) (Nat.le_of_ble_eq_true rfl) rfl (Nat.le_of_ble_eq_true rfl) dX5_readIf_5 (Nat.le_refl 0) (Nat.le_refl 0) (kV (fun S hw => ?_))
  refine z_aload_n hC dX5_readIf_8 rfl rfl ?_
  refine z_ldcS hC 17 rfl dX5_readIf_9 ?_
  refine z_callV (ku' := 0) (kv' := 0) (n := 1) (As := [.ref (G.2.2.1 17)]) (st := []) hC (c_X5_takeWord l G B S v0 (G.2.2.1 17) _) hw.2 hw.1 rfl lk_942 lk_944 lk_19 lk_126 lk_945 hd_X5_takeWord rfl rfl (Nat.le_of_ble_eq_true rfl) (Nat.le_of_ble_eq_true rfl) rfl (Nat.le_of_ble_eq_true rfl) dX5_readIf_11 (Nat.le_refl 0) (Nat.le_refl 0) (kI (fun x11 S hw => ?_))
  refine z_if_eq (tgt := 25) hC dX5_readIf_14 (by decide) (fun c14 => ?_) (fun c14 => ?_)
  · have hw := hw.1 c14
    refine z_mask (lv' := [none]) [false] rfl ?_
    exact t_X5_readIf_b25 hC hr hlk hnm hw
  · have hw := hw.2 c14
    refine z_aload_n hC dX5_readIf_17 rfl rfl ?_
    refine z_iconst hC ic_0 dX5_readIf_18 ?_
    refine z_callV (ku' := 0) (kv' := 0) (n := 1) (As := [.int 0]) (st := []) hC (c_X5_readTest l G B S v0 0 _) hw.2 hw.1 rfl lk_946 lk_948 lk_20 lk_126 lk_949 hd_X5_readTest rfl rfl (Nat.le_of_ble_eq_true rfl) (Nat.le_of_ble_eq_true rfl) rfl (Nat.le_of_ble_eq_true rfl) dX5_readIf_19 (Nat.le_refl 0) (Nat.le_refl 0) (kI (fun x19 S hw => ?_))
    refine z_if_eq (tgt := 29) hC dX5_readIf_22 (by decide) (fun c22 => ?_) (fun c22 => ?_)
    · have hw := hw.1 c22
      refine z_iconst hC ic_0 dX5_readIf_29 ?_
      exact z_zret hC hr hlk (hz01 (Or.inl rfl)).1 dX5_readIf_30 ⟨_, rfl, hw⟩
    · have hw := hw.2 c22
      refine z_mask (lv' := [none]) [false] rfl ?_
      exact t_X5_readIf_b25 hC hr hlk hnm hw
end
section
variable {p : Program} {l : Launch} {e : Env} {R : Room} {s : State} {m : MethodId} {args : Array Value} {below : List Frame} {meth : Method} {c : Code} {G : hG} {B mc ms : Nat}
def w_X5_readLawClause_b40 (tx : Nat → Nat) (q : Int32 → hS → Prop) (S : hS) (v0 : Nat) : Prop := oK S v0 5 ∧ w_X5_readIf tx (fun x41 S => (x41 = 0 → q 0 S) ∧ (¬ x41 = 0 → q 1 S)) S v0
set_option maxRecDepth 100000 in
set_option maxHeartbeats 4000000 in
theorem t_X5_readLawClause_b40 (hC : zC p R s m args c cX5_readLawClause 2 RX5 G B mc ms 73 1729) (hr : meth.sig.returnType = (Option.some FieldType.boolean)) (hlk : meth.locks = false) (hnm : meth.name = "readLawClause") {q : Int32 → hS → Prop} {S : hS} {v0 : Nat} (hw : w_X5_readLawClause_b40 G.2.2.1 q S v0) : Z p l e R s m args below meth c (MQ below (hQ G B (iP q)) args s mc ms (fun r => B ≤ r)) G B mc ms 2 S 0 0 40 [some (.ref v0), none] [] := by
  unfold w_X5_readLawClause_b40 at hw
  refine z_aload_n hC dX5_readLawClause_40 rfl rfl ?_
  refine z_callV (ku' := 0) (kv' := 0) (n := 0) (As := []) (st := []) hC (c_X5_readIf l G B S v0 _) hw.2 hw.1 rfl lk_931 lk_933 lk_18 lk_126 lk_934 hd_X5_readIf rfl rfl (Nat.le_of_ble_eq_true rfl) (Nat.le_of_ble_eq_true rfl) rfl (Nat.le_of_ble_eq_true rfl) dX5_readLawClause_41 (Nat.le_refl 0) (Nat.le_refl 0) (kI (fun x41 S hw => ?_))
  refine z_if_eq (tgt := 51) hC dX5_readLawClause_44 (by decide) (fun c44 => ?_) (fun c44 => ?_)
  · have hw := hw.1 c44
    refine z_iconst hC ic_0 dX5_readLawClause_51 ?_
    exact z_zret hC hr hlk (hz01 (Or.inl rfl)).1 dX5_readLawClause_52 ⟨_, rfl, hw⟩
  · have hw := hw.2 c44
    refine z_iconst hC ic_1 dX5_readLawClause_47 ?_
    refine z_goto (tgt := 52) hC dX5_readLawClause_48 (by decide) ?_
    exact z_zret hC hr hlk (hz01 (Or.inr rfl)).1 dX5_readLawClause_52 ⟨_, rfl, hw⟩
def w_X5_readLawClause (tx : Nat → Nat) (q : Int32 → hS → Prop) (S : hS) (v0 : Nat) : Prop := oK S v0 5 ∧ w_X5_lawKind tx (fun x1 S => (¬ x1 = (-1) → gP S v0 5 0 (fun x13 => oK S x13 10 ∧ w_X10_beginClause (fun S => gP S v0 5 1 (fun x21 => oK S x21 9 ∧ w_X9_advance (fun S => (2 < x1 → w_X5_readLawClause_b40 tx q S v0) ∧ (¬ 2 < x1 → oK S v0 5 ∧ w_X5_readSum tx (fun x34 S => (x34 = 0 → q 0 S) ∧ (¬ x34 = 0 → w_X5_readLawClause_b40 tx q S v0)) S v0 0)) S x21)) S x13 x1)) ∧ (x1 = (-1) → q 0 S)) S v0
set_option maxRecDepth 100000 in
set_option maxHeartbeats 4000000 in
theorem c_X5_readLawClause (l : Launch) (G : hG) (B : Nat) (S : hS) (v0 : Nat) (q : Int32 → hS → Prop) : Met l yX5_readLawClause (hws yX5_readLawClause cX5_readLawClause 2 (Option.some FieldType.boolean)) ({ frames := 73, cells := 0, slots := 0, locals := 1729 }) (hPc G B S [.ref v0] (w_X5_readLawClause G.2.2.1 q S v0)) (hQ G B (iP q)) (0) (0) (fun r => B ≤ r) := by
  refine hMet (rm := { frames := 73, cells := 0, slots := 0, locals := 1729 }) (lv := [some (.ref v0), none]) (own := RX5) (fr := 73) (lo := 1729) (by decide) rfl rfl rfl (Nat.le_of_ble_eq_true rfl) rfl (fun hw p e R s m args below meth c hC hr hlk hnm => ?_)
  unfold w_X5_readLawClause at hw
  refine z_aload_n hC dX5_readLawClause_0 rfl rfl ?_
  refine z_callV (ku' := 0) (kv' := 0) (n := 0) (As := []) (st := []) hC (c_X5_lawKind l G B S v0 _) hw.2 hw.1 rfl lk_805 lk_807 lk_8 lk_126 lk_808 hd_X5_lawKind rfl rfl (Nat.le_of_ble_eq_true rfl) (Nat.le_of_ble_eq_true rfl) rfl (Nat.le_of_ble_eq_true rfl) dX5_readLawClause_1 (Nat.le_refl 0) (Nat.le_refl 0) (kI (fun x1 S hw => ?_))
  refine z_istore_n (i := 1) (lv' := [some (.ref v0), some (.int x1)]) hC rfl dX5_readLawClause_4 (by decide) (hok_v rfl rfl) rfl ?_
  refine z_iload_n hC dX5_readLawClause_5 rfl rfl ?_
  refine z_iconst hC ic_m1 dX5_readLawClause_6 ?_
  refine z_icmp_ne (tgt := 12) hC dX5_readLawClause_7 (by decide) (fun c7 => ?_) (fun c7 => ?_)
  · have hw := hw.1 c7
    refine z_aload_n hC dX5_readLawClause_12 rfl rfl ?_
    refine z_getP hC FX5 0 lk_378 dX5_readLawClause_13 (by decide) hw (fun x13 hw => ?_)
    refine z_iload_n hC dX5_readLawClause_16 rfl rfl ?_
    refine z_callV (ku' := 0) (kv' := 0) (n := 1) (As := [.int x1]) (st := []) hC (c_X10_beginClause l G B S x13 x1 _) hw.2 hw.1 rfl lk_866 lk_867 lk_868 lk_127 lk_869 hd_X10_beginClause rfl rfl (Nat.le_of_ble_eq_true rfl) (Nat.le_of_ble_eq_true rfl) rfl (Nat.le_of_ble_eq_true rfl) dX5_readLawClause_17 (Nat.le_refl 0) (Nat.le_refl 0) (kV (fun S hw => ?_))
    refine z_aload_n hC dX5_readLawClause_20 rfl rfl ?_
    refine z_getP hC FX5 1 lk_380 dX5_readLawClause_21 (by decide) hw (fun x21 hw => ?_)
    refine z_callV (ku' := 0) (kv' := 0) (n := 0) (As := []) (st := []) hC (c_X9_advance l G B S x21 _) hw.2 hw.1 rfl lk_870 lk_791 lk_792 lk_125 lk_793 hd_X9_advance rfl rfl (Nat.le_of_ble_eq_true rfl) (Nat.le_of_ble_eq_true rfl) rfl (Nat.le_of_ble_eq_true rfl) dX5_readLawClause_24 (Nat.le_refl 0) (Nat.le_refl 0) (kV (fun S hw => ?_))
    refine z_iload_n hC dX5_readLawClause_27 rfl rfl ?_
    refine z_iconst hC ic_2 dX5_readLawClause_28 ?_
    refine z_icmp_gt (tgt := 40) hC dX5_readLawClause_29 (by decide) (fun c29 => ?_) (fun c29 => ?_)
    · have hw := hw.1 c29
      refine z_mask (lv' := [some (.ref v0), none]) [true, false] rfl ?_
      exact t_X5_readLawClause_b40 hC hr hlk hnm hw
    · have hw := hw.2 c29
      refine z_aload_n hC dX5_readLawClause_32 rfl rfl ?_
      refine z_iconst hC ic_0 dX5_readLawClause_33 ?_
      refine z_callV (ku' := 0) (kv' := 0) (n := 1) (As := [.int 0]) (st := []) hC (c_X5_readSum l G B S v0 0 _) hw.2 hw.1 rfl lk_871 lk_873 lk_9 lk_126 lk_874 hd_X5_readSum rfl rfl (Nat.le_of_ble_eq_true rfl) (Nat.le_of_ble_eq_true rfl) rfl (Nat.le_of_ble_eq_true rfl) dX5_readLawClause_34 (Nat.le_refl 0) (Nat.le_refl 0) (kI (fun x34 S hw => ?_))
      refine z_if_eq (tgt := 51) hC dX5_readLawClause_37 (by decide) (fun c37 => ?_) (fun c37 => ?_)
      · have hw := hw.1 c37
        refine z_iconst hC ic_0 dX5_readLawClause_51 ?_
        exact z_zret hC hr hlk (hz01 (Or.inl rfl)).1 dX5_readLawClause_52 ⟨_, rfl, hw⟩
      · have hw := hw.2 c37
        refine z_mask (lv' := [some (.ref v0), none]) [true, false] rfl ?_
        exact t_X5_readLawClause_b40 hC hr hlk hnm hw
  · have hw := hw.2 c7
    refine z_iconst hC ic_0 dX5_readLawClause_10 ?_
    exact z_zret hC hr hlk (hz01 (Or.inl rfl)).1 dX5_readLawClause_11 ⟨_, rfl, hw⟩
end
section
variable {p : Program} {l : Launch} {e : Env} {R : Room} {s : State} {m : MethodId} {args : Array Value} {below : List Frame} {meth : Method} {c : Code} {G : hG} {B mc ms : Nat}
def w_X5_readNextSum (tx : Nat → Nat) (q : Int32 → hS → Prop) (S : hS) (v0 : Nat) (v1 : Nat) (v2 : Int32) : Prop := oK S v0 5 ∧ w_X5_takeWord tx (fun x2 S => (¬ x2 = 0 → gP S v0 5 0 (fun x11 => oK S x11 10 ∧ w_X10_openPart (fun S => oK S v0 5 ∧ w_X5_readSum tx (fun x20 S => (x20 = 0 ∨ x20 = 1) ∧ q x20 S) S v0 0) S x11 v2)) ∧ (x2 = 0 → q 0 S)) S v0 v1
set_option maxRecDepth 100000 in
set_option maxHeartbeats 4000000 in
theorem c_X5_readNextSum (l : Launch) (G : hG) (B : Nat) (S : hS) (v0 : Nat) (v1 : Nat) (v2 : Int32) (q : Int32 → hS → Prop) : Met l yX5_readNextSum (hws yX5_readNextSum cX5_readNextSum 3 (Option.some FieldType.boolean)) ({ frames := 72, cells := 0, slots := 0, locals := 1709 }) (hPc G B S [.ref v0, .ref v1, .int v2] (w_X5_readNextSum G.2.2.1 q S v0 v1 v2)) (hQ G B (iP q)) (0) (0) (fun r => B ≤ r) := by
  refine hMet (rm := { frames := 72, cells := 0, slots := 0, locals := 1709 }) (lv := [some (.ref v0), some (.ref v1), some (.int v2)]) (own := RX5) (fr := 72) (lo := 1709) (by decide) rfl rfl rfl (Nat.le_of_ble_eq_true rfl) rfl (fun hw p e R s m args below meth c hC hr hlk hnm => ?_)
  unfold w_X5_readNextSum at hw
  refine z_aload_n hC dX5_readNextSum_0 rfl rfl ?_
  refine z_aload_n hC dX5_readNextSum_1 rfl rfl ?_
  refine z_callV (ku' := 0) (kv' := 0) (n := 1) (As := [.ref v1]) (st := []) hC (c_X5_takeWord l G B S v0 v1 _) hw.2 hw.1 rfl lk_942 lk_944 lk_19 lk_126 lk_945 hd_X5_takeWord rfl rfl (Nat.le_of_ble_eq_true rfl) (Nat.le_of_ble_eq_true rfl) rfl (Nat.le_of_ble_eq_true rfl) dX5_readNextSum_2 (Nat.le_refl 0) (Nat.le_refl 0) (kI (fun x2 S hw => ?_))
  refine z_if_ne (tgt := 10) hC dX5_readNextSum_5 (by decide) (fun c5 => ?_) (fun c5 => ?_)
  · have hw := hw.1 c5
    refine z_aload_n hC dX5_readNextSum_10 rfl rfl ?_
    refine z_getP hC FX5 0 lk_378 dX5_readNextSum_11 (by decide) hw (fun x11 hw => ?_)
    refine z_iload_n hC dX5_readNextSum_14 rfl rfl ?_
    refine z_callV (ku' := 0) (kv' := 0) (n := 1) (As := [.int v2]) (st := []) hC (c_X10_openPart l G B S x11 v2 _) hw.2 hw.1 rfl lk_935 lk_936 lk_937 lk_127 lk_938 hd_X10_openPart rfl rfl (Nat.le_of_ble_eq_true rfl) (Nat.le_of_ble_eq_true rfl) rfl (Nat.le_of_ble_eq_true rfl) dX5_readNextSum_15 (Nat.le_refl 0) (Nat.le_refl 0) (kV (fun S hw => ?_))
    refine z_aload_n hC dX5_readNextSum_18 rfl rfl ?_
    refine z_iconst hC ic_0 dX5_readNextSum_19 ?_
    refine z_callV (ku' := 0) (kv' := 0) (n := 1) (As := [.int 0]) (st := []) hC (c_X5_readSum l G B S v0 0 _) hw.2 hw.1 rfl lk_871 lk_873 lk_9 lk_126 lk_874 hd_X5_readSum rfl rfl (Nat.le_of_ble_eq_true rfl) (Nat.le_of_ble_eq_true rfl) rfl (Nat.le_of_ble_eq_true rfl) dX5_readNextSum_20 (Nat.le_refl 0) (Nat.le_refl 0) (kI (fun x20 S hw => ?_))
    exact z_zret hC hr hlk (hz01 hw.1).1 dX5_readNextSum_23 ⟨_, rfl, hw.2⟩
  · have hw := hw.2 c5
    refine z_iconst hC ic_0 dX5_readNextSum_8 ?_
    exact z_zret hC hr hlk (hz01 (Or.inl rfl)).1 dX5_readNextSum_9 ⟨_, rfl, hw⟩
end
section
variable {p : Program} {l : Launch} {e : Env} {R : Room} {s : State} {m : MethodId} {args : Array Value} {below : List Frame} {meth : Method} {c : Code} {G : hG} {B mc ms : Nat}
def w_X10_setTimes (q : hS → Prop) (S : hS) (v0 : Nat) (v1 : Int32) : Prop := gI S v0 10 0 (fun x1 => (x1 < 1 → q S) ∧ (¬ x1 < 1 → gP S v0 10 4 (fun x9 => gI S v0 10 0 (fun x13 => sI S x9 (x13 - 1) v1 (fun S => q S)))))
set_option maxRecDepth 100000 in
set_option maxHeartbeats 4000000 in
theorem c_X10_setTimes (l : Launch) (G : hG) (B : Nat) (S : hS) (v0 : Nat) (v1 : Int32) (q : hS → Prop) : Met l yX10_setTimes (hws yX10_setTimes cX10_setTimes 2 (Option.none : Option FieldType)) ({ frames := 1, cells := 0, slots := 0, locals := 60 }) (hPc G B S [.ref v0, .int v1] (w_X10_setTimes q S v0 v1)) (hQ G B (vP q)) (0) (0) (fun r => B ≤ r) := by
  refine hMet (rm := { frames := 1, cells := 0, slots := 0, locals := 60 }) (lv := [some (.ref v0), some (.int v1)]) (own := RX10) (fr := 1) (lo := 60) (by decide) rfl rfl rfl (Nat.le_of_ble_eq_true rfl) rfl (fun hw p e R s m args below meth c hC hr hlk hnm => ?_)
  unfold w_X10_setTimes at hw
  refine z_aload_n hC dX10_setTimes_0 rfl rfl ?_
  refine z_getI hC FX10 0 lk_347 dX10_setTimes_1 (by decide) hw (fun x1 hw => ?_)
  refine z_iconst hC ic_1 dX10_setTimes_4 ?_
  refine z_icmp_lt (tgt := 20) hC dX10_setTimes_5 (by decide) (fun c5 => ?_) (fun c5 => ?_)
  · have hw := hw.1 c5
    exact z_vret hC hr hlk dX10_setTimes_20 ⟨rfl, hw⟩
  · have hw := hw.2 c5
    refine z_aload_n hC dX10_setTimes_8 rfl rfl ?_
    refine z_getP hC FX10 4 lk_357 dX10_setTimes_9 (by decide) hw (fun x9 hw => ?_)
    refine z_aload_n hC dX10_setTimes_12 rfl rfl ?_
    refine z_getI hC FX10 0 lk_347 dX10_setTimes_13 (by decide) hw (fun x13 hw => ?_)
    refine z_iconst hC ic_1 dX10_setTimes_16 ?_
    refine z_isub hC dX10_setTimes_17 ?_
    refine z_iload_n hC dX10_setTimes_18 rfl rfl ?_
    refine z_astI hC dX10_setTimes_19 hw (fun S hw => ?_)
    exact z_vret hC hr hlk dX10_setTimes_20 ⟨rfl, hw⟩
end
section
variable {p : Program} {l : Launch} {e : Env} {R : Room} {s : State} {m : MethodId} {args : Array Value} {below : List Frame} {meth : Method} {c : Code} {G : hG} {B mc ms : Nat}
def w_X5_readTimes (tx : Nat → Nat) (q : Int32 → hS → Prop) (S : hS) (v0 : Nat) : Prop := oK S v0 5 ∧ w_X5_takeWord tx (fun x3 S => (¬ x3 = 0 → gP S v0 5 1 (fun x12 => oK S x12 9 ∧ w_X9_isNumber (fun x18 S => (¬ x18 = 0 → gP S v0 5 0 (fun x27 => gP S v0 5 1 (fun x31 => gI S x31 9 4 (fun x34 => oK S x27 10 ∧ w_X10_setTimes (fun S => gP S v0 5 1 (fun x41 => oK S x41 9 ∧ w_X9_advance (fun S => q 1 S) S x41)) S x27 x34)))) ∧ (x18 = 0 → q 0 S)) S x12 1 20)) ∧ (x3 = 0 → q 1 S)) S v0 (tx 23)
set_option maxRecDepth 100000 in
set_option maxHeartbeats 4000000 in
theorem c_X5_readTimes (l : Launch) (G : hG) (B : Nat) (S : hS) (v0 : Nat) (q : Int32 → hS → Prop) : Met l yX5_readTimes (hws yX5_readTimes cX5_readTimes 1 (Option.some FieldType.boolean)) ({ frames := 7, cells := 0, slots := 0, locals := 214 }) (hPc G B S [.ref v0] (w_X5_readTimes G.2.2.1 q S v0)) (hQ G B (iP q)) (0) (0) (fun r => B ≤ r) := by
  refine hMet (rm := { frames := 7, cells := 0, slots := 0, locals := 214 }) (lv := [some (.ref v0)]) (own := RX5) (fr := 7) (lo := 214) (by decide) rfl rfl rfl (Nat.le_of_ble_eq_true rfl) rfl (fun hw p e R s m args below meth c hC hr hlk hnm => ?_)
  unfold w_X5_readTimes at hw
  refine z_aload_n hC dX5_readTimes_0 rfl rfl ?_
  refine z_ldcS hC 23 rfl dX5_readTimes_1 ?_
  refine z_callV (ku' := 0) (kv' := 0) (n := 1) (As := [.ref (G.2.2.1 23)]) (st := []) hC (c_X5_takeWord l G B S v0 (G.2.2.1 23) _) hw.2 hw.1 rfl lk_942 lk_944 lk_19 lk_126 lk_945 hd_X5_takeWord rfl rfl (Nat.le_of_ble_eq_true rfl) (Nat.le_of_ble_eq_true rfl) rfl (Nat.le_of_ble_eq_true rfl) dX5_readTimes_3 (Nat.le_refl 0) (Nat.le_refl 0) (kI (fun x3 S hw => ?_))
  refine z_if_ne (tgt := 11) hC dX5_readTimes_6 (by decide) (fun c6 => ?_) (fun c6 => ?_)
  · have hw := hw.1 c6
    refine z_aload_n hC dX5_readTimes_11 rfl rfl ?_
    refine z_getP hC FX5 1 lk_380 dX5_readTimes_12 (by decide) hw (fun x12 hw => ?_)
    refine z_iconst hC ic_1 dX5_readTimes_15 ?_
    refine z_bipush hC bi_20 dX5_readTimes_16 ?_
    refine z_callV (ku' := 0) (kv' := 0) (n := 2) (As := [.int 1, .int 20]) (st := []) hC (c_X9_isNumber l G B S x12 1 20 _) hw.2 hw.1 rfl lk_891 lk_892 lk_893 lk_125 lk_894 hd_X9_isNumber rfl rfl (Nat.le_of_ble_eq_true rfl) (Nat.le_of_ble_eq_true rfl) rfl (Nat.le_of_ble_eq_true rfl) dX5_readTimes_18 (Nat.le_refl 0) (Nat.le_refl 0) (kI (fun x18 S hw => ?_))
    refine z_if_ne (tgt := 26) hC dX5_readTimes_21 (by decide) (fun c21 => ?_) (fun c21 => ?_)
    · have hw := hw.1 c21
      refine z_aload_n hC dX5_readTimes_26 rfl rfl ?_
      refine z_getP hC FX5 0 lk_378 dX5_readTimes_27 (by decide) hw (fun x27 hw => ?_)
      refine z_aload_n hC dX5_readTimes_30 rfl rfl ?_
      refine z_getP hC FX5 1 lk_380 dX5_readTimes_31 (by decide) hw (fun x31 hw => ?_)
      refine z_getI hC FX9 4 lk_320 dX5_readTimes_34 (by decide) hw (fun x34 hw => ?_)
      refine z_callV (ku' := 0) (kv' := 0) (n := 1) (As := [.int x34]) (st := []) hC (c_X10_setTimes l G B S x27 x34 _) hw.2 hw.1 rfl lk_988 lk_989 lk_990 lk_127 lk_991 hd_X10_setTimes rfl rfl (Nat.le_of_ble_eq_true rfl) (Nat.le_of_ble_eq_true rfl) rfl (Nat.le_of_ble_eq_true rfl) dX5_readTimes_37 (Nat.le_refl 0) (Nat.le_refl 0) (kV (fun S hw => ?_))
      refine z_aload_n hC dX5_readTimes_40 rfl rfl ?_
      refine z_getP hC FX5 1 lk_380 dX5_readTimes_41 (by decide) hw (fun x41 hw => ?_)
      refine z_callV (ku' := 0) (kv' := 0) (n := 0) (As := []) (st := []) hC (c_X9_advance l G B S x41 _) hw.2 hw.1 rfl lk_870 lk_791 lk_792 lk_125 lk_793 hd_X9_advance rfl rfl (Nat.le_of_ble_eq_true rfl) (Nat.le_of_ble_eq_true rfl) rfl (Nat.le_of_ble_eq_true rfl) dX5_readTimes_44 (Nat.le_refl 0) (Nat.le_refl 0) (kV (fun S hw => ?_))
      refine z_iconst hC ic_1 dX5_readTimes_47 ?_
      exact z_zret hC hr hlk (hz01 (Or.inr rfl)).1 dX5_readTimes_48 ⟨_, rfl, hw⟩
    · have hw := hw.2 c21
      refine z_iconst hC ic_0 dX5_readTimes_24 ?_
      exact z_zret hC hr hlk (hz01 (Or.inl rfl)).1 dX5_readTimes_25 ⟨_, rfl, hw⟩
  · have hw := hw.2 c6
    refine z_iconst hC ic_1 dX5_readTimes_9 ?_
    exact z_zret hC hr hlk (hz01 (Or.inr rfl)).1 dX5_readTimes_10 ⟨_, rfl, hw⟩
end
