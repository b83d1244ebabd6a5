section
variable {p : Program} {l : Launch} {e : Env} {R : Room} {s : State} {m : MethodId} {args : Array Value} {below : List Frame} {meth : Method} {c : Code} {G : hG} {B mc ms : Nat}
def w_X11_feed (q : Int32 → hS → Prop) (S : hS) (v0 : Nat) (v1 : Int32) (v2 : Int32) (v3 : Int32) (v4 : Int32) (v5 : Int32) : Prop := gP S v0 11 4 (fun x1 => gI S x1 9 1 (fun x4 => ((x4 + 20) ≤ 400 → gP S v0 11 4 (fun x19 => oK S x19 9 ∧ w_X9_addFour (fun S => gP S v0 11 4 (fun x27 => oK S x27 9 ∧ w_X9_addFour (fun S => gP S v0 11 4 (fun x35 => oK S x35 9 ∧ w_X9_addFour (fun S => gP S v0 11 4 (fun x43 => oK S x43 9 ∧ w_X9_addFour (fun S => gP S v0 11 4 (fun x52 => oK S x52 9 ∧ w_X9_addFour (fun S => gP S v0 11 4 (fun x61 => gI S x61 9 1 (fun x64 => q x64 S))) S x52 v5)) S x43 v4)) S x35 v3)) S x27 v2)) S x19 v1)) ∧ (¬ (x4 + 20) ≤ 400 → q (-1) S)))
set_option maxRecDepth 100000 in
set_option maxHeartbeats 4000000 in
theorem c_X11_feed (l : Launch) (G : hG) (B : Nat) (S : hS) (v0 : Nat) (v1 : Int32) (v2 : Int32) (v3 : Int32) (v4 : Int32) (v5 : Int32) (q : Int32 → hS → Prop) : Met l yX11_feed (hws yX11_feed cX11_feed 6 (Option.some FieldType.int)) ({ frames := 2, cells := 0, slots := 0, locals := 82 }) (hPc G B S [.ref v0, .int v1, .int v2, .int v3, .int v4, .int v5] (w_X11_feed q S v0 v1 v2 v3 v4 v5)) (hQ G B (iP q)) (0) (0) (fun r => B ≤ r) := by
  refine hMet (rm := { frames := 2, cells := 0, slots := 0, locals := 82 }) (lv := [some (.ref v0), some (.int v1), some (.int v2), some (.int v3), some (.int v4), some (.int v5)]) (own := RX11) (fr := 2) (lo := 82) (by decide) rfl rfl rfl (Nat.le_of_ble_eq_true rfl) rfl (fun hw p e R s m args below meth c hC hr hlk hnm => ?_)
  unfold w_X11_feed at hw
  refine z_aload_n hC dX11_feed_0 rfl rfl ?_
  refine z_getP hC FX11 4 lk_519 dX11_feed_1 (by decide) hw (fun x1 hw => ?_)
  refine z_getI hC FX9 1 lk_314 dX11_feed_4 (by decide) hw (fun x4 hw => ?_)
  refine z_bipush hC bi_20 dX11_feed_7 ?_
  refine z_iadd hC dX11_feed_9 ?_
  refine z_sipush hC si_400 dX11_feed_10 ?_
  refine z_icmp_le (tgt := 18) hC dX11_feed_13 (by decide) (fun c13 => ?_) (fun c13 => ?_)
  · have hw := hw.1 c13
    refine z_aload_n hC dX11_feed_18 rfl rfl ?_
    refine z_getP hC FX11 4 lk_519 dX11_feed_19 (by decide) hw (fun x19 hw => ?_)
    refine z_iload_n hC dX11_feed_22 rfl rfl ?_
    refine z_callV (ku' := 0) (kv' := 0) (n := 1) (As := [.int v1]) (st := []) hC (c_X9_addFour l G B S x19 v1 _) hw.2 hw.1 rfl lk_754 lk_755 lk_756 lk_125 lk_757 hd_X9_addFour rfl rfl (Nat.le_of_ble_eq_true rfl) (Nat.le_of_ble_eq_true rfl) rfl (Nat.le_of_ble_eq_true rfl) dX11_feed_23 (Nat.le_refl 0) (Nat.le_refl 0) (kV (fun S hw => ?_))
    refine z_aload_n hC dX11_feed_26 rfl rfl ?_
    refine z_getP hC FX11 4 lk_519 dX11_feed_27 (by decide) hw (fun x27 hw => ?_)
    refine z_iload_n hC dX11_feed_30 rfl rfl ?_
    refine z_callV (ku' := 0) (kv' := 0) (n := 1) (As := [.int v2]) (st := []) hC (c_X9_addFour l G B S x27 v2 _) hw.2 hw.1 rfl lk_754 lk_755 lk_756 lk_125 lk_757 hd_X9_addFour rfl rfl (Nat.le_of_ble_eq_true rfl) (Nat.le_of_ble_eq_true rfl) rfl (Nat.le_of_ble_eq_true rfl) dX11_feed_31 (Nat.le_refl 0) (Nat.le_refl 0) (kV (fun S hw => ?_))
    refine z_aload_n hC dX11_feed_34 rfl rfl ?_
    refine z_getP hC FX11 4 lk_519 dX11_feed_35 (by decide) hw (fun x35 hw => ?_)
    refine z_iload_n hC dX11_feed_38 rfl rfl ?_
    refine z_callV (ku' := 0) (kv' := 0) (n := 1) (As := [.int v3]) (st := []) hC (c_X9_addFour l G B S x35 v3 _) hw.2 hw.1 rfl lk_754 lk_755 lk_756 lk_125 lk_757 hd_X9_addFour rfl rfl (Nat.le_of_ble_eq_true rfl) (Nat.le_of_ble_eq_true rfl) rfl (Nat.le_of_ble_eq_true rfl) dX11_feed_39 (Nat.le_refl 0) (Nat.le_refl 0) (kV (fun S hw => ?_))
    refine z_aload_n hC dX11_feed_42 rfl rfl ?_
    refine z_getP hC FX11 4 lk_519 dX11_feed_43 (by decide) hw (fun x43 hw => ?_)
    refine z_iload hC dX11_feed_46 rfl ?_
    refine z_callV (ku' := 0) (kv' := 0) (n := 1) (As := [.int v4]) (st := []) hC (c_X9_addFour l G B S x43 v4 _) hw.2 hw.1 rfl lk_754 lk_755 lk_756 lk_125 lk_757 hd_X9_addFour rfl rfl (Nat.le_of_ble_eq_true rfl) (Nat.le_of_ble_eq_true rfl) rfl (Nat.le_of_ble_eq_true rfl) dX11_feed_48 (Nat.le_refl 0) (Nat.le_refl 0) (kV (fun S hw => ?_))
    refine z_aload_n hC dX11_feed_51 rfl rfl ?_
    refine z_getP hC FX11 4 lk_519 dX11_feed_52 (by decide) hw (fun x52 hw => ?_)
    refine z_iload hC dX11_feed_55 rfl ?_
    refine z_callV (ku' := 0) (kv' := 0) (n := 1) (As := [.int v5]) (st := []) hC (c_X9_addFour l G B S x52 v5 _) hw.2 hw.1 rfl lk_754 lk_755 lk_756 lk_125 lk_757 hd_X9_addFour rfl rfl (Nat.le_of_ble_eq_true rfl) (Nat.le_of_ble_eq_true rfl) rfl (Nat.le_of_ble_eq_true rfl) dX11_feed_57 (Nat.le_refl 0) (Nat.le_refl 0) (kV (fun S hw => ?_))
    refine z_aload_n hC dX11_feed_60 rfl rfl ?_
    refine z_getP hC FX11 4 lk_519 dX11_feed_61 (by decide) hw (fun x61 hw => ?_)
    refine z_getI hC FX9 1 lk_314 dX11_feed_64 (by decide) hw (fun x64 hw => ?_)
    exact z_iret hC hr hlk dX11_feed_67 ⟨_, rfl, hw⟩
  · have hw := hw.2 c13
    refine z_iconst hC ic_m1 dX11_feed_16 ?_
    exact z_iret hC hr hlk dX11_feed_17 ⟨_, rfl, hw⟩
end
section
variable {p : Program} {l : Launch} {e : Env} {R : Room} {s : State} {m : MethodId} {args : Array Value} {below : List Frame} {meth : Method} {c : Code} {G : hG} {B mc ms : Nat}
def w_X11_end (q : Int32 → hS → Prop) (S : hS) (v0 : Nat) (v1 : Int32) : Prop := gP S v0 11 4 (fun x2 => gI S x2 9 1 (fun x5 => w_X11_isWithin (fun x8 S => (¬ x8 = 0 → gP S v0 11 4 (fun x17 => pI S x17 9 1 v1 (fun S => q v1 S))) ∧ (x8 = 0 → q (-1) S)) S v1 x5))
set_option maxRecDepth 100000 in
set_option maxHeartbeats 4000000 in
theorem c_X11_end (l : Launch) (G : hG) (B : Nat) (S : hS) (v0 : Nat) (v1 : Int32) (q : Int32 → hS → Prop) : Met l yX11_end (hws yX11_end cX11_end 2 (Option.some FieldType.int)) ({ frames := 2, cells := 0, slots := 0, locals := 81 }) (hPc G B S [.ref v0, .int v1] (w_X11_end q S v0 v1)) (hQ G B (iP q)) (0) (0) (fun r => B ≤ r) := by
  refine hMet (rm := { frames := 2, cells := 0, slots := 0, locals := 81 }) (lv := [some (.ref v0), some (.int v1)]) (own := RX11) (fr := 2) (lo := 81) (by decide) rfl rfl rfl (Nat.le_of_ble_eq_true rfl) rfl (fun hw p e R s m args below meth c hC hr hlk hnm => ?_)
  unfold w_X11_end at hw
  refine z_iload_n hC dX11_end_0 rfl rfl ?_
  refine z_aload_n hC dX11_end_1 rfl rfl ?_
  refine z_getP hC FX11 4 lk_519 dX11_end_2 (by decide) hw (fun x2 hw => ?_)
  refine z_getI hC FX9 1 lk_314 dX11_end_5 (by decide) hw (fun x5 hw => ?_)
  refine z_callS (ku' := 0) (kv' := 0) (n := 2) (As := [.int v1, .int x5]) (st := []) hC (c_X11_isWithin l G B S v1 x5 _) hw lk_574 lk_575 lk_121 lk_576 hd_X11_isWithin rfl rfl (Nat.le_of_ble_eq_true rfl) (Nat.le_of_ble_eq_true rfl) rfl (Nat.le_of_ble_eq_true rfl) dX11_end_8 (Nat.le_refl 0) (Nat.le_refl 0) (kI (fun x8 S hw => ?_))
  refine z_if_ne (tgt := 16) hC dX11_end_11 (by decide) (fun c11 => ?_) (fun c11 => ?_)
  · have hw := hw.1 c11
    refine z_aload_n hC dX11_end_16 rfl rfl ?_
    refine z_getP hC FX11 4 lk_519 dX11_end_17 (by decide) hw (fun x17 hw => ?_)
    refine z_iload_n hC dX11_end_20 rfl rfl ?_
    refine z_putI hC FX9 1 lk_314 dX11_end_21 (by decide) rfl rfl hw (fun S hw => ?_)
    refine z_iload_n hC dX11_end_24 rfl rfl ?_
    exact z_iret hC hr hlk dX11_end_25 ⟨_, rfl, hw⟩
  · have hw := hw.2 c11
    refine z_iconst hC ic_m1 dX11_end_14 ?_
    exact z_iret hC hr hlk dX11_end_15 ⟨_, rfl, hw⟩
end
section
variable {p : Program} {l : Launch} {e : Env} {R : Room} {s : State} {m : MethodId} {args : Array Value} {below : List Frame} {meth : Method} {c : Code} {G : hG} {B mc ms : Nat}
def w_X11_let (q : Int32 → hS → Prop) (S : hS) (v0 : Nat) (v1 : Int32) : Prop := gP S v0 11 4 (fun x4 => gI S x4 9 1 (fun x7 => (x7 < (v1 + 4) → q 0 S) ∧ (¬ x7 < (v1 + 4) → gP S v0 11 0 (fun x14 => gI S x14 8 4 (fun x17 => (x17 < 8 → gP S v0 11 4 (fun x28 => gP S x28 9 0 (fun x31 => aI S x31 v1 (fun x35 => gP S v0 11 4 (fun x38 => gP S x38 9 0 (fun x41 => aI S x41 (v1 + 1) (fun x47 => gP S v0 11 4 (fun x50 => gP S x50 9 0 (fun x53 => aI S x53 (v1 + 2) (fun x59 => gP S v0 11 4 (fun x63 => gP S x63 9 0 (fun x66 => aI S x66 (v1 + 3) (fun x72 => ∀ y83 : Int32, y83 = ((10 * x59) + x72) → (25 ≤ x35 → q 0 S) ∧ (¬ 25 ≤ x35 → (99 < x47 → q 0 S) ∧ (¬ 99 < x47 → (9 < x72 → q 0 S) ∧ (¬ 9 < x72 → (y83 ≤ 999 → gP S v0 11 0 (fun x115 => oK S x115 8 ∧ w_X8_addPerson (fun x122 S => q 1 S) S x115 x35 x47 y83)) ∧ (¬ y83 ≤ 999 → q 0 S))))))))))))))))) ∧ (¬ x17 < 8 → q 0 S))))))
set_option maxRecDepth 100000 in
set_option maxHeartbeats 4000000 in
theorem c_X11_let (l : Launch) (G : hG) (B : Nat) (S : hS) (v0 : Nat) (v1 : Int32) (q : Int32 → hS → Prop) : Met l yX11_let (hws yX11_let cX11_let 7 (Option.some FieldType.boolean)) ({ frames := 3, cells := 0, slots := 0, locals := 106 }) (hPc G B S [.ref v0, .int v1] (w_X11_let q S v0 v1)) (hQ G B (iP q)) (0) (0) (fun r => B ≤ r) := by
  refine hMet (rm := { frames := 3, cells := 0, slots := 0, locals := 106 }) (lv := [some (.ref v0), some (.int v1), none, none, none, none, none]) (own := RX11) (fr := 3) (lo := 106) (by decide) rfl rfl rfl (Nat.le_of_ble_eq_true rfl) rfl (fun hw p e R s m args below meth c hC hr hlk hnm => ?_)
  unfold w_X11_let at hw
  refine z_iload_n hC dX11_let_0 rfl rfl ?_
  refine z_iconst hC ic_4 dX11_let_1 ?_
  refine z_iadd hC dX11_let_2 ?_
  refine z_aload_n hC dX11_let_3 rfl rfl ?_
  refine z_getP hC FX11 4 lk_519 dX11_let_4 (by decide) hw (fun x4 hw => ?_)
  refine z_getI hC FX9 1 lk_314 dX11_let_7 (by decide) hw (fun x7 hw => ?_)
  refine z_icmp_gt (tgt := 25) hC dX11_let_10 (by decide) (fun c10 => ?_) (fun c10 => ?_)
  · have hw := hw.1 c10
    refine z_iconst hC ic_0 dX11_let_25 ?_
    exact z_zret hC hr hlk (hz01 (Or.inl rfl)).1 dX11_let_26 ⟨_, rfl, hw⟩
  · have hw := hw.2 c10
    refine z_aload_n hC dX11_let_13 rfl rfl ?_
    refine z_getP hC FX11 0 lk_515 dX11_let_14 (by decide) hw (fun x14 hw => ?_)
    refine z_getI hC FX8 4 lk_218 dX11_let_17 (by decide) hw (fun x17 hw => ?_)
    refine z_bipush hC bi_8 dX11_let_20 ?_
    refine z_icmp_lt (tgt := 27) hC dX11_let_22 (by decide) (fun c22 => ?_) (fun c22 => ?_)
    · have hw := hw.1 c22
      refine z_aload_n hC dX11_let_27 rfl rfl ?_
      refine z_getP hC FX11 4 lk_519 dX11_let_28 (by decide) hw (fun x28 hw => ?_)
      refine z_getP hC FX9 0 lk_312 dX11_let_31 (by decide) hw (fun x31 hw => ?_)
      refine z_iload_n hC dX11_let_34 rfl rfl ?_
      refine z_aldI hC dX11_let_35 hw (fun x35 hw => ?_)
      refine z_istore_n (i := 2) (lv' := [some (.ref v0), some (.int v1), some (.int x35), none, none, none, none]) hC rfl dX11_let_36 (by decide) (hok_v rfl rfl) rfl ?_
      refine z_aload_n hC dX11_let_37 rfl rfl ?_
      refine z_getP hC FX11 4 lk_519 dX11_let_38 (by decide) hw (fun x38 hw => ?_)
      refine z_getP hC FX9 0 lk_312 dX11_let_41 (by decide) hw (fun x41 hw => ?_)
      refine z_iload_n hC dX11_let_44 rfl rfl ?_
      refine z_iconst hC ic_1 dX11_let_45 ?_
      refine z_iadd hC dX11_let_46 ?_
      refine z_aldI hC dX11_let_47 hw (fun x47 hw => ?_)
      refine z_istore_n (i := 3) (lv' := [some (.ref v0), some (.int v1), some (.int x35), some (.int x47), none, none, none]) hC rfl dX11_let_48 (by decide) (hok_v rfl rfl) rfl ?_
      refine z_aload_n hC dX11_let_49 rfl rfl ?_
      refine z_getP hC FX11 4 lk_519 dX11_let_50 (by decide) hw (fun x50 hw => ?_)
      refine z_getP hC FX9 0 lk_312 dX11_let_53 (by decide) hw (fun x53 hw => ?_)
      refine z_iload_n hC dX11_let_56 rfl rfl ?_
      refine z_iconst hC ic_2 dX11_let_57 ?_
      refine z_iadd hC dX11_let_58 ?_
      refine z_aldI hC dX11_let_59 hw (fun x59 hw => ?_)
      refine z_istore (i := 4) (lv' := [some (.ref v0), some (.int v1), some (.int x35), some (.int x47), some (.int x59), none, none]) hC dX11_let_60 (by decide) (hok_v rfl rfl) rfl ?_
      refine z_aload_n hC dX11_let_62 rfl rfl ?_
      refine z_getP hC FX11 4 lk_519 dX11_let_63 (by decide) hw (fun x63 hw => ?_)
      refine z_getP hC FX9 0 lk_312 dX11_let_66 (by decide) hw (fun x66 hw => ?_)
      refine z_iload_n hC dX11_let_69 rfl rfl ?_
      refine z_iconst hC ic_3 dX11_let_70 ?_
      refine z_iadd hC dX11_let_71 ?_
      refine z_aldI hC dX11_let_72 hw (fun x72 hw => ?_)
      refine z_istore (i := 5) (lv' := [some (.ref v0), some (.int v1), some (.int x35), some (.int x47), some (.int x59), some (.int x72), none]) hC dX11_let_73 (by decide) (hok_v rfl rfl) rfl ?_
      refine z_bipush hC bi_10 dX11_let_75 ?_
      refine z_iload hC dX11_let_77 rfl ?_
      refine z_imul hC dX11_let_79 ?_
      refine z_iload hC dX11_let_80 rfl ?_
      refine z_iadd hC dX11_let_82 ?_
      refine z_nmI (fun y83 e83 => ?_)
      have hw := hw y83 e83
      refine z_istore (i := 6) (lv' := [some (.ref v0), some (.int v1), some (.int x35), some (.int x47), some (.int x59), some (.int x72), some (.int y83)]) hC dX11_let_83 (by decide) (hok_v rfl rfl) rfl ?_
      refine z_iload_n hC dX11_let_85 rfl rfl ?_
      refine z_bipush hC bi_25 dX11_let_86 ?_
      refine z_icmp_ge (tgt := 112) hC dX11_let_88 (by decide) (fun c88 => ?_) (fun c88 => ?_)
      · have hw := hw.1 c88
        refine z_iconst hC ic_0 dX11_let_112 ?_
        exact z_zret hC hr hlk (hz01 (Or.inl rfl)).1 dX11_let_113 ⟨_, rfl, hw⟩
      · have hw := hw.2 c88
        refine z_iload_n hC dX11_let_91 rfl rfl ?_
        refine z_bipush hC bi_99 dX11_let_92 ?_
        refine z_icmp_gt (tgt := 112) hC dX11_let_94 (by decide) (fun c94 => ?_) (fun c94 => ?_)
        · have hw := hw.1 c94
          refine z_iconst hC ic_0 dX11_let_112 ?_
          exact z_zret hC hr hlk (hz01 (Or.inl rfl)).1 dX11_let_113 ⟨_, rfl, hw⟩
        · have hw := hw.2 c94
          refine z_iload hC dX11_let_97 rfl ?_
          refine z_bipush hC bi_9 dX11_let_99 ?_
          refine z_icmp_gt (tgt := 112) hC dX11_let_101 (by decide) (fun c101 => ?_) (fun c101 => ?_)
          · have hw := hw.1 c101
            refine z_iconst hC ic_0 dX11_let_112 ?_
            exact z_zret hC hr hlk (hz01 (Or.inl rfl)).1 dX11_let_113 ⟨_, rfl, hw⟩
          · have hw := hw.2 c101
            refine z_iload hC dX11_let_104 rfl ?_
            refine z_sipush hC si_999 dX11_let_106 ?_
            refine z_icmp_le (tgt := 114) hC dX11_let_109 (by decide) (fun c109 => ?_) (fun c109 => ?_)
            · have hw := hw.1 c109
              refine z_aload_n hC dX11_let_114 rfl rfl ?_
              refine z_getP hC FX11 0 lk_515 dX11_let_115 (by decide) hw (fun x115 hw => ?_)
              refine z_iload_n hC dX11_let_118 rfl rfl ?_
              refine z_iload_n hC dX11_let_119 rfl rfl ?_
              refine z_iload hC dX11_let_120 rfl ?_
              refine z_callV (ku' := 0) (kv' := 0) (n := 3) (As := [.int x35, .int x47, .int y83]) (st := []) hC (c_X8_addPerson l G B S x115 x35 x47 y83 _) hw.2 hw.1 rfl lk_666 lk_667 lk_668 lk_122 lk_669 hd_X8_addPerson rfl rfl (Nat.le_of_ble_eq_true rfl) (Nat.le_of_ble_eq_true rfl) rfl (Nat.le_of_ble_eq_true rfl) dX11_let_122 (Nat.le_refl 0) (Nat.le_refl 0) (kI (fun x122 S hw => ?_))
              refine z_pop hC rfl dX11_let_125 ?_
              refine z_iconst hC ic_1 dX11_let_126 ?_
              exact z_zret hC hr hlk (hz01 (Or.inr rfl)).1 dX11_let_127 ⟨_, rfl, hw⟩
            · have hw := hw.2 c109
              refine z_iconst hC ic_0 dX11_let_112 ?_
              exact z_zret hC hr hlk (hz01 (Or.inl rfl)).1 dX11_let_113 ⟨_, rfl, hw⟩
    · have hw := hw.2 c22
      refine z_iconst hC ic_0 dX11_let_25 ?_
      exact z_zret hC hr hlk (hz01 (Or.inl rfl)).1 dX11_let_26 ⟨_, rfl, hw⟩
end
section
variable {p : Program} {l : Launch} {e : Env} {R : Room} {s : State} {m : MethodId} {args : Array Value} {below : List Frame} {meth : Method} {c : Code} {G : hG} {B mc ms : Nat}
def w_X11_row_b51 (q : Int32 → hS → Prop) (K23 : hS → (Nat) → (Int32) → (Int32) → (Int32) → Prop) (S : hS) (v0 : Nat) (v1 : Int32) (v2 : Int32) (v3 : Int32) : Prop := ∀ y51 : Int32, y51 = v3 + 4 → K23 S v0 v1 v2 y51
set_option maxRecDepth 100000 in
set_option maxHeartbeats 4000000 in
theorem t_X11_row_b51 (hC : zC p R s m args c cX11_row 4 RX11 G B mc ms 4 132) (hr : meth.sig.returnType = (Option.some FieldType.int)) (hlk : meth.locks = false) (hnm : meth.name = "row") {q : Int32 → hS → Prop} {K23 : hS → (Nat) → (Int32) → (Int32) → (Int32) → Prop} (hK23 : ∀ {S : hS} {v0 : Nat} {v1 : Int32} {v2 : Int32} {v3 : Int32}, K23 S v0 v1 v2 v3 → Z p l e R s m args below meth c (MQ below (hQ G B (iP q)) args s mc ms (fun r => B ≤ r)) G B mc ms 4 S 0 0 23 [some (.ref v0), some (.int v1), some (.int v2), some (.int v3)] []) {S : hS} {v0 : Nat} {v1 : Int32} {v2 : Int32} {v3 : Int32} (hw : w_X11_row_b51 q K23 S v0 v1 v2 v3) : Z p l e R s m args below meth c (MQ below (hQ G B (iP q)) args s mc ms (fun r => B ≤ r)) G B mc ms 4 S 0 0 51 [some (.ref v0), some (.int v1), some (.int v2), some (.int v3)] [] := by
  unfold w_X11_row_b51 at hw
  refine z_inc (i := 3) hC ic_4 dX11_row_51 rfl (by decide) (hok_v rfl rfl) (fun y51 e51 => ?_)
  have hw := hw y51 e51
  refine z_goto (tgt := 23) hC dX11_row_54 (by decide) ?_
  refine z_mask (lv' := [some (.ref v0), some (.int v1), some (.int v2), some (.int y51)]) [true, true, true, true] rfl ?_
  exact hK23 hw
def w_X11_row_b23 (q : Int32 → hS → Prop) : Nat → hS → (Nat) → (Int32) → (Int32) → (Int32) → Prop
  | 0, _, _, _, _, _ => False
  | n + 1, S, v0, v1, v2, v3 => gP S v0 11 4 (fun x25 => gI S x25 9 1 (fun x28 => (x28 ≤ v3 → gP S v0 11 4 (fun x58 => pI S x58 9 1 0 (fun S => pI S v0 11 15 v2 (fun S => gP S v0 11 3 (fun x71 => oK S x71 3 ∧ w_X3_clear (fun S => oK S v0 11 ∧ w_X11_accept (fun x79 S => q x79 S) S v0 v1) S x71))))) ∧ (¬ x28 ≤ v3 → oK S v0 11 ∧ w_X11_let (fun x36 S => (x36 = 0 → ∀ y48 : Int32, y48 = v2 + 1 → w_X11_row_b51 q (fun S v0 v1 v2 v3 => w_X11_row_b23 q n S v0 v1 v2 v3) S v0 v1 y48 v3) ∧ (¬ x36 = 0 → ∀ y42 : Int32, y42 = v1 + 1 → w_X11_row_b51 q (fun S v0 v1 v2 v3 => w_X11_row_b23 q n S v0 v1 v2 v3) S v0 y42 v2 v3)) S v0 v3)))
set_option maxRecDepth 100000 in
set_option maxHeartbeats 4000000 in
theorem t_X11_row_b23 (hC : zC p R s m args c cX11_row 4 RX11 G B mc ms 4 132) (hr : meth.sig.returnType = (Option.some FieldType.int)) (hlk : meth.locks = false) (hnm : meth.name = "row") {q : Int32 → hS → Prop} (n : Nat) : ∀ {S : hS} {v0 : Nat} {v1 : Int32} {v2 : Int32} {v3 : Int32} (hw : w_X11_row_b23 q n S v0 v1 v2 v3), Z p l e R s m args below meth c (MQ below (hQ G B (iP q)) args s mc ms (fun r => B ≤ r)) G B mc ms 4 S 0 0 23 [some (.ref v0), some (.int v1), some (.int v2), some (.int v3)] [] := by
  induction n with
  | zero => intro S v0 v1 v2 v3 hw; exact (by rw [w_X11_row_b23] at hw; exact hw.elim)
  | succ n ih =>
    intro S v0 v1 v2 v3 hw
    rw [w_X11_row_b23] at hw
    refine z_iload_n hC dX11_row_23 rfl rfl ?_
    refine z_aload_n hC dX11_row_24 rfl rfl ?_
    refine z_getP hC FX11 4 lk_519 dX11_row_25 (by decide) hw (fun x25 hw => ?_)
    refine z_getI hC FX9 1 lk_314 dX11_row_28 (by decide) hw (fun x28 hw => ?_)
    refine z_icmp_ge (tgt := 57) hC dX11_row_31 (by decide) (fun c31 => ?_) (fun c31 => ?_)
    · have hw := hw.1 c31
      refine z_aload_n hC dX11_row_57 rfl rfl ?_
      refine z_getP hC FX11 4 lk_519 dX11_row_58 (by decide) hw (fun x58 hw => ?_)
      refine z_iconst hC ic_0 dX11_row_61 ?_
      refine z_putI hC FX9 1 lk_314 dX11_row_62 (by decide) rfl rfl hw (fun S hw => ?_)
      refine z_aload_n hC dX11_row_65 rfl rfl ?_
      refine z_iload_n hC dX11_row_66 rfl rfl ?_
      refine z_putI hC FX11 15 lk_530 dX11_row_67 (by decide) rfl rfl hw (fun S hw => ?_)
      refine z_aload_n hC dX11_row_70 rfl rfl ?_
      refine z_getP hC FX11 3 lk_518 dX11_row_71 (by decide) hw (fun x71 hw => ?_)
      refine z_callV (ku' := 0) (kv' := 0) (n := 0) (As := []) (st := []) hC (c_X3_clear l G B S x71 _) hw.2 hw.1 rfl lk_581 lk_582 lk_583 lk_124 lk_584 hd_X3_clear rfl rfl (Nat.le_of_ble_eq_true rfl) (Nat.le_of_ble_eq_true rfl) rfl (Nat.le_of_ble_eq_true rfl) dX11_row_74 (Nat.le_refl 0) (Nat.le_refl 0) (kV (fun S hw => ?_))
      refine z_aload_n hC dX11_row_77 rfl rfl ?_
      refine z_iload_n hC dX11_row_78 rfl rfl ?_
      refine z_callV (ku' := 0) (kv' := 0) (n := 1) (As := [.int v1]) (st := []) hC (c_X11_accept l G B S v0 v1 _) hw.2 hw.1 rfl lk_592 lk_594 lk_1 lk_121 lk_595 hd_X11_accept rfl rfl (Nat.le_of_ble_eq_true rfl) (Nat.le_of_ble_eq_true rfl) rfl (Nat.le_of_ble_eq_true rfl) dX11_row_79 (Nat.le_refl 0) (Nat.le_refl 0) (kI (fun x79 S hw => ?_))
      exact z_iret hC hr hlk dX11_row_82 ⟨_, rfl, hw⟩
    · have hw := hw.2 c31
      refine z_aload_n hC dX11_row_34 rfl rfl ?_
      refine z_iload_n hC dX11_row_35 rfl rfl ?_
      refine z_callV (ku' := 0) (kv' := 0) (n := 1) (As := [.int v3]) (st := []) hC (c_X11_let l G B S v0 v3 _) hw.2 hw.1 rfl lk_766 lk_768 lk_6 lk_121 lk_769 hd_X11_let rfl rfl (Nat.le_of_ble_eq_true rfl) (Nat.le_of_ble_eq_true rfl) rfl (Nat.le_of_ble_eq_true rfl) dX11_row_36 (Nat.le_refl 0) (Nat.le_refl 0) (kI (fun x36 S hw => ?_))
      refine z_if_eq (tgt := 48) hC dX11_row_39 (by decide) (fun c39 => ?_) (fun c39 => ?_)
      · have hw := hw.1 c39
        refine z_inc (i := 2) hC ic_1 dX11_row_48 rfl (by decide) (hok_v rfl rfl) (fun y48 e48 => ?_)
        have hw := hw y48 e48
        refine z_mask (lv' := [some (.ref v0), some (.int v1), some (.int y48), some (.int v3)]) [true, true, true, true] rfl ?_
        exact t_X11_row_b51 hC hr hlk hnm (fun hw => ih hw) hw
      · have hw := hw.2 c39
        refine z_inc (i := 1) hC ic_1 dX11_row_42 rfl (by decide) (hok_v rfl rfl) (fun y42 e42 => ?_)
        have hw := hw y42 e42
        refine z_goto (tgt := 51) hC dX11_row_45 (by decide) ?_
        refine z_mask (lv' := [some (.ref v0), some (.int y42), some (.int v2), some (.int v3)]) [true, true, true, true] rfl ?_
        exact t_X11_row_b51 hC hr hlk hnm (fun hw => ih hw) hw
def w_X11_row (q : Int32 → hS → Prop) (S : hS) (v0 : Nat) : Prop := gP S v0 11 4 (fun x1 => gI S x1 9 1 (fun x4 => (¬ x4 = 0 → (∃ n23 : Nat, w_X11_row_b23 q n23 S v0 0 0 0)) ∧ (x4 = 0 → oK S v0 11 ∧ w_X11_refuse (fun x13 S => q x13 S) S v0 (-6))))
set_option maxRecDepth 100000 in
set_option maxHeartbeats 4000000 in
theorem c_X11_row (l : Launch) (G : hG) (B : Nat) (S : hS) (v0 : Nat) (q : Int32 → hS → Prop) : Met l yX11_row (hws yX11_row cX11_row 4 (Option.some FieldType.int)) ({ frames := 4, cells := 0, slots := 0, locals := 132 }) (hPc G B S [.ref v0] (w_X11_row q S v0)) (hQ G B (iP q)) (0) (0) (fun r => B ≤ r) := by
  refine hMet (rm := { frames := 4, cells := 0, slots := 0, locals := 132 }) (lv := [some (.ref v0), none, none, none]) (own := RX11) (fr := 4) (lo := 132) (by decide) rfl rfl rfl (Nat.le_of_ble_eq_true rfl) rfl (fun hw p e R s m args below meth c hC hr hlk hnm => ?_)
  unfold w_X11_row at hw
  refine z_aload_n hC dX11_row_0 rfl rfl ?_
  refine z_getP hC FX11 4 lk_519 dX11_row_1 (by decide) hw (fun x1 hw => ?_)
  refine z_getI hC FX9 1 lk_314 dX11_row_4 (by decide) hw (fun x4 hw => ?_)
  refine z_if_ne (tgt := 17) hC dX11_row_7 (by decide) (fun c7 => ?_) (fun c7 => ?_)
  · have hw := hw.1 c7
    refine z_iconst hC ic_0 dX11_row_17 ?_
    refine z_istore_n (i := 1) (lv' := [some (.ref v0), some (.int 0), none, none]) hC rfl dX11_row_18 (by decide) (hok_v rfl rfl) rfl ?_
    refine z_iconst hC ic_0 dX11_row_19 ?_
    refine z_istore_n (i := 2) (lv' := [some (.ref v0), some (.int 0), some (.int 0), none]) hC rfl dX11_row_20 (by decide) (hok_v rfl rfl) rfl ?_
    refine z_iconst hC ic_0 dX11_row_21 ?_
    refine z_istore_n (i := 3) (lv' := [some (.ref v0), some (.int 0), some (.int 0), some (.int 0)]) hC rfl dX11_row_22 (by decide) (hok_v rfl rfl) rfl ?_
    refine z_mask (lv' := [some (.ref v0), some (.int 0), some (.int 0), some (.int 0)]) [true, true, true, true] rfl ?_
    obtain ⟨n23, hw⟩ := hw
    exact t_X11_row_b23 hC hr hlk hnm n23 hw
  · have hw := hw.2 c7
    refine z_aload_n hC dX11_row_10 rfl rfl ?_
    refine z_bipush hC bi_m6 dX11_row_11 ?_
    refine z_callV (ku' := 0) (kv' := 0) (n := 1) (As := [.int (-6)]) (st := []) hC (c_X11_refuse l G B S v0 (-6) _) hw.2 hw.1 rfl lk_577 lk_579 lk_0 lk_121 lk_580 hd_X11_refuse rfl rfl (Nat.le_of_ble_eq_true rfl) (Nat.le_of_ble_eq_true rfl) rfl (Nat.le_of_ble_eq_true rfl) dX11_row_13 (Nat.le_refl 0) (Nat.le_refl 0) (kI (fun x13 S hw => ?_))
    exact z_iret hC hr hlk dX11_row_16 ⟨_, rfl, hw⟩
end
section
variable {p : Program} {l : Launch} {e : Env} {R : Room} {s : State} {m : MethodId} {args : Array Value} {below : List Frame} {meth : Method} {c : Code} {G : hG} {B mc ms : Nat}
def w_X11_rust (q : Int32 → hS → Prop) (S : hS) (v0 : Nat) : Prop := gI S v0 11 15 (fun x1 => q x1 S)
set_option maxRecDepth 100000 in
set_option maxHeartbeats 4000000 in
theorem c_X11_rust (l : Launch) (G : hG) (B : Nat) (S : hS) (v0 : Nat) (q : Int32 → hS → Prop) : Met l yX11_rust (hws yX11_rust cX11_rust 1 (Option.some FieldType.int)) ({ frames := 1, cells := 0, slots := 0, locals := 60 }) (hPc G B S [.ref v0] (w_X11_rust q S v0)) (hQ G B (iP q)) (0) (0) (fun r => B ≤ r) := by
  refine hMet (rm := { frames := 1, cells := 0, slots := 0, locals := 60 }) (lv := [some (.ref v0)]) (own := RX11) (fr := 1) (lo := 60) (by decide) rfl rfl rfl (Nat.le_of_ble_eq_true rfl) rfl (fun hw p e R s m args below meth c hC hr hlk hnm => ?_)
  unfold w_X11_rust at hw
  refine z_aload_n hC dX11_rust_0 rfl rfl ?_
  refine z_getI hC FX11 15 lk_530 dX11_rust_1 (by decide) hw (fun x1 hw => ?_)
  exact z_iret hC hr hlk dX11_rust_4 ⟨_, rfl, hw⟩
end
section
variable {p : Program} {l : Launch} {e : Env} {R : Room} {s : State} {m : MethodId} {args : Array Value} {below : List Frame} {meth : Method} {c : Code} {G : hG} {B mc ms : Nat}
def w_X11_law (tx : Nat → Nat) (q : Int32 → hS → Prop) (S : hS) (v0 : Nat) : Prop := gP S v0 11 0 (fun x1 => gI S x1 8 14 (fun x4 => (x4 < 6 → gP S v0 11 5 (fun x29 => oK S x29 5 ∧ w_X5_read tx (fun x33 S => pI S v0 11 13 x33 (fun S => gP S v0 11 4 (fun x40 => pI S x40 9 1 0 (fun S => gI S v0 11 13 (fun x48 => (x48 = (-1) → gP S v0 11 0 (fun x64 => nO S 10 FX10_0 (fun S o67 => gP S v0 11 5 (fun x72 => gP S x72 5 0 (fun x75 => w_X10_init_ (fun S => oK S x64 8 ∧ w_X8_addLaw (fun x81 S => oK S v0 11 ∧ w_X11_accept (fun x84 S => q x84 S) S v0 x81) S x64 o67) S o67 x75))))) ∧ (¬ x48 = (-1) → oK S v0 11 ∧ w_X11_refuse (fun x58 S => q x58 S) S v0 (-6))))))) S x29 1)) ∧ (¬ x4 < 6 → gP S v0 11 4 (fun x13 => pI S x13 9 1 0 (fun S => oK S v0 11 ∧ w_X11_refuse (fun x23 S => q x23 S) S v0 (-5))))))
set_option maxRecDepth 100000 in
set_option maxHeartbeats 4000000 in
theorem c_X11_law (l : Launch) (G : hG) (B : Nat) (S : hS) (v0 : Nat) (q : Int32 → hS → Prop) : Met l yX11_law (hws yX11_law cX11_law 1 (Option.some FieldType.int)) ({ frames := 75, cells := 5, slots := 491, locals := 1774 }) (hPc G B S [.ref v0] (w_X11_law G.2.2.1 q S v0)) (hQ G B (iP q)) (5) (491) (fun r => B ≤ r) := by
  refine hMet (rm := { frames := 75, cells := 5, slots := 491, locals := 1774 }) (lv := [some (.ref v0)]) (own := RX11) (fr := 75) (lo := 1774) (by decide) rfl rfl rfl (Nat.le_of_ble_eq_true rfl) rfl (fun hw p e R s m args below meth c hC hr hlk hnm => ?_)
  unfold w_X11_law at hw
  refine z_less (ku' := 5) (kv' := 491) (Nat.le_refl _) (Nat.le_refl _) ?_
  refine z_aload_n hC dX11_law_0 rfl rfl ?_
  refine z_getP hC FX11 0 lk_515 dX11_law_1 (by decide) hw (fun x1 hw => ?_)
  refine z_getI hC FX8 14 lk_243 dX11_law_4 (by decide) hw (fun x4 hw => ?_)
  refine z_bipush hC bi_6 dX11_law_7 ?_
  refine z_icmp_lt (tgt := 27) hC dX11_law_9 (by decide) (fun c9 => ?_) (fun c9 => ?_)
  · have hw := hw.1 c9
    refine z_aload_n hC dX11_law_27 rfl rfl ?_
    refine z_aload_n hC dX11_law_28 rfl rfl ?_
    refine z_getP hC FX11 5 lk_520 dX11_law_29 (by decide) hw (fun x29 hw => ?_)
    refine z_iconst hC ic_1 dX11_law_32 ?_
    refine z_callV (ku' := 5) (kv' := 491) (n := 1) (As := [.int 1]) (st := [.ref v0]) hC (c_X5_read l G B S x29 1 _) hw.2 hw.1 rfl lk_778 lk_779 lk_780 lk_126 lk_781 hd_X5_read rfl rfl (Nat.le_of_ble_eq_true rfl) (Nat.le_of_ble_eq_true rfl) rfl (Nat.le_of_ble_eq_true rfl) dX11_law_33 (Nat.le_refl _) (Nat.le_refl _) (kI (fun x33 S hw => ?_))
    refine z_putI hC FX11 13 lk_528 dX11_law_36 (by decide) rfl rfl hw (fun S hw => ?_)
    refine z_aload_n hC dX11_law_39 rfl rfl ?_
    refine z_getP hC FX11 4 lk_519 dX11_law_40 (by decide) hw (fun x40 hw => ?_)
    refine z_iconst hC ic_0 dX11_law_43 ?_
    refine z_putI hC FX9 1 lk_314 dX11_law_44 (by decide) rfl rfl hw (fun S hw => ?_)
    refine z_aload_n hC dX11_law_47 rfl rfl ?_
    refine z_getI hC FX11 13 lk_528 dX11_law_48 (by decide) hw (fun x48 hw => ?_)
    refine z_iconst hC ic_m1 dX11_law_51 ?_
    refine z_icmp_eq (tgt := 62) hC dX11_law_52 (by decide) (fun c52 => ?_) (fun c52 => ?_)
    · have hw := hw.1 c52
      refine z_aload_n hC dX11_law_62 rfl rfl ?_
      refine z_aload_n hC dX11_law_63 rfl rfl ?_
      refine z_getP hC FX11 0 lk_515 dX11_law_64 (by decide) hw (fun x64 hw => ?_)
      refine z_nO (ku' := 4) (kv' := 484) hC FX10 lk_996 lk_342 lk_127 FX10_d dX11_law_67 (by decide) (by decide) hw (fun S o67 hw => ?_)
      refine z_dup hC rfl dX11_law_70 ?_
      refine z_aload_n hC dX11_law_71 rfl rfl ?_
      refine z_getP hC FX11 5 lk_520 dX11_law_72 (by decide) hw (fun x72 hw => ?_)
      refine z_getP hC FX5 0 lk_379 dX11_law_75 (by decide) hw (fun x75 hw => ?_)
      refine z_callI (ku' := 0) (kv' := 0) (n := 1) (As := [.ref x75]) (st := [.ref o67, .ref x64, .ref v0]) hC rfl (c_X10_init_ l G B S o67 x75 _) hw lk_997 lk_998 lk_127 lk_999 rfl hd_X10_init_.2 rfl rfl (Nat.le_of_ble_eq_true rfl) (Nat.le_of_ble_eq_true rfl) rfl (Nat.le_of_ble_eq_true rfl) dX11_law_78 (by decide) (by decide) (kV (fun S hw => ?_))
      refine z_callV (ku' := 0) (kv' := 0) (n := 1) (As := [.ref o67]) (st := [.ref v0]) hC (c_X8_addLaw l G B S x64 o67 _) hw.2 hw.1 rfl lk_1003 lk_1004 lk_1005 lk_122 lk_1006 hd_X8_addLaw rfl rfl (Nat.le_of_ble_eq_true rfl) (Nat.le_of_ble_eq_true rfl) rfl (Nat.le_of_ble_eq_true rfl) dX11_law_81 (Nat.le_refl _) (Nat.le_refl _) (kI (fun x81 S hw => ?_))
      refine z_callV (ku' := 0) (kv' := 0) (n := 1) (As := [.int x81]) (st := []) hC (c_X11_accept l G B S v0 x81 _) hw.2 hw.1 rfl lk_592 lk_594 lk_1 lk_121 lk_595 hd_X11_accept rfl rfl (Nat.le_of_ble_eq_true rfl) (Nat.le_of_ble_eq_true rfl) rfl (Nat.le_of_ble_eq_true rfl) dX11_law_84 (Nat.le_refl _) (Nat.le_refl _) (kI (fun x84 S hw => ?_))
      exact z_iret hC hr hlk dX11_law_87 ⟨_, rfl, hw⟩
    · have hw := hw.2 c52
      refine z_aload_n hC dX11_law_55 rfl rfl ?_
      refine z_bipush hC bi_m6 dX11_law_56 ?_
      refine z_callV (ku' := 5) (kv' := 491) (n := 1) (As := [.int (-6)]) (st := []) hC (c_X11_refuse l G B S v0 (-6) _) hw.2 hw.1 rfl lk_577 lk_579 lk_0 lk_121 lk_580 hd_X11_refuse rfl rfl (Nat.le_of_ble_eq_true rfl) (Nat.le_of_ble_eq_true rfl) rfl (Nat.le_of_ble_eq_true rfl) dX11_law_58 (Nat.le_refl _) (Nat.le_refl _) (kI (fun x58 S hw => ?_))
      exact z_iret hC hr hlk dX11_law_61 ⟨_, rfl, hw⟩
  · have hw := hw.2 c9
    refine z_aload_n hC dX11_law_12 rfl rfl ?_
    refine z_getP hC FX11 4 lk_519 dX11_law_13 (by decide) hw (fun x13 hw => ?_)
    refine z_iconst hC ic_0 dX11_law_16 ?_
    refine z_putI hC FX9 1 lk_314 dX11_law_17 (by decide) rfl rfl hw (fun S hw => ?_)
    refine z_aload_n hC dX11_law_20 rfl rfl ?_
    refine z_bipush hC bi_m5 dX11_law_21 ?_
    refine z_callV (ku' := 5) (kv' := 491) (n := 1) (As := [.int (-5)]) (st := []) hC (c_X11_refuse l G B S v0 (-5) _) hw.2 hw.1 rfl lk_577 lk_579 lk_0 lk_121 lk_580 hd_X11_refuse rfl rfl (Nat.le_of_ble_eq_true rfl) (Nat.le_of_ble_eq_true rfl) rfl (Nat.le_of_ble_eq_true rfl) dX11_law_23 (Nat.le_refl _) (Nat.le_refl _) (kI (fun x23 S hw => ?_))
    exact z_iret hC hr hlk dX11_law_26 ⟨_, rfl, hw⟩
end
section
variable {p : Program} {l : Launch} {e : Env} {R : Room} {s : State} {m : MethodId} {args : Array Value} {below : List Frame} {meth : Method} {c : Code} {G : hG} {B mc ms : Nat}
def w_X11_orders (tx : Nat → Nat) (q : Int32 → hS → Prop) (S : hS) (v0 : Nat) : Prop := pI S v0 11 14 (-1) (fun S => gP S v0 11 5 (fun x7 => oK S x7 5 ∧ w_X5_read tx (fun x11 S => pI S v0 11 13 x11 (fun S => gP S v0 11 4 (fun x18 => pI S x18 9 1 0 (fun S => gI S v0 11 13 (fun x26 => (x26 = (-1) → gP S v0 11 1 (fun x41 => gP S v0 11 0 (fun x45 => oK S x41 8 ∧ w_X8_copyFrom (fun S => gP S v0 11 7 (fun x53 => gP S v0 11 5 (fun x57 => gP S x57 5 0 (fun x60 => gP S v0 11 1 (fun x64 => oK S x53 1 ∧ w_X1_run (fun x68 S => pI S v0 11 14 x68 (fun S => gI S v0 11 14 (fun x75 => (x75 = (-1) → gP S v0 11 7 (fun x90 => gP S v0 11 5 (fun x94 => gP S x94 5 0 (fun x97 => gP S v0 11 0 (fun x101 => gP S v0 11 3 (fun x105 => oK S x90 1 ∧ w_X1_run (fun x108 S => gP S v0 11 7 (fun x114 => gI S x114 1 5 (fun x117 => oK S v0 11 ∧ w_X11_accept (fun x120 S => q x120 S) S v0 x117))) S 16 x90 x97 x101 (some x105))))))) ∧ (¬ x75 = (-1) → oK S v0 11 ∧ w_X11_refuse (fun x85 S => q x85 S) S v0 (-3))))) S 0 x53 x60 x64 none))))) S x41 x45))) ∧ (¬ x26 = (-1) → oK S v0 11 ∧ w_X11_refuse (fun x36 S => q x36 S) S v0 (-6))))))) S x7 0))
set_option maxRecDepth 100000 in
set_option maxHeartbeats 4000000 in
theorem c_X11_orders (l : Launch) (G : hG) (B : Nat) (S : hS) (v0 : Nat) (q : Int32 → hS → Prop) : Met l yX11_orders (hws yX11_orders cX11_orders 1 (Option.some FieldType.int)) ({ frames := 75, cells := 80, slots := 1856, locals := 1774 }) (hPc G B S [.ref v0] (w_X11_orders G.2.2.1 q S v0)) (hQ G B (iP q)) (80) (1856) (fun r => B ≤ r) := by
  refine hMet (rm := { frames := 75, cells := 80, slots := 1856, locals := 1774 }) (lv := [some (.ref v0)]) (own := RX11) (fr := 75) (lo := 1774) (by decide) rfl rfl rfl (Nat.le_of_ble_eq_true rfl) rfl (fun hw p e R s m args below meth c hC hr hlk hnm => ?_)
  unfold w_X11_orders at hw
  refine z_less (ku' := 80) (kv' := 1856) (Nat.le_refl _) (Nat.le_refl _) ?_
  refine z_aload_n hC dX11_orders_0 rfl rfl ?_
  refine z_iconst hC ic_m1 dX11_orders_1 ?_
  refine z_putI hC FX11 14 lk_529 dX11_orders_2 (by decide) rfl rfl hw (fun S hw => ?_)
  refine z_aload_n hC dX11_orders_5 rfl rfl ?_
  refine z_aload_n hC dX11_orders_6 rfl rfl ?_
  refine z_getP hC FX11 5 lk_520 dX11_orders_7 (by decide) hw (fun x7 hw => ?_)
  refine z_iconst hC ic_0 dX11_orders_10 ?_
  refine z_callV (ku' := 80) (kv' := 1856) (n := 1) (As := [.int 0]) (st := [.ref v0]) hC (c_X5_read l G B S x7 0 _) hw.2 hw.1 rfl lk_778 lk_779 lk_780 lk_126 lk_781 hd_X5_read rfl rfl (Nat.le_of_ble_eq_true rfl) (Nat.le_of_ble_eq_true rfl) rfl (Nat.le_of_ble_eq_true rfl) dX11_orders_11 (Nat.le_refl _) (Nat.le_refl _) (kI (fun x11 S hw => ?_))
  refine z_putI hC FX11 13 lk_528 dX11_orders_14 (by decide) rfl rfl hw (fun S hw => ?_)
  refine z_aload_n hC dX11_orders_17 rfl rfl ?_
  refine z_getP hC FX11 4 lk_519 dX11_orders_18 (by decide) hw (fun x18 hw => ?_)
  refine z_iconst hC ic_0 dX11_orders_21 ?_
  refine z_putI hC FX9 1 lk_314 dX11_orders_22 (by decide) rfl rfl hw (fun S hw => ?_)
  refine z_aload_n hC dX11_orders_25 rfl rfl ?_
  refine z_getI hC FX11 13 lk_528 dX11_orders_26 (by decide) hw (fun x26 hw => ?_)
  refine z_iconst hC ic_m1 dX11_orders_29 ?_
  refine z_icmp_eq (tgt := 40) hC dX11_orders_30 (by decide) (fun c30 => ?_) (fun c30 => ?_)
  · have hw := hw.1 c30
    refine z_aload_n hC dX11_orders_40 rfl rfl ?_
    refine z_getP hC FX11 1 lk_516 dX11_orders_41 (by decide) hw (fun x41 hw => ?_)
    refine z_aload_n hC dX11_orders_44 rfl rfl ?_
    refine z_getP hC FX11 0 lk_515 dX11_orders_45 (by decide) hw (fun x45 hw => ?_)
    refine z_callV (ku' := 80) (kv' := 1856) (n := 1) (As := [.ref x45]) (st := []) hC (c_X8_copyFrom l G B S x41 x45 _) hw.2 hw.1 rfl lk_1012 lk_1013 lk_1014 lk_122 lk_1015 hd_X8_copyFrom rfl rfl (Nat.le_of_ble_eq_true rfl) (Nat.le_of_ble_eq_true rfl) rfl (Nat.le_of_ble_eq_true rfl) dX11_orders_48 (Nat.le_refl _) (Nat.le_refl _) (kV (fun S hw => ?_))
    refine z_aload_n hC dX11_orders_51 rfl rfl ?_
    refine z_aload_n hC dX11_orders_52 rfl rfl ?_
    refine z_getP hC FX11 7 lk_522 dX11_orders_53 (by decide) hw (fun x53 hw => ?_)
    refine z_aload_n hC dX11_orders_56 rfl rfl ?_
    refine z_getP hC FX11 5 lk_520 dX11_orders_57 (by decide) hw (fun x57 hw => ?_)
    refine z_getP hC FX5 0 lk_379 dX11_orders_60 (by decide) hw (fun x60 hw => ?_)
    refine z_aload_n hC dX11_orders_63 rfl rfl ?_
    refine z_getP hC FX11 1 lk_516 dX11_orders_64 (by decide) hw (fun x64 hw => ?_)
    refine z_null hC dX11_orders_67 ?_
    refine z_callV (ku' := 80) (kv' := 1856) (n := 3) (As := [.ref x60, .ref x64, va_rf none]) (st := [.ref v0]) hC (c_X1_run l G B S 0 x53 x60 x64 none _) hw.2 hw.1 rfl lk_1022 lk_1023 lk_1024 lk_130 lk_1025 hd_X1_run rfl rfl (Nat.le_of_ble_eq_true rfl) (Nat.le_of_ble_eq_true rfl) rfl (Nat.le_of_ble_eq_true rfl) dX11_orders_68 (by decide) (by decide) (kI (fun x68 S hw => ?_))
    refine z_putI hC FX11 14 lk_529 dX11_orders_71 (by decide) rfl rfl hw (fun S hw => ?_)
    refine z_aload_n hC dX11_orders_74 rfl rfl ?_
    refine z_getI hC FX11 14 lk_529 dX11_orders_75 (by decide) hw (fun x75 hw => ?_)
    refine z_iconst hC ic_m1 dX11_orders_78 ?_
    refine z_icmp_eq (tgt := 89) hC dX11_orders_79 (by decide) (fun c79 => ?_) (fun c79 => ?_)
    · have hw := hw.1 c79
      refine z_aload_n hC dX11_orders_89 rfl rfl ?_
      refine z_getP hC FX11 7 lk_522 dX11_orders_90 (by decide) hw (fun x90 hw => ?_)
      refine z_aload_n hC dX11_orders_93 rfl rfl ?_
      refine z_getP hC FX11 5 lk_520 dX11_orders_94 (by decide) hw (fun x94 hw => ?_)
      refine z_getP hC FX5 0 lk_379 dX11_orders_97 (by decide) hw (fun x97 hw => ?_)
      refine z_aload_n hC dX11_orders_100 rfl rfl ?_
      refine z_getP hC FX11 0 lk_515 dX11_orders_101 (by decide) hw (fun x101 hw => ?_)
      refine z_aload_n hC dX11_orders_104 rfl rfl ?_
      refine z_getP hC FX11 3 lk_518 dX11_orders_105 (by decide) hw (fun x105 hw => ?_)
      refine z_callV (ku' := 0) (kv' := 0) (n := 3) (As := [.ref x97, .ref x101, va_rf (some x105)]) (st := []) hC (c_X1_run l G B S 16 x90 x97 x101 (some x105) _) hw.2 hw.1 rfl lk_1022 lk_1023 lk_1024 lk_130 lk_1025 hd_X1_run rfl rfl (Nat.le_of_ble_eq_true rfl) (Nat.le_of_ble_eq_true rfl) rfl (Nat.le_of_ble_eq_true rfl) dX11_orders_108 (by decide) (by decide) (kI (fun x108 S hw => ?_))
      refine z_pop hC rfl dX11_orders_111 ?_
      refine z_aload_n hC dX11_orders_112 rfl rfl ?_
      refine z_aload_n hC dX11_orders_113 rfl rfl ?_
      refine z_getP hC FX11 7 lk_522 dX11_orders_114 (by decide) hw (fun x114 hw => ?_)
      refine z_getI hC FX1 5 lk_429 dX11_orders_117 (by decide) hw (fun x117 hw => ?_)
      refine z_callV (ku' := 0) (kv' := 0) (n := 1) (As := [.int x117]) (st := []) hC (c_X11_accept l G B S v0 x117 _) hw.2 hw.1 rfl lk_592 lk_594 lk_1 lk_121 lk_595 hd_X11_accept rfl rfl (Nat.le_of_ble_eq_true rfl) (Nat.le_of_ble_eq_true rfl) rfl (Nat.le_of_ble_eq_true rfl) dX11_orders_120 (Nat.le_refl _) (Nat.le_refl _) (kI (fun x120 S hw => ?_))
      exact z_iret hC hr hlk dX11_orders_123 ⟨_, rfl, hw⟩
    · have hw := hw.2 c79
      refine z_aload_n hC dX11_orders_82 rfl rfl ?_
      refine z_bipush hC bi_m3 dX11_orders_83 ?_
      refine z_callV (ku' := 80) (kv' := 1856) (n := 1) (As := [.int (-3)]) (st := []) hC (c_X11_refuse l G B S v0 (-3) _) hw.2 hw.1 rfl lk_577 lk_579 lk_0 lk_121 lk_580 hd_X11_refuse rfl rfl (Nat.le_of_ble_eq_true rfl) (Nat.le_of_ble_eq_true rfl) rfl (Nat.le_of_ble_eq_true rfl) dX11_orders_85 (Nat.le_refl _) (Nat.le_refl _) (kI (fun x85 S hw => ?_))
      exact z_iret hC hr hlk dX11_orders_88 ⟨_, rfl, hw⟩
  · have hw := hw.2 c30
    refine z_aload_n hC dX11_orders_33 rfl rfl ?_
    refine z_bipush hC bi_m6 dX11_orders_34 ?_
    refine z_callV (ku' := 80) (kv' := 1856) (n := 1) (As := [.int (-6)]) (st := []) hC (c_X11_refuse l G B S v0 (-6) _) hw.2 hw.1 rfl lk_577 lk_579 lk_0 lk_121 lk_580 hd_X11_refuse rfl rfl (Nat.le_of_ble_eq_true rfl) (Nat.le_of_ble_eq_true rfl) rfl (Nat.le_of_ble_eq_true rfl) dX11_orders_36 (Nat.le_refl _) (Nat.le_refl _) (kI (fun x36 S hw => ?_))
    exact z_iret hC hr hlk dX11_orders_39 ⟨_, rfl, hw⟩
end
section
variable {p : Program} {l : Launch} {e : Env} {R : Room} {s : State} {m : MethodId} {args : Array Value} {below : List Frame} {meth : Method} {c : Code} {G : hG} {B mc ms : Nat}
def w_X11_fault (q : Int32 → hS → Prop) (S : hS) (v0 : Nat) : Prop := gI S v0 11 13 (fun x1 => q x1 S)
set_option maxRecDepth 100000 in
set_option maxHeartbeats 4000000 in
theorem c_X11_fault (l : Launch) (G : hG) (B : Nat) (S : hS) (v0 : Nat) (q : Int32 → hS → Prop) : Met l yX11_fault (hws yX11_fault cX11_fault 1 (Option.some FieldType.int)) ({ frames := 1, cells := 0, slots := 0, locals := 60 }) (hPc G B S [.ref v0] (w_X11_fault q S v0)) (hQ G B (iP q)) (0) (0) (fun r => B ≤ r) := by
  refine hMet (rm := { frames := 1, cells := 0, slots := 0, locals := 60 }) (lv := [some (.ref v0)]) (own := RX11) (fr := 1) (lo := 60) (by decide) rfl rfl rfl (Nat.le_of_ble_eq_true rfl) rfl (fun hw p e R s m args below meth c hC hr hlk hnm => ?_)
  unfold w_X11_fault at hw
  refine z_aload_n hC dX11_fault_0 rfl rfl ?_
  refine z_getI hC FX11 13 lk_528 dX11_fault_1 (by decide) hw (fun x1 hw => ?_)
  exact z_iret hC hr hlk dX11_fault_4 ⟨_, rfl, hw⟩
end
section
variable {p : Program} {l : Launch} {e : Env} {R : Room} {s : State} {m : MethodId} {args : Array Value} {below : List Frame} {meth : Method} {c : Code} {G : hG} {B mc ms : Nat}
def w_X11_stopped (q : Int32 → hS → Prop) (S : hS) (v0 : Nat) : Prop := gI S v0 11 14 (fun x1 => q x1 S)
set_option maxRecDepth 100000 in
set_option maxHeartbeats 4000000 in
theorem c_X11_stopped (l : Launch) (G : hG) (B : Nat) (S : hS) (v0 : Nat) (q : Int32 → hS → Prop) : Met l yX11_stopped (hws yX11_stopped cX11_stopped 1 (Option.some FieldType.int)) ({ frames := 1, cells := 0, slots := 0, locals := 60 }) (hPc G B S [.ref v0] (w_X11_stopped q S v0)) (hQ G B (iP q)) (0) (0) (fun r => B ≤ r) := by
  refine hMet (rm := { frames := 1, cells := 0, slots := 0, locals := 60 }) (lv := [some (.ref v0)]) (own := RX11) (fr := 1) (lo := 60) (by decide) rfl rfl rfl (Nat.le_of_ble_eq_true rfl) rfl (fun hw p e R s m args below meth c hC hr hlk hnm => ?_)
  unfold w_X11_stopped at hw
  refine z_aload_n hC dX11_stopped_0 rfl rfl ?_
  refine z_getI hC FX11 14 lk_529 dX11_stopped_1 (by decide) hw (fun x1 hw => ?_)
  exact z_iret hC hr hlk dX11_stopped_4 ⟨_, rfl, hw⟩
end
section
variable {p : Program} {l : Launch} {e : Env} {R : Room} {s : State} {m : MethodId} {args : Array Value} {below : List Frame} {meth : Method} {c : Code} {G : hG} {B mc ms : Nat}
def w_X11_force_b20 (q : Int32 → hS → Prop) (S : hS) (v0 : Nat) : Prop := oK S v0 11 ∧ w_X11_refuse (fun x23 S => q x23 S) S v0 (-2)
set_option maxRecDepth 100000 in
set_option maxHeartbeats 4000000 in
theorem t_X11_force_b20 (hC : zC p R s m args c cX11_force 3 RX11 G B mc ms 2 81) (hr : meth.sig.returnType = (Option.some FieldType.int)) (hlk : meth.locks = false) (hnm : meth.name = "force") {q : Int32 → hS → Prop} {S : hS} {v0 : Nat} (hw : w_X11_force_b20 q S v0) : Z p l e R s m args below meth c (MQ below (hQ G B (iP q)) args s mc ms (fun r => B ≤ r)) G B mc ms 3 S 0 0 20 [some (.ref v0), none, none] [] := by
  unfold w_X11_force_b20 at hw
  refine z_aload_n hC dX11_force_20 rfl rfl ?_
  refine z_bipush hC bi_m2 dX11_force_21 ?_
  refine z_callV (ku' := 0) (kv' := 0) (n := 1) (As := [.int (-2)]) (st := []) hC (c_X11_refuse l G B S v0 (-2) _) hw.2 hw.1 rfl lk_577 lk_579 lk_0 lk_121 lk_580 hd_X11_refuse rfl rfl (Nat.le_of_ble_eq_true rfl) (Nat.le_of_ble_eq_true rfl) rfl (Nat.le_of_ble_eq_true rfl) dX11_force_23 (Nat.le_refl 0) (Nat.le_refl 0) (kI (fun x23 S hw => ?_))
  exact z_iret hC hr hlk dX11_force_26 ⟨_, rfl, hw⟩
def w_X11_force_b27 (q : Int32 → hS → Prop) (S : hS) (v0 : Nat) (v1 : Int32) : Prop := gP S v0 11 0 (fun x28 => gI S x28 8 16 (fun x31 => gP S v0 11 0 (fun x36 => pI S x36 8 16 v1 (fun S => oK S v0 11 ∧ w_X11_accept (fun x45 S => q x45 S) S v0 x31))))
set_option maxRecDepth 100000 in
set_option maxHeartbeats 4000000 in
theorem t_X11_force_b27 (hC : zC p R s m args c cX11_force 3 RX11 G B mc ms 2 81) (hr : meth.sig.returnType = (Option.some FieldType.int)) (hlk : meth.locks = false) (hnm : meth.name = "force") {q : Int32 → hS → Prop} {S : hS} {v0 : Nat} {v1 : Int32} (hw : w_X11_force_b27 q S v0 v1) : Z p l e R s m args below meth c (MQ below (hQ G B (iP q)) args s mc ms (fun r => B ≤ r)) G B mc ms 3 S 0 0 27 [some (.ref v0), some (.int v1), none] [] := by
  unfold w_X11_force_b27 at hw
  refine z_aload_n hC dX11_force_27 rfl rfl ?_
  refine z_getP hC FX11 0 lk_515 dX11_force_28 (by decide) hw (fun x28 hw => ?_)
  refine z_getI hC FX8 16 lk_246 dX11_force_31 (by decide) hw (fun x31 hw => ?_)
  refine z_istore_n (i := 2) (lv' := [some (.ref v0), some (.int v1), some (.int x31)]) hC rfl dX11_force_34 (by decide) (hok_v rfl rfl) rfl ?_
  refine z_aload_n hC dX11_force_35 rfl rfl ?_
  refine z_getP hC FX11 0 lk_515 dX11_force_36 (by decide) hw (fun x36 hw => ?_)
  refine z_iload_n hC dX11_force_39 rfl rfl ?_
  refine z_putI hC FX8 16 lk_246 dX11_force_40 (by decide) rfl rfl hw (fun S hw => ?_)
  refine z_aload_n hC dX11_force_43 rfl rfl ?_
  refine z_iload_n hC dX11_force_44 rfl rfl ?_
  refine z_callV (ku' := 0) (kv' := 0) (n := 1) (As := [.int x31]) (st := []) hC (c_X11_accept l G B S v0 x31 _) hw.2 hw.1 rfl lk_592 lk_594 lk_1 lk_121 lk_595 hd_X11_accept rfl rfl (Nat.le_of_ble_eq_true rfl) (Nat.le_of_ble_eq_true rfl) rfl (Nat.le_of_ble_eq_true rfl) dX11_force_45 (Nat.le_refl 0) (Nat.le_refl 0) (kI (fun x45 S hw => ?_))
  exact z_iret hC hr hlk dX11_force_48 ⟨_, rfl, hw⟩
def w_X11_force (q : Int32 → hS → Prop) (S : hS) (v0 : Nat) (v1 : Int32) : Prop := (v1 = (-1) → w_X11_force_b27 q S v0 v1) ∧ (¬ v1 = (-1) → (v1 < 0 → w_X11_force_b20 q S v0) ∧ (¬ v1 < 0 → gP S v0 11 0 (fun x11 => gI S x11 8 14 (fun x14 => (v1 < x14 → w_X11_force_b27 q S v0 v1) ∧ (¬ v1 < x14 → w_X11_force_b20 q S v0)))))
set_option maxRecDepth 100000 in
set_option maxHeartbeats 4000000 in
theorem c_X11_force (l : Launch) (G : hG) (B : Nat) (S : hS) (v0 : Nat) (v1 : Int32) (q : Int32 → hS → Prop) : Met l yX11_force (hws yX11_force cX11_force 3 (Option.some FieldType.int)) ({ frames := 2, cells := 0, slots := 0, locals := 81 }) (hPc G B S [.ref v0, .int v1] (w_X11_force q S v0 v1)) (hQ G B (iP q)) (0) (0) (fun r => B ≤ r) := by
  refine hMet (rm := { frames := 2, cells := 0, slots := 0, locals := 81 }) (lv := [some (.ref v0), some (.int v1), none]) (own := RX11) (fr := 2) (lo := 81) (by decide) rfl rfl rfl (Nat.le_of_ble_eq_true rfl) rfl (fun hw p e R s m args below meth c hC hr hlk hnm => ?_)
  unfold w_X11_force at hw
  refine z_iload_n hC dX11_force_0 rfl rfl ?_
  refine z_iconst hC ic_m1 dX11_force_1 ?_
  refine z_icmp_eq (tgt := 27) hC dX11_force_2 (by decide) (fun c2 => ?_) (fun c2 => ?_)
  · have hw := hw.1 c2
    refine z_mask (lv' := [some (.ref v0), some (.int v1), none]) [true, true, false] rfl ?_
    exact t_X11_force_b27 hC hr hlk hnm hw
  · have hw := hw.2 c2
    refine z_iload_n hC dX11_force_5 rfl rfl ?_
    refine z_if_lt (tgt := 20) hC dX11_force_6 (by decide) (fun c6 => ?_) (fun c6 => ?_)
    · have hw := hw.1 c6
      refine z_mask (lv' := [some (.ref v0), none, none]) [true, false, false] rfl ?_
      exact t_X11_force_b20 hC hr hlk hnm hw
    · have hw := hw.2 c6
      refine z_iload_n hC dX11_force_9 rfl rfl ?_
      refine z_aload_n hC dX11_force_10 rfl rfl ?_
      refine z_getP hC FX11 0 lk_515 dX11_force_11 (by decide) hw (fun x11 hw => ?_)
      refine z_getI hC FX8 14 lk_243 dX11_force_14 (by decide) hw (fun x14 hw => ?_)
      refine z_icmp_lt (tgt := 27) hC dX11_force_17 (by decide) (fun c17 => ?_) (fun c17 => ?_)
      · have hw := hw.1 c17
        refine z_mask (lv' := [some (.ref v0), some (.int v1), none]) [true, true, false] rfl ?_
        exact t_X11_force_b27 hC hr hlk hnm hw
      · have hw := hw.2 c17
        refine z_mask (lv' := [some (.ref v0), none, none]) [true, false, false] rfl ?_
        exact t_X11_force_b20 hC hr hlk hnm hw
end
section
variable {p : Program} {l : Launch} {e : Env} {R : Room} {s : State} {m : MethodId} {args : Array Value} {below : List Frame} {meth : Method} {c : Code} {G : hG} {B mc ms : Nat}
def w_X11_tell (q : Int32 → hS → Prop) (S : hS) (v0 : Nat) (v1 : Int32) : Prop := (0 ≤ v1 → oK S v0 11 ∧ w_X11_accept (fun x14 S => q x14 S) S v0 v1) ∧ (¬ 0 ≤ v1 → oK S v0 11 ∧ w_X11_refuse (fun x6 S => q x6 S) S v0 v1)
set_option maxRecDepth 100000 in
set_option maxHeartbeats 4000000 in
theorem c_X11_tell (l : Launch) (G : hG) (B : Nat) (S : hS) (v0 : Nat) (v1 : Int32) (q : Int32 → hS → Prop) : Met l yX11_tell (hws yX11_tell cX11_tell 2 (Option.some FieldType.int)) ({ frames := 2, cells := 0, slots := 0, locals := 81 }) (hPc G B S [.ref v0, .int v1] (w_X11_tell q S v0 v1)) (hQ G B (iP q)) (0) (0) (fun r => B ≤ r) := by
  refine hMet (rm := { frames := 2, cells := 0, slots := 0, locals := 81 }) (lv := [some (.ref v0), some (.int v1)]) (own := RX11) (fr := 2) (lo := 81) (by decide) rfl rfl rfl (Nat.le_of_ble_eq_true rfl) rfl (fun hw p e R s m args below meth c hC hr hlk hnm => ?_)
  unfold w_X11_tell at hw
  refine z_iload_n hC dX11_tell_0 rfl rfl ?_
  refine z_if_ge (tgt := 12) hC dX11_tell_1 (by decide) (fun c1 => ?_) (fun c1 => ?_)
  · have hw := hw.1 c1
    refine z_aload_n hC dX11_tell_12 rfl rfl ?_
    refine z_iload_n hC dX11_tell_13 rfl rfl ?_
    refine z_callV (ku' := 0) (kv' := 0) (n := 1) (As := [.int v1]) (st := []) hC (c_X11_accept l G B S v0 v1 _) hw.2 hw.1 rfl lk_592 lk_594 lk_1 lk_121 lk_595 hd_X11_accept rfl rfl (Nat.le_of_ble_eq_true rfl) (Nat.le_of_ble_eq_true rfl) rfl (Nat.le_of_ble_eq_true rfl) dX11_tell_14 (Nat.le_refl 0) (Nat.le_refl 0) (kI (fun x14 S hw => ?_))
    exact z_iret hC hr hlk dX11_tell_17 ⟨_, rfl, hw⟩
  · have hw := hw.2 c1
    refine z_aload_n hC dX11_tell_4 rfl rfl ?_
    refine z_iload_n hC dX11_tell_5 rfl rfl ?_
    refine z_callV (ku' := 0) (kv' := 0) (n := 1) (As := [.int v1]) (st := []) hC (c_X11_refuse l G B S v0 v1 _) hw.2 hw.1 rfl lk_577 lk_579 lk_0 lk_121 lk_580 hd_X11_refuse rfl rfl (Nat.le_of_ble_eq_true rfl) (Nat.le_of_ble_eq_true rfl) rfl (Nat.le_of_ble_eq_true rfl) dX11_tell_6 (Nat.le_refl 0) (Nat.le_refl 0) (kI (fun x6 S hw => ?_))
    refine z_goto (tgt := 17) hC dX11_tell_9 (by decide) ?_
    exact z_iret hC hr hlk dX11_tell_17 ⟨_, rfl, hw⟩
end
section
variable {p : Program} {l : Launch} {e : Env} {R : Room} {s : State} {m : MethodId} {args : Array Value} {below : List Frame} {meth : Method} {c : Code} {G : hG} {B mc ms : Nat}
def w_X11_ring (q : Int32 → hS → Prop) (S : hS) (v0 : Nat) (v1 : Int32) (v2 : Int32) : Prop := gP S v0 11 7 (fun x2 => gP S v0 11 0 (fun x6 => gP S v0 11 3 (fun x10 => oK S x2 1 ∧ w_X1_ringBell (fun x15 S => oK S v0 11 ∧ w_X11_tell (fun x18 S => q x18 S) S v0 x15) S 1 x2 x6 (some x10) v1 v2)))
set_option maxRecDepth 100000 in
set_option maxHeartbeats 4000000 in
theorem c_X11_ring (l : Launch) (G : hG) (B : Nat) (S : hS) (v0 : Nat) (v1 : Int32) (v2 : Int32) (q : Int32 → hS → Prop) : Met l yX11_ring (hws yX11_ring cX11_ring 3 (Option.some FieldType.int)) ({ frames := 6, cells := 5, slots := 116, locals := 189 }) (hPc G B S [.ref v0, .int v1, .int v2] (w_X11_ring q S v0 v1 v2)) (hQ G B (iP q)) (5) (116) (fun r => B ≤ r) := by
  refine hMet (rm := { frames := 6, cells := 5, slots := 116, locals := 189 }) (lv := [some (.ref v0), some (.int v1), some (.int v2)]) (own := RX11) (fr := 6) (lo := 189) (by decide) rfl rfl rfl (Nat.le_of_ble_eq_true rfl) rfl (fun hw p e R s m args below meth c hC hr hlk hnm => ?_)
  unfold w_X11_ring at hw
  refine z_less (ku' := 5) (kv' := 116) (Nat.le_refl _) (Nat.le_refl _) ?_
  refine z_aload_n hC dX11_ring_0 rfl rfl ?_
  refine z_aload_n hC dX11_ring_1 rfl rfl ?_
  refine z_getP hC FX11 7 lk_522 dX11_ring_2 (by decide) hw (fun x2 hw => ?_)
  refine z_aload_n hC dX11_ring_5 rfl rfl ?_
  refine z_getP hC FX11 0 lk_515 dX11_ring_6 (by decide) hw (fun x6 hw => ?_)
  refine z_aload_n hC dX11_ring_9 rfl rfl ?_
  refine z_getP hC FX11 3 lk_518 dX11_ring_10 (by decide) hw (fun x10 hw => ?_)
  refine z_iload_n hC dX11_ring_13 rfl rfl ?_
  refine z_iload_n hC dX11_ring_14 rfl rfl ?_
  refine z_callV (ku' := 0) (kv' := 0) (n := 4) (As := [.ref x6, va_rf (some x10), .int v1, .int v2]) (st := [.ref v0]) hC (c_X1_ringBell l G B S 1 x2 x6 (some x10) v1 v2 _) hw.2 hw.1 rfl lk_1104 lk_1045 lk_1046 lk_130 lk_1047 hd_X1_ringBell rfl rfl (Nat.le_of_ble_eq_true rfl) (Nat.le_of_ble_eq_true rfl) rfl (Nat.le_of_ble_eq_true rfl) dX11_ring_15 (by decide) (by decide) (kI (fun x15 S hw => ?_))
  refine z_callV (ku' := 0) (kv' := 0) (n := 1) (As := [.int x15]) (st := []) hC (c_X11_tell l G B S v0 x15 _) hw.2 hw.1 rfl lk_1105 lk_1107 lk_29 lk_121 lk_1108 hd_X11_tell rfl rfl (Nat.le_of_ble_eq_true rfl) (Nat.le_of_ble_eq_true rfl) rfl (Nat.le_of_ble_eq_true rfl) dX11_ring_18 (Nat.le_refl _) (Nat.le_refl _) (kI (fun x18 S hw => ?_))
  exact z_iret hC hr hlk dX11_ring_21 ⟨_, rfl, hw⟩
end
section
variable {p : Program} {l : Launch} {e : Env} {R : Room} {s : State} {m : MethodId} {args : Array Value} {below : List Frame} {meth : Method} {c : Code} {G : hG} {B mc ms : Nat}
def w_X11_sell (q : Int32 → hS → Prop) (S : hS) (v0 : Nat) (v1 : Int32) (v2 : Int32) (v3 : Int32) : Prop := gP S v0 11 7 (fun x2 => gP S v0 11 0 (fun x6 => gP S v0 11 3 (fun x10 => oK S x2 1 ∧ w_X1_sellRing (fun x16 S => oK S v0 11 ∧ w_X11_tell (fun x19 S => q x19 S) S v0 x16) S 1 x2 x6 (some x10) v1 v2 v3)))
set_option maxRecDepth 100000 in
set_option maxHeartbeats 4000000 in
theorem c_X11_sell (l : Launch) (G : hG) (B : Nat) (S : hS) (v0 : Nat) (v1 : Int32) (v2 : Int32) (v3 : Int32) (q : Int32 → hS → Prop) : Met l yX11_sell (hws yX11_sell cX11_sell 4 (Option.some FieldType.int)) ({ frames := 7, cells := 5, slots := 116, locals := 215 }) (hPc G B S [.ref v0, .int v1, .int v2, .int v3] (w_X11_sell q S v0 v1 v2 v3)) (hQ G B (iP q)) (5) (116) (fun r => B ≤ r) := by
  refine hMet (rm := { frames := 7, cells := 5, slots := 116, locals := 215 }) (lv := [some (.ref v0), some (.int v1), some (.int v2), some (.int v3)]) (own := RX11) (fr := 7) (lo := 215) (by decide) rfl rfl rfl (Nat.le_of_ble_eq_true rfl) rfl (fun hw p e R s m args below meth c hC hr hlk hnm => ?_)
  unfold w_X11_sell at hw
  refine z_less (ku' := 5) (kv' := 116) (Nat.le_refl _) (Nat.le_refl _) ?_
  refine z_aload_n hC dX11_sell_0 rfl rfl ?_
  refine z_aload_n hC dX11_sell_1 rfl rfl ?_
  refine z_getP hC FX11 7 lk_522 dX11_sell_2 (by decide) hw (fun x2 hw => ?_)
  refine z_aload_n hC dX11_sell_5 rfl rfl ?_
  refine z_getP hC FX11 0 lk_515 dX11_sell_6 (by decide) hw (fun x6 hw => ?_)
  refine z_aload_n hC dX11_sell_9 rfl rfl ?_
  refine z_getP hC FX11 3 lk_518 dX11_sell_10 (by decide) hw (fun x10 hw => ?_)
  refine z_iload_n hC dX11_sell_13 rfl rfl ?_
  refine z_iload_n hC dX11_sell_14 rfl rfl ?_
  refine z_iload_n hC dX11_sell_15 rfl rfl ?_
  refine z_callV (ku' := 0) (kv' := 0) (n := 5) (As := [.ref x6, va_rf (some x10), .int v1, .int v2, .int v3]) (st := [.ref v0]) hC (c_X1_sellRing l G B S 1 x2 x6 (some x10) v1 v2 v3 _) hw.2 hw.1 rfl lk_1113 lk_1064 lk_1065 lk_130 lk_1066 hd_X1_sellRing rfl rfl (Nat.le_of_ble_eq_true rfl) (Nat.le_of_ble_eq_true rfl) rfl (Nat.le_of_ble_eq_true rfl) dX11_sell_16 (by decide) (by decide) (kI (fun x16 S hw => ?_))
  refine z_callV (ku' := 0) (kv' := 0) (n := 1) (As := [.int x16]) (st := []) hC (c_X11_tell l G B S v0 x16 _) hw.2 hw.1 rfl lk_1105 lk_1107 lk_29 lk_121 lk_1108 hd_X11_tell rfl rfl (Nat.le_of_ble_eq_true rfl) (Nat.le_of_ble_eq_true rfl) rfl (Nat.le_of_ble_eq_true rfl) dX11_sell_19 (Nat.le_refl _) (Nat.le_refl _) (kI (fun x19 S hw => ?_))
  exact z_iret hC hr hlk dX11_sell_22 ⟨_, rfl, hw⟩
end
section
variable {p : Program} {l : Launch} {e : Env} {R : Room} {s : State} {m : MethodId} {args : Array Value} {below : List Frame} {meth : Method} {c : Code} {G : hG} {B mc ms : Nat}
def w_X11_die (q : Int32 → hS → Prop) (S : hS) (v0 : Nat) (v1 : Int32) : Prop := gP S v0 11 7 (fun x2 => gP S v0 11 0 (fun x6 => gP S v0 11 3 (fun x10 => oK S x2 1 ∧ w_X1_bury (fun x14 S => oK S v0 11 ∧ w_X11_tell (fun x17 S => q x17 S) S v0 x14) S 1 x2 x6 (some x10) v1)))
set_option maxRecDepth 100000 in
set_option maxHeartbeats 4000000 in
theorem c_X11_die (l : Launch) (G : hG) (B : Nat) (S : hS) (v0 : Nat) (v1 : Int32) (q : Int32 → hS → Prop) : Met l yX11_die (hws yX11_die cX11_die 2 (Option.some FieldType.int)) ({ frames := 6, cells := 5, slots := 116, locals := 179 }) (hPc G B S [.ref v0, .int v1] (w_X11_die q S v0 v1)) (hQ G B (iP q)) (5) (116) (fun r => B ≤ r) := by
  refine hMet (rm := { frames := 6, cells := 5, slots := 116, locals := 179 }) (lv := [some (.ref v0), some (.int v1)]) (own := RX11) (fr := 6) (lo := 179) (by decide) rfl rfl rfl (Nat.le_of_ble_eq_true rfl) rfl (fun hw p e R s m args below meth c hC hr hlk hnm => ?_)
  unfold w_X11_die at hw
  refine z_less (ku' := 5) (kv' := 116) (Nat.le_refl _) (Nat.le_refl _) ?_
  refine z_aload_n hC dX11_die_0 rfl rfl ?_
  refine z_aload_n hC dX11_die_1 rfl rfl ?_
  refine z_getP hC FX11 7 lk_522 dX11_die_2 (by decide) hw (fun x2 hw => ?_)
  refine z_aload_n hC dX11_die_5 rfl rfl ?_
  refine z_getP hC FX11 0 lk_515 dX11_die_6 (by decide) hw (fun x6 hw => ?_)
  refine z_aload_n hC dX11_die_9 rfl rfl ?_
  refine z_getP hC FX11 3 lk_518 dX11_die_10 (by decide) hw (fun x10 hw => ?_)
  refine z_iload_n hC dX11_die_13 rfl rfl ?_
  refine z_callV (ku' := 0) (kv' := 0) (n := 3) (As := [.ref x6, va_rf (some x10), .int v1]) (st := [.ref v0]) hC (c_X1_bury l G B S 1 x2 x6 (some x10) v1 _) hw.2 hw.1 rfl lk_1118 lk_1069 lk_1070 lk_130 lk_1071 hd_X1_bury rfl rfl (Nat.le_of_ble_eq_true rfl) (Nat.le_of_ble_eq_true rfl) rfl (Nat.le_of_ble_eq_true rfl) dX11_die_14 (by decide) (by decide) (kI (fun x14 S hw => ?_))
  refine z_callV (ku' := 0) (kv' := 0) (n := 1) (As := [.int x14]) (st := []) hC (c_X11_tell l G B S v0 x14 _) hw.2 hw.1 rfl lk_1105 lk_1107 lk_29 lk_121 lk_1108 hd_X11_tell rfl rfl (Nat.le_of_ble_eq_true rfl) (Nat.le_of_ble_eq_true rfl) rfl (Nat.le_of_ble_eq_true rfl) dX11_die_17 (Nat.le_refl _) (Nat.le_refl _) (kI (fun x17 S hw => ?_))
  exact z_iret hC hr hlk dX11_die_20 ⟨_, rfl, hw⟩
end
section
variable {p : Program} {l : Launch} {e : Env} {R : Room} {s : State} {m : MethodId} {args : Array Value} {below : List Frame} {meth : Method} {c : Code} {G : hG} {B mc ms : Nat}
def w_X11_pass (q : Int32 → hS → Prop) (S : hS) (v0 : Nat) : Prop := gP S v0 11 7 (fun x2 => gP S v0 11 0 (fun x6 => gP S v0 11 3 (fun x10 => oK S x2 1 ∧ w_X1_turnYear (fun x13 S => oK S v0 11 ∧ w_X11_tell (fun x16 S => q x16 S) S v0 x13) S 1 x2 x6 (some x10))))
set_option maxRecDepth 100000 in
set_option maxHeartbeats 4000000 in
theorem c_X11_pass (l : Launch) (G : hG) (B : Nat) (S : hS) (v0 : Nat) (q : Int32 → hS → Prop) : Met l yX11_pass (hws yX11_pass cX11_pass 1 (Option.some FieldType.int)) ({ frames := 5, cells := 5, slots := 116, locals := 149 }) (hPc G B S [.ref v0] (w_X11_pass q S v0)) (hQ G B (iP q)) (5) (116) (fun r => B ≤ r) := by
  refine hMet (rm := { frames := 5, cells := 5, slots := 116, locals := 149 }) (lv := [some (.ref v0)]) (own := RX11) (fr := 5) (lo := 149) (by decide) rfl rfl rfl (Nat.le_of_ble_eq_true rfl) rfl (fun hw p e R s m args below meth c hC hr hlk hnm => ?_)
  unfold w_X11_pass at hw
  refine z_less (ku' := 5) (kv' := 116) (Nat.le_refl _) (Nat.le_refl _) ?_
  refine z_aload_n hC dX11_pass_0 rfl rfl ?_
  refine z_aload_n hC dX11_pass_1 rfl rfl ?_
  refine z_getP hC FX11 7 lk_522 dX11_pass_2 (by decide) hw (fun x2 hw => ?_)
  refine z_aload_n hC dX11_pass_5 rfl rfl ?_
  refine z_getP hC FX11 0 lk_515 dX11_pass_6 (by decide) hw (fun x6 hw => ?_)
  refine z_aload_n hC dX11_pass_9 rfl rfl ?_
  refine z_getP hC FX11 3 lk_518 dX11_pass_10 (by decide) hw (fun x10 hw => ?_)
  refine z_callV (ku' := 0) (kv' := 0) (n := 2) (As := [.ref x6, va_rf (some x10)]) (st := [.ref v0]) hC (c_X1_turnYear l G B S 1 x2 x6 (some x10) _) hw.2 hw.1 rfl lk_1123 lk_1085 lk_1086 lk_130 lk_1087 hd_X1_turnYear rfl rfl (Nat.le_of_ble_eq_true rfl) (Nat.le_of_ble_eq_true rfl) rfl (Nat.le_of_ble_eq_true rfl) dX11_pass_13 (by decide) (by decide) (kI (fun x13 S hw => ?_))
  refine z_callV (ku' := 0) (kv' := 0) (n := 1) (As := [.int x13]) (st := []) hC (c_X11_tell l G B S v0 x13 _) hw.2 hw.1 rfl lk_1105 lk_1107 lk_29 lk_121 lk_1108 hd_X11_tell rfl rfl (Nat.le_of_ble_eq_true rfl) (Nat.le_of_ble_eq_true rfl) rfl (Nat.le_of_ble_eq_true rfl) dX11_pass_16 (Nat.le_refl _) (Nat.le_refl _) (kI (fun x16 S hw => ?_))
  exact z_iret hC hr hlk dX11_pass_19 ⟨_, rfl, hw⟩
end
section
variable {p : Program} {l : Launch} {e : Env} {R : Room} {s : State} {m : MethodId} {args : Array Value} {below : List Frame} {meth : Method} {c : Code} {G : hG} {B mc ms : Nat}
def w_X11_undo (q : Int32 → hS → Prop) (S : hS) (v0 : Nat) : Prop := gP S v0 11 3 (fun x1 => gP S v0 11 0 (fun x5 => gP S x5 8 0 (fun x8 => oK S x1 3 ∧ w_X3_takeBack (fun x11 S => (¬ x11 = (-1) → oK S v0 11 ∧ w_X11_accept (fun x31 S => q x31 S) S v0 x11) ∧ (x11 = (-1) → oK S v0 11 ∧ w_X11_refuse (fun x23 S => q x23 S) S v0 (-3))) S x1 x8)))
set_option maxRecDepth 100000 in
set_option maxHeartbeats 4000000 in
theorem c_X11_undo (l : Launch) (G : hG) (B : Nat) (S : hS) (v0 : Nat) (q : Int32 → hS → Prop) : Met l yX11_undo (hws yX11_undo cX11_undo 2 (Option.some FieldType.int)) ({ frames := 3, cells := 0, slots := 0, locals := 103 }) (hPc G B S [.ref v0] (w_X11_undo q S v0)) (hQ G B (iP q)) (0) (0) (fun r => B ≤ r) := by
  refine hMet (rm := { frames := 3, cells := 0, slots := 0, locals := 103 }) (lv := [some (.ref v0), none]) (own := RX11) (fr := 3) (lo := 103) (by decide) rfl rfl rfl (Nat.le_of_ble_eq_true rfl) rfl (fun hw p e R s m args below meth c hC hr hlk hnm => ?_)
  unfold w_X11_undo at hw
  refine z_aload_n hC dX11_undo_0 rfl rfl ?_
  refine z_getP hC FX11 3 lk_518 dX11_undo_1 (by decide) hw (fun x1 hw => ?_)
  refine z_aload_n hC dX11_undo_4 rfl rfl ?_
  refine z_getP hC FX11 0 lk_515 dX11_undo_5 (by decide) hw (fun x5 hw => ?_)
  refine z_getP hC FX8 0 lk_203 dX11_undo_8 (by decide) hw (fun x8 hw => ?_)
  refine z_callV (ku' := 0) (kv' := 0) (n := 1) (As := [.ref x8]) (st := []) hC (c_X3_takeBack l G B S x1 x8 _) hw.2 hw.1 rfl lk_1128 lk_1129 lk_1130 lk_124 lk_1131 hd_X3_takeBack rfl rfl (Nat.le_of_ble_eq_true rfl) (Nat.le_of_ble_eq_true rfl) rfl (Nat.le_of_ble_eq_true rfl) dX11_undo_11 (Nat.le_refl 0) (Nat.le_refl 0) (kI (fun x11 S hw => ?_))
  refine z_istore_n (i := 1) (lv' := [some (.ref v0), some (.int x11)]) hC rfl dX11_undo_14 (by decide) (hok_v rfl rfl) rfl ?_
  refine z_iload_n hC dX11_undo_15 rfl rfl ?_
  refine z_iconst hC ic_m1 dX11_undo_16 ?_
  refine z_icmp_ne (tgt := 29) hC dX11_undo_17 (by decide) (fun c17 => ?_) (fun c17 => ?_)
  · have hw := hw.1 c17
    refine z_aload_n hC dX11_undo_29 rfl rfl ?_
    refine z_iload_n hC dX11_undo_30 rfl rfl ?_
    refine z_callV (ku' := 0) (kv' := 0) (n := 1) (As := [.int x11]) (st := []) hC (c_X11_accept l G B S v0 x11 _) hw.2 hw.1 rfl lk_592 lk_594 lk_1 lk_121 lk_595 hd_X11_accept rfl rfl (Nat.le_of_ble_eq_true rfl) (Nat.le_of_ble_eq_true rfl) rfl (Nat.le_of_ble_eq_true rfl) dX11_undo_31 (Nat.le_refl 0) (Nat.le_refl 0) (kI (fun x31 S hw => ?_))
    exact z_iret hC hr hlk dX11_undo_34 ⟨_, rfl, hw⟩
  · have hw := hw.2 c17
    refine z_aload_n hC dX11_undo_20 rfl rfl ?_
    refine z_bipush hC bi_m3 dX11_undo_21 ?_
    refine z_callV (ku' := 0) (kv' := 0) (n := 1) (As := [.int (-3)]) (st := []) hC (c_X11_refuse l G B S v0 (-3) _) hw.2 hw.1 rfl lk_577 lk_579 lk_0 lk_121 lk_580 hd_X11_refuse rfl rfl (Nat.le_of_ble_eq_true rfl) (Nat.le_of_ble_eq_true rfl) rfl (Nat.le_of_ble_eq_true rfl) dX11_undo_23 (Nat.le_refl 0) (Nat.le_refl 0) (kI (fun x23 S hw => ?_))
    refine z_goto (tgt := 34) hC dX11_undo_26 (by decide) ?_
    exact z_iret hC hr hlk dX11_undo_34 ⟨_, rfl, hw⟩
end
section
variable {p : Program} {l : Launch} {e : Env} {R : Room} {s : State} {m : MethodId} {args : Array Value} {below : List Frame} {meth : Method} {c : Code} {G : hG} {B mc ms : Nat}
def w_X11_visits (q : Int32 → hS → Prop) (S : hS) (v0 : Nat) (v1 : Int32) (v2 : Int32) (v3 : Int32) : Prop := gP S v0 11 0 (fun x1 => oK S x1 8 ∧ w_X8_lives (fun x5 S => (x5 = 0 → q (-1) S) ∧ (¬ x5 = 0 → w_X11_isWithin (fun x14 S => (¬ x14 = 0 → gP S v0 11 8 (fun x23 => gP S v0 11 0 (fun x27 => oK S x23 4 ∧ w_X4_findVisits (fun S => (¬ v3 = (-1) → (v3 < 0 → q (-1) S) ∧ (¬ v3 < 0 → gP S v0 11 8 (fun x54 => gI S x54 4 4 (fun x57 => (x57 ≤ v3 → q (-1) S) ∧ (¬ x57 ≤ v3 → gP S v0 11 8 (fun x64 => gP S x64 4 3 (fun x67 => aI S x67 v3 (fun x71 => q x71 S)))))))) ∧ (v3 = (-1) → gP S v0 11 8 (fun x41 => gI S x41 4 4 (fun x44 => q x44 S)))) S x23 x27 v1 v2))) ∧ (x14 = 0 → q (-1) S)) S v2 99)) S x1 v1)
set_option maxRecDepth 100000 in
set_option maxHeartbeats 4000000 in
theorem c_X11_visits (l : Launch) (G : hG) (B : Nat) (S : hS) (v0 : Nat) (v1 : Int32) (v2 : Int32) (v3 : Int32) (q : Int32 → hS → Prop) : Met l yX11_visits (hws yX11_visits cX11_visits 4 (Option.some FieldType.int)) ({ frames := 13, cells := 0, slots := 0, locals := 378 }) (hPc G B S [.ref v0, .int v1, .int v2, .int v3] (w_X11_visits q S v0 v1 v2 v3)) (hQ G B (iP q)) (0) (0) (fun r => B ≤ r) := by
  refine hMet (rm := { frames := 13, cells := 0, slots := 0, locals := 378 }) (lv := [some (.ref v0), some (.int v1), some (.int v2), some (.int v3)]) (own := RX11) (fr := 13) (lo := 378) (by decide) rfl rfl rfl (Nat.le_of_ble_eq_true rfl) rfl (fun hw p e R s m args below meth c hC hr hlk hnm => ?_)
  unfold w_X11_visits at hw
  refine z_aload_n hC dX11_visits_0 rfl rfl ?_
  refine z_getP hC FX11 0 lk_515 dX11_visits_1 (by decide) hw (fun x1 hw => ?_)
  refine z_iload_n hC dX11_visits_4 rfl rfl ?_
  refine z_callV (ku' := 0) (kv' := 0) (n := 1) (As := [.int v1]) (st := []) hC (c_X8_lives l G B S x1 v1 _) hw.2 hw.1 rfl lk_675 lk_676 lk_677 lk_122 lk_678 hd_X8_lives rfl rfl (Nat.le_of_ble_eq_true rfl) (Nat.le_of_ble_eq_true rfl) rfl (Nat.le_of_ble_eq_true rfl) dX11_visits_5 (Nat.le_refl 0) (Nat.le_refl 0) (kI (fun x5 S hw => ?_))
  refine z_if_eq (tgt := 20) hC dX11_visits_8 (by decide) (fun c8 => ?_) (fun c8 => ?_)
  · have hw := hw.1 c8
    refine z_iconst hC ic_m1 dX11_visits_20 ?_
    exact z_iret hC hr hlk dX11_visits_21 ⟨_, rfl, hw⟩
  · have hw := hw.2 c8
    refine z_iload_n hC dX11_visits_11 rfl rfl ?_
    refine z_bipush hC bi_99 dX11_visits_12 ?_
    refine z_callS (ku' := 0) (kv' := 0) (n := 2) (As := [.int v2, .int 99]) (st := []) hC (c_X11_isWithin l G B S v2 99 _) hw lk_574 lk_575 lk_121 lk_576 hd_X11_isWithin rfl rfl (Nat.le_of_ble_eq_true rfl) (Nat.le_of_ble_eq_true rfl) rfl (Nat.le_of_ble_eq_true rfl) dX11_visits_14 (Nat.le_refl 0) (Nat.le_refl 0) (kI (fun x14 S hw => ?_))
    refine z_if_ne (tgt := 22) hC dX11_visits_17 (by decide) (fun c17 => ?_) (fun c17 => ?_)
    · have hw := hw.1 c17
      refine z_aload_n hC dX11_visits_22 rfl rfl ?_
      refine z_getP hC FX11 8 lk_523 dX11_visits_23 (by decide) hw (fun x23 hw => ?_)
      refine z_aload_n hC dX11_visits_26 rfl rfl ?_
      refine z_getP hC FX11 0 lk_515 dX11_visits_27 (by decide) hw (fun x27 hw => ?_)
      refine z_iload_n hC dX11_visits_30 rfl rfl ?_
      refine z_iload_n hC dX11_visits_31 rfl rfl ?_
      refine z_callV (ku' := 0) (kv' := 0) (n := 3) (As := [.ref x27, .int v1, .int v2]) (st := []) hC (c_X4_findVisits l G B S x23 x27 v1 v2 _) hw.2 hw.1 rfl lk_1136 lk_1137 lk_1138 lk_131 lk_1139 hd_X4_findVisits rfl rfl (Nat.le_of_ble_eq_true rfl) (Nat.le_of_ble_eq_true rfl) rfl (Nat.le_of_ble_eq_true rfl) dX11_visits_32 (Nat.le_refl 0) (Nat.le_refl 0) (kV (fun S hw => ?_))
      refine z_iload_n hC dX11_visits_35 rfl rfl ?_
      refine z_iconst hC ic_m1 dX11_visits_36 ?_
      refine z_icmp_ne (tgt := 48) hC dX11_visits_37 (by decide) (fun c37 => ?_) (fun c37 => ?_)
      · have hw := hw.1 c37
        refine z_iload_n hC dX11_visits_48 rfl rfl ?_
        refine z_if_lt (tgt := 75) hC dX11_visits_49 (by decide) (fun c49 => ?_) (fun c49 => ?_)
        · have hw := hw.1 c49
          refine z_iconst hC ic_m1 dX11_visits_75 ?_
          exact z_iret hC hr hlk dX11_visits_76 ⟨_, rfl, hw⟩
        · have hw := hw.2 c49
          refine z_iload_n hC dX11_visits_52 rfl rfl ?_
          refine z_aload_n hC dX11_visits_53 rfl rfl ?_
          refine z_getP hC FX11 8 lk_523 dX11_visits_54 (by decide) hw (fun x54 hw => ?_)
          refine z_getI hC FX4 4 lk_455 dX11_visits_57 (by decide) hw (fun x57 hw => ?_)
          refine z_icmp_ge (tgt := 75) hC dX11_visits_60 (by decide) (fun c60 => ?_) (fun c60 => ?_)
          · have hw := hw.1 c60
            refine z_iconst hC ic_m1 dX11_visits_75 ?_
            exact z_iret hC hr hlk dX11_visits_76 ⟨_, rfl, hw⟩
          · have hw := hw.2 c60
            refine z_aload_n hC dX11_visits_63 rfl rfl ?_
            refine z_getP hC FX11 8 lk_523 dX11_visits_64 (by decide) hw (fun x64 hw => ?_)
            refine z_getP hC FX4 3 lk_453 dX11_visits_67 (by decide) hw (fun x67 hw => ?_)
            refine z_iload_n hC dX11_visits_70 rfl rfl ?_
            refine z_aldI hC dX11_visits_71 hw (fun x71 hw => ?_)
            refine z_goto (tgt := 76) hC dX11_visits_72 (by decide) ?_
            exact z_iret hC hr hlk dX11_visits_76 ⟨_, rfl, hw⟩
      · have hw := hw.2 c37
        refine z_aload_n hC dX11_visits_40 rfl rfl ?_
        refine z_getP hC FX11 8 lk_523 dX11_visits_41 (by decide) hw (fun x41 hw => ?_)
        refine z_getI hC FX4 4 lk_455 dX11_visits_44 (by decide) hw (fun x44 hw => ?_)
        exact z_iret hC hr hlk dX11_visits_47 ⟨_, rfl, hw⟩
    · have hw := hw.2 c17
      refine z_iconst hC ic_m1 dX11_visits_20 ?_
      exact z_iret hC hr hlk dX11_visits_21 ⟨_, rfl, hw⟩
end
section
variable {p : Program} {l : Launch} {e : Env} {R : Room} {s : State} {m : MethodId} {args : Array Value} {below : List Frame} {meth : Method} {c : Code} {G : hG} {B mc ms : Nat}
def w_X11_exchange (q : Int32 → hS → Prop) (S : hS) (v0 : Nat) (v1 : Int32) : Prop := (¬ v1 = 0 → (v1 < 1 → q (-1) S) ∧ (¬ v1 < 1 → gP S v0 11 0 (fun x22 => oK S x22 8 ∧ w_X8_hasPerson (fun x28 S => (¬ x28 = 0 → gP S v0 11 8 (fun x37 => gP S v0 11 0 (fun x41 => oK S x37 4 ∧ w_X4_findExchange (fun x44 S => gP S v0 11 8 (fun x49 => gP S x49 4 6 (fun x52 => aI S x52 (v1 - 1) (fun x58 => q x58 S)))) S x37 x41))) ∧ (x28 = 0 → q (-1) S)) S x22 (v1 - 1)))) ∧ (v1 = 0 → gP S v0 11 8 (fun x5 => gP S v0 11 0 (fun x9 => oK S x5 4 ∧ w_X4_findExchange (fun x12 S => q x12 S) S x5 x9)))
set_option maxRecDepth 100000 in
set_option maxHeartbeats 4000000 in
theorem c_X11_exchange (l : Launch) (G : hG) (B : Nat) (S : hS) (v0 : Nat) (v1 : Int32) (q : Int32 → hS → Prop) : Met l yX11_exchange (hws yX11_exchange cX11_exchange 2 (Option.some FieldType.int)) ({ frames := 7, cells := 0, slots := 0, locals := 201 }) (hPc G B S [.ref v0, .int v1] (w_X11_exchange q S v0 v1)) (hQ G B (iP q)) (0) (0) (fun r => B ≤ r) := by
  refine hMet (rm := { frames := 7, cells := 0, slots := 0, locals := 201 }) (lv := [some (.ref v0), some (.int v1)]) (own := RX11) (fr := 7) (lo := 201) (by decide) rfl rfl rfl (Nat.le_of_ble_eq_true rfl) rfl (fun hw p e R s m args below meth c hC hr hlk hnm => ?_)
  unfold w_X11_exchange at hw
  refine z_iload_n hC dX11_exchange_0 rfl rfl ?_
  refine z_if_ne (tgt := 16) hC dX11_exchange_1 (by decide) (fun c1 => ?_) (fun c1 => ?_)
  · have hw := hw.1 c1
    refine z_iload_n hC dX11_exchange_16 rfl rfl ?_
    refine z_iconst hC ic_1 dX11_exchange_17 ?_
    refine z_icmp_lt (tgt := 34) hC dX11_exchange_18 (by decide) (fun c18 => ?_) (fun c18 => ?_)
    · have hw := hw.1 c18
      refine z_iconst hC ic_m1 dX11_exchange_34 ?_
      exact z_iret hC hr hlk dX11_exchange_35 ⟨_, rfl, hw⟩
    · have hw := hw.2 c18
      refine z_aload_n hC dX11_exchange_21 rfl rfl ?_
      refine z_getP hC FX11 0 lk_515 dX11_exchange_22 (by decide) hw (fun x22 hw => ?_)
      refine z_iload_n hC dX11_exchange_25 rfl rfl ?_
      refine z_iconst hC ic_1 dX11_exchange_26 ?_
      refine z_isub hC dX11_exchange_27 ?_
      refine z_callV (ku' := 0) (kv' := 0) (n := 1) (As := [.int (v1 - 1)]) (st := []) hC (c_X8_hasPerson l G B S x22 (v1 - 1) _) hw.2 hw.1 rfl lk_674 lk_613 lk_614 lk_122 lk_615 hd_X8_hasPerson rfl rfl (Nat.le_of_ble_eq_true rfl) (Nat.le_of_ble_eq_true rfl) rfl (Nat.le_of_ble_eq_true rfl) dX11_exchange_28 (Nat.le_refl 0) (Nat.le_refl 0) (kI (fun x28 S hw => ?_))
      refine z_if_ne (tgt := 36) hC dX11_exchange_31 (by decide) (fun c31 => ?_) (fun c31 => ?_)
      · have hw := hw.1 c31
        refine z_aload_n hC dX11_exchange_36 rfl rfl ?_
        refine z_getP hC FX11 8 lk_523 dX11_exchange_37 (by decide) hw (fun x37 hw => ?_)
        refine z_aload_n hC dX11_exchange_40 rfl rfl ?_
        refine z_getP hC FX11 0 lk_515 dX11_exchange_41 (by decide) hw (fun x41 hw => ?_)
        refine z_callV (ku' := 0) (kv' := 0) (n := 1) (As := [.ref x41]) (st := []) hC (c_X4_findExchange l G B S x37 x41 _) hw.2 hw.1 rfl lk_1158 lk_1159 lk_1160 lk_131 lk_1161 hd_X4_findExchange rfl rfl (Nat.le_of_ble_eq_true rfl) (Nat.le_of_ble_eq_true rfl) rfl (Nat.le_of_ble_eq_true rfl) dX11_exchange_44 (Nat.le_refl 0) (Nat.le_refl 0) (kI (fun x44 S hw => ?_))
        refine z_pop hC rfl dX11_exchange_47 ?_
        refine z_aload_n hC dX11_exchange_48 rfl rfl ?_
        refine z_getP hC FX11 8 lk_523 dX11_exchange_49 (by decide) hw (fun x49 hw => ?_)
        refine z_getP hC FX4 6 lk_458 dX11_exchange_52 (by decide) hw (fun x52 hw => ?_)
        refine z_iload_n hC dX11_exchange_55 rfl rfl ?_
        refine z_iconst hC ic_1 dX11_exchange_56 ?_
        refine z_isub hC dX11_exchange_57 ?_
        refine z_aldI hC dX11_exchange_58 hw (fun x58 hw => ?_)
        exact z_iret hC hr hlk dX11_exchange_59 ⟨_, rfl, hw⟩
      · have hw := hw.2 c31
        refine z_iconst hC ic_m1 dX11_exchange_34 ?_
        exact z_iret hC hr hlk dX11_exchange_35 ⟨_, rfl, hw⟩
  · have hw := hw.2 c1
    refine z_aload_n hC dX11_exchange_4 rfl rfl ?_
    refine z_getP hC FX11 8 lk_523 dX11_exchange_5 (by decide) hw (fun x5 hw => ?_)
    refine z_aload_n hC dX11_exchange_8 rfl rfl ?_
    refine z_getP hC FX11 0 lk_515 dX11_exchange_9 (by decide) hw (fun x9 hw => ?_)
    refine z_callV (ku' := 0) (kv' := 0) (n := 1) (As := [.ref x9]) (st := []) hC (c_X4_findExchange l G B S x5 x9 _) hw.2 hw.1 rfl lk_1158 lk_1159 lk_1160 lk_131 lk_1161 hd_X4_findExchange rfl rfl (Nat.le_of_ble_eq_true rfl) (Nat.le_of_ble_eq_true rfl) rfl (Nat.le_of_ble_eq_true rfl) dX11_exchange_12 (Nat.le_refl 0) (Nat.le_refl 0) (kI (fun x12 S hw => ?_))
    exact z_iret hC hr hlk dX11_exchange_15 ⟨_, rfl, hw⟩
end
section
variable {p : Program} {l : Launch} {e : Env} {R : Room} {s : State} {m : MethodId} {args : Array Value} {below : List Frame} {meth : Method} {c : Code} {G : hG} {B mc ms : Nat}
def w_X11_clue (q : Int32 → hS → Prop) (S : hS) (v0 : Nat) (v1 : Int32) (v2 : Int32) : Prop := w_X11_isWithin (fun x3 S => (¬ x3 = 0 → gP S v0 11 0 (fun x16 => oK S x16 8 ∧ w_X8_hasHouse (fun x20 S => (¬ x20 = 0 → gP S v0 11 0 (fun x34 => gI S x34 8 9 (fun x37 => (x37 < 6 → gP S v0 11 0 (fun x53 => gP S x53 8 10 (fun x56 => gP S v0 11 0 (fun x60 => gI S x60 8 9 (fun x63 => sI S x56 x63 v1 (fun S => gP S v0 11 0 (fun x69 => gP S x69 8 11 (fun x72 => gP S v0 11 0 (fun x76 => gI S x76 8 9 (fun x79 => sI S x72 x79 v2 (fun S => gP S v0 11 0 (fun x85 => gI S x85 8 9 (fun x89 => pI S x85 8 9 (x89 + 1) (fun S => gP S v0 11 0 (fun x99 => gI S x99 8 9 (fun x102 => oK S v0 11 ∧ w_X11_accept (fun x105 S => q x105 S) S v0 x102)))))))))))))))) ∧ (¬ x37 < 6 → oK S v0 11 ∧ w_X11_refuse (fun x48 S => q x48 S) S v0 (-5))))) ∧ (x20 = 0 → oK S v0 11 ∧ w_X11_refuse (fun x29 S => q x29 S) S v0 (-2))) S x16 v1)) ∧ (x3 = 0 → oK S v0 11 ∧ w_X11_refuse (fun x11 S => q x11 S) S v0 (-1))) S v2 99
set_option maxRecDepth 100000 in
set_option maxHeartbeats 4000000 in
theorem c_X11_clue (l : Launch) (G : hG) (B : Nat) (S : hS) (v0 : Nat) (v1 : Int32) (v2 : Int32) (q : Int32 → hS → Prop) : Met l yX11_clue (hws yX11_clue cX11_clue 3 (Option.some FieldType.int)) ({ frames := 2, cells := 0, slots := 0, locals := 81 }) (hPc G B S [.ref v0, .int v1, .int v2] (w_X11_clue q S v0 v1 v2)) (hQ G B (iP q)) (0) (0) (fun r => B ≤ r) := by
  refine hMet (rm := { frames := 2, cells := 0, slots := 0, locals := 81 }) (lv := [some (.ref v0), some (.int v1), some (.int v2)]) (own := RX11) (fr := 2) (lo := 81) (by decide) rfl rfl rfl (Nat.le_of_ble_eq_true rfl) rfl (fun hw p e R s m args below meth c hC hr hlk hnm => ?_)
  unfold w_X11_clue at hw
  refine z_iload_n hC dX11_clue_0 rfl rfl ?_
  refine z_bipush hC bi_99 dX11_clue_1 ?_
  refine z_callS (ku' := 0) (kv' := 0) (n := 2) (As := [.int v2, .int 99]) (st := []) hC (c_X11_isWithin l G B S v2 99 _) hw lk_574 lk_575 lk_121 lk_576 hd_X11_isWithin rfl rfl (Nat.le_of_ble_eq_true rfl) (Nat.le_of_ble_eq_true rfl) rfl (Nat.le_of_ble_eq_true rfl) dX11_clue_3 (Nat.le_refl 0) (Nat.le_refl 0) (kI (fun x3 S hw => ?_))
  refine z_if_ne (tgt := 15) hC dX11_clue_6 (by decide) (fun c6 => ?_) (fun c6 => ?_)
  · have hw := hw.1 c6
    refine z_aload_n hC dX11_clue_15 rfl rfl ?_
    refine z_getP hC FX11 0 lk_515 dX11_clue_16 (by decide) hw (fun x16 hw => ?_)
    refine z_iload_n hC dX11_clue_19 rfl rfl ?_
    refine z_callV (ku' := 0) (kv' := 0) (n := 1) (As := [.int v1]) (st := []) hC (c_X8_hasHouse l G B S x16 v1 _) hw.2 hw.1 rfl lk_600 lk_601 lk_602 lk_122 lk_603 hd_X8_hasHouse rfl rfl (Nat.le_of_ble_eq_true rfl) (Nat.le_of_ble_eq_true rfl) rfl (Nat.le_of_ble_eq_true rfl) dX11_clue_20 (Nat.le_refl 0) (Nat.le_refl 0) (kI (fun x20 S hw => ?_))
    refine z_if_ne (tgt := 33) hC dX11_clue_23 (by decide) (fun c23 => ?_) (fun c23 => ?_)
    · have hw := hw.1 c23
      refine z_aload_n hC dX11_clue_33 rfl rfl ?_
      refine z_getP hC FX11 0 lk_515 dX11_clue_34 (by decide) hw (fun x34 hw => ?_)
      refine z_getI hC FX8 9 lk_232 dX11_clue_37 (by decide) hw (fun x37 hw => ?_)
      refine z_bipush hC bi_6 dX11_clue_40 ?_
      refine z_icmp_lt (tgt := 52) hC dX11_clue_42 (by decide) (fun c42 => ?_) (fun c42 => ?_)
      · have hw := hw.1 c42
        refine z_aload_n hC dX11_clue_52 rfl rfl ?_
        refine z_getP hC FX11 0 lk_515 dX11_clue_53 (by decide) hw (fun x53 hw => ?_)
        refine z_getP hC FX8 10 lk_234 dX11_clue_56 (by decide) hw (fun x56 hw => ?_)
        refine z_aload_n hC dX11_clue_59 rfl rfl ?_
        refine z_getP hC FX11 0 lk_515 dX11_clue_60 (by decide) hw (fun x60 hw => ?_)
        refine z_getI hC FX8 9 lk_232 dX11_clue_63 (by decide) hw (fun x63 hw => ?_)
        refine z_iload_n hC dX11_clue_66 rfl rfl ?_
        refine z_astI hC dX11_clue_67 hw (fun S hw => ?_)
        refine z_aload_n hC dX11_clue_68 rfl rfl ?_
        refine z_getP hC FX11 0 lk_515 dX11_clue_69 (by decide) hw (fun x69 hw => ?_)
        refine z_getP hC FX8 11 lk_236 dX11_clue_72 (by decide) hw (fun x72 hw => ?_)
        refine z_aload_n hC dX11_clue_75 rfl rfl ?_
        refine z_getP hC FX11 0 lk_515 dX11_clue_76 (by decide) hw (fun x76 hw => ?_)
        refine z_getI hC FX8 9 lk_232 dX11_clue_79 (by decide) hw (fun x79 hw => ?_)
        refine z_iload_n hC dX11_clue_82 rfl rfl ?_
        refine z_astI hC dX11_clue_83 hw (fun S hw => ?_)
        refine z_aload_n hC dX11_clue_84 rfl rfl ?_
        refine z_getP hC FX11 0 lk_515 dX11_clue_85 (by decide) hw (fun x85 hw => ?_)
        refine z_dup hC rfl dX11_clue_88 ?_
        refine z_getI hC FX8 9 lk_232 dX11_clue_89 (by decide) hw (fun x89 hw => ?_)
        refine z_iconst hC ic_1 dX11_clue_92 ?_
        refine z_iadd hC dX11_clue_93 ?_
        refine z_putI hC FX8 9 lk_232 dX11_clue_94 (by decide) rfl rfl hw (fun S hw => ?_)
        refine z_aload_n hC dX11_clue_97 rfl rfl ?_
        refine z_aload_n hC dX11_clue_98 rfl rfl ?_
        refine z_getP hC FX11 0 lk_515 dX11_clue_99 (by decide) hw (fun x99 hw => ?_)
        refine z_getI hC FX8 9 lk_232 dX11_clue_102 (by decide) hw (fun x102 hw => ?_)
        refine z_callV (ku' := 0) (kv' := 0) (n := 1) (As := [.int x102]) (st := []) hC (c_X11_accept l G B S v0 x102 _) hw.2 hw.1 rfl lk_592 lk_594 lk_1 lk_121 lk_595 hd_X11_accept rfl rfl (Nat.le_of_ble_eq_true rfl) (Nat.le_of_ble_eq_true rfl) rfl (Nat.le_of_ble_eq_true rfl) dX11_clue_105 (Nat.le_refl 0) (Nat.le_refl 0) (kI (fun x105 S hw => ?_))
        exact z_iret hC hr hlk dX11_clue_108 ⟨_, rfl, hw⟩
      · have hw := hw.2 c42
        refine z_aload_n hC dX11_clue_45 rfl rfl ?_
        refine z_bipush hC bi_m5 dX11_clue_46 ?_
        refine z_callV (ku' := 0) (kv' := 0) (n := 1) (As := [.int (-5)]) (st := []) hC (c_X11_refuse l G B S v0 (-5) _) hw.2 hw.1 rfl lk_577 lk_579 lk_0 lk_121 lk_580 hd_X11_refuse rfl rfl (Nat.le_of_ble_eq_true rfl) (Nat.le_of_ble_eq_true rfl) rfl (Nat.le_of_ble_eq_true rfl) dX11_clue_48 (Nat.le_refl 0) (Nat.le_refl 0) (kI (fun x48 S hw => ?_))
        exact z_iret hC hr hlk dX11_clue_51 ⟨_, rfl, hw⟩
    · have hw := hw.2 c23
      refine z_aload_n hC dX11_clue_26 rfl rfl ?_
      refine z_bipush hC bi_m2 dX11_clue_27 ?_
      refine z_callV (ku' := 0) (kv' := 0) (n := 1) (As := [.int (-2)]) (st := []) hC (c_X11_refuse l G B S v0 (-2) _) hw.2 hw.1 rfl lk_577 lk_579 lk_0 lk_121 lk_580 hd_X11_refuse rfl rfl (Nat.le_of_ble_eq_true rfl) (Nat.le_of_ble_eq_true rfl) rfl (Nat.le_of_ble_eq_true rfl) dX11_clue_29 (Nat.le_refl 0) (Nat.le_refl 0) (kI (fun x29 S hw => ?_))
      exact z_iret hC hr hlk dX11_clue_32 ⟨_, rfl, hw⟩
  · have hw := hw.2 c6
    refine z_aload_n hC dX11_clue_9 rfl rfl ?_
    refine z_iconst hC ic_m1 dX11_clue_10 ?_
    refine z_callV (ku' := 0) (kv' := 0) (n := 1) (As := [.int (-1)]) (st := []) hC (c_X11_refuse l G B S v0 (-1) _) hw.2 hw.1 rfl lk_577 lk_579 lk_0 lk_121 lk_580 hd_X11_refuse rfl rfl (Nat.le_of_ble_eq_true rfl) (Nat.le_of_ble_eq_true rfl) rfl (Nat.le_of_ble_eq_true rfl) dX11_clue_11 (Nat.le_refl 0) (Nat.le_refl 0) (kI (fun x11 S hw => ?_))
    exact z_iret hC hr hlk dX11_clue_14 ⟨_, rfl, hw⟩
end
section
variable {p : Program} {l : Launch} {e : Env} {R : Room} {s : State} {m : MethodId} {args : Array Value} {below : List Frame} {meth : Method} {c : Code} {G : hG} {B mc ms : Nat}
def w_X11_forget (q : Int32 → hS → Prop) (S : hS) (v0 : Nat) : Prop := gP S v0 11 0 (fun x1 => gI S x1 8 9 (fun x4 => gP S v0 11 0 (fun x9 => pI S x9 8 9 0 (fun S => q x4 S))))
set_option maxRecDepth 100000 in
set_option maxHeartbeats 4000000 in
theorem c_X11_forget (l : Launch) (G : hG) (B : Nat) (S : hS) (v0 : Nat) (q : Int32 → hS → Prop) : Met l yX11_forget (hws yX11_forget cX11_forget 2 (Option.some FieldType.int)) ({ frames := 1, cells := 0, slots := 0, locals := 60 }) (hPc G B S [.ref v0] (w_X11_forget q S v0)) (hQ G B (iP q)) (0) (0) (fun r => B ≤ r) := by
  refine hMet (rm := { frames := 1, cells := 0, slots := 0, locals := 60 }) (lv := [some (.ref v0), none]) (own := RX11) (fr := 1) (lo := 60) (by decide) rfl rfl rfl (Nat.le_of_ble_eq_true rfl) rfl (fun hw p e R s m args below meth c hC hr hlk hnm => ?_)
  unfold w_X11_forget at hw
  refine z_aload_n hC dX11_forget_0 rfl rfl ?_
  refine z_getP hC FX11 0 lk_515 dX11_forget_1 (by decide) hw (fun x1 hw => ?_)
  refine z_getI hC FX8 9 lk_232 dX11_forget_4 (by decide) hw (fun x4 hw => ?_)
  refine z_istore_n (i := 1) (lv' := [some (.ref v0), some (.int x4)]) hC rfl dX11_forget_7 (by decide) (hok_v rfl rfl) rfl ?_
  refine z_aload_n hC dX11_forget_8 rfl rfl ?_
  refine z_getP hC FX11 0 lk_515 dX11_forget_9 (by decide) hw (fun x9 hw => ?_)
  refine z_iconst hC ic_0 dX11_forget_12 ?_
  refine z_putI hC FX8 9 lk_232 dX11_forget_13 (by decide) rfl rfl hw (fun S hw => ?_)
  refine z_iload_n hC dX11_forget_16 rfl rfl ?_
  exact z_iret hC hr hlk dX11_forget_17 ⟨_, rfl, hw⟩
end
section
variable {p : Program} {l : Launch} {e : Env} {R : Room} {s : State} {m : MethodId} {args : Array Value} {below : List Frame} {meth : Method} {c : Code} {G : hG} {B mc ms : Nat}
def w_X11_who (q : Int32 → hS → Prop) (S : hS) (v0 : Nat) : Prop := gP S v0 11 0 (fun x1 => oK S x1 8 ∧ w_X8_suspects (fun x4 S => q x4 S) S x1)
set_option maxRecDepth 100000 in
set_option maxHeartbeats 4000000 in
theorem c_X11_who (l : Launch) (G : hG) (B : Nat) (S : hS) (v0 : Nat) (q : Int32 → hS → Prop) : Met l yX11_who (hws yX11_who cX11_who 1 (Option.some FieldType.int)) ({ frames := 5, cells := 0, slots := 0, locals := 149 }) (hPc G B S [.ref v0] (w_X11_who q S v0)) (hQ G B (iP q)) (0) (0) (fun r => B ≤ r) := by
  refine hMet (rm := { frames := 5, cells := 0, slots := 0, locals := 149 }) (lv := [some (.ref v0)]) (own := RX11) (fr := 5) (lo := 149) (by decide) rfl rfl rfl (Nat.le_of_ble_eq_true rfl) rfl (fun hw p e R s m args below meth c hC hr hlk hnm => ?_)
  unfold w_X11_who at hw
  refine z_aload_n hC dX11_who_0 rfl rfl ?_
  refine z_getP hC FX11 0 lk_515 dX11_who_1 (by decide) hw (fun x1 hw => ?_)
  refine z_callV (ku' := 0) (kv' := 0) (n := 0) (As := []) (st := []) hC (c_X8_suspects l G B S x1 _) hw.2 hw.1 rfl lk_1193 lk_1194 lk_1195 lk_122 lk_1196 hd_X8_suspects rfl rfl (Nat.le_of_ble_eq_true rfl) (Nat.le_of_ble_eq_true rfl) rfl (Nat.le_of_ble_eq_true rfl) dX11_who_4 (Nat.le_refl 0) (Nat.le_refl 0) (kI (fun x4 S hw => ?_))
  exact z_iret hC hr hlk dX11_who_7 ⟨_, rfl, hw⟩
end
section
variable {p : Program} {l : Launch} {e : Env} {R : Room} {s : State} {m : MethodId} {args : Array Value} {below : List Frame} {meth : Method} {c : Code} {G : hG} {B mc ms : Nat}
def w_X11_look_b70 (q : Int32 → hS → Prop) (K32 : hS → (Nat) → (Int32) → (Int32) → (Int32) → (Int32) → (Int32) → Prop) (S : hS) (v0 : Nat) (v1 : Int32) (v2 : Int32) (v3 : Int32) (v4 : Int32) (v5 : Int32) : Prop := ∀ y70 : Int32, y70 = v5 + 1 → K32 S v0 v1 v2 v3 v4 y70
set_option maxRecDepth 100000 in
set_option maxHeartbeats 4000000 in
theorem t_X11_look_b70 (hC : zC p R s m args c cX11_look 7 RX11 G B mc ms 5 149) (hr : meth.sig.returnType = (Option.some FieldType.int)) (hlk : meth.locks = false) (hnm : meth.name = "look") {q : Int32 → hS → Prop} {K32 : hS → (Nat) → (Int32) → (Int32) → (Int32) → (Int32) → (Int32) → Prop} (hK32 : ∀ {S : hS} {v0 : Nat} {v1 : Int32} {v2 : Int32} {v3 : Int32} {v4 : Int32} {v5 : Int32}, K32 S v0 v1 v2 v3 v4 v5 → Z p l e R s m args below meth c (MQ below (hQ G B (iP q)) args s mc ms (fun r => B ≤ r)) G B mc ms 7 S 0 0 32 [some (.ref v0), some (.int v1), some (.int v2), some (.int v3), some (.int v4), some (.int v5), none] []) {S : hS} {v0 : Nat} {v1 : Int32} {v2 : Int32} {v3 : Int32} {v4 : Int32} {v5 : Int32} (hw : w_X11_look_b70 q K32 S v0 v1 v2 v3 v4 v5) : Z p l e R s m args below meth c (MQ below (hQ G B (iP q)) args s mc ms (fun r => B ≤ r)) G B mc ms 7 S 0 0 70 [some (.ref v0), some (.int v1), some (.int v2), some (.int v3), some (.int v4), some (.int v5), none] [] := by
  unfold w_X11_look_b70 at hw
  refine z_inc (i := 5) hC ic_1 dX11_look_70 rfl (by decide) (hok_v rfl rfl) (fun y70 e70 => ?_)
  have hw := hw y70 e70
  refine z_goto (tgt := 32) hC dX11_look_73 (by decide) ?_
  refine z_mask (lv' := [some (.ref v0), some (.int v1), some (.int v2), some (.int v3), some (.int v4), some (.int y70), none]) [true, true, true, true, true, true, false] rfl ?_
  exact hK32 hw
def w_X11_look_b85 (q : Int32 → hS → Prop) (S : hS) (v3 : Int32) : Prop := q v3 S
set_option maxRecDepth 100000 in
set_option maxHeartbeats 4000000 in
theorem t_X11_look_b85 (hC : zC p R s m args c cX11_look 7 RX11 G B mc ms 5 149) (hr : meth.sig.returnType = (Option.some FieldType.int)) (hlk : meth.locks = false) (hnm : meth.name = "look") {q : Int32 → hS → Prop} {S : hS} {v3 : Int32} (hw : w_X11_look_b85 q S v3) : Z p l e R s m args below meth c (MQ below (hQ G B (iP q)) args s mc ms (fun r => B ≤ r)) G B mc ms 7 S 0 0 85 [none, none, none, some (.int v3), none, none, none] [] := by
  unfold w_X11_look_b85 at hw
  refine z_iload_n hC dX11_look_85 rfl rfl ?_
  refine z_goto (tgt := 91) hC dX11_look_86 (by decide) ?_
  exact z_iret hC hr hlk dX11_look_91 ⟨_, rfl, hw⟩
def w_X11_look_b32 (q : Int32 → hS → Prop) : Nat → hS → (Nat) → (Int32) → (Int32) → (Int32) → (Int32) → (Int32) → Prop
  | 0, _, _, _, _, _, _, _ => False
  | n + 1, S, v0, v1, v2, v3, v4, v5 => gP S v0 11 0 (fun x35 => gI S x35 8 1 (fun x38 => (x38 ≤ v5 → (v3 = (-1) → w_X11_look_b85 q S v3) ∧ (¬ v3 = (-1) → (¬ v1 = 0 → q v4 S) ∧ (v1 = 0 → w_X11_look_b85 q S v3))) ∧ (¬ x38 ≤ v5 → gP S v0 11 0 (fun x45 => oK S x45 8 ∧ w_X8_remainAtMost (fun x51 S => (v4 ≤ x51 → w_X11_look_b70 q (fun S v0 v1 v2 v3 v4 v5 => w_X11_look_b32 q n S v0 v1 v2 v3 v4 v5) S v0 v1 v2 v3 v4 v5) ∧ (¬ v4 ≤ x51 → w_X11_look_b70 q (fun S v0 v1 v2 v3 v4 v5 => w_X11_look_b32 q n S v0 v1 v2 v3 v4 v5) S v0 v1 v2 v5 x51 v5)) S x45 v2 v5))))
set_option maxRecDepth 100000 in
set_option maxHeartbeats 4000000 in
theorem t_X11_look_b32 (hC : zC p R s m args c cX11_look 7 RX11 G B mc ms 5 149) (hr : meth.sig.returnType = (Option.some FieldType.int)) (hlk : meth.locks = false) (hnm : meth.name = "look") {q : Int32 → hS → Prop} (n : Nat) : ∀ {S : hS} {v0 : Nat} {v1 : Int32} {v2 : Int32} {v3 : Int32} {v4 : Int32} {v5 : Int32} (hw : w_X11_look_b32 q n S v0 v1 v2 v3 v4 v5), Z p l e R s m args below meth c (MQ below (hQ G B (iP q)) args s mc ms (fun r => B ≤ r)) G B mc ms 7 S 0 0 32 [some (.ref v0), some (.int v1), some (.int v2), some (.int v3), some (.int v4), some (.int v5), none] [] := by
  induction n with
  | zero => intro S v0 v1 v2 v3 v4 v5 hw; exact (by rw [w_X11_look_b32] at hw; exact hw.elim)
  | succ n ih =>
    intro S v0 v1 v2 v3 v4 v5 hw
    rw [w_X11_look_b32] at hw
    refine z_iload hC dX11_look_32 rfl ?_
    refine z_aload_n hC dX11_look_34 rfl rfl ?_
    refine z_getP hC FX11 0 lk_515 dX11_look_35 (by decide) hw (fun x35 hw => ?_)
    refine z_getI hC FX8 1 lk_206 dX11_look_38 (by decide) hw (fun x38 hw => ?_)
    refine z_icmp_ge (tgt := 76) hC dX11_look_41 (by decide) (fun c41 => ?_) (fun c41 => ?_)
    · have hw := hw.1 c41
      refine z_iload_n hC dX11_look_76 rfl rfl ?_
      refine z_iconst hC ic_m1 dX11_look_77 ?_
      refine z_icmp_eq (tgt := 85) hC dX11_look_78 (by decide) (fun c78 => ?_) (fun c78 => ?_)
      · have hw := hw.1 c78
        refine z_mask (lv' := [none, none, none, some (.int v3), none, none, none]) [false, false, false, true, false, false, false] rfl ?_
        exact t_X11_look_b85 hC hr hlk hnm hw
      · have hw := hw.2 c78
        refine z_iload_n hC dX11_look_81 rfl rfl ?_
        refine z_if_ne (tgt := 89) hC dX11_look_82 (by decide) (fun c82 => ?_) (fun c82 => ?_)
        · have hw := hw.1 c82
          refine z_iload hC dX11_look_89 rfl ?_
          exact z_iret hC hr hlk dX11_look_91 ⟨_, rfl, hw⟩
        · have hw := hw.2 c82
          refine z_mask (lv' := [none, none, none, some (.int v3), none, none, none]) [false, false, false, true, false, false, false] rfl ?_
          exact t_X11_look_b85 hC hr hlk hnm hw
    · have hw := hw.2 c41
      refine z_aload_n hC dX11_look_44 rfl rfl ?_
      refine z_getP hC FX11 0 lk_515 dX11_look_45 (by decide) hw (fun x45 hw => ?_)
      refine z_iload_n hC dX11_look_48 rfl rfl ?_
      refine z_iload hC dX11_look_49 rfl ?_
      refine z_callV (ku' := 0) (kv' := 0) (n := 2) (As := [.int v2, .int v5]) (st := []) hC (c_X8_remainAtMost l G B S x45 v2 v5 _) hw.2 hw.1 rfl lk_1210 lk_1211 lk_1212 lk_122 lk_1213 hd_X8_remainAtMost rfl rfl (Nat.le_of_ble_eq_true rfl) (Nat.le_of_ble_eq_true rfl) rfl (Nat.le_of_ble_eq_true rfl) dX11_look_51 (Nat.le_refl 0) (Nat.le_refl 0) (kI (fun x51 S hw => ?_))
      refine z_istore (i := 6) (lv' := [some (.ref v0), some (.int v1), some (.int v2), some (.int v3), some (.int v4), some (.int v5), some (.int x51)]) hC dX11_look_54 (by decide) (hok_v rfl rfl) rfl ?_
      refine z_iload hC dX11_look_56 rfl ?_
      refine z_iload hC dX11_look_58 rfl ?_
      refine z_icmp_ge (tgt := 70) hC dX11_look_60 (by decide) (fun c60 => ?_) (fun c60 => ?_)
      · have hw := hw.1 c60
        refine z_mask (lv' := [some (.ref v0), some (.int v1), some (.int v2), some (.int v3), some (.int v4), some (.int v5), none]) [true, true, true, true, true, true, false] rfl ?_
        exact t_X11_look_b70 hC hr hlk hnm (fun hw => ih hw) hw
      · have hw := hw.2 c60
        refine z_iload hC dX11_look_63 rfl ?_
        refine z_istore (i := 4) (lv' := [some (.ref v0), some (.int v1), some (.int v2), some (.int v3), some (.int x51), some (.int v5), some (.int x51)]) hC dX11_look_65 (by decide) (hok_v rfl rfl) rfl ?_
        refine z_iload hC dX11_look_67 rfl ?_
        refine z_istore_n (i := 3) (lv' := [some (.ref v0), some (.int v1), some (.int v2), some (.int v5), some (.int x51), some (.int v5), some (.int x51)]) hC rfl dX11_look_69 (by decide) (hok_v rfl rfl) rfl ?_
        refine z_mask (lv' := [some (.ref v0), some (.int v1), some (.int v2), some (.int v5), some (.int x51), some (.int v5), none]) [true, true, true, true, true, true, false] rfl ?_
        exact t_X11_look_b70 hC hr hlk hnm (fun hw => ih hw) hw
def w_X11_look_b23 (q : Int32 → hS → Prop) (S : hS) (v0 : Nat) (v1 : Int32) (v2 : Int32) : Prop := (∃ n32 : Nat, w_X11_look_b32 q n32 S v0 v1 v2 (-1) 9 0)
set_option maxRecDepth 100000 in
set_option maxHeartbeats 4000000 in
theorem t_X11_look_b23 (hC : zC p R s m args c cX11_look 7 RX11 G B mc ms 5 149) (hr : meth.sig.returnType = (Option.some FieldType.int)) (hlk : meth.locks = false) (hnm : meth.name = "look") {q : Int32 → hS → Prop} {S : hS} {v0 : Nat} {v1 : Int32} {v2 : Int32} (hw : w_X11_look_b23 q S v0 v1 v2) : Z p l e R s m args below meth c (MQ below (hQ G B (iP q)) args s mc ms (fun r => B ≤ r)) G B mc ms 7 S 0 0 23 [some (.ref v0), some (.int v1), some (.int v2), none, none, none, none] [] := by
  unfold w_X11_look_b23 at hw
  refine z_iconst hC ic_m1 dX11_look_23 ?_
  refine z_istore_n (i := 3) (lv' := [some (.ref v0), some (.int v1), some (.int v2), some (.int (-1)), none, none, none]) hC rfl dX11_look_24 (by decide) (hok_v rfl rfl) rfl ?_
  refine z_bipush hC bi_9 dX11_look_25 ?_
  refine z_istore (i := 4) (lv' := [some (.ref v0), some (.int v1), some (.int v2), some (.int (-1)), some (.int 9), none, none]) hC dX11_look_27 (by decide) (hok_v rfl rfl) rfl ?_
  refine z_iconst hC ic_0 dX11_look_29 ?_
  refine z_istore (i := 5) (lv' := [some (.ref v0), some (.int v1), some (.int v2), some (.int (-1)), some (.int 9), some (.int 0), none]) hC dX11_look_30 (by decide) (hok_v rfl rfl) rfl ?_
  refine z_mask (lv' := [some (.ref v0), some (.int v1), some (.int v2), some (.int (-1)), some (.int 9), some (.int 0), none]) [true, true, true, true, true, true, false] rfl ?_
  obtain ⟨n32, hw⟩ := hw
  exact t_X11_look_b32 hC hr hlk hnm n32 hw
def w_X11_look (q : Int32 → hS → Prop) (S : hS) (v0 : Nat) (v1 : Int32) : Prop := gP S v0 11 0 (fun x1 => oK S x1 8 ∧ w_X8_suspects (fun x4 S => (x4 = 0 → q (-1) S) ∧ (¬ x4 = 0 → (v1 = 0 → w_X11_look_b23 q S v0 v1 x4) ∧ (¬ v1 = 0 → (v1 = 1 → w_X11_look_b23 q S v0 v1 x4) ∧ (¬ v1 = 1 → q (-1) S)))) S x1)
set_option maxRecDepth 100000 in
set_option maxHeartbeats 4000000 in
theorem c_X11_look (l : Launch) (G : hG) (B : Nat) (S : hS) (v0 : Nat) (v1 : Int32) (q : Int32 → hS → Prop) : Met l yX11_look (hws yX11_look cX11_look 7 (Option.some FieldType.int)) ({ frames := 5, cells := 0, slots := 0, locals := 149 }) (hPc G B S [.ref v0, .int v1] (w_X11_look q S v0 v1)) (hQ G B (iP q)) (0) (0) (fun r => B ≤ r) := by
  refine hMet (rm := { frames := 5, cells := 0, slots := 0, locals := 149 }) (lv := [some (.ref v0), some (.int v1), none, none, none, none, none]) (own := RX11) (fr := 5) (lo := 149) (by decide) rfl rfl rfl (Nat.le_of_ble_eq_true rfl) rfl (fun hw p e R s m args below meth c hC hr hlk hnm => ?_)
  unfold w_X11_look at hw
  refine z_aload_n hC dX11_look_0 rfl rfl ?_
  refine z_getP hC FX11 0 lk_515 dX11_look_1 (by decide) hw (fun x1 hw => ?_)
  refine z_callV (ku' := 0) (kv' := 0) (n := 0) (As := []) (st := []) hC (c_X8_suspects l G B S x1 _) hw.2 hw.1 rfl lk_1193 lk_1194 lk_1195 lk_122 lk_1196 hd_X8_suspects rfl rfl (Nat.le_of_ble_eq_true rfl) (Nat.le_of_ble_eq_true rfl) rfl (Nat.le_of_ble_eq_true rfl) dX11_look_4 (Nat.le_refl 0) (Nat.le_refl 0) (kI (fun x4 S hw => ?_))
  refine z_istore_n (i := 2) (lv' := [some (.ref v0), some (.int v1), some (.int x4), none, none, none, none]) hC rfl dX11_look_7 (by decide) (hok_v rfl rfl) rfl ?_
  refine z_iload_n hC dX11_look_8 rfl rfl ?_
  refine z_if_eq (tgt := 21) hC dX11_look_9 (by decide) (fun c9 => ?_) (fun c9 => ?_)
  · have hw := hw.1 c9
    refine z_iconst hC ic_m1 dX11_look_21 ?_
    exact z_iret hC hr hlk dX11_look_22 ⟨_, rfl, hw⟩
  · have hw := hw.2 c9
    refine z_iload_n hC dX11_look_12 rfl rfl ?_
    refine z_if_eq (tgt := 23) hC dX11_look_13 (by decide) (fun c13 => ?_) (fun c13 => ?_)
    · have hw := hw.1 c13
      refine z_mask (lv' := [some (.ref v0), some (.int v1), some (.int x4), none, none, none, none]) [true, true, true, false, false, false, false] rfl ?_
      exact t_X11_look_b23 hC hr hlk hnm hw
    · have hw := hw.2 c13
      refine z_iload_n hC dX11_look_16 rfl rfl ?_
      refine z_iconst hC ic_1 dX11_look_17 ?_
      refine z_icmp_eq (tgt := 23) hC dX11_look_18 (by decide) (fun c18 => ?_) (fun c18 => ?_)
      · have hw := hw.1 c18
        refine z_mask (lv' := [some (.ref v0), some (.int v1), some (.int x4), none, none, none, none]) [true, true, true, false, false, false, false] rfl ?_
        exact t_X11_look_b23 hC hr hlk hnm hw
      · have hw := hw.2 c18
        refine z_iconst hC ic_m1 dX11_look_21 ?_
        exact z_iret hC hr hlk dX11_look_22 ⟨_, rfl, hw⟩
end
section
variable {p : Program} {l : Launch} {e : Env} {R : Room} {s : State} {m : MethodId} {args : Array Value} {below : List Frame} {meth : Method} {c : Code} {G : hG} {B mc ms : Nat}
def w_X11_amend_b22 (q : Int32 → hS → Prop) (S : hS) (v0 : Nat) (v1 : Int32) (v2 : Int32) : Prop := gP S v0 11 9 (fun x23 => gP S v0 11 0 (fun x27 => oK S x23 7 ∧ w_X7_struckOut (fun x31 S => (¬ v2 = 0 → q x31 S) ∧ (v2 = 0 → w_J6_bitCount_0f7a4 (fun x40 S => q x40 S) S x31)) S x23 x27 v1))
set_option maxRecDepth 100000 in
set_option maxHeartbeats 4000000 in
theorem t_X11_amend_b22 (hC : zC p R s m args c cX11_amend 4 RX11 G B mc ms 4 130) (hr : meth.sig.returnType = (Option.some FieldType.int)) (hlk : meth.locks = false) (hnm : meth.name = "amend") {q : Int32 → hS → Prop} {S : hS} {v0 : Nat} {v1 : Int32} {v2 : Int32} (hw : w_X11_amend_b22 q S v0 v1 v2) : Z p l e R s m args below meth c (MQ below (hQ G B (iP q)) args s mc ms (fun r => B ≤ r)) G B mc ms 4 S 0 0 22 [some (.ref v0), some (.int v1), some (.int v2), none] [] := by
  unfold w_X11_amend_b22 at hw
  refine z_aload_n hC dX11_amend_22 rfl rfl ?_
  refine z_getP hC FX11 9 lk_524 dX11_amend_23 (by decide) hw (fun x23 hw => ?_)
  refine z_aload_n hC dX11_amend_26 rfl rfl ?_
  refine z_getP hC FX11 0 lk_515 dX11_amend_27 (by decide) hw (fun x27 hw => ?_)
  refine z_iload_n hC dX11_amend_30 rfl rfl ?_
  refine z_callV (ku' := 0) (kv' := 0) (n := 2) (As := [.ref x27, .int v1]) (st := []) hC (c_X7_struckOut l G B S x23 x27 v1 _) hw.2 hw.1 rfl lk_1219 lk_1220 lk_1221 lk_132 lk_1222 hd_X7_struckOut rfl rfl (Nat.le_of_ble_eq_true rfl) (Nat.le_of_ble_eq_true rfl) rfl (Nat.le_of_ble_eq_true rfl) dX11_amend_31 (Nat.le_refl 0) (Nat.le_refl 0) (kI (fun x31 S hw => ?_))
  refine z_istore_n (i := 3) (lv' := [some (.ref v0), some (.int v1), some (.int v2), some (.int x31)]) hC rfl dX11_amend_34 (by decide) (hok_v rfl rfl) rfl ?_
  refine z_iload_n hC dX11_amend_35 rfl rfl ?_
  refine z_if_ne (tgt := 46) hC dX11_amend_36 (by decide) (fun c36 => ?_) (fun c36 => ?_)
  · have hw := hw.1 c36
    refine z_iload_n hC dX11_amend_46 rfl rfl ?_
    exact z_iret hC hr hlk dX11_amend_47 ⟨_, rfl, hw⟩
  · have hw := hw.2 c36
    refine z_iload_n hC dX11_amend_39 rfl rfl ?_
    refine z_callSO (ku' := 0) (kv' := 0) (n := 1) (As := [.int x31]) (st := []) hC (c_J6_bitCount_0f7a4 l G B S x31 _) hw lk_1227 lk_1163 lk_140 lk_1164 hd_J6_bitCount_0f7a4.2 rfl rfl (Nat.le_of_ble_eq_true rfl) (Nat.le_of_ble_eq_true rfl) rfl (Nat.le_of_ble_eq_true rfl) dX11_amend_40 (Nat.le_refl 0) (Nat.le_refl 0) (kI (fun x40 S hw => ?_))
    refine z_goto (tgt := 47) hC dX11_amend_43 (by decide) ?_
    exact z_iret hC hr hlk dX11_amend_47 ⟨_, rfl, hw⟩
def w_X11_amend (q : Int32 → hS → Prop) (S : hS) (v0 : Nat) (v1 : Int32) (v2 : Int32) : Prop := gP S v0 11 0 (fun x1 => oK S x1 8 ∧ w_X8_hasHouse (fun x5 S => (x5 = 0 → q (-1) S) ∧ (¬ x5 = 0 → (v2 = 0 → w_X11_amend_b22 q S v0 v1 v2) ∧ (¬ v2 = 0 → (v2 = 1 → w_X11_amend_b22 q S v0 v1 v2) ∧ (¬ v2 = 1 → q (-1) S)))) S x1 v1)
set_option maxRecDepth 100000 in
set_option maxHeartbeats 4000000 in
theorem c_X11_amend (l : Launch) (G : hG) (B : Nat) (S : hS) (v0 : Nat) (v1 : Int32) (v2 : Int32) (q : Int32 → hS → Prop) : Met l yX11_amend (hws yX11_amend cX11_amend 4 (Option.some FieldType.int)) ({ frames := 4, cells := 0, slots := 0, locals := 130 }) (hPc G B S [.ref v0, .int v1, .int v2] (w_X11_amend q S v0 v1 v2)) (hQ G B (iP q)) (0) (0) (fun r => B ≤ r) := by
  refine hMet (rm := { frames := 4, cells := 0, slots := 0, locals := 130 }) (lv := [some (.ref v0), some (.int v1), some (.int v2), none]) (own := RX11) (fr := 4) (lo := 130) (by decide) rfl rfl rfl (Nat.le_of_ble_eq_true rfl) rfl (fun hw p e R s m args below meth c hC hr hlk hnm => ?_)
  unfold w_X11_amend at hw
  refine z_aload_n hC dX11_amend_0 rfl rfl ?_
  refine z_getP hC FX11 0 lk_515 dX11_amend_1 (by decide) hw (fun x1 hw => ?_)
  refine z_iload_n hC dX11_amend_4 rfl rfl ?_
  refine z_callV (ku' := 0) (kv' := 0) (n := 1) (As := [.int v1]) (st := []) hC (c_X8_hasHouse l G B S x1 v1 _) hw.2 hw.1 rfl lk_600 lk_601 lk_602 lk_122 lk_603 hd_X8_hasHouse rfl rfl (Nat.le_of_ble_eq_true rfl) (Nat.le_of_ble_eq_true rfl) rfl (Nat.le_of_ble_eq_true rfl) dX11_amend_5 (Nat.le_refl 0) (Nat.le_refl 0) (kI (fun x5 S hw => ?_))
  refine z_if_eq (tgt := 20) hC dX11_amend_8 (by decide) (fun c8 => ?_) (fun c8 => ?_)
  · have hw := hw.1 c8
    refine z_iconst hC ic_m1 dX11_amend_20 ?_
    exact z_iret hC hr hlk dX11_amend_21 ⟨_, rfl, hw⟩
  · have hw := hw.2 c8
    refine z_iload_n hC dX11_amend_11 rfl rfl ?_
    refine z_if_eq (tgt := 22) hC dX11_amend_12 (by decide) (fun c12 => ?_) (fun c12 => ?_)
    · have hw := hw.1 c12
      refine z_mask (lv' := [some (.ref v0), some (.int v1), some (.int v2), none]) [true, true, true, false] rfl ?_
      exact t_X11_amend_b22 hC hr hlk hnm hw
    · have hw := hw.2 c12
      refine z_iload_n hC dX11_amend_15 rfl rfl ?_
      refine z_iconst hC ic_1 dX11_amend_16 ?_
      refine z_icmp_eq (tgt := 22) hC dX11_amend_17 (by decide) (fun c17 => ?_) (fun c17 => ?_)
      · have hw := hw.1 c17
        refine z_mask (lv' := [some (.ref v0), some (.int v1), some (.int v2), none]) [true, true, true, false] rfl ?_
        exact t_X11_amend_b22 hC hr hlk hnm hw
      · have hw := hw.2 c17
        refine z_iconst hC ic_m1 dX11_amend_20 ?_
        exact z_iret hC hr hlk dX11_amend_21 ⟨_, rfl, hw⟩
end
section
variable {p : Program} {l : Launch} {e : Env} {R : Room} {s : State} {m : MethodId} {args : Array Value} {below : List Frame} {meth : Method} {c : Code} {G : hG} {B mc ms : Nat}
def w_X11_given (q : Int32 → hS → Prop) (S : hS) (v0 : Nat) (v1 : Int32) (v2 : Int32) (v3 : Int32) : Prop := gP S v0 11 0 (fun x1 => oK S x1 8 ∧ w_X8_hasHouse (fun x5 S => (x5 = 0 → q (-1) S) ∧ (¬ x5 = 0 → gP S v0 11 0 (fun x12 => oK S x12 8 ∧ w_X8_hasPerson (fun x16 S => (x16 = 0 → q (-1) S) ∧ (¬ x16 = 0 → w_X11_isWithin (fun x25 S => (¬ x25 = 0 → gP S v0 11 9 (fun x34 => gP S v0 11 0 (fun x38 => oK S x34 7 ∧ w_X7_giveOut (fun S => gP S v0 11 9 (fun x47 => gP S x47 7 0 (fun x50 => aI S x50 v3 (fun x54 => q x54 S)))) S x34 x38 v1 v2))) ∧ (x25 = 0 → q (-1) S)) S v2 99)) S x12 v3))) S x1 v1)
set_option maxRecDepth 100000 in
set_option maxHeartbeats 4000000 in
theorem c_X11_given (l : Launch) (G : hG) (B : Nat) (S : hS) (v0 : Nat) (v1 : Int32) (v2 : Int32) (v3 : Int32) (q : Int32 → hS → Prop) : Met l yX11_given (hws yX11_given cX11_given 4 (Option.some FieldType.int)) ({ frames := 4, cells := 0, slots := 0, locals := 130 }) (hPc G B S [.ref v0, .int v1, .int v2, .int v3] (w_X11_given q S v0 v1 v2 v3)) (hQ G B (iP q)) (0) (0) (fun r => B ≤ r) := by
  refine hMet (rm := { frames := 4, cells := 0, slots := 0, locals := 130 }) (lv := [some (.ref v0), some (.int v1), some (.int v2), some (.int v3)]) (own := RX11) (fr := 4) (lo := 130) (by decide) rfl rfl rfl (Nat.le_of_ble_eq_true rfl) rfl (fun hw p e R s m args below meth c hC hr hlk hnm => ?_)
  unfold w_X11_given at hw
  refine z_aload_n hC dX11_given_0 rfl rfl ?_
  refine z_getP hC FX11 0 lk_515 dX11_given_1 (by decide) hw (fun x1 hw => ?_)
  refine z_iload_n hC dX11_given_4 rfl rfl ?_
  refine z_callV (ku' := 0) (kv' := 0) (n := 1) (As := [.int v1]) (st := []) hC (c_X8_hasHouse l G B S x1 v1 _) hw.2 hw.1 rfl lk_600 lk_601 lk_602 lk_122 lk_603 hd_X8_hasHouse rfl rfl (Nat.le_of_ble_eq_true rfl) (Nat.le_of_ble_eq_true rfl) rfl (Nat.le_of_ble_eq_true rfl) dX11_given_5 (Nat.le_refl 0) (Nat.le_refl 0) (kI (fun x5 S hw => ?_))
  refine z_if_eq (tgt := 31) hC dX11_given_8 (by decide) (fun c8 => ?_) (fun c8 => ?_)
  · have hw := hw.1 c8
    refine z_iconst hC ic_m1 dX11_given_31 ?_
    exact z_iret hC hr hlk dX11_given_32 ⟨_, rfl, hw⟩
  · have hw := hw.2 c8
    refine z_aload_n hC dX11_given_11 rfl rfl ?_
    refine z_getP hC FX11 0 lk_515 dX11_given_12 (by decide) hw (fun x12 hw => ?_)
    refine z_iload_n hC dX11_given_15 rfl rfl ?_
    refine z_callV (ku' := 0) (kv' := 0) (n := 1) (As := [.int v3]) (st := []) hC (c_X8_hasPerson l G B S x12 v3 _) hw.2 hw.1 rfl lk_674 lk_613 lk_614 lk_122 lk_615 hd_X8_hasPerson rfl rfl (Nat.le_of_ble_eq_true rfl) (Nat.le_of_ble_eq_true rfl) rfl (Nat.le_of_ble_eq_true rfl) dX11_given_16 (Nat.le_refl 0) (Nat.le_refl 0) (kI (fun x16 S hw => ?_))
    refine z_if_eq (tgt := 31) hC dX11_given_19 (by decide) (fun c19 => ?_) (fun c19 => ?_)
    · have hw := hw.1 c19
      refine z_iconst hC ic_m1 dX11_given_31 ?_
      exact z_iret hC hr hlk dX11_given_32 ⟨_, rfl, hw⟩
    · have hw := hw.2 c19
      refine z_iload_n hC dX11_given_22 rfl rfl ?_
      refine z_bipush hC bi_99 dX11_given_23 ?_
      refine z_callS (ku' := 0) (kv' := 0) (n := 2) (As := [.int v2, .int 99]) (st := []) hC (c_X11_isWithin l G B S v2 99 _) hw lk_574 lk_575 lk_121 lk_576 hd_X11_isWithin rfl rfl (Nat.le_of_ble_eq_true rfl) (Nat.le_of_ble_eq_true rfl) rfl (Nat.le_of_ble_eq_true rfl) dX11_given_25 (Nat.le_refl 0) (Nat.le_refl 0) (kI (fun x25 S hw => ?_))
      refine z_if_ne (tgt := 33) hC dX11_given_28 (by decide) (fun c28 => ?_) (fun c28 => ?_)
      · have hw := hw.1 c28
        refine z_aload_n hC dX11_given_33 rfl rfl ?_
        refine z_getP hC FX11 9 lk_524 dX11_given_34 (by decide) hw (fun x34 hw => ?_)
        refine z_aload_n hC dX11_given_37 rfl rfl ?_
        refine z_getP hC FX11 0 lk_515 dX11_given_38 (by decide) hw (fun x38 hw => ?_)
        refine z_iload_n hC dX11_given_41 rfl rfl ?_
        refine z_iload_n hC dX11_given_42 rfl rfl ?_
        refine z_callV (ku' := 0) (kv' := 0) (n := 3) (As := [.ref x38, .int v1, .int v2]) (st := []) hC (c_X7_giveOut l G B S x34 x38 v1 v2 _) hw.2 hw.1 rfl lk_1232 lk_1233 lk_1234 lk_132 lk_1235 hd_X7_giveOut rfl rfl (Nat.le_of_ble_eq_true rfl) (Nat.le_of_ble_eq_true rfl) rfl (Nat.le_of_ble_eq_true rfl) dX11_given_43 (Nat.le_refl 0) (Nat.le_refl 0) (kV (fun S hw => ?_))
        refine z_aload_n hC dX11_given_46 rfl rfl ?_
        refine z_getP hC FX11 9 lk_524 dX11_given_47 (by decide) hw (fun x47 hw => ?_)
        refine z_getP hC FX7 0 lk_496 dX11_given_50 (by decide) hw (fun x50 hw => ?_)
        refine z_iload_n hC dX11_given_53 rfl rfl ?_
        refine z_aldI hC dX11_given_54 hw (fun x54 hw => ?_)
        exact z_iret hC hr hlk dX11_given_55 ⟨_, rfl, hw⟩
      · have hw := hw.2 c28
        refine z_iconst hC ic_m1 dX11_given_31 ?_
        exact z_iret hC hr hlk dX11_given_32 ⟨_, rfl, hw⟩
end
