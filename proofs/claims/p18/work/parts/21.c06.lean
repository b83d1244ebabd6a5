section
variable {p : Program} {l : Launch} {e : Env} {R : Room} {s : State} {m : MethodId} {args : Array Value} {below : List Frame} {meth : Method} {c : Code} {G : hG} {B mc ms : Nat}
def w_X5_readOrderClause (tx : Nat → Nat) (q : Int32 → hS → Prop) (S : hS) (v0 : Nat) : Prop := oK S v0 5 ∧ w_X5_takeWord tx (fun x3 S => (x3 = 0 → oK S v0 5 ∧ w_X5_takeWord tx (fun x58 S => (x58 = 0 → oK S v0 5 ∧ w_X5_takeWord tx (fun x123 S => (x123 = 0 → oK S v0 5 ∧ w_X5_takeWord tx (fun x168 S => (x168 = 0 → q 0 S) ∧ (¬ x168 = 0 → gP S v0 5 0 (fun x175 => oK S x175 10 ∧ w_X10_beginClause (fun S => oK S v0 5 ∧ w_X5_readTimes tx (fun x183 S => (x183 = 0 → q 0 S) ∧ (¬ x183 = 0 → oK S v0 5 ∧ w_X5_readIf tx (fun x190 S => (x190 = 0 → q 0 S) ∧ (¬ x190 = 0 → q 1 S)) S v0)) S v0) S x175 3))) S v0 (tx 27)) ∧ (¬ x123 = 0 → gP S v0 5 0 (fun x130 => oK S x130 10 ∧ w_X10_beginClause (fun S => oK S v0 5 ∧ w_X5_readSum tx (fun x139 S => (x139 = 0 → q 0 S) ∧ (¬ x139 = 0 → oK S v0 5 ∧ w_X5_readTimes tx (fun x146 S => (x146 = 0 → q 0 S) ∧ (¬ x146 = 0 → oK S v0 5 ∧ w_X5_readIf tx (fun x153 S => (x153 = 0 → q 0 S) ∧ (¬ x153 = 0 → q 1 S)) S v0)) S v0)) S v0 0) S x130 2))) S v0 (tx 26)) ∧ (¬ x58 = 0 → gP S v0 5 0 (fun x65 => oK S x65 10 ∧ w_X10_beginClause (fun S => oK S v0 5 ∧ w_X5_readSum tx (fun x74 S => (x74 = 0 → q 0 S) ∧ (¬ x74 = 0 → oK S v0 5 ∧ w_X5_readNextSum tx (fun x84 S => (x84 = 0 → q 0 S) ∧ (¬ x84 = 0 → oK S v0 5 ∧ w_X5_readNextSum tx (fun x94 S => (x94 = 0 → q 0 S) ∧ (¬ x94 = 0 → oK S v0 5 ∧ w_X5_readTimes tx (fun x101 S => (x101 = 0 → q 0 S) ∧ (¬ x101 = 0 → oK S v0 5 ∧ w_X5_readIf tx (fun x108 S => (x108 = 0 → q 0 S) ∧ (¬ x108 = 0 → q 1 S)) S v0)) S v0)) S v0 (tx 25) 2)) S v0 (tx 12) 1)) S v0 0) S x65 1))) S v0 (tx 24)) ∧ (¬ x3 = 0 → gP S v0 5 0 (fun x10 => oK S x10 10 ∧ w_X10_beginClause (fun S => oK S v0 5 ∧ w_X5_readSum tx (fun x19 S => (x19 = 0 → q 0 S) ∧ (¬ x19 = 0 → oK S v0 5 ∧ w_X5_readNextSum tx (fun x29 S => (x29 = 0 → q 0 S) ∧ (¬ x29 = 0 → oK S v0 5 ∧ w_X5_readTimes tx (fun x36 S => (x36 = 0 → q 0 S) ∧ (¬ x36 = 0 → oK S v0 5 ∧ w_X5_readIf tx (fun x43 S => (x43 = 0 → q 0 S) ∧ (¬ x43 = 0 → q 1 S)) S v0)) S v0)) S v0 (tx 22) 1)) S v0 0) S x10 0))) S v0 (tx 21)
set_option maxRecDepth 100000 in
set_option maxHeartbeats 4000000 in
theorem c_X5_readOrderClause (l : Launch) (G : hG) (B : Nat) (S : hS) (v0 : Nat) (q : Int32 → hS → Prop) : Met l yX5_readOrderClause (hws yX5_readOrderClause cX5_readOrderClause 1 (Option.some FieldType.boolean)) ({ frames := 73, cells := 0, slots := 0, locals := 1731 }) (hPc G B S [.ref v0] (w_X5_readOrderClause G.2.2.1 q S v0)) (hQ G B (iP q)) (0) (0) (fun r => B ≤ r) := by
  refine hMet (rm := { frames := 73, cells := 0, slots := 0, locals := 1731 }) (lv := [some (.ref v0)]) (own := RX5) (fr := 73) (lo := 1731) (by decide) rfl rfl rfl (Nat.le_of_ble_eq_true rfl) rfl (fun hw p e R s m args below meth c hC hr hlk hnm => ?_)
  unfold w_X5_readOrderClause at hw
  refine z_aload_n hC dX5_readOrderClause_0 rfl rfl ?_
  refine z_ldcS hC 21 rfl dX5_readOrderClause_1 ?_
  refine z_callV (ku' := 0) (kv' := 0) (n := 1) (As := [.ref (G.2.2.1 21)]) (st := []) hC (c_X5_takeWord l G B S v0 (G.2.2.1 21) _) hw.2 hw.1 rfl lk_942 lk_944 lk_19 lk_126 lk_945 hd_X5_takeWord rfl rfl (Nat.le_of_ble_eq_true rfl) (Nat.le_of_ble_eq_true rfl) rfl (Nat.le_of_ble_eq_true rfl) dX5_readOrderClause_3 (Nat.le_refl 0) (Nat.le_refl 0) (kI (fun x3 S hw => ?_))
  refine z_if_eq (tgt := 55) hC dX5_readOrderClause_6 (by decide) (fun c6 => ?_) (fun c6 => ?_)
  · have hw := hw.1 c6
    refine z_aload_n hC dX5_readOrderClause_55 rfl rfl ?_
    refine z_ldcS hC 24 rfl dX5_readOrderClause_56 ?_
    refine z_callV (ku' := 0) (kv' := 0) (n := 1) (As := [.ref (G.2.2.1 24)]) (st := []) hC (c_X5_takeWord l G B S v0 (G.2.2.1 24) _) hw.2 hw.1 rfl lk_942 lk_944 lk_19 lk_126 lk_945 hd_X5_takeWord rfl rfl (Nat.le_of_ble_eq_true rfl) (Nat.le_of_ble_eq_true rfl) rfl (Nat.le_of_ble_eq_true rfl) dX5_readOrderClause_58 (Nat.le_refl 0) (Nat.le_refl 0) (kI (fun x58 S hw => ?_))
    refine z_if_eq (tgt := 120) hC dX5_readOrderClause_61 (by decide) (fun c61 => ?_) (fun c61 => ?_)
    · have hw := hw.1 c61
      refine z_aload_n hC dX5_readOrderClause_120 rfl rfl ?_
      refine z_ldcS hC 26 rfl dX5_readOrderClause_121 ?_
      refine z_callV (ku' := 0) (kv' := 0) (n := 1) (As := [.ref (G.2.2.1 26)]) (st := []) hC (c_X5_takeWord l G B S v0 (G.2.2.1 26) _) hw.2 hw.1 rfl lk_942 lk_944 lk_19 lk_126 lk_945 hd_X5_takeWord rfl rfl (Nat.le_of_ble_eq_true rfl) (Nat.le_of_ble_eq_true rfl) rfl (Nat.le_of_ble_eq_true rfl) dX5_readOrderClause_123 (Nat.le_refl 0) (Nat.le_refl 0) (kI (fun x123 S hw => ?_))
      refine z_if_eq (tgt := 165) hC dX5_readOrderClause_126 (by decide) (fun c126 => ?_) (fun c126 => ?_)
      · have hw := hw.1 c126
        refine z_aload_n hC dX5_readOrderClause_165 rfl rfl ?_
        refine z_ldcS hC 27 rfl dX5_readOrderClause_166 ?_
        refine z_callV (ku' := 0) (kv' := 0) (n := 1) (As := [.ref (G.2.2.1 27)]) (st := []) hC (c_X5_takeWord l G B S v0 (G.2.2.1 27) _) hw.2 hw.1 rfl lk_942 lk_944 lk_19 lk_126 lk_945 hd_X5_takeWord rfl rfl (Nat.le_of_ble_eq_true rfl) (Nat.le_of_ble_eq_true rfl) rfl (Nat.le_of_ble_eq_true rfl) dX5_readOrderClause_168 (Nat.le_refl 0) (Nat.le_refl 0) (kI (fun x168 S hw => ?_))
        refine z_if_eq (tgt := 202) hC dX5_readOrderClause_171 (by decide) (fun c171 => ?_) (fun c171 => ?_)
        · have hw := hw.1 c171
          refine z_iconst hC ic_0 dX5_readOrderClause_202 ?_
          exact z_zret hC hr hlk (hz01 (Or.inl rfl)).1 dX5_readOrderClause_203 ⟨_, rfl, hw⟩
        · have hw := hw.2 c171
          refine z_aload_n hC dX5_readOrderClause_174 rfl rfl ?_
          refine z_getP hC FX5 0 lk_378 dX5_readOrderClause_175 (by decide) hw (fun x175 hw => ?_)
          refine z_iconst hC ic_3 dX5_readOrderClause_178 ?_
          refine z_callV (ku' := 0) (kv' := 0) (n := 1) (As := [.int 3]) (st := []) hC (c_X10_beginClause l G B S x175 3 _) hw.2 hw.1 rfl lk_866 lk_867 lk_868 lk_127 lk_869 hd_X10_beginClause rfl rfl (Nat.le_of_ble_eq_true rfl) (Nat.le_of_ble_eq_true rfl) rfl (Nat.le_of_ble_eq_true rfl) dX5_readOrderClause_179 (Nat.le_refl 0) (Nat.le_refl 0) (kV (fun S hw => ?_))
          refine z_aload_n hC dX5_readOrderClause_182 rfl rfl ?_
          refine z_callV (ku' := 0) (kv' := 0) (n := 0) (As := []) (st := []) hC (c_X5_readTimes l G B S v0 _) hw.2 hw.1 rfl lk_983 lk_985 lk_27 lk_126 lk_986 hd_X5_readTimes rfl rfl (Nat.le_of_ble_eq_true rfl) (Nat.le_of_ble_eq_true rfl) rfl (Nat.le_of_ble_eq_true rfl) dX5_readOrderClause_183 (Nat.le_refl 0) (Nat.le_refl 0) (kI (fun x183 S hw => ?_))
          refine z_if_eq (tgt := 200) hC dX5_readOrderClause_186 (by decide) (fun c186 => ?_) (fun c186 => ?_)
          · have hw := hw.1 c186
            refine z_iconst hC ic_0 dX5_readOrderClause_200 ?_
            exact z_zret hC hr hlk (hz01 (Or.inl rfl)).1 dX5_readOrderClause_201 ⟨_, rfl, hw⟩
          · have hw := hw.2 c186
            refine z_aload_n hC dX5_readOrderClause_189 rfl rfl ?_
            refine z_callV (ku' := 0) (kv' := 0) (n := 0) (As := []) (st := []) hC (c_X5_readIf l G B S v0 _) hw.2 hw.1 rfl lk_931 lk_933 lk_18 lk_126 lk_934 hd_X5_readIf rfl rfl (Nat.le_of_ble_eq_true rfl) (Nat.le_of_ble_eq_true rfl) rfl (Nat.le_of_ble_eq_true rfl) dX5_readOrderClause_190 (Nat.le_refl 0) (Nat.le_refl 0) (kI (fun x190 S hw => ?_))
            refine z_if_eq (tgt := 200) hC dX5_readOrderClause_193 (by decide) (fun c193 => ?_) (fun c193 => ?_)
            · have hw := hw.1 c193
              refine z_iconst hC ic_0 dX5_readOrderClause_200 ?_
              exact z_zret hC hr hlk (hz01 (Or.inl rfl)).1 dX5_readOrderClause_201 ⟨_, rfl, hw⟩
            · have hw := hw.2 c193
              refine z_iconst hC ic_1 dX5_readOrderClause_196 ?_
              refine z_goto (tgt := 201) hC dX5_readOrderClause_197 (by decide) ?_
              exact z_zret hC hr hlk (hz01 (Or.inr rfl)).1 dX5_readOrderClause_201 ⟨_, rfl, hw⟩
      · have hw := hw.2 c126
        refine z_aload_n hC dX5_readOrderClause_129 rfl rfl ?_
        refine z_getP hC FX5 0 lk_378 dX5_readOrderClause_130 (by decide) hw (fun x130 hw => ?_)
        refine z_iconst hC ic_2 dX5_readOrderClause_133 ?_
        refine z_callV (ku' := 0) (kv' := 0) (n := 1) (As := [.int 2]) (st := []) hC (c_X10_beginClause l G B S x130 2 _) hw.2 hw.1 rfl lk_866 lk_867 lk_868 lk_127 lk_869 hd_X10_beginClause rfl rfl (Nat.le_of_ble_eq_true rfl) (Nat.le_of_ble_eq_true rfl) rfl (Nat.le_of_ble_eq_true rfl) dX5_readOrderClause_134 (Nat.le_refl 0) (Nat.le_refl 0) (kV (fun S hw => ?_))
        refine z_aload_n hC dX5_readOrderClause_137 rfl rfl ?_
        refine z_iconst hC ic_0 dX5_readOrderClause_138 ?_
        refine z_callV (ku' := 0) (kv' := 0) (n := 1) (As := [.int 0]) (st := []) hC (c_X5_readSum l G B S v0 0 _) hw.2 hw.1 rfl lk_871 lk_873 lk_9 lk_126 lk_874 hd_X5_readSum rfl rfl (Nat.le_of_ble_eq_true rfl) (Nat.le_of_ble_eq_true rfl) rfl (Nat.le_of_ble_eq_true rfl) dX5_readOrderClause_139 (Nat.le_refl 0) (Nat.le_refl 0) (kI (fun x139 S hw => ?_))
        refine z_if_eq (tgt := 163) hC dX5_readOrderClause_142 (by decide) (fun c142 => ?_) (fun c142 => ?_)
        · have hw := hw.1 c142
          refine z_iconst hC ic_0 dX5_readOrderClause_163 ?_
          exact z_zret hC hr hlk (hz01 (Or.inl rfl)).1 dX5_readOrderClause_164 ⟨_, rfl, hw⟩
        · have hw := hw.2 c142
          refine z_aload_n hC dX5_readOrderClause_145 rfl rfl ?_
          refine z_callV (ku' := 0) (kv' := 0) (n := 0) (As := []) (st := []) hC (c_X5_readTimes l G B S v0 _) hw.2 hw.1 rfl lk_983 lk_985 lk_27 lk_126 lk_986 hd_X5_readTimes rfl rfl (Nat.le_of_ble_eq_true rfl) (Nat.le_of_ble_eq_true rfl) rfl (Nat.le_of_ble_eq_true rfl) dX5_readOrderClause_146 (Nat.le_refl 0) (Nat.le_refl 0) (kI (fun x146 S hw => ?_))
          refine z_if_eq (tgt := 163) hC dX5_readOrderClause_149 (by decide) (fun c149 => ?_) (fun c149 => ?_)
          · have hw := hw.1 c149
            refine z_iconst hC ic_0 dX5_readOrderClause_163 ?_
            exact z_zret hC hr hlk (hz01 (Or.inl rfl)).1 dX5_readOrderClause_164 ⟨_, rfl, hw⟩
          · have hw := hw.2 c149
            refine z_aload_n hC dX5_readOrderClause_152 rfl rfl ?_
            refine z_callV (ku' := 0) (kv' := 0) (n := 0) (As := []) (st := []) hC (c_X5_readIf l G B S v0 _) hw.2 hw.1 rfl lk_931 lk_933 lk_18 lk_126 lk_934 hd_X5_readIf rfl rfl (Nat.le_of_ble_eq_true rfl) (Nat.le_of_ble_eq_true rfl) rfl (Nat.le_of_ble_eq_true rfl) dX5_readOrderClause_153 (Nat.le_refl 0) (Nat.le_refl 0) (kI (fun x153 S hw => ?_))
            refine z_if_eq (tgt := 163) hC dX5_readOrderClause_156 (by decide) (fun c156 => ?_) (fun c156 => ?_)
            · have hw := hw.1 c156
              refine z_iconst hC ic_0 dX5_readOrderClause_163 ?_
              exact z_zret hC hr hlk (hz01 (Or.inl rfl)).1 dX5_readOrderClause_164 ⟨_, rfl, hw⟩
            · have hw := hw.2 c156
              refine z_iconst hC ic_1 dX5_readOrderClause_159 ?_
              refine z_goto (tgt := 164) hC dX5_readOrderClause_160 (by decide) ?_
              exact z_zret hC hr hlk (hz01 (Or.inr rfl)).1 dX5_readOrderClause_164 ⟨_, rfl, hw⟩
    · have hw := hw.2 c61
      refine z_aload_n hC dX5_readOrderClause_64 rfl rfl ?_
      refine z_getP hC FX5 0 lk_378 dX5_readOrderClause_65 (by decide) hw (fun x65 hw => ?_)
      refine z_iconst hC ic_1 dX5_readOrderClause_68 ?_
      refine z_callV (ku' := 0) (kv' := 0) (n := 1) (As := [.int 1]) (st := []) hC (c_X10_beginClause l G B S x65 1 _) hw.2 hw.1 rfl lk_866 lk_867 lk_868 lk_127 lk_869 hd_X10_beginClause rfl rfl (Nat.le_of_ble_eq_true rfl) (Nat.le_of_ble_eq_true rfl) rfl (Nat.le_of_ble_eq_true rfl) dX5_readOrderClause_69 (Nat.le_refl 0) (Nat.le_refl 0) (kV (fun S hw => ?_))
      refine z_aload_n hC dX5_readOrderClause_72 rfl rfl ?_
      refine z_iconst hC ic_0 dX5_readOrderClause_73 ?_
      refine z_callV (ku' := 0) (kv' := 0) (n := 1) (As := [.int 0]) (st := []) hC (c_X5_readSum l G B S v0 0 _) hw.2 hw.1 rfl lk_871 lk_873 lk_9 lk_126 lk_874 hd_X5_readSum rfl rfl (Nat.le_of_ble_eq_true rfl) (Nat.le_of_ble_eq_true rfl) rfl (Nat.le_of_ble_eq_true rfl) dX5_readOrderClause_74 (Nat.le_refl 0) (Nat.le_refl 0) (kI (fun x74 S hw => ?_))
      refine z_if_eq (tgt := 118) hC dX5_readOrderClause_77 (by decide) (fun c77 => ?_) (fun c77 => ?_)
      · have hw := hw.1 c77
        refine z_iconst hC ic_0 dX5_readOrderClause_118 ?_
        exact z_zret hC hr hlk (hz01 (Or.inl rfl)).1 dX5_readOrderClause_119 ⟨_, rfl, hw⟩
      · have hw := hw.2 c77
        refine z_aload_n hC dX5_readOrderClause_80 rfl rfl ?_
        refine z_ldcS hC 12 rfl dX5_readOrderClause_81 ?_
        refine z_iconst hC ic_1 dX5_readOrderClause_83 ?_
        refine z_callV (ku' := 0) (kv' := 0) (n := 2) (As := [.ref (G.2.2.1 12), .int 1]) (st := []) hC (c_X5_readNextSum l G B S v0 (G.2.2.1 12) 1 _) hw.2 hw.1 rfl lk_979 lk_981 lk_26 lk_126 lk_982 hd_X5_readNextSum rfl rfl (Nat.le_of_ble_eq_true rfl) (Nat.le_of_ble_eq_true rfl) rfl (Nat.le_of_ble_eq_true rfl) dX5_readOrderClause_84 (Nat.le_refl 0) (Nat.le_refl 0) (kI (fun x84 S hw => ?_))
        refine z_if_eq (tgt := 118) hC dX5_readOrderClause_87 (by decide) (fun c87 => ?_) (fun c87 => ?_)
        · have hw := hw.1 c87
          refine z_iconst hC ic_0 dX5_readOrderClause_118 ?_
          exact z_zret hC hr hlk (hz01 (Or.inl rfl)).1 dX5_readOrderClause_119 ⟨_, rfl, hw⟩
        · have hw := hw.2 c87
          refine z_aload_n hC dX5_readOrderClause_90 rfl rfl ?_
          refine z_ldcS hC 25 rfl dX5_readOrderClause_91 ?_
          refine z_iconst hC ic_2 dX5_readOrderClause_93 ?_
          refine z_callV (ku' := 0) (kv' := 0) (n := 2) (As := [.ref (G.2.2.1 25), .int 2]) (st := []) hC (c_X5_readNextSum l G B S v0 (G.2.2.1 25) 2 _) hw.2 hw.1 rfl lk_979 lk_981 lk_26 lk_126 lk_982 hd_X5_readNextSum rfl rfl (Nat.le_of_ble_eq_true rfl) (Nat.le_of_ble_eq_true rfl) rfl (Nat.le_of_ble_eq_true rfl) dX5_readOrderClause_94 (Nat.le_refl 0) (Nat.le_refl 0) (kI (fun x94 S hw => ?_))
          refine z_if_eq (tgt := 118) hC dX5_readOrderClause_97 (by decide) (fun c97 => ?_) (fun c97 => ?_)
          · have hw := hw.1 c97
            refine z_iconst hC ic_0 dX5_readOrderClause_118 ?_
            exact z_zret hC hr hlk (hz01 (Or.inl rfl)).1 dX5_readOrderClause_119 ⟨_, rfl, hw⟩
          · have hw := hw.2 c97
            refine z_aload_n hC dX5_readOrderClause_100 rfl rfl ?_
            refine z_callV (ku' := 0) (kv' := 0) (n := 0) (As := []) (st := []) hC (c_X5_readTimes l G B S v0 _) hw.2 hw.1 rfl lk_983 lk_985 lk_27 lk_126 lk_986 hd_X5_readTimes rfl rfl (Nat.le_of_ble_eq_true rfl) (Nat.le_of_ble_eq_true rfl) rfl (Nat.le_of_ble_eq_true rfl) dX5_readOrderClause_101 (Nat.le_refl 0) (Nat.le_refl 0) (kI (fun x101 S hw => ?_))
            refine z_if_eq (tgt := 118) hC dX5_readOrderClause_104 (by decide) (fun c104 => ?_) (fun c104 => ?_)
            · have hw := hw.1 c104
              refine z_iconst hC ic_0 dX5_readOrderClause_118 ?_
              exact z_zret hC hr hlk (hz01 (Or.inl rfl)).1 dX5_readOrderClause_119 ⟨_, rfl, hw⟩
            · have hw := hw.2 c104
              refine z_aload_n hC dX5_readOrderClause_107 rfl rfl ?_
              refine z_callV (ku' := 0) (kv' := 0) (n := 0) (As := []) (st := []) hC (c_X5_readIf l G B S v0 _) hw.2 hw.1 rfl lk_931 lk_933 lk_18 lk_126 lk_934 hd_X5_readIf rfl rfl (Nat.le_of_ble_eq_true rfl) (Nat.le_of_ble_eq_true rfl) rfl (Nat.le_of_ble_eq_true rfl) dX5_readOrderClause_108 (Nat.le_refl 0) (Nat.le_refl 0) (kI (fun x108 S hw => ?_))
              refine z_if_eq (tgt := 118) hC dX5_readOrderClause_111 (by decide) (fun c111 => ?_) (fun c111 => ?_)
              · have hw := hw.1 c111
                refine z_iconst hC ic_0 dX5_readOrderClause_118 ?_
                exact z_zret hC hr hlk (hz01 (Or.inl rfl)).1 dX5_readOrderClause_119 ⟨_, rfl, hw⟩
              · have hw := hw.2 c111
                refine z_iconst hC ic_1 dX5_readOrderClause_114 ?_
                refine z_goto (tgt := 119) hC dX5_readOrderClause_115 (by decide) ?_
                exact z_zret hC hr hlk (hz01 (Or.inr rfl)).1 dX5_readOrderClause_119 ⟨_, rfl, hw⟩
  · have hw := hw.2 c6
    refine z_aload_n hC dX5_readOrderClause_9 rfl rfl ?_
    refine z_getP hC FX5 0 lk_378 dX5_readOrderClause_10 (by decide) hw (fun x10 hw => ?_)
    refine z_iconst hC ic_0 dX5_readOrderClause_13 ?_
    refine z_callV (ku' := 0) (kv' := 0) (n := 1) (As := [.int 0]) (st := []) hC (c_X10_beginClause l G B S x10 0 _) hw.2 hw.1 rfl lk_866 lk_867 lk_868 lk_127 lk_869 hd_X10_beginClause rfl rfl (Nat.le_of_ble_eq_true rfl) (Nat.le_of_ble_eq_true rfl) rfl (Nat.le_of_ble_eq_true rfl) dX5_readOrderClause_14 (Nat.le_refl 0) (Nat.le_refl 0) (kV (fun S hw => ?_))
    refine z_aload_n hC dX5_readOrderClause_17 rfl rfl ?_
    refine z_iconst hC ic_0 dX5_readOrderClause_18 ?_
    refine z_callV (ku' := 0) (kv' := 0) (n := 1) (As := [.int 0]) (st := []) hC (c_X5_readSum l G B S v0 0 _) hw.2 hw.1 rfl lk_871 lk_873 lk_9 lk_126 lk_874 hd_X5_readSum rfl rfl (Nat.le_of_ble_eq_true rfl) (Nat.le_of_ble_eq_true rfl) rfl (Nat.le_of_ble_eq_true rfl) dX5_readOrderClause_19 (Nat.le_refl 0) (Nat.le_refl 0) (kI (fun x19 S hw => ?_))
    refine z_if_eq (tgt := 53) hC dX5_readOrderClause_22 (by decide) (fun c22 => ?_) (fun c22 => ?_)
    · have hw := hw.1 c22
      refine z_iconst hC ic_0 dX5_readOrderClause_53 ?_
      exact z_zret hC hr hlk (hz01 (Or.inl rfl)).1 dX5_readOrderClause_54 ⟨_, rfl, hw⟩
    · have hw := hw.2 c22
      refine z_aload_n hC dX5_readOrderClause_25 rfl rfl ?_
      refine z_ldcS hC 22 rfl dX5_readOrderClause_26 ?_
      refine z_iconst hC ic_1 dX5_readOrderClause_28 ?_
      refine z_callV (ku' := 0) (kv' := 0) (n := 2) (As := [.ref (G.2.2.1 22), .int 1]) (st := []) hC (c_X5_readNextSum l G B S v0 (G.2.2.1 22) 1 _) hw.2 hw.1 rfl lk_979 lk_981 lk_26 lk_126 lk_982 hd_X5_readNextSum rfl rfl (Nat.le_of_ble_eq_true rfl) (Nat.le_of_ble_eq_true rfl) rfl (Nat.le_of_ble_eq_true rfl) dX5_readOrderClause_29 (Nat.le_refl 0) (Nat.le_refl 0) (kI (fun x29 S hw => ?_))
      refine z_if_eq (tgt := 53) hC dX5_readOrderClause_32 (by decide) (fun c32 => ?_) (fun c32 => ?_)
      · have hw := hw.1 c32
        refine z_iconst hC ic_0 dX5_readOrderClause_53 ?_
        exact z_zret hC hr hlk (hz01 (Or.inl rfl)).1 dX5_readOrderClause_54 ⟨_, rfl, hw⟩
      · have hw := hw.2 c32
        refine z_aload_n hC dX5_readOrderClause_35 rfl rfl ?_
        refine z_callV (ku' := 0) (kv' := 0) (n := 0) (As := []) (st := []) hC (c_X5_readTimes l G B S v0 _) hw.2 hw.1 rfl lk_983 lk_985 lk_27 lk_126 lk_986 hd_X5_readTimes rfl rfl (Nat.le_of_ble_eq_true rfl) (Nat.le_of_ble_eq_true rfl) rfl (Nat.le_of_ble_eq_true rfl) dX5_readOrderClause_36 (Nat.le_refl 0) (Nat.le_refl 0) (kI (fun x36 S hw => ?_))
        refine z_if_eq (tgt := 53) hC dX5_readOrderClause_39 (by decide) (fun c39 => ?_) (fun c39 => ?_)
        · have hw := hw.1 c39
          refine z_iconst hC ic_0 dX5_readOrderClause_53 ?_
          exact z_zret hC hr hlk (hz01 (Or.inl rfl)).1 dX5_readOrderClause_54 ⟨_, rfl, hw⟩
        · have hw := hw.2 c39
          refine z_aload_n hC dX5_readOrderClause_42 rfl rfl ?_
          refine z_callV (ku' := 0) (kv' := 0) (n := 0) (As := []) (st := []) hC (c_X5_readIf l G B S v0 _) hw.2 hw.1 rfl lk_931 lk_933 lk_18 lk_126 lk_934 hd_X5_readIf rfl rfl (Nat.le_of_ble_eq_true rfl) (Nat.le_of_ble_eq_true rfl) rfl (Nat.le_of_ble_eq_true rfl) dX5_readOrderClause_43 (Nat.le_refl 0) (Nat.le_refl 0) (kI (fun x43 S hw => ?_))
          refine z_if_eq (tgt := 53) hC dX5_readOrderClause_46 (by decide) (fun c46 => ?_) (fun c46 => ?_)
          · have hw := hw.1 c46
            refine z_iconst hC ic_0 dX5_readOrderClause_53 ?_
            exact z_zret hC hr hlk (hz01 (Or.inl rfl)).1 dX5_readOrderClause_54 ⟨_, rfl, hw⟩
          · have hw := hw.2 c46
            refine z_iconst hC ic_1 dX5_readOrderClause_49 ?_
            refine z_goto (tgt := 54) hC dX5_readOrderClause_50 (by decide) ?_
            exact z_zret hC hr hlk (hz01 (Or.inr rfl)).1 dX5_readOrderClause_54 ⟨_, rfl, hw⟩
end
section
variable {p : Program} {l : Launch} {e : Env} {R : Room} {s : State} {m : MethodId} {args : Array Value} {below : List Frame} {meth : Method} {c : Code} {G : hG} {B mc ms : Nat}
def w_X5_read_b67 (tx : Nat → Nat) (q : Int32 → hS → Prop) (K26 : hS → (Nat) → (Int32) → Prop) (S : hS) (v0 : Nat) (v2 : Int32) (v3 : Int32) : Prop := (v3 = 0 → gP S v0 5 1 (fun x81 => gI S x81 9 3 (fun x84 => q x84 S))) ∧ (¬ v3 = 0 → oK S v0 5 ∧ w_X5_takeSign (fun x74 S => (¬ x74 = 0 → ∀ y88 : Int32, y88 = v2 + 1 → K26 S v0 y88) ∧ (x74 = 0 → gP S v0 5 1 (fun x81 => gI S x81 9 3 (fun x84 => q x84 S)))) S v0 59)
set_option maxRecDepth 100000 in
set_option maxHeartbeats 4000000 in
theorem t_X5_read_b67 (hC : zC p R s m args c cX5_read 4 RX5 G B mc ms 74 1751) (hr : meth.sig.returnType = (Option.some FieldType.int)) (hlk : meth.locks = false) (hnm : meth.name = "read") {q : Int32 → hS → Prop} {K26 : hS → (Nat) → (Int32) → Prop} (hK26 : ∀ {S : hS} {v0 : Nat} {v2 : Int32}, K26 S v0 v2 → Z p l e R s m args below meth c (MQ below (hQ G B (iP q)) args s mc ms (fun r => B ≤ r)) G B mc ms 4 S 0 0 26 [some (.ref v0), none, some (.int v2), none] []) {S : hS} {v0 : Nat} {v2 : Int32} {v3 : Int32} (hw : w_X5_read_b67 G.2.2.1 q K26 S v0 v2 v3) : Z p l e R s m args below meth c (MQ below (hQ G B (iP q)) args s mc ms (fun r => B ≤ r)) G B mc ms 4 S 0 0 67 [some (.ref v0), none, some (.int v2), some (.int v3)] [] := by
  unfold w_X5_read_b67 at hw
  refine z_iload_n hC dX5_read_67 rfl rfl ?_
  refine z_if_eq (tgt := 80) hC dX5_read_68 (by decide) (fun c68 => ?_) (fun c68 => ?_)
  · have hw := hw.1 c68
    refine z_aload_n hC dX5_read_80 rfl rfl ?_
    refine z_getP hC FX5 1 lk_380 dX5_read_81 (by decide) hw (fun x81 hw => ?_)
    refine z_getI hC FX9 3 lk_318 dX5_read_84 (by decide) hw (fun x84 hw => ?_)
    exact z_iret hC hr hlk dX5_read_87 ⟨_, rfl, hw⟩
  · have hw := hw.2 c68
    refine z_aload_n hC dX5_read_71 rfl rfl ?_
    refine z_bipush hC bi_59 dX5_read_72 ?_
    refine z_callV (ku' := 0) (kv' := 0) (n := 1) (As := [.int 59]) (st := []) hC (c_X5_takeSign l G B S v0 59 _) hw.2 hw.1 rfl lk_887 lk_889 lk_12 lk_126 lk_890 hd_X5_takeSign rfl rfl (Nat.le_of_ble_eq_true rfl) (Nat.le_of_ble_eq_true rfl) rfl (Nat.le_of_ble_eq_true rfl) dX5_read_74 (Nat.le_refl 0) (Nat.le_refl 0) (kI (fun x74 S hw => ?_))
    refine z_if_ne (tgt := 88) hC dX5_read_77 (by decide) (fun c77 => ?_) (fun c77 => ?_)
    · have hw := hw.1 c77
      refine z_inc (i := 2) hC ic_1 dX5_read_88 rfl (by decide) (hok_n rfl) (fun y88 e88 => ?_)
      have hw := hw y88 e88
      refine z_goto (tgt := 26) hC dX5_read_91 (by decide) ?_
      refine z_mask (lv' := [some (.ref v0), none, some (.int y88), none]) [true, false, true, false] rfl ?_
      exact hK26 hw
    · have hw := hw.2 c77
      refine z_aload_n hC dX5_read_80 rfl rfl ?_
      refine z_getP hC FX5 1 lk_380 dX5_read_81 (by decide) hw (fun x81 hw => ?_)
      refine z_getI hC FX9 3 lk_318 dX5_read_84 (by decide) hw (fun x84 hw => ?_)
      exact z_iret hC hr hlk dX5_read_87 ⟨_, rfl, hw⟩
def w_X5_read_b50 (tx : Nat → Nat) (q : Int32 → hS → Prop) (K26 : hS → (Nat) → (Int32) → Prop) (S : hS) (v0 : Nat) (v2 : Int32) (t0 : Int32) : Prop := (t0 = 0 → w_X5_read_b67 tx q K26 S v0 v2 t0) ∧ (¬ t0 = 0 → gP S v0 5 1 (fun x56 => gI S x56 9 2 (fun x59 => (¬ x59 = 0 → w_X5_read_b67 tx q K26 S v0 v2 t0) ∧ (x59 = 0 → q (-1) S))))
set_option maxRecDepth 100000 in
set_option maxHeartbeats 4000000 in
theorem t_X5_read_b50 (hC : zC p R s m args c cX5_read 4 RX5 G B mc ms 74 1751) (hr : meth.sig.returnType = (Option.some FieldType.int)) (hlk : meth.locks = false) (hnm : meth.name = "read") {q : Int32 → hS → Prop} {K26 : hS → (Nat) → (Int32) → Prop} (hK26 : ∀ {S : hS} {v0 : Nat} {v2 : Int32}, K26 S v0 v2 → Z p l e R s m args below meth c (MQ below (hQ G B (iP q)) args s mc ms (fun r => B ≤ r)) G B mc ms 4 S 0 0 26 [some (.ref v0), none, some (.int v2), none] []) {S : hS} {v0 : Nat} {v2 : Int32} {t0 : Int32} (hw : w_X5_read_b50 G.2.2.1 q K26 S v0 v2 t0) : Z p l e R s m args below meth c (MQ below (hQ G B (iP q)) args s mc ms (fun r => B ≤ r)) G B mc ms 4 S 0 0 50 [some (.ref v0), none, some (.int v2), none] [.int t0] := by
  unfold w_X5_read_b50 at hw
  refine z_istore_n (i := 3) (lv' := [some (.ref v0), none, some (.int v2), some (.int t0)]) hC rfl dX5_read_50 (by decide) (hok_v rfl rfl) rfl ?_
  refine z_iload_n hC dX5_read_51 rfl rfl ?_
  refine z_if_eq (tgt := 67) hC dX5_read_52 (by decide) (fun c52 => ?_) (fun c52 => ?_)
  · have hw := hw.1 c52
    refine z_mask (lv' := [some (.ref v0), none, some (.int v2), some (.int t0)]) [true, false, true, true] rfl ?_
    exact t_X5_read_b67 hC hr hlk hnm hK26 hw
  · have hw := hw.2 c52
    refine z_aload_n hC dX5_read_55 rfl rfl ?_
    refine z_getP hC FX5 1 lk_380 dX5_read_56 (by decide) hw (fun x56 hw => ?_)
    refine z_getI hC FX9 2 lk_316 dX5_read_59 (by decide) hw (fun x59 hw => ?_)
    refine z_if_ne (tgt := 67) hC dX5_read_62 (by decide) (fun c62 => ?_) (fun c62 => ?_)
    · have hw := hw.1 c62
      refine z_mask (lv' := [some (.ref v0), none, some (.int v2), some (.int t0)]) [true, false, true, true] rfl ?_
      exact t_X5_read_b67 hC hr hlk hnm hK26 hw
    · have hw := hw.2 c62
      refine z_iconst hC ic_m1 dX5_read_65 ?_
      exact z_iret hC hr hlk dX5_read_66 ⟨_, rfl, hw⟩
def w_X5_read_b26 (tx : Nat → Nat) (q : Int32 → hS → Prop) : Nat → hS → (Nat) → (Int32) → Prop
  | 0, _, _, _ => False
  | n + 1, S, v0, v2 => (12 ≤ v2 → gP S v0 5 1 (fun x95 => gI S x95 9 3 (fun x98 => q x98 S))) ∧ (¬ 12 ≤ v2 → gI S v0 5 2 (fun x33 => (x33 = 0 → oK S v0 5 ∧ w_X5_readOrderClause tx (fun x47 S => w_X5_read_b50 tx q (fun S v0 v2 => w_X5_read_b26 tx q n S v0 v2) S v0 v2 x47) S v0) ∧ (¬ x33 = 0 → oK S v0 5 ∧ w_X5_readLawClause tx (fun x40 S => w_X5_read_b50 tx q (fun S v0 v2 => w_X5_read_b26 tx q n S v0 v2) S v0 v2 x40) S v0)))
set_option maxRecDepth 100000 in
set_option maxHeartbeats 4000000 in
theorem t_X5_read_b26 (hC : zC p R s m args c cX5_read 4 RX5 G B mc ms 74 1751) (hr : meth.sig.returnType = (Option.some FieldType.int)) (hlk : meth.locks = false) (hnm : meth.name = "read") {q : Int32 → hS → Prop} (n : Nat) : ∀ {S : hS} {v0 : Nat} {v2 : Int32} (hw : w_X5_read_b26 G.2.2.1 q n S v0 v2), Z p l e R s m args below meth c (MQ below (hQ G B (iP q)) args s mc ms (fun r => B ≤ r)) G B mc ms 4 S 0 0 26 [some (.ref v0), none, some (.int v2), none] [] := by
  induction n with
  | zero => intro S v0 v2 hw; exact (by rw [w_X5_read_b26] at hw; exact hw.elim)
  | succ n ih =>
    intro S v0 v2 hw
    rw [w_X5_read_b26] at hw
    refine z_iload_n hC dX5_read_26 rfl rfl ?_
    refine z_bipush hC bi_12 dX5_read_27 ?_
    refine z_icmp_ge (tgt := 94) hC dX5_read_29 (by decide) (fun c29 => ?_) (fun c29 => ?_)
    · have hw := hw.1 c29
      refine z_aload_n hC dX5_read_94 rfl rfl ?_
      refine z_getP hC FX5 1 lk_380 dX5_read_95 (by decide) hw (fun x95 hw => ?_)
      refine z_getI hC FX9 3 lk_318 dX5_read_98 (by decide) hw (fun x98 hw => ?_)
      exact z_iret hC hr hlk dX5_read_101 ⟨_, rfl, hw⟩
    · have hw := hw.2 c29
      refine z_aload_n hC dX5_read_32 rfl rfl ?_
      refine z_getI hC FX5 2 lk_381 dX5_read_33 (by decide) hw (fun x33 hw => ?_)
      refine z_if_eq (tgt := 46) hC dX5_read_36 (by decide) (fun c36 => ?_) (fun c36 => ?_)
      · have hw := hw.1 c36
        refine z_aload_n hC dX5_read_46 rfl rfl ?_
        refine z_callV (ku' := 0) (kv' := 0) (n := 0) (As := []) (st := []) hC (c_X5_readOrderClause l G B S v0 _) hw.2 hw.1 rfl lk_973 lk_975 lk_25 lk_126 lk_976 hd_X5_readOrderClause rfl rfl (Nat.le_of_ble_eq_true rfl) (Nat.le_of_ble_eq_true rfl) rfl (Nat.le_of_ble_eq_true rfl) dX5_read_47 (Nat.le_refl 0) (Nat.le_refl 0) (kI (fun x47 S hw => ?_))
        refine z_mask (lv' := [some (.ref v0), none, some (.int v2), none]) [true, false, true, false] rfl ?_
        exact t_X5_read_b50 hC hr hlk hnm (fun hw => ih hw) hw
      · have hw := hw.2 c36
        refine z_aload_n hC dX5_read_39 rfl rfl ?_
        refine z_callV (ku' := 0) (kv' := 0) (n := 0) (As := []) (st := []) hC (c_X5_readLawClause l G B S v0 _) hw.2 hw.1 rfl lk_801 lk_803 lk_7 lk_126 lk_804 hd_X5_readLawClause rfl rfl (Nat.le_of_ble_eq_true rfl) (Nat.le_of_ble_eq_true rfl) rfl (Nat.le_of_ble_eq_true rfl) dX5_read_40 (Nat.le_refl 0) (Nat.le_refl 0) (kI (fun x40 S hw => ?_))
        refine z_goto (tgt := 50) hC dX5_read_43 (by decide) ?_
        refine z_mask (lv' := [some (.ref v0), none, some (.int v2), none]) [true, false, true, false] rfl ?_
        exact t_X5_read_b50 hC hr hlk hnm (fun hw => ih hw) hw
def w_X5_read (tx : Nat → Nat) (q : Int32 → hS → Prop) (S : hS) (v0 : Nat) (v1 : Int32) : Prop := pZ S v0 5 2 v1 (fun S => pI S v0 5 3 0 (fun S => gP S v0 5 0 (fun x11 => oK S x11 10 ∧ w_X10_empty (fun S => gP S v0 5 1 (fun x18 => oK S x18 9 ∧ w_X9_rewind (fun S => (∃ n26 : Nat, w_X5_read_b26 tx q n26 S v0 0)) S x18)) S x11)))
set_option maxRecDepth 100000 in
set_option maxHeartbeats 4000000 in
theorem c_X5_read (l : Launch) (G : hG) (B : Nat) (S : hS) (v0 : Nat) (v1 : Int32) (q : Int32 → hS → Prop) : Met l yX5_read (hws yX5_read cX5_read 4 (Option.some FieldType.int)) ({ frames := 74, cells := 0, slots := 0, locals := 1751 }) (hPc G B S [.ref v0, .int v1] (w_X5_read G.2.2.1 q S v0 v1)) (hQ G B (iP q)) (0) (0) (fun r => B ≤ r) := by
  refine hMet (rm := { frames := 74, cells := 0, slots := 0, locals := 1751 }) (lv := [some (.ref v0), some (.int v1), none, none]) (own := RX5) (fr := 74) (lo := 1751) (by decide) rfl rfl rfl (Nat.le_of_ble_eq_true rfl) rfl (fun hw p e R s m args below meth c hC hr hlk hnm => ?_)
  unfold w_X5_read at hw
  refine z_aload_n hC dX5_read_0 rfl rfl ?_
  refine z_iload_n hC dX5_read_1 rfl rfl ?_
  refine z_putZ hC FX5 2 lk_381 dX5_read_2 (by decide) rfl rfl hw (fun S hw => ?_)
  refine z_aload_n hC dX5_read_5 rfl rfl ?_
  refine z_iconst hC ic_0 dX5_read_6 ?_
  refine z_putI hC FX5 3 lk_382 dX5_read_7 (by decide) rfl rfl hw (fun S hw => ?_)
  refine z_aload_n hC dX5_read_10 rfl rfl ?_
  refine z_getP hC FX5 0 lk_378 dX5_read_11 (by decide) hw (fun x11 hw => ?_)
  refine z_callV (ku' := 0) (kv' := 0) (n := 0) (As := []) (st := []) hC (c_X10_empty l G B S x11 _) hw.2 hw.1 rfl lk_782 lk_783 lk_784 lk_127 lk_785 hd_X10_empty rfl rfl (Nat.le_of_ble_eq_true rfl) (Nat.le_of_ble_eq_true rfl) rfl (Nat.le_of_ble_eq_true rfl) dX5_read_14 (Nat.le_refl 0) (Nat.le_refl 0) (kV (fun S hw => ?_))
  refine z_aload_n hC dX5_read_17 rfl rfl ?_
  refine z_getP hC FX5 1 lk_380 dX5_read_18 (by decide) hw (fun x18 hw => ?_)
  refine z_callV (ku' := 0) (kv' := 0) (n := 0) (As := []) (st := []) hC (c_X9_rewind l G B S x18 _) hw.2 hw.1 rfl lk_786 lk_787 lk_788 lk_125 lk_789 hd_X9_rewind rfl rfl (Nat.le_of_ble_eq_true rfl) (Nat.le_of_ble_eq_true rfl) rfl (Nat.le_of_ble_eq_true rfl) dX5_read_21 (Nat.le_refl 0) (Nat.le_refl 0) (kV (fun S hw => ?_))
  refine z_iconst hC ic_0 dX5_read_24 ?_
  refine z_istore_n (i := 2) (lv' := [some (.ref v0), some (.int v1), some (.int 0), none]) hC rfl dX5_read_25 (by decide) (hok_v rfl rfl) rfl ?_
  refine z_mask (lv' := [some (.ref v0), none, some (.int 0), none]) [true, false, true, false] rfl ?_
  obtain ⟨n26, hw⟩ := hw
  exact t_X5_read_b26 hC hr hlk hnm n26 hw
end
section
variable {p : Program} {l : Launch} {e : Env} {R : Room} {s : State} {m : MethodId} {args : Array Value} {below : List Frame} {meth : Method} {c : Code} {G : hG} {B mc ms : Nat}
def w_X7_init (q : hS → Prop) (S : hS) (v0 : Nat) : Prop := mkI S 8 8 (fun S o7 => pP S v0 7 0 o7 (fun S => mkI S 8 8 (fun S o15 => pP S v0 7 1 o15 (fun S => mkI S 8 8 (fun S o23 => pP S v0 7 2 o23 (fun S => mkI S 189 189 (fun S o32 => pP S v0 7 3 o32 (fun S => mkJ S 21 21 (fun S o40 => pP S v0 7 4 o40 (fun S => q S))))))))))
set_option maxRecDepth 100000 in
set_option maxHeartbeats 4000000 in
theorem c_X7_init (l : Launch) (G : hG) (B : Nat) (S : hS) (v0 : Nat) (q : hS → Prop) : Met l yX7_init (hws yX7_init cX7_init 1 (Option.none : Option FieldType)) ({ frames := 1, cells := 5, slots := 234, locals := 60 }) (hPc G B S [.ref v0] (w_X7_init q S v0)) (hQ G B (vP q)) (5) (234) (fun r => B ≤ r) := by
  refine hMet (rm := { frames := 1, cells := 5, slots := 234, locals := 60 }) (lv := [some (.ref v0)]) (own := RX7) (fr := 1) (lo := 60) (by decide) rfl rfl rfl (Nat.le_of_ble_eq_true rfl) rfl (fun hw p e R s m args below meth c hC hr hlk hnm => ?_)
  unfold w_X7_init at hw
  refine z_less (ku' := 5) (kv' := 234) (Nat.le_refl _) (Nat.le_refl _) ?_
  refine z_aload_n hC dX7_init_0 rfl rfl ?_
  refine z_obj hC lk_494 lk_147 lk_148 dX7_init_1 (by decide) (Nat.le_of_ble_eq_true rfl) ?_
  refine z_aload_n hC dX7_init_4 rfl rfl ?_
  refine z_bipush hC bi_8 dX7_init_5 ?_
  refine z_mkI (cap := 8) (ku' := 4) (kv' := 226) hC lk_198 dX7_init_7 (by decide) (by decide) (by decide) hw (fun S o7 hw => ?_)
  refine z_putPF hC FX7 0 lk_495 dX7_init_9 (by decide) rfl hnm rfl rfl rfl hw (fun S hw => ?_)
  refine z_aload_n hC dX7_init_12 rfl rfl ?_
  refine z_bipush hC bi_8 dX7_init_13 ?_
  refine z_mkI (cap := 8) (ku' := 3) (kv' := 218) hC lk_198 dX7_init_15 (by decide) (by decide) (by decide) hw (fun S o15 hw => ?_)
  refine z_putPF hC FX7 1 lk_497 dX7_init_17 (by decide) rfl hnm rfl rfl rfl hw (fun S hw => ?_)
  refine z_aload_n hC dX7_init_20 rfl rfl ?_
  refine z_bipush hC bi_8 dX7_init_21 ?_
  refine z_mkI (cap := 8) (ku' := 2) (kv' := 210) hC lk_198 dX7_init_23 (by decide) (by decide) (by decide) hw (fun S o23 hw => ?_)
  refine z_putPF hC FX7 2 lk_499 dX7_init_25 (by decide) rfl hnm rfl rfl rfl hw (fun S hw => ?_)
  refine z_aload_n hC dX7_init_28 rfl rfl ?_
  refine z_sipush hC si_189 dX7_init_29 ?_
  refine z_mkI (cap := 189) (ku' := 1) (kv' := 21) hC lk_198 dX7_init_32 (by decide) (by decide) (by decide) hw (fun S o32 hw => ?_)
  refine z_putPF hC FX7 3 lk_501 dX7_init_34 (by decide) rfl hnm rfl rfl rfl hw (fun S hw => ?_)
  refine z_aload_n hC dX7_init_37 rfl rfl ?_
  refine z_bipush hC bi_21 dX7_init_38 ?_
  refine z_mkJ (cap := 21) (ku' := 0) (kv' := 0) hC lk_514 dX7_init_40 (by decide) (by decide) (by decide) hw (fun S o40 hw => ?_)
  refine z_putPF hC FX7 4 lk_502 dX7_init_42 (by decide) rfl hnm rfl rfl rfl hw (fun S hw => ?_)
  exact z_vret hC hr hlk dX7_init_45 ⟨rfl, hw⟩
end
section
variable {p : Program} {l : Launch} {e : Env} {R : Room} {s : State} {m : MethodId} {args : Array Value} {below : List Frame} {meth : Method} {c : Code} {G : hG} {B mc ms : Nat}
def w_X7_struckOut_b75 (q : Int32 → hS → Prop) (K32 : hS → (Nat) → (Int32) → (Int32) → (Int32) → (Int32) → Prop) (K43 : hS → (Nat) → (Int32) → (Int32) → (Int32) → (Int32) → (Int32) → (Int32) → Prop) (S : hS) (v1 : Nat) (v2 : Int32) (v3 : Int32) (v4 : Int32) (v5 : Int32) (v7 : Int32) (t0 : Int32) (t1 : Int32) : Prop := ∀ y76 : Int32, y76 = (t1 + t0) → ∀ y78 : Int32, y78 = v7 + 1 → K43 S v1 v2 v3 v4 v5 y76 y78
set_option maxRecDepth 100000 in
set_option maxHeartbeats 4000000 in
theorem t_X7_struckOut_b75 (hC : zC p R s m args c cX7_struckOut 8 RX7 G B mc ms 3 103) (hr : meth.sig.returnType = (Option.some FieldType.int)) (hlk : meth.locks = false) (hnm : meth.name = "struckOut") {q : Int32 → hS → Prop} {K32 : hS → (Nat) → (Int32) → (Int32) → (Int32) → (Int32) → Prop} (hK32 : ∀ {S : hS} {v1 : Nat} {v2 : Int32} {v3 : Int32} {v4 : Int32} {v5 : Int32}, K32 S v1 v2 v3 v4 v5 → Z p l e R s m args below meth c (MQ below (hQ G B (iP q)) args s mc ms (fun r => B ≤ r)) G B mc ms 8 S 0 0 32 [none, some (.ref v1), some (.int v2), some (.int v3), some (.int v4), some (.int v5), none, none] []) {K43 : hS → (Nat) → (Int32) → (Int32) → (Int32) → (Int32) → (Int32) → (Int32) → Prop} (hK43 : ∀ {S : hS} {v1 : Nat} {v2 : Int32} {v3 : Int32} {v4 : Int32} {v5 : Int32} {v6 : Int32} {v7 : Int32}, K43 S v1 v2 v3 v4 v5 v6 v7 → Z p l e R s m args below meth c (MQ below (hQ G B (iP q)) args s mc ms (fun r => B ≤ r)) G B mc ms 8 S 0 0 43 [none, some (.ref v1), some (.int v2), some (.int v3), some (.int v4), some (.int v5), some (.int v6), some (.int v7)] []) {S : hS} {v1 : Nat} {v2 : Int32} {v3 : Int32} {v4 : Int32} {v5 : Int32} {v7 : Int32} {t0 : Int32} {t1 : Int32} (hw : w_X7_struckOut_b75 q K32 K43 S v1 v2 v3 v4 v5 v7 t0 t1) : Z p l e R s m args below meth c (MQ below (hQ G B (iP q)) args s mc ms (fun r => B ≤ r)) G B mc ms 8 S 0 0 75 [none, some (.ref v1), some (.int v2), some (.int v3), some (.int v4), some (.int v5), none, some (.int v7)] [.int t0, .int t1] := by
  unfold w_X7_struckOut_b75 at hw
  refine z_iadd hC dX7_struckOut_75 ?_
  refine z_nmI (fun y76 e76 => ?_)
  have hw := hw y76 e76
  refine z_istore (i := 6) (lv' := [none, some (.ref v1), some (.int v2), some (.int v3), some (.int v4), some (.int v5), some (.int y76), some (.int v7)]) hC dX7_struckOut_76 (by decide) (hok_v rfl rfl) rfl ?_
  refine z_inc (i := 7) hC ic_1 dX7_struckOut_78 rfl (by decide) (hok_v rfl rfl) (fun y78 e78 => ?_)
  have hw := hw y78 e78
  refine z_goto (tgt := 43) hC dX7_struckOut_81 (by decide) ?_
  refine z_mask (lv' := [none, some (.ref v1), some (.int v2), some (.int v3), some (.int v4), some (.int v5), some (.int y76), some (.int y78)]) [false, true, true, true, true, true, true, true] rfl ?_
  exact hK43 hw
def w_X7_struckOut_b106 (q : Int32 → hS → Prop) (K32 : hS → (Nat) → (Int32) → (Int32) → (Int32) → (Int32) → Prop) (S : hS) (v1 : Nat) (v2 : Int32) (v3 : Int32) (v4 : Int32) (v5 : Int32) : Prop := ∀ y106 : Int32, y106 = v5 + (-1) → K32 S v1 v2 v3 v4 y106
set_option maxRecDepth 100000 in
set_option maxHeartbeats 4000000 in
theorem t_X7_struckOut_b106 (hC : zC p R s m args c cX7_struckOut 8 RX7 G B mc ms 3 103) (hr : meth.sig.returnType = (Option.some FieldType.int)) (hlk : meth.locks = false) (hnm : meth.name = "struckOut") {q : Int32 → hS → Prop} {K32 : hS → (Nat) → (Int32) → (Int32) → (Int32) → (Int32) → Prop} (hK32 : ∀ {S : hS} {v1 : Nat} {v2 : Int32} {v3 : Int32} {v4 : Int32} {v5 : Int32}, K32 S v1 v2 v3 v4 v5 → Z p l e R s m args below meth c (MQ below (hQ G B (iP q)) args s mc ms (fun r => B ≤ r)) G B mc ms 8 S 0 0 32 [none, some (.ref v1), some (.int v2), some (.int v3), some (.int v4), some (.int v5), none, none] []) {S : hS} {v1 : Nat} {v2 : Int32} {v3 : Int32} {v4 : Int32} {v5 : Int32} (hw : w_X7_struckOut_b106 q K32 S v1 v2 v3 v4 v5) : Z p l e R s m args below meth c (MQ below (hQ G B (iP q)) args s mc ms (fun r => B ≤ r)) G B mc ms 8 S 0 0 106 [none, some (.ref v1), some (.int v2), some (.int v3), some (.int v4), some (.int v5), none, none] [] := by
  unfold w_X7_struckOut_b106 at hw
  refine z_inc (i := 5) hC ic_m1 dX7_struckOut_106 rfl (by decide) (hok_v rfl rfl) (fun y106 e106 => ?_)
  have hw := hw y106 e106
  refine z_goto (tgt := 32) hC dX7_struckOut_109 (by decide) ?_
  refine z_mask (lv' := [none, some (.ref v1), some (.int v2), some (.int v3), some (.int v4), some (.int y106), none, none]) [false, true, true, true, true, true, false, false] rfl ?_
  exact hK32 hw
def w_X7_struckOut_b43 (q : Int32 → hS → Prop) (K32 : hS → (Nat) → (Int32) → (Int32) → (Int32) → (Int32) → Prop) : Nat → hS → (Nat) → (Int32) → (Int32) → (Int32) → (Int32) → (Int32) → (Int32) → Prop
  | 0, _, _, _, _, _, _, _, _ => False
  | n + 1, S, v1, v2, v3, v4, v5, v6, v7 => gI S v1 8 4 (fun x46 => (x46 ≤ v7 → (v4 < v6 → w_X7_struckOut_b106 q K32 S v1 v2 v3 v4 v5) ∧ (¬ v4 < v6 → w_J6_bitCount_0f7a4 (fun x93 S => w_J6_bitCount_0f7a4 (fun x97 S => (x97 < x93 → w_X7_struckOut_b106 q K32 S v1 v2 v3 v4 v5) ∧ (¬ x97 < x93 → w_X7_struckOut_b106 q K32 S v1 v2 v5 v4 v5)) S v3) S v5)) ∧ (¬ x46 ≤ v7 → w_X11_hasBit (fun x58 S => (x58 = 0 → oK S v1 8 ∧ w_X8_rightsOf (fun x72 S => w_X7_struckOut_b75 q K32 (fun S v1 v2 v3 v4 v5 v6 v7 => w_X7_struckOut_b43 q K32 n S v1 v2 v3 v4 v5 v6 v7) S v1 v2 v3 v4 v5 v7 x72 v6) S v1 v7 v2) ∧ (¬ x58 = 0 → w_X7_struckOut_b75 q K32 (fun S v1 v2 v3 v4 v5 v6 v7 => w_X7_struckOut_b43 q K32 n S v1 v2 v3 v4 v5 v6 v7) S v1 v2 v3 v4 v5 v7 0 v6)) S v5 v7))
set_option maxRecDepth 100000 in
set_option maxHeartbeats 4000000 in
theorem t_X7_struckOut_b43 (hC : zC p R s m args c cX7_struckOut 8 RX7 G B mc ms 3 103) (hr : meth.sig.returnType = (Option.some FieldType.int)) (hlk : meth.locks = false) (hnm : meth.name = "struckOut") {q : Int32 → hS → Prop} {K32 : hS → (Nat) → (Int32) → (Int32) → (Int32) → (Int32) → Prop} (hK32 : ∀ {S : hS} {v1 : Nat} {v2 : Int32} {v3 : Int32} {v4 : Int32} {v5 : Int32}, K32 S v1 v2 v3 v4 v5 → Z p l e R s m args below meth c (MQ below (hQ G B (iP q)) args s mc ms (fun r => B ≤ r)) G B mc ms 8 S 0 0 32 [none, some (.ref v1), some (.int v2), some (.int v3), some (.int v4), some (.int v5), none, none] []) (n : Nat) : ∀ {S : hS} {v1 : Nat} {v2 : Int32} {v3 : Int32} {v4 : Int32} {v5 : Int32} {v6 : Int32} {v7 : Int32} (hw : w_X7_struckOut_b43 q K32 n S v1 v2 v3 v4 v5 v6 v7), Z p l e R s m args below meth c (MQ below (hQ G B (iP q)) args s mc ms (fun r => B ≤ r)) G B mc ms 8 S 0 0 43 [none, some (.ref v1), some (.int v2), some (.int v3), some (.int v4), some (.int v5), some (.int v6), some (.int v7)] [] := by
  induction n with
  | zero => intro S v1 v2 v3 v4 v5 v6 v7 hw; exact (by rw [w_X7_struckOut_b43] at hw; exact hw.elim)
  | succ n ih =>
    intro S v1 v2 v3 v4 v5 v6 v7 hw
    rw [w_X7_struckOut_b43] at hw
    refine z_iload hC dX7_struckOut_43 rfl ?_
    refine z_aload_n hC dX7_struckOut_45 rfl rfl ?_
    refine z_getI hC FX8 4 lk_216 dX7_struckOut_46 (by decide) hw (fun x46 hw => ?_)
    refine z_icmp_ge (tgt := 84) hC dX7_struckOut_49 (by decide) (fun c49 => ?_) (fun c49 => ?_)
    · have hw := hw.1 c49
      refine z_iload hC dX7_struckOut_84 rfl ?_
      refine z_iload hC dX7_struckOut_86 rfl ?_
      refine z_icmp_gt (tgt := 106) hC dX7_struckOut_88 (by decide) (fun c88 => ?_) (fun c88 => ?_)
      · have hw := hw.1 c88
        refine z_mask (lv' := [none, some (.ref v1), some (.int v2), some (.int v3), some (.int v4), some (.int v5), none, none]) [false, true, true, true, true, true, false, false] rfl ?_
        exact t_X7_struckOut_b106 hC hr hlk hnm hK32 hw
      · have hw := hw.2 c88
        refine z_iload hC dX7_struckOut_91 rfl ?_
        refine z_callSO (ku' := 0) (kv' := 0) (n := 1) (As := [.int v5]) (st := []) hC (c_J6_bitCount_0f7a4 l G B S v5 _) hw lk_1226 lk_1163 lk_140 lk_1164 hd_J6_bitCount_0f7a4.2 rfl rfl (Nat.le_of_ble_eq_true rfl) (Nat.le_of_ble_eq_true rfl) rfl (Nat.le_of_ble_eq_true rfl) dX7_struckOut_93 (Nat.le_refl 0) (Nat.le_refl 0) (kI (fun x93 S hw => ?_))
        refine z_iload_n hC dX7_struckOut_96 rfl rfl ?_
        refine z_callSO (ku' := 0) (kv' := 0) (n := 1) (As := [.int v3]) (st := [.int x93]) hC (c_J6_bitCount_0f7a4 l G B S v3 _) hw lk_1226 lk_1163 lk_140 lk_1164 hd_J6_bitCount_0f7a4.2 rfl rfl (Nat.le_of_ble_eq_true rfl) (Nat.le_of_ble_eq_true rfl) rfl (Nat.le_of_ble_eq_true rfl) dX7_struckOut_97 (Nat.le_refl 0) (Nat.le_refl 0) (kI (fun x97 S hw => ?_))
        refine z_icmp_gt (tgt := 106) hC dX7_struckOut_100 (by decide) (fun c100 => ?_) (fun c100 => ?_)
        · have hw := hw.1 c100
          refine z_mask (lv' := [none, some (.ref v1), some (.int v2), some (.int v3), some (.int v4), some (.int v5), none, none]) [false, true, true, true, true, true, false, false] rfl ?_
          exact t_X7_struckOut_b106 hC hr hlk hnm hK32 hw
        · have hw := hw.2 c100
          refine z_iload hC dX7_struckOut_103 rfl ?_
          refine z_istore_n (i := 3) (lv' := [none, some (.ref v1), some (.int v2), some (.int v5), some (.int v4), some (.int v5), some (.int v6), some (.int v7)]) hC rfl dX7_struckOut_105 (by decide) (hok_v rfl rfl) rfl ?_
          refine z_mask (lv' := [none, some (.ref v1), some (.int v2), some (.int v5), some (.int v4), some (.int v5), none, none]) [false, true, true, true, true, true, false, false] rfl ?_
          exact t_X7_struckOut_b106 hC hr hlk hnm hK32 hw
    · have hw := hw.2 c49
      refine z_iload hC dX7_struckOut_52 rfl ?_
      refine z_iload hC dX7_struckOut_54 rfl ?_
      refine z_iload hC dX7_struckOut_56 rfl ?_
      refine z_callSN (ku' := 0) (kv' := 0) (n := 2) (As := [.int v5, .int v7]) (st := [.int v6]) (host := "BellHeirs") hC (c_X11_hasBit l G B S v5 v7 _) hw (by decide +kernel) lk_680 lk_121 lk_681 hd_X11_hasBit.2 rfl rfl (Nat.le_of_ble_eq_true rfl) (Nat.le_of_ble_eq_true rfl) rfl (Nat.le_of_ble_eq_true rfl) dX7_struckOut_58 (Nat.le_refl 0) (Nat.le_refl 0) (kI (fun x58 S hw => ?_))
      refine z_if_eq (tgt := 68) hC dX7_struckOut_61 (by decide) (fun c61 => ?_) (fun c61 => ?_)
      · have hw := hw.1 c61
        refine z_aload_n hC dX7_struckOut_68 rfl rfl ?_
        refine z_iload hC dX7_struckOut_69 rfl ?_
        refine z_iload_n hC dX7_struckOut_71 rfl rfl ?_
        refine z_callV (ku' := 0) (kv' := 0) (n := 2) (As := [.int v7, .int v2]) (st := [.int v6]) hC (c_X8_rightsOf l G B S v1 v7 v2 _) hw.2 hw.1 rfl lk_1225 lk_609 lk_610 lk_122 lk_611 hd_X8_rightsOf rfl rfl (Nat.le_of_ble_eq_true rfl) (Nat.le_of_ble_eq_true rfl) rfl (Nat.le_of_ble_eq_true rfl) dX7_struckOut_72 (Nat.le_refl 0) (Nat.le_refl 0) (kI (fun x72 S hw => ?_))
        refine z_mask (lv' := [none, some (.ref v1), some (.int v2), some (.int v3), some (.int v4), some (.int v5), none, some (.int v7)]) [false, true, true, true, true, true, false, true] rfl ?_
        exact t_X7_struckOut_b75 hC hr hlk hnm hK32 (fun hw => ih hw) hw
      · have hw := hw.2 c61
        refine z_iconst hC ic_0 dX7_struckOut_64 ?_
        refine z_goto (tgt := 75) hC dX7_struckOut_65 (by decide) ?_
        refine z_mask (lv' := [none, some (.ref v1), some (.int v2), some (.int v3), some (.int v4), some (.int v5), none, some (.int v7)]) [false, true, true, true, true, true, false, true] rfl ?_
        exact t_X7_struckOut_b75 hC hr hlk hnm hK32 (fun hw => ih hw) hw
def w_X7_struckOut_b32 (q : Int32 → hS → Prop) : Nat → hS → (Nat) → (Int32) → (Int32) → (Int32) → (Int32) → Prop
  | 0, _, _, _, _, _, _ => False
  | n + 1, S, v1, v2, v3, v4, v5 => (v5 < 0 → q v3 S) ∧ (¬ v5 < 0 → (∃ n43 : Nat, w_X7_struckOut_b43 q (fun S v1 v2 v3 v4 v5 => w_X7_struckOut_b32 q n S v1 v2 v3 v4 v5) n43 S v1 v2 v3 v4 v5 0 0))
set_option maxRecDepth 100000 in
set_option maxHeartbeats 4000000 in
theorem t_X7_struckOut_b32 (hC : zC p R s m args c cX7_struckOut 8 RX7 G B mc ms 3 103) (hr : meth.sig.returnType = (Option.some FieldType.int)) (hlk : meth.locks = false) (hnm : meth.name = "struckOut") {q : Int32 → hS → Prop} (n : Nat) : ∀ {S : hS} {v1 : Nat} {v2 : Int32} {v3 : Int32} {v4 : Int32} {v5 : Int32} (hw : w_X7_struckOut_b32 q n S v1 v2 v3 v4 v5), Z p l e R s m args below meth c (MQ below (hQ G B (iP q)) args s mc ms (fun r => B ≤ r)) G B mc ms 8 S 0 0 32 [none, some (.ref v1), some (.int v2), some (.int v3), some (.int v4), some (.int v5), none, none] [] := by
  induction n with
  | zero => intro S v1 v2 v3 v4 v5 hw; exact (by rw [w_X7_struckOut_b32] at hw; exact hw.elim)
  | succ n ih =>
    intro S v1 v2 v3 v4 v5 hw
    rw [w_X7_struckOut_b32] at hw
    refine z_iload hC dX7_struckOut_32 rfl ?_
    refine z_if_lt (tgt := 112) hC dX7_struckOut_34 (by decide) (fun c34 => ?_) (fun c34 => ?_)
    · have hw := hw.1 c34
      refine z_iload_n hC dX7_struckOut_112 rfl rfl ?_
      exact z_iret hC hr hlk dX7_struckOut_113 ⟨_, rfl, hw⟩
    · have hw := hw.2 c34
      refine z_iconst hC ic_0 dX7_struckOut_37 ?_
      refine z_istore (i := 6) (lv' := [none, some (.ref v1), some (.int v2), some (.int v3), some (.int v4), some (.int v5), some (.int 0), none]) hC dX7_struckOut_38 (by decide) (hok_v rfl rfl) rfl ?_
      refine z_iconst hC ic_0 dX7_struckOut_40 ?_
      refine z_istore (i := 7) (lv' := [none, some (.ref v1), some (.int v2), some (.int v3), some (.int v4), some (.int v5), some (.int 0), some (.int 0)]) hC dX7_struckOut_41 (by decide) (hok_v rfl rfl) rfl ?_
      refine z_mask (lv' := [none, some (.ref v1), some (.int v2), some (.int v3), some (.int v4), some (.int v5), some (.int 0), some (.int 0)]) [false, true, true, true, true, true, true, true] rfl ?_
      obtain ⟨n43, hw⟩ := hw
      exact t_X7_struckOut_b43 hC hr hlk hnm (fun hw => ih hw) n43 hw
def w_X7_struckOut_b27 (q : Int32 → hS → Prop) (S : hS) (v1 : Nat) (v2 : Int32) (v3 : Int32) (t0 : Int32) : Prop := (∃ n32 : Nat, w_X7_struckOut_b32 q n32 S v1 v2 v3 t0 v3)
set_option maxRecDepth 100000 in
set_option maxHeartbeats 4000000 in
theorem t_X7_struckOut_b27 (hC : zC p R s m args c cX7_struckOut 8 RX7 G B mc ms 3 103) (hr : meth.sig.returnType = (Option.some FieldType.int)) (hlk : meth.locks = false) (hnm : meth.name = "struckOut") {q : Int32 → hS → Prop} {S : hS} {v1 : Nat} {v2 : Int32} {v3 : Int32} {t0 : Int32} (hw : w_X7_struckOut_b27 q S v1 v2 v3 t0) : Z p l e R s m args below meth c (MQ below (hQ G B (iP q)) args s mc ms (fun r => B ≤ r)) G B mc ms 8 S 0 0 27 [none, some (.ref v1), some (.int v2), some (.int v3), none, none, none, none] [.int t0] := by
  unfold w_X7_struckOut_b27 at hw
  refine z_istore (i := 4) (lv' := [none, some (.ref v1), some (.int v2), some (.int v3), some (.int t0), none, none, none]) hC dX7_struckOut_27 (by decide) (hok_v rfl rfl) rfl ?_
  refine z_iload_n hC dX7_struckOut_29 rfl rfl ?_
  refine z_istore (i := 5) (lv' := [none, some (.ref v1), some (.int v2), some (.int v3), some (.int t0), some (.int v3), none, none]) hC dX7_struckOut_30 (by decide) (hok_v rfl rfl) rfl ?_
  refine z_mask (lv' := [none, some (.ref v1), some (.int v2), some (.int v3), some (.int t0), some (.int v3), none, none]) [false, true, true, true, true, true, false, false] rfl ?_
  obtain ⟨n32, hw⟩ := hw
  exact t_X7_struckOut_b32 hC hr hlk hnm n32 hw
def w_X7_struckOut (q : Int32 → hS → Prop) (S : hS) (v0 : Nat) (v1 : Nat) (v2 : Int32) : Prop := gI S v1 8 4 (fun x2 => ∀ y8 : Int32, y8 = ((1 <<< (x2 &&& 31)) - 1) → oK S v1 8 ∧ w_X8_hasHouse (fun x11 S => (x11 = 0 → w_X7_struckOut_b27 q S v1 v2 y8 0) ∧ (¬ x11 = 0 → gP S v1 8 3 (fun x18 => aI S x18 v2 (fun x22 => w_X7_struckOut_b27 q S v1 v2 y8 x22)))) S v1 v2)
set_option maxRecDepth 100000 in
set_option maxHeartbeats 4000000 in
theorem c_X7_struckOut (l : Launch) (G : hG) (B : Nat) (S : hS) (v0 : Nat) (v1 : Nat) (v2 : Int32) (q : Int32 → hS → Prop) : Met l yX7_struckOut (hws yX7_struckOut cX7_struckOut 8 (Option.some FieldType.int)) ({ frames := 3, cells := 0, slots := 0, locals := 103 }) (hPc G B S [.ref v0, .ref v1, .int v2] (w_X7_struckOut q S v0 v1 v2)) (hQ G B (iP q)) (0) (0) (fun r => B ≤ r) := by
  refine hMet (rm := { frames := 3, cells := 0, slots := 0, locals := 103 }) (lv := [some (.ref v0), some (.ref v1), some (.int v2), none, none, none, none, none]) (own := RX7) (fr := 3) (lo := 103) (by decide) rfl rfl rfl (Nat.le_of_ble_eq_true rfl) rfl (fun hw p e R s m args below meth c hC hr hlk hnm => ?_)
  unfold w_X7_struckOut at hw
  refine z_iconst hC ic_1 dX7_struckOut_0 ?_
  refine z_aload_n hC dX7_struckOut_1 rfl rfl ?_
  refine z_getI hC FX8 4 lk_216 dX7_struckOut_2 (by decide) hw (fun x2 hw => ?_)
  refine z_ishl hC dX7_struckOut_5 ?_
  refine z_iconst hC ic_1 dX7_struckOut_6 ?_
  refine z_isub hC dX7_struckOut_7 ?_
  refine z_nmI (fun y8 e8 => ?_)
  have hw := hw y8 e8
  refine z_istore_n (i := 3) (lv' := [some (.ref v0), some (.ref v1), some (.int v2), some (.int y8), none, none, none, none]) hC rfl dX7_struckOut_8 (by decide) (hok_v rfl rfl) rfl ?_
  refine z_aload_n hC dX7_struckOut_9 rfl rfl ?_
  refine z_iload_n hC dX7_struckOut_10 rfl rfl ?_
  refine z_callV (ku' := 0) (kv' := 0) (n := 1) (As := [.int v2]) (st := []) hC (c_X8_hasHouse l G B S v1 v2 _) hw.2 hw.1 rfl lk_1223 lk_601 lk_602 lk_122 lk_603 hd_X8_hasHouse rfl rfl (Nat.le_of_ble_eq_true rfl) (Nat.le_of_ble_eq_true rfl) rfl (Nat.le_of_ble_eq_true rfl) dX7_struckOut_11 (Nat.le_refl 0) (Nat.le_refl 0) (kI (fun x11 S hw => ?_))
  refine z_if_eq (tgt := 26) hC dX7_struckOut_14 (by decide) (fun c14 => ?_) (fun c14 => ?_)
  · have hw := hw.1 c14
    refine z_iconst hC ic_0 dX7_struckOut_26 ?_
    refine z_mask (lv' := [none, some (.ref v1), some (.int v2), some (.int y8), none, none, none, none]) [false, true, true, true, false, false, false, false] rfl ?_
    exact t_X7_struckOut_b27 hC hr hlk hnm hw
  · have hw := hw.2 c14
    refine z_aload_n hC dX7_struckOut_17 rfl rfl ?_
    refine z_getP hC FX8 3 lk_213 dX7_struckOut_18 (by decide) hw (fun x18 hw => ?_)
    refine z_iload_n hC dX7_struckOut_21 rfl rfl ?_
    refine z_aldI hC dX7_struckOut_22 hw (fun x22 hw => ?_)
    refine z_goto (tgt := 27) hC dX7_struckOut_23 (by decide) ?_
    refine z_mask (lv' := [none, some (.ref v1), some (.int v2), some (.int y8), none, none, none, none]) [false, true, true, true, false, false, false, false] rfl ?_
    exact t_X7_struckOut_b27 hC hr hlk hnm hw
end
section
variable {p : Program} {l : Launch} {e : Env} {R : Room} {s : State} {m : MethodId} {args : Array Value} {below : List Frame} {meth : Method} {c : Code} {G : hG} {B mc ms : Nat}
def w_X7_giveOut_b104 (q : hS → Prop) (K27 : hS → (Nat) → (Nat) → (Int32) → (Int32) → (Int32) → Prop) (K39 : hS → (Nat) → (Nat) → (Int32) → (Int32) → (Int32) → (Int32) → (Int32) → Prop) (S : hS) (v0 : Nat) (v1 : Nat) (v2 : Int32) (v3 : Int32) (v4 : Int32) (v5 : Int32) (v6 : Int32) : Prop := ∀ y104 : Int32, y104 = v6 + 1 → K39 S v0 v1 v2 v3 v4 v5 y104
set_option maxRecDepth 100000 in
set_option maxHeartbeats 4000000 in
theorem t_X7_giveOut_b104 (hC : zC p R s m args c cX7_giveOut 8 RX7 G B mc ms 3 103) (hr : meth.sig.returnType = (Option.none : Option FieldType)) (hlk : meth.locks = false) (hnm : meth.name = "giveOut") {q : hS → Prop} {K27 : hS → (Nat) → (Nat) → (Int32) → (Int32) → (Int32) → Prop} (hK27 : ∀ {S : hS} {v0 : Nat} {v1 : Nat} {v2 : Int32} {v3 : Int32} {v4 : Int32}, K27 S v0 v1 v2 v3 v4 → Z p l e R s m args below meth c (MQ below (hQ G B (vP q)) args s mc ms (fun r => B ≤ r)) G B mc ms 8 S 0 0 27 [some (.ref v0), some (.ref v1), some (.int v2), some (.int v3), some (.int v4), none, none, none] []) {K39 : hS → (Nat) → (Nat) → (Int32) → (Int32) → (Int32) → (Int32) → (Int32) → Prop} (hK39 : ∀ {S : hS} {v0 : Nat} {v1 : Nat} {v2 : Int32} {v3 : Int32} {v4 : Int32} {v5 : Int32} {v6 : Int32}, K39 S v0 v1 v2 v3 v4 v5 v6 → Z p l e R s m args below meth c (MQ below (hQ G B (vP q)) args s mc ms (fun r => B ≤ r)) G B mc ms 8 S 0 0 39 [some (.ref v0), some (.ref v1), some (.int v2), some (.int v3), some (.int v4), some (.int v5), some (.int v6), none] []) {S : hS} {v0 : Nat} {v1 : Nat} {v2 : Int32} {v3 : Int32} {v4 : Int32} {v5 : Int32} {v6 : Int32} (hw : w_X7_giveOut_b104 q K27 K39 S v0 v1 v2 v3 v4 v5 v6) : Z p l e R s m args below meth c (MQ below (hQ G B (vP q)) args s mc ms (fun r => B ≤ r)) G B mc ms 8 S 0 0 104 [some (.ref v0), some (.ref v1), some (.int v2), some (.int v3), some (.int v4), some (.int v5), some (.int v6), none] [] := by
  unfold w_X7_giveOut_b104 at hw
  refine z_inc (i := 6) hC ic_1 dX7_giveOut_104 rfl (by decide) (hok_v rfl rfl) (fun y104 e104 => ?_)
  have hw := hw y104 e104
  refine z_goto (tgt := 39) hC dX7_giveOut_107 (by decide) ?_
  refine z_mask (lv' := [some (.ref v0), some (.ref v1), some (.int v2), some (.int v3), some (.int v4), some (.int v5), some (.int y104), none]) [true, true, true, true, true, true, true, false] rfl ?_
  exact hK39 hw
def w_X7_giveOut_b100 (q : hS → Prop) (K27 : hS → (Nat) → (Nat) → (Int32) → (Int32) → (Int32) → Prop) (K39 : hS → (Nat) → (Nat) → (Int32) → (Int32) → (Int32) → (Int32) → (Int32) → Prop) (S : hS) (v0 : Nat) (v1 : Nat) (v2 : Int32) (v3 : Int32) (v4 : Int32) (v6 : Int32) : Prop := w_X7_giveOut_b104 q K27 K39 S v0 v1 v2 v3 v4 v6 v6
set_option maxRecDepth 100000 in
set_option maxHeartbeats 4000000 in
theorem t_X7_giveOut_b100 (hC : zC p R s m args c cX7_giveOut 8 RX7 G B mc ms 3 103) (hr : meth.sig.returnType = (Option.none : Option FieldType)) (hlk : meth.locks = false) (hnm : meth.name = "giveOut") {q : hS → Prop} {K27 : hS → (Nat) → (Nat) → (Int32) → (Int32) → (Int32) → Prop} (hK27 : ∀ {S : hS} {v0 : Nat} {v1 : Nat} {v2 : Int32} {v3 : Int32} {v4 : Int32}, K27 S v0 v1 v2 v3 v4 → Z p l e R s m args below meth c (MQ below (hQ G B (vP q)) args s mc ms (fun r => B ≤ r)) G B mc ms 8 S 0 0 27 [some (.ref v0), some (.ref v1), some (.int v2), some (.int v3), some (.int v4), none, none, none] []) {K39 : hS → (Nat) → (Nat) → (Int32) → (Int32) → (Int32) → (Int32) → (Int32) → Prop} (hK39 : ∀ {S : hS} {v0 : Nat} {v1 : Nat} {v2 : Int32} {v3 : Int32} {v4 : Int32} {v5 : Int32} {v6 : Int32}, K39 S v0 v1 v2 v3 v4 v5 v6 → Z p l e R s m args below meth c (MQ below (hQ G B (vP q)) args s mc ms (fun r => B ≤ r)) G B mc ms 8 S 0 0 39 [some (.ref v0), some (.ref v1), some (.int v2), some (.int v3), some (.int v4), some (.int v5), some (.int v6), none] []) {S : hS} {v0 : Nat} {v1 : Nat} {v2 : Int32} {v3 : Int32} {v4 : Int32} {v6 : Int32} (hw : w_X7_giveOut_b100 q K27 K39 S v0 v1 v2 v3 v4 v6) : Z p l e R s m args below meth c (MQ below (hQ G B (vP q)) args s mc ms (fun r => B ≤ r)) G B mc ms 8 S 0 0 100 [some (.ref v0), some (.ref v1), some (.int v2), some (.int v3), some (.int v4), none, some (.int v6), none] [] := by
  unfold w_X7_giveOut_b100 at hw
  refine z_iload hC dX7_giveOut_100 rfl ?_
  refine z_istore (i := 5) (lv' := [some (.ref v0), some (.ref v1), some (.int v2), some (.int v3), some (.int v4), some (.int v6), some (.int v6), none]) hC dX7_giveOut_102 (by decide) (hok_v rfl rfl) rfl ?_
  refine z_mask (lv' := [some (.ref v0), some (.ref v1), some (.int v2), some (.int v3), some (.int v4), some (.int v6), some (.int v6), none]) [true, true, true, true, true, true, true, false] rfl ?_
  exact t_X7_giveOut_b104 hC hr hlk hnm hK27 hK39 hw
def w_X7_giveOut_b39 (q : hS → Prop) (K27 : hS → (Nat) → (Nat) → (Int32) → (Int32) → (Int32) → Prop) : Nat → hS → (Nat) → (Nat) → (Int32) → (Int32) → (Int32) → (Int32) → (Int32) → Prop
  | 0, _, _, _, _, _, _, _, _ => False
  | n + 1, S, v0, v1, v2, v3, v4, v5, v6 => gI S v1 8 4 (fun x42 => (x42 ≤ v6 → (¬ v5 = (-1) → gP S v0 7 0 (fun x118 => aI S x118 v5 (fun x124 => sI S x118 v5 (x124 + 1) (fun S => ∀ y128 : Int32, y128 = v4 + 1 → K27 S v0 v1 v2 v3 y128)))) ∧ (v5 = (-1) → q S)) ∧ (¬ x42 ≤ v6 → oK S v1 8 ∧ w_X8_rightsOf (fun x52 S => (x52 ≤ 0 → w_X7_giveOut_b104 q K27 (fun S v0 v1 v2 v3 v4 v5 v6 => w_X7_giveOut_b39 q K27 n S v0 v1 v2 v3 v4 v5 v6) S v0 v1 v2 v3 v4 v5 v6) ∧ (¬ x52 ≤ 0 → (v5 = (-1) → w_X7_giveOut_b100 q K27 (fun S v0 v1 v2 v3 v4 v5 v6 => w_X7_giveOut_b39 q K27 n S v0 v1 v2 v3 v4 v5 v6) S v0 v1 v2 v3 v4 v6) ∧ (¬ v5 = (-1) → gP S v0 7 0 (fun x71 => aI S x71 v5 (fun x76 => oK S v1 8 ∧ w_X8_rightsOf (fun x84 S => gP S v0 7 0 (fun x88 => aI S x88 v6 (fun x93 => ((x52 * (x76 + 1)) ≤ (x84 * (x93 + 1)) → w_X7_giveOut_b104 q K27 (fun S v0 v1 v2 v3 v4 v5 v6 => w_X7_giveOut_b39 q K27 n S v0 v1 v2 v3 v4 v5 v6) S v0 v1 v2 v3 v4 v5 v6) ∧ (¬ (x52 * (x76 + 1)) ≤ (x84 * (x93 + 1)) → w_X7_giveOut_b100 q K27 (fun S v0 v1 v2 v3 v4 v5 v6 => w_X7_giveOut_b39 q K27 n S v0 v1 v2 v3 v4 v5 v6) S v0 v1 v2 v3 v4 v6)))) S v1 v5 v2))))) S v1 v6 v2))
set_option maxRecDepth 100000 in
set_option maxHeartbeats 4000000 in
theorem t_X7_giveOut_b39 (hC : zC p R s m args c cX7_giveOut 8 RX7 G B mc ms 3 103) (hr : meth.sig.returnType = (Option.none : Option FieldType)) (hlk : meth.locks = false) (hnm : meth.name = "giveOut") {q : hS → Prop} {K27 : hS → (Nat) → (Nat) → (Int32) → (Int32) → (Int32) → Prop} (hK27 : ∀ {S : hS} {v0 : Nat} {v1 : Nat} {v2 : Int32} {v3 : Int32} {v4 : Int32}, K27 S v0 v1 v2 v3 v4 → Z p l e R s m args below meth c (MQ below (hQ G B (vP q)) args s mc ms (fun r => B ≤ r)) G B mc ms 8 S 0 0 27 [some (.ref v0), some (.ref v1), some (.int v2), some (.int v3), some (.int v4), none, none, none] []) (n : Nat) : ∀ {S : hS} {v0 : Nat} {v1 : Nat} {v2 : Int32} {v3 : Int32} {v4 : Int32} {v5 : Int32} {v6 : Int32} (hw : w_X7_giveOut_b39 q K27 n S v0 v1 v2 v3 v4 v5 v6), Z p l e R s m args below meth c (MQ below (hQ G B (vP q)) args s mc ms (fun r => B ≤ r)) G B mc ms 8 S 0 0 39 [some (.ref v0), some (.ref v1), some (.int v2), some (.int v3), some (.int v4), some (.int v5), some (.int v6), none] [] := by
  induction n with
  | zero => intro S v0 v1 v2 v3 v4 v5 v6 hw; exact (by rw [w_X7_giveOut_b39] at hw; exact hw.elim)
  | succ n ih =>
    intro S v0 v1 v2 v3 v4 v5 v6 hw
    rw [w_X7_giveOut_b39] at hw
    refine z_iload hC dX7_giveOut_39 rfl ?_
    refine z_aload_n hC dX7_giveOut_41 rfl rfl ?_
    refine z_getI hC FX8 4 lk_216 dX7_giveOut_42 (by decide) hw (fun x42 hw => ?_)
    refine z_icmp_ge (tgt := 110) hC dX7_giveOut_45 (by decide) (fun c45 => ?_) (fun c45 => ?_)
    · have hw := hw.1 c45
      refine z_iload hC dX7_giveOut_110 rfl ?_
      refine z_iconst hC ic_m1 dX7_giveOut_112 ?_
      refine z_icmp_ne (tgt := 117) hC dX7_giveOut_113 (by decide) (fun c113 => ?_) (fun c113 => ?_)
      · have hw := hw.1 c113
        refine z_aload_n hC dX7_giveOut_117 rfl rfl ?_
        refine z_getP hC FX7 0 lk_495 dX7_giveOut_118 (by decide) hw (fun x118 hw => ?_)
        refine z_iload hC dX7_giveOut_121 rfl ?_
        refine z_dup2_11 hC rfl rfl dX7_giveOut_123 ?_
        refine z_aldI hC dX7_giveOut_124 hw (fun x124 hw => ?_)
        refine z_iconst hC ic_1 dX7_giveOut_125 ?_
        refine z_iadd hC dX7_giveOut_126 ?_
        refine z_astI hC dX7_giveOut_127 hw (fun S hw => ?_)
        refine z_inc (i := 4) hC ic_1 dX7_giveOut_128 rfl (by decide) (hok_v rfl rfl) (fun y128 e128 => ?_)
        have hw := hw y128 e128
        refine z_goto (tgt := 27) hC dX7_giveOut_131 (by decide) ?_
        refine z_mask (lv' := [some (.ref v0), some (.ref v1), some (.int v2), some (.int v3), some (.int y128), none, none, none]) [true, true, true, true, true, false, false, false] rfl ?_
        exact hK27 hw
      · have hw := hw.2 c113
        exact z_vret hC hr hlk dX7_giveOut_116 ⟨rfl, hw⟩
    · have hw := hw.2 c45
      refine z_aload_n hC dX7_giveOut_48 rfl rfl ?_
      refine z_iload hC dX7_giveOut_49 rfl ?_
      refine z_iload_n hC dX7_giveOut_51 rfl rfl ?_
      refine z_callV (ku' := 0) (kv' := 0) (n := 2) (As := [.int v6, .int v2]) (st := []) hC (c_X8_rightsOf l G B S v1 v6 v2 _) hw.2 hw.1 rfl lk_1225 lk_609 lk_610 lk_122 lk_611 hd_X8_rightsOf rfl rfl (Nat.le_of_ble_eq_true rfl) (Nat.le_of_ble_eq_true rfl) rfl (Nat.le_of_ble_eq_true rfl) dX7_giveOut_52 (Nat.le_refl 0) (Nat.le_refl 0) (kI (fun x52 S hw => ?_))
      refine z_istore (i := 7) (lv' := [some (.ref v0), some (.ref v1), some (.int v2), some (.int v3), some (.int v4), some (.int v5), some (.int v6), some (.int x52)]) hC dX7_giveOut_55 (by decide) (hok_v rfl rfl) rfl ?_
      refine z_iload hC dX7_giveOut_57 rfl ?_
      refine z_if_le (tgt := 104) hC dX7_giveOut_59 (by decide) (fun c59 => ?_) (fun c59 => ?_)
      · have hw := hw.1 c59
        refine z_mask (lv' := [some (.ref v0), some (.ref v1), some (.int v2), some (.int v3), some (.int v4), some (.int v5), some (.int v6), none]) [true, true, true, true, true, true, true, false] rfl ?_
        exact t_X7_giveOut_b104 hC hr hlk hnm hK27 (fun hw => ih hw) hw
      · have hw := hw.2 c59
        refine z_iload hC dX7_giveOut_62 rfl ?_
        refine z_iconst hC ic_m1 dX7_giveOut_64 ?_
        refine z_icmp_eq (tgt := 100) hC dX7_giveOut_65 (by decide) (fun c65 => ?_) (fun c65 => ?_)
        · have hw := hw.1 c65
          refine z_mask (lv' := [some (.ref v0), some (.ref v1), some (.int v2), some (.int v3), some (.int v4), none, some (.int v6), none]) [true, true, true, true, true, false, true, false] rfl ?_
          exact t_X7_giveOut_b100 hC hr hlk hnm hK27 (fun hw => ih hw) hw
        · have hw := hw.2 c65
          refine z_iload hC dX7_giveOut_68 rfl ?_
          refine z_aload_n hC dX7_giveOut_70 rfl rfl ?_
          refine z_getP hC FX7 0 lk_495 dX7_giveOut_71 (by decide) hw (fun x71 hw => ?_)
          refine z_iload hC dX7_giveOut_74 rfl ?_
          refine z_aldI hC dX7_giveOut_76 hw (fun x76 hw => ?_)
          refine z_iconst hC ic_1 dX7_giveOut_77 ?_
          refine z_iadd hC dX7_giveOut_78 ?_
          refine z_imul hC dX7_giveOut_79 ?_
          refine z_aload_n hC dX7_giveOut_80 rfl rfl ?_
          refine z_iload hC dX7_giveOut_81 rfl ?_
          refine z_iload_n hC dX7_giveOut_83 rfl rfl ?_
          refine z_callV (ku' := 0) (kv' := 0) (n := 2) (As := [.int v5, .int v2]) (st := [.int (x52 * (x76 + 1))]) hC (c_X8_rightsOf l G B S v1 v5 v2 _) hw.2 hw.1 rfl lk_1225 lk_609 lk_610 lk_122 lk_611 hd_X8_rightsOf rfl rfl (Nat.le_of_ble_eq_true rfl) (Nat.le_of_ble_eq_true rfl) rfl (Nat.le_of_ble_eq_true rfl) dX7_giveOut_84 (Nat.le_refl 0) (Nat.le_refl 0) (kI (fun x84 S hw => ?_))
          refine z_aload_n hC dX7_giveOut_87 rfl rfl ?_
          refine z_getP hC FX7 0 lk_495 dX7_giveOut_88 (by decide) hw (fun x88 hw => ?_)
          refine z_iload hC dX7_giveOut_91 rfl ?_
          refine z_aldI hC dX7_giveOut_93 hw (fun x93 hw => ?_)
          refine z_iconst hC ic_1 dX7_giveOut_94 ?_
          refine z_iadd hC dX7_giveOut_95 ?_
          refine z_imul hC dX7_giveOut_96 ?_
          refine z_icmp_le (tgt := 104) hC dX7_giveOut_97 (by decide) (fun c97 => ?_) (fun c97 => ?_)
          · have hw := hw.1 c97
            refine z_mask (lv' := [some (.ref v0), some (.ref v1), some (.int v2), some (.int v3), some (.int v4), some (.int v5), some (.int v6), none]) [true, true, true, true, true, true, true, false] rfl ?_
            exact t_X7_giveOut_b104 hC hr hlk hnm hK27 (fun hw => ih hw) hw
          · have hw := hw.2 c97
            refine z_mask (lv' := [some (.ref v0), some (.ref v1), some (.int v2), some (.int v3), some (.int v4), none, some (.int v6), none]) [true, true, true, true, true, false, true, false] rfl ?_
            exact t_X7_giveOut_b100 hC hr hlk hnm hK27 (fun hw => ih hw) hw
def w_X7_giveOut_b27 (q : hS → Prop) : Nat → hS → (Nat) → (Nat) → (Int32) → (Int32) → (Int32) → Prop
  | 0, _, _, _, _, _, _ => False
  | n + 1, S, v0, v1, v2, v3, v4 => (v3 ≤ v4 → q S) ∧ (¬ v3 ≤ v4 → (∃ n39 : Nat, w_X7_giveOut_b39 q (fun S v0 v1 v2 v3 v4 => w_X7_giveOut_b27 q n S v0 v1 v2 v3 v4) n39 S v0 v1 v2 v3 v4 (-1) 0))
set_option maxRecDepth 100000 in
set_option maxHeartbeats 4000000 in
theorem t_X7_giveOut_b27 (hC : zC p R s m args c cX7_giveOut 8 RX7 G B mc ms 3 103) (hr : meth.sig.returnType = (Option.none : Option FieldType)) (hlk : meth.locks = false) (hnm : meth.name = "giveOut") {q : hS → Prop} (n : Nat) : ∀ {S : hS} {v0 : Nat} {v1 : Nat} {v2 : Int32} {v3 : Int32} {v4 : Int32} (hw : w_X7_giveOut_b27 q n S v0 v1 v2 v3 v4), Z p l e R s m args below meth c (MQ below (hQ G B (vP q)) args s mc ms (fun r => B ≤ r)) G B mc ms 8 S 0 0 27 [some (.ref v0), some (.ref v1), some (.int v2), some (.int v3), some (.int v4), none, none, none] [] := by
  induction n with
  | zero => intro S v0 v1 v2 v3 v4 hw; exact (by rw [w_X7_giveOut_b27] at hw; exact hw.elim)
  | succ n ih =>
    intro S v0 v1 v2 v3 v4 hw
    rw [w_X7_giveOut_b27] at hw
    refine z_iload hC dX7_giveOut_27 rfl ?_
    refine z_iload_n hC dX7_giveOut_29 rfl rfl ?_
    refine z_icmp_ge (tgt := 134) hC dX7_giveOut_30 (by decide) (fun c30 => ?_) (fun c30 => ?_)
    · have hw := hw.1 c30
      exact z_vret hC hr hlk dX7_giveOut_134 ⟨rfl, hw⟩
    · have hw := hw.2 c30
      refine z_iconst hC ic_m1 dX7_giveOut_33 ?_
      refine z_istore (i := 5) (lv' := [some (.ref v0), some (.ref v1), some (.int v2), some (.int v3), some (.int v4), some (.int (-1)), none, none]) hC dX7_giveOut_34 (by decide) (hok_v rfl rfl) rfl ?_
      refine z_iconst hC ic_0 dX7_giveOut_36 ?_
      refine z_istore (i := 6) (lv' := [some (.ref v0), some (.ref v1), some (.int v2), some (.int v3), some (.int v4), some (.int (-1)), some (.int 0), none]) hC dX7_giveOut_37 (by decide) (hok_v rfl rfl) rfl ?_
      refine z_mask (lv' := [some (.ref v0), some (.ref v1), some (.int v2), some (.int v3), some (.int v4), some (.int (-1)), some (.int 0), none]) [true, true, true, true, true, true, true, false] rfl ?_
      obtain ⟨n39, hw⟩ := hw
      exact t_X7_giveOut_b39 hC hr hlk hnm (fun hw => ih hw) n39 hw
def w_X7_giveOut_b3 (q : hS → Prop) : Nat → hS → (Nat) → (Nat) → (Int32) → (Int32) → (Int32) → Prop
  | 0, _, _, _, _, _, _ => False
  | n + 1, S, v0, v1, v2, v3, v4 => (8 ≤ v4 → (∃ n27 : Nat, w_X7_giveOut_b27 q n27 S v0 v1 v2 v3 0)) ∧ (¬ 8 ≤ v4 → gP S v0 7 0 (fun x11 => sI S x11 v4 0 (fun S => ∀ y18 : Int32, y18 = v4 + 1 → w_X7_giveOut_b3 q n S v0 v1 v2 v3 y18)))
set_option maxRecDepth 100000 in
set_option maxHeartbeats 4000000 in
theorem t_X7_giveOut_b3 (hC : zC p R s m args c cX7_giveOut 8 RX7 G B mc ms 3 103) (hr : meth.sig.returnType = (Option.none : Option FieldType)) (hlk : meth.locks = false) (hnm : meth.name = "giveOut") {q : hS → Prop} (n : Nat) : ∀ {S : hS} {v0 : Nat} {v1 : Nat} {v2 : Int32} {v3 : Int32} {v4 : Int32} (hw : w_X7_giveOut_b3 q n S v0 v1 v2 v3 v4), Z p l e R s m args below meth c (MQ below (hQ G B (vP q)) args s mc ms (fun r => B ≤ r)) G B mc ms 8 S 0 0 3 [some (.ref v0), some (.ref v1), some (.int v2), some (.int v3), some (.int v4), none, none, none] [] := by
  induction n with
  | zero => intro S v0 v1 v2 v3 v4 hw; exact (by rw [w_X7_giveOut_b3] at hw; exact hw.elim)
  | succ n ih =>
    intro S v0 v1 v2 v3 v4 hw
    rw [w_X7_giveOut_b3] at hw
    refine z_iload hC dX7_giveOut_3 rfl ?_
    refine z_bipush hC bi_8 dX7_giveOut_5 ?_
    refine z_icmp_ge (tgt := 24) hC dX7_giveOut_7 (by decide) (fun c7 => ?_) (fun c7 => ?_)
    · have hw := hw.1 c7
      refine z_iconst hC ic_0 dX7_giveOut_24 ?_
      refine z_istore (i := 4) (lv' := [some (.ref v0), some (.ref v1), some (.int v2), some (.int v3), some (.int 0), none, none, none]) hC dX7_giveOut_25 (by decide) (hok_v rfl rfl) rfl ?_
      refine z_mask (lv' := [some (.ref v0), some (.ref v1), some (.int v2), some (.int v3), some (.int 0), none, none, none]) [true, true, true, true, true, false, false, false] rfl ?_
      obtain ⟨n27, hw⟩ := hw
      exact t_X7_giveOut_b27 hC hr hlk hnm n27 hw
    · have hw := hw.2 c7
      refine z_aload_n hC dX7_giveOut_10 rfl rfl ?_
      refine z_getP hC FX7 0 lk_495 dX7_giveOut_11 (by decide) hw (fun x11 hw => ?_)
      refine z_iload hC dX7_giveOut_14 rfl ?_
      refine z_iconst hC ic_0 dX7_giveOut_16 ?_
      refine z_astI hC dX7_giveOut_17 hw (fun S hw => ?_)
      refine z_inc (i := 4) hC ic_1 dX7_giveOut_18 rfl (by decide) (hok_v rfl rfl) (fun y18 e18 => ?_)
      have hw := hw y18 e18
      refine z_goto (tgt := 3) hC dX7_giveOut_21 (by decide) ?_
      refine z_mask (lv' := [some (.ref v0), some (.ref v1), some (.int v2), some (.int v3), some (.int y18), none, none, none]) [true, true, true, true, true, false, false, false] rfl ?_
      exact ih hw
def w_X7_giveOut (q : hS → Prop) (S : hS) (v0 : Nat) (v1 : Nat) (v2 : Int32) (v3 : Int32) : Prop := (∃ n3 : Nat, w_X7_giveOut_b3 q n3 S v0 v1 v2 v3 0)
set_option maxRecDepth 100000 in
set_option maxHeartbeats 4000000 in
theorem c_X7_giveOut (l : Launch) (G : hG) (B : Nat) (S : hS) (v0 : Nat) (v1 : Nat) (v2 : Int32) (v3 : Int32) (q : hS → Prop) : Met l yX7_giveOut (hws yX7_giveOut cX7_giveOut 8 (Option.none : Option FieldType)) ({ frames := 3, cells := 0, slots := 0, locals := 103 }) (hPc G B S [.ref v0, .ref v1, .int v2, .int v3] (w_X7_giveOut q S v0 v1 v2 v3)) (hQ G B (vP q)) (0) (0) (fun r => B ≤ r) := by
  refine hMet (rm := { frames := 3, cells := 0, slots := 0, locals := 103 }) (lv := [some (.ref v0), some (.ref v1), some (.int v2), some (.int v3), none, none, none, none]) (own := RX7) (fr := 3) (lo := 103) (by decide) rfl rfl rfl (Nat.le_of_ble_eq_true rfl) rfl (fun hw p e R s m args below meth c hC hr hlk hnm => ?_)
  unfold w_X7_giveOut at hw
  refine z_iconst hC ic_0 dX7_giveOut_0 ?_
  refine z_istore (i := 4) (lv' := [some (.ref v0), some (.ref v1), some (.int v2), some (.int v3), some (.int 0), none, none, none]) hC dX7_giveOut_1 (by decide) (hok_v rfl rfl) rfl ?_
  refine z_mask (lv' := [some (.ref v0), some (.ref v1), some (.int v2), some (.int v3), some (.int 0), none, none, none]) [true, true, true, true, true, false, false, false] rfl ?_
  obtain ⟨n3, hw⟩ := hw
  exact t_X7_giveOut_b3 hC hr hlk hnm n3 hw
end
section
variable {p : Program} {l : Launch} {e : Env} {R : Room} {s : State} {m : MethodId} {args : Array Value} {below : List Frame} {meth : Method} {c : Code} {G : hG} {B mc ms : Nat}
def w_X7_entry (q : Int32 → hS → Prop) (S : hS) (v0 : Int32) (v1 : Int32) : Prop := q ((v0 * 21) + v1) S
set_option maxRecDepth 100000 in
set_option maxHeartbeats 4000000 in
theorem c_X7_entry (l : Launch) (G : hG) (B : Nat) (S : hS) (v0 : Int32) (v1 : Int32) (q : Int32 → hS → Prop) : Met l yX7_entry (hws yX7_entry cX7_entry 2 (Option.some FieldType.int)) ({ frames := 1, cells := 0, slots := 0, locals := 60 }) (hPc G B S [.int v0, .int v1] (w_X7_entry q S v0 v1)) (hQ G B (iP q)) (0) (0) (fun r => B ≤ r) := by
  refine hMet (rm := { frames := 1, cells := 0, slots := 0, locals := 60 }) (lv := [some (.int v0), some (.int v1)]) (own := RX7) (fr := 1) (lo := 60) (by decide) rfl rfl rfl (Nat.le_of_ble_eq_true rfl) rfl (fun hw p e R s m args below meth c hC hr hlk hnm => ?_)
  unfold w_X7_entry at hw
  refine z_iload_n hC dX7_entry_0 rfl rfl ?_
  refine z_bipush hC bi_21 dX7_entry_1 ?_
  refine z_imul hC dX7_entry_3 ?_
  refine z_iload_n hC dX7_entry_4 rfl rfl ?_
  refine z_iadd hC dX7_entry_5 ?_
  exact z_iret hC hr hlk dX7_entry_6 ⟨_, rfl, hw⟩
end
section
variable {p : Program} {l : Launch} {e : Env} {R : Room} {s : State} {m : MethodId} {args : Array Value} {below : List Frame} {meth : Method} {c : Code} {G : hG} {B mc ms : Nat}
def w_X7_gain (q : Int32 → hS → Prop) (S : hS) (v0 : Nat) (v1 : Int32) (v2 : Int32) : Prop := gP S v0 7 1 (fun x2 => aI S x2 v1 (fun x6 => ∀ y10 : Int32, y10 = (if x6 < v2 then x6 else v2) → gP S v0 7 1 (fun x13 => aI S x13 v1 (fun x17 => q ((y10 * x17) - ((y10 * (y10 - 1)) / 2)) S))))
set_option maxRecDepth 100000 in
set_option maxHeartbeats 4000000 in
theorem c_X7_gain (l : Launch) (G : hG) (B : Nat) (S : hS) (v0 : Nat) (v1 : Int32) (v2 : Int32) (q : Int32 → hS → Prop) : Met l yX7_gain (hws yX7_gain cX7_gain 4 (Option.some FieldType.int)) ({ frames := 1, cells := 0, slots := 0, locals := 60 }) (hPc G B S [.ref v0, .int v1, .int v2] (w_X7_gain q S v0 v1 v2)) (hQ G B (iP q)) (0) (0) (fun r => B ≤ r) := by
  refine hMet (rm := { frames := 1, cells := 0, slots := 0, locals := 60 }) (lv := [some (.ref v0), some (.int v1), some (.int v2), none]) (own := RX7) (fr := 1) (lo := 60) (by decide) rfl rfl rfl (Nat.le_of_ble_eq_true rfl) rfl (fun hw p e R s m args below meth c hC hr hlk hnm => ?_)
  unfold w_X7_gain at hw
  refine z_iload_n hC dX7_gain_0 rfl rfl ?_
  refine z_aload_n hC dX7_gain_1 rfl rfl ?_
  refine z_getP hC FX7 1 lk_497 dX7_gain_2 (by decide) hw (fun x2 hw => ?_)
  refine z_iload_n hC dX7_gain_5 rfl rfl ?_
  refine z_aldI hC dX7_gain_6 hw (fun x6 hw => ?_)
  refine z_mmin hC lk_1251 lk_657 lk_134 lk_658 dX7_gain_7 (by decide) (Nat.le_of_ble_eq_true rfl) ?_
  refine z_nmI (fun y10 e10 => ?_)
  have hw := hw y10 e10
  refine z_istore_n (i := 3) (lv' := [some (.ref v0), some (.int v1), some (.int v2), some (.int y10)]) hC rfl dX7_gain_10 (by decide) (hok_v rfl rfl) rfl ?_
  refine z_iload_n hC dX7_gain_11 rfl rfl ?_
  refine z_aload_n hC dX7_gain_12 rfl rfl ?_
  refine z_getP hC FX7 1 lk_497 dX7_gain_13 (by decide) hw (fun x13 hw => ?_)
  refine z_iload_n hC dX7_gain_16 rfl rfl ?_
  refine z_aldI hC dX7_gain_17 hw (fun x17 hw => ?_)
  refine z_imul hC dX7_gain_18 ?_
  refine z_iload_n hC dX7_gain_19 rfl rfl ?_
  refine z_iload_n hC dX7_gain_20 rfl rfl ?_
  refine z_iconst hC ic_1 dX7_gain_21 ?_
  refine z_isub hC dX7_gain_22 ?_
  refine z_imul hC dX7_gain_23 ?_
  refine z_iconst hC ic_2 dX7_gain_24 ?_
  refine z_idiv hC (by decide) dX7_gain_25 ?_
  refine z_isub hC dX7_gain_26 ?_
  exact z_iret hC hr hlk dX7_gain_27 ⟨_, rfl, hw⟩
end
section
variable {p : Program} {l : Launch} {e : Env} {R : Room} {s : State} {m : MethodId} {args : Array Value} {below : List Frame} {meth : Method} {c : Code} {G : hG} {B mc ms : Nat}
def w_X7_firstBestUse_b2 (q : Int32 → hS → Prop) : Nat → hS → (Nat) → (Int32) → (Int32) → (Int32) → Prop
  | 0, _, _, _, _, _ => False
  | n + 1, S, v0, v1, v2, v3 => (v2 ≤ v3 → q v2 S) ∧ (¬ v2 ≤ v3 → oK S v0 7 ∧ w_X7_gain (fun x10 S => gP S v0 7 3 (fun x14 => w_X7_entry (fun x23 S => aI S x14 x23 (fun x26 => gP S v0 7 3 (fun x29 => w_X7_entry (fun x34 S => aI S x29 x34 (fun x37 => (¬ (x10 + x26) = x37 → ∀ y43 : Int32, y43 = v3 + 1 → w_X7_firstBestUse_b2 q n S v0 v1 v2 y43) ∧ ((x10 + x26) = x37 → q v3 S))) S v1 v2))) S (v1 + 1) (v2 - v3))) S v0 v1 v3)
set_option maxRecDepth 100000 in
set_option maxHeartbeats 4000000 in
theorem t_X7_firstBestUse_b2 (hC : zC p R s m args c cX7_firstBestUse 4 RX7 G B mc ms 2 83) (hr : meth.sig.returnType = (Option.some FieldType.int)) (hlk : meth.locks = false) (hnm : meth.name = "firstBestUse") {q : Int32 → hS → Prop} (n : Nat) : ∀ {S : hS} {v0 : Nat} {v1 : Int32} {v2 : Int32} {v3 : Int32} (hw : w_X7_firstBestUse_b2 q n S v0 v1 v2 v3), Z p l e R s m args below meth c (MQ below (hQ G B (iP q)) args s mc ms (fun r => B ≤ r)) G B mc ms 4 S 0 0 2 [some (.ref v0), some (.int v1), some (.int v2), some (.int v3)] [] := by
  induction n with
  | zero => intro S v0 v1 v2 v3 hw; exact (by rw [w_X7_firstBestUse_b2] at hw; exact hw.elim)
  | succ n ih =>
    intro S v0 v1 v2 v3 hw
    rw [w_X7_firstBestUse_b2] at hw
    refine z_iload_n hC dX7_firstBestUse_2 rfl rfl ?_
    refine z_iload_n hC dX7_firstBestUse_3 rfl rfl ?_
    refine z_icmp_ge (tgt := 49) hC dX7_firstBestUse_4 (by decide) (fun c4 => ?_) (fun c4 => ?_)
    · have hw := hw.1 c4
      refine z_iload_n hC dX7_firstBestUse_49 rfl rfl ?_
      exact z_iret hC hr hlk dX7_firstBestUse_50 ⟨_, rfl, hw⟩
    · have hw := hw.2 c4
      refine z_aload_n hC dX7_firstBestUse_7 rfl rfl ?_
      refine z_iload_n hC dX7_firstBestUse_8 rfl rfl ?_
      refine z_iload_n hC dX7_firstBestUse_9 rfl rfl ?_
      refine z_callV (ku' := 0) (kv' := 0) (n := 2) (As := [.int v1, .int v3]) (st := []) hC (c_X7_gain l G B S v0 v1 v3 _) hw.2 hw.1 rfl lk_1247 lk_1249 lk_35 lk_132 lk_1250 hd_X7_gain rfl rfl (Nat.le_of_ble_eq_true rfl) (Nat.le_of_ble_eq_true rfl) rfl (Nat.le_of_ble_eq_true rfl) dX7_firstBestUse_10 (Nat.le_refl 0) (Nat.le_refl 0) (kI (fun x10 S hw => ?_))
      refine z_aload_n hC dX7_firstBestUse_13 rfl rfl ?_
      refine z_getP hC FX7 3 lk_501 dX7_firstBestUse_14 (by decide) hw (fun x14 hw => ?_)
      refine z_iload_n hC dX7_firstBestUse_17 rfl rfl ?_
      refine z_iconst hC ic_1 dX7_firstBestUse_18 ?_
      refine z_iadd hC dX7_firstBestUse_19 ?_
      refine z_iload_n hC dX7_firstBestUse_20 rfl rfl ?_
      refine z_iload_n hC dX7_firstBestUse_21 rfl rfl ?_
      refine z_isub hC dX7_firstBestUse_22 ?_
      refine z_callS (ku' := 0) (kv' := 0) (n := 2) (As := [.int (v1 + 1), .int (v2 - v3)]) (st := [.ref x14, .int x10]) hC (c_X7_entry l G B S (v1 + 1) (v2 - v3) _) hw lk_1244 lk_1245 lk_132 lk_1246 hd_X7_entry rfl rfl (Nat.le_of_ble_eq_true rfl) (Nat.le_of_ble_eq_true rfl) rfl (Nat.le_of_ble_eq_true rfl) dX7_firstBestUse_23 (Nat.le_refl 0) (Nat.le_refl 0) (kI (fun x23 S hw => ?_))
      refine z_aldI hC dX7_firstBestUse_26 hw (fun x26 hw => ?_)
      refine z_iadd hC dX7_firstBestUse_27 ?_
      refine z_aload_n hC dX7_firstBestUse_28 rfl rfl ?_
      refine z_getP hC FX7 3 lk_501 dX7_firstBestUse_29 (by decide) hw (fun x29 hw => ?_)
      refine z_iload_n hC dX7_firstBestUse_32 rfl rfl ?_
      refine z_iload_n hC dX7_firstBestUse_33 rfl rfl ?_
      refine z_callS (ku' := 0) (kv' := 0) (n := 2) (As := [.int v1, .int v2]) (st := [.ref x29, .int (x10 + x26)]) hC (c_X7_entry l G B S v1 v2 _) hw lk_1244 lk_1245 lk_132 lk_1246 hd_X7_entry rfl rfl (Nat.le_of_ble_eq_true rfl) (Nat.le_of_ble_eq_true rfl) rfl (Nat.le_of_ble_eq_true rfl) dX7_firstBestUse_34 (Nat.le_refl 0) (Nat.le_refl 0) (kI (fun x34 S hw => ?_))
      refine z_aldI hC dX7_firstBestUse_37 hw (fun x37 hw => ?_)
      refine z_icmp_ne (tgt := 43) hC dX7_firstBestUse_38 (by decide) (fun c38 => ?_) (fun c38 => ?_)
      · have hw := hw.1 c38
        refine z_inc (i := 3) hC ic_1 dX7_firstBestUse_43 rfl (by decide) (hok_v rfl rfl) (fun y43 e43 => ?_)
        have hw := hw y43 e43
        refine z_goto (tgt := 2) hC dX7_firstBestUse_46 (by decide) ?_
        refine z_mask (lv' := [some (.ref v0), some (.int v1), some (.int v2), some (.int y43)]) [true, true, true, true] rfl ?_
        exact ih hw
      · have hw := hw.2 c38
        refine z_iload_n hC dX7_firstBestUse_41 rfl rfl ?_
        exact z_iret hC hr hlk dX7_firstBestUse_42 ⟨_, rfl, hw⟩
def w_X7_firstBestUse (q : Int32 → hS → Prop) (S : hS) (v0 : Nat) (v1 : Int32) (v2 : Int32) : Prop := (∃ n2 : Nat, w_X7_firstBestUse_b2 q n2 S v0 v1 v2 0)
set_option maxRecDepth 100000 in
set_option maxHeartbeats 4000000 in
theorem c_X7_firstBestUse (l : Launch) (G : hG) (B : Nat) (S : hS) (v0 : Nat) (v1 : Int32) (v2 : Int32) (q : Int32 → hS → Prop) : Met l yX7_firstBestUse (hws yX7_firstBestUse cX7_firstBestUse 4 (Option.some FieldType.int)) ({ frames := 2, cells := 0, slots := 0, locals := 83 }) (hPc G B S [.ref v0, .int v1, .int v2] (w_X7_firstBestUse q S v0 v1 v2)) (hQ G B (iP q)) (0) (0) (fun r => B ≤ r) := by
  refine hMet (rm := { frames := 2, cells := 0, slots := 0, locals := 83 }) (lv := [some (.ref v0), some (.int v1), some (.int v2), none]) (own := RX7) (fr := 2) (lo := 83) (by decide) rfl rfl rfl (Nat.le_of_ble_eq_true rfl) rfl (fun hw p e R s m args below meth c hC hr hlk hnm => ?_)
  unfold w_X7_firstBestUse at hw
  refine z_iconst hC ic_0 dX7_firstBestUse_0 ?_
  refine z_istore_n (i := 3) (lv' := [some (.ref v0), some (.int v1), some (.int v2), some (.int 0)]) hC rfl dX7_firstBestUse_1 (by decide) (hok_v rfl rfl) rfl ?_
  refine z_mask (lv' := [some (.ref v0), some (.int v1), some (.int v2), some (.int 0)]) [true, true, true, true] rfl ?_
  obtain ⟨n2, hw⟩ := hw
  exact t_X7_firstBestUse_b2 hC hr hlk hnm n2 hw
end
section
variable {p : Program} {l : Launch} {e : Env} {R : Room} {s : State} {m : MethodId} {args : Array Value} {below : List Frame} {meth : Method} {c : Code} {G : hG} {B mc ms : Nat}
def w_X7_keepRings_b47 (q : Int32 → hS → Prop) (K28 : hS → (Nat) → (Int32) → (Int32) → (Int32) → Prop) (K35 : hS → (Nat) → (Int32) → (Int32) → (Int32) → (Int32) → Prop) : Nat → hS → (Nat) → (Int32) → (Int32) → (Int32) → (Int32) → (Int32) → (Int32) → Prop
  | 0, _, _, _, _, _, _, _, _ => False
  | n + 1, S, v0, v1, v2, v3, v4, v5, v6 => (v4 < v6 → gP S v0 7 3 (fun x92 => w_X7_entry (fun x98 S => sI S x92 x98 v5 (fun S => ∀ y104 : Int32, y104 = v4 + 1 → K35 S v0 v1 v2 v3 y104)) S v3 v4)) ∧ (¬ v4 < v6 → oK S v0 7 ∧ w_X7_gain (fun x60 S => gP S v0 7 3 (fun x64 => w_X7_entry (fun x75 S => aI S x64 x75 (fun x78 => ∀ y83 : Int32, y83 = (if v5 < (x60 + x78) then (x60 + x78) else v5) → ∀ y85 : Int32, y85 = v6 + 1 → w_X7_keepRings_b47 q K28 K35 n S v0 v1 v2 v3 v4 y83 y85)) S (v3 + 1) (v4 - v6))) S v0 v3 v6)
set_option maxRecDepth 100000 in
set_option maxHeartbeats 4000000 in
theorem t_X7_keepRings_b47 (hC : zC p R s m args c cX7_keepRings 7 RX7 G B mc ms 3 106) (hr : meth.sig.returnType = (Option.some FieldType.int)) (hlk : meth.locks = false) (hnm : meth.name = "keepRings") {q : Int32 → hS → Prop} {K28 : hS → (Nat) → (Int32) → (Int32) → (Int32) → Prop} (hK28 : ∀ {S : hS} {v0 : Nat} {v1 : Int32} {v2 : Int32} {v3 : Int32}, K28 S v0 v1 v2 v3 → Z p l e R s m args below meth c (MQ below (hQ G B (iP q)) args s mc ms (fun r => B ≤ r)) G B mc ms 7 S 0 0 28 [some (.ref v0), some (.int v1), some (.int v2), some (.int v3), none, none, none] []) {K35 : hS → (Nat) → (Int32) → (Int32) → (Int32) → (Int32) → Prop} (hK35 : ∀ {S : hS} {v0 : Nat} {v1 : Int32} {v2 : Int32} {v3 : Int32} {v4 : Int32}, K35 S v0 v1 v2 v3 v4 → Z p l e R s m args below meth c (MQ below (hQ G B (iP q)) args s mc ms (fun r => B ≤ r)) G B mc ms 7 S 0 0 35 [some (.ref v0), some (.int v1), some (.int v2), some (.int v3), some (.int v4), none, none] []) (n : Nat) : ∀ {S : hS} {v0 : Nat} {v1 : Int32} {v2 : Int32} {v3 : Int32} {v4 : Int32} {v5 : Int32} {v6 : Int32} (hw : w_X7_keepRings_b47 q K28 K35 n S v0 v1 v2 v3 v4 v5 v6), Z p l e R s m args below meth c (MQ below (hQ G B (iP q)) args s mc ms (fun r => B ≤ r)) G B mc ms 7 S 0 0 47 [some (.ref v0), some (.int v1), some (.int v2), some (.int v3), some (.int v4), some (.int v5), some (.int v6)] [] := by
  induction n with
  | zero => intro S v0 v1 v2 v3 v4 v5 v6 hw; exact (by rw [w_X7_keepRings_b47] at hw; exact hw.elim)
  | succ n ih =>
    intro S v0 v1 v2 v3 v4 v5 v6 hw
    rw [w_X7_keepRings_b47] at hw
    refine z_iload hC dX7_keepRings_47 rfl ?_
    refine z_iload hC dX7_keepRings_49 rfl ?_
    refine z_icmp_gt (tgt := 91) hC dX7_keepRings_51 (by decide) (fun c51 => ?_) (fun c51 => ?_)
    · have hw := hw.1 c51
      refine z_aload_n hC dX7_keepRings_91 rfl rfl ?_
      refine z_getP hC FX7 3 lk_501 dX7_keepRings_92 (by decide) hw (fun x92 hw => ?_)
      refine z_iload_n hC dX7_keepRings_95 rfl rfl ?_
      refine z_iload hC dX7_keepRings_96 rfl ?_
      refine z_callS (ku' := 0) (kv' := 0) (n := 2) (As := [.int v3, .int v4]) (st := [.ref x92]) hC (c_X7_entry l G B S v3 v4 _) hw lk_1244 lk_1245 lk_132 lk_1246 hd_X7_entry rfl rfl (Nat.le_of_ble_eq_true rfl) (Nat.le_of_ble_eq_true rfl) rfl (Nat.le_of_ble_eq_true rfl) dX7_keepRings_98 (Nat.le_refl 0) (Nat.le_refl 0) (kI (fun x98 S hw => ?_))
      refine z_iload hC dX7_keepRings_101 rfl ?_
      refine z_astI hC dX7_keepRings_103 hw (fun S hw => ?_)
      refine z_inc (i := 4) hC ic_1 dX7_keepRings_104 rfl (by decide) (hok_v rfl rfl) (fun y104 e104 => ?_)
      have hw := hw y104 e104
      refine z_goto (tgt := 35) hC dX7_keepRings_107 (by decide) ?_
      refine z_mask (lv' := [some (.ref v0), some (.int v1), some (.int v2), some (.int v3), some (.int y104), none, none]) [true, true, true, true, true, false, false] rfl ?_
      exact hK35 hw
    · have hw := hw.2 c51
      refine z_iload hC dX7_keepRings_54 rfl ?_
      refine z_aload_n hC dX7_keepRings_56 rfl rfl ?_
      refine z_iload_n hC dX7_keepRings_57 rfl rfl ?_
      refine z_iload hC dX7_keepRings_58 rfl ?_
      refine z_callV (ku' := 0) (kv' := 0) (n := 2) (As := [.int v3, .int v6]) (st := [.int v5]) hC (c_X7_gain l G B S v0 v3 v6 _) hw.2 hw.1 rfl lk_1247 lk_1249 lk_35 lk_132 lk_1250 hd_X7_gain rfl rfl (Nat.le_of_ble_eq_true rfl) (Nat.le_of_ble_eq_true rfl) rfl (Nat.le_of_ble_eq_true rfl) dX7_keepRings_60 (Nat.le_refl 0) (Nat.le_refl 0) (kI (fun x60 S hw => ?_))
      refine z_aload_n hC dX7_keepRings_63 rfl rfl ?_
      refine z_getP hC FX7 3 lk_501 dX7_keepRings_64 (by decide) hw (fun x64 hw => ?_)
      refine z_iload_n hC dX7_keepRings_67 rfl rfl ?_
      refine z_iconst hC ic_1 dX7_keepRings_68 ?_
      refine z_iadd hC dX7_keepRings_69 ?_
      refine z_iload hC dX7_keepRings_70 rfl ?_
      refine z_iload hC dX7_keepRings_72 rfl ?_
      refine z_isub hC dX7_keepRings_74 ?_
      refine z_callS (ku' := 0) (kv' := 0) (n := 2) (As := [.int (v3 + 1), .int (v4 - v6)]) (st := [.ref x64, .int x60, .int v5]) hC (c_X7_entry l G B S (v3 + 1) (v4 - v6) _) hw lk_1244 lk_1245 lk_132 lk_1246 hd_X7_entry rfl rfl (Nat.le_of_ble_eq_true rfl) (Nat.le_of_ble_eq_true rfl) rfl (Nat.le_of_ble_eq_true rfl) dX7_keepRings_75 (Nat.le_refl 0) (Nat.le_refl 0) (kI (fun x75 S hw => ?_))
      refine z_aldI hC dX7_keepRings_78 hw (fun x78 hw => ?_)
      refine z_iadd hC dX7_keepRings_79 ?_
      refine z_mmax hC lk_1252 lk_645 lk_134 lk_646 dX7_keepRings_80 (by decide) (Nat.le_of_ble_eq_true rfl) ?_
      refine z_nmI (fun y83 e83 => ?_)
      have hw := hw y83 e83
      refine z_istore (i := 5) (lv' := [some (.ref v0), some (.int v1), some (.int v2), some (.int v3), some (.int v4), some (.int y83), some (.int v6)]) hC dX7_keepRings_83 (by decide) (hok_v rfl rfl) rfl ?_
      refine z_inc (i := 6) hC ic_1 dX7_keepRings_85 rfl (by decide) (hok_v rfl rfl) (fun y85 e85 => ?_)
      have hw := hw y85 e85
      refine z_goto (tgt := 47) hC dX7_keepRings_88 (by decide) ?_
      refine z_mask (lv' := [some (.ref v0), some (.int v1), some (.int v2), some (.int v3), some (.int v4), some (.int y83), some (.int y85)]) [true, true, true, true, true, true, true] rfl ?_
      exact ih hw
def w_X7_keepRings_b35 (q : Int32 → hS → Prop) (K28 : hS → (Nat) → (Int32) → (Int32) → (Int32) → Prop) : Nat → hS → (Nat) → (Int32) → (Int32) → (Int32) → (Int32) → Prop
  | 0, _, _, _, _, _, _ => False
  | n + 1, S, v0, v1, v2, v3, v4 => (v1 < v4 → ∀ y110 : Int32, y110 = v3 + (-1) → K28 S v0 v1 v2 y110) ∧ (¬ v1 < v4 → (∃ n47 : Nat, w_X7_keepRings_b47 q K28 (fun S v0 v1 v2 v3 v4 => w_X7_keepRings_b35 q K28 n S v0 v1 v2 v3 v4) n47 S v0 v1 v2 v3 v4 0 0))
set_option maxRecDepth 100000 in
set_option maxHeartbeats 4000000 in
theorem t_X7_keepRings_b35 (hC : zC p R s m args c cX7_keepRings 7 RX7 G B mc ms 3 106) (hr : meth.sig.returnType = (Option.some FieldType.int)) (hlk : meth.locks = false) (hnm : meth.name = "keepRings") {q : Int32 → hS → Prop} {K28 : hS → (Nat) → (Int32) → (Int32) → (Int32) → Prop} (hK28 : ∀ {S : hS} {v0 : Nat} {v1 : Int32} {v2 : Int32} {v3 : Int32}, K28 S v0 v1 v2 v3 → Z p l e R s m args below meth c (MQ below (hQ G B (iP q)) args s mc ms (fun r => B ≤ r)) G B mc ms 7 S 0 0 28 [some (.ref v0), some (.int v1), some (.int v2), some (.int v3), none, none, none] []) (n : Nat) : ∀ {S : hS} {v0 : Nat} {v1 : Int32} {v2 : Int32} {v3 : Int32} {v4 : Int32} (hw : w_X7_keepRings_b35 q K28 n S v0 v1 v2 v3 v4), Z p l e R s m args below meth c (MQ below (hQ G B (iP q)) args s mc ms (fun r => B ≤ r)) G B mc ms 7 S 0 0 35 [some (.ref v0), some (.int v1), some (.int v2), some (.int v3), some (.int v4), none, none] [] := by
  induction n with
  | zero => intro S v0 v1 v2 v3 v4 hw; exact (by rw [w_X7_keepRings_b35] at hw; exact hw.elim)
  | succ n ih =>
    intro S v0 v1 v2 v3 v4 hw
    rw [w_X7_keepRings_b35] at hw
    refine z_iload hC dX7_keepRings_35 rfl ?_
    refine z_iload_n hC dX7_keepRings_37 rfl rfl ?_
    refine z_icmp_gt (tgt := 110) hC dX7_keepRings_38 (by decide) (fun c38 => ?_) (fun c38 => ?_)
    · have hw := hw.1 c38
      refine z_inc (i := 3) hC ic_m1 dX7_keepRings_110 rfl (by decide) (hok_v rfl rfl) (fun y110 e110 => ?_)
      have hw := hw y110 e110
      refine z_goto (tgt := 28) hC dX7_keepRings_113 (by decide) ?_
      refine z_mask (lv' := [some (.ref v0), some (.int v1), some (.int v2), some (.int y110), none, none, none]) [true, true, true, true, false, false, false] rfl ?_
      exact hK28 hw
    · have hw := hw.2 c38
      refine z_iconst hC ic_0 dX7_keepRings_41 ?_
      refine z_istore (i := 5) (lv' := [some (.ref v0), some (.int v1), some (.int v2), some (.int v3), some (.int v4), some (.int 0), none]) hC dX7_keepRings_42 (by decide) (hok_v rfl rfl) rfl ?_
      refine z_iconst hC ic_0 dX7_keepRings_44 ?_
      refine z_istore (i := 6) (lv' := [some (.ref v0), some (.int v1), some (.int v2), some (.int v3), some (.int v4), some (.int 0), some (.int 0)]) hC dX7_keepRings_45 (by decide) (hok_v rfl rfl) rfl ?_
      refine z_mask (lv' := [some (.ref v0), some (.int v1), some (.int v2), some (.int v3), some (.int v4), some (.int 0), some (.int 0)]) [true, true, true, true, true, true, true] rfl ?_
      obtain ⟨n47, hw⟩ := hw
      exact t_X7_keepRings_b47 hC hr hlk hnm hK28 (fun hw => ih hw) n47 hw
def w_X7_keepRings_b121 (q : Int32 → hS → Prop) : Nat → hS → (Nat) → (Int32) → (Int32) → (Int32) → (Int32) → Prop
  | 0, _, _, _, _, _, _ => False
  | n + 1, S, v0, v1, v2, v3, v4 => (v2 ≤ v4 → gP S v0 7 3 (fun x158 => w_X7_entry (fun x163 S => aI S x158 x163 (fun x166 => q x166 S)) S 0 v1)) ∧ (¬ v2 ≤ v4 → gP S v0 7 2 (fun x128 => oK S v0 7 ∧ w_X7_firstBestUse (fun x137 S => sI S x128 v4 x137 (fun S => gP S v0 7 2 (fun x143 => aI S x143 v4 (fun x148 => ∀ y150 : Int32, y150 = (v3 - x148) → ∀ y151 : Int32, y151 = v4 + 1 → w_X7_keepRings_b121 q n S v0 v1 v2 y150 y151)))) S v0 v4 v3))
set_option maxRecDepth 100000 in
set_option maxHeartbeats 4000000 in
theorem t_X7_keepRings_b121 (hC : zC p R s m args c cX7_keepRings 7 RX7 G B mc ms 3 106) (hr : meth.sig.returnType = (Option.some FieldType.int)) (hlk : meth.locks = false) (hnm : meth.name = "keepRings") {q : Int32 → hS → Prop} (n : Nat) : ∀ {S : hS} {v0 : Nat} {v1 : Int32} {v2 : Int32} {v3 : Int32} {v4 : Int32} (hw : w_X7_keepRings_b121 q n S v0 v1 v2 v3 v4), Z p l e R s m args below meth c (MQ below (hQ G B (iP q)) args s mc ms (fun r => B ≤ r)) G B mc ms 7 S 0 0 121 [some (.ref v0), some (.int v1), some (.int v2), some (.int v3), some (.int v4), none, none] [] := by
  induction n with
  | zero => intro S v0 v1 v2 v3 v4 hw; exact (by rw [w_X7_keepRings_b121] at hw; exact hw.elim)
  | succ n ih =>
    intro S v0 v1 v2 v3 v4 hw
    rw [w_X7_keepRings_b121] at hw
    refine z_iload hC dX7_keepRings_121 rfl ?_
    refine z_iload_n hC dX7_keepRings_123 rfl rfl ?_
    refine z_icmp_ge (tgt := 157) hC dX7_keepRings_124 (by decide) (fun c124 => ?_) (fun c124 => ?_)
    · have hw := hw.1 c124
      refine z_aload_n hC dX7_keepRings_157 rfl rfl ?_
      refine z_getP hC FX7 3 lk_501 dX7_keepRings_158 (by decide) hw (fun x158 hw => ?_)
      refine z_iconst hC ic_0 dX7_keepRings_161 ?_
      refine z_iload_n hC dX7_keepRings_162 rfl rfl ?_
      refine z_callS (ku' := 0) (kv' := 0) (n := 2) (As := [.int 0, .int v1]) (st := [.ref x158]) hC (c_X7_entry l G B S 0 v1 _) hw lk_1244 lk_1245 lk_132 lk_1246 hd_X7_entry rfl rfl (Nat.le_of_ble_eq_true rfl) (Nat.le_of_ble_eq_true rfl) rfl (Nat.le_of_ble_eq_true rfl) dX7_keepRings_163 (Nat.le_refl 0) (Nat.le_refl 0) (kI (fun x163 S hw => ?_))
      refine z_aldI hC dX7_keepRings_166 hw (fun x166 hw => ?_)
      exact z_iret hC hr hlk dX7_keepRings_167 ⟨_, rfl, hw⟩
    · have hw := hw.2 c124
      refine z_aload_n hC dX7_keepRings_127 rfl rfl ?_
      refine z_getP hC FX7 2 lk_499 dX7_keepRings_128 (by decide) hw (fun x128 hw => ?_)
      refine z_iload hC dX7_keepRings_131 rfl ?_
      refine z_aload_n hC dX7_keepRings_133 rfl rfl ?_
      refine z_iload hC dX7_keepRings_134 rfl ?_
      refine z_iload_n hC dX7_keepRings_136 rfl rfl ?_
      refine z_callV (ku' := 0) (kv' := 0) (n := 2) (As := [.int v4, .int v3]) (st := [.int v4, .ref x128]) hC (c_X7_firstBestUse l G B S v0 v4 v3 _) hw.2 hw.1 rfl lk_1253 lk_1255 lk_36 lk_132 lk_1256 hd_X7_firstBestUse rfl rfl (Nat.le_of_ble_eq_true rfl) (Nat.le_of_ble_eq_true rfl) rfl (Nat.le_of_ble_eq_true rfl) dX7_keepRings_137 (Nat.le_refl 0) (Nat.le_refl 0) (kI (fun x137 S hw => ?_))
      refine z_astI hC dX7_keepRings_140 hw (fun S hw => ?_)
      refine z_iload_n hC dX7_keepRings_141 rfl rfl ?_
      refine z_aload_n hC dX7_keepRings_142 rfl rfl ?_
      refine z_getP hC FX7 2 lk_499 dX7_keepRings_143 (by decide) hw (fun x143 hw => ?_)
      refine z_iload hC dX7_keepRings_146 rfl ?_
      refine z_aldI hC dX7_keepRings_148 hw (fun x148 hw => ?_)
      refine z_isub hC dX7_keepRings_149 ?_
      refine z_nmI (fun y150 e150 => ?_)
      have hw := hw y150 e150
      refine z_istore_n (i := 3) (lv' := [some (.ref v0), some (.int v1), some (.int v2), some (.int y150), some (.int v4), none, none]) hC rfl dX7_keepRings_150 (by decide) (hok_v rfl rfl) rfl ?_
      refine z_inc (i := 4) hC ic_1 dX7_keepRings_151 rfl (by decide) (hok_v rfl rfl) (fun y151 e151 => ?_)
      have hw := hw y151 e151
      refine z_goto (tgt := 121) hC dX7_keepRings_154 (by decide) ?_
      refine z_mask (lv' := [some (.ref v0), some (.int v1), some (.int v2), some (.int y150), some (.int y151), none, none]) [true, true, true, true, true, false, false] rfl ?_
      exact ih hw
def w_X7_keepRings_b28 (q : Int32 → hS → Prop) : Nat → hS → (Nat) → (Int32) → (Int32) → (Int32) → Prop
  | 0, _, _, _, _, _ => False
  | n + 1, S, v0, v1, v2, v3 => (v3 < 0 → (∃ n121 : Nat, w_X7_keepRings_b121 q n121 S v0 v1 v2 v1 0)) ∧ (¬ v3 < 0 → (∃ n35 : Nat, w_X7_keepRings_b35 q (fun S v0 v1 v2 v3 => w_X7_keepRings_b28 q n S v0 v1 v2 v3) n35 S v0 v1 v2 v3 0))
set_option maxRecDepth 100000 in
set_option maxHeartbeats 4000000 in
theorem t_X7_keepRings_b28 (hC : zC p R s m args c cX7_keepRings 7 RX7 G B mc ms 3 106) (hr : meth.sig.returnType = (Option.some FieldType.int)) (hlk : meth.locks = false) (hnm : meth.name = "keepRings") {q : Int32 → hS → Prop} (n : Nat) : ∀ {S : hS} {v0 : Nat} {v1 : Int32} {v2 : Int32} {v3 : Int32} (hw : w_X7_keepRings_b28 q n S v0 v1 v2 v3), Z p l e R s m args below meth c (MQ below (hQ G B (iP q)) args s mc ms (fun r => B ≤ r)) G B mc ms 7 S 0 0 28 [some (.ref v0), some (.int v1), some (.int v2), some (.int v3), none, none, none] [] := by
  induction n with
  | zero => intro S v0 v1 v2 v3 hw; exact (by rw [w_X7_keepRings_b28] at hw; exact hw.elim)
  | succ n ih =>
    intro S v0 v1 v2 v3 hw
    rw [w_X7_keepRings_b28] at hw
    refine z_iload_n hC dX7_keepRings_28 rfl rfl ?_
    refine z_if_lt (tgt := 116) hC dX7_keepRings_29 (by decide) (fun c29 => ?_) (fun c29 => ?_)
    · have hw := hw.1 c29
      refine z_iload_n hC dX7_keepRings_116 rfl rfl ?_
      refine z_istore_n (i := 3) (lv' := [some (.ref v0), some (.int v1), some (.int v2), some (.int v1), none, none, none]) hC rfl dX7_keepRings_117 (by decide) (hok_v rfl rfl) rfl ?_
      refine z_iconst hC ic_0 dX7_keepRings_118 ?_
      refine z_istore (i := 4) (lv' := [some (.ref v0), some (.int v1), some (.int v2), some (.int v1), some (.int 0), none, none]) hC dX7_keepRings_119 (by decide) (hok_v rfl rfl) rfl ?_
      refine z_mask (lv' := [some (.ref v0), some (.int v1), some (.int v2), some (.int v1), some (.int 0), none, none]) [true, true, true, true, true, false, false] rfl ?_
      obtain ⟨n121, hw⟩ := hw
      exact t_X7_keepRings_b121 hC hr hlk hnm n121 hw
    · have hw := hw.2 c29
      refine z_iconst hC ic_0 dX7_keepRings_32 ?_
      refine z_istore (i := 4) (lv' := [some (.ref v0), some (.int v1), some (.int v2), some (.int v3), some (.int 0), none, none]) hC dX7_keepRings_33 (by decide) (hok_v rfl rfl) rfl ?_
      refine z_mask (lv' := [some (.ref v0), some (.int v1), some (.int v2), some (.int v3), some (.int 0), none, none]) [true, true, true, true, true, false, false] rfl ?_
      obtain ⟨n35, hw⟩ := hw
      exact t_X7_keepRings_b35 hC hr hlk hnm (fun hw => ih hw) n35 hw
def w_X7_keepRings_b2 (q : Int32 → hS → Prop) : Nat → hS → (Nat) → (Int32) → (Int32) → (Int32) → Prop
  | 0, _, _, _, _, _ => False
  | n + 1, S, v0, v1, v2, v3 => (v1 < v3 → ∀ y27 : Int32, y27 = (v2 - 1) → (∃ n28 : Nat, w_X7_keepRings_b28 q n28 S v0 v1 v2 y27)) ∧ (¬ v1 < v3 → gP S v0 7 3 (fun x8 => w_X7_entry (fun x13 S => sI S x8 x13 0 (fun S => ∀ y18 : Int32, y18 = v3 + 1 → w_X7_keepRings_b2 q n S v0 v1 v2 y18)) S v2 v3))
set_option maxRecDepth 100000 in
set_option maxHeartbeats 4000000 in
theorem t_X7_keepRings_b2 (hC : zC p R s m args c cX7_keepRings 7 RX7 G B mc ms 3 106) (hr : meth.sig.returnType = (Option.some FieldType.int)) (hlk : meth.locks = false) (hnm : meth.name = "keepRings") {q : Int32 → hS → Prop} (n : Nat) : ∀ {S : hS} {v0 : Nat} {v1 : Int32} {v2 : Int32} {v3 : Int32} (hw : w_X7_keepRings_b2 q n S v0 v1 v2 v3), Z p l e R s m args below meth c (MQ below (hQ G B (iP q)) args s mc ms (fun r => B ≤ r)) G B mc ms 7 S 0 0 2 [some (.ref v0), some (.int v1), some (.int v2), some (.int v3), none, none, none] [] := by
  induction n with
  | zero => intro S v0 v1 v2 v3 hw; exact (by rw [w_X7_keepRings_b2] at hw; exact hw.elim)
  | succ n ih =>
    intro S v0 v1 v2 v3 hw
    rw [w_X7_keepRings_b2] at hw
    refine z_iload_n hC dX7_keepRings_2 rfl rfl ?_
    refine z_iload_n hC dX7_keepRings_3 rfl rfl ?_
    refine z_icmp_gt (tgt := 24) hC dX7_keepRings_4 (by decide) (fun c4 => ?_) (fun c4 => ?_)
    · have hw := hw.1 c4
      refine z_iload_n hC dX7_keepRings_24 rfl rfl ?_
      refine z_iconst hC ic_1 dX7_keepRings_25 ?_
      refine z_isub hC dX7_keepRings_26 ?_
      refine z_nmI (fun y27 e27 => ?_)
      have hw := hw y27 e27
      refine z_istore_n (i := 3) (lv' := [some (.ref v0), some (.int v1), some (.int v2), some (.int y27), none, none, none]) hC rfl dX7_keepRings_27 (by decide) (hok_v rfl rfl) rfl ?_
      refine z_mask (lv' := [some (.ref v0), some (.int v1), some (.int v2), some (.int y27), none, none, none]) [true, true, true, true, false, false, false] rfl ?_
      obtain ⟨n28, hw⟩ := hw
      exact t_X7_keepRings_b28 hC hr hlk hnm n28 hw
    · have hw := hw.2 c4
      refine z_aload_n hC dX7_keepRings_7 rfl rfl ?_
      refine z_getP hC FX7 3 lk_501 dX7_keepRings_8 (by decide) hw (fun x8 hw => ?_)
      refine z_iload_n hC dX7_keepRings_11 rfl rfl ?_
      refine z_iload_n hC dX7_keepRings_12 rfl rfl ?_
      refine z_callS (ku' := 0) (kv' := 0) (n := 2) (As := [.int v2, .int v3]) (st := [.ref x8]) hC (c_X7_entry l G B S v2 v3 _) hw lk_1244 lk_1245 lk_132 lk_1246 hd_X7_entry rfl rfl (Nat.le_of_ble_eq_true rfl) (Nat.le_of_ble_eq_true rfl) rfl (Nat.le_of_ble_eq_true rfl) dX7_keepRings_13 (Nat.le_refl 0) (Nat.le_refl 0) (kI (fun x13 S hw => ?_))
      refine z_iconst hC ic_0 dX7_keepRings_16 ?_
      refine z_astI hC dX7_keepRings_17 hw (fun S hw => ?_)
      refine z_inc (i := 3) hC ic_1 dX7_keepRings_18 rfl (by decide) (hok_v rfl rfl) (fun y18 e18 => ?_)
      have hw := hw y18 e18
      refine z_goto (tgt := 2) hC dX7_keepRings_21 (by decide) ?_
      refine z_mask (lv' := [some (.ref v0), some (.int v1), some (.int v2), some (.int y18), none, none, none]) [true, true, true, true, false, false, false] rfl ?_
      exact ih hw
def w_X7_keepRings (q : Int32 → hS → Prop) (S : hS) (v0 : Nat) (v1 : Int32) (v2 : Int32) : Prop := (∃ n2 : Nat, w_X7_keepRings_b2 q n2 S v0 v1 v2 0)
set_option maxRecDepth 100000 in
set_option maxHeartbeats 4000000 in
theorem c_X7_keepRings (l : Launch) (G : hG) (B : Nat) (S : hS) (v0 : Nat) (v1 : Int32) (v2 : Int32) (q : Int32 → hS → Prop) : Met l yX7_keepRings (hws yX7_keepRings cX7_keepRings 7 (Option.some FieldType.int)) ({ frames := 3, cells := 0, slots := 0, locals := 106 }) (hPc G B S [.ref v0, .int v1, .int v2] (w_X7_keepRings q S v0 v1 v2)) (hQ G B (iP q)) (0) (0) (fun r => B ≤ r) := by
  refine hMet (rm := { frames := 3, cells := 0, slots := 0, locals := 106 }) (lv := [some (.ref v0), some (.int v1), some (.int v2), none, none, none, none]) (own := RX7) (fr := 3) (lo := 106) (by decide) rfl rfl rfl (Nat.le_of_ble_eq_true rfl) rfl (fun hw p e R s m args below meth c hC hr hlk hnm => ?_)
  unfold w_X7_keepRings at hw
  refine z_iconst hC ic_0 dX7_keepRings_0 ?_
  refine z_istore_n (i := 3) (lv' := [some (.ref v0), some (.int v1), some (.int v2), some (.int 0), none, none, none]) hC rfl dX7_keepRings_1 (by decide) (hok_v rfl rfl) rfl ?_
  refine z_mask (lv' := [some (.ref v0), some (.int v1), some (.int v2), some (.int 0), none, none, none]) [true, true, true, true, false, false, false] rfl ?_
  obtain ⟨n2, hw⟩ := hw
  exact t_X7_keepRings_b2 hC hr hlk hnm n2 hw
end
