/-! texts: String.length, charAt, by hand -/
set_option maxRecDepth 100000 in
theorem c_J3_checkIndex (l : Launch) (G : hG) (B : Nat) (S : hS) (x y : Int32) (r : Option Nat) (q : Int32 → hS → Prop) : Met l yJ3_checkIndex_8e157 (hws yJ3_checkIndex_8e157 cJ3_checkIndex_8e157 3 (some .int)) ({ frames := 1, cells := 0, slots := 0, locals := 60 }) (hPc G B S [.int x, .int y, va_rf r] (¬ x < 0 ∧ x < y ∧ q x S)) (hQ G B (iP q)) 0 0 (fun r => B ≤ r) := by
  refine hMet (rm := { frames := 1, cells := 0, slots := 0, locals := 60 }) (lv := [some (.int x), some (.int y), some (va_rf r)]) (own := RJ3) (fr := 1) (lo := 60) (by decide) rfl rfl rfl (by cases r <;> exact Nat.le_of_ble_eq_true rfl) (by cases r <;> rfl) (fun hw p e R s m args below meth c hC hr hlk hnm => ?_)
  refine z_iload_n hC dJ3_checkIndex_8e157_0 rfl rfl ?_
  refine z_if_lt (tgt := 9) hC dJ3_checkIndex_8e157_1 (by decide) (fun c1 => absurd c1 hw.1) (fun c1 => ?_)
  refine z_iload_n hC dJ3_checkIndex_8e157_4 rfl rfl ?_
  refine z_iload_n hC dJ3_checkIndex_8e157_5 rfl rfl ?_
  refine z_icmp_lt (tgt := 16) hC dJ3_checkIndex_8e157_6 (by decide) (fun c1 => ?_) (fun c1 => absurd hw.2.1 c1)
  refine z_iload_n hC dJ3_checkIndex_8e157_16 rfl rfl ?_
  exact z_iret hC hr hlk dJ3_checkIndex_8e157_17 ⟨_, rfl, hw.2.2⟩
theorem hd_J3_checkIndex : yJ3_checkIndex_8e157.cls ≠ "java/lang/invoke/MethodHandle" ∧ yJ3_checkIndex_8e157.cls ≠ "java/lang/invoke/VarHandle" ∧ (parseMethodDescriptor yJ3_checkIndex_8e157.desc).map (fun d => d.parameters.length) = some 3 := by decide +kernel
set_option maxRecDepth 100000 in
theorem c_J0_checkIndex (l : Launch) (G : hG) (B : Nat) (S : hS) (x y : Int32) (q : hS → Prop) : Met l yJ0_checkIndex_df160 (hws yJ0_checkIndex_df160 cJ0_checkIndex_df160 2 none) ({ frames := 2, cells := 0, slots := 0, locals := 90 }) (hPc G B S [.int x, .int y] (¬ x < 0 ∧ x < y ∧ q S)) (hQ G B (vP q)) 0 0 (fun r => B ≤ r) := by
  refine hMet (rm := { frames := 2, cells := 0, slots := 0, locals := 90 }) (lv := [some (.int x), some (.int y)]) (own := RJ0) (fr := 2) (lo := 90) (by decide) rfl rfl rfl (Nat.le_of_ble_eq_true rfl) rfl (fun hw p e R s m args below meth c hC hr hlk hnm => ?_)
  refine z_iload_n hC dJ0_checkIndex_df160_0 rfl rfl ?_
  refine z_iload_n hC dJ0_checkIndex_df160_1 rfl rfl ?_
  obtain ⟨-, -, -, r0, hZ⟩ := hC.a.2.2.2.2
  refine z_txS hC hZ lk_838 dJ0_checkIndex_df160_2 ?_
  refine z_callSO (n := 3) (As := [.int x, .int y, va_rf r0]) (st := []) hC (c_J3_checkIndex l G B S x y r0 (fun _ S => q S)) hw lk_840 lk_841 lk_137 lk_842 hd_J3_checkIndex rfl rfl (by decide) (by decide) rfl (Nat.le_of_ble_eq_true rfl) dJ0_checkIndex_df160_5 (Nat.le_refl 0) (Nat.le_refl 0) (kI (fun x5 S hw => ?_))
  refine z_pop hC rfl dJ0_checkIndex_df160_8 ?_
  exact z_vret hC hr hlk dJ0_checkIndex_df160_9 ⟨rfl, hw⟩
theorem hd_J0_checkIndex : yJ0_checkIndex_df160.cls ≠ "java/lang/invoke/MethodHandle" ∧ yJ0_checkIndex_df160.cls ≠ "java/lang/invoke/VarHandle" ∧ (parseMethodDescriptor yJ0_checkIndex_df160.desc).map (fun d => d.parameters.length) = some 2 := by decide +kernel
theorem tx_small : ∀ (i : Nat) (r : String × Nat × String × List Nat), hTxs[i]? = some r → r.2.2.2.length < 10 ∧ ∀ k, r.2.2.2.getD k 0 < 128 := by
  intro i r h
  have h1 : r ∈ hTxs := List.mem_of_getElem? h
  have h2 : ∀ r ∈ hTxs, r.2.2.2.length < 10 ∧ r.2.2.2.all (fun n => decide (n < 128)) = true := by decide +kernel
  refine ⟨(h2 r h1).1, fun k => ?_⟩
  rw [List.getD_eq_getElem?_getD]
  cases hk : r.2.2.2[k]? with
  | none => decide
  | some n =>
    have := List.all_eq_true.mp (h2 r h1).2 n (List.mem_of_getElem? hk)
    simpa using this
theorem tx_chr : ∀ n, n < 128 → (((nI n) &&& 255).toUInt32 % 65536).toInt32 = nI n ∧ narrow .char (.int (nI n)) = .int (nI n) := by decide +kernel
set_option maxRecDepth 100000 in
theorem c_J1_charAt (l : Launch) (G : hG) (B : Nat) (S : hS) (i : Nat) (r : String × Nat × String × List Nat) (k : Int32) (q : Int32 → hS → Prop) : Met l yJ1_charAt_3b067 (hws yJ1_charAt_3b067 cJ1_charAt_3b067 2 (some .char)) ({ frames := 3, cells := 0, slots := 0, locals := 120 }) (hPc G B S [.ref (G.2.2.2 (i + 10)), .int k] (hTxs[i]? = some r ∧ vp_in k r.2.2.2.length ∧ q (nI (r.2.2.2.getD k.toNatClampNeg 0)) S)) (hQ G B (iP q)) 0 0 (fun r => B ≤ r) := by
  refine hMet (rm := { frames := 3, cells := 0, slots := 0, locals := 120 }) (lv := [some (.ref (G.2.2.2 (i + 10))), some (.int k)]) (own := RJ1) (fr := 3) (lo := 120) (by decide) rfl rfl rfl (Nat.le_of_ble_eq_true rfl) rfl (fun hw p e R s m args below meth c hC hr hlk hnm => ?_)
  obtain ⟨h1, h2, h3⟩ := hw
  obtain ⟨s1, s2⟩ := tx_small i r h1
  have hT := (hC.a.2.2.2.2.1 i r h1).2.2.2.2
  obtain ⟨j, hj, rfl⟩ := vp_in_of h2 (by omega)
  refine z_iload_n hC dJ1_charAt_3b067_0 rfl rfl ?_
  refine z_aload_n hC dJ1_charAt_3b067_1 rfl rfl ?_
  refine z_txL hC hT rfl dJ1_charAt_3b067_2 ?_
  refine z_callSO (n := 2) (As := [.int (nI j), .int (Int32.ofNat r.2.2.2.length)]) (st := []) hC (c_J0_checkIndex l G B S (nI j) (Int32.ofNat r.2.2.2.length) (fun S => q (nI (r.2.2.2.getD (nI j).toNatClampNeg 0)) S)) ⟨nI_pos (by omega), nI_lt hj (by omega), h3⟩ lk_835 lk_836 lk_135 lk_837 hd_J0_checkIndex rfl rfl (by decide) (by decide) rfl (Nat.le_of_ble_eq_true rfl) dJ1_charAt_3b067_3 (Nat.le_refl 0) (Nat.le_refl 0) (kV (fun S hw => ?_))
  refine z_aload_n hC dJ1_charAt_3b067_6 rfl rfl ?_
  refine z_iload_n hC dJ1_charAt_3b067_7 rfl rfl ?_
  refine z_txB hC hT h2 rfl dJ1_charAt_3b067_8 ?_
  refine z_sipush (v := 255) hC (by decide) dJ1_charAt_3b067_9 ?_
  refine z_iand hC dJ1_charAt_3b067_12 ?_
  obtain ⟨e1, e2⟩ := tx_chr _ (s2 (nI j).toNatClampNeg)
  refine z_i2c hC e1 dJ1_charAt_3b067_13 ?_
  exact z_nret hC hr hlk e2 dJ1_charAt_3b067_14 ⟨_, rfl, hw⟩
theorem hd_J1_charAt : yJ1_charAt_3b067.cls ≠ "java/lang/invoke/MethodHandle" ∧ yJ1_charAt_3b067.cls ≠ "java/lang/invoke/VarHandle" ∧ (parseMethodDescriptor yJ1_charAt_3b067.desc).map (fun d => d.parameters.length) = some 2 := by decide +kernel
set_option maxRecDepth 100000 in
theorem c_J0_coder (l : Launch) (G : hG) (B : Nat) (S : hS) (i : Nat) (q : Int32 → hS → Prop) : Met l yJ0_coder_7d493 (hws yJ0_coder_7d493 cJ0_coder_7d493 1 (some .byte)) ({ frames := 1, cells := 0, slots := 0, locals := 60 }) (hPc G B S [.ref (G.2.2.1 i)] ((∃ r, hTxs[i]? = some r) ∧ q 0 S)) (hQ G B (iP q)) 0 0 (fun r => B ≤ r) := by
  refine hMet (rm := { frames := 1, cells := 0, slots := 0, locals := 60 }) (lv := [some (.ref (G.2.2.1 i))]) (own := RJ0) (fr := 1) (lo := 60) (by decide) rfl rfl rfl (Nat.le_of_ble_eq_true rfl) rfl (fun hw p e R s m args below meth c hC hr hlk hnm => ?_)
  obtain ⟨⟨r, h1⟩, hw⟩ := hw
  refine z_txS hC hC.a.2.2.2.2.2.1 lk_822 dJ0_coder_7d493_0 ?_
  refine z_if_eq (tgt := 13) hC dJ0_coder_7d493_3 (by decide) (fun c1 => absurd c1 (by decide)) (fun c1 => ?_)
  refine z_aload_n hC dJ0_coder_7d493_6 rfl rfl ?_
  refine z_txF hC (hC.a.2.2.2.2.1 i r h1).2.2.1 lk_2083 dJ0_coder_7d493_7 ?_
  refine z_goto (tgt := 14) hC dJ0_coder_7d493_10 (by decide) ?_
  exact z_nret hC hr hlk (by decide) dJ0_coder_7d493_14 ⟨_, rfl, hw⟩
theorem hd_J0_coder : yJ0_coder_7d493.cls = "java/lang/String" ∧ yJ0_coder_7d493.cls ≠ "java/lang/invoke/MethodHandle" ∧ yJ0_coder_7d493.cls ≠ "java/lang/invoke/VarHandle" ∧ (parseMethodDescriptor yJ0_coder_7d493.desc).map (fun d => d.parameters.length) = some 0 := by decide +kernel
set_option maxRecDepth 100000 in
theorem c_J0_isLatin1 (l : Launch) (G : hG) (B : Nat) (S : hS) (i : Nat) (q : Int32 → hS → Prop) : Met l yJ0_isLatin1_aae02 (hws yJ0_isLatin1_aae02 cJ0_isLatin1_aae02 1 (some .boolean)) ({ frames := 1, cells := 0, slots := 0, locals := 60 }) (hPc G B S [.ref (G.2.2.1 i)] ((∃ r, hTxs[i]? = some r) ∧ q 1 S)) (hQ G B (iP q)) 0 0 (fun r => B ≤ r) := by
  refine hMet (rm := { frames := 1, cells := 0, slots := 0, locals := 60 }) (lv := [some (.ref (G.2.2.1 i))]) (own := RJ0) (fr := 1) (lo := 60) (by decide) rfl rfl rfl (Nat.le_of_ble_eq_true rfl) rfl (fun hw p e R s m args below meth c hC hr hlk hnm => ?_)
  obtain ⟨⟨r, h1⟩, hw⟩ := hw
  refine z_txS hC hC.a.2.2.2.2.2.1 lk_822 dJ0_isLatin1_aae02_0 ?_
  refine z_if_eq (tgt := 17) hC dJ0_isLatin1_aae02_3 (by decide) (fun c1 => absurd c1 (by decide)) (fun c1 => ?_)
  refine z_aload_n hC dJ0_isLatin1_aae02_6 rfl rfl ?_
  refine z_txF hC (hC.a.2.2.2.2.1 i r h1).2.2.1 lk_2083 dJ0_isLatin1_aae02_7 ?_
  refine z_if_ne (tgt := 17) hC dJ0_isLatin1_aae02_10 (by decide) (fun c1 => absurd rfl c1) (fun c1 => ?_)
  refine z_iconst (v := 1) hC (by decide) dJ0_isLatin1_aae02_13 ?_
  refine z_goto (tgt := 18) hC dJ0_isLatin1_aae02_14 (by decide) ?_
  exact z_nret hC hr hlk (by decide) dJ0_isLatin1_aae02_18 ⟨_, rfl, hw⟩
theorem hd_J0_isLatin1 : yJ0_isLatin1_aae02.cls = "java/lang/String" ∧ yJ0_isLatin1_aae02.cls ≠ "java/lang/invoke/MethodHandle" ∧ yJ0_isLatin1_aae02.cls ≠ "java/lang/invoke/VarHandle" ∧ (parseMethodDescriptor yJ0_isLatin1_aae02.desc).map (fun d => d.parameters.length) = some 0 := by decide +kernel
set_option maxRecDepth 100000 in
theorem c_J0_length (l : Launch) (G : hG) (B : Nat) (S : hS) (w : Nat) (q : Int32 → hS → Prop) : Met l yJ0_length_8abf5 (hws yJ0_length_8abf5 cJ0_length_8abf5 1 (some .int)) ({ frames := 2, cells := 0, slots := 0, locals := 90 }) (hPc G B S [.ref w] (sLen G.2.2.1 w q S)) (hQ G B (iP q)) 0 0 (fun r => B ≤ r) := by
  refine hMet (rm := { frames := 2, cells := 0, slots := 0, locals := 90 }) (lv := [some (.ref w)]) (own := RJ0) (fr := 2) (lo := 90) (by decide) rfl rfl rfl (Nat.le_of_ble_eq_true rfl) rfl (fun hw p e R s m args below meth c hC hr hlk hnm => ?_)
  obtain ⟨i, r, h1, rfl, hw⟩ := hw
  obtain ⟨-, hO, -, hV, hT⟩ := hC.a.2.2.2.2.1 i r h1
  refine z_aload_n hC dJ0_length_8abf5_0 rfl rfl ?_
  refine z_txF hC hV lk_2082 dJ0_length_8abf5_1 ?_
  refine z_txL hC hT rfl dJ0_length_8abf5_4 ?_
  refine z_aload_n hC dJ0_length_8abf5_5 rfl rfl ?_
  refine z_callVT (n := 0) (As := []) (st := [.int (Int32.ofNat r.2.2.2.length)]) hC (c_J0_coder l G B S i (fun x S => x = 0 ∧ q (nI r.2.2.2.length) S)) ⟨⟨r, h1⟩, rfl, hw⟩ hO lk_818 lk_819 lk_820 lk_135 lk_821 hd_J0_coder rfl rfl (by decide) (by decide) rfl (Nat.le_of_ble_eq_true rfl) dJ0_length_8abf5_6 (Nat.le_refl 0) (Nat.le_refl 0) (kI (fun x6 S hw => ?_))
  obtain ⟨rfl, hw⟩ := hw
  refine z_ishr hC dJ0_length_8abf5_9 ?_
  rw [show (Int32.ofNat r.2.2.2.length >>> ((0 : Int32) &&& 31)) = nI r.2.2.2.length from sb_shr0 _]
  exact z_iret hC hr hlk dJ0_length_8abf5_10 ⟨_, rfl, hw⟩
theorem hd_J0_length : yJ0_length_8abf5.cls = "java/lang/String" ∧ yJ0_length_8abf5.cls ≠ "java/lang/invoke/MethodHandle" ∧ yJ0_length_8abf5.cls ≠ "java/lang/invoke/VarHandle" ∧ (parseMethodDescriptor yJ0_length_8abf5.desc).map (fun d => d.parameters.length) = some 0 := by decide +kernel
set_option maxRecDepth 100000 in
theorem c_J0_charAt (l : Launch) (G : hG) (B : Nat) (S : hS) (w : Nat) (k : Int32) (q : Int32 → hS → Prop) : Met l yJ0_charAt_5068e (hws yJ0_charAt_5068e cJ0_charAt_5068e 2 (some .char)) ({ frames := 4, cells := 0, slots := 0, locals := 150 }) (hPc G B S [.ref w, .int k] (sChr G.2.2.1 w k q S)) (hQ G B (iP q)) 0 0 (fun r => B ≤ r) := by
  refine hMet (rm := { frames := 4, cells := 0, slots := 0, locals := 150 }) (lv := [some (.ref w), some (.int k)]) (own := RJ0) (fr := 4) (lo := 150) (by decide) rfl rfl rfl (Nat.le_of_ble_eq_true rfl) rfl (fun hw p e R s m args below meth c hC hr hlk hnm => ?_)
  obtain ⟨i, r, h1, rfl, h2, hw⟩ := hw
  obtain ⟨-, hO, -, hV, hT⟩ := hC.a.2.2.2.2.1 i r h1
  obtain ⟨s1, s2⟩ := tx_small i r h1
  refine z_aload_n hC dJ0_charAt_5068e_0 rfl rfl ?_
  refine z_callVT (n := 0) (As := []) (st := []) hC (c_J0_isLatin1 l G B S i (fun x S => x = 1 ∧ q (nI (r.2.2.2.getD k.toNatClampNeg 0)) S)) ⟨⟨r, h1⟩, rfl, hw⟩ hO lk_828 lk_829 lk_830 lk_135 lk_831 hd_J0_isLatin1 rfl rfl (by decide) (by decide) rfl (Nat.le_of_ble_eq_true rfl) dJ0_charAt_5068e_1 (Nat.le_refl 0) (Nat.le_refl 0) (kI (fun x6 S hw => ?_))
  obtain ⟨rfl, hw⟩ := hw
  refine z_if_eq (tgt := 16) hC dJ0_charAt_5068e_4 (by decide) (fun c1 => absurd c1 (by decide)) (fun c1 => ?_)
  refine z_aload_n hC dJ0_charAt_5068e_7 rfl rfl ?_
  refine z_txF hC hV lk_2082 dJ0_charAt_5068e_8 ?_
  refine z_iload_n hC dJ0_charAt_5068e_11 rfl rfl ?_
  refine z_callSO (n := 2) (As := [.ref (G.2.2.2 (i + 10)), .int k]) (st := []) hC (c_J1_charAt l G B S i r k (fun x S => x = nI (r.2.2.2.getD k.toNatClampNeg 0) ∧ q x S)) ⟨h1, h2, rfl, hw⟩ lk_832 lk_833 lk_136 lk_834 hd_J1_charAt rfl rfl (by decide) (by decide) rfl (Nat.le_of_ble_eq_true rfl) dJ0_charAt_5068e_12 (Nat.le_refl 0) (Nat.le_refl 0) (kI (fun x7 S hw => ?_))
  obtain ⟨rfl, hw⟩ := hw
  exact z_nret hC hr hlk (tx_chr _ (s2 _)).2 dJ0_charAt_5068e_15 ⟨_, rfl, hw⟩
theorem hd_J0_charAt : yJ0_charAt_5068e.cls = "java/lang/String" ∧ yJ0_charAt_5068e.cls ≠ "java/lang/invoke/MethodHandle" ∧ yJ0_charAt_5068e.cls ≠ "java/lang/invoke/VarHandle" ∧ (parseMethodDescriptor yJ0_charAt_5068e.desc).map (fun d => d.parameters.length) = some 1 := by decide +kernel
