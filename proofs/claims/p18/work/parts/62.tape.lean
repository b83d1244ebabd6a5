/-! LAYER 2, the class: the tape, the text -/
section TAPE
variable {Γ : kG} {Φ : kF} {S : hS} {a b : Nat} {ρa ρb ρd ρg : Nat → Nat} {κ rs : Nat}
theorem kc_X9_isLetter {q : Int32 → hS → Prop} {v : Int32} (h0 : q 0 S) (h1 : q 1 S) : w_X9_isLetter q S v := ⟨fun _ => h0, fun _ => ⟨fun _ => h0, fun _ => h1⟩⟩
theorem kc_X9_isDigit {q : Int32 → hS → Prop} {v : Int32} (h0 : q 0 S) (h1 : 48 ≤ v.toInt ∧ v.toInt ≤ 57 → q 1 S) : w_X9_isDigit q S v := by
  refine ⟨fun _ => h0, fun h => ⟨fun _ => h0, fun h' => h1 ?_⟩⟩
  rw [Int32.lt_iff_toInt_lt] at h h'
  rw [show (48 : Int32).toInt = 48 from by decide] at h
  rw [show (57 : Int32).toInt = 57 from by decide] at h'
  omega
theorem and255 (x : Int32) : 0 ≤ (x &&& 255).toInt ∧ (x &&& 255).toInt ≤ 255 := by
  have h1 : (x &&& 255).toBitVec.toNat ≤ 255 := by
    rw [Int32.toBitVec_and, BitVec.toNat_and]
    exact Nat.and_le_right
  have h2 : (x &&& 255).toInt = ((x &&& 255).toBitVec.toNat : Int) := by
    rw [← Int32.toInt_toBitVec]
    exact BitVec.toInt_eq_toNat_of_lt (by omega)
  omega
theorem inc1 {x : Int32} (h : 0 ≤ x.toInt ∧ x.toInt < 1000000) : (x + 1).toInt = x.toInt + 1 := by
  rw [fb_addI] <;> rw [show (1 : Int32).toInt = 1 from by decide] <;> omega
theorem lt_of_nle {x y : Int32} (h : ¬ y ≤ x) : x.toInt < y.toInt := by
  rw [Int32.le_iff_toInt_le] at h; omega
theorem kc_adv93 {q : hS → Prop} (h : St Γ Φ S) (hf : fre Γ Φ [9]) (ha : Γ a = some (9, 9, 0, 0, ρa)) (k : ∀ S', St Γ Φ S' → q S') : ∃ n, w_X9_advance_b93 q n S a := by
  refine loop_m (σ := hS) (fun t s => w_X9_advance_b93 q t s a) (fun s => St Γ Φ s) (fun s => (400 - (fI s a 5).toInt).toNat) ?_ S h
  intro t S h ih
  rw [w_X9_advance_b93]
  refine T_gI_9_5 h ha (fun x94 e94 h94 => T_gI_9_1 h ha (fun x98 _ h98 => ⟨fun _ => k _ h, fun hc => ?_⟩))
  have hc := lt_of_nle hc
  refine T_gP_9_0 h ha (fun x105 _ h105 => T_gI_9_5 h ha (fun x109 _ h109 => T_aI_22 h h105 (by omega) (fun x112 _ _ => kc_X9_isLetter ⟨fun _ => k _ h, fun z => absurd rfl z⟩ ⟨fun z => absurd z (by decide), fun _ => T_gI_9_5 h ha (fun x121 _ h121 => ?_)⟩)))
  have e1 := inc1 (x := x121) (by omega)
  refine T_pI_9_5 h hf ha (by simp) (by omega) (fun S1 h1 e5 _ _ => ih S1 h1 ?_)
  rw [e5]
  omega
theorem kc_adv157 {q : hS → Prop} (h : St Γ Φ S) (hf : fre Γ Φ [9]) (ha : Γ a = some (9, 9, 0, 0, ρa)) (k : ∀ S', St Γ Φ S' → q S') : ∃ n, w_X9_advance_b157 q n S a := by
  refine loop_m (σ := hS) (fun t s => w_X9_advance_b157 q t s a) (fun s => St Γ Φ s) (fun s => (400 - (fI s a 5).toInt).toNat) ?_ S h
  intro t S h ih
  rw [w_X9_advance_b157]
  refine T_gI_9_5 h ha (fun x158 e158 h158 => T_gI_9_1 h ha (fun x162 _ h162 => ⟨fun _ => k _ h, fun hc => ?_⟩))
  have hc := lt_of_nle hc
  refine T_gP_9_0 h ha (fun x169 e169 h169 => T_gI_9_5 h ha (fun x173 e173 h173 => T_aI_22 h h169 (by omega) (fun x176 e176 h176 => kc_X9_isDigit ⟨fun _ => k _ h, fun z => absurd rfl z⟩ (fun hd => ⟨fun z => absurd z (by decide), fun _ => ?_⟩))))
  refine T_gI_9_4 h ha (fun x185 _ h185 => T_gP_9_0 h ha (fun x192 e192 h192 => T_gI_9_5 h ha (fun x196 e196 h196 => T_aI_22 h h192 (by omega) (fun x199 e199 h199 => ?_))))
  have e : x199 = x176 := by rw [e199, e176, e192, e196, e169, e173]
  subst e
  refine T_pI_9_4 h hf ha (by simp) ?_ (fun S1 h1 e4 s1 _ => T_gI_9_5 h1 ha (fun x215 e215 h215 => ?_))
  · have t10 : (10 : Int32).toInt = 10 := by decide
    have t48 : (48 : Int32).toInt = 48 := by decide
    have tt : (10000 : Int32).toInt = 10000 := by decide
    have m1 : (x185 * 10).toInt = x185.toInt * 10 := by rw [fb_mulI (by rw [t10]; omega) (by rw [t10]; omega), t10]
    have m2 : (x185 * 10 + x199).toInt = x185.toInt * 10 + x199.toInt := by rw [fb_addI (by rw [m1]; omega) (by rw [m1]; omega), m1]
    have m3 : (x185 * 10 + x199 - 48).toInt = x185.toInt * 10 + x199.toInt - 48 := by rw [fb_subI (by rw [m2, t48]; omega) (by rw [m2, t48]; omega), m2, t48]
    by_cases c : 10000 < x185 * 10 + x199 - 48
    · rw [if_pos c, tt]; omega
    · rw [if_neg c, m3]
      rw [Int32.lt_iff_toInt_lt, m3, tt] at c
      omega
  have e5 : fI S1 a 5 = fI S a 5 := s1.I (by omega)
  rw [e5] at e215 h215
  have e1 := inc1 (x := x215) (by omega)
  refine T_pI_9_5 h1 hf ha (by simp) (by omega) (fun S2 h2 e5 _ _ => ih S2 h2 ?_)
  rw [e5]
  omega
theorem kc_adv46 {q : hS → Prop} (h : St Γ Φ S) (hf : fre Γ Φ [9]) (ha : Γ a = some (9, 9, 0, 0, ρa)) (k : ∀ S', St Γ Φ S' → q S') : w_X9_advance_b46 q S a := by
  unfold w_X9_advance_b46
  refine T_gI_9_3 h ha (fun x48 e48 h48 => T_pI_9_5 h hf ha (by simp) (by omega) (fun S1 h1 e1 s1 _ => T_gI_9_3 h1 ha (fun x55 e55 h55 => T_gI_9_1 h1 ha (fun x59 _ h59 => ⟨fun hc => ?_, fun _ => T_pI_9_2 h1 hf ha (by simp) (fun S2 h2 _ _ _ => k S2 h2)⟩))))
  rw [Int32.lt_iff_toInt_lt] at hc
  have e3 : fI S1 a 3 = fI S a 3 := s1.I (by omega)
  refine T_gP_9_0 h1 ha (fun x74 _ h74 => T_gI_9_3 h1 ha (fun x78 _ h78 => T_aI_22 h1 h74 (by omega) (fun x81 _ _ => kc_X9_isLetter ⟨fun _ => ?_, fun z => absurd rfl z⟩ ⟨fun z => absurd z (by decide), fun _ => T_pI_9_2 h1 hf ha (by simp) (fun S2 h2 _ _ _ => kc_adv93 h2 hf ha k)⟩)))
  refine T_gP_9_0 h1 ha (fun x133 _ h133 => T_gI_9_3 h1 ha (fun x137 _ h137 => T_aI_22 h1 h133 (by omega) (fun x140 _ _ => kc_X9_isDigit ⟨fun _ => ?_, fun z => absurd rfl z⟩ (fun _ => ⟨fun z => absurd z (by decide), fun _ => T_pI_9_2 h1 hf ha (by simp) (fun S2 h2 _ _ _ => T_pI_9_4 h2 hf ha (by simp) (by decide) (fun S3 h3 _ _ _ => kc_adv157 h3 hf ha k))⟩))))
  refine T_pI_9_2 h1 hf ha (by simp) (fun S2 h2 _ s2 _ => T_gI_9_5 h2 ha (fun x233 e233 h233 => ?_))
  have e5 : fI S2 a 5 = fI S1 a 5 := s2.I (by omega)
  rw [e5, e1] at h233
  have e6 := inc1 (x := x233) (by omega)
  rw [e3] at h55
  exact T_pI_9_5 h2 hf ha (by simp) (by omega) (fun S3 h3 _ _ _ => k S3 h3)
theorem kc_X9_advance {q : hS → Prop} (h : St Γ Φ S) (hf : fre Γ Φ [9]) (ha : Γ a = some (9, 9, 0, 0, ρa)) (k : ∀ S', St Γ Φ S' → q S') : w_X9_advance q S a := by
  unfold w_X9_advance
  refine T_gI_9_5 h ha (fun x2 _ h2 => T_pI_9_3 h hf ha (by simp) (by omega) (fun S1 h1 _ _ _ => ?_))
  refine loop_m (σ := hS) (fun t s => w_X9_advance_b8 q t s a) (fun s => St Γ Φ s) (fun s => (400 - (fI s a 3).toInt).toNat) ?_ S1 h1
  intro t S h ih
  rw [w_X9_advance_b8]
  refine T_gI_9_3 h ha (fun x9 _ h9 => T_gI_9_1 h ha (fun x13 _ h13 => ⟨fun _ => kc_adv46 h hf ha k, fun hc => ?_⟩))
  have hc := lt_of_nle hc
  refine T_gP_9_0 h ha (fun x20 _ h20 => T_gI_9_3 h ha (fun x24 _ h24 => T_aI_22 h h20 (by omega) (fun x27 _ _ => ⟨fun _ => kc_adv46 h hf ha k, fun _ => T_gI_9_3 h ha (fun x35 _ h35 => ?_)⟩)))
  have e1 := inc1 (x := x35) (by omega)
  refine T_pI_9_3 h hf ha (by simp) (by omega) (fun S2 h2 e3 _ _ => ih S2 h2 ?_)
  rw [e3]
  omega
theorem kc_X9_rewind {q : hS → Prop} (h : St Γ Φ S) (hf : fre Γ Φ [9]) (ha : Γ a = some (9, 9, 0, 0, ρa)) (k : ∀ S', St Γ Φ S' → q S') : w_X9_rewind q S a := by
  unfold w_X9_rewind
  exact T_pI_9_5 h hf ha (by simp) (by decide) (fun S1 h1 _ _ _ => T_oK_9 h1 ha (kc_X9_advance h1 hf ha k))
theorem kc_X9_isSign {q : Int32 → hS → Prop} {v : Int32} (h : St Γ Φ S) (ha : Γ a = some (9, 9, 0, 0, ρa)) (h0 : q 0 S) (h1 : q 1 S) : w_X9_isSign q S a v := by
  unfold w_X9_isSign
  refine T_gI_9_2 h ha (fun _ _ _ => ⟨fun _ => h0, fun _ => T_gI_9_3 h ha (fun x9 _ h9 => T_gI_9_1 h ha (fun x13 _ h13 => ⟨fun _ => h0, fun hc => ?_⟩))⟩)
  have hc := lt_of_nle hc
  exact T_gP_9_0 h ha (fun x20 _ h20 => T_gI_9_3 h ha (fun x24 _ h24 => T_aI_22 h h20 (by omega) (fun _ _ _ => ⟨fun _ => h0, fun _ => h1⟩)))
theorem kc_X9_isNumber {q : Int32 → hS → Prop} {v w : Int32} (h : St Γ Φ S) (ha : Γ a = some (9, 9, 0, 0, ρa)) (h0 : q 0 S) (h1 : q 1 S) : w_X9_isNumber q S a v w := by
  unfold w_X9_isNumber
  exact T_gI_9_2 h ha (fun _ _ _ => ⟨fun _ => h0, fun _ => T_gI_9_4 h ha (fun _ _ _ => ⟨fun _ => h0, fun _ => T_gI_9_4 h ha (fun _ _ _ => ⟨fun _ => h0, fun _ => h1⟩)⟩)⟩)
theorem kc_X9_isWord {tx : Nat → Nat} {q : Int32 → hS → Prop} {j : Nat} (h : St Γ Φ S) (ha : Γ a = some (9, 9, 0, 0, ρa)) (hj : j < 28) (h0 : q 0 S) (h1 : q 1 S) : w_X9_isWord tx q S a (tx j) := by
  have hl : hTxs.length = 28 := by decide
  obtain ⟨r, hr⟩ : ∃ r, hTxs[j]? = some r := ⟨hTxs[j]'(by omega), List.getElem?_eq_getElem (by omega)⟩
  have hs := (tx_small j r hr).1
  unfold w_X9_isWord
  refine T_gI_9_2 h ha (fun _ _ _ => ⟨fun _ => h0, fun _ => T_gI_9_5 h ha (fun x9 _ h9 => T_gI_9_3 h ha (fun x13 _ h13 => ⟨j, r, hr, rfl, fun hc => ?_, fun _ => h0⟩))⟩)
  have hc2 : x9.toInt - x13.toInt = r.2.2.2.length := by
    have e := congrArg Int32.toInt hc
    rw [fb_subI (by omega) (by omega), nI_toInt (by omega)] at e
    exact e
  refine loop_m (σ := Int32) (fun t s => w_X9_isWord_b28 tx q t S a (tx j) s) (fun s => 0 ≤ s.toInt) (fun s => (1000 - s.toInt).toNat) ?_ 0 (by rw [z0I]; omega)
  intro t x hx ih
  rw [w_X9_isWord_b28]
  refine ⟨j, r, hr, rfl, fun _ => h1, fun hn => ?_⟩
  have hn := lt_of_nle hn
  rw [nI_toInt (by omega)] at hn
  refine T_gP_9_0 h ha (fun x37 _ h37 => T_gI_9_3 h ha (fun x41 _ h41 => ?_))
  have e1 : (x41 + x).toInt = x41.toInt + x.toInt := fb_addI (by omega) (by omega)
  refine T_aI_22 h h37 (by omega) (fun x46 _ _ => ⟨j, r, hr, rfl, vin (by omega), fun _ y hy => ?_, fun _ => h0⟩)
  have e2 := inc1 (x := x) (by omega)
  subst hy
  exact ih _ (by omega) (by omega)
theorem kc_X9_addFour {q : hS → Prop} {v : Int32} (h : St Γ Φ S) (hf : fre Γ Φ [9, 1000]) (ha : Γ a = some (9, 9, 0, 0, ρa)) (k : ∀ S', St Γ Φ S' → q S') : w_X9_addFour q S a v := by
  unfold w_X9_addFour
  refine loop_m (σ := hS × Int32) (fun t s => w_X9_addFour_b3 q t s.1 a v s.2) (fun s => St Γ Φ s.1 ∧ -8 ≤ s.2.toInt ∧ s.2.toInt ≤ 24) (fun s => (s.2.toInt + 8).toNat) ?_ (S, 24) ⟨h, by dsimp only; rw [show (24 : Int32).toInt = 24 from by decide]; omega⟩
  rintro t ⟨S, x⟩ ⟨h, hx⟩ ih
  dsimp only at h hx ih ⊢
  rw [w_X9_addFour_b3]
  refine ⟨fun _ => k _ h, fun hn => T_gI_9_1 h ha (fun x8 _ h8 => ⟨fun _ => k _ h, fun hc => ?_⟩)⟩
  have hc := lt_of_nle hc
  rw [show (400 : Int32).toInt = 400 from by decide] at hc
  rw [Int32.lt_iff_toInt_lt, z0I] at hn
  have hb : 0 ≤ ((v >>> (x &&& 31)) &&& 255).toInt ∧ ((v >>> (x &&& 31)) &&& 255).toInt ≤ 255 := and255 _
  refine T_gP_9_0 h ha (fun x18 _ h18 => T_gI_9_1 h ha (fun x22 _ h22 => T_sI_22 h hf h18 (by simp) (by omega) hb (fun S1 h1 e1 _ _ _ => T_gI_9_1 h1 ha (fun x35 _ h35 => ?_))))
  rw [e1.I] at h35
  have e2 := inc1 (x := x35) (by omega)
  refine T_pI_9_1 h1 hf ha (by simp) (by omega) (fun S2 h2 _ _ _ y hy => ?_)
  have e3 : y.toInt = x.toInt - 8 := by
    rw [hy, fb_addI] <;> rw [show (-8 : Int32).toInt = -8 from by decide] <;> omega
  clear hy hb
  exact ih (S2, y) ⟨h2, by dsimp only; omega⟩ (by dsimp only; omega)
end TAPE
