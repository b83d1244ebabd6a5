/-! THE CLASS'S weigh(), EXACTLY -/
theorem cRn_u {code : Nat → Nat × Nat} {e : Nat → Int} {wl hi k : Nat} {st : List Int} (hk : k < hi) : cRn code e wl hi k st = cSt code e wl hi (cRn code e wl hi) k st := by
  have e1 : cRn code e wl hi k st = cSt code e wl hi (cEx code e wl hi (hi - (k + 1))) k st := by
    unfold cRn
    rw [show hi - k = (hi - (k + 1)) + 1 by omega, cEx_s]
  rw [e1]
  refine cSt_congr (fun _ k' st' hk' => ?_)
  unfold cRn
  exact cEx_fuel _ _ _ _ (by omega) (by omega)
theorem cRn_hi {code : Nat → Nat × Nat} {e : Nat → Int} {wl hi k : Nat} {st : List Int} (hk : hi ≤ k) : cRn code e wl hi k st = some (some st) := cEx_hi _ _ _ hk
theorem enc_op {x : Nat × Nat} (h : okX x) : enc x / 2048 = nI x.1 := by
  obtain ⟨h1, h2⟩ := h
  unfold enc
  rw [lit_nI 2048, nIdiv (by omega) (by omega)]
  congr 1
  omega
theorem enc_ar {x : Nat × Nat} (h : okX x) : enc x - enc x / 2048 * 2048 = nI x.2 := by
  rw [enc_op h]
  obtain ⟨h1, h2⟩ := h
  unfold enc
  rw [lit_nI 2048, nImul, nIsub (by omega)]
  congr 1
  omega
/-- the pile as the class has it: the top is st's first -/
def stS (S : hS) (sa : Nat) (st : List Int) : Prop := aV S sa 0 = 1 ∧ ∀ j, (h : j < st.length) → (aV S sa (st.length - j)).toInt = st[j]
section CG
variable {Γ : kG} {Φ : kF} {S : hS} {a b c n d id m κ : Nat} {ρa ρb : Nat → Nat} {zz : Nat × (Nat → Nat)}
theorem stS.push {S S' : hS} {sa : Nat} {st : List Int} {x : Int32} (h : stS S sa st) (e : ∀ j, aV S' sa j = if j = st.length + 1 then x else aV S sa j) : stS S' sa (x.toInt :: st) := by
  refine ⟨by rw [e, if_neg (by omega)]; exact h.1, fun j hj => ?_⟩
  rw [List.length_cons] at hj ⊢
  rw [e]
  cases j with
  | zero => rw [if_pos (by omega)]; rfl
  | succ j =>
    rw [if_neg (by omega), show st.length + 1 - (j + 1) = st.length - j by omega, List.getElem_cons_succ]
    exact h.2 j (by omega)
theorem stS.put {S S' : hS} {sa : Nat} {y : Int} {st : List Int} {x : Int32} (h : stS S sa (y :: st)) (e : ∀ j, aV S' sa j = if j = st.length + 1 then x else aV S sa j) : stS S' sa (x.toInt :: st) := by
  refine ⟨by rw [e, if_neg (by omega)]; exact h.1, fun j hj => ?_⟩
  have hj2 : j < st.length + 1 := by simpa using hj
  show (aV S' sa (st.length + 1 - j)).toInt = _
  rw [e]
  cases j with
  | zero => rw [if_pos (by omega)]; rfl
  | succ j =>
    rw [if_neg (by omega)]
    exact h.2 (j + 1) hj2
theorem stS.pop {S : hS} {sa : Nat} {y : Int} {st : List Int} (h : stS S sa (y :: st)) : stS S sa st := by
  refine ⟨h.1, fun j hj => ?_⟩
  have h2 : (aV S sa (st.length + 1 - (j + 1))).toInt = st[j] := h.2 (j + 1) (by simpa using hj)
  rw [show st.length + 1 - (j + 1) = st.length - j by omega] at h2
  exact h2
theorem stS.top {S : hS} {sa : Nat} {y : Int} {st : List Int} (h : stS S sa (y :: st)) : (aV S sa (st.length + 1)).toInt = y := by
  have := h.2 0 (by simp)
  simpa using this
theorem kx_weigh64 {q : Int32 → hS → Prop} {code : Nat → Nat × Nat} {size hi k0' : Nat} {e : Nat → Int} {R : Option (List Int)} (h : St Γ Φ S) (hf : fre Γ Φ [700]) (ha : Γ a = some (6, 6, 0, 0, ρa)) (hb : Γ b = some (10, κ, c, n, ρb)) (hd : Γ d = some (20, id, m, zz)) (hid : id ≠ 700) (hκ : κ = 10 ∨ κ = 19) (hn : size = n ∨ (size ≤ n)) (hs : fI S b 1 = nI size) (hs4 : size ≤ 400) (hhi : hi ≤ size) (hm : m ≤ 100) (hc : ∀ j, j < size → aV S (ρb 6) j = enc (code j) ∧ okX (code j)) (hw : ∀ w, w < m → (aV S d w).toInt = e w ∧ -1000000000 ≤ e w ∧ e w ≤ 1000000000) (hR : cRn code e m hi k0' [] = some R) (hk0 : k0' ≤ hi) (h0 : aV S (ρa 0) 0 = 1) (k : ∀ S', St Γ Φ S' → (R = none → q 2000000000 S') ∧ (R = some [] → q 1 S') ∧ ∀ v l (r : Int32), R = some (v :: l) → r.toInt = v → -1000003000 ≤ v ∧ v ≤ 1000003000 → q r S') : ∃ t, w_X6_weigh_b64 q t S a b d (nI hi) 0 (nI k0') := by
  have ka := (P_6_0 h ha).2
  have kb := (P_10_6 h hb).2
  have nbs : ρb 6 ≠ ρa 0 := nmne kb ka (by dsimp only; omega)
  have nds : d ≠ ρa 0 := nmne hd ka (by dsimp only; omega)
  refine loop_m (σ := hS × Nat × List Int) (fun t s => w_X6_weigh_b64 q t s.1 a b d (nI hi) (nI s.2.2.length) (nI s.2.1)) (fun s => St Γ Φ s.1 ∧ fI s.1 b 1 = nI size ∧ (∀ j, aV s.1 (ρb 6) j = aV S (ρb 6) j) ∧ (∀ j, aV s.1 d j = aV S d j) ∧ stS s.1 (ρa 0) s.2.2 ∧ (∀ x ∈ s.2.2, -1000000000 - (s.2.1 : Int) ≤ x ∧ x ≤ 1000000000 + (s.2.1 : Int)) ∧ s.2.2.length ≤ 51 ∧ s.2.1 ≤ 2500 ∧ cRn code e m hi s.2.1 s.2.2 = some R) (fun s => 3000 - s.2.1) ?_ (S, k0', []) ⟨h, hs, fun _ => rfl, fun _ => rfl, ⟨h0, fun j hj => absurd hj (Nat.not_lt_zero _)⟩, fun x hx => (by cases hx), by simp, by dsimp only; omega, hR⟩
  rintro t ⟨S1, p, st⟩ ⟨h1, f1, vb, vd, hst, hbd, hl, hp, hR1⟩ ih
  dsimp only at h1 f1 vb vd hst hbd hl hp hR1 ih ⊢
  have fin : hi ≤ p → w_X6_weigh_b312 q S1 a (nI st.length) := by
    intro c
    rw [cRn_hi c] at hR1
    have hR1 : R = some st := (Option.some.inj hR1).symm
    obtain ⟨k1, k2, k3⟩ := k S1 h1
    unfold w_X6_weigh_b312
    refine E_gP_6_0 h1 ha (fun hk => T_aI_20 h1 hk (by rw [nI_toInt (by omega)]; omega) (fun x ex _ => ?_))
    rw [nI_clamp (by omega)] at ex
    cases st with
    | nil =>
      rw [ex, show ([] : List Int).length = 0 from rfl, hst.1]
      exact k2 hR1
    | cons v l =>
      have hv := hbd v List.mem_cons_self
      refine k3 v l x hR1 ?_ (by omega)
      rw [ex, List.length_cons]
      exact hst.top
  rw [w_X6_weigh_b64]
  rw [nI_leI (by omega) (by omega)]
  refine ⟨fin, fun c => T_gI_10_1 h1 hb (fun x74 e74 _ => ?_)⟩
  rw [e74, f1, nI_leI (by omega) (by omega)]
  refine ⟨fun c2 => absurd c2 (by omega), fun _ => ?_⟩
  obtain ⟨hc1, hc2⟩ := hc p (by omega)
  have ev : aV S1 (ρb 6) p = enc (code p) := (vb p).trans hc1
  refine E_gP_10_6 h1 hb (fun hk => T_aI_24 h1 hk (by rw [nI_toInt (by omega)]; omega) (fun x86 e86 _ y91 ey91 => E_gP_10_6 h1 hb (fun hk2 => T_aI_24 h1 hk2 (by rw [nI_toInt (by omega)]; omega) (fun x99 e99 _ y104 ey104 => ?_))))
  rw [nI_clamp (by omega), ev] at e86 e99
  rw [e86, enc_op hc2] at ey91
  rw [e99, enc_ar hc2] at ey104
  subst ey91
  subst ey104
  obtain ⟨o12, a2048⟩ := hc2
  rw [cRn_u (by omega)] at hR1
  unfold cSt at hR1
  rw [if_neg c] at hR1
  generalize ho : (code p).1 = op at hR1 o12 ⊢
  generalize har : (code p).2 = arg at hR1 a2048 ⊢
  have l1 : (1 : Int32) < nI op ↔ 1 < op := nI_ltI (a := 1) (by omega) (by omega)
  have l11 : nI op < (11 : Int32) ↔ op < 11 := nI_ltI (b := 11) (by omega) (by omega)
  have q10 : nI op = (10 : Int32) ↔ op = 10 := nI_eq (b := 10) (by omega) (by omega)
  have q11 : nI op = (11 : Int32) ↔ op = 11 := nI_eq (b := 11) (by omega) (by omega)
  have q1 : nI op = (1 : Int32) ↔ op = 1 := nI_eq (b := 1) (by omega) (by omega)
  have q0 : nI op = (0 : Int32) ↔ op = 0 := nI_eq (b := 0) (by omega) (by omega)
  rw [l1, l11, q10, q11, q1]
  -- the next step
  have nxt : ∀ S2 st', St Γ Φ S2 → fI S2 b 1 = nI size → (∀ j, aV S2 (ρb 6) j = aV S (ρb 6) j) → (∀ j, aV S2 d j = aV S d j) → stS S2 (ρa 0) st' → (∀ x ∈ st', -1000000000 - ((p + 1 : Nat) : Int) ≤ x ∧ x ≤ 1000000000 + ((p + 1 : Nat) : Int)) → st'.length ≤ 51 → ∀ p', p + 1 ≤ p' → p' ≤ 2500 → cRn code e m hi p' st' = some R → w_X6_weigh_b64 q t S2 a b d (nI hi) (nI st'.length) (nI p') := by
    intro S2 st' w1 w2 w3 w4 w5 w6 w7 p' w8 w9 w10
    exact ih (S2, p', st') ⟨w1, w2, w3, w4, w5, fun x hx => by have := w6 x hx; dsimp only; omega, w7, w9, w10⟩ (by dsimp only; omega)
  refine ⟨fun c1 => ⟨fun c10 => ⟨fun c11 y261 ey261 => ?_, fun c11 => ?_⟩, fun c10 => ?_⟩, fun c1 y112 ey112 => ?_⟩
  · -- an operation
    rw [if_neg (by omega)] at hR1
    cases st with
    | nil => cases hR1
    | cons x st1 =>
      dsimp only at hR1
      rw [if_neg (by omega), if_neg (by omega)] at hR1
      cases st1 with
      | nil => cases hR1
      | cons y st2 =>
        dsimp only at hR1
        have hx := hbd x List.mem_cons_self
        have hy := hbd y (List.mem_cons_of_mem _ List.mem_cons_self)
        simp only [List.length_cons] at hl ey261
        have e261 : y261 = nI (st2.length + 1) := by
          rw [ey261, nI_pm1]
          have : (1 : Int32) < nI (st2.length + 1) ↔ 1 < st2.length + 1 := nI_ltI (a := 1) (by omega) (by omega)
          by_cases z : 1 < st2.length + 1
          · rw [if_pos (this.mpr z)]
          · rw [if_neg (fun z2 => z (this.mp z2)), show st2.length + 1 = 1 by omega]
            rfl
        subst e261
        refine E_gP_6_0 h1 ha (fun _ => E_gP_6_0 h1 ha (fun hk3 => T_aI_20 h1 hk3 (by rw [nI_toInt (by omega)]; omega) (fun x277 e277 _ => E_gP_6_0 h1 ha (fun _ => ?_))))
        rw [nI_1]
        refine T_aI_20 h1 hk3 (by rw [nI_toInt (by omega)]; omega) (fun x286 e286 _ => ?_)
        rw [nI_clamp (by omega)] at e277 e286
        have t286 : x286.toInt = x := by rw [e286]; exact hst.top
        have t277 : x277.toInt = y := by rw [e277]; exact hst.pop.top
        refine kx_X6_reckon (by omega) (by omega) (by omega) (fun z => ?_) (fun v z r er => ?_)
        · rw [t286, t277] at z
          rw [z] at hR1
          have hRn : R = none := (Option.some.inj hR1).symm
          refine T_sI_20 h1 hf hk3 (by simp) (by rw [nI_toInt (by omega)]; omega) (fun S2 h2 s2 a2 o2 v2 => E_gP_6_0 h2 ha (fun _ => T_aI_20 h2 hk3 (by rw [nI_toInt (by omega)]; omega) (fun x297 e297 _ => ?_)))
          rw [nI_clamp (by omega), v2, if_pos (by rw [nI_clamp (by omega)])] at e297
          rw [e297]
          exact ⟨fun z => absurd rfl z, fun _ => (k S2 h2).1 hRn⟩
        · rw [t286, t277] at z
          rw [z] at hR1
          dsimp only at hR1
          have hv := opD_le z
          refine T_sI_20 h1 hf hk3 (by simp) (by rw [nI_toInt (by omega)]; omega) (fun S2 h2 s2 a2 o2 v2 => E_gP_6_0 h2 ha (fun _ => T_aI_20 h2 hk3 (by rw [nI_toInt (by omega)]; omega) (fun x297 e297 _ => ?_)))
          rw [nI_clamp (by omega)] at v2 e297
          rw [v2, if_pos rfl] at e297
          have nb : ¬ x297 = 2000000000 := fun z => by
            have := congrArg Int32.toInt z
            rw [e297, er, show (2000000000 : Int32).toInt = 2000000000 by decide] at this
            omega
          refine ⟨fun _ => ?_, fun z => absurd z nb⟩
          unfold w_X6_weigh_b306
          intro y306 ey306
          rw [ey306, nI_1]
          have hst2 := hst.pop.put v2
          rw [er] at hst2
          have := nxt S2 (v :: st2) h2 (by rw [s2.I]; exact f1) (fun j => (a2 _ j nbs).trans (vb j)) (fun j => (a2 _ j nds).trans (vd j)) hst2 (fun x' hx' => ?_) (by simp only [List.length_cons]; omega) (p + 1) (Nat.le_refl _) (by omega) hR1
          · exact this
          · rcases List.mem_cons.mp hx' with rfl | hx'
            · omega
            · have := hbd x' (List.mem_cons_of_mem _ (List.mem_cons_of_mem _ hx'))
              omega
  · -- a skip
    rw [if_neg (by omega)] at hR1
    cases st with
    | nil => cases hR1
    | cons x st1 =>
      dsimp only at hR1
      rw [if_neg (by omega), if_pos (by omega)] at hR1
      simp only [List.length_cons] at hl
      have skip : ∀ (t0 : Int32) (v0 : Int), t0.toInt = v0 → (if x = v0 then cRn code e m hi (max (p + 1) arg) (x :: st1) else cRn code e m hi (p + 1) st1) = some R → w_X6_weigh_b212 q (fun S v0 v1 v4 v6 v7 v8 => w_X6_weigh_b64 q t S v0 v1 v4 v6 v7 v8) S1 a b d (nI hi) (nI (x :: st1).length) (nI p) (nI arg) t0 := by
        intro t0 v0 et hRs
        unfold w_X6_weigh_b212 w_X6_weigh_b250 w_X6_weigh_b306
        simp only [List.length_cons]
        refine E_gP_6_0 h1 ha (fun hk3 => T_aI_20 h1 hk3 (by rw [nI_toInt (by omega)]; omega) (fun x220 e220 _ => ?_))
        rw [nI_clamp (by omega)] at e220
        have t220 : x220.toInt = x := by rw [e220]; exact hst.top
        have ee : x220 = t0 ↔ x = v0 := by
          constructor
          · intro z; rw [← t220, ← et, z]
          · intro z; exact Int32.toInt_inj.mp (by rw [t220, et, z])
        rw [ee]
        refine ⟨fun z y248 ey248 y306 ey306 => ?_, fun z y235 ey235 y306 ey306 => ?_⟩
        · rw [if_neg z] at hRs
          rw [ey306, nI_1]
          have e248 : y248 = nI st1.length := by
            rw [ey248, nI_pm1]
            have : (0 : Int32) < nI st1.length ↔ 0 < st1.length := nI_ltI (a := 0) (by omega) (by omega)
            by_cases z : 0 < st1.length
            · rw [if_pos (this.mpr z)]
            · rw [if_neg (fun z2 => z (this.mp z2)), show st1.length = 0 by omega]
              rfl
          rw [e248]
          exact nxt S1 st1 h1 f1 vb vd hst.pop (fun x' hx' => by have := hbd x' (List.mem_cons_of_mem _ hx'); omega) (by omega) (p + 1) (Nat.le_refl _) (by omega) hRs
        · rw [if_pos z] at hRs
          have e235 : y235 + 1 = nI (max (p + 1) arg) := by
            rw [ey235]
            by_cases a0 : arg = 0
            · have : nI p < nI arg - 1 ↔ False := by
                rw [a0, Int32.lt_iff_toInt_lt, nI_toInt (by omega), show (nI 0 - 1 : Int32).toInt = -1 by decide]
                constructor
                · intro z; omega
                · intro z; exact z.elim
              rw [if_neg (fun z => this.mp z), nI_1]
              congr 1
              omega
            · rw [nI_s1 (by omega)]
              have lt := nI_ltI (a := p) (b := arg - 1) (by omega) (by omega)
              by_cases z : p < arg - 1
              · rw [if_pos (lt.mpr z), nI_1]; congr 1; omega
              · rw [if_neg (fun z2 => z (lt.mp z2)), nI_1]; congr 1; omega
          rw [ey306, e235]
          exact nxt S1 (x :: st1) h1 f1 vb vd hst (fun x' hx' => by have := hbd x' hx'; omega) (by simp only [List.length_cons]; omega) _ (by omega) (by omega) hRs
      refine ⟨fun z => skip 0 0 (by decide) ?_, fun z => skip 1 1 (by decide) ?_⟩
      · rw [if_neg z] at hR1; exact hR1
      · rw [if_pos z] at hR1; exact hR1
  · -- "not"
    rw [if_neg (by omega)] at hR1
    cases st with
    | nil => cases hR1
    | cons x st1 =>
      dsimp only at hR1
      rw [if_pos c10] at hR1
      have hx := hbd x List.mem_cons_self
      simp only [List.length_cons] at hl ⊢
      refine E_gP_6_0 h1 ha (fun _ => E_gP_6_0 h1 ha (fun hk3 => T_aI_20 h1 hk3 (by rw [nI_toInt (by omega)]; omega) (fun x187 e187 _ => T_sI_20 h1 hf hk3 (by simp) (by rw [nI_toInt (by omega)]; omega) (fun S2 h2 s2 a2 o2 v2 => ?_))))
      rw [nI_clamp (by omega)] at v2 e187
      have t187 : x187.toInt = x := by rw [e187]; exact hst.top
      have er : (1 - x187).toInt = 1 - x := by
        rw [fb_subI] <;> rw [t187, show (1 : Int32).toInt = 1 by decide] <;> omega
      unfold w_X6_weigh_b306
      intro y306 ey306
      rw [ey306, nI_1]
      have hst2 := hst.put v2
      rw [er] at hst2
      exact nxt S2 ((1 - x) :: st1) h2 (by rw [s2.I]; exact f1) (fun j => (a2 _ j nbs).trans (vb j)) (fun j => (a2 _ j nds).trans (vd j)) hst2 (fun x' hx' => by
        rcases List.mem_cons.mp hx' with rfl | hx'
        · omega
        · have := hbd x' (List.mem_cons_of_mem _ hx')
          omega) (by simp only [List.length_cons]; omega) (p + 1) (Nat.le_refl _) (by omega) hR1
  · -- a leaf
    rw [if_pos (by omega)] at hR1
    rw [nI_1] at ey112
    subst ey112
    refine E_gP_6_0 h1 ha (fun hk3 => T_aN_20 h1 hk3 (fun x121 e121 => ?_))
    have e52 : x121 = nI 52 := Int32.toInt_inj.mp (by rw [e121, nI_toInt (by omega)])
    rw [e52, nI_leI (by omega) (by omega)]
    have full : (51 ≤ st.length ∨ (op = 1 ∧ m ≤ arg)) → q 2000000000 S1 := by
      intro z
      rw [if_pos z] at hR1
      exact (k S1 h1).1 (Option.some.inj hR1).symm
    refine ⟨fun z => full (Or.inl (by omega)), fun z => ?_⟩
    -- the value is laid
    have lay : ∀ (x : Int32), (op = 1 → arg < m) → x.toInt = (if op = 0 then (arg : Int) else e arg) → w_X6_weigh_b163 q (fun S v0 v1 v4 v6 v7 v8 => w_X6_weigh_b64 q t S v0 v1 v4 v6 v7 v8) S1 a b d (nI hi) (nI (st.length + 1)) (nI p) x (nI (st.length + 1)) (ρa 0) := by
      intro x hop ex
      rw [if_neg (by omega)] at hR1
      have hb2 : -1000000000 ≤ x.toInt ∧ x.toInt ≤ 1000000000 := by
        rw [ex]
        split
        · omega
        · have := (hw arg (hop (by omega))).2
          exact this
      unfold w_X6_weigh_b163 w_X6_weigh_b306
      refine T_sI_20 h1 hf hk3 (by simp) (by rw [nI_toInt (by omega)]; omega) (fun S2 h2 s2 a2 o2 v2 y306 ey306 => ?_)
      rw [nI_clamp (by omega)] at v2
      rw [ey306, nI_1]
      have hst2 := hst.push v2
      rw [← ex] at hR1
      exact nxt S2 (x.toInt :: st) h2 (by rw [s2.I]; exact f1) (fun j => (a2 _ j nbs).trans (vb j)) (fun j => (a2 _ j nds).trans (vd j)) hst2 (fun x' hx' => by
        rcases List.mem_cons.mp hx' with rfl | hx'
        · omega
        · have := hbd x' hx'
          omega) (by simp only [List.length_cons]; omega) (p + 1) (Nat.le_refl _) (by omega) hR1
    have b142 : (op = 1 → arg < m) → w_X6_weigh_b142 q (fun S v0 v1 v4 v6 v7 v8 => w_X6_weigh_b64 q t S v0 v1 v4 v6 v7 v8) S1 a b d (nI hi) (nI (st.length + 1)) (nI p) (nI op) (nI arg) := by
      intro hop
      unfold w_X6_weigh_b142
      rw [q0]
      refine E_gP_6_0 h1 ha (fun _ => ⟨fun z0 => T_aI_20 h1 hd (by rw [nI_toInt (by omega)]; have := hop (by omega); omega) (fun x162 e162 _ => lay x162 hop ?_), fun z0 => lay (nI arg) hop (by rw [if_pos z0, nI_toInt (by omega)])⟩)
      rw [nI_clamp (by omega)] at e162
      rw [if_neg z0, e162, vd]
      exact (hw arg (hop (by omega))).1
    refine ⟨fun z1 => b142 (fun z2 => absurd z2 z1), fun z1 => T_aN_20 h1 hd (fun x135 e135 => ?_)⟩
    have lm : nI arg < x135 ↔ arg < m := by
      rw [Int32.lt_iff_toInt_lt, e135, nI_toInt (by omega)]
      omega
    rw [lm]
    exact ⟨fun z2 => b142 (fun _ => z2), fun z2 => full (Or.inr ⟨z1, by omega⟩)⟩
theorem kx_X6_weigh {q : Int32 → hS → Prop} {cs : List pX} {e : Nat → Int} {j i : Nat} {vj vi : Int32} (h : St Γ Φ S) (hf : fre Γ Φ [700]) (ha : Γ a = some (6, 6, 0, 0, ρa)) (hb : Γ b = some (10, κ, c, n, ρb)) (hκ : κ = 10 ∨ κ = 19) (hd : Γ d = some (20, id, m, zz)) (hid : id ≠ 700) (hm : m ≤ 100) (hx : txR S b ρb cs) (ho : okT m cs) (hj : j < cs.length) (hi : i ≤ 3) (ej : vj = nI j) (ei : vi = nI i) (hw : ∀ w, w < m → (aV S d w).toInt = e w ∧ -1000000000 ≤ e w ∧ e w ≤ 1000000000) (k0 : wgV (xP cs[j] i) e = none → ∀ S', St Γ Φ S' → sam Γ [700] S S' → q 2000000000 S') (k1 : ∀ v (r : Int32) S', wgV (xP cs[j] i) e = some v → r.toInt = v → -1000003000 ≤ v ∧ v ≤ 1000003000 → St Γ Φ S' → sam Γ [700] S S' → q r S') : w_X6_weigh q S a b vj vi d := by
  subst ej
  subst ei
  obtain ⟨x1, x2, x3, x4⟩ := hx
  have x1 : fI S b 0 = nI cs.length := x1
  have x2 : fI S b 1 = nI (xAll cs 0).length := x2
  obtain ⟨o1, o2, o3, o4⟩ := ho
  have lm : (xMk cs 0).length = cs.length := xMk_len cs 0
  have hjm : j < (xMk cs 0).length := by omega
  obtain ⟨y1, y2, y3⟩ := x3 j hjm
  have ec : ((xMk cs 0)[j]).1 = cs[j] := (xMk_at cs 0 j hjm hj).1
  rw [ec] at y3
  have y3 : ∀ t, t < 5 → aV S (ρb 5) (5 * j + t) = nI (xE cs[j] ((xMk cs 0)[j]).2 t) := y3
  obtain ⟨z1, z2⟩ := xPart hj hi hjm
  have z0 : xE cs[j] ((xMk cs 0)[j]).2 i ≤ xE cs[j] ((xMk cs 0)[j]).2 (i + 1) := by
    show _ ≤ _ + _
    omega
  have zl : xE cs[j] ((xMk cs 0)[j]).2 i + (oC (xP cs[j] i) (xE cs[j] ((xMk cs 0)[j]).2 i)).length = xE cs[j] ((xMk cs 0)[j]).2 (i + 1) := rfl
  have hrun := run_part (wl := m) (e := e) (fun a' ha' => o4 cs[j] (List.getElem_mem hj) i a' ha') z1
  rw [zl] at hrun
  -- how many clauses there is room for
  obtain ⟨hc12, hn400⟩ := T_tx h hb
  obtain ⟨b0, b1, b2, b3, b4, b5, b6, eb, r0, r1, -⟩ := h.c10 hb
  dsimp only at r0 r1
  have f0 : fI S b 0 = b0 := fI_of (fv_of eb rfl)
  have f1 : fI S b 1 = b1 := fI_of (fv_of eb rfl)
  have lc : cs.length ≤ c := by
    have := congrArg Int32.toInt (f0.symm.trans x1)
    rw [nI_toInt (by omega)] at this
    omega
  have ln : (xAll cs 0).length ≤ n := by
    have := congrArg Int32.toInt (f1.symm.trans x2)
    rw [nI_toInt (by omega)] at this
    omega
  unfold w_X6_weigh
  refine ⟨fun z => absurd z (nI_ltz (by omega)), fun _ => T_gI_10_0 h hb (fun x6 e6 _ => ?_)⟩
  rw [e6, x1, nI_leI (by omega) (by omega)]
  refine ⟨fun z => by omega, fun _ => ⟨fun z => absurd z (nI_ltz (by omega)), fun _ => ?_⟩⟩
  have l3 : nI i ≤ (3 : Int32) ↔ i ≤ 3 := nI_leI (b := 3) (by omega) (by omega)
  rw [l3]
  refine ⟨fun _ => ?_, fun z => absurd hi z⟩
  have e5 : nI j * 5 + nI i = nI (j * 5 + i) := by rw [lit_nI 5, nImul, nIadd]
  rw [e5, nI_1]
  refine E_gP_10_5 h hb (fun hk => T_aI_23 h hk (by rw [nI_toInt (by omega)]; omega) (fun x33 e33 _ => E_gP_10_5 h hb (fun hk2 => T_aI_23 h hk2 (by rw [nI_toInt (by omega)]; omega) (fun x47 e47 _ => E_gP_6_0 h ha (fun hk3 => ?_)))))
  rw [nI_clamp (by omega), show j * 5 + i = 5 * j + i by omega, y3 i (by omega)] at e33
  rw [nI_clamp (by omega), show j * 5 + i + 1 = 5 * j + (i + 1) by omega, y3 (i + 1) (by omega)] at e47
  rw [e33, e47]
  have hfr := frz_fre (S := S) hf (fun _ x => x)
  refine T_sI_20 (frz_St (L := [700]) h) hfr hk3 (by simp) (by rw [show (0 : Int32).toInt = 0 by decide]; omega) (fun S1 h1 s1 a1 o1' v1 => ?_)
  have kb := (P_10_6 h hb).2
  have nbs : ρb 6 ≠ ρa 0 := nmne kb hk3 (by dsimp only; omega)
  have nds : d ≠ ρa 0 := nmne hd hk3 (by dsimp only; omega)
  have back : ∀ S', St Γ (frz Γ Φ S [700]) S' → St Γ Φ S' ∧ sam Γ [700] S S' := fun S' h' => frz_un h h'
  have go : ∀ R, cRn (fun t => (xAll cs 0).getD t (0, 0)) e m (xE cs[j] ((xMk cs 0)[j]).2 (i + 1)) (xE cs[j] ((xMk cs 0)[j]).2 i) [] = some R → (∀ S', St Γ (frz Γ Φ S [700]) S' → (R = none → q 2000000000 S') ∧ (R = some [] → q 1 S') ∧ ∀ v l (r : Int32), R = some (v :: l) → r.toInt = v → -1000003000 ≤ v ∧ v ≤ 1000003000 → q r S') → ∃ t, w_X6_weigh_b64 q t S1 a b d (nI (xE cs[j] ((xMk cs 0)[j]).2 (i + 1))) 0 (nI (xE cs[j] ((xMk cs 0)[j]).2 i)) := by
    intro R hR hk'
    refine kx_weigh64 (size := (xAll cs 0).length) h1 hfr ha hb hd hid hκ (Or.inr ln) (by rw [s1.I]; exact x2) o2 z2 hm (fun t ht => ?_) (fun w hw' => ?_) hR z0 (by rw [v1, if_pos (by decide)]) hk'
    · rw [a1 _ t nbs]
      have e4 : aV S (ρb 6) t = enc (xAll cs 0)[t] := x4 t ht
      have eg : (xAll cs 0).getD t (0, 0) = (xAll cs 0)[t] := by rw [List.getD_eq_getElem?_getD, List.getElem?_eq_getElem ht]; rfl
      rw [eg]
      exact ⟨e4, o3 _ (List.getElem_mem ht)⟩
    · rw [a1 _ w nds]
      exact hw w hw'
  rcases hrun with ⟨w1, w2⟩ | ⟨w1, ⟨w2, w3⟩ | ⟨v, w2, w3⟩⟩
  · refine go _ w2 (fun S' h' => ⟨fun z => (by cases z), fun _ => ?_, fun v l r z => (by cases z)⟩)
    obtain ⟨g1, g2⟩ := back S' h'
    exact k1 1 1 S' (by rw [w1]; rfl) (by decide) (by omega) g1 g2
  · refine go _ w3 (fun S' h' => ⟨fun _ => ?_, fun z => (by cases z), fun v l r z => (by cases z)⟩)
    obtain ⟨g1, g2⟩ := back S' h'
    exact k0 w2 S' g1 g2
  · refine go _ w3 (fun S' h' => ⟨fun z => (by cases z), fun z => (by cases z), fun v' l r z er hb' => ?_⟩)
    cases z
    obtain ⟨g1, g2⟩ := back S' h'
    exact k1 v r S' w2 er hb' g1 g2
end CG
