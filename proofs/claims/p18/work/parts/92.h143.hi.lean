/-! THE REFERENCE'S START, EXACTLY -/
/-- the state at the start -/
def t0 : aS := ((upd (upd (fun _ => 0) 4 (-1)) 6 3, fun _ => []), fun _ => none, [], (fun _ => 0, 0), (fun k => if k = 0 ∨ k = 1 then -1 else 0), (fun _ => 0), fun _ => 0)
theorem rr_0 {gs : Nat → Nat → Int64} (h : cnM (mA (mZ gs) 3 (upd (upd ((mZ gs).2.2.1 3) 4 (-1)) 6 3))) : RR (mA (mZ gs) 3 (upd (upd ((mZ gs).2.2.1 3) 4 (-1)) 6 3)) 0 t0 := by
  have z0 : (0 : Int32).toInt = 0 := by decide
  refine ⟨⟨?_, ?_⟩, fun k hk => ⟨fun _ => rfl, fun t ht => by cases ht⟩, ⟨rfl, undU_0⟩, ⟨rfl, Nat.zero_le _, fun i _ => rfl, fun i => (show 0 < 256 by omega)⟩, ⟨rfl, rfl, rfl⟩, fun j _ => rfl, ⟨Or.inr ⟨rfl, rfl⟩, Or.inr ⟨rfl, rfl⟩, fun j _ => rfl⟩, rfl, h⟩
  · show cut (upd (upd (fun _ => 0) 4 (-1)) 6 3) = upd (upd (fun _ => 0) 4 (-1)) 6 3
    funext i
    unfold cut upd
    by_cases c : i < 185
    · rw [if_pos c]
    · rw [if_neg c, if_neg (by omega), if_neg (by omega)]
  · have e : iR (upd (upd ((mZ gs).2.2.1 3) 4 (-1)) 6 3) 3 = 0 := by
      unfold iR
      rw [upd_ne _ _ (by omega), upd_ne _ _ (by omega)]
      exact z0
    exact ⟨fun i hi => absurd hi (by show ¬ (i : Int) < iR (upd (upd ((mZ gs).2.2.1 3) 4 (-1)) 6 3) 3; rw [e]; omega), fun i hi => absurd hi (by show ¬ (i : Int) < iR (upd (upd ((mZ gs).2.2.1 3) 4 (-1)) 6 3) 3; rw [e]; omega)⟩
theorem wd31 : ∀ k, (h : k < lwW.length) → (vp_updL (vp_updL (vp_updL (vp_updL (vp_updL (vp_updL (vp_updL (vp_updL (vp_updL (fun _ => 0) (Int32.toNatClampNeg 0) 542723566) (Int32.toNatClampNeg 1) 1253) (Int32.toNatClampNeg 2) 17484389) (Int32.toNatClampNeg 3) 8902245) (Int32.toNatClampNeg 4) 24282713) (Int32.toNatClampNeg 5) 398548) (Int32.toNatClampNeg 6) 824370) (Int32.toNatClampNeg 7) 655) (Int32.toNatClampNeg 8) 441828 : Nat → Int64) k = jN (wL (lwW[k]).1 : Nat) := by decide +kernel
theorem wd32 : ∀ k, (h : k < orW.length) → (vp_updL (vp_updL (vp_updL (vp_updL (vp_updL (vp_updL (vp_updL (fun _ => 0) (Int32.toNatClampNeg 0) 824370) (Int32.toNatClampNeg 1) 146885) (Int32.toNatClampNeg 2) 404362868) (Int32.toNatClampNeg 3) 412820935) (Int32.toNatClampNeg 4) 17484389) (Int32.toNatClampNeg 5) 398548) (Int32.toNatClampNeg 6) 24282713 : Nat → Int64) k = jN (wL (orW[k]).1 : Nat) := by decide +kernel
theorem wd33 : ∀ k, (h : k < hdW.length) → (vp_updL (vp_updL (vp_updL (vp_updL (vp_updL (fun _ => 0) (Int32.toNatClampNeg 0) 21285043) (Int32.toNatClampNeg 1) 3657363) (Int32.toNatClampNeg 2) 24627848) (Int32.toNatClampNeg 3) 16258515) (Int32.toNatClampNeg 4) 67155 : Nat → Int64) k = jN (wL (hdW[k]).1 : Nat) := by decide +kernel
theorem wd51 : ∀ k, (h : k < acW.length) → (vp_updL (vp_updL (vp_updL (vp_updL (fun _ => 0) (Int32.toNatClampNeg 0) 599495) (Int32.toNatClampNeg 1) 628108) (Int32.toNatClampNeg 2) 4389) (Int32.toNatClampNeg 3) 525939 : Nat → Int64) k = jN (wL (acW[k]).1 : Nat) := by decide +kernel
section HIN
variable {Γ : kG} {S₀ S : hS} {o : Nat} {fs : List Value} {L : List (Nat × Nat × hE)}
theorem R_sJx {P : hS → Prop} {k a n : Nat} {f : Nat → Int64} {i : Int32} {x : Int64} (h : RI Γ S₀ S o fs ((k, a, .inl (1, n, .inr (.inl f))) :: L)) (hi : vp_in i n) (hL : ∀ y ∈ L, y.1 ≠ k) (k' : ∀ S' g, g = vp_updL f i.toNatClampNeg x → RI Γ S₀ S' o fs ((k, a, .inl (1, n, .inr (.inl g))) :: L) → P S') : sJ S a i x P := by
  obtain ⟨h1, h2, h3, h4, h5⟩ := h
  obtain ⟨a1, a2, a3⟩ := h4 _ List.mem_cons_self
  refine ⟨n, f, a1, hi, k' _ (vp_updL f i.toNatClampNeg x) rfl ⟨fun b τ hb => ?_, h2, by rw [hset_ne _ _ (fun e => a3 e.symm)]; exact h3, fun y hy => ?_, fun y hy z hz e => ?_⟩⟩
  · rw [hset_ne _ _ (fun e => by rw [e, a2] at hb; cases hb)]; exact h1 b τ hb
  · rcases List.mem_cons.mp hy with rfl | hy
    · exact ⟨hset_self _ _ _, a2, a3⟩
    · obtain ⟨b1, b2, b3⟩ := h4 y (List.mem_cons_of_mem _ hy)
      rw [hset_ne _ _ (fun e => hL y hy (h5 y (List.mem_cons_of_mem _ hy) _ List.mem_cons_self e))]
      exact ⟨b1, b2, b3⟩
  · rcases List.mem_cons.mp hy with rfl | hy <;> rcases List.mem_cons.mp hz with rfl | hz
    · rfl
    · exact h5 _ List.mem_cons_self z (List.mem_cons_of_mem _ hz) e
    · exact h5 y (List.mem_cons_of_mem _ hy) (k, a, .inl (1, n, .inr (.inl f))) List.mem_cons_self e
    · exact h5 y (List.mem_cons_of_mem _ hy) z (List.mem_cons_of_mem _ hz) e
set_option maxHeartbeats 4000000 in
theorem hi_X12 {q : hS → Prop} {x : Nat} {ρ : Nat → Nat} (h : RI Γ S₀ S o FX12_0 []) (h0 : St Γ (fun _ => none) S₀) (hC : CR Γ S₀ x ρ 0 t0) (hk : ∀ S' M, HV S' x o M 0 t0 0 t0 → q S') : w_X12_init q S o := by
  unfold w_X12_init
  refine R_mkI (n := 7) 2 h (by decide) (by decide) (fun S1 o7 h1 => ?_)
  refine R_pP h1 (by simp only [FX12_0, List.length_cons, List.length_nil]; omega) (fun S2 h2 => ?_)
  simp only [FX12_0, List.set] at h2
  refine R_mkI (n := 5585) 3 h2 (by decide) (by decide) (fun S3 o16 h3 => ?_)
  refine R_pP h3 (by simp only [FX12_0, List.length_cons, List.length_nil]; omega) (fun S4 h4 => ?_)
  simp only [FX12_0, List.set] at h4
  refine R_mkI (n := 11170) 4 h4 (by decide) (by decide) (fun S5 o25 h5 => ?_)
  refine R_pP h5 (by simp only [FX12_0, List.length_cons, List.length_nil]; omega) (fun S6 h6 => ?_)
  simp only [FX12_0, List.set] at h6
  refine R_mkZ (n := 2) 5 h6 (by decide) (by decide) (fun S7 o32 h7 => ?_)
  refine R_pP h7 (by simp only [FX12_0, List.length_cons, List.length_nil]; omega) (fun S8 h8 => ?_)
  simp only [FX12_0, List.set] at h8
  refine R_mkI (n := 2178) 6 h8 (by decide) (by decide) (fun S9 o41 h9 => ?_)
  refine R_pP h9 (by simp only [FX12_0, List.length_cons, List.length_nil]; omega) (fun S10 h10 => ?_)
  simp only [FX12_0, List.set] at h10
  refine R_mkI (n := 16) 7 h10 (by decide) (by decide) (fun S11 o49 h11 => ?_)
  refine R_pP h11 (by simp only [FX12_0, List.length_cons, List.length_nil]; omega) (fun S12 h12 => ?_)
  simp only [FX12_0, List.set] at h12
  refine R_mkI (n := 1936) 9 h12 (by decide) (by decide) (fun S13 o58 h13 => ?_)
  refine R_pP h13 (by simp only [FX12_0, List.length_cons, List.length_nil]; omega) (fun S14 h14 => ?_)
  simp only [FX12_0, List.set] at h14
  refine R_mkI (n := 16) 10 h14 (by decide) (by decide) (fun S15 o66 h15 => ?_)
  refine R_pP h15 (by simp only [FX12_0, List.length_cons, List.length_nil]; omega) (fun S16 h16 => ?_)
  simp only [FX12_0, List.set] at h16
  refine R_mkI (n := 400) 12 h16 (by decide) (by decide) (fun S17 o75 h17 => ?_)
  refine R_pP h17 (by simp only [FX12_0, List.length_cons, List.length_nil]; omega) (fun S18 h18 => ?_)
  simp only [FX12_0, List.set] at h18
  refine R_pI h18 (by simp only [FX12_0, List.length_cons, List.length_nil]; omega) (fun S19 h19 => ?_)
  simp only [FX12_0, List.set] at h19
  refine R_mkI (n := 96) 22 h19 (by decide) (by decide) (fun S20 o88 h20 => ?_)
  refine R_pP h20 (by simp only [FX12_0, List.length_cons, List.length_nil]; omega) (fun S21 h21 => ?_)
  simp only [FX12_0, List.set] at h21
  refine R_mkI (n := 400) 24 h21 (by decide) (by decide) (fun S22 o97 h22 => ?_)
  refine R_pP h22 (by simp only [FX12_0, List.length_cons, List.length_nil]; omega) (fun S23 h23 => ?_)
  simp only [FX12_0, List.set] at h23
  refine R_mkI (n := 400) 25 h23 (by decide) (by decide) (fun S24 o106 h24 => ?_)
  refine R_pP h24 (by simp only [FX12_0, List.length_cons, List.length_nil]; omega) (fun S25 h25 => ?_)
  simp only [FX12_0, List.set] at h25
  refine R_mkI (n := 400) 27 h25 (by decide) (by decide) (fun S26 o115 h26 => ?_)
  refine R_pP h26 (by simp only [FX12_0, List.length_cons, List.length_nil]; omega) (fun S27 h27 => ?_)
  simp only [FX12_0, List.set] at h27
  refine R_mkI (n := 400) 28 h27 (by decide) (by decide) (fun S28 o124 h28 => ?_)
  refine R_pP h28 (by simp only [FX12_0, List.length_cons, List.length_nil]; omega) (fun S29 h29 => ?_)
  simp only [FX12_0, List.set] at h29
  refine R_mkJ (n := 9) 31 h29 (by decide) (by decide) (fun S30 o132 h30 => ?_)
  refine R_sJx h30 (vp_in_iff.mpr (by decide)) (by simp) (fun S31 g31 e31 h31 => ?_)
  refine R_sJx h31 (vp_in_iff.mpr (by decide)) (by simp) (fun S32 g32 e32 h32 => ?_)
  refine R_sJx h32 (vp_in_iff.mpr (by decide)) (by simp) (fun S33 g33 e33 h33 => ?_)
  refine R_sJx h33 (vp_in_iff.mpr (by decide)) (by simp) (fun S34 g34 e34 h34 => ?_)
  refine R_sJx h34 (vp_in_iff.mpr (by decide)) (by simp) (fun S35 g35 e35 h35 => ?_)
  refine R_sJx h35 (vp_in_iff.mpr (by decide)) (by simp) (fun S36 g36 e36 h36 => ?_)
  refine R_sJx h36 (vp_in_iff.mpr (by decide)) (by simp) (fun S37 g37 e37 h37 => ?_)
  refine R_sJx h37 (vp_in_iff.mpr (by decide)) (by simp) (fun S38 g38 e38 h38 => ?_)
  refine R_sJx h38 (vp_in_iff.mpr (by decide)) (by simp) (fun S39 g39 e39 h39 => ?_)
  refine R_pP h39 (by simp only [FX12_0, List.length_cons, List.length_nil]; omega) (fun S40 h40 => ?_)
  simp only [FX12_0, List.set] at h40
  refine R_mkJ (n := 7) 32 h40 (by decide) (by decide) (fun S41 o197 h41 => ?_)
  refine R_sJx h41 (vp_in_iff.mpr (by decide)) (by simp) (fun S42 g42 e42 h42 => ?_)
  refine R_sJx h42 (vp_in_iff.mpr (by decide)) (by simp) (fun S43 g43 e43 h43 => ?_)
  refine R_sJx h43 (vp_in_iff.mpr (by decide)) (by simp) (fun S44 g44 e44 h44 => ?_)
  refine R_sJx h44 (vp_in_iff.mpr (by decide)) (by simp) (fun S45 g45 e45 h45 => ?_)
  refine R_sJx h45 (vp_in_iff.mpr (by decide)) (by simp) (fun S46 g46 e46 h46 => ?_)
  refine R_sJx h46 (vp_in_iff.mpr (by decide)) (by simp) (fun S47 g47 e47 h47 => ?_)
  refine R_sJx h47 (vp_in_iff.mpr (by decide)) (by simp) (fun S48 g48 e48 h48 => ?_)
  refine R_pP h48 (by simp only [FX12_0, List.length_cons, List.length_nil]; omega) (fun S49 h49 => ?_)
  simp only [FX12_0, List.set] at h49
  refine R_mkJ (n := 5) 33 h49 (by decide) (by decide) (fun S50 o247 h50 => ?_)
  refine R_sJx h50 (vp_in_iff.mpr (by decide)) (by simp) (fun S51 g51 e51 h51 => ?_)
  refine R_sJx h51 (vp_in_iff.mpr (by decide)) (by simp) (fun S52 g52 e52 h52 => ?_)
  refine R_sJx h52 (vp_in_iff.mpr (by decide)) (by simp) (fun S53 g53 e53 h53 => ?_)
  refine R_sJx h53 (vp_in_iff.mpr (by decide)) (by simp) (fun S54 g54 e54 h54 => ?_)
  refine R_sJx h54 (vp_in_iff.mpr (by decide)) (by simp) (fun S55 g55 e55 h55 => ?_)
  refine R_pP h55 (by simp only [FX12_0, List.length_cons, List.length_nil]; omega) (fun S56 h56 => ?_)
  simp only [FX12_0, List.set] at h56
  refine R_mkJ (n := 13) 35 h56 (by decide) (by decide) (fun S57 o285 h57 => ?_)
  refine R_pP h57 (by simp only [FX12_0, List.length_cons, List.length_nil]; omega) (fun S58 h58 => ?_)
  simp only [FX12_0, List.set] at h58
  refine R_mkJ (n := 13) 36 h58 (by decide) (by decide) (fun S59 o293 h59 => ?_)
  refine R_pP h59 (by simp only [FX12_0, List.length_cons, List.length_nil]; omega) (fun S60 h60 => ?_)
  simp only [FX12_0, List.set] at h60
  refine R_mkJ (n := 400) 37 h60 (by decide) (by decide) (fun S61 o302 h61 => ?_)
  refine R_pP h61 (by simp only [FX12_0, List.length_cons, List.length_nil]; omega) (fun S62 h62 => ?_)
  simp only [FX12_0, List.set] at h62
  refine R_mkI (n := 7) 41 h62 (by decide) (by decide) (fun S63 o310 h63 => ?_)
  refine R_pP h63 (by simp only [FX12_0, List.length_cons, List.length_nil]; omega) (fun S64 h64 => ?_)
  simp only [FX12_0, List.set] at h64
  refine R_mkI (n := 7) 42 h64 (by decide) (by decide) (fun S65 o318 h65 => ?_)
  refine R_pP h65 (by simp only [FX12_0, List.length_cons, List.length_nil]; omega) (fun S66 h66 => ?_)
  simp only [FX12_0, List.set] at h66
  refine R_mkI (n := 6) 43 h66 (by decide) (by decide) (fun S67 o326 h67 => ?_)
  refine R_pP h67 (by simp only [FX12_0, List.length_cons, List.length_nil]; omega) (fun S68 h68 => ?_)
  simp only [FX12_0, List.set] at h68
  refine R_mkI (n := 9) 45 h68 (by decide) (by decide) (fun S69 o334 h69 => ?_)
  refine R_pP h69 (by simp only [FX12_0, List.length_cons, List.length_nil]; omega) (fun S70 h70 => ?_)
  simp only [FX12_0, List.set] at h70
  refine R_mkI (n := 8) 46 h70 (by decide) (by decide) (fun S71 o342 h71 => ?_)
  refine R_pP h71 (by simp only [FX12_0, List.length_cons, List.length_nil]; omega) (fun S72 h72 => ?_)
  simp only [FX12_0, List.set] at h72
  refine R_mkI (n := 8) 47 h72 (by decide) (by decide) (fun S73 o350 h73 => ?_)
  refine R_pP h73 (by simp only [FX12_0, List.length_cons, List.length_nil]; omega) (fun S74 h74 => ?_)
  simp only [FX12_0, List.set] at h74
  refine R_mkI (n := 189) 48 h74 (by decide) (by decide) (fun S75 o359 h75 => ?_)
  refine R_pP h75 (by simp only [FX12_0, List.length_cons, List.length_nil]; omega) (fun S76 h76 => ?_)
  simp only [FX12_0, List.set] at h76
  refine R_mkI (n := 8) 49 h76 (by decide) (by decide) (fun S77 o367 h77 => ?_)
  refine R_pP h77 (by simp only [FX12_0, List.length_cons, List.length_nil]; omega) (fun S78 h78 => ?_)
  simp only [FX12_0, List.set] at h78
  refine R_mkJ (n := 22) 50 h78 (by decide) (by decide) (fun S79 o375 h79 => ?_)
  refine R_pP h79 (by simp only [FX12_0, List.length_cons, List.length_nil]; omega) (fun S80 h80 => ?_)
  simp only [FX12_0, List.set] at h80
  refine R_mkJ (n := 4) 51 h80 (by decide) (by decide) (fun S81 o382 h81 => ?_)
  refine R_sJx h81 (vp_in_iff.mpr (by decide)) (by simp) (fun S82 g82 e82 h82 => ?_)
  refine R_sJx h82 (vp_in_iff.mpr (by decide)) (by simp) (fun S83 g83 e83 h83 => ?_)
  refine R_sJx h83 (vp_in_iff.mpr (by decide)) (by simp) (fun S84 g84 e84 h84 => ?_)
  refine R_sJx h84 (vp_in_iff.mpr (by decide)) (by simp) (fun S85 g85 e85 h85 => ?_)
  refine R_pP h85 (by simp only [FX12_0, List.length_cons, List.length_nil]; omega) (fun S86 h86 => ?_)
  simp only [FX12_0, List.set] at h86
  refine R_mkI (n := 120) 52 h86 (by decide) (by decide) (fun S87 o414 h87 => ?_)
  refine R_pP h87 (by simp only [FX12_0, List.length_cons, List.length_nil]; omega) (fun S88 h88 => ?_)
  simp only [FX12_0, List.set] at h88
  refine R_pI h88 (by simp only [FX12_0, List.length_cons, List.length_nil]; omega) (fun S89 h89 => ?_)
  simp only [FX12_0, List.set] at h89
  refine R_mkI (n := 48) 58 h89 (by decide) (by decide) (fun S90 o427 h90 => ?_)
  refine R_pP h90 (by simp only [FX12_0, List.length_cons, List.length_nil]; omega) (fun S91 h91 => ?_)
  simp only [FX12_0, List.set] at h91
  refine R_pI h91 (by simp only [FX12_0, List.length_cons, List.length_nil]; omega) (fun S92 h92 => ?_)
  simp only [FX12_0, List.set] at h92
  refine R_pI h92 (by simp only [FX12_0, List.length_cons, List.length_nil]; omega) (fun S93 h93 => ?_)
  simp only [FX12_0, List.set] at h93
  obtain ⟨ad, gs, g31, g32, g33, g51, hd, hS, hap⟩ : ∃ (ad : Nat → Nat) (gs : Nat → Nat → Int64), gs 31 = g39 ∧ gs 32 = g48 ∧ gs 33 = g55 ∧ gs 51 = g85 ∧ mD o ad ∧ ov S93 o ad (mZ gs) = S93 ∧ ∀ a τ, Γ a = some τ → a ≠ o ∧ ∀ k ∈ mIx, a ≠ ad k := by
    refine ⟨fun k => match k with | 2 => o7 | 3 => o16 | 4 => o25 | 5 => o32 | 6 => o41 | 7 => o49 | 9 => o58 | 10 => o66 | 12 => o75 | 22 => o88 | 24 => o97 | 25 => o106 | 27 => o115 | 28 => o124 | 31 => o132 | 32 => o197 | 33 => o247 | 35 => o285 | 36 => o293 | 37 => o302 | 41 => o310 | 42 => o318 | 43 => o326 | 45 => o334 | 46 => o342 | 47 => o350 | 48 => o359 | 49 => o367 | 50 => o375 | 51 => o382 | 52 => o414 | 58 => o427 | _ => 0, fun k => match k with | 31 => g39 | 32 => g48 | 33 => g55 | 51 => g85 | _ => fun _ => 0, rfl, rfl, rfl, rfl, R_ov h93 rfl ?_⟩
    intro k hk
    simp only [mIx, List.mem_cons, List.not_mem_nil, or_false] at hk
    rcases hk with rfl | rfl | rfl | rfl | rfl | rfl | rfl | rfl | rfl | rfl | rfl | rfl | rfl | rfl | rfl | rfl | rfl | rfl | rfl | rfl | rfl | rfl | rfl | rfl | rfl | rfl | rfl | rfl | rfl | rfl | rfl | rfl
    · exact List.mem_of_getElem? (i := 31) rfl
    · exact List.mem_of_getElem? (i := 30) rfl
    · exact List.mem_of_getElem? (i := 29) rfl
    · exact List.mem_of_getElem? (i := 28) rfl
    · exact List.mem_of_getElem? (i := 27) rfl
    · exact List.mem_of_getElem? (i := 26) rfl
    · exact List.mem_of_getElem? (i := 25) rfl
    · exact List.mem_of_getElem? (i := 24) rfl
    · exact List.mem_of_getElem? (i := 23) rfl
    · exact List.mem_of_getElem? (i := 22) rfl
    · exact List.mem_of_getElem? (i := 21) rfl
    · exact List.mem_of_getElem? (i := 20) rfl
    · exact List.mem_of_getElem? (i := 19) rfl
    · exact List.mem_of_getElem? (i := 18) rfl
    · exact List.mem_of_getElem? (i := 17) rfl
    · exact List.mem_of_getElem? (i := 16) rfl
    · exact List.mem_of_getElem? (i := 15) rfl
    · exact List.mem_of_getElem? (i := 14) rfl
    · exact List.mem_of_getElem? (i := 13) rfl
    · exact List.mem_of_getElem? (i := 12) rfl
    · exact List.mem_of_getElem? (i := 11) rfl
    · exact List.mem_of_getElem? (i := 10) rfl
    · exact List.mem_of_getElem? (i := 9) rfl
    · exact List.mem_of_getElem? (i := 8) rfl
    · exact List.mem_of_getElem? (i := 7) rfl
    · exact List.mem_of_getElem? (i := 6) rfl
    · exact List.mem_of_getElem? (i := 5) rfl
    · exact List.mem_of_getElem? (i := 4) rfl
    · exact List.mem_of_getElem? (i := 3) rfl
    · exact List.mem_of_getElem? (i := 2) rfl
    · exact List.mem_of_getElem? (i := 1) rfl
    · exact List.mem_of_getElem? (i := 0) rfl
  have hty := h93.1
  rw [← hS]
  simp (disch := decide) only [oi_gI, oi_gJ, oi_gP, oi_pI, oi_pZ, oi_pJ, oi_oK, oi_aI hd, oi_aZ hd, oi_aJ hd, oi_sI hd, oi_sZ hd, oi_sJ hd, mI_1, mI_2, mJ_1, mJ_2, mJ_3, mA_1, mA_2, mA_3, mA_4, mL_1, mL_2, mL_3, mL_4, mK, Nat.reduceEqDiff, if_true, if_false, ite_true, ite_false, true_and, Nat.reduceLT, reduceIte, reduceCtorEq, cl_0, cl_1, cl_2, cl_3, cl_4, cl_5, cl_6, cl_7, cl_8, cl_9, cl_10, cl_11, cl_12, cl_13, cl_14, cl_15, vl_0_5585, vl_1_5585, vl_2_5585, vl_3_5585, vl_4_5585, vl_5_5585, vl_6_5585, vl_0_7, vl_1_7, vl_2_7, vl_3_7, vl_4_7, vl_5_7, vl_6_7, mA_mA]
  have hf : ∀ i, i ≠ 4 → i ≠ 6 → upd (upd ((mZ gs).2.2.1 3) 4 (-1)) 6 3 i = 0 := fun i i1 i2 => by
    rw [upd_ne _ _ i2, upd_ne _ _ i1]
    rfl
  have hwd : wdsM (mA (mZ gs) 3 (upd (upd ((mZ gs).2.2.1 3) 4 (-1)) 6 3)) := by
    refine ⟨fun k hk => ?_, fun k hk => ?_⟩
    · show gs 31 k = _
      rw [g31, e39, e38, e37, e36, e35, e34, e33, e32, e31]
      exact wd31 k hk
    · show gs 32 k = _
      rw [g32, e48, e47, e46, e45, e44, e43, e42]
      exact wd32 k hk
  have hhd : hdM (mA (mZ gs) 3 (upd (upd ((mZ gs).2.2.1 3) 4 (-1)) 6 3)) := by
    intro k hk
    show gs 33 k = _
    rw [g33, e55, e54, e53, e52, e51]
    exact wd33 k hk
  have hac : acM (mA (mZ gs) 3 (upd (upd ((mZ gs).2.2.1 3) 4 (-1)) 6 3)) := by
    intro k hk
    show gs 51 k = _
    rw [g51, e85, e84, e83, e82]
    exact wd51 k hk
  refine hk _ (mA (mZ gs) 3 (upd (upd ((mZ gs).2.2.1 3) 4 (-1)) 6 3)) ⟨Γ, ad, ρ, hd, mZ_ok (gs := gs) hf ?_, ov_eq ov_o (fun k hk => ov_a hd hk), fun a τ ha => ?_, hap, hC.cells (fun a τ ha => h0.1 a τ ha) (fun a τ ha => ?_), rr_0 ⟨hwd, hhd, hac⟩, CR.abd hC⟩
  · rw [upd_ne _ _ (by omega), upd_self]
  · rw [ov_out (hap a τ ha).1 (hap a τ ha).2]; exact (hty a τ ha).1
  · rw [ov_out (hap a τ ha).1 (hap a τ ha).2]; exact (hty a τ ha).2
end HIN
