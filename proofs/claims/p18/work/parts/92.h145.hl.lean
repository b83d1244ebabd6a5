/-! THE LAW: its loop over both objects, exactly -/
section HLOOP
variable {S : hS} {x o : Nat} {M : mS} {rs : Nat} {T : aS} {tx : Nat → Nat}
set_option maxHeartbeats 8000000 in
set_option maxRecDepth 20000 in
theorem hlaw_loop {L : Nat} {xs : Nat → Int32} (hL : L ≤ 3072) (hI : HV S x o M rs T rs T) : ∃ n, w_L_law_b18 tx L xs () n S 512 x o 0 := by
  refine loop_m (σ := hS × Nat × Nat) (fun n s => w_L_law_b18 tx L xs () n s.1 s.2.1 x o (nI (6 * s.2.2))) (fun s => (∃ M rs T, HV s.1 x o M rs T rs T) ∧ 512 ≤ s.2.1 + s.2.2 ∧ 6 * s.2.2 ≤ L) (fun s => 600 - s.2.2) ?_ (S, 512, 0) ⟨⟨M, rs, T, hI⟩, Nat.le_refl _, Nat.zero_le _⟩
  rintro n ⟨S, u, k⟩ ⟨⟨M, rs, T, hI⟩, hu, hk⟩ ih
  dsimp only at hI hu hk ih ⊢
  rw [w_L_law_b18]
  refine ⟨fun _ => rfl, fun c => ?_⟩
  have hl : 6 * k + 6 ≤ L := by
    have e1 : (Int32.ofNat L).toInt = L := nI_toInt (n := L) (by omega)
    have e6 : (6 : Int32).toInt = 6 := by decide
    rw [i32lt, fb_subI (by rw [e1, e6]; omega) (by rw [e1, e6]; omega), e1, e6, nI_toInt (by omega)] at c
    omega
  have i0 : vp_in (nI (6 * k)) L := vp_in_nI (by omega) (by omega)
  have i1 : vp_in (nI (6 * k) + 1) L := by rw [show nI (6 * k) + 1 = nI (6 * k + 1) from nIadd _ _]; exact vp_in_nI (by omega) (by omega)
  have i2 : vp_in (nI (6 * k) + 2) L := by rw [show nI (6 * k) + 2 = nI (6 * k + 2) from nIadd _ _]; exact vp_in_nI (by omega) (by omega)
  have i3 : vp_in (nI (6 * k) + 3) L := by rw [show nI (6 * k) + 3 = nI (6 * k + 3) from nIadd _ _]; exact vp_in_nI (by omega) (by omega)
  have i4 : vp_in (nI (6 * k) + 4) L := by rw [show nI (6 * k) + 4 = nI (6 * k + 4) from nIadd _ _]; exact vp_in_nI (by omega) (by omega)
  have i5 : vp_in (nI (6 * k) + 5) L := by rw [show nI (6 * k) + 5 = nI (6 * k + 5) from nIadd _ _]; exact vp_in_nI (by omega) (by omega)
  have nx : ∀ S' u' N rs T, HV S' x o N rs T rs T → 512 ≤ u' + (k + 1) → w_L_law_b1415 tx L xs () (fun S u v1 v2 v3 => w_L_law_b18 tx L xs () n S u v1 v2 v3) S' u' x o (nI (6 * k)) := by
    intro S' u' N rs T hI' hu' y ey
    rw [ey, show nI (6 * k) + 6 = nI (6 * (k + 1)) from by rw [show nI (6 * k) + 6 = nI (6 * k + 6) from nIadd _ _]; rfl]
    exact ih (S', u', k + 1) ⟨⟨N, rs, T, hI'⟩, hu', by dsimp only; omega⟩ (by dsimp only; omega)
  have nu : ∀ S' N rs T, HV S' x o N rs T rs T → w_L_law_b1415 tx L xs () (fun S u v1 v2 v3 => w_L_law_b18 tx L xs () n S u v1 v2 v3) S' u x o (nI (6 * k)) := fun S' N rs T h => nx S' u N rs T h (by omega)
  obtain ⟨u', hu'⟩ : ∃ u', u = u' + 1 := ⟨u - 1, by omega⟩
  have nv : ∀ S' N rs T, HV S' x o N rs T rs T → w_L_law_b1415 tx L xs () (fun S u v1 v2 v3 => w_L_law_b18 tx L xs () n S u v1 v2 v3) S' u' x o (nI (6 * k)) := fun S' N rs T h => nx S' u' N rs T h (by omega)
  refine ⟨i0, fun y33 _ => ?_⟩
  refine ⟨fun _ => ⟨i1, ⟨i2, hc_house hI (fun S1 h1 => ⟨i1, ⟨i2, hr_house h1 (fun S2 N h2 => nu S2 N _ _ h2)⟩⟩)⟩⟩, ?_⟩
  refine ⟨fun _ => ⟨i1, ⟨i2, hc_at hI (fun S1 h1 => ⟨i1, ⟨i2, hr_at h1 (fun S2 N h2 => nu S2 N _ _ h2)⟩⟩)⟩⟩, ?_⟩
  refine ⟨fun _ => ⟨i1, ⟨i2, ⟨i3, hc_person hI (fun S1 h1 => ⟨i1, ⟨i2, ⟨i3, hr_person h1 (fun S2 N h2 => nu S2 N _ _ h2)⟩⟩⟩)⟩⟩⟩, ?_⟩
  refine ⟨fun _ => ⟨i1, ⟨i2, hc_of hI (fun S1 h1 => ⟨i1, ⟨i2, hr_of h1 (fun S2 N h2 => nu S2 N _ _ h2)⟩⟩)⟩⟩, ?_⟩
  refine ⟨fun _ => ⟨i1, ⟨i2, hc_want hI (fun S1 h1 => ⟨i1, ⟨i2, hr_want h1 (fun S2 N h2 => nu S2 N _ _ h2)⟩⟩)⟩⟩, ?_⟩
  refine ⟨fun _ => ⟨i1, ⟨i2, hc_will hI (fun S1 h1 => ⟨i1, ⟨i2, hr_will h1 (fun S2 N h2 => nu S2 N _ _ h2)⟩⟩)⟩⟩, ?_⟩
  refine ⟨fun _ => ⟨i1, ⟨i2, ⟨i3, hc_right hI (fun S1 h1 => ⟨i1, ⟨i2, ⟨i3, hr_right h1 (fun S2 N h2 => nu S2 N _ _ h2)⟩⟩⟩)⟩⟩⟩, ?_⟩
  refine ⟨fun _ => ⟨i1, ⟨i2, ⟨i3, hc_has hI (fun S1 h1 => ⟨i1, ⟨i2, ⟨i3, hr_has h1 (fun S2 N h2 => nu S2 N _ _ h2)⟩⟩⟩)⟩⟩⟩, ?_⟩
  refine ⟨fun _ => ⟨i1, ⟨i2, ⟨i3, ⟨i4, hc_asks hI (fun S1 h1 => ⟨i1, ⟨i2, ⟨i3, ⟨i4, hr_asks h1 (fun S2 N h2 => nu S2 N _ _ h2)⟩⟩⟩⟩)⟩⟩⟩⟩, ?_⟩
  refine ⟨fun _ => ⟨i1, ⟨i2, hc_terms hI (fun S1 h1 => ⟨i1, ⟨i2, hr_terms h1 (fun S2 N h2 => nu S2 N _ _ h2)⟩⟩)⟩⟩, ?_⟩
  refine ⟨fun _ => ⟨i1, ⟨i2, ⟨i3, ⟨i4, ⟨i5, hc_feed hI (fun S1 h1 => ⟨i1, ⟨i2, ⟨i3, ⟨i4, ⟨i5, hr_feed h1 (fun S2 N h2 => nu S2 N _ _ h2)⟩⟩⟩⟩⟩)⟩⟩⟩⟩⟩, ?_⟩
  refine ⟨fun _ => ⟨i1, hc_end hI (fun S1 h1 => ⟨i1, hr_end h1 (fun S2 N h2 => nu S2 N _ _ h2)⟩)⟩, ?_⟩
  refine ⟨fun _ => hc_row hI (fun S1 h1 => hr_row h1 (fun S2 N h2 => nu S2 N _ _ h2)), ?_⟩
  refine ⟨fun _ => hc_rust hI (fun S1 h1 => hr_rust h1 (fun S2 N h2 => nu S2 N _ _ h2)), ?_⟩
  refine ⟨fun _ => ⟨u', hu', hc_law hI (fun S1 h1 => hr_law h1 (fun S2 N h2 => nv S2 N _ _ h2))⟩, ?_⟩
  refine ⟨fun _ => ⟨u', hu', hc_orders hI (fun S1 h1 => hr_orders h1 (fun S2 N h2 => nv S2 N _ _ h2))⟩, ?_⟩
  refine ⟨fun _ => hc_fault hI (fun S1 h1 => hr_fault h1 (fun S2 N h2 => ⟨fun _ => nu S2 N _ _ h2, fun z => absurd rfl z⟩)), ?_⟩
  refine ⟨fun _ => hc_stopped hI (fun S1 h1 => hr_stopped h1 (fun S2 N h2 => nu S2 N _ _ h2)), ?_⟩
  refine ⟨fun _ => ⟨i1, hc_force hI (fun S1 h1 => ⟨i1, hr_force h1 (fun S2 N h2 => nu S2 N _ _ h2)⟩)⟩, ?_⟩
  refine ⟨fun _ => ⟨i1, ⟨i2, ⟨u', hu', hc_ring hI (fun S1 h1 => ⟨i1, ⟨i2, hr_ring h1 (fun S2 N h2 => nv S2 N _ _ h2)⟩⟩)⟩⟩⟩, ?_⟩
  refine ⟨fun _ => ⟨i1, ⟨i2, ⟨i3, ⟨u', hu', hc_sell hI (fun S1 h1 => ⟨i1, ⟨i2, ⟨i3, hr_sell h1 (fun S2 N h2 => nv S2 N _ _ h2)⟩⟩⟩)⟩⟩⟩⟩, ?_⟩
  refine ⟨fun _ => ⟨i1, ⟨u', hu', hc_die hI (fun S1 h1 => ⟨i1, hr_die h1 (fun S2 N h2 => nv S2 N _ _ h2)⟩)⟩⟩, ?_⟩
  refine ⟨fun _ => ⟨u', hu', hc_pass hI (fun S1 h1 => hr_pass h1 (fun S2 N h2 => nv S2 N _ _ h2))⟩, ?_⟩
  refine ⟨fun _ => hc_undo hI (fun S1 h1 => hr_undo h1 (fun S2 N h2 => nu S2 N _ _ h2)), ?_⟩
  refine ⟨fun _ => ⟨i1, ⟨i2, ⟨i3, hc_visits hI (fun _ S1 h1 => ⟨i1, ⟨i2, ⟨i3, hr_visits h1 (fun _ S2 N h2 => nu S2 N _ _ h2)⟩⟩⟩)⟩⟩⟩, ?_⟩
  refine ⟨fun _ => ⟨i1, hc_exchange hI (fun _ S1 h1 => ⟨i1, hr_exchange h1 (fun _ S2 N h2 => nu S2 N _ _ h2)⟩)⟩, ?_⟩
  refine ⟨fun _ => ⟨i1, ⟨i2, hc_clue hI (fun S1 h1 => ⟨i1, ⟨i2, hr_clue h1 (fun S2 N h2 => nu S2 N _ _ h2)⟩⟩)⟩⟩, ?_⟩
  refine ⟨fun _ => hc_forget hI (fun S1 h1 => hr_forget h1 (fun S2 N h2 => nu S2 N _ _ h2)), ?_⟩
  refine ⟨fun _ => hc_who hI (fun _ S1 h1 => hr_who h1 (fun _ S2 N h2 => nu S2 N _ _ h2)), ?_⟩
  refine ⟨fun _ => ⟨i1, hc_look hI (fun _ S1 h1 => ⟨i1, hr_look h1 (fun _ S2 N h2 => nu S2 N _ _ h2)⟩)⟩, ?_⟩
  refine ⟨fun _ => ⟨i1, ⟨i2, hc_amend hI (fun _ S1 h1 => ⟨i1, ⟨i2, hr_amend h1 (fun _ S2 N h2 => nu S2 N _ _ h2)⟩⟩)⟩⟩, ?_⟩
  refine ⟨fun _ => ⟨i1, ⟨i2, ⟨i3, hc_given hI (fun _ S1 h1 => ⟨i1, ⟨i2, ⟨i3, hr_given h1 (fun _ S2 N h2 => nu S2 N _ _ h2)⟩⟩⟩)⟩⟩⟩, ?_⟩
  refine ⟨fun _ => ⟨i1, ⟨i2, ⟨i3, ⟨i4, hc_keep hI (fun _ S1 h1 => ⟨i1, ⟨i2, ⟨i3, ⟨i4, hr_keep h1 (fun _ S2 N h2 => nu S2 N _ _ h2)⟩⟩⟩⟩)⟩⟩⟩⟩, ?_⟩
  refine ⟨fun _ => ⟨i1, ⟨i2, ⟨i3, ⟨i4, hc_chain hI (fun _ S1 h1 => ⟨i1, ⟨i2, ⟨i3, ⟨i4, hr_chain h1 (fun _ S2 N h2 => nu S2 N _ _ h2)⟩⟩⟩⟩)⟩⟩⟩⟩, ?_⟩
  refine ⟨fun _ => ⟨i1, ⟨i2, hc_likely hI (fun _ S1 h1 => ⟨i1, ⟨i2, hr_likely h1 (fun _ S2 N h2 => nu S2 N _ _ h2)⟩⟩)⟩⟩, ?_⟩
  refine ⟨fun _ => ⟨i1, ⟨i2, hc_generations hI (fun S1 h1 => ⟨i1, ⟨i2, hr_generations h1 (fun S2 N h2 => nu S2 N _ _ h2)⟩⟩)⟩⟩, ?_⟩
  refine ⟨fun _ => ⟨i1, ⟨i2, hc_drawn hI (fun S1 h1 => ⟨i1, ⟨i2, hr_drawn h1 (fun S2 N h2 => nu S2 N _ _ h2)⟩⟩)⟩⟩, ?_⟩
  refine ⟨fun _ => ⟨i1, ⟨u', hu', hc_image hI (fun S1 h1 => ⟨i1, hr_image h1 (fun S2 N h2 => nv S2 N _ _ h2)⟩)⟩⟩, ?_⟩
  refine ⟨fun _ => ⟨i1, hc_back hI (fun S1 h1 => ⟨i1, hr_back h1 (fun S2 N h2 => nu S2 N _ _ h2)⟩)⟩, ?_⟩
  refine ⟨fun _ => ⟨i1, hc_count hI (fun S1 h1 => ⟨i1, hr_count h1 (fun S2 N h2 => nu S2 N _ _ h2)⟩)⟩, ?_⟩
  refine ⟨fun _ => hc_status hI (fun S1 h1 => hr_status h1 (fun S2 N h2 => nu S2 N _ _ h2)), ?_⟩
  exact fun _ => nu S M _ _ hI
set_option maxHeartbeats 4000000 in
theorem hlaw_all (tx : Nat → Nat) (L : Nat) (xs : Nat → Int32) (hL : L ≤ 3072) : w_L_law tx L xs () (fun _ => none) 512 := by
  have h0 : St (fun _ => none) (fun _ => none) (fun _ => none) := ⟨fun a τ h => (by cases h), fun a e h => (by cases h)⟩
  unfold w_L_law
  refine St_nO h0 (fun x S1 hN _ => ki_X11 hN (fun Γ S2 ρ hg hx hs hl => ?_))
  intro o ho
  have go := (hs.nG ho).1
  have st : St Γ (fun _ => none) (hset S2 o (.inr (12, FX12_0))) := ⟨fun a τ ha => by
    rw [hset_ne _ _ (fun e => by rw [e, go] at ha; cases ha)]
    exact hs.1 a τ ha, fun a e ha => by cases ha⟩
  have cell : ∀ y ∈ in11 ρ x [], hset S2 o (.inr (12, FX12_0)) y.1 = some y.2 := fun y hy => by
    obtain ⟨e1, e2⟩ := hl y hy
    rw [hset_ne _ _ (fun e => by rw [e, go] at e2; exact e2 rfl)]
    exact e1
  exact hi_X12 (Γ := Γ) (x := x) (S₀ := hset S2 o (.inr (12, FX12_0))) ⟨fun a τ ha => ⟨st.1 a τ ha, rfl⟩, go, hset_self _ _ _, fun y hy => (by cases hy), fun y hy => (by cases hy)⟩ st (cr_0 st hx cell) (fun S3 M hI => hlaw_loop hL hI)
end HLOOP
