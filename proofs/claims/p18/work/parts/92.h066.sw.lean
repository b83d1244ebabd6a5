/-! WHAT ORDERS ASK, EXACTLY -/
section SW
variable {Γ : kG} {Φ : kF} {S : hS} {a b d g i u : Nat} {ρ ρd ρg : Nat → Nat} {us : uL}
theorem kx_livingPeople {q : Int32 → hS → Prop} (h : St Γ Φ S) (hb : Γ b = some (8, 8 + 10000 * i, i, 0, ρ)) (b1 : 0 ≤ iR (sV S b ρ) 1 ∧ iR (sV S b ρ) 1 ≤ 8) (k : q (nI (aliveR (sV S b ρ) (nPR (sV S b ρ)))) S) : w_X8_livingPeople q S b := by
  have loop : ∀ t n, n + t = nPR (sV S b ρ) → w_X8_livingPeople_b4 q (t + 1) S b (nI (aliveR (sV S b ρ) n)) (nI n) := by
    intro t
    induction t with
    | zero =>
      intro n hn
      unfold w_X8_livingPeople_b4
      refine V_gI_4 h hb (fun _ => ?_)
      have : sV S b ρ 1 ≤ nI n := by rw [Int32.le_iff_toInt_le, nI_toInt (by unfold nPR at hn; omega)]; unfold nPR iR at hn; unfold iR at b1; omega
      refine ⟨fun _ => ?_, fun z => absurd this z⟩
      rw [show n = nPR (sV S b ρ) by omega]
      exact k
    | succ t ih =>
      intro n hn
      have n8 : n < 8 := by unfold nPR at hn; omega
      have hn2 : (n : Int) < iR (sV S b ρ) 1 := by unfold nPR at hn; omega
      unfold w_X8_livingPeople_b4
      refine V_gI_4 h hb (fun _ => ?_)
      have ng : ¬ sV S b ρ 1 ≤ nI n := by rw [Int32.le_iff_toInt_le, nI_toInt (by omega)]; unfold iR at hn2; omega
      have ih' := ih (n + 1) (by omega)
      rw [aliveR] at ih'
      refine ⟨fun z => absurd z ng, fun _ => T_oK_8 h hb (kx_lives h hb b1 rfl hn2 (fun c => ⟨fun z => absurd z (by decide), fun _ y20 e20 => ?_⟩) (fun c => ⟨fun _ => ?_, fun z => absurd rfl z⟩))⟩
      · rw [if_pos (show liveR (sV S b ρ) n = true from decide_eq_true c)] at ih'
        subst e20
        unfold w_X8_livingPeople_b23
        intro y e
        subst e
        rw [nI_1, nI_1]
        exact ih'
      · rw [if_neg (show ¬ liveR (sV S b ρ) n = true from fun z => c (of_decide_eq_true z))] at ih'
        unfold w_X8_livingPeople_b23
        intro y e
        subst e
        rw [nI_1]
        exact ih'
  unfold w_X8_livingPeople
  exact ⟨nPR (sV S b ρ) + 1, loop (nPR (sV S b ρ)) 0 (by omega)⟩
theorem left_in {f : Nat → Int32} (hB : rB f) {p hh : Nat} (hp : p < 8) (hh' : hh < 6) : 0 ≤ leftR f p hh ∧ leftR f p hh ≤ 99 := by
  have r := rB_r hB (j := 6 * p + hh) (by omega)
  have u := rB_u hB (j := 6 * p + hh) (by omega)
  have c := hB.2.2.2.2.1 (6 * p + hh) (by omega)
  unfold leftR
  rw [show 30 + 6 * p + hh = 30 + (6 * p + hh) by omega, show 78 + 6 * p + hh = 78 + (6 * p + hh) by omega]
  omega
theorem allLR_in {f : Nat → Int32} (hB : rB f) {p : Nat} (hp : p < 8) : ∀ n, n ≤ 6 → 0 ≤ allLR f p n ∧ allLR f p n ≤ 99 * n
  | 0, _ => ⟨Int.le_refl _, Int.le_refl _⟩
  | n + 1, hn => by
    have ih := allLR_in hB hp n (by omega)
    have l := left_in hB hp (hh' := (show n < 6 by omega))
    rw [allLR]
    omega
theorem kx_allLeftOf {q : Int32 → hS → Prop} {p : Nat} {v : Int32} (h : St Γ Φ S) (hb : Γ b = some (8, 8 + 10000 * i, i, 0, ρ)) (hB : rB (sV S b ρ)) (ev : v = nI p) (hp : (p : Int) < iR (sV S b ρ) 1) (k : ∀ r : Int32, r.toInt = allLR (sV S b ρ) p (nHR (sV S b ρ)) → q r S) : w_X8_allLeftOf q S b v := by
  subst ev
  have b1 := rB_1 hB
  have b0 := rB_0 hB
  have loop : ∀ t n (x : Int32), n + t = nHR (sV S b ρ) → x.toInt = allLR (sV S b ρ) p n → w_X8_allLeftOf_b4 q (t + 1) S b (nI p) x (nI n) := by
    intro t
    induction t with
    | zero =>
      intro n x hn ex
      unfold w_X8_allLeftOf_b4
      refine V_gI_1 h hb (fun _ => ?_)
      have : sV S b ρ 0 ≤ nI n := by rw [Int32.le_iff_toInt_le, nI_toInt (by unfold nHR at hn; omega)]; unfold nHR iR at hn; unfold iR at b0; omega
      refine ⟨fun _ => k x ?_, fun z => absurd this z⟩
      rw [ex, show n = nHR (sV S b ρ) by omega]
    | succ t ih =>
      intro n x hn ex
      have n6 : n < 6 := by unfold nHR at hn; omega
      have hn2 : (n : Int) < iR (sV S b ρ) 0 := by unfold nHR at hn; omega
      unfold w_X8_allLeftOf_b4
      refine V_gI_1 h hb (fun _ => ?_)
      have ng : ¬ sV S b ρ 0 ≤ nI n := by rw [Int32.le_iff_toInt_le, nI_toInt (by omega)]; unfold iR at hn2; omega
      refine ⟨fun z => absurd z ng, fun _ => T_oK_8 h hb (kx_leftOf h hb hB rfl rfl hp hn2 (fun r er y20 e20 y21 e21 => ?_))⟩
      subst e20
      subst e21
      rw [nI_1]
      have l := left_in hB (p := p) (by omega) n6
      have a := allLR_in hB (p := p) (by omega) n (by omega)
      refine ih (n + 1) _ (by omega) ?_
      rw [fb_addI (by omega) (by omega), ex, er]
      rfl
  unfold w_X8_allLeftOf
  exact ⟨nHR (sV S b ρ) + 1, loop (nHR (sV S b ρ)) 0 0 (by omega) rfl⟩
theorem kx_X1_setWords {q : hS → Prop} {dn last : Int} (h : St Γ Φ S) (hf : fre Γ Φ [202]) (hd : Γ d = some (1, 1, 0, 0, ρd)) (hb : Γ b = some (8, 8 + 10000 * i, i, 0, ρ)) (hB : rB (sV S b ρ)) (e5 : (fI S d 5).toInt = dn) (e3 : (fI S d 3).toInt = last) (k : ∀ S', St Γ Φ S' → sam Γ [202] S S' → (∀ w, w < 26 → (aV S' (ρd 2) w).toInt = envO (sV S b ρ) dn last w) → q S') : w_X1_setWords q S d b := by
  have b1 := rB_1 hB
  have b0 := rB_0 hB
  have hfr := frz_fre (S := S) hf (fun _ x => x)
  have hst := frz_St (L := [202]) h
  have vv : ∀ S', St Γ (frz Γ Φ S [202]) S' → sV S' b ρ = sV S b ρ := fun S' h' => sV_sam h hb (frz_un h h').2 (by simp only [List.mem_cons, List.not_mem_nil, or_false]; omega)
  have dd : ∀ S' j, St Γ (frz Γ Φ S [202]) S' → fI S' d j = fI S d j := fun S' j h' => fI_cell ((frz_un h h').2.at h hd (by simp)) j
  have k' : ∀ S', St Γ (frz Γ Φ S [202]) S' → (∀ w, w < 26 → (aV S' (ρd 2) w).toInt = envO (sV S b ρ) dn last w) → q S' := fun S' h' => k S' (frz_un h h').1 (frz_un h h').2
  generalize frz Γ Φ S [202] = Ψ at hfr hst vv dd k'
  generalize sV S b ρ = f at hB b1 b0 vv k'
  have ka : Γ (ρd 2) = some (20, 202, 26, 0, k0) := (P_1_2 hst hd).2
  -- a word is set: the words in P hold, and one more
  have put : ∀ {P : Nat → Prop} {S1 : hS} {m : Nat} {x y : Int32} {R : hS → Prop}, St Γ Ψ S1 → (∀ w, P w → (aV S1 (ρd 2) w).toInt = envO f dn last w) → m < 26 → y = nI m → x.toInt = envO f dn last m → (∀ S2, St Γ Ψ S2 → (∀ w, P w ∨ w = m → (aV S2 (ρd 2) w).toInt = envO f dn last w) → R S2) → sI S1 (ρd 2) y x R := by
    intro P S1 m x y R h1 hP hm ey ex kk
    subst ey
    refine T_sI_20 h1 hfr ka (by simp) (by rw [nI_toInt (by omega)]; omega) (fun S2 h2 _ _ _ w2 => kk S2 h2 (fun w hw => ?_))
    rw [w2, nI_clamp (by omega)]
    by_cases c : w = m
    · rw [if_pos c, c]; exact ex
    · rw [if_neg c]; exact hP w (hw.resolve_right c)
  have loop2 : ∀ t n S2, n + t = 6 → St Γ Ψ S2 → (∀ w, w < 20 + n → (aV S2 (ρd 2) w).toInt = envO f dn last w) → w_X1_setWords_b112 q (t + 1) S2 d b (nI n) := by
    intro t
    induction t with
    | zero =>
      intro n S2 hn h2 hw
      unfold w_X1_setWords_b112
      have : (6 : Int32) ≤ nI n := by
        have := nI_leI (a := 6) (b := n) (by omega) (by omega)
        rw [show (6 : Int32) = nI 6 from rfl, this]
        omega
      exact ⟨fun _ => k' S2 h2 (fun w w26 => hw w (by omega)), fun z => absurd this z⟩
    | succ t ih =>
      intro n S2 hn h2 hw
      have ng : ¬ (6 : Int32) ≤ nI n := by
        have := nI_leI (a := 6) (b := n) (by omega) (by omega)
        rw [show (6 : Int32) = nI 6 from rfl, this]
        omega
      have rest : ∀ x : Int32, x.toInt = envO f dn last (20 + n) → w_X1_setWords_b147 q (fun S v0 v1 v2 => w_X1_setWords_b112 q (t + 1) S v0 v1 v2) S2 d b (nI n) x (20 + nI n) (ρd 2) := by
        intro x ex
        unfold w_X1_setWords_b147
        refine put (P := fun w => w < 20 + n) (m := 20 + n) h2 hw (by omega) (by rw [lit_nI 20, nIadd]) ex (fun S3 h3 w3 y ey => ?_)
        subst ey
        rw [nI_1]
        exact ih (n + 1) S3 (by omega) h3 (fun w hw' => w3 w (by omega))
      have ee : envO f dn last (20 + n) = if n < nHR f then iR f (8 + n) else -1 := by
        unfold envO
        rw [if_neg (by omega), if_neg (by omega), if_neg (by omega), if_neg (by omega), if_neg (by omega), if_neg (by omega), show 20 + n - 20 = n by omega]
      unfold w_X1_setWords_b112
      refine ⟨fun z => absurd z ng, fun _ => E_gP_1_2 h2 hd (fun _ => T_oK_8 h2 hb ?_)⟩
      by_cases c : (n : Int) < iR f 0
      · refine hH_y h2 hb (by rw [vv S2 h2, nI_toInt (by omega)]; omega) ⟨fun z => absurd z (by decide), fun _ => E_gP_8_0 h2 hb (fun hg => E_gP_2_2 h2 hg (fun _ => V_aI_w h2 hb (nI_toInt (by omega)) (by omega) (rest _ ?_)))⟩
        rw [vv S2 h2, ee, if_pos (by unfold nHR; omega)]
        rfl
      · refine hH_n h2 hb (by rw [vv S2 h2, nI_toInt (by omega)]; omega) ⟨fun _ => rest _ ?_, fun z => absurd rfl z⟩
        rw [ee, if_neg (by unfold nHR; omega)]
        rfl
  have loop1 : ∀ t n S2, n + t = 8 → St Γ Ψ S2 → (∀ w, w < 4 ∨ (4 ≤ w ∧ w < 4 + n) ∨ (12 ≤ w ∧ w < 12 + n) → (aV S2 (ρd 2) w).toInt = envO f dn last w) → w_X1_setWords_b45 q (t + 1) S2 d b (nI n) := by
    intro t
    induction t with
    | zero =>
      intro n S2 hn h2 hw
      unfold w_X1_setWords_b45
      have : (8 : Int32) ≤ nI n := by
        have := nI_leI (a := 8) (b := n) (by omega) (by omega)
        rw [show (8 : Int32) = nI 8 from rfl, this]
        omega
      exact ⟨fun _ => ⟨7, loop2 6 0 S2 (by omega) h2 (fun w hw' => hw w (by omega))⟩, fun z => absurd this z⟩
    | succ t ih =>
      intro n S2 hn h2 hw
      have ng : ¬ (8 : Int32) ≤ nI n := by
        have := nI_leI (a := 8) (b := n) (by omega) (by omega)
        rw [show (8 : Int32) = nI 8 from rfl, this]
        omega
      have ee1 : envO f dn last (4 + n) = if n < nPR f then iR f (14 + n) else -1 := by
        unfold envO
        rw [if_neg (by omega), if_neg (by omega), if_neg (by omega), if_neg (by omega), if_pos (by omega), show 4 + n - 4 = n by omega]
      have ee2 : envO f dn last (12 + n) = if n < nPR f then allLR f n (nHR f) else -1 := by
        unfold envO
        rw [if_neg (by omega), if_neg (by omega), if_neg (by omega), if_neg (by omega), if_neg (by omega), if_pos (by omega), show 12 + n - 12 = n by omega]
      have last103 : ∀ (S3 : hS) (x : Int32), St Γ Ψ S3 → (∀ w, (w < 4 ∨ (4 ≤ w ∧ w < 4 + n) ∨ (12 ≤ w ∧ w < 12 + n)) ∨ w = 4 + n → (aV S3 (ρd 2) w).toInt = envO f dn last w) → x.toInt = envO f dn last (12 + n) → w_X1_setWords_b103 q (fun S v0 v1 v2 => w_X1_setWords_b45 q (t + 1) S v0 v1 v2) S3 d b (nI n) x (12 + nI n) (ρd 2) := by
        intro S3 x h3 w3 ex
        unfold w_X1_setWords_b103
        refine put (m := 12 + n) h3 w3 (by omega) (by rw [lit_nI 12, nIadd]) ex (fun S4 h4 w4 y ey => ?_)
        subst ey
        rw [nI_1]
        exact ih (n + 1) S4 (by omega) h4 (fun w hw' => w4 w (by omega))
      unfold w_X1_setWords_b45
      refine ⟨fun z => absurd z ng, fun _ => T_oK_8 h2 hb ?_⟩
      by_cases c : (n : Int) < iR f 1
      · refine hP_y h2 hb (by rw [vv S2 h2, nI_toInt (by omega)]; omega) (E_gP_1_2 h2 hd (fun _ => ⟨fun z => absurd z (by decide), fun _ => E_gP_8_0 h2 hb (fun hg => E_gP_2_3 h2 hg (fun _ => V_aI_m h2 hb (nI_toInt (by omega)) (by omega) ?_))⟩))
        unfold w_X1_setWords_b81
        refine put (P := fun w => w < 4 ∨ (4 ≤ w ∧ w < 4 + n) ∨ (12 ≤ w ∧ w < 12 + n)) (m := 4 + n) h2 hw (by omega) (by rw [lit_nI 4, nIadd]) ?_ (fun S3 h3 w3 => E_gP_1_2 h3 hd (fun _ => ⟨fun z => absurd z (by decide), fun _ => T_oK_8 h3 hb (kx_allLeftOf h3 hb (by rw [vv S3 h3]; exact hB) rfl (by rw [vv S3 h3]; exact c) (fun r er => last103 S3 r h3 w3 ?_))⟩))
        · rw [vv S2 h2, ee1, if_pos (by unfold nPR; omega)]
          rfl
        · rw [er, vv S3 h3, ee2, if_pos (by unfold nPR; omega)]
      · refine hP_n h2 hb (by rw [vv S2 h2, nI_toInt (by omega)]; omega) (E_gP_1_2 h2 hd (fun _ => ⟨fun _ => ?_, fun z => absurd rfl z⟩))
        unfold w_X1_setWords_b81
        refine put (P := fun w => w < 4 ∨ (4 ≤ w ∧ w < 4 + n) ∨ (12 ≤ w ∧ w < 12 + n)) (m := 4 + n) h2 hw (by omega) (by rw [lit_nI 4, nIadd]) ?_ (fun S3 h3 w3 => E_gP_1_2 h3 hd (fun _ => ⟨fun _ => last103 S3 _ h3 w3 ?_, fun z => absurd rfl z⟩))
        · rw [ee1, if_neg (by unfold nPR; omega)]
          rfl
        · rw [ee2, if_neg (by unfold nPR; omega)]
          rfl
  unfold w_X1_setWords
  refine E_gP_1_2 hst hd (fun _ => E_gP_8_0 hst hb (fun _ => V_gI_y hst hb ?_))
  rw [vv S hst]
  refine put (P := fun _ => False) (m := 0) hst (fun _ z => z.elim) (by omega) rfl rfl (fun S1 h1 w1 => E_gP_1_2 h1 hd (fun _ => T_gI_1_5 h1 hd (fun x19 e19 _ => ?_)))
  rw [dd S1 5 h1] at e19
  refine put (m := 1) h1 w1 (by omega) rfl (by rw [e19, e5]; rfl) (fun S2 h2 w2 => E_gP_1_2 h2 hd (fun _ => T_gI_1_3 h2 hd (fun x29 e29 _ => ?_)))
  rw [dd S2 3 h2] at e29
  refine put (m := 2) h2 w2 (by omega) rfl (by rw [e29, e3]; rfl) (fun S3 h3 w3 => E_gP_1_2 h3 hd (fun _ => T_oK_8 h3 hb (kx_livingPeople h3 hb (by rw [vv S3 h3]; exact b1) ?_)))
  rw [vv S3 h3]
  have al := aliveR_le (f := f) (nPR f)
  refine put (m := 3) h3 w3 (by omega) rfl (by rw [nI_toInt (by unfold nPR at al ⊢; omega)]; rfl) (fun S4 h4 w4 => ⟨9, loop1 8 0 S4 (by omega) h4 (fun w hw' => w4 w (by omega))⟩)
end SW
