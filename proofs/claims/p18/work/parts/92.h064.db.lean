/-! HEIRS, DIVISION, DEATH, A YEAR -/
theorem heirB_cg {f f' : Nat → Int32} {p o : Nat} (h1 : f' (162 + p) = f (162 + p)) (h2 : f' (22 + o) = f (22 + o)) (h3 : f' 1 = f 1) : heirB f' p o = heirB f p o := by
  unfold heirB liveR iR
  rw [h1, h2, h3]
/-- houses below n are divided; of house n the owner's are gone, and the heirs below m have theirs -/
def dieQ (f : Nat → Int32) (p n m : Nat) : Nat → Int32 := fun i => if 30 ≤ i ∧ i < 78 ∧ ((i - 30) % 6 < n ∨ ((i - 30) % 6 = n ∧ ((i - 30) / 6 = p ∨ (i - 30) / 6 < m))) then (if (i - 30) / 6 = p then 0 else if heirB f p ((i - 30) / 6) = true then gotR f p ((i - 30) % 6) ((i - 30) / 6) else f i) else if 78 ≤ i ∧ i < 126 ∧ (i - 78) % 6 ≤ n ∧ (i - 78) / 6 = p then 0 else f i
theorem dieQ_0 {f : Nat → Int32} {p n : Nat} (hp : p < 8) (hn : n < 6) : upd (upd (dieH f p n) (30 + 6 * p + n) 0) (78 + 6 * p + n) 0 = dieQ f p n 0 := by
  funext i
  unfold upd dieH dieQ
  generalize heirB f p ((i - 30) / 6) = hb
  generalize gotR f p ((i - 30) % 6) ((i - 30) / 6) = gr
  generalize f i = fi
  repeat' split
  all_goals first | rfl | (exfalso; omega)
theorem dieQ_s {f : Nat → Int32} {p n o : Nat} (ho : o < 8) (hn : n < 6) (hpp : heirB f p p = false) : dieQ f p n (o + 1) = if heirB f p o = true then upd (dieQ f p n o) (30 + 6 * o + n) (gotR f p n o) else dieQ f p n o := by
  by_cases hh : heirB f p o = true
  · have po : o ≠ p := fun z => by rw [z, hpp] at hh; cases hh
    rw [if_pos hh]
    funext i
    unfold upd
    by_cases b : i = 30 + 6 * o + n
    · subst b
      have e1 : (30 + 6 * o + n - 30) / 6 = o := by omega
      have e2 : (30 + 6 * o + n - 30) % 6 = n := by omega
      rw [if_pos rfl]
      unfold dieQ
      rw [e1, e2, if_pos (by omega), if_neg po, if_pos hh]
    · rw [if_neg b]
      unfold dieQ
      generalize heirB f p ((i - 30) / 6) = hb
      generalize gotR f p ((i - 30) % 6) ((i - 30) / 6) = gr
      generalize f i = fi
      repeat' split
      all_goals first | rfl | (exfalso; omega)
  · rw [if_neg hh]
    funext i
    unfold dieQ
    by_cases e : 30 ≤ i ∧ i < 78 ∧ (i - 30) % 6 = n ∧ (i - 30) / 6 = o
    · have e3 : heirB f p ((i - 30) / 6) = false := by rw [e.2.2.2]; simpa using hh
      rw [e3]
      generalize gotR f p ((i - 30) % 6) ((i - 30) / 6) = gr
      generalize f i = fi
      repeat' split
      all_goals first | rfl | (exfalso; omega) | contradiction
    · generalize heirB f p ((i - 30) / 6) = hb
      generalize gotR f p ((i - 30) % 6) ((i - 30) / 6) = gr
      generalize f i = fi
      repeat' split
      all_goals first | rfl | (exfalso; omega)
theorem dieQ_e {f : Nat → Int32} {p n m : Nat} (hn : n < 6) (hm : ∀ o, m ≤ o → o < 8 → heirB f p o = false) : dieQ f p n m = dieH f p (n + 1) := by
  funext i
  unfold dieQ dieH
  by_cases e : 30 ≤ i ∧ i < 78 ∧ m ≤ (i - 30) / 6
  · have e3 : heirB f p ((i - 30) / 6) = false := hm _ e.2.2 (by omega)
    rw [e3]
    generalize gotR f p ((i - 30) % 6) ((i - 30) / 6) = gr
    generalize f i = fi
    repeat' split
    all_goals first | rfl | (exfalso; omega) | contradiction
  · generalize heirB f p ((i - 30) / 6) = hb
    generalize gotR f p ((i - 30) % 6) ((i - 30) / 6) = gr
    generalize f i = fi
    repeat' split
    all_goals first | rfl | (exfalso; omega)
theorem dieH_0 {f : Nat → Int32} {p : Nat} : dieH f p 0 = f := by
  funext i
  unfold dieH
  rw [if_neg (by omega), if_neg (by omega)]
theorem dieQ_o {f : Nat → Int32} {p n m i : Nat} (h : ¬ (30 ≤ i ∧ i < 126)) : dieQ f p n m i = f i := by
  unfold dieQ
  rw [if_neg (by omega), if_neg (by omega)]
theorem dieH_o {f : Nat → Int32} {p n i : Nat} (h : ¬ (30 ≤ i ∧ i < 126)) : dieH f p n i = f i := by
  unfold dieH
  rw [if_neg (by omega), if_neg (by omega)]
theorem dieQ_r {f : Nat → Int32} {p n m o : Nat} (hn : n < 6) (ho : o < 8) (hm : m ≤ o) (hp : o ≠ p) : dieQ f p n m (30 + 6 * o + n) = f (30 + 6 * o + n) := by
  unfold dieQ
  rw [if_neg (by omega), if_neg (by omega)]
theorem dieH_r {f : Nat → Int32} {p n o : Nat} (hn : n < 6) (ho : o < 8) : dieH f p n (30 + 6 * o + n) = f (30 + 6 * o + n) := by
  unfold dieH
  rw [if_neg (by omega), if_neg (by omega)]
theorem heir_pp {f : Nat → Int32} {p : Nat} (hB : rB f) (hp : p < 8) : heirB f p p = false := by
  unfold heirB
  rw [decide_eq_false (hB.2.2.2.2.2 p hp)]
  rfl
theorem rank_cg {f f' : Nat → Int32} {p : Nat} (h : ∀ o, heirB f' p o = heirB f p o) (n : Nat) : rankR f' p n = rankR f p n := by
  induction n with
  | zero => rfl
  | succ n ih => rw [rankR, rankR, ih, h]
section DB
variable {Γ : kG} {Φ : kF} {S : hS} {a b d g i u : Nat} {ρ ρd ρg : Nat → Nat} {us : uL} {L : Nat → List pCl}
theorem kx_isLivingHeir {q : Int32 → hS → Prop} {p o : Nat} {v w : Int32} (h : St Γ Φ S) (hb : Γ b = some (8, 8 + 10000 * i, i, 0, ρ)) (b1 : 0 ≤ iR (sV S b ρ) 1 ∧ iR (sV S b ρ) 1 ≤ 8) (ev : v = nI p) (ew : w = nI o) (hp : (p : Int) < iR (sV S b ρ) 1) (ho : (o : Int) < iR (sV S b ρ) 1) (k1 : heirB (sV S b ρ) p o = true → q 1 S) (k0' : ¬ heirB (sV S b ρ) p o = true → q 0 S) : w_X8_isLivingHeir q S b v w := by
  subst ev
  subst ew
  have p8 : p < 8 := by omega
  have o8 : o < 8 := by omega
  have ex : heirB (sV S b ρ) p o = true ↔ dB (sV S b ρ (162 + p)) o = 1 ∧ iR (sV S b ρ) (22 + o) = 0 := by
    unfold heirB liveR
    simp only [Bool.and_eq_true, decide_eq_true_eq]
    exact ⟨fun z => z.1, fun z => ⟨z, ho⟩⟩
  rw [ex] at k1 k0'
  unfold w_X8_isLivingHeir
  refine T_oK_8 h hb (hP_y h hb (by rw [nI_toInt (by omega)]; omega) ⟨fun z => absurd z (by decide), fun _ => T_oK_8 h hb (kx_lives h hb b1 rfl ho (fun lv => ⟨fun z => absurd z (by decide), fun _ => E_gP_8_8 h hb (fun _ => V_aI_e h hb (nI_toInt (by omega)) p8 ?_)⟩) (fun lv => ⟨fun _ => k0' (fun z => lv z.2), fun z => absurd rfl z⟩))⟩)
  unfold w_X11_hasBit
  rw [n31 o o8]
  have l31 : (31 : Int32) ≤ nI o ↔ 31 ≤ o := nI_leI (a := 31) (by omega) (by omega)
  rw [l31]
  unfold dB at k1 k0'
  refine ⟨fun z => absurd z (nI_ltz (by omega)), fun _ => ⟨fun z => by omega, fun _ => ?_⟩⟩
  by_cases c : sV S b ρ (162 + p) >>> nI o &&& 1 = 1
  · exact ⟨fun z => absurd c z, fun _ => ⟨fun z2 => absurd z2 (by decide), fun _ => k1 ⟨c, lv⟩⟩⟩
  · exact ⟨fun _ => ⟨fun _ => k0' (fun y => c y.1), fun z2 => absurd rfl z2⟩, fun z => absurd z c⟩
theorem kx_livingHeirs {q : Int32 → hS → Prop} {p : Nat} {v : Int32} (h : St Γ Φ S) (hb : Γ b = some (8, 8 + 10000 * i, i, 0, ρ)) (b1 : 0 ≤ iR (sV S b ρ) 1 ∧ iR (sV S b ρ) 1 ≤ 8) (ev : v = nI p) (hp : (p : Int) < iR (sV S b ρ) 1) (k : q (nI (manyR (sV S b ρ) p)) S) : w_X8_livingHeirs q S b v := by
  have loop : ∀ t n, n + t = nPR (sV S b ρ) → w_X8_livingHeirs_b4 q (t + 1) S b v (nI (rankR (sV S b ρ) p n)) (nI n) := by
    intro t
    induction t with
    | zero =>
      intro n hn
      unfold w_X8_livingHeirs_b4
      refine V_gI_4 h hb (fun _ => ?_)
      have : sV S b ρ 1 ≤ nI n := by rw [Int32.le_iff_toInt_le, nI_toInt (by unfold nPR at hn; omega)]; unfold nPR iR at hn; unfold iR at b1; omega
      refine ⟨fun _ => ?_, fun z => absurd this z⟩
      rw [show n = nPR (sV S b ρ) by omega]
      exact k
    | succ t ih =>
      intro n hn
      have n8 : n < 8 := by unfold nPR at hn; omega
      have hn2 : (n : Int) < iR (sV S b ρ) 1 := by unfold nPR at hn; omega
      have r := rank_le (f := sV S b ρ) (p := p) n
      unfold w_X8_livingHeirs_b4
      refine V_gI_4 h hb (fun _ => ?_)
      have ng : ¬ sV S b ρ 1 ≤ nI n := by rw [Int32.le_iff_toInt_le, nI_toInt (by omega)]; unfold iR at hn2; omega
      have ih' := ih (n + 1) (by omega)
      rw [rankR] at ih'
      refine ⟨fun z => absurd z ng, fun _ => T_oK_8 h hb (kx_isLivingHeir h hb b1 ev rfl hp hn2 (fun c => ⟨fun z => absurd z (by decide), fun _ y21 e21 => ?_⟩) (fun c => ⟨fun _ => ?_, fun z => absurd rfl z⟩))⟩
      · rw [if_pos c] at ih'
        subst e21
        unfold w_X8_livingHeirs_b24
        intro y e
        subst e
        rw [nI_1, nI_1]
        exact ih'
      · rw [if_neg c] at ih'
        unfold w_X8_livingHeirs_b24
        intro y e
        subst e
        rw [nI_1]
        exact ih'
  unfold w_X8_livingHeirs
  exact ⟨nPR (sV S b ρ) + 1, loop (nPR (sV S b ρ)) 0 (by omega)⟩
/-- what each heir gets of a house -/
theorem kx_divide {q : hS → Prop} {f : Nat → Int32} {p hh : Nat} {v1 v2 v3 v4 : Int32} {N : List Nat} (h : St Γ Φ S) (hf : fre Γ Φ N) (hN : 300 + 10000 * i ∈ N) (hb : Γ b = some (8, 8 + 10000 * i, i, 0, ρ)) (hB : rB f) (e1 : v1 = nI p) (e2 : v2 = nI hh) (hp : (p : Int) < iR f 1) (hh' : (hh : Int) < iR f 0) (e3 : v3 = nI (ownR f p hh / manyR f p)) (e4 : v4 = nI (ownR f p hh % manyR f p)) (ef : sV S b ρ = dieQ f p hh 0) (k : ∀ S', St Γ Φ S' → sV S' b ρ = dieH f p (hh + 1) → q S') : w_X1_divide q S b v1 v2 v3 v4 := by
  subst e1
  subst e2
  subst e3
  subst e4
  have b1 := rB_1 hB
  have b0 := rB_0 hB
  have hpp := heir_pp hB (p := p) (by omega)
  have r0 := rB_r hB (j := 6 * p + hh) (by omega)
  have ow : ownR f p hh ≤ 99 := by
    unfold ownR
    rw [show 30 + 6 * p + hh = 30 + (6 * p + hh) by omega]
    omega
  have ow1 : ownR f p hh / manyR f p ≤ 99 := Nat.le_trans (Nat.div_le_self _ _) ow
  have ow2 : ownR f p hh % manyR f p ≤ 99 := Nat.le_trans (Nat.mod_le _ _) ow
  unfold w_X1_divide
  refine E_gP_8_0 h hb (fun hg => E_gP_2_0 h hg (fun _ => ?_))
  have loop : ∀ t n S1, n + t = nPR f → St Γ Φ S1 → sV S1 b ρ = dieQ f p hh n → w_X1_divide_b15 q (t + 1) S1 b (nI p) (nI hh) (nI (ownR f p hh / manyR f p)) (nI (ownR f p hh % manyR f p)) (bk 0 ρ 0) (nI (rankR f p n)) (nI n) := by
    intro t
    induction t with
    | zero =>
      intro n S1 hn h1 ev
      unfold w_X1_divide_b15
      refine V_gI_4 h1 hb (fun _ => ?_)
      rw [ev, dieQ_o (by omega)]
      have : f 1 ≤ nI n := by rw [Int32.le_iff_toInt_le, nI_toInt (by unfold nPR at hn; omega)]; unfold nPR iR at hn; unfold iR at b1; omega
      refine ⟨fun _ => k S1 h1 ?_, fun z => absurd this z⟩
      rw [ev, dieQ_e (by omega)]
      intro o ho o8
      unfold heirB
      rw [decide_eq_false (p := (o : Int) < iR f 1) (by unfold nPR at hn; omega), Bool.and_false]
    | succ t ih =>
      intro n S1 hn h1 ev
      have n8 : n < 8 := by unfold nPR at hn; omega
      have hn2 : (n : Int) < iR f 1 := by unfold nPR at hn; omega
      have r := rank_le (f := f) (p := p) n
      unfold w_X1_divide_b15
      refine V_gI_4 h1 hb (fun _ => ?_)
      have ev1 : sV S1 b ρ 1 = f 1 := by rw [ev, dieQ_o (by omega)]
      have iv1 : iR (sV S1 b ρ) 1 = iR f 1 := by unfold iR; rw [ev1]
      have ng : ¬ sV S1 b ρ 1 ≤ nI n := by rw [ev1, Int32.le_iff_toInt_le, nI_toInt (by omega)]; unfold iR at hn2; omega
      have hc : heirB (sV S1 b ρ) p n = heirB f p n := heirB_cg (by rw [ev, dieQ_o (by omega)]) (by rw [ev, dieQ_o (by omega)]) ev1
      have sh : shareR f p hh n ≤ 1000 := by
        unfold shareR
        split <;> omega
      -- an heir gets its share
      have give : heirB f p n = true → ∀ x : Int32, x = nI (shareR f p hh n) → w_X1_divide_b48 q (fun S v0 v1 v2 v3 v4 v5 v6 v7 => w_X1_divide_b15 q (t + 1) S v0 v1 v2 v3 v4 v5 v6 v7) S1 b (nI p) (nI hh) (nI (ownR f p hh / manyR f p)) (nI (ownR f p hh % manyR f p)) (bk 0 ρ 0) (nI (rankR f p n)) (nI n) x := by
        intro c x ex
        subst ex
        have np : n ≠ p := fun z => by rw [z, hpp] at c; cases c
        have rr := rB_r hB (j := 6 * n + hh) (by omega)
        rw [show 30 + (6 * n + hh) = 30 + 6 * n + hh by omega] at rr
        unfold w_X1_divide_b48
        refine kx_slot (kx_slot (V_aI_r h1 hb (nI_toInt (by omega)) (by omega) (V_sI_r h1 hb hf hN (nI_toInt (by omega)) (by omega) (fun S2 h2 e2 y76 e76 => ?_))))
        subst e76
        unfold w_X1_divide_b79
        intro y79 e79
        subst e79
        have ih' := ih (n + 1) S2 (by omega) h2 (by
          rw [e2, ev, dieQ_s n8 (by omega) hpp, if_pos c, show 30 + (n * 6 + hh) = 30 + 6 * n + hh by omega, dieQ_r (by omega) n8 (Nat.le_refl _) np, wI_min]
          unfold gotR
          have : (f (30 + 6 * n + hh) + nI (shareR f p hh n)).toInt = iR f (30 + 6 * n + hh) + (shareR f p hh n : Nat) := by
            rw [fb_addI (by rw [nI_toInt (by omega), iR_i]; omega) (by rw [nI_toInt (by omega), iR_i]; omega), nI_toInt (by omega), iR_i]
          rw [this]
          rfl)
        rw [rankR, if_pos c] at ih'
        rw [nI_1, nI_1]
        exact ih'
      refine ⟨fun z => absurd z ng, fun _ => T_oK_8 h1 hb (kx_isLivingHeir h1 hb (by rw [iv1]; exact b1) rfl rfl (by rw [iv1]; exact hp) (by rw [iv1]; exact hn2) (fun c => ⟨fun z => absurd z (by decide), fun _ => ⟨fun z => ?_, fun z => ?_⟩⟩) (fun c => ⟨fun _ => ?_, fun z => absurd rfl z⟩))⟩
      · rw [hc] at c
        rw [nI_leI (by omega) (by omega)] at z
        refine give c _ ?_
        unfold shareR
        rw [if_neg (by omega)]
        rfl
      · rw [hc] at c
        rw [nI_leI (by omega) (by omega)] at z
        refine give c _ ?_
        unfold shareR
        rw [if_pos (by omega), nI_1]
      · rw [hc] at c
        have ih' := ih (n + 1) S1 (by omega) h1 (by rw [ev, dieQ_s n8 (by omega) hpp, if_neg c])
        rw [rankR, if_neg c] at ih'
        unfold w_X1_divide_b79
        intro y e
        subst e
        rw [nI_1]
        exact ih'
  exact ⟨nPR f + 1, loop (nPR f) 0 S (by omega) h ef⟩
theorem kx_X1_bury {q : Int32 → hS → Prop} {lg : Option Nat} {v3 : Int32} (h : St Γ Φ S) (hf : fre Γ Φ (dbNm i)) (hi : i < 10) (hb : Γ b = some (8, 8 + 10000 * i, i, 0, ρ)) (hB : rB (sV S b ρ)) (hl : lgI ρg Γ Φ S u lg us) (kb : ¬ (0 ≤ v3.toInt ∧ v3.toInt < iR (sV S b ρ) 1) → q (-2) S) (kn : ∀ p : Nat, v3 = nI p → (p : Int) < iR (sV S b ρ) 1 → ¬ liveR (sV S b ρ) p = true → q (-3) S) (kk : ∀ p : Nat, v3 = nI p → (p : Int) < iR (sV S b ρ) 1 → liveR (sV S b ρ) p = true → ∀ Γ' S', gro Γ Φ Γ' → St Γ' Φ S' → lgJ ρg Γ' S S' lg (pushU us (2, sV S b ρ)) → sam Γ (deNm i) S S' → sV S' b ρ = dieF (sV S b ρ) p → q (nI (manyR (sV S b ρ) p)) S') : w_X1_bury q S u d b lg v3 := by
  have b1 := rB_1 hB
  have b0 := rB_0 hB
  unfold w_X1_bury
  refine T_oK_8 h hb ?_
  by_cases c1 : 0 ≤ v3.toInt ∧ v3.toInt < iR (sV S b ρ) 1
  rotate_left
  · exact hP_n h hb c1 ⟨fun z => absurd rfl z, fun _ => kb c1⟩
  obtain ⟨p, ep, hp, p8⟩ := pN c1 hB
  have kn' := kn p ep hp
  have kk' := kk p ep hp
  subst ep
  refine hP_y h hb c1 ⟨fun _ => T_oK_8 h hb (kx_lives h hb b1 rfl hp (fun lv => ⟨fun _ => ?_, fun z => absurd z (by decide)⟩) (fun lv => ⟨fun z => absurd rfl z, fun _ => kn' (fun z => lv (of_decide_eq_true z))⟩)), fun z => absurd z (by decide)⟩
  refine E_gP_8_0 h hb (fun _ => ⟨u, 0, rfl, kx_deed (L := fun _ => []) h hf hb hi hl (kd := 2) (by omega) rfl (fun Γ1 Ψ S1 g1 h1 f1 back as1 ev1 => ?_)⟩)
  have kk2 := kk' (decide_eq_true lv) Γ1
  have hb1 := g1.1 _ _ hb
  have kq : ∀ S', St Γ1 Ψ S' → sV S' b ρ = dieF (sV S b ρ) p → q (nI (manyR (sV S b ρ) p)) S' := fun S' h' ev' => by
    obtain ⟨x1, x2, x3⟩ := back S' h'
    exact kk2 S' g1 x1 x2 x3 ev'
  refine T_oK_8 h1 hb1 (kx_livingHeirs h1 hb1 (by rw [ev1]; exact b1) rfl (by rw [ev1]; exact hp) ?_)
  rw [ev1]
  generalize sV S b ρ = f at *
  have m8 : manyR f p ≤ 8 := Nat.le_trans (rank_le (nPR f)) (by unfold nPR; omega)
  have loop : ∀ t n S2, n + t = nHR f → St Γ1 Ψ S2 → sV S2 b ρ = dieH f p n → w_X1_bury_b45 q (t + 1) S2 0 b (nI p) (ρ 0) (nI (manyR f p)) (nI n) := by
    intro t
    induction t with
    | zero =>
      intro n S2 hn h2 ev
      unfold w_X1_bury_b45
      refine V_gI_1 h2 hb1 (fun _ => ?_)
      rw [ev, dieH_o (by omega)]
      have : f 0 ≤ nI n := by rw [Int32.le_iff_toInt_le, nI_toInt (by unfold nHR at hn; omega)]; unfold nHR iR at hn; unfold iR at b0; omega
      refine ⟨fun _ => T_gI_2_4 h2 (P_8_0 h2 hb1).2 (fun x ex _ => V_pI_d h2 hb1 f1 (by simp [dbNm]) (fun S3 h3 e3 _ => kq S3 h3 ?_)), fun z => absurd this z⟩
      rw [e3]
      unfold dieF
      rw [show nHR f = n by omega, ← ev]
      funext j
      unfold upd
      by_cases c : 22 ≤ j ∧ j < 30
      · rw [if_pos c, dB_or p8 (by omega), ex, sV_k (S := S2) (b := b) (ρ := ρ) (show j - 22 < 8 by omega), show 22 + (j - 22) = j by omega]
        by_cases z : j = 22 + p
        · rw [if_pos (by omega), if_pos z]
        · rw [if_neg (by omega), if_neg z]
      · rw [if_neg c, if_neg (by omega)]
    | succ t ih =>
      intro n S2 hn h2 ev
      have n6 : n < 6 := by unfold nHR at hn; omega
      have hn2 : (n : Int) < iR f 0 := by unfold nHR at hn; omega
      unfold w_X1_bury_b45
      refine V_gI_1 h2 hb1 (fun _ => ?_)
      have ng : ¬ sV S2 b ρ 0 ≤ nI n := by rw [ev, dieH_o (by omega), Int32.le_iff_toInt_le, nI_toInt (by omega)]; unfold iR at hn2; omega
      have hg2 := (P_8_0 h2 hb1).2
      have rr := rB_r hB (j := p * 6 + n) (by omega)
      refine ⟨fun z => absurd z ng, fun _ => E_gP_2_0 h2 hg2 (fun _ => kx_slot (V_aI_r h2 hb1 (nI_toInt (by omega)) (by omega) (E_gP_2_0 h2 hg2 (fun _ => kx_slot (V_sI_r h2 hb1 f1 (by simp [dbNm]) (nI_toInt (by omega)) (by omega) (fun S3 h3 e3 => E_gP_2_1 h3 hg2 (fun _ => kx_slot (V_sI_u h3 hb1 f1 (by simp [dbNm]) (nI_toInt (by omega)) (by omega) (fun S4 h4 e4 => ?_)))))))))⟩
      rw [ev, show 30 + (p * 6 + n) = 30 + 6 * p + n by omega] at e3
      have ev4 : sV S4 b ρ = dieQ f p n 0 := by rw [e4, e3, show 78 + (p * 6 + n) = 78 + 6 * p + n by omega, dieQ_0 p8 n6]
      have eo : sV S2 b ρ (30 + (p * 6 + n)) = nI (ownR f p n) := by
        rw [ev, show 30 + (p * 6 + n) = 30 + 6 * p + n by omega, dieH_r n6 p8]
        rw [show 30 + (p * 6 + n) = 30 + 6 * p + n by omega] at rr
        unfold ownR
        apply Int32.toInt_inj.mp
        rw [nI_toInt (by omega), iR_i]
        omega
      have ow : ownR f p n ≤ 99 := by
        rw [show 30 + (p * 6 + n) = 30 + 6 * p + n by omega] at rr
        unfold ownR
        omega
      have next : ∀ S5, St Γ1 Ψ S5 → sV S5 b ρ = dieH f p (n + 1) → w_X1_bury_b116 q (fun S u v1 v3 v4 v5 v6 => w_X1_bury_b45 q (t + 1) S u v1 v3 v4 v5 v6) S5 0 b (nI p) (ρ 0) (nI (manyR f p)) (nI n) := by
        intro S5 h5 e5
        unfold w_X1_bury_b116
        intro y e
        subst e
        rw [nI_1]
        exact ih (n + 1) S5 (by omega) h5 e5
      have z0' : nI (manyR f p) ≤ 0 ↔ manyR f p = 0 := by
        have := nI_leI (a := manyR f p) (b := 0) (by omega) (by omega)
        rw [show (0 : Int32) = nI 0 from rfl, this]
        omega
      rw [z0']
      refine ⟨fun z => next S4 h4 ?_, fun z => ⟨?_, ?_, ?_⟩⟩
      · rw [ev4, dieQ_e n6]
        intro o _ o8
        cases c : heirB f p o with
        | false => rfl
        | true => have := (heir_lt hB c).2; omega
      · intro y; have y2 := congrArg Int32.toInt y; rw [nI_toInt (by omega), z0I] at y2; omega
      · intro y; have y2 := congrArg Int32.toInt y; rw [nI_toInt (by omega), z0I] at y2; omega
      · rw [eo, nIdiv (by omega) (by omega), nImul, nIsub (by
          have := Nat.div_mul_le_self (ownR f p n) (manyR f p)
          omega)]
        refine kx_divide h4 f1 (by simp [dbNm]) hb1 hB rfl rfl hp hn2 rfl ?_ ev4 (fun S5 h5 e5 => next S5 h5 e5)
        congr 1
        have := Nat.div_add_mod (ownR f p n) (manyR f p)
        rw [Nat.mul_comm] at this
        omega
  exact ⟨nHR f + 1, loop (nHR f) 0 S1 (by omega) h1 (by rw [ev1, dieH_0])⟩
theorem kx_turnYear {q : Int32 → hS → Prop} {lg : Option Nat} (h : St Γ Φ S) (hf : fre Γ Φ (dbNm i)) (hi : i < 10) (hb : Γ b = some (8, 8 + 10000 * i, i, 0, ρ)) (hB : rB (sV S b ρ)) (hl : lgI ρg Γ Φ S u lg us) (kn : ¬ iR (sV S b ρ) 5 < 999 → q (-3) S) (kk : iR (sV S b ρ) 5 < 999 → ∀ Γ' S', gro Γ Φ Γ' → St Γ' Φ S' → lgJ ρg Γ' S S' lg (pushU us (3, sV S b ρ)) → sam Γ (deNm i) S S' → sV S' b ρ = passF (sV S b ρ) → q (wI (iR (sV S b ρ) 5 + 1)) S') : w_X1_turnYear q S u d b lg := by
  have y5 := hB.1 5 (by omega)
  rw [show rHi 5 = 999 by decide, show rLo 5 = 0 by decide] at y5
  unfold w_X1_turnYear
  refine E_gP_8_0 h hb (fun hg => V_gI_y h hb ⟨fun c => ⟨u, 0, rfl, kx_deed (L := fun _ => []) h hf hb hi hl (kd := 3) (by omega) rfl (fun Γ1 Ψ S1 g1 h1 f1 back as1 ev1 => ?_)⟩, fun c => kn (fun z => c ?_)⟩)
  rotate_left
  · rw [Int32.lt_iff_toInt_lt]
    exact z
  rw [Int32.lt_iff_toInt_lt] at c
  have kk2 := kk c Γ1
  have hb1 := g1.1 _ _ hb
  have hg1 := (P_8_0 h1 hb1).2
  have kq : ∀ S', St Γ1 Ψ S' → sV S' b ρ = passF (sV S b ρ) → q (wI (iR (sV S b ρ) 5 + 1)) S' := fun S' h' ev' => by
    obtain ⟨x1, x2, x3⟩ := back S' h'
    exact kk2 S' g1 x1 x2 x3 ev'
  generalize sV S b ρ = f at *
  -- the weariness, and the year
  have loop2 : ∀ t n S2, n + t = 6 → St Γ1 Ψ S2 → (sV S2 b ρ = fun j => if 8 ≤ j ∧ j < 8 + n then 0 else if 78 ≤ j ∧ j < 126 then 0 else f j) → w_X1_turnYear_b54 q (t + 1) S2 0 (ρ 0) (nI n) := by
    intro t
    induction t with
    | zero =>
      intro n S2 hn h2 ev
      have n6 : n = 6 := by omega
      subst n6
      have e5 : sV S2 b ρ 5 = f 5 := by rw [ev]; rfl
      have e6 : f 5 + 1 = wI (iR f 5 + 1) := wI_add rfl (by decide) (by omega) (by omega)
      unfold w_X1_turnYear_b54
      refine ⟨fun _ => V_gI_y h2 hb1 (V_pI_y h2 hb1 f1 (by simp [dbNm]) (fun S3 h3 e3 => V_gI_y h3 hb1 ?_)), fun z => absurd (by decide) z⟩
      rw [e5, e6] at e3
      have e7 : sV S3 b ρ 5 = wI (iR f 5 + 1) := by rw [e3]; rfl
      rw [e7]
      refine kq S3 h3 ?_
      rw [e3, ev]
      funext j
      unfold upd passF
      by_cases z : j = 5
      · rw [if_pos z]
      · rw [if_neg z]
    | succ t ih =>
      intro n S2 hn h2 ev
      unfold w_X1_turnYear_b54
      have ng : ¬ (6 : Int32) ≤ nI n := by
        have := nI_leI (a := 6) (b := n) (by omega) (by omega)
        rw [show (6 : Int32) = nI 6 from rfl, this]
        omega
      refine ⟨fun z => absurd z ng, fun _ => E_gP_2_2 h2 hg1 (fun _ => V_sI_w h2 hb1 f1 (by simp [dbNm]) (nI_toInt (by omega)) (by omega) (fun S3 h3 e3 y ey => ?_))⟩
      subst ey
      rw [nI_1]
      refine ih (n + 1) S3 (by omega) h3 ?_
      rw [e3, ev]
      funext j
      unfold upd
      dsimp only
      generalize f j = fj
      repeat' split
      all_goals first | rfl | (exfalso; omega)
  have loop1 : ∀ t n S2, n + t = 48 → St Γ1 Ψ S2 → (sV S2 b ρ = fun j => if 78 ≤ j ∧ j < 78 + n then 0 else f j) → w_X1_turnYear_b27 q (t + 1) S2 0 (ρ 0) (nI n) := by
    intro t
    induction t with
    | zero =>
      intro n S2 hn h2 ev
      have n6 : n = 48 := by omega
      subst n6
      unfold w_X1_turnYear_b27
      refine E_gP_2_1 h2 hg1 (fun kb => T_aN_20 h2 kb (fun x33 e33 => ⟨fun _ => ⟨7, loop2 6 0 S2 (by omega) h2 ?_⟩, fun z => absurd ?_ z⟩))
      · rw [ev]
        funext j
        generalize f j = fj
        repeat' split
        all_goals first | rfl | (exfalso; omega)
      · rw [Int32.le_iff_toInt_le, e33, nI_toInt (by omega)]
        exact Int.le_refl _
    | succ t ih =>
      intro n S2 hn h2 ev
      unfold w_X1_turnYear_b27
      refine E_gP_2_1 h2 hg1 (fun kb => T_aN_20 h2 kb (fun x33 e33 => ⟨fun z => absurd z ?_, fun _ => E_gP_2_1 h2 hg1 (fun _ => V_sI_u h2 hb1 f1 (by simp [dbNm]) (nI_toInt (by omega)) (by omega) (fun S3 h3 e3 y ey => ?_))⟩))
      · rw [Int32.le_iff_toInt_le, e33, nI_toInt (by omega)]
        omega
      · subst ey
        rw [nI_1]
        refine ih (n + 1) S3 (by omega) h3 ?_
        rw [e3, ev]
        funext j
        unfold upd
        dsimp only
        generalize f j = fj
        repeat' split
        all_goals first | rfl | (exfalso; omega)
  refine ⟨49, loop1 48 0 S1 (by omega) h1 ?_⟩
  rw [ev1]
  funext j
  rw [if_neg (by omega)]
end DB
