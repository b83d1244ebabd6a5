/-! RINGS GIVEN OUT, ON PAPER AND IN THE CLASS -/
def rgA (f : Nat → Int32) (h p : Nat) : Nat := (iR f (30 + 6 * p + h)).toNat
/-- who has the best claim -/
def gvB (f : Nat → Int32) (h : Nat) (g : Nat → Nat) : Nat → Option Nat
  | 0 => none
  | p + 1 => if 0 < rgA f h p then (match gvB f h g p with
    | none => some p
    | some t => if rgA f h t * (g p + 1) < rgA f h p * (g t + 1) then some p else some t) else gvB f h g p
def gvS (f : Nat → Int32) (h : Nat) : Nat → Nat → Nat
  | 0 => fun _ => 0
  | k + 1 => match gvB f h (gvS f h k) (nPR f) with
    | none => gvS f h k
    | some t => fun p => if p = t then gvS f h k p + 1 else gvS f h k p
def obN : Option Nat → Int32
  | none => -1
  | some t => nI t
section GV
variable {f : Nat → Int32} {h : Nat} {g : Nat → Nat}
theorem rgA_e (hB : rB f) {p : Nat} (hp : p < 8) (hh : h < 6) : f (30 + 6 * p + h) = nI (rgA f h p) ∧ rgA f h p ≤ 99 := by
  have b := hB.1 (30 + 6 * p + h) (by omega)
  rw [(hi_r (by omega)).1, (hi_r (by omega)).2] at b
  have : rgA f h p ≤ 99 := by unfold rgA; omega
  refine ⟨?_, this⟩
  apply Int32.toInt_inj.mp
  rw [nI_toInt (by omega)]
  have e : iR f (30 + 6 * p + h) = (f (30 + 6 * p + h)).toInt := rfl
  unfold rgA
  omega
theorem gvB_lt : ∀ n t, gvB f h g n = some t → t < n ∧ 0 < rgA f h t
  | 0, t, e => by cases e
  | n + 1, t, e => by
    rw [gvB] at e
    by_cases c : 0 < rgA f h n
    · rw [if_pos c] at e
      cases z : gvB f h g n with
      | none =>
        rw [z] at e
        cases e
        exact ⟨by omega, c⟩
      | some u =>
        rw [z] at e
        dsimp only at e
        have hu := gvB_lt n u z
        split at e
        · cases e
          exact ⟨by omega, c⟩
        · cases e
          exact ⟨by omega, hu.2⟩
    · rw [if_neg c] at e
      have := gvB_lt n t e
      exact ⟨by omega, this.2⟩
theorem gvB_none : ∀ n, gvB f h g n = none ↔ ∀ p, p < n → rgA f h p = 0
  | 0 => ⟨fun _ p hp => absurd hp (Nat.not_lt_zero _), fun _ => rfl⟩
  | n + 1 => by
    have ih := gvB_none n
    rw [gvB]
    by_cases c : 0 < rgA f h n
    · rw [if_pos c]
      constructor
      · intro e
        cases z : gvB f h g n with
        | none => rw [z] at e; cases e
        | some u =>
          rw [z] at e
          dsimp only at e
          split at e <;> cases e
      · intro z
        have := z n (by omega)
        omega
    · rw [if_neg c, ih]
      refine ⟨fun z p hp => ?_, fun z p hp => z p (by omega)⟩
      by_cases e : p = n
      · rw [e]; omega
      · exact z p (by omega)
theorem gvS_stop {k : Nat} (e : gvB f h (gvS f h k) (nPR f) = none) : ∀ m, gvS f h (k + m) = gvS f h k
  | 0 => rfl
  | m + 1 => by
    have ih := gvS_stop e m
    rw [show k + (m + 1) = k + m + 1 by omega, gvS, ih, e]
theorem gvS_le : ∀ k p, gvS f h k p ≤ k
  | 0, p => Nat.le_refl _
  | k + 1, p => by
    have ih := gvS_le k p
    rw [gvS]
    cases z : gvB f h (gvS f h k) (nPR f) with
    | none => dsimp only; omega
    | some t => dsimp only; split <;> omega
end GV
theorem sV_arr {Γ : kG} {Φ : kF} {S S' : hS} {b i g id n : Nat} {ρ : Nat → Nat} {z : Nat × (Nat → Nat)} (h : St Γ Φ S) (hb : Γ b = some (8, 8 + 10000 * i, i, 0, ρ)) (hg : Γ g = some (20, id, n, z)) (hid : id < 10000 ∧ (id < 300 ∨ 303 < id) ∧ (id < 902 ∨ 911 < id)) (e1 : sEq S S') (e2 : ∀ d j, d ≠ g → aV S' d j = aV S d j) : sV S' b ρ = sV S b ρ := by
  obtain ⟨kg, kr, ku, kw, km, kp, kb, kh, ka, kn, ke, kc, kd⟩ := sK h hb
  have ei : ∀ b k, fI S' b k = fI S b k := fun b k => by unfold fI; rw [e1]
  exact sV_congr (fun k => ei _ k) (fun k => ei _ k) (fun j => e2 _ j (nmne kr hg (by dsimp only; omega))) (fun j => e2 _ j (nmne ku hg (by dsimp only; omega))) (fun j => e2 _ j (nmne kw hg (by dsimp only; omega))) (fun j => e2 _ j (nmne km hg (by dsimp only; omega))) (fun j => e2 _ j (nmne kp hg (by dsimp only; omega))) (fun j => e2 _ j (nmne kb hg (by dsimp only; omega))) (fun j => e2 _ j (nmne kh hg (by dsimp only; omega))) (fun j => e2 _ j (nmne ka hg (by dsimp only; omega))) (fun j => e2 _ j (nmne kn hg (by dsimp only; omega))) (fun j => e2 _ j (nmne ke hg (by dsimp only; omega))) (fun j => e2 _ j (nmne kc hg (by dsimp only; omega))) (fun j => e2 _ j (nmne kd hg (by dsimp only; omega)))
section GVC
variable {Γ : kG} {Φ : kF} {S : hS} {a b i : Nat} {ρ ρa : Nat → Nat} {L : List Nat}
theorem kx_giveOut {q : hS → Prop} {v w : Int32} {hh n : Nat} (h : St Γ Φ S) (hf : fre Γ Φ L) (hL : 800 ∈ L) (ha : Γ a = some (7, 7, 0, 0, ρa)) (hb : Γ b = some (8, 8 + 10000 * i, i, 0, ρ)) (hB : rB (sV S b ρ)) (ev : v = nI hh) (ew : w = nI n) (hn : n ≤ 99) (hh' : (hh : Int) < iR (sV S b ρ) 0) (k : ∀ S', St Γ Φ S' → sV S' b ρ = sV S b ρ → (∀ p, p < 8 → aV S' (ρa 0) p = nI (gvS (sV S b ρ) hh n p)) → q S') : w_X7_giveOut q S a b v w := by
  subst ev
  subst ew
  obtain ⟨F, eF⟩ : ∃ F, sV S b ρ = F := ⟨_, rfl⟩
  rw [eF] at hB hh' k
  have b1 := rB_1 hB
  have b0 := rB_0 hB
  have e1 : F 1 = nI (nPR F) := by
    apply Int32.toInt_inj.mp
    have : iR F 1 = (F 1).toInt := rfl
    unfold nPR
    rw [nI_toInt (by omega)]; omega
  have hP : nPR F ≤ 8 := by unfold nPR; omega
  have iP : iR F 1 = nPR F := by unfold nPR; omega
  have hg := (P_7_0 h ha).2
  have rd : ∀ {S' : hS} {g : Nat → Nat} {t : Nat} {P : Int32 → Prop}, St Γ Φ S' → (∀ p, p < 8 → aV S' (ρa 0) p = nI (g p)) → t < 8 → P (nI (g t)) → aI S' (ρa 0) (nI t) P := by
    intro S' g t P h' hgt ht kk
    refine T_aI_20 h' hg ⟨by rw [nI_toInt (by omega)]; omega, by rw [nI_toInt (by omega)]; omega⟩ (fun x ex _ => ?_)
    rw [nI_clamp (by omega), hgt t ht] at ex
    rw [ex]
    exact kk
  have k27 : ∀ S', St Γ Φ S' → sV S' b ρ = F → (∀ p, p < 8 → aV S' (ρa 0) p = nI 0) → ∃ t, w_X7_giveOut_b27 q t S' a b (nI hh) (nI n) 0 := by
    intro S' h' eF' hz
    refine loop_m (σ := hS × Nat) (fun t s => w_X7_giveOut_b27 q t s.1 a b (nI hh) (nI n) (nI s.2)) (fun s => s.2 ≤ n ∧ St Γ Φ s.1 ∧ sV s.1 b ρ = F ∧ ∀ p, p < 8 → aV s.1 (ρa 0) p = nI (gvS F hh s.2 p)) (fun s => n - s.2) ?_ (S', 0) ⟨Nat.zero_le _, h', eF', hz⟩
    rintro t ⟨S, m⟩ ⟨hm, h, eF, hgt⟩ ih
    dsimp only at hm h eF hgt ih ⊢
    rw [w_X7_giveOut_b27, nI_leI (by omega) (by omega)]
    refine ⟨fun c => ?_, fun c => ?_⟩
    · have em : m = n := by omega
      exact k S h eF (by rw [← em]; exact hgt)
    refine loop_m (σ := Nat) (fun t' p => w_X7_giveOut_b39 q (fun S v0 v1 v2 v3 v4 => w_X7_giveOut_b27 q t S v0 v1 v2 v3 v4) t' S a b (nI hh) (nI n) (nI m) (obN (gvB F hh (gvS F hh m) p)) (nI p)) (fun p => p ≤ nPR F) (fun p => nPR F - p) ?_ 0 (Nat.zero_le _)
    rintro t' p hp ih'
    rw [w_X7_giveOut_b39]
    have nx : p < nPR F → ∀ u : Int32, u = obN (gvB F hh (gvS F hh m) (p + 1)) → w_X7_giveOut_b104 q (fun S v0 v1 v2 v3 v4 => w_X7_giveOut_b27 q t S v0 v1 v2 v3 v4) (fun S v0 v1 v2 v3 v4 v5 v6 => w_X7_giveOut_b39 q (fun S v0 v1 v2 v3 v4 => w_X7_giveOut_b27 q t S v0 v1 v2 v3 v4) t' S v0 v1 v2 v3 v4 v5 v6) S a b (nI hh) (nI n) (nI m) u (nI p) := by
      intro hl u eu y ey
      rw [ey, nI_1, eu]
      exact ih' (p + 1) (by omega) (by omega)
    refine V_gI_4 h hb (fun _ => ?_)
    rw [eF, e1, nI_leI (by omega) (by omega)]
    refine ⟨fun c2 => ?_, fun c2 => T_oK_8 h hb (kx_rightsOf h hb (by rw [eF]; exact hB) rfl rfl (by rw [eF]; omega) (by rw [eF]; exact hh') (fun r er => ?_))⟩
    · have ep : p = nPR F := by omega
      cases z : gvB F hh (gvS F hh m) p with
      | none =>
        refine ⟨fun z => absurd rfl z, fun _ => k S h eF ?_⟩
        rw [ep] at z
        have := gvS_stop z (n - m)
        rw [show m + (n - m) = n by omega] at this
        rw [this]
        exact hgt
      | some u =>
        have lu := gvB_lt p u z
        rw [show obN (some u) = nI u from rfl]
        refine ⟨fun _ => E_gP_7_0 h ha (fun _ => rd h hgt (by omega) (T_sI_20 h hf hg hL ⟨by rw [nI_toInt (by omega)]; omega, by rw [nI_toInt (by omega)]; omega⟩ (fun S' h' s1 s2 s3 s4 y ey => ?_))), fun z => ?_⟩
        · rw [ey, nI_1]
          refine ih (S', m + 1) ⟨by dsimp only; omega, h', by rw [← eF]; exact sV_arr h hb hg (by omega) s1 s2, fun p' hp' => ?_⟩ (by dsimp only; omega)
          dsimp only
          rw [s4, nI_clamp (by omega), nI_1, gvS]
          rw [ep] at z
          rw [z]
          dsimp only
          by_cases cp : p' = u
          · rw [if_pos cp, if_pos cp, cp]
          · rw [if_neg cp, if_neg cp]
            exact hgt p' hp'
        · exact absurd z (by
            intro e
            have := congrArg Int32.toInt e
            rw [nI_toInt (by omega), show (-1 : Int32).toInt = -1 by decide] at this
            omega)
    · have rp := rgA_e hB (p := p) (h := hh) (by omega) (by omega)
      rw [eF, rp.1] at er
      subst er
      have r0 : nI (rgA F hh p) ≤ 0 ↔ ¬ 0 < rgA F hh p := by rw [Int32.le_iff_toInt_le, nI_toInt (by omega), show (0 : Int32).toInt = 0 by decide]; omega
      rw [r0]
      refine ⟨fun c3 => nx (by omega) _ (by rw [gvB, if_neg c3]), fun c3 => ?_⟩
      have c3 : 0 < rgA F hh p := Decidable.of_not_not c3
      cases z : gvB F hh (gvS F hh m) p with
      | none =>
        refine ⟨fun _ => nx (by omega) _ ?_, fun z => absurd rfl z⟩
        rw [gvB, if_pos c3, z]
        rfl
      | some u =>
        have lu := gvB_lt p u z
        rw [show obN (some u) = nI u from rfl]
        refine ⟨fun z => absurd z ?_, fun _ => E_gP_7_0 h ha (fun _ => rd h hgt (by omega) (T_oK_8 h hb (kx_rightsOf h hb (by rw [eF]; exact hB) rfl rfl (by rw [eF]; omega) (by rw [eF]; exact hh') (fun r er => E_gP_7_0 h ha (fun _ => rd h hgt (by omega) ?_)))))⟩
        · intro e
          have := congrArg Int32.toInt e
          rw [nI_toInt (by omega), show (-1 : Int32).toInt = -1 by decide] at this
          omega
        · have ru := rgA_e hB (p := u) (h := hh) (by omega) (by omega)
          rw [eF, ru.1] at er
          subst er
          have g1 := gvS_le (f := F) (h := hh) m u
          have g2 := gvS_le (f := F) (h := hh) m p
          have m1 : rgA F hh p * (gvS F hh m u + 1) ≤ 99 * 100 := Nat.mul_le_mul rp.2 (by omega)
          have m2 : rgA F hh u * (gvS F hh m p + 1) ≤ 99 * 100 := Nat.mul_le_mul ru.2 (by omega)
          rw [nI_1, nI_1, nImul, nImul, nI_leI (by omega) (by omega)]
          refine ⟨fun c4 => nx (by omega) _ ?_, fun c4 => nx (by omega) _ ?_⟩
          · rw [gvB, if_pos c3, z]
            dsimp only
            rw [if_neg (by omega)]
            rfl
          · rw [gvB, if_pos c3, z]
            dsimp only
            rw [if_pos (by omega)]
            rfl
  refine loop_m (σ := hS × Nat) (fun t s => w_X7_giveOut_b3 q t s.1 a b (nI hh) (nI n) (nI s.2)) (fun s => s.2 ≤ 8 ∧ St Γ Φ s.1 ∧ sV s.1 b ρ = F ∧ ∀ p, p < s.2 → aV s.1 (ρa 0) p = nI 0) (fun s => 8 - s.2) ?_ (S, 0) ⟨Nat.zero_le _, h, eF, fun p hp => absurd hp (Nat.not_lt_zero _)⟩
  rintro t ⟨S, m⟩ ⟨hm, h, eF, hz⟩ ih
  dsimp only at hm h eF hz ih ⊢
  rw [w_X7_giveOut_b3, lit_nI 8, nI_leI (by omega) (by omega)]
  refine ⟨fun c => k27 S h eF (fun p hp => hz p (by omega)), fun c => E_gP_7_0 h ha (fun _ => T_sI_20 h hf hg hL ⟨by rw [nI_toInt (by omega)]; omega, by rw [nI_toInt (by omega)]; omega⟩ (fun S' h' s1 s2 s3 s4 y ey => ?_))⟩
  rw [ey, nI_1]
  refine ih (S', m + 1) ⟨by dsimp only; omega, h', by rw [← eF]; exact sV_arr h hb hg (by omega) s1 s2, fun p hp => ?_⟩ (by dsimp only; omega)
  dsimp only at hp ⊢
  rw [s4, nI_clamp (by omega)]
  by_cases cp : p = m
  · rw [if_pos cp]
    rfl
  · rw [if_neg cp]
    exact hz p (by omega)
end GVC
