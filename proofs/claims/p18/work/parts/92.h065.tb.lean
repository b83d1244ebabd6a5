/-! A DEED IS TAKEN BACK; WHAT ORDERS ASK -/
/-- the row as it was, from what was kept of it -/
def undF (f g : Nat → Int32) : Nat → Int32 := fun j => if j = 5 ∨ (8 ≤ j ∧ j < 126) then g j else f j
def aliveR (f : Nat → Int32) : Nat → Nat
  | 0 => 0
  | n + 1 => aliveR f n + if liveR f n = true then 1 else 0
def allLR (f : Nat → Int32) (p : Nat) : Nat → Int
  | 0 => 0
  | n + 1 => allLR f p n + leftR f p n
/-- what orders are told: year, done, the last bell, the living; of each person money and left; of each house the weariness -/
def envO (f : Nat → Int32) (dn last : Int) : Nat → Int := fun w => if w = 0 then iR f 5 else if w = 1 then dn else if w = 2 then last else if w = 3 then aliveR f (nPR f) else if w < 12 then (if w - 4 < nPR f then iR f (14 + (w - 4)) else -1) else if w < 20 then (if w - 12 < nPR f then allLR f (w - 12) (nHR f) else -1) else if w - 20 < nHR f then iR f (8 + (w - 20)) else -1
theorem aliveR_le {f : Nat → Int32} (n : Nat) : aliveR f n ≤ n := by
  induction n with
  | zero => exact Nat.le_refl _
  | succ n ih => rw [aliveR]; split <;> omega
section TB
variable {Γ : kG} {Φ : kF} {S : hS} {a b d g i u : Nat} {ρ ρd ρg : Nat → Nat} {us : uL}
theorem sV_und {S' : hS} {x : Nat → Int32} (h : St Γ Φ S) (hb : Γ b = some (8, 8 + 10000 * i, i, 0, ρ)) (hm : sam Γ (leN i) S S') (hx : ∀ j, inLe j → leV S' (ρ 0) (bk 0 ρ) j = x j) : sV S' b ρ = undF (sV S b ρ) x := by
  funext j
  unfold undF
  by_cases c : j = 5 ∨ (8 ≤ j ∧ j < 126)
  · rw [if_pos c, sV_le c]
    exact hx j c
  · rw [if_neg c]
    have wb := hm.at h hb (by simp [leN] <;> omega)
    have w2 := hm.at h (P_8_2 h hb).2 (by simp [leN] <;> omega)
    have w3 := hm.at h (P_8_3 h hb).2 (by simp [leN] <;> omega)
    have w5 := hm.at h (P_8_5 h hb).2 (by simp [leN] <;> omega)
    have w6 := hm.at h (P_8_6 h hb).2 (by simp [leN] <;> omega)
    have w7 := hm.at h (P_8_7 h hb).2 (by simp [leN] <;> omega)
    have w8 := hm.at h (P_8_8 h hb).2 (by simp [leN] <;> omega)
    have w10 := hm.at h (P_8_10 h hb).2 (by simp [leN] <;> omega)
    have w11 := hm.at h (P_8_11 h hb).2 (by simp [leN] <;> omega)
    unfold sV
    by_cases c8 : j < 8
    · rw [if_pos c8, if_pos c8, fI_cell wb, fI_cell wb, fI_cell wb, fI_cell wb, fI_cell wb, fI_cell wb, fI_cell wb, if_neg (show ¬ j = 5 by omega), if_neg (show ¬ j = 5 by omega)]
    · rw [if_neg c8, if_neg c8, if_neg (show ¬ j < 14 by omega), if_neg (show ¬ j < 14 by omega), if_neg (show ¬ j < 22 by omega), if_neg (show ¬ j < 22 by omega), if_neg (show ¬ j < 30 by omega), if_neg (show ¬ j < 30 by omega), if_neg (show ¬ j < 78 by omega), if_neg (show ¬ j < 78 by omega), if_neg (show ¬ j < 126 by omega), if_neg (show ¬ j < 126 by omega), aV_cell w2, aV_cell w3, aV_cell w5, aV_cell w6, aV_cell w7, aV_cell w8, aV_cell w10, aV_cell w11]
theorem kx_takeBack {q : Int32 → hS → Prop} (h : St Γ Φ S) (hg : Γ g = some (3, 3, 0, 0, ρg)) (hb : Γ b = some (8, 8 + 10000 * i, i, 0, ρ)) (hi : i < 10) (hf : fre Γ Φ (3 :: leN i)) (hs : lgS Γ S g ρg us) (k0 : us = [] → q (-1) S) (k1 : ∀ vs x S', us = vs ++ [x] → St Γ Φ S' → lgS Γ S' g ρg vs → sam Γ (3 :: leN i) S S' → sV S' b ρ = undF (sV S b ρ) x.2 → x.1 ≤ 3 → q (nI x.1) S') : w_X3_takeBack q S g (ρ 0) := by
  obtain ⟨nx, h1, h2, h3, h4, h5⟩ := hs
  unfold w_X3_takeBack
  refine T_gI_3_3 h hg (fun x1 e1 _ => ?_)
  rw [h4] at e1
  subst e1
  have z0 : nI us.length = 0 ↔ us.length = 0 := by rw [show (0 : Int32) = nI 0 from rfl, nI_eq (by omega) (by omega)]
  rw [z0]
  refine ⟨fun hne => ?_, fun z => k0 (List.length_eq_zero_iff.mp z)⟩
  obtain ⟨vs, x, hus⟩ : ∃ vs x, us = vs ++ [x] := ⟨us.dropLast, us.getLast (fun z => hne (by rw [z]; rfl)), (List.dropLast_concat_getLast _).symm⟩
  have hln : us.length = vs.length + 1 := by rw [hus, List.length_append, List.length_singleton]
  have egl : ∀ hk : vs.length < us.length, us[vs.length]'hk = x := by subst hus; intro hk; simp
  have egk : ∀ k, (hk : k < vs.length) → ∀ hk' : k < us.length, us[k]'hk' = vs[k] := by subst hus; intro k hk hk'; exact List.getElem_append_left hk
  have k1' := fun S' => k1 vs x S' hus
  rw [hln] at h2 h4
  have hst := frz_St (L := 3 :: leN i) h
  have hfr : fre Γ (frz Γ Φ S (3 :: leN i)) (3 :: leN i) := frz_fre hf (fun _ x => x)
  have back : ∀ {S' : hS}, St Γ (frz Γ Φ S (3 :: leN i)) S' → St Γ Φ S' ∧ sam Γ (3 :: leN i) S S' := fun h' => frz_un h h'
  generalize frz Γ Φ S (3 :: leN i) = Ψ at hst hfr back
  have kA := (P_3_0 hst hg).2
  have kB := (P_3_1 hst hg).2
  refine T_gI_3_2 hst hg (fun x11 e11 _ => ?_)
  rw [h3] at e11
  subst e11
  have ea : nI nx + 16 - 1 - (nI nx + 16 - 1) / 16 * 16 = nI ((nx + 15) % 16) := by
    rw [lit_nI 16, nIadd, nI_s1 (by omega), nIdiv (by omega) (by omega), nImul, nIsub (by omega)]
    congr 1
    omega
  rw [ea]
  refine T_pI_3_2 hst (hfr.sub (by simp)) (L := [3]) hg (by simp) (by rw [nI_toInt (by omega)]; omega) (fun S1 s1 i1 q1 a1 => T_gI_3_3 s1 hg (fun x27 e27 _ => ?_))
  rw [q1.I (by omega), h4] at e27
  subst e27
  rw [nI_s1 (by omega), Nat.add_sub_cancel]
  refine T_pI_3_3 s1 (hfr.sub (by simp)) (L := [3]) hg (by simp) (fun S2 s2 i2 q2 a2 => E_gP_3_0 s2 hg (fun _ => T_gI_3_2 s2 hg (fun x40 e40 _ => ?_)))
  rw [q2.I (by omega), i1] at e40
  subst e40
  obtain ⟨l1, l2, d, β, l3, l4, l5⟩ := h5 vs.length (by omega)
  have eix : (nx + 16 - (vs.length + 1) + vs.length) % 16 = (nx + 15) % 16 := by omega
  rw [egl] at l1 l2 l5
  rw [hln, eix] at l1 l3 l4
  refine T_aR_27 s2 kA (by rw [nI_toInt (by omega)]; omega) (fun x43 e43 _ => ?_)
  rw [nI_clamp (by omega), a2.2, a1.2, l3] at e43
  subst e43
  refine ⟨fun z => (by cases z), fun b46 eb => ?_⟩
  cases eb
  have hgb := (P_8_0 s2 hb).2
  refine T_oK_2 s2 hgb (kx_copyL s2 hgb l4 (by omega) (hfr.sub (fun _ y => List.mem_cons.mpr (Or.inr y))) (fun S3 s3 m3 w3 => ?_))
  have w3g := m3.at s2 hg (by simp [leN] <;> omega)
  have w3b := m3.at s2 kB (by simp [leN] <;> omega)
  have w3a := m3.at s2 kA (by simp [leN] <;> omega)
  refine E_gP_3_1 s3 hg (fun _ => T_gI_3_2 s3 hg (fun x61 e61 _ => ?_))
  rw [fI_cell w3g, q2.I (by omega), i1] at e61
  subst e61
  refine T_aI_20 s3 kB (by rw [nI_toInt (by omega)]; omega) (fun x64 e64 _ => ?_)
  rw [nI_clamp (by omega), aV_cell w3b, a2.1, a1.1, l1] at e64
  subst e64
  obtain ⟨f3, g3⟩ := back s3
  have le2 : ∀ d' β' t, Γ d' = some (2, 2 + 10000 * t, t, 0, β') → leV S2 d' β' = leV S d' β' := by
    intro d' β' t hk
    have ng : d' ≠ g := nmne hk hg (by dsimp only; omega)
    funext j
    unfold leV
    rw [q2.I (fun z => ng z.1), q2.I (fun z => ng z.1), q1.I (fun z => ng z.1), q1.I (fun z => ng z.1), a2.1, a2.1, a2.1, a2.1, a1.1, a1.1, a1.1, a1.1]
  refine k1' S3 f3 ⟨(nx + 15) % 16, by omega, by omega, by rw [fI_cell w3g, q2.I (by omega), i1], by rw [fI_cell w3g, i2], fun k hk => ?_⟩ g3 ?_ l2
  · obtain ⟨m1, m2, d', β', m4, m5, m6⟩ := h5 k (by omega)
    have e1 : ((nx + 15) % 16 + 16 - vs.length + k) % 16 = (nx + 16 - (vs.length + 1) + k) % 16 := by omega
    rw [egk k hk] at m1 m2 m6
    rw [hln] at m1 m4 m5
    rw [e1]
    refine ⟨by rw [aV_cell w3b, a2.1, a1.1]; exact m1, m2, d', β', by rw [aO_cell w3a, a2.2, a1.2]; exact m4, m5, fun j hj => ?_⟩
    rw [leV_sam s2 m5 m3 (by simp [leN] <;> omega), le2 d' β' _ m5]
    exact m6 j hj
  · have e1 : sV S2 b ρ = sV S b ρ := by
      have ng : b ≠ g := nmne hb hg (by dsimp only; omega)
      have ng0 : ρ 0 ≠ g := nmne hgb hg (by dsimp only; omega)
      exact sV_congr (fun k => by rw [q2.I (fun z => ng z.1), q1.I (fun z => ng z.1)]) (fun k => by rw [q2.I (fun z => ng0 z.1), q1.I (fun z => ng0 z.1)]) (fun j => by rw [a2.1, a1.1]) (fun j => by rw [a2.1, a1.1]) (fun j => by rw [a2.1, a1.1]) (fun j => by rw [a2.1, a1.1]) (fun j => by rw [a2.1, a1.1]) (fun j => by rw [a2.1, a1.1]) (fun j => by rw [a2.1, a1.1]) (fun j => by rw [a2.1, a1.1]) (fun j => by rw [a2.1, a1.1]) (fun j => by rw [a2.1, a1.1]) (fun j => by rw [a2.1, a1.1]) (fun j => by rw [a2.1, a1.1])
    rw [← e1]
    refine sV_und s2 hb m3 (fun j hj => ?_)
    rw [w3 j hj, le2 d β _ l4]
    exact l5 j hj
end TB
