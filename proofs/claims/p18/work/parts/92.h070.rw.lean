/-! ORDERS ARE RUN, WHOLE -/
section RW
variable {Γ : kG} {Φ : kF} {S : hS} {a b bt d g i u c m : Nat} {ρ ρb ρd ρg : Nat → Nat} {us : uL} {L : Nat → List pCl} {os : List pOr}
theorem txR_sam {S' : hS} {A : List Nat} {xs : List pX} {κ : Nat} (h : txR S bt ρb xs) (hs : St Γ Φ S) (hb : Γ bt = some (10, κ, c, m, ρb)) (hm : sam Γ A S S') (hA : κ ∉ A ∧ κ + 1093 ∉ A ∧ κ + 1094 ∉ A ∧ κ + 1095 ∉ A ∧ κ + 1096 ∉ A) : txR S' bt ρb xs := by
  obtain ⟨l0, l1, l2, l3, l4⟩ := hA
  have w0 := hm.at hs hb l0
  have w1 := hm.at hs (P_10_3 hs hb).2 l1
  have w2 := hm.at hs (P_10_4 hs hb).2 l2
  have w3 := hm.at hs (P_10_5 hs hb).2 l3
  have w4 := hm.at hs (P_10_6 hs hb).2 l4
  exact TXT_congr h (fun j => fI_cell w0 j) (funext fun j => aV_cell w1 j) (funext fun j => aV_cell w2 j) (funext fun j => aV_cell w3 j) (funext fun j => aV_cell w4 j)
theorem kx_X1_run {q : Int32 → hS → Prop} {lg : Option Nat} (h : St Γ Φ S) (hd : Γ d = some (1, 1, 0, 0, ρd)) (hb : Γ b = some (8, 8 + 10000 * i, i, 0, ρ)) (hbt : Γ bt = some (10, 10, c, m, ρb)) (hi : i < 10) (hf : fre Γ Φ ([1, 202] ++ dbNm i)) (hg : ∀ g, lg = some g → Γ g = some (3, 3, 0, 0, ρg) ∧ lgFr Γ Φ ∧ lgN S g ≤ u ∧ lgS Γ S g ρg us) (hB : rB (sV S b ρ)) (hL : lwsS Γ S ρ L (iR (sV S b ρ) 3)) (hO : okL (csF (sV S b ρ) L)) (ho : okO os) (hx : txR S bt ρb (os.map orX)) (k0 : ∀ j, orRun (csF (sV S b ρ) L) os 0 (sV S b ρ, 0, -1, us) = .inl j → j < 12 → ∀ Γ' S', gro Γ Φ Γ' → St Γ' Φ S' → sam Γ (orNm i) S S' → q (nI j) S') (k1 : ∀ s', orRun (csF (sV S b ρ) L) os 0 (sV S b ρ, 0, -1, us) = .inr s' → ∀ Γ' S', gro Γ Φ Γ' → St Γ' Φ S' → sam Γ (orNm i) S S' → sV S' b ρ = s'.1 → (fI S' d 5).toInt = s'.2.1 → (∀ g, lg = some g → lgS Γ' S' g ρg s'.2.2.2) → rB s'.1 → (∀ i, ¬ inLe i → s'.1 i = sV S b ρ i) → 0 ≤ s'.2.1 → s'.2.1 ≤ 240 → q (-1) S') : w_X1_run q S u d bt b lg := by
  have ll : os.length ≤ 12 := by have := ho.1.1; rw [List.length_map] at this; exact this
  have hst := frz_St (L := orNm i) h
  have hfr : fre Γ (frz Γ Φ S (orNm i)) ([1, 202] ++ dbNm i) := frz_fre2 hf (fun x hx => by
    rcases List.mem_append.mp hx with z | z
    · exact List.mem_append.mpr (Or.inl z)
    · exact orNm_db z)
  have hgf : ∀ g, lg = some g → Γ g = some (3, 3, 0, 0, ρg) ∧ lgFr Γ (frz Γ Φ S (orNm i)) := fun g hg' => ⟨(hg g hg').1, lg_fre (frz_fre2 (fre_lg (hg g hg').2.1) (fun _ x => orNm_lg x))⟩
  have back : ∀ {Γ' : kG} {S2 : hS}, St Γ' (frz Γ Φ S (orNm i)) S2 → St Γ' Φ S2 ∧ sam Γ (orNm i) S S2 := fun h' => frz_un h h'
  have bg : ∀ {Γ' : kG}, gro Γ (frz Γ Φ S (orNm i)) Γ' → gro Γ Φ Γ' := fun z => frz_gro h z
  have hX : ∀ Γ1 S1, gro Γ (frz Γ Φ S (orNm i)) Γ1 → St Γ1 (frz Γ Φ S (orNm i)) S1 → txR S1 bt ρb (os.map orX) ∧ lwsS Γ1 S1 ρ L (iR (sV S b ρ) 3) := fun Γ1 S1 g1 h1 => by
    have m1 := (back h1).2
    refine ⟨txR_sam hx h hbt m1 ⟨fun z => ?_, fun z => ?_, fun z => ?_, fun z => ?_, fun z => ?_⟩, (hL.sm h hb m1 ⟨fun z => ?_, fun z => ?_, fun z => ?_, fun z => ?_, fun z => ?_, fun z => ?_⟩).gr g1⟩ <;> (have := orNm_mod z; omega)
  generalize frz Γ Φ S (orNm i) = Ψ at hst hfr hgf back bg hX
  have k0' : ∀ j, orRun (csF (sV S b ρ) L) os 0 (sV S b ρ, 0, -1, us) = .inl j → j < 12 → ∀ Γ' S', gro Γ Ψ Γ' → St Γ' Ψ S' → q (nI j) S' := fun j e hj Γ' S' g' h' => k0 j e hj Γ' S' (bg g') (back h').1 (back h').2
  have k1' : ∀ s', orRun (csF (sV S b ρ) L) os 0 (sV S b ρ, 0, -1, us) = .inr s' → ∀ Γ' S' u', rI lg d b ρ ρg (sV S b ρ) Γ Ψ Γ' S' u' s' 240 → q (-1) S' := fun s' e Γ' S' u' hI => by
    obtain ⟨x1, x2, x3, x4, x5, x6, x7, x8, x9, x10, x11, x12⟩ := hI
    exact k1 s' e Γ' S' (bg x1) (back x2).1 (back x2).2 x3 x4 (fun g hg' => (x6 g hg').2) x7 x8 x9 x10
  generalize ef0 : sV S b ρ = f0 at *
  have loop : ∀ t j Γ1 S1 u s, j + t = os.length → rI lg d b ρ ρg f0 Γ Ψ Γ1 S1 u s (20 * j) → orRun (csF f0 L) (os.drop j) j s = orRun (csF f0 L) os 0 (f0, 0, -1, us) → w_X1_run_b13 q (t + 1) S1 u d bt b lg (nI j) := by
    intro t
    induction t with
    | zero =>
      intro j Γ1 S1 u s hj hI he
      have h1 := hI.2.1
      have hbt1 := hI.1.1 _ _ hbt
      obtain ⟨l1, l2, l3, l4⟩ := tx_ord h1 hbt1 (hX Γ1 S1 hI.1 h1).1 ho
      unfold w_X1_run_b13
      refine T_gI_10_0 h1 hbt1 (fun x16 e16 _ => ?_)
      rw [l3] at e16
      subst e16
      rw [nI_leI (by omega) (by omega)]
      rw [List.drop_eq_nil_of_le (by omega)] at he
      exact ⟨fun _ => k1' s he.symm Γ1 S1 u (hI.mono (by omega)), fun z => absurd (by omega) z⟩
    | succ t ih =>
      intro j Γ1 S1 u s hj hI he
      have h1 := hI.2.1
      have hbt1 := hI.1.1 _ _ hbt
      obtain ⟨l1, l2, l3, l4⟩ := tx_ord h1 hbt1 (hX Γ1 S1 hI.1 h1).1 ho
      have hj' : j < os.length := by omega
      rw [List.drop_eq_getElem_cons hj', orRun] at he
      unfold w_X1_run_b13
      refine T_gI_10_0 h1 hbt1 (fun x16 e16 _ => ?_)
      rw [l3] at e16
      subst e16
      rw [nI_leI (by omega) (by omega)]
      refine ⟨fun z => absurd z (by omega), fun _ => ⟨(os[j]).2.2.1 + 1, kx_run25 hd hb hbt hi hfr hgf hX hO ho hj' (os[j]).2.2.1 0 Γ1 S1 u s (by omega) hI (fun en Γ2 S2 g2 h2 => ?_) (fun s' es Γ2 S2 u2 hI2 => ?_)⟩⟩
      · rw [en] at he
        exact k0' j he.symm (by omega) Γ2 S2 g2 h2
      · rw [es] at he
        exact ih (j + 1) Γ2 S2 u2 s' (by omega) hI2 he
  unfold w_X1_run
  have fr1 : fre Γ Ψ [1] := hfr.sub (by simp)
  refine T_pI_1_5 (frz_St (L := [1]) hst) (frz_fre fr1 (fun _ x => x)) (L := [1]) hd (by simp) (fun S1 h1' i1 q1 a1 => ?_)
  obtain ⟨h1, m1⟩ := frz_un hst h1'
  refine T_pI_1_3 (frz_St (L := [1]) h1) (frz_fre fr1 (fun _ x => x)) (L := [1]) hd (by simp) (fun S2 h2' i2 q2 a2 => ?_)
  obtain ⟨h2, m2⟩ := frz_un h1 h2'
  refine ⟨os.length + 1, loop os.length 0 Γ S2 u (f0, 0, -1, us) (by omega) ⟨gro_rf, h2, ?_, ?_, ?_, fun g hg' => ?_, hB, fun _ _ => rfl, by dsimp only; omega, by dsimp only; omega, by dsimp only; omega, by dsimp only; omega⟩ rfl⟩
  · rw [sam1_sV h1 hb m2, sam1_sV hst hb m1]
    exact ef0
  · rw [q2.I (by omega), i1]
    rfl
  · rw [i2]
    rfl
  · obtain ⟨y1, y2, y3, y4⟩ := hg g hg'
    exact ⟨by rw [(lgN_c h1 h2 y1 m2 (by simp)).1, (lgN_c hst h1 y1 m1 (by simp)).1]; exact y3, (y4.sm1 hst y1 m1).sm1 h1 y1 m2⟩
end RW
