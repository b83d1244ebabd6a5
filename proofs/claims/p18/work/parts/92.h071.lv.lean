/-! GENERATIONS, EXACTLY -/
def nxtD (s : Nat) : Nat := (s * 1103 + 12345) % 1000003
/-- row, seed, how often a door opened -/
abbrev gS : Type := (Nat → Int32) × Nat × Nat
def genB (f : Nat → Int32) (e p : Nat) : Nat → Int32 := if e = 0 then (dieD f p).2 else if e = 1 then (passD f).2 else f
def genStep (cs : List pCl) (s : gS) : gS := (genB (ringD s.1 cs ((nxtD s.2.1 % nPR s.1 : Nat) : Int) ((nxtD (nxtD s.2.1) % nHR s.1 : Nat) : Int)).2 (nxtD (nxtD (nxtD s.2.1)) % 8) (nxtD s.2.1 % nPR s.1), nxtD (nxtD (nxtD s.2.1)), s.2.2 + if (ringD s.1 cs ((nxtD s.2.1 % nPR s.1 : Nat) : Int) ((nxtD (nxtD s.2.1) % nHR s.1 : Nat) : Int)).1 = 1 then 1 else 0)
def genRun (cs : List pCl) : Nat → gS → gS
  | 0, s => s
  | n + 1, s => if 999 ≤ iR s.1 5 then s else genRun cs n (genStep cs s)
theorem nxtD_lt (s : Nat) : nxtD s < 1000003 := Nat.mod_lt _ (by omega)
theorem nxt64 {s : Nat} (hs : s ≤ 1000003) : Int64.toInt32 ((((Int32.toInt64 (nI s)) * 1103) + 12345) - (((Int32.toInt64 (nI s)) * 1103) + 12345) / 1000003 * 1000003) = nI (nxtD s) := by
  have e1 : (Int32.toInt64 (nI s)).toInt = (s : Int) := by rw [i64toInt, nI_toInt (by omega)]
  have e2 : ((Int32.toInt64 (nI s)) * 1103).toInt = (s * 1103 : Nat) := by
    rw [fb_mulL (by rw [e1, show (1103 : Int64).toInt = 1103 by decide]; omega) (by rw [e1, show (1103 : Int64).toInt = 1103 by decide]; omega), e1, show (1103 : Int64).toInt = 1103 by decide]
    omega
  have e3 : ((Int32.toInt64 (nI s)) * 1103 + 12345).toInt = ((s * 1103 + 12345 : Nat) : Int) := by
    rw [fb_addL (by rw [e2, show (12345 : Int64).toInt = 12345 by decide]; omega) (by rw [e2, show (12345 : Int64).toInt = 12345 by decide]; omega), e2, show (12345 : Int64).toInt = 12345 by decide]
    omega
  generalize (Int32.toInt64 (nI s)) * 1103 + 12345 = X at e3 ⊢
  unfold nxtD
  have hm : s * 1103 + 12345 ≤ 2000000000 := by omega
  generalize s * 1103 + 12345 = m at e3 hm ⊢
  have e4 : (X / 1000003).toInt = ((m / 1000003 : Nat) : Int) := by
    rw [Int64.toInt_div, e3, show (1000003 : Int64).toInt = 1000003 by decide, Int.tdiv_eq_ediv_of_nonneg (by omega)]
    rw [fb_bmodL (by omega) (by omega)]
    omega
  have e5 : (X / 1000003 * 1000003).toInt = ((m / 1000003 * 1000003 : Nat) : Int) := by
    rw [fb_mulL (by rw [e4, show (1000003 : Int64).toInt = 1000003 by decide]; omega) (by rw [e4, show (1000003 : Int64).toInt = 1000003 by decide]; omega), e4, show (1000003 : Int64).toInt = 1000003 by decide]
    omega
  have e6 : (X - X / 1000003 * 1000003).toInt = ((m % 1000003 : Nat) : Int) := by
    rw [fb_subL (by rw [e5, e3]; omega) (by rw [e5, e3]; omega), e5, e3]
    omega
  rw [jN_of e6]
  exact toI32 (by omega)
section LV
variable {Γ : kG} {Φ : kF} {S : hS} {a b bt d g i u c m : Nat} {ρ ρb ρd ρg : Nat → Nat} {us : uL} {L : Nat → List pCl}
theorem kx_draw {q : Int32 → hS → Prop} {s n : Nat} {v : Int32} (h : St Γ Φ S) (hf : fre Γ Φ [1]) (hd : Γ d = some (1, 1, 0, 0, ρd)) (es : fI S d 4 = nI s) (hs : s ≤ 1000003) (ev : v = nI n) (hn : 1 ≤ n ∧ n < 1000) (k : ∀ S', St Γ Φ S' → sam Γ [1] S S' → fI S' d 4 = nI (nxtD s) → q (nI (nxtD s % n)) S') : w_X1_draw q S d v := by
  subst ev
  have l := nxtD_lt s
  unfold w_X1_draw
  refine T_gI_1_4 h hd (fun x2 e2 _ => T_pI_1_4 (frz_St (L := [1]) h) (frz_fre hf (fun _ x => x)) hd (by simp) (fun S' h' i4 q4 a4 => ?_))
  obtain ⟨h2, m2⟩ := frz_un h h'
  rw [e2, es, nxt64 hs] at i4
  have z : ¬ nI n ≤ 0 := by
    have := nI_leI (a := n) (b := 0) (by omega) (by omega)
    rw [show (0 : Int32) = nI 0 from rfl, this]
    omega
  refine ⟨fun y => absurd y z, fun _ => T_gI_1_4 h2 hd (fun x27 e27 _ => ⟨fun y => z (by rw [y]; exact Int32.le_refl _), ?_⟩)⟩
  rw [e27, i4, nIdiv (by omega) (by omega), nImul]
  have dm := Nat.div_add_mod (nxtD s) n
  rw [Nat.mul_comm] at dm
  rw [nIsub (by omega), show nxtD s - nxtD s / n * n = nxtD s % n by omega]
  exact k S' h2 m2 i4
theorem genB_ok {f : Nat → Int32} {e p : Nat} (hB : rB f) : rB (genB f e p) ∧ ∀ i, ¬ inLe i → genB f e p i = f i := by
  unfold genB
  split
  · exact ⟨(dieD_ok hB).1, (dieD_ok hB).2.1⟩
  split
  · exact ⟨(passD_ok hB).1, (passD_ok hB).2.1⟩
  · exact ⟨hB, fun _ _ => rfl⟩
theorem kx_live {q : Int32 → hS → Prop} {s0 n : Nat} {v2 v3 : Int32} (h : St Γ Φ S) (hd : Γ d = some (1, 1, 0, 0, ρd)) (hb : Γ b = some (8, 8 + 10000 * i, i, 0, ρ)) (hi : i < 10) (hf : fre Γ Φ ([1, 202] ++ dbNm i)) (hB : rB (sV S b ρ)) (hL : lwsS Γ S ρ L (iR (sV S b ρ) 3)) (hO : okL (csF (sV S b ρ) L)) (e2 : v2 = nI s0) (hs : s0 ≤ 1000003) (e3 : v3 = nI n) (hn : n < 1000) (hp1 : 1 ≤ nPR (sV S b ρ)) (hh1 : 1 ≤ nHR (sV S b ρ)) (k : ∀ Γ' S', gro Γ Φ Γ' → St Γ' Φ S' → sam Γ (orNm i) S S' → sV S' b ρ = (genRun (csF (sV S b ρ) L) n (sV S b ρ, s0, 0)).1 → rB (genRun (csF (sV S b ρ) L) n (sV S b ρ, s0, 0)).1 → (∀ i, ¬ inLe i → (genRun (csF (sV S b ρ) L) n (sV S b ρ, s0, 0)).1 i = sV S b ρ i) → q (nI (genRun (csF (sV S b ρ) L) n (sV S b ρ, s0, 0)).2.2) S') : w_X1_live q S d b v2 v3 := by
  subst e2
  subst e3
  have hst := frz_St (L := orNm i) h
  have hfr : fre Γ (frz Γ Φ S (orNm i)) ([1, 202] ++ dbNm i) := frz_fre2 hf (fun x hx => by
    rcases List.mem_append.mp hx with z | z
    · exact List.mem_append.mpr (Or.inl z)
    · exact orNm_db z)
  have back : ∀ {Γ' : kG} {S2 : hS}, St Γ' (frz Γ Φ S (orNm i)) S2 → St Γ' Φ S2 ∧ sam Γ (orNm i) S S2 := fun h' => frz_un h h'
  have bg : ∀ {Γ' : kG}, gro Γ (frz Γ Φ S (orNm i)) Γ' → gro Γ Φ Γ' := fun z => frz_gro h z
  have hX : ∀ Γ1 S1, gro Γ (frz Γ Φ S (orNm i)) Γ1 → St Γ1 (frz Γ Φ S (orNm i)) S1 → lwsS Γ1 S1 ρ L (iR (sV S b ρ) 3) := fun Γ1 S1 g1 h1 => by
    have m1 := (back h1).2
    refine (hL.sm h hb m1 ⟨fun z => ?_, fun z => ?_, fun z => ?_, fun z => ?_, fun z => ?_, fun z => ?_⟩).gr g1 <;> (have := orNm_mod z; omega)
  generalize frz Γ Φ S (orNm i) = Ψ at hst hfr back bg hX
  generalize ef0 : sV S b ρ = f0 at *
  have b1 := rB_1 hB
  have b0 := rB_0 hB
  have lgn : ∀ {Γ1 : kG} {S1 : hS}, lgI ρ Γ1 Ψ S1 0 none [] := fun g hg => by cases hg
  have loop : ∀ t j Γ1 S1 (s : gS), j + t = n → gro Γ Ψ Γ1 → St Γ1 Ψ S1 → sV S1 b ρ = s.1 → fI S1 d 4 = nI s.2.1 → s.2.1 ≤ 1000003 → rB s.1 → (∀ i, ¬ inLe i → s.1 i = f0 i) → s.2.2 ≤ j → genRun (csF f0 L) t s = genRun (csF f0 L) n (f0, s0, 0) → w_X1_live_b11 q (t + 1) S1 d b (nI n) (nI s.2.2) (nI j) := by
    intro t
    induction t with
    | zero =>
      intro j Γ1 S1 s hj g1 h1 v1 f4 s4 hB1 hfr1 ho he
      unfold w_X1_live_b11
      rw [nI_leI (by omega) (by omega)]
      refine ⟨fun _ => ?_, fun z => absurd (by omega) z⟩
      rw [genRun] at he
      rw [he] at v1 hB1 hfr1 ⊢
      exact k Γ1 S1 (bg g1) (back h1).1 (back h1).2 v1 hB1 hfr1
    | succ t ih =>
      intro j Γ1 S1 s hj g1 h1 v1 f4 s4 hB1 hfr1 ho he
      have hd1 := g1.1 _ _ hd
      have hb1 := g1.1 _ _ hb
      have hf1 := hfr.gr g1
      have ecs : csF s.1 L = csF f0 L := by
        unfold csF
        rw [iR_ge (hfr1 4 (by unfold inLe; omega))]
      have e3 : iR s.1 3 = iR f0 3 := iR_ge (hfr1 3 (by unfold inLe; omega))
      have ep1 : iR s.1 1 = iR f0 1 := iR_ge (hfr1 1 (by unfold inLe; omega))
      have ep0 : iR s.1 0 = iR f0 0 := iR_ge (hfr1 0 (by unfold inLe; omega))
      have np : 1 ≤ nPR s.1 ∧ nPR s.1 ≤ 8 := by unfold nPR at hp1 ⊢; rw [ep1]; omega
      have nh : 1 ≤ nHR s.1 ∧ nHR s.1 ≤ 6 := by unfold nHR at hh1 ⊢; rw [ep0]; omega
      rw [genRun] at he
      unfold w_X1_live_b11
      rw [nI_leI (by omega) (by omega)]
      refine ⟨fun z => absurd z (by omega), fun _ => E_gP_8_0 h1 hb1 (fun hg => V_gI_y h1 hb1 ?_)⟩
      rw [v1, show ((999 : Int32) ≤ s.1 5) = ((999 : Int) ≤ iR s.1 5) from propext (by rw [Int32.le_iff_toInt_le]; rfl)]
      refine ⟨fun c => ?_, fun c => ?_⟩
      · rw [if_pos c] at he
        rw [he] at v1 hB1 hfr1 ⊢
        exact k Γ1 S1 (bg g1) (back h1).1 (back h1).2 v1 hB1 hfr1
      rw [if_neg c] at he
      have fr1 : fre Γ1 Ψ [1] := hf1.sub (by simp)
      have fdb : fre Γ1 Ψ (dbNm i) := hf1.sub (fun x hx => List.mem_append.mpr (Or.inr hx))
      have x1e : sV S1 b ρ 1 = nI (nPR s.1) := by
        rw [v1]
        apply Int32.toInt_inj.mp
        rw [nI_toInt (by omega), iR_i]
        unfold nPR at np ⊢
        omega
      have l1 := nxtD_lt s.2.1
      have l2 := nxtD_lt (nxtD s.2.1)
      have l3 := nxtD_lt (nxtD (nxtD s.2.1))
      refine V_gI_4 h1 hb1 (fun _ => T_oK_1 h1 hd1 (kx_draw h1 fr1 hd1 f4 s4 x1e (by omega) (fun S2 h2 m2 d2 => ?_)))
      have v2 : sV S2 b ρ = s.1 := by rw [sam1_sV h1 hb1 m2]; exact v1
      have x0e : sV S2 b ρ 0 = nI (nHR s.1) := by
        rw [v2]
        apply Int32.toInt_inj.mp
        rw [nI_toInt (by omega), iR_i]
        unfold nHR at nh ⊢
        omega
      refine V_gI_1 h2 hb1 (fun _ => T_oK_1 h2 hd1 (kx_draw h2 fr1 hd1 d2 (by omega) x0e (by omega) (fun S3 h3 m3 d3 => T_oK_1 h3 hd1 (kx_draw h3 fr1 hd1 d3 (by omega) (show (8 : Int32) = nI 8 from rfl) (by omega) (fun S4 h4 m4 d4 => T_oK_1 h4 hd1 ?_)))))
      have v4 : sV S4 b ρ = s.1 := by rw [sam1_sV h3 hb1 m4, sam1_sV h2 hb1 m3]; exact v2
      have hA4 : askS Γ1 S4 (ρd 0) b i (bk 0 ρd) ρ L := ⟨(P_1_0 h4 hd1).2, hb1, by rw [v4]; exact hB1, by rw [v4, e3]; exact hX Γ1 S4 g1 h4, by rw [v4, ecs]; exact hO⟩
      have pm : nxtD s.2.1 % nPR s.1 < nPR s.1 := Nat.mod_lt _ (by omega)
      have hm : nxtD (nxtD s.2.1) % nHR s.1 < nHR s.1 := Nat.mod_lt _ (by omega)
      refine kz_ring h4 fdb hd1 hi hA4 lgn (fun r Γ2 S5 er g5 h5 v5 q5 m5 => ?_)
      rw [v4, ecs, nI_toInt (by omega), nI_toInt (by omega)] at er v5
      have ok := ringD_ok (cs := csF f0 L) (a := ((nxtD s.2.1 % nPR s.1 : Nat) : Int)) (b := ((nxtD (nxtD s.2.1) % nHR s.1 : Nat) : Int)) hB1
      have hgs : genStep (csF f0 L) s = (genB (ringD s.1 (csF f0 L) ((nxtD s.2.1 % nPR s.1 : Nat) : Int) ((nxtD (nxtD s.2.1) % nHR s.1 : Nat) : Int)).2 (nxtD (nxtD (nxtD s.2.1)) % 8) (nxtD s.2.1 % nPR s.1), nxtD (nxtD (nxtD s.2.1)), s.2.2 + if (ringD s.1 (csF f0 L) ((nxtD s.2.1 % nPR s.1 : Nat) : Int) ((nxtD (nxtD s.2.1) % nHR s.1 : Nat) : Int)).1 = 1 then 1 else 0) := rfl
      rw [hgs] at he
      generalize ringD s.1 (csF f0 L) ((nxtD s.2.1 % nPR s.1 : Nat) : Int) ((nxtD (nxtD s.2.1) % nHR s.1 : Nat) : Int) = D at er v5 ok he
      have g05 := g1.tr g5
      have hd5 := g05.1 _ _ hd
      have hb5 := g05.1 _ _ hb
      have fdb5 := fdb.gr g5
      have d5 : fI S5 d 4 = nI (nxtD (nxtD (nxtD s.2.1))) := by rw [fI_cell (m5.at h4 hd1 deNm_1)]; exact d4
      have rest : ∀ y : Nat, y = s.2.2 + (if D.1 = 1 then 1 else 0) → w_X1_live_b75 q (fun S v0 v1 v3 v4 v5 => w_X1_live_b11 q (t + 1) S v0 v1 v3 v4 v5) S5 d b (nI n) (nI y) (nI j) (nI (nxtD s.2.1 % nPR s.1)) (nI (nxtD (nxtD (nxtD s.2.1)) % 8)) := by
        intro y ey
        rw [← ey] at he
        have yl : y ≤ j + 1 := by rw [ey]; split <;> omega
        have gb := genB_ok (f := D.2) (e := nxtD (nxtD (nxtD s.2.1)) % 8) (p := nxtD s.2.1 % nPR s.1) ok.1
        have nx : ∀ Γ3 S6, gro Γ Ψ Γ3 → St Γ3 Ψ S6 → sV S6 b ρ = genB D.2 (nxtD (nxtD (nxtD s.2.1)) % 8) (nxtD s.2.1 % nPR s.1) → fI S6 d 4 = nI (nxtD (nxtD (nxtD s.2.1))) → w_X1_live_b105 q (fun S v0 v1 v3 v4 v5 => w_X1_live_b11 q (t + 1) S v0 v1 v3 v4 v5) S6 d b (nI n) (nI y) (nI j) := by
          intro Γ3 S6 g6 h6 v6 d6
          unfold w_X1_live_b105
          intro z ez
          subst ez
          rw [nI_1]
          have l4 : nxtD (nxtD (nxtD s.2.1)) ≤ 1000003 := Nat.le_of_lt l3
          exact ih (j + 1) Γ3 S6 (genB D.2 (nxtD (nxtD (nxtD s.2.1)) % 8) (nxtD s.2.1 % nPR s.1), nxtD (nxtD (nxtD s.2.1)), y) (by omega) g6 h6 (by dsimp only; exact v6) (by dsimp only; exact d6) l4 (by dsimp only; exact gb.1) (fun i hi' => by dsimp only; exact (gb.2 i hi').trans ((ok.2.1 i hi').trans (hfr1 i hi'))) (by dsimp only; exact yl) he
        have z8 : nxtD (nxtD (nxtD s.2.1)) % 8 < 8 := Nat.mod_lt _ (by omega)
        have e0 : (nI (nxtD (nxtD (nxtD s.2.1)) % 8) = 0) ↔ nxtD (nxtD (nxtD s.2.1)) % 8 = 0 := by rw [show (0 : Int32) = nI 0 from rfl, nI_eq (by omega) (by omega)]
        have e1 : (nI (nxtD (nxtD (nxtD s.2.1)) % 8) = 1) ↔ nxtD (nxtD (nxtD s.2.1)) % 8 = 1 := by rw [show (1 : Int32) = nI 1 from rfl, nI_eq (by omega) (by omega)]
        unfold w_X1_live_b75
        rw [e0, e1]
        refine ⟨fun c0 => ⟨fun c1 => nx Γ2 S5 g05 h5 ?_ d5, fun c1 => T_oK_1 h5 hd5 (kz_pass h5 fdb5 hi hb5 (by rw [v5]; exact ok.1) lgn (fun r6 Γ3 S6 er6 g6 h6 v6 q6 m6 => nx Γ3 S6 (g05.tr g6) h6 ?_ ?_))⟩, fun c0 => T_oK_1 h5 hd5 (kz_die h5 fdb5 hi hb5 (by rw [v5]; exact ok.1) lgn (fun r6 Γ3 S6 er6 g6 h6 v6 q6 m6 => nx Γ3 S6 (g05.tr g6) h6 ?_ ?_))⟩
        · rw [v5]
          unfold genB
          rw [if_neg c0, if_neg c1]
        · rw [v6, v5]
          unfold genB
          rw [if_neg c0, if_pos c1]
        · rw [fI_cell (m6.at h5 hd5 deNm_1)]; exact d5
        · rw [v6, v5, nI_toInt (by omega)]
          unfold genB
          rw [if_pos c0]
        · rw [fI_cell (m6.at h5 hd5 deNm_1)]; exact d5
      have er1 : r = 1 ↔ D.1 = 1 := by
        rw [← er, ← Int32.toInt_inj]
        rfl
      rw [er1]
      refine ⟨fun c1 => rest s.2.2 (by rw [if_neg c1]; rfl), fun c1 y72 e72 => ?_⟩
      subst e72
      rw [nI_1]
      exact rest (s.2.2 + 1) (by rw [if_pos c1])
  unfold w_X1_live
  have fr1 : fre Γ Ψ [1] := hfr.sub (by simp)
  refine T_pI_1_4 (frz_St (L := [1]) hst) (frz_fre fr1 (fun _ x => x)) hd (by simp) (fun S1 h1' i4 q4 a4 => ?_)
  obtain ⟨h1, m1⟩ := frz_un hst h1'
  exact ⟨n + 1, loop n 0 Γ S1 (f0, s0, 0) (by omega) gro_rf h1 (by rw [sam1_sV hst hb m1]; exact ef0) i4 hs hB (fun _ _ => rfl) (Nat.le_refl _) rfl⟩
end LV
