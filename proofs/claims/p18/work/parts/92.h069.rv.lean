/-! A CLAUSE OF ORDERS IS RUN, EXACTLY -/
section RV
variable {Γ : kG} {Φ : kF} {S : hS} {a b bt d g i u c m : Nat} {ρ ρb ρd ρg : Nat → Nat} {us : uL} {L : Nat → List pCl} {os : List pOr}
theorem rI.mono {lg : Option Nat} {f0 : Nat → Int32} {Γ0 Γ1 : kG} {Ψ : kF} {S1 : hS} {s : oS} {N N' : Nat} (h : rI lg d b ρ ρg f0 Γ0 Ψ Γ1 S1 u s N) (hN : N ≤ N') : rI lg d b ρ ρg f0 Γ0 Ψ Γ1 S1 u s N' := by
  obtain ⟨x1, x2, x3, x4, x5, x6, x7, x8, x9, x10, x11, x12⟩ := h
  exact ⟨x1, x2, x3, x4, x5, x6, x7, x8, x9, by omega, x11, x12⟩
theorem sam1_sV {S' : hS} (h : St Γ Φ S) (hb : Γ b = some (8, 8 + 10000 * i, i, 0, ρ)) (hm : sam Γ [1] S S') : sV S' b ρ = sV S b ρ := sV_sam h hb hm (by simp only [List.mem_cons, List.not_mem_nil, or_false]; omega)
theorem sam7_sV {S' : hS} (h : St Γ Φ S) (hb : Γ b = some (8, 8 + 10000 * i, i, 0, ρ)) (hm : sam Γ [202, 700] S S') : sV S' b ρ = sV S b ρ := sV_sam h hb hm (by simp only [List.mem_cons, List.not_mem_nil, or_false]; omega)
theorem lgS.sm1 {S' : hS} (h : lgS Γ S g ρg us) (hs : St Γ Φ S) (hg : Γ g = some (3, 3, 0, 0, ρg)) (hm : sam Γ [1] S S') : lgS Γ S' g ρg us := h.sm hs hg hm ⟨by simp, by simp, by simp, fun j hj x hx => by
  simp only [leN, List.mem_cons, List.not_mem_nil, or_false] at hx ⊢
  omega⟩
theorem lgS.sm7 {S' : hS} (h : lgS Γ S g ρg us) (hs : St Γ Φ S) (hg : Γ g = some (3, 3, 0, 0, ρg)) (hm : sam Γ [202, 700] S S') : lgS Γ S' g ρg us := h.sm hs hg hm ⟨by simp, by simp, by simp, fun j hj x hx => by
  simp only [leN, List.mem_cons, List.not_mem_nil, or_false] at hx ⊢
  omega⟩
theorem lgN_c {S' : hS} {A : List Nat} (h : St Γ Φ S) (h' : St Γ Φ S') (hg : Γ g = some (3, 3, 0, 0, ρg)) (hm : sam Γ A S S') (hA : 3 ∉ A ∧ 400 ∉ A) : lgN S' g = lgN S g ∧ lgF S' g = lgF S g := by
  have w := hm.at h hg hA.1
  have w2 := hm.at h (P_3_0 h hg).2 hA.2
  have q1 := lgN_e (S' := S) h' hg
  have q2 := lgN_e (S' := S) h hg
  rw [q1.1, q1.2, q2.1, q2.2, fI_cell w, aO_cell w2, cN_congr 16 (fun j _ => aO_cell w2 j)]
  exact ⟨rfl, rfl⟩
/-- a part of a clause, weighed -/
def xOk (a : Option pA) (e : Nat → Int) (x : Int32) : Prop := (wgV a e = none ∧ x = 2000000000) ∨ ∃ v, wgV a e = some v ∧ x.toInt = v ∧ -1000003000 ≤ v ∧ v ≤ 1000003000
theorem xOk_2 {a : Option pA} {e : Nat → Int} {x : Int32} (h : xOk a e x) : (x = 2000000000 ↔ wgV a e = none) := by
  rcases h with ⟨h1, h2⟩ | ⟨v, h1, h2, h3⟩
  · exact ⟨fun _ => h1, fun _ => h2⟩
  · refine ⟨fun z => ?_, fun z => by rw [z] at h1; cases h1⟩
    rw [z, show Int32.toInt 2000000000 = 2000000000 by decide] at h2
    omega
theorem xOk_1 {a : Option pA} {e : Nat → Int} {x : Int32} (h : xOk a e x) : (x = 1 ↔ wgV a e = some 1) := by
  rcases h with ⟨h1, h2⟩ | ⟨v, h1, h2, h3⟩
  · rw [h1, h2]
    exact ⟨fun z => absurd z (by decide), fun z => by cases z⟩
  · rw [h1]
    constructor
    · intro z
      rw [z, show Int32.toInt 1 = 1 by decide] at h2
      rw [← h2]
    · intro z
      cases z
      exact Int32.toInt_inj.mp h2
theorem xOk_v {a : Option pA} {e : Nat → Int} {x : Int32} (h : xOk a e x) (hn : ¬ x = 2000000000) : wgV a e = some x.toInt := by
  rcases h with ⟨h1, h2⟩ | ⟨v, h1, h2, h3⟩
  · exact absurd h2 hn
  · rw [h1, h2]
theorem kx_run25 {q : Int32 → hS → Prop} {K13 : hS → Nat → Nat → Nat → Nat → Option Nat → Int32 → Prop} {lg : Option Nat} {f0 : Nat → Int32} {Γ0 : kG} {Ψ : kF} {j : Nat} (hd : Γ0 d = some (1, 1, 0, 0, ρd)) (hb : Γ0 b = some (8, 8 + 10000 * i, i, 0, ρ)) (hbt : Γ0 bt = some (10, 10, c, m, ρb)) (hi : i < 10) (hf : fre Γ0 Ψ ([1, 202] ++ dbNm i)) (hg : ∀ g, lg = some g → Γ0 g = some (3, 3, 0, 0, ρg) ∧ lgFr Γ0 Ψ) (hx : ∀ Γ1 S1, gro Γ0 Ψ Γ1 → St Γ1 Ψ S1 → txR S1 bt ρb (os.map orX) ∧ lwsS Γ1 S1 ρ L (iR f0 3)) (hO : okL (csF f0 L)) (ho : okO os) (hj : j < os.length) : ∀ t n Γ1 S1 u s, n + t = (os[j]).2.2.1 → rI lg d b ρ ρg f0 Γ0 Ψ Γ1 S1 u s (20 * j + n) → (orRep (csF f0 L) os[j] t s = none → ∀ Γ2 S2, gro Γ0 Ψ Γ2 → St Γ2 Ψ S2 → q (nI j) S2) → (∀ s', orRep (csF f0 L) os[j] t s = some s' → ∀ Γ2 S2 u2, rI lg d b ρ ρg f0 Γ0 Ψ Γ2 S2 u2 s' (20 * (j + 1)) → K13 S2 u2 d bt b lg (nI (j + 1))) → w_X1_run_b25 q K13 (t + 1) S1 u d bt b lg (nI j) (nI n) := by
  have ob := ho.2 os[j] (List.getElem_mem hj)
  intro t
  induction t with
  | zero =>
    intro n Γ1 S1 u s hn hI kn ks
    have h1 := hI.2.1
    have hbt1 := hI.1.1 _ _ hbt
    obtain ⟨l1, l2, l3, l4⟩ := tx_ord h1 hbt1 (hx Γ1 S1 hI.1 h1).1 ho
    unfold w_X1_run_b25
    refine E_gP_10_4 h1 hbt1 (fun k4 => T_aI_20 h1 k4 (by rw [nI_toInt (by omega)]; omega) (fun x33 e33 _ => ?_))
    rw [nI_clamp (by omega), (l4 j hj).2] at e33
    subst e33
    rw [nI_leI (by omega) (by omega)]
    refine ⟨fun _ y255 e255 => ?_, fun z => absurd (by omega) z⟩
    subst e255
    rw [nI_1]
    exact ks s rfl Γ1 S1 u (hI.mono (by omega))
  | succ t ih =>
    intro n Γ1 S1 u s hn hI kn ks
    obtain ⟨g1, h1, v1, d5, d3, lgs, hB, hfr, n1, n2, la1, la2⟩ := id hI
    have hbt1 := g1.1 _ _ hbt
    have hb1 := g1.1 _ _ hb
    have hd1 := g1.1 _ _ hd
    have hf1 := hf.gr g1
    obtain ⟨l1, l2, l3, l4⟩ := tx_ord h1 hbt1 (hx Γ1 S1 g1 h1).1 ho
    have ecs : csF s.1 L = csF f0 L := by
      unfold csF
      rw [iR_ge (hfr 4 (by unfold inLe; omega))]
    have e3 : iR s.1 3 = iR f0 3 := iR_ge (hfr 3 (by unfold inLe; omega))
    rw [orRep] at kn ks
    -- no step
    have stop : orTry (csF f0 L) os[j] s = none → ∀ Γ2 S2, gro Γ0 Ψ Γ2 → St Γ2 Ψ S2 → q (nI j) S2 := fun z => kn (by rw [z])
    -- a step
    have next : ∀ Γ2 S2 u2 s', orTry (csF f0 L) os[j] s = some s' → rI lg d b ρ ρg f0 Γ0 Ψ Γ2 S2 u2 s' (20 * j + (n + 1)) → w_X1_run_b249 q K13 (fun S u v0 v1 v2 v3 v4 v5 => w_X1_run_b25 q K13 (t + 1) S u v0 v1 v2 v3 v4 v5) S2 u2 d bt b lg (nI j) (nI n) := by
      intro Γ2 S2 u2 s' hs hI2
      unfold w_X1_run_b249
      intro y ey
      subst ey
      rw [nI_1]
      rw [hs] at kn ks
      exact ih (n + 1) Γ2 S2 u2 s' (by omega) hI2 kn ks
    -- behind a deed
    have do231 : ∀ (r : Int32) Γ2 S2 u2 (x y z : Int), orTry (csF f0 L) os[j] s = orDo (csF f0 L) (os[j]).1 s x y z → r.toInt = (deedD (csF f0 L) (os[j]).1 s.1 x y z).1 → gro Γ1 Ψ Γ2 → St Γ2 Ψ S2 → sV S2 b ρ = (deedD (csF f0 L) (os[j]).1 s.1 x y z).2 → (fI S2 d 5).toInt = s.2.1 → (fI S2 d 3).toInt = (if (os[j]).1 = 0 then (deedD (csF f0 L) (os[j]).1 s.1 x y z).1 else s.2.2.1) → (∀ g, lg = some g → (0 ≤ (deedD (csF f0 L) (os[j]).1 s.1 x y z).1 → lgN S2 g ≤ u2) ∧ lgS Γ2 S2 g ρg (usD s.2.2.2 (os[j]).1 s.1 (deedD (csF f0 L) (os[j]).1 s.1 x y z).1)) → w_X1_run_b231 q K13 (fun S u v0 v1 v2 v3 v4 v5 => w_X1_run_b25 q K13 (t + 1) S u v0 v1 v2 v3 v4 v5) S2 u2 d bt b lg (nI j) (nI n) r := by
      intro r Γ2 S2 u2 x y z hT er g2 h2 ev f5 f3 lg2
      have g02 := g1.tr g2
      obtain ⟨o1, o2, o3, o4, o5⟩ := deedD_ok (cs := csF f0 L) (a := x) (b := y) (c := z) (act := (os[j]).1) hB
      unfold orDo at hT
      generalize deedD (csF f0 L) (os[j]).1 s.1 x y z = D at *
      unfold w_X1_run_b231
      rw [Int32.le_iff_toInt_le, er, z0I]
      refine ⟨fun hr => ?_, fun hr => ?_⟩
      · rw [if_neg (by omega)] at hT
        have hd2 := g02.1 _ _ hd
        have hb2 := g02.1 _ _ hb
        refine T_gI_1_5 h2 hd2 (fun x241 e241 _ => T_pI_1_5 (frz_St (L := [1]) h2) (frz_fre ((hf.gr g02).sub (by simp)) (fun _ x => x)) (L := [1]) hd2 (by simp) (fun S3 h3 i3 q3 a3 => ?_))
        obtain ⟨s3, m3⟩ := frz_un h2 h3
        subst e241
        refine next Γ2 S3 u2 _ hT ⟨g02, s3, by rw [sam1_sV h2 hb2 m3]; exact ev, ?_, ?_, fun g hg' => ⟨?_, ?_⟩, o1, fun k hk => (o2 k hk).trans (hfr k hk), by dsimp only; omega, by dsimp only; omega, ?_, ?_⟩
        · rw [i3, fb_addI (by rw [f5, show Int32.toInt 1 = 1 by decide]; omega) (by rw [f5, show Int32.toInt 1 = 1 by decide]; omega), f5]
          rfl
        · rw [q3.I (by omega)]
          exact f3
        · rw [(lgN_c h2 s3 (g02.1 _ _ (hg g hg').1) m3 (by simp)).1]
          exact (lg2 g hg').1 hr
        · have := (lg2 g hg').2
          unfold usD at this
          rw [if_neg (by omega)] at this
          exact this.sm1 h2 (g02.1 _ _ (hg g hg').1) m3
        · dsimp only
          split
          · omega
          · omega
        · dsimp only
          split
          · rename_i c0; exact o5 c0
          · omega
      · rw [if_pos (by omega)] at hT
        exact stop hT Γ2 S2 g02 h2
    unfold w_X1_run_b25
    refine E_gP_10_4 h1 hbt1 (fun k4 => T_aI_20 h1 k4 (by rw [nI_toInt (by omega)]; omega) (fun x33 e33 _ => ?_))
    rw [nI_clamp (by omega), (l4 j hj).2] at e33
    subst e33
    rw [nI_leI (by omega) (by omega)]
    refine ⟨fun z => absurd z (by omega), fun _ => T_oK_1 h1 hd1 (kx_X1_setWords h1 (hf1.sub (by simp)) hd1 hb1 (by rw [v1]; exact hB) d5 d3 (fun S2 h2 m2 w2 => ?_))⟩
    rw [v1] at w2
    -- a part is weighed
    have wgh : ∀ (i' : Nat) (vi : Int32) (S3 : hS) (P : Int32 → hS → Prop), i' ≤ 3 → vi = nI i' → St Γ1 Ψ S3 → sam Γ1 [202, 700] S1 S3 → (∀ w, w < 26 → (aV S3 (ρd 2) w).toInt = envO s.1 s.2.1 s.2.2.1 w) → (∀ x S4, xOk (xP (orX os[j]) i') (envO s.1 s.2.1 s.2.2.1) x → St Γ1 Ψ S4 → sam Γ1 [202, 700] S1 S4 → (∀ w, w < 26 → (aV S4 (ρd 2) w).toInt = envO s.1 s.2.1 s.2.2.1 w) → P x S4) → w_X6_weigh P S3 (ρd 1) bt (nI j) vi (ρd 2) := by
      intro i' vi S3 P hi' evi h3 m3 w3 kP
      have hj2 : j < (os.map orX).length := by rw [List.length_map]; exact hj
      have em : (os.map orX)[j] = orX os[j] := List.getElem_map ..
      have ks' := (P_1_2 h3 hd1).2
      have kw : ∀ S4, sam Γ1 [700] S3 S4 → sam Γ1 [202, 700] S1 S4 ∧ ∀ w, w < 26 → (aV S4 (ρd 2) w).toInt = envO s.1 s.2.1 s.2.2.1 w := fun S4 m4 => ⟨m3.tr (m4.le (by simp)), fun w hw => by rw [aV_cell (m4.at h3 ks' (by simp))]; exact w3 w hw⟩
      refine kx_X6_weigh h3 (hf1.sub (by simp [dbNm])) (P_1_1 h3 hd1).2 hbt1 (Or.inl rfl) ks' (by omega) (by omega) (hx Γ1 S3 g1 h3).1 ho.1 hj2 hi' rfl evi (e := envO s.1 s.2.1 s.2.2.1) (fun w hw => ⟨w3 w hw, envO_in hB (by omega) ⟨la1, la2⟩ hw⟩) (fun hv S4 h4 m4 => ?_) (fun v r S4 hv er hb4 h4 m4 => ?_)
      · obtain ⟨y1, y2⟩ := kw S4 m4
        rw [em] at hv
        exact kP _ S4 (Or.inl ⟨hv, rfl⟩) h4 y1 y2
      · obtain ⟨y1, y2⟩ := kw S4 m4
        rw [em] at hv
        exact kP r S4 (Or.inr ⟨v, hv, er, hb4⟩) h4 y1 y2
    refine E_gP_1_1 h2 hd1 (fun ka => E_gP_1_2 h2 hd1 (fun _ => T_oK_6 h2 ka (wgh 3 3 S2 _ (by omega) rfl h2 (m2.le (by simp)) w2 (fun x54 S3 x54k h3 m3 w3 => ⟨fun e54 => ?_, fun e54 => ?_⟩))))
    rotate_left
    · rw [xOk_1 x54k] at e54
      have hT : orTry (csF f0 L) os[j] s = some s := by
        unfold orTry
        exact if_neg e54
      refine next Γ1 S3 u s hT ⟨g1, h3, by rw [sam7_sV h1 hb1 m3]; exact v1, ?_, ?_, fun g hg' => ?_, hB, hfr, n1, by omega, la1, la2⟩
      · rw [fI_cell (m3.at h1 hd1 (by simp))]; exact d5
      · rw [fI_cell (m3.at h1 hd1 (by simp))]; exact d3
      · have kg := g1.1 _ _ (hg g hg').1
        exact ⟨by rw [(lgN_c h1 h3 kg m3 (by simp)).1]; exact (lgs g hg').1, (lgs g hg').2.sm7 h1 kg m3⟩
    rw [xOk_1 x54k] at e54
    have hT0 : orTry (csF f0 L) os[j] s = (match wgV (os[j]).2.1.1 (envO s.1 s.2.1 s.2.2.1), wgV (os[j]).2.1.2.1 (envO s.1 s.2.1 s.2.2.1), wgV (os[j]).2.1.2.2 (envO s.1 s.2.1 s.2.2.1) with
      | some a, some b, some c => orDo (csF f0 L) (os[j]).1 s a b c
      | _, _, _ => none) := by
      unfold orTry
      exact if_pos e54
    refine E_gP_1_1 h3 hd1 (fun ka => E_gP_1_2 h3 hd1 (fun _ => T_oK_6 h3 ka (wgh 0 0 S3 _ (by omega) rfl h3 m3 w3 (fun x76 S4 x76k h4 m4 w4 => ?_))))
    refine E_gP_1_1 h4 hd1 (fun ka => E_gP_1_2 h4 hd1 (fun _ => T_oK_6 h4 ka (wgh 1 1 S4 _ (by omega) rfl h4 m4 w4 (fun x93 S5 x93k h5 m5 w5 => ?_))))
    refine E_gP_1_1 h5 hd1 (fun ka => E_gP_1_2 h5 hd1 (fun _ => T_oK_6 h5 ka (wgh 2 2 S5 _ (by omega) rfl h5 m5 w5 (fun x110 S6 x110k h6 m6 w6 => ?_))))
    clear wgh
    have x76k' : xOk (os[j]).2.1.1 (envO s.1 s.2.1 s.2.2.1) x76 := x76k
    have x93k' : xOk (os[j]).2.1.2.1 (envO s.1 s.2.1 s.2.2.1) x93 := x93k
    have x110k' : xOk (os[j]).2.1.2.2 (envO s.1 s.2.1 s.2.2.1) x110 := x110k
    refine ⟨fun z => stop ?_ Γ1 S6 g1 h6, fun z1 => ⟨fun z => stop ?_ Γ1 S6 g1 h6, fun z2 => ⟨fun z3 => ?_, fun z => stop ?_ Γ1 S6 g1 h6⟩⟩⟩
    · rw [hT0, (xOk_2 x76k').mp z]
    · rw [hT0, xOk_v x76k' z1, (xOk_2 x93k').mp z]
    rotate_left
    · rw [hT0, xOk_v x76k' z1, xOk_v x93k' z2, (xOk_2 x110k').mp z]
    rw [xOk_v x76k' z1, xOk_v x93k' z2, xOk_v x110k' z3] at hT0
    dsimp only at hT0
    have v6 : sV S6 b ρ = s.1 := by rw [sam7_sV h1 hb1 m6]; exact v1
    have f65 : (fI S6 d 5).toInt = s.2.1 := by rw [fI_cell (m6.at h1 hd1 (by simp))]; exact d5
    have f63 : (fI S6 d 3).toInt = s.2.2.1 := by rw [fI_cell (m6.at h1 hd1 (by simp))]; exact d3
    have lg6 : ∀ g, lg = some g → lgN S6 g ≤ u ∧ lgS Γ1 S6 g ρg s.2.2.2 := fun g hg' => by
      have kg := g1.1 _ _ (hg g hg').1
      exact ⟨by rw [(lgN_c h1 h6 kg m6 (by simp)).1]; exact (lgs g hg').1, (lgs g hg').2.sm7 h1 kg m6⟩
    -- how much the note may take
    obtain ⟨fu, hfu1, hfu2⟩ : ∃ fu, fu ≤ u ∧ ∀ g, lg = some g → lgF S6 g = fu := by
      cases elg : lg with
      | none => exact ⟨0, Nat.zero_le _, fun g hg' => by cases hg'⟩
      | some g' =>
        have := lgPos h6 (g1.1 _ _ (hg g' elg).1)
        have := (lg6 g' elg).1
        exact ⟨lgF S6 g', by omega, fun g hg' => by cases hg'; rfl⟩
    have hl6 : lgI ρg Γ1 Ψ S6 fu lg s.2.2.2 := fun g hg' => ⟨g1.1 _ _ (hg g hg').1, by rw [hfu2 g hg']; exact Nat.le_refl _, (hg g hg').2.gr g1, (lg6 g hg').2⟩
    have hA6 : askS Γ1 S6 (ρd 0) b i (bk 0 ρd) ρ L := ⟨(P_1_0 h6 hd1).2, hb1, by rw [v6]; exact hB, by rw [v6, e3]; exact (hx Γ1 S6 g1 h6).2, by rw [v6, ecs]; exact hO⟩
    have fdb : fre Γ1 Ψ (dbNm i) := hf1.sub (fun x hx => List.mem_append.mpr (Or.inr hx))
    have lgq : ∀ {Γ2 : kG} {S7 : hS} {code : Int}, lgQ ρg Γ2 S6 S7 lg s.2.2.2 (os[j]).1 s.1 code → ∀ g, lg = some g → (0 ≤ code → lgN S7 g ≤ u - fu) ∧ lgS Γ2 S7 g ρg (usD s.2.2.2 (os[j]).1 s.1 code) := fun hq g hg' => by
      obtain ⟨y1, y2⟩ := hq g hg'
      refine ⟨fun z => ?_, y2⟩
      have := y1 z
      have := (lg6 g hg').1
      have := hfu2 g hg'
      omega
    have f7 : ∀ {S7 : hS} (k : Nat), sam Γ1 (deNm i) S6 S7 → fI S7 d k = fI S6 d k := fun k m7 => fI_cell (m7.at h6 hd1 deNm_1) k
    have k4r := (P_10_3 h6 hbt1).2
    refine E_gP_10_3 h6 hbt1 (fun k3 => T_aI_20 h6 k3 (by rw [nI_toInt (by omega)]; omega) (fun x145 e145 _ y146 e146 => ?_))
    have l4' := (tx_ord h6 hbt1 (hx Γ1 S6 g1 h6).1 ho).2.2.2 j hj
    rw [nI_clamp (by omega), l4'.1] at e145
    subst e145
    subst e146
    rw [nI_toInt (by omega)]
    refine ⟨fun c0 => ?_, fun c1 => ?_, fun c2 => ?_, fun c3 => ?_⟩
    · have c0' : (os[j]).1 = 0 := by omega
      refine ⟨fu, u - fu, by omega, T_oK_1 h6 hd1 (kz_ring h6 fdb hd1 hi hA6 hl6 (fun r Γ2 S7 er g7 h7 v7 q7 m7 => ?_))⟩
      rw [v6, ecs] at er v7 q7
      have hd7 := g7.1 _ _ hd1
      have hb7 := g7.1 _ _ hb1
      refine T_pI_1_3 (frz_St (L := [1]) h7) (frz_fre ((hf1.gr g7).sub (by simp)) (fun _ x => x)) (L := [1]) hd7 (by simp) (fun S8 h8' i8 q8 a8 => ?_)
      obtain ⟨h8, m8⟩ := frz_un h7 h8'
      rw [c0'] at lgq
      refine do231 r Γ2 S8 (u - fu) x76.toInt x93.toInt x110.toInt hT0 (by rw [c0', deedD_0]; exact er) g7 h8 (by rw [sam1_sV h7 hb7 m8, c0', deedD_0]; exact v7) (by rw [q8.I (by omega), f7 5 m7]; exact f65) (by rw [if_pos c0', i8, c0', deedD_0]; exact er) (fun g hg' => ?_)
      have kg := g7.1 _ _ (g1.1 _ _ (hg g hg').1)
      have y := lgq q7 g hg'
      rw [c0', deedD_0, (lgN_c h7 h8 kg m8 (by simp)).1]
      exact ⟨y.1, y.2.sm1 h7 kg m8⟩
    · have c1' : (os[j]).1 = 1 := by omega
      refine ⟨fu, u - fu, by omega, T_oK_1 h6 hd1 (kz_sell h6 fdb hd1 hi hA6 hl6 (fun r Γ2 S7 er g7 h7 v7 q7 m7 => ?_))⟩
      rw [v6, ecs] at er v7 q7
      rw [c1'] at lgq
      refine do231 r Γ2 S7 (u - fu) x76.toInt x93.toInt x110.toInt hT0 (by rw [c1', deedD_1]; exact er) g7 h7 (by rw [c1', deedD_1]; exact v7) (by rw [f7 5 m7]; exact f65) (by rw [if_neg (by omega), f7 3 m7]; exact f63) (fun g hg' => ?_)
      rw [c1', deedD_1]
      exact lgq q7 g hg'
    · have c2' : (os[j]).1 = 2 := by omega
      refine ⟨fu, u - fu, by omega, T_oK_1 h6 hd1 (kz_die h6 fdb hi hb1 hA6.2.2.1 hl6 (fun r Γ2 S7 er g7 h7 v7 q7 m7 => ?_))⟩
      rw [v6] at er v7 q7
      rw [c2'] at lgq
      refine do231 r Γ2 S7 (u - fu) x76.toInt x93.toInt x110.toInt hT0 (by rw [c2', deedD_2]; exact er) g7 h7 (by rw [c2', deedD_2]; exact v7) (by rw [f7 5 m7]; exact f65) (by rw [if_neg (by omega), f7 3 m7]; exact f63) (fun g hg' => ?_)
      rw [c2', deedD_2]
      exact lgq q7 g hg'
    · have c3' : (os[j]).1 = 3 := by omega
      refine ⟨fu, u - fu, by omega, T_oK_1 h6 hd1 (kz_pass h6 fdb hi hb1 hA6.2.2.1 hl6 (fun r Γ2 S7 er g7 h7 v7 q7 m7 => ?_))⟩
      rw [v6] at er v7 q7
      rw [c3'] at lgq
      refine do231 r Γ2 S7 (u - fu) x76.toInt x93.toInt x110.toInt hT0 (by rw [c3', deedD_3]; exact er) g7 h7 (by rw [c3', deedD_3]; exact v7) (by rw [f7 5 m7]; exact f65) (by rw [if_neg (by omega), f7 3 m7]; exact f63) (fun g hg' => ?_)
      rw [c3', deedD_3]
      exact lgq q7 g hg'
end RV
