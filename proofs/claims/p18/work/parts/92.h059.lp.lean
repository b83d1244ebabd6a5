/-! A DEED IS NOTED, EXACTLY -/
def lgNm : List Nat := [3, 400, 401] ++ (List.range 16).flatMap (fun j => leN (10 + j))
/-- ahead of a push: what of the log stays -/
def lgP (Γ : kG) (S : hS) (g : Nat) (ρg : Nat → Nat) (us : uL) (nx : Nat) : Prop := nx < 16 ∧ us.length ≤ 16 ∧ fI S g 2 = nI nx ∧ fI S g 3 = nI us.length ∧ ∀ k, (h : k < us.length) → (nx + 16 - us.length + k) % 16 ≠ nx → aV S (ρg 1) ((nx + 16 - us.length + k) % 16) = nI (us[k]).1 ∧ (us[k]).1 ≤ 3 ∧ ∃ d β, aO S (ρg 0) ((nx + 16 - us.length + k) % 16) = some d ∧ Γ d = some (2, 2 + 10000 * (10 + (nx + 16 - us.length + k) % 16), 10 + (nx + 16 - us.length + k) % 16, 0, β) ∧ ∀ j, inLe j → leV S d β j = (us[k]).2 j
theorem lgNm_in {j x : Nat} (hj : j < 16) (hx : x ∈ leN (10 + j)) : x ∈ lgNm := List.mem_append.mpr (Or.inr (List.mem_flatMap.mpr ⟨j, List.mem_range.mpr hj, hx⟩))
theorem lgNm_no {x : Nat} (h : ∀ j, j < 16 → x ∉ leN (10 + j)) (h1 : x ≠ 3 ∧ x ≠ 400 ∧ x ≠ 401) : x ∉ lgNm := by
  intro z
  rcases List.mem_append.mp z with z | z
  · simp only [List.mem_cons, List.not_mem_nil, or_false] at z
    omega
  · obtain ⟨j, j1, j2⟩ := List.mem_flatMap.mp z
    exact h j (List.mem_range.mp j1) j2
theorem fre_lg {Γ : kG} {Φ : kF} (h : lgFr Γ Φ) : fre Γ Φ lgNm := by
  intro a τ ha hm
  rcases List.mem_append.mp hm with z | z
  · exact h.1 a τ ha z
  · obtain ⟨j, j1, j2⟩ := List.mem_flatMap.mp z
    exact h.2 j (List.mem_range.mp j1) a τ ha j2
theorem lg_fre {Γ : kG} {Φ : kF} (h : fre Γ Φ lgNm) : lgFr Γ Φ := ⟨h.sub (by simp [lgNm]), fun j hj => h.sub (fun x hx => lgNm_in hj hx)⟩
section LP
variable {Γ : kG} {Φ : kF} {S : hS} {b d i g u : Nat} {β ρb ρg : Nat → Nat} {us : uL}
theorem lgS.P (h : lgS Γ S g ρg us) : ∃ nx, lgP Γ S g ρg us nx := by
  obtain ⟨nx, h1, h2, h3, h4, h5⟩ := h
  exact ⟨nx, h1, h2, h3, h4, fun k hk _ => h5 k hk⟩
theorem kx_push28 {q : hS → Prop} {nx kd : Nat} {v : Int32} (h : St Γ Φ S) (hg : Γ g = some (3, 3, 0, 0, ρg)) (hb : Γ b = some (2, 2 + 10000 * i, i, 0, ρb)) (hi : i < 10) (hf : lgFr Γ Φ) (hP : lgP Γ S g ρg us nx) (hd : aO S (ρg 0) nx = some d) (kd3 : kd ≤ 3) (ev : v = nI kd) (k : ∀ S', St Γ Φ S' → (∀ j, aO S' (ρg 0) j = aO S (ρg 0) j) → lgS Γ S' g ρg (pushU us (kd, leV S b ρb)) → q S') : w_X3_push_b28 q S u g v b := by
  subst ev
  obtain ⟨p1, p2, p3, p4, p5⟩ := hP
  have kA := (P_3_0 h hg).2
  have kB := (P_3_1 h hg).2
  unfold w_X3_push_b28
  refine E_gP_3_0 h hg (fun _ => T_gI_3_2 h hg (fun x33 e33 _ => T_aR_27 h kA (by rw [e33, p3, nI_toInt (by omega)]; omega) (fun x36 e36 h36 => ?_)))
  rw [e33, p3, nI_clamp (by omega)] at e36 h36
  rw [hd] at e36
  subst e36
  obtain ⟨ρd, hd2⟩ := h36 d rfl
  refine dQ_s (T_oK_2 h hd2 (kx_copyL h hd2 hb (by omega) (hf.2 nx p1) (fun S1 h1 m1 w1 => ?_)))
  have n1 : ∀ x, x = 3 ∨ x = 400 ∨ x = 401 → x ∉ leN (10 + nx) := fun x hx => by simp [leN]; omega
  have c0 := m1.at h kA (n1 _ (by simp))
  have c1 := m1.at h kB (n1 _ (by simp))
  have cg := m1.at h hg (n1 _ (by simp))
  refine E_gP_3_1 h1 hg (fun _ => T_gI_3_2 h1 hg (fun x46 e46 _ => T_sI_20 h1 (hf.1.sub (by simp)) (L := [401]) kB (by simp) (by rw [e46, fI_cell cg, p3, nI_toInt (by omega)]; omega) (fun S2 h2 q2 a2 o2 v2 => T_gI_3_2 h2 hg (fun x53 e53 _ => ?_))))
  rw [e46, fI_cell cg, p3, nI_clamp (by omega)] at v2
  rw [e53, q2.I, fI_cell cg, p3, nI_1, lit_nI 16, nIdiv (by omega) (by omega), nImul, nIsub (by omega), show nx + 1 - (nx + 1) / 16 * 16 = (nx + 1) % 16 by omega]
  refine T_pI_3_2 h2 (hf.1.sub (by simp)) (L := [3]) hg (by simp) (by rw [nI_toInt (by omega)]; omega) (fun S3 h3 i3 q3 a3 => T_gI_3_3 h3 hg (fun x66 e66 _ => ?_))
  rw [e66, q3.I (by omega), q2.I, fI_cell cg, p4, nI_1]
  have e16 : (if nI 16 < nI (us.length + 1) then nI 16 else nI (us.length + 1)) = nI (pushU us (kd, leV S b ρb)).length := by
    unfold pushU
    by_cases z : us.length = 16
    · rw [if_pos ((nI_ltI (by omega) (by omega)).mpr (by omega)), if_pos z, List.length_append, List.length_tail, List.length_singleton, z]
    · rw [if_neg (fun y => z (by have := (nI_ltI (by omega) (by omega)).mp y; omega)), if_neg z, List.length_append, List.length_singleton]
  rw [e16]
  refine T_pI_3_3 h3 (hf.1.sub (by simp)) (L := [3]) hg (by simp) (fun S4 h4 i4 q4 a4 => k S4 h4 (fun j => by rw [a4.2, a3.2, o2, aO_cell c0]) ?_)
  have pl : (pushU us (kd, leV S b ρb)).length = if us.length = 16 then 16 else us.length + 1 := by
    unfold pushU
    by_cases z : us.length = 16
    · rw [if_pos z, if_pos z, List.length_append, List.length_tail, List.length_singleton, z]
    · rw [if_neg z, if_neg z, List.length_append, List.length_singleton]
  have leq : ∀ d' β' j, leV S4 d' β' j = leV S1 d' β' j ∨ True := fun _ _ _ => Or.inr trivial
  -- ledgers are not touched behind the copying
  have le4 : ∀ d' β' t, t < 16 → Γ d' = some (2, 2 + 10000 * (10 + t), 10 + t, 0, β') → leV S4 d' β' = leV S1 d' β' := by
    intro d' β' t ht hk
    obtain ⟨w0, w1', w2, w3⟩ := leK h hk
    have ng : d' ≠ g := nmne hk hg (by dsimp only; omega)
    have m0 : β' 0 ≠ ρg 1 := nmne w0 kB (by dsimp only; omega)
    have m1' : β' 1 ≠ ρg 1 := nmne w1' kB (by dsimp only; omega)
    have m2 : β' 2 ≠ ρg 1 := nmne w2 kB (by dsimp only; omega)
    have m3 : β' 3 ≠ ρg 1 := nmne w3 kB (by dsimp only; omega)
    funext j
    unfold leV
    rw [q4.I (by omega), q3.I (by omega), q2.I, q4.I (by omega), q3.I (by omega), q2.I, a4.1, a3.1, a2 _ _ m2, a4.1, a3.1, a2 _ _ m3, a4.1, a3.1, a2 _ _ m0, a4.1, a3.1, a2 _ _ m1']
  refine ⟨(nx + 1) % 16, by omega, by rw [pl]; split <;> omega, by rw [q4.I (by omega)]; exact i3, i4, fun t ht => ?_⟩
  rw [pl] at ht ⊢
  have key : ∀ (t' : Nat) (h' : t' < us.length), (nx + 16 - us.length + t') % 16 ≠ nx → ∀ ix, ix = (nx + 16 - us.length + t') % 16 → aV S4 (ρg 1) ix = nI (us[t']).1 ∧ (us[t']).1 ≤ 3 ∧ ∃ d' β', aO S4 (ρg 0) ix = some d' ∧ Γ d' = some (2, 2 + 10000 * (10 + ix), 10 + ix, 0, β') ∧ ∀ j, inLe j → leV S4 d' β' j = (us[t']).2 j := by
    intro t' h' hne ix eix
    subst eix
    obtain ⟨e1, e2, d', β', e3, e4, e5⟩ := p5 t' h' hne
    refine ⟨by rw [a4.1, a3.1, v2, if_neg hne, aV_cell c1]; exact e1, e2, d', β', by rw [a4.2, a3.2, o2, aO_cell c0]; exact e3, e4, fun j hj => ?_⟩
    rw [le4 d' β' _ (Nat.mod_lt _ (by omega)) e4, leV_sam h e4 m1 (by simp [leN]; omega)]
    exact e5 j hj
  have new : ∀ ix, ix = nx → aV S4 (ρg 1) ix = nI kd ∧ kd ≤ 3 ∧ ∃ d' β', aO S4 (ρg 0) ix = some d' ∧ Γ d' = some (2, 2 + 10000 * (10 + ix), 10 + ix, 0, β') ∧ ∀ j, inLe j → leV S4 d' β' j = leV S b ρb j := by
    intro ix eix
    subst eix
    refine ⟨by rw [a4.1, a3.1, v2, if_pos rfl], kd3, d, ρd, by rw [a4.2, a3.2, o2, aO_cell c0]; exact hd, hd2, fun j hj => ?_⟩
    rw [le4 d ρd _ p1 hd2]
    exact w1 j hj
  by_cases z : us.length = 16
  · rw [if_pos z] at ht ⊢
    have el : (pushU us (kd, leV S b ρb)) = us.tail ++ [(kd, leV S b ρb)] := by unfold pushU; rw [if_pos z]
    have tl : us.tail.length = 15 := by rw [List.length_tail, z]
    by_cases y : t < 15
    · have eg : (pushU us (kd, leV S b ρb))[t]'(by rw [pl, if_pos z]; exact ht) = us[t + 1]'(by omega) := by
        simp only [el]
        rw [List.getElem_append_left (by omega), List.getElem_tail]
      rw [eg]
      exact key (t + 1) (by omega) (by omega) _ (by omega)
    · have t15 : t = 15 := by omega
      subst t15
      have eg : (pushU us (kd, leV S b ρb))[15]'(by rw [pl, if_pos z]; exact ht) = (kd, leV S b ρb) := by
        simp only [el]
        rw [List.getElem_append_right (by omega)]
        simp [tl]
      rw [eg]
      exact new _ (by omega)
  · rw [if_neg z] at ht ⊢
    have el : (pushU us (kd, leV S b ρb)) = us ++ [(kd, leV S b ρb)] := by unfold pushU; rw [if_neg z]
    by_cases y : t < us.length
    · have eg : (pushU us (kd, leV S b ρb))[t]'(by rw [pl, if_neg z]; exact ht) = us[t] := by
        simp only [el]
        rw [List.getElem_append_left y]
      rw [eg]
      exact key t y (by omega) _ (by omega)
    · have te : t = us.length := by omega
      subst te
      have eg : (pushU us (kd, leV S b ρb))[us.length]'(by rw [pl, if_neg z]; exact ht) = (kd, leV S b ρb) := by
        simp only [el]
        rw [List.getElem_append_right (Nat.le_refl _)]
        simp
      rw [eg]
      exact new _ (by omega)
theorem lgN_e {S' : hS} (h : St Γ Φ S) (hg : Γ g = some (3, 3, 0, 0, ρg)) : lgN S g = cN (aO S (ρg 0)) 16 ∧ lgF S g = if aO S (ρg 0) (fI S g 2).toNatClampNeg = none then 1 else 0 := by
  unfold lgN lgF
  rw [(P_3_0 h hg).1]
  exact ⟨rfl, rfl⟩
theorem kx_X3_push {q : hS → Prop} {kd : Nat} {v : Int32} (h : St Γ Φ S) (hg : Γ g = some (3, 3, 0, 0, ρg)) (hb : Γ b = some (2, 2 + 10000 * i, i, 0, ρb)) (hi : i < 10) (hf : lgFr Γ Φ) (hu : lgF S g ≤ u) (hs : lgS Γ S g ρg us) (kd3 : kd ≤ 3) (ev : v = nI kd) (k : ∀ Γ' S', gro Γ Φ Γ' → St Γ' Φ S' → lgN S' g + lgF S g ≤ lgN S g → lgS Γ' S' g ρg (pushU us (kd, leV S b ρb)) → sam Γ lgNm S S' → q S') : w_X3_push q S u g v b := by
  have kA := (P_3_0 h hg).2
  obtain ⟨nx, hP⟩ := hs.P
  obtain ⟨p1, p2, p3, p4, p5⟩ := id hP
  obtain ⟨n1, n2⟩ := lgN_e (S' := S) h hg
  rw [p3, nI_clamp (by omega)] at n2
  have hfl := frz_fre (S := S) (fre_lg hf) (fun _ x => x)
  have hst := frz_St (L := lgNm) h
  have back : ∀ {Γ' : kG} {S' : hS}, St Γ' (frz Γ Φ S lgNm) S' → St Γ' Φ S' ∧ sam Γ lgNm S S' := fun h' => frz_un h h'
  have gback : ∀ {Γ' : kG}, gro Γ (frz Γ Φ S lgNm) Γ' → gro Γ Φ Γ' := fun g => frz_gro h g
  generalize frz Γ Φ S lgNm = Ψ at hfl hst back gback
  have hf' := lg_fre hfl
  unfold w_X3_push
  refine E_gP_3_0 hst hg (fun _ => T_gI_3_2 hst hg (fun x5 e5 _ => T_aR_27 hst kA (by rw [e5, p3, nI_toInt (by omega)]; omega) (fun x8 e8 _ => ⟨fun hn => ?_, fun d hd => ?_⟩)))
  · rw [e5, p3, nI_clamp (by omega), hn] at e8
    have hno : aO S (ρg 0) nx = none := e8.symm
    rw [if_pos hno] at n2
    refine E_gP_3_0 hst hg (fun _ => T_gI_3_2 hst hg (fun x17 e17 _ => ⟨u - 1, by omega, St_nO (frz_St (L := []) hst) (fun o S1 hN _ => ki_X2 (10 + nx) hN (fun Γ2 S2 ρo g2 t2 h2 _ => ?_))⟩))
    have g2' := frz_gro hst g2
    obtain ⟨h2, m2⟩ := frz_un hst h2
    rw [p3] at e17
    subst e17
    have cA := m2.at hst kA (by simp)
    have cg := m2.at hst hg (by simp)
    have cB := m2.at hst (P_3_1 hst hg).2 (by simp)
    refine T_stR_27 h2 ((hf'.gr g2').1.sub (by simp)) (L := [400]) (g2'.1 _ _ kA) (by simp) (by rw [nI_toInt (by omega)]; omega) (fun b' hb' => by cases hb'; rw [nI_clamp (by omega)]; exact ⟨ρo, t2⟩) (fun S3 h3 q3 a3 o3 w3 => ?_)
    rw [nI_clamp (by omega)] at w3
    have src : leV S3 b ρb = leV S b ρb := by
      have e1 : leV S2 b ρb = leV S b ρb := leV_sam hst hb m2 (by simp)
      rw [← e1]
      funext j
      unfold leV
      rw [q3.I, q3.I, a3, a3, a3, a3]
    refine kx_push28 (d := o) (nx := nx) (us := us) h3 (g2'.1 _ _ hg) (g2'.1 _ _ hb) hi (hf'.gr g2') ⟨p1, p2, by rw [q3.I, fI_cell cg]; exact p3, by rw [q3.I, fI_cell cg]; exact p4, fun t ht hne => ?_⟩ (by rw [w3, if_pos rfl]) kd3 ev (fun S4 h4 o4 l4 => ?_)
    · obtain ⟨e1, e2, d', β', e3, e4, e5'⟩ := p5 t ht hne
      refine ⟨by rw [a3, aV_cell cB]; exact e1, e2, d', β', by rw [w3, if_neg hne, aO_cell cA]; exact e3, g2'.1 _ _ e4, fun j hj => ?_⟩
      rw [← e5' j hj]
      have e1' : leV S2 d' β' = leV S d' β' := leV_sam hst e4 m2 (by simp)
      rw [← e1']
      unfold leV
      rw [q3.I, q3.I, a3, a3, a3, a3]
    · rw [src] at l4
      obtain ⟨g4, m4⟩ := back h4
      refine k Γ2 S4 (gback g2') g4 ?_ l4 m4
      have hc := cN_set (f := aO S (ρg 0)) (g := aO S4 (ρg 0)) (i := nx) hno (by rw [o4, w3, if_pos rfl]; exact fun z => by cases z) (fun j hj => by rw [o4, w3, if_neg hj, aO_cell cA]) 16 p1
      have n3 := (lgN_e (S' := S) h4 (g2'.1 _ _ hg)).1
      rw [n1, n2, n3]
      omega
  · rw [e5, p3, nI_clamp (by omega), hd] at e8
    have hso : aO S (ρg 0) nx = some d := e8.symm
    rw [if_neg (by rw [hso]; exact fun z => by cases z)] at n2
    refine kx_push28 (d := d) (nx := nx) (us := us) hst hg hb hi hf' hP hso kd3 ev (fun S4 h4 o4 l4 => ?_)
    obtain ⟨g4, m4⟩ := back h4
    refine k Γ S4 gro_rf g4 ?_ l4 m4
    have n3 := (lgN_e (S' := S) h4 hg).1
    rw [n1, n2, n3, cN_congr 16 (fun j _ => o4 j)]
    omega
end LP
