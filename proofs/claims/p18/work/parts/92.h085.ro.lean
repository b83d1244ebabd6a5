/-! ROW AS A CALL -/
/-- the byte i of a tape -/
def byG (G : pG) : Nat → Int32 := fun i => nI (G.1 i)
def cmB (f : Nat → Int32) (m k n : Nat) : Bool := decide (k + 3 < m) && decide (f (k + 3) < 10) && decide ((0 ≤ (f k).toInt ∧ (f k).toInt ≤ 24) ∧ (0 ≤ (f (k + 1)).toInt ∧ (f (k + 1)).toInt ≤ 99) ∧ 0 ≤ (10 * f (k + 2) + f (k + 3)).toInt ∧ (10 * f (k + 2) + f (k + 3)).toInt ≤ 999) && decide (n < 8)
theorem cmB_iff {f : Nat → Int32} {m k n : Nat} : cmB f m k n = true ↔ cmAt f m k n := by
  unfold cmB cmAt cmIn
  simp only [Bool.and_eq_true, decide_eq_true_eq]
  constructor
  · rintro ⟨⟨⟨a, b⟩, c⟩, d⟩; exact ⟨a, b, c, d⟩
  · rintro ⟨a, b, c, d⟩; exact ⟨⟨⟨a, b⟩, c⟩, d⟩
/-- the row behind j places of the tape, and how many came -/
def rowSt (G : pG) (f : Nat → Int32) : Nat → (Nat → Int32) × Nat
  | 0 => (f, 0)
  | j + 1 => if cmB (byG G) G.2 (4 * j) (nPR (rowSt G f j).1) = true then (psX (rowSt G f j).1 (nPR (rowSt G f j).1) (byG G (4 * j)) (byG G (4 * j + 1)) (10 * byG G (4 * j + 2) + byG G (4 * j + 3)), (rowSt G f j).2 + 1) else rowSt G f j
def rowJ (G : pG) : Nat := (G.2 + 3) / 4
/-- the answer, what is then, the rust -/
def spRow (T : aS) : Int32 × aS := if T.2.2.2.1.2 = 0 then spRef 6 T else spAcc (nI (rowSt T.2.2.2.1 T.1.1 (rowJ T.2.2.2.1)).2) (aCl (aEm (aTn (rowSt T.2.2.2.1 T.1.1 (rowJ T.2.2.2.1)).1 T)))
def rowRs (T : aS) (rs : Nat) : Nat := if T.2.2.2.1.2 = 0 then rs else rowJ T.2.2.2.1 - (rowSt T.2.2.2.1 T.1.1 (rowJ T.2.2.2.1)).2
theorem rowSt_le {G : pG} {f : Nat → Int32} : ∀ j, (rowSt G f j).2 ≤ j
  | 0 => Nat.le_refl _
  | j + 1 => by
    have := rowSt_le (G := G) (f := f) j
    rw [rowSt]
    split
    · dsimp only; omega
    · omega
section RW2
variable {Γ Γ' : kG} {Φ : kF} {S S' : hS} {x a b b' c n i i' rs rs' o j d : Nat} {ρ ρ' ρg β ρa ρd : Nat → Nat} {A : List Nat} {T : aS} {t : sW} {tx : Nat → Nat}
theorem lwsS.gk {L : Nat → List pCl} {n : Int} (h : lwsS Γ S ρ L n) (hg : ∀ a τ, τ.1 ≠ 11 → Γ a = some τ → Γ' a = some τ) : lwsS Γ' S ρ L n := fun j hj => by
  obtain ⟨d, c, m, ρd, e1, e2, e3⟩ := h j hj
  exact ⟨d, c, m, ρd, e1, hg _ _ (show (10 : Nat) ≠ 11 by decide) e2, e3⟩
theorem subR.gk (h : subR Γ S b i ρ t) (hg : ∀ a τ, τ.1 ≠ 11 → Γ a = some τ → Γ' a = some τ) : subR Γ' S b i ρ t := by
  obtain ⟨h1, h2, h3, h4, h5⟩ := h
  exact ⟨hg _ _ (show (8 : Nat) ≠ 11 by decide) h1, h2, h3, h4.gk hg, h5⟩
/-- another kind for the object itself -/
theorem CR.gk (h : CR Γ S x ρ rs T) (hg : ∀ a τ, τ.1 ≠ 11 → Γ a = some τ → Γ' a = some τ) (hx' : Γ' x = some (11, 11, 0, rs', ρ)) : CR Γ' S x ρ rs' T := by
  obtain ⟨hx, h1, h2, h3, h4, h5, h6, h7, h8⟩ := h
  refine ⟨hx', h1.gk hg, fun k hk => ⟨(h2 k hk).1, fun t ht => ?_⟩, h3.gr hg, h4, h5, h6, h7, h8⟩
  obtain ⟨b, ρk, y1, y2⟩ := (h2 k hk).2 t ht
  exact ⟨b, ρk, y1, y2.gk hg⟩
theorem cx_let {q : Int32 → hS → Prop} {k : Nat} (h : CR Γ S x ρ rs T) (hs : St Γ Φ S) (hf : fre Γ Φ tnN) (hk : k < 404) (k0 : ¬ cmB (byG T.2.2.2.1) T.2.2.2.1.2 k (nPR T.1.1) = true → q 0 S) (k1 : cmB (byG T.2.2.2.1) T.2.2.2.1.2 k (nPR T.1.1) = true → ∀ S', St Γ Φ S' → sam Γ tnN S S' → CR Γ S' x ρ rs (aTn (psX T.1.1 (nPR T.1.1) (byG T.2.2.2.1 k) (byG T.2.2.2.1 (k + 1)) (10 * byG T.2.2.2.1 (k + 2) + byG T.2.2.2.1 (k + 3))) T) → q 1 S') : w_X11_let q S x (nI k) := by
  have t8 : (8 : Int32).toInt = 8 := by decide
  have t25 : (25 : Int32).toInt = 25 := by decide
  have t99 : (99 : Int32).toInt = 99 := by decide
  have t9 : (9 : Int32).toInt = 9 := by decide
  have t10 : (10 : Int32).toInt = 10 := by decide
  have t999 : (999 : Int32).toInt = 999 := by decide
  have hx := h.1
  have hb := h.2.1.1
  have t2 := h.2.1.2.1
  have b1 := rB_1 h.2.1.2.2.1
  have ht := (P_11_4 hs hx).2
  obtain ⟨g1, g2, g3, g4⟩ := h.2.2.2.2.1
  rw [cmB_iff] at k0 k1
  obtain ⟨n, en⟩ : ∃ n, n = nPR T.1.1 := ⟨_, rfl⟩
  have e1 : (sV S (ρ 0) (bk 0 ρ) 1).toInt = n := by
    rw [t2, en]
    unfold nPR
    rw [iR_i]
    omega
  have ip : iR T.1.1 1 = n := by rw [← e1, t2]; rfl
  rw [← en] at k0
  rw [← en] at k1
  generalize T.2.2.2.1 = G at g1 g2 g3 g4 k0 k1
  unfold w_X11_let
  refine E_gP_11_4 hs hx (fun _ => T_gI_9_1 hs ht (fun x7 e7 _ => ?_))
  rw [e7, g1, show nI k + 4 = nI (k + 4) from nIadd k 4, show nI k + 1 = nI (k + 1) from nIadd k 1, show nI k + 2 = nI (k + 2) from nIadd k 2, show nI k + 3 = nI (k + 3) from nIadd k 3, nI_ltI (by omega) (by omega)]
  refine ⟨fun c => k0 (fun z => by have := z.1; omega), fun c => E_gP_11_0 hs hx (fun _ => V_gI_4 hs hb (fun r => ⟨fun c2 => ?_, fun c2 => k0 (fun z => c2 (by rw [Int32.lt_iff_toInt_lt, e1, t8]; have := z.2.2.2; omega))⟩))⟩
  rw [Int32.lt_iff_toInt_lt, e1, t8] at c2
  have rd : ∀ {P : Int32 → Prop} (d : Nat), d < 4 → ((0 ≤ (byG G (k + d)).toInt ∧ (byG G (k + d)).toInt ≤ 255) → P (byG G (k + d))) → aI S (bk 4 ρ 0) (nI (k + d)) P := by
    intro P d hd hP
    refine T_aI_22 hs (P_9_0 hs ht).2 (by rw [nI_toInt (by omega)]; omega) (fun x ex rx => ?_)
    rw [nI_clamp (by omega), g3 _ (by omega)] at ex
    subst ex
    have := g4 (k + d)
    refine hP ?_
    unfold byG
    rw [nI_toInt (by omega)]
    omega
  refine E_gP_11_4 hs hx (fun _ => E_gP_9_0 hs ht (fun _ => rd 0 (by omega) (fun r0 => E_gP_11_4 hs hx (fun _ => E_gP_9_0 hs ht (fun _ => rd 1 (by omega) (fun r1 => E_gP_11_4 hs hx (fun _ => E_gP_9_0 hs ht (fun _ => rd 2 (by omega) (fun r2 => E_gP_11_4 hs hx (fun _ => E_gP_9_0 hs ht (fun _ => rd 3 (by omega) (fun r3 y83 e83 => ?_))))))))))))
  have m1 : ((10 : Int32) * byG G (k + 2)).toInt = 10 * (byG G (k + 2)).toInt := by rw [fb_mulI (by rw [t10]; omega) (by rw [t10]; omega), t10]
  have m2 : y83.toInt = 10 * (byG G (k + 2)).toInt + (byG G (k + 3)).toInt := by rw [e83, fb_addI (by rw [m1]; omega) (by rw [m1]; omega), m1]
  have e0 : k + 0 = k := rfl
  rw [e0] at r0
  simp only [Int32.lt_iff_toInt_lt, Int32.le_iff_toInt_le, t25, t99, t9, t999, e0]
  have no : ¬ ((byG G k).toInt ≤ 24 ∧ (byG G (k + 1)).toInt ≤ 99 ∧ (byG G (k + 3)).toInt ≤ 9 ∧ y83.toInt ≤ 999) → q 0 S := fun hh => k0 (fun z => hh ⟨z.2.2.1.1.2, z.2.2.1.2.1.2, by have := z.2.1; rw [Int32.lt_iff_toInt_lt, t10] at this; omega, by rw [e83]; exact z.2.2.1.2.2.2⟩)
  refine ⟨fun d => no (fun z => by omega), fun d1 => ⟨fun d => no (fun z => by omega), fun d2 => ⟨fun d => no (fun z => by omega), fun d3 => ⟨fun d4 => E_gP_11_0 hs hx (fun _ => T_oK_8 hs hb (cx_addPerson h hs hf (by omega) ⟨⟨by omega, by omega⟩, ⟨by omega, by omega⟩, ⟨by omega, by omega⟩⟩ (fun S1 h1 m1' c1 => k1 ⟨by omega, by rw [Int32.lt_iff_toInt_lt, t10]; omega, ⟨⟨r0.1, by omega⟩, ⟨r1.1, by omega⟩, by rw [← e83]; omega, by rw [← e83]; omega⟩, by omega⟩ S1 h1 m1' ?_))), fun d => no (fun z => d z.2.2.2)⟩⟩⟩⟩
  rw [← e83, en]
  exact c1
theorem cx_row {q : Int32 → hS → Prop} (h : CR Γ S x ρ rs T) (hs : St Γ Φ S) (hf : fre Γ Φ ([11, 1216, 3, 9] ++ tnN)) (k : ∀ Γ' S', (∀ a τ, Γ' a = some τ → (∃ τ', Γ a = some τ') ∨ Φ a = none) → St Γ' Φ S' → CR Γ' S' x ρ (rowRs T rs) (spRow T).2 → q (spRow T).1 S') : w_X11_row q S x := by
  have hx := h.1
  have ht := (P_11_4 hs hx).2
  obtain ⟨g1, g2, g3, g4⟩ := h.2.2.2.2.1
  have idO : ∀ a τ, Γ a = some τ → (∃ τ', Γ a = some τ') ∨ Φ a = none := fun _ τ h => Or.inl ⟨τ, h⟩
  have frf : fre Γ Φ [11, 1216] := hf.sub (by decide)
  unfold w_X11_row
  refine E_gP_11_4 hs hx (fun _ => T_gI_9_1 hs ht (fun x4 e4 _ => ?_))
  rw [g1] at e4
  subst e4
  have z0 : nI T.2.2.2.1.2 = 0 ↔ T.2.2.2.1.2 = 0 := by rw [show (0 : Int32) = nI 0 from rfl, nI_eq (by omega) (by omega)]
  rw [z0]
  refine ⟨fun c => ?_, fun c => ?_⟩
  rotate_left
  · have e0 : spRow T = spRef 6 T := if_pos c
    have er : rowRs T rs = rs := if_pos c
    rw [e0, er] at k
    exact T_oK_11 hs hx (cx_refuse h hs frf (n := 6) rfl (by omega) (fun S' s' _ c' => k Γ S' idO s' c'))
  have e0 : spRow T = spAcc (nI (rowSt T.2.2.2.1 T.1.1 (rowJ T.2.2.2.1)).2) (aCl (aEm (aTn (rowSt T.2.2.2.1 T.1.1 (rowJ T.2.2.2.1)).1 T))) := if_neg c
  have er : rowRs T rs = rowJ T.2.2.2.1 - (rowSt T.2.2.2.1 T.1.1 (rowJ T.2.2.2.1)).2 := if_neg c
  rw [e0, er] at k
  have loop : ∀ t j S1, j + t = rowJ T.2.2.2.1 → St Γ Φ S1 → CR Γ S1 x ρ rs (aTn (rowSt T.2.2.2.1 T.1.1 j).1 T) → w_X11_row_b23 q (t + 1) S1 x (nI (rowSt T.2.2.2.1 T.1.1 j).2) (nI (j - (rowSt T.2.2.2.1 T.1.1 j).2)) (nI (4 * j)) := by
    intro t
    induction t with
    | zero =>
      intro j S1 hj s1 c1
      have jl : j ≤ 101 := by unfold rowJ at hj; omega
      have rl := rowSt_le (G := T.2.2.2.1) (f := T.1.1) j
      have g1' := c1.2.2.2.2.1.1
      unfold w_X11_row_b23
      refine E_gP_11_4 s1 hx (fun _ => T_gI_9_1 s1 ht (fun x28 e28 _ => ?_))
      rw [show fI S1 (ρ 4) 1 = nI T.2.2.2.1.2 from g1'] at e28
      subst e28
      rw [nI_leI (by omega) (by omega)]
      refine ⟨fun _ => E_gP_11_4 s1 hx (fun _ => cx_em c1 s1 (hf.sub (by decide)) (fun S2 s2 m2 c2 => ?_)), fun z => absurd (by unfold rowJ at hj; omega) z⟩
      refine R_pI_11_15 (frz_St (L := [11]) s2) (frz_fre (hf.sub (by decide)) (fun _ y => y)) (L := [11]) hx (by simp) (rs' := j - (rowSt T.2.2.2.1 T.1.1 j).2) rfl (fun S3 s3' q3 a3 => ?_)
      obtain ⟨s3, m3⟩ := frz_un s2 s3'
      obtain ⟨-, y1, y2, y3, y4, y5, y6, y7, y8⟩ := c2
      have c3 : CR Γ S3 x ρ rs (aEm (aTn (rowSt T.2.2.2.1 T.1.1 j).1 T)) := ⟨hx, y1.sm s2 gro_rf m3 (by decide), y2.sm s2 hx gro_rf m3 (by decide), y3.sg s2 (P_11_3 s2 hx).2 gro_rf m3 (by decide), y4.sm s2 (P_11_4 s2 hx).2 m3 (by decide), fun k' hk' => by
        rw [q3.I (fun z => by
          have := z.2
          unfold scK at this
          repeat' (split at this)
          all_goals omega)]
        exact y5 k' hk', y6.sm s2 hx m3 (by decide), y7.sm s2 hx m3 (by decide), y8⟩
      have hx3 : kset Γ x (11, 11, 0, j - (rowSt T.2.2.2.1 T.1.1 j).2, ρ) x = some (11, 11, 0, j - (rowSt T.2.2.2.1 T.1.1 j).2, ρ) := kset_in
      have c3' := c3.gk (Γ' := kset Γ x (11, 11, 0, j - (rowSt T.2.2.2.1 T.1.1 j).2, ρ)) (fun a τ ht' ha => by
        unfold kset
        rw [if_neg (fun z => by rw [z, hx] at ha; cases ha; exact ht' rfl)]
        exact ha) hx3
      have hf3 := R_fre (rs' := j - (rowSt T.2.2.2.1 T.1.1 j).2) hx hf
      refine E_gP_11_3 s3 hx3 (fun kl => T_oK_3 s3 kl (cx_clear c3' s3 (hf3.sub (by decide)) (fun S4 s4 m4 c4 => T_oK_11 s4 hx3 (cx_accept c4 s4 (hf3.sub (by decide)) (fun S5 s5 _ c5 => ?_)))))
      have ej : j = rowJ T.2.2.2.1 := by omega
      rw [ej] at s5 c5 ⊢
      refine k _ S5 (fun a τ ha => ?_) s5 c5
      unfold kset at ha
      split at ha
      · rename_i e
        rw [e]
        exact Or.inl ⟨_, hx⟩
      · exact Or.inl ⟨τ, ha⟩
    | succ t ih =>
      intro j S1 hj s1 c1
      have jl : j ≤ 100 := by unfold rowJ at hj; omega
      have rl := rowSt_le (G := T.2.2.2.1) (f := T.1.1) j
      have g1' := c1.2.2.2.2.1.1
      unfold w_X11_row_b23
      refine E_gP_11_4 s1 hx (fun _ => T_gI_9_1 s1 ht (fun x28 e28 _ => ?_))
      rw [show fI S1 (ρ 4) 1 = nI T.2.2.2.1.2 from g1'] at e28
      subst e28
      rw [nI_leI (by omega) (by omega)]
      refine ⟨fun z => absurd z (by unfold rowJ at hj; omega), fun _ => T_oK_11 s1 hx (cx_let c1 s1 (hf.sub (by decide)) (k := 4 * j) (by omega) (fun nc => ⟨fun _ y ey => ?_, fun z => absurd rfl z⟩) (fun hat S2 s2 m2 c2 => ⟨fun z => absurd z (by decide), fun _ y ey => ?_⟩))⟩
      · have es : rowSt T.2.2.2.1 T.1.1 (j + 1) = rowSt T.2.2.2.1 T.1.1 j := if_neg nc
        have := ih (j + 1) S1 (by omega) s1 (by rw [es]; exact c1)
        rw [es, show j + 1 - (rowSt T.2.2.2.1 T.1.1 j).2 = j - (rowSt T.2.2.2.1 T.1.1 j).2 + 1 by omega] at this
        unfold w_X11_row_b51
        intro y2 ey2
        rw [ey2, ey, nI_1, show nI (4 * j) + 4 = nI (4 * (j + 1)) from nIadd (4 * j) 4]
        exact this
      · have es : rowSt T.2.2.2.1 T.1.1 (j + 1) = (psX (rowSt T.2.2.2.1 T.1.1 j).1 (nPR (rowSt T.2.2.2.1 T.1.1 j).1) (byG T.2.2.2.1 (4 * j)) (byG T.2.2.2.1 (4 * j + 1)) (10 * byG T.2.2.2.1 (4 * j + 2) + byG T.2.2.2.1 (4 * j + 3)), (rowSt T.2.2.2.1 T.1.1 j).2 + 1) := if_pos hat
        have := ih (j + 1) S2 (by omega) s2 (by rw [es]; exact c2)
        rw [es, show j + 1 - ((rowSt T.2.2.2.1 T.1.1 j).2 + 1) = j - (rowSt T.2.2.2.1 T.1.1 j).2 by omega] at this
        unfold w_X11_row_b51
        intro y2 ey2
        rw [ey2, ey, nI_1, show nI (4 * j) + 4 = nI (4 * (j + 1)) from nIadd (4 * j) 4]
        exact this
  exact ⟨rowJ T.2.2.2.1 + 1, loop (rowJ T.2.2.2.1) 0 S (by omega) hs h⟩
end RW2
