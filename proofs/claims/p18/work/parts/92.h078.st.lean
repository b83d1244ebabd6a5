/-! THE CLASS'S SETTERS AS CALLS -/
/-- the row with a person more, alive -/
def psX (f : Nat → Int32) (n : Nat) (p a m : Int32) : Nat → Int32 := fun i => if i = 22 + n then 0 else psR f n p a m i
theorem n1x (x : Int32) : x ^^^ (-1) = ~~~x := by
  apply Int32.toBitVec_inj.mp
  rw [Int32.toBitVec_xor, Int32.toBitVec_not]
  show x.toBitVec ^^^ BitVec.allOnes 32 = ~~~x.toBitVec
  exact BitVec.xor_allOnes
/-- nothing can be undone -/
def aCl (T : aS) : aS := (T.1, T.2.1, [], T.2.2.2)
def aTn (f : Nat → Int32) (T : aS) : aS := ((f, T.1.2), T.2)
abbrev inB (a : Int32) (lo hi : Int) : Prop := lo ≤ a.toInt ∧ a.toInt ≤ hi
def spHouse (a b : Int32) (T : aS) : Int32 × aS := if ¬ (inB a 0 24 ∧ inB b 0 99) then spRef 1 T else if iR T.1.1 0 < 6 then spAcc (nI (nHR T.1.1)) (aTn (hsR T.1.1 (nHR T.1.1) a b) (aCl T)) else spRef 5 T
def spPerson (a b c : Int32) (T : aS) : Int32 × aS := if ¬ (inB a 0 24 ∧ inB b 0 99 ∧ inB c 0 999) then spRef 1 T else if iR T.1.1 1 < 8 then spAcc (nI (nPR T.1.1)) (aTn (psX T.1.1 (nPR T.1.1) a b c) (aCl T)) else spRef 5 T
section ST
variable {Γ Γ' : kG} {Φ : kF} {S S' : hS} {x a b b' c n i i' rs o : Nat} {ρ ρ' ρg β ρa : Nat → Nat} {A : List Nat} {T : aS} {t : sW} {tx : Nat → Nat}
theorem kx_addPerson2 {q : Int32 → hS → Prop} {v w u : Int32} (h : St Γ Φ S) (hb : Γ b = some (8, 8 + 10000 * i, i, 0, ρ)) (hf : fre Γ Φ [8 + 10000 * i, 2 + 10000 * i, 905 + 10000 * i, 906 + 10000 * i, 907 + 10000 * i, 908 + 10000 * i, 300 + 10000 * i, 301 + 10000 * i, 303 + 10000 * i]) (k0 : ¬ (sV S b ρ 1).toInt < 8 → q (-1) S) (k : ∀ n S', n < 8 → sV S b ρ 1 = nI n → St Γ Φ S' → sV S' b ρ = psX (sV S b ρ) n v w u → q (nI n) S') : w_X8_addPerson q S b v w u := by
  have t8 : (8 : Int32).toInt = 8 := by decide
  unfold w_X8_addPerson
  refine V_gI_4 h hb (fun r0 => ⟨fun c => V_gI_4 h hb (fun _ => V_gI_4 h hb (fun _ => ?_)), fun c => k0 (fun z => c (by rw [Int32.lt_iff_toInt_lt, t8]; exact z))⟩)
  obtain ⟨n, hn, en⟩ := pIx 8 (by omega) r0.1 (by rw [Int32.lt_iff_toInt_lt, t8] at c; exact c)
  rw [en, nI_1]
  refine V_pI_4 h hb hf (by simp) (by rw [nI_toInt (by omega)]; omega) (fun S1 h1 v1 => E_gP_8_5 h1 hb (fun _ => V_sI_h h1 hb hf (by simp) (nI_toInt (by omega)) hn (fun S2 h2 v2 => E_gP_8_6 h2 hb (fun _ => V_sI_a h2 hb hf (by simp) (nI_toInt (by omega)) hn (fun S3 h3 v3 => E_gP_8_7 h3 hb (fun _ => V_sI_n h3 hb hf (by simp) (nI_toInt (by omega)) hn (fun S4 h4 v4 => E_gP_8_8 h4 hb (fun _ => V_sI_e h4 hb hf (by simp) (nI_toInt (by omega)) hn (fun S5 h5 v5 => E_gP_8_0 h5 hb (fun hg => E_gP_2_3 h5 hg (fun _ => V_sI_m h5 hb hf (by simp) (nI_toInt (by omega)) hn (fun S6 h6 v6 => E_gP_8_0 h6 hb (fun hg6 => T_gI_2_4 h6 hg6 (fun x75 e75 _ => V_pI_d h6 hb hf (by simp) (fun S7 h7 v7 _ => ?_)))))))))))))))
  have key := loop_m (σ := hS × Nat) (fun t s => w_X8_addPerson_b91 q t s.1 b (nI n) (nI s.2)) (fun s => St Γ Φ s.1 ∧ s.2 ≤ 6 ∧ sV s.1 b ρ = psL (sV S7 b ρ) n s.2) (fun s => 6 - s.2) ?_ (S7, 0) ⟨h7, Nat.zero_le _, ?_⟩
  · exact key
  · rintro t ⟨S8, m⟩ ⟨h8, hm, e⟩ ih
    dsimp only at h8 hm e ih ⊢
    rw [w_X8_addPerson_b91]
    refine ⟨fun c => ?_, fun c => E_gP_8_0 h8 hb (fun hg => E_gP_2_0 h8 hg (fun _ => ?_))⟩
    · have c := (nI_leI (a := 6) (b := m) (by omega) (by omega)).mp c
      have : m = 6 := by omega
      subst this
      refine k n S8 hn en h8 (funext fun j => ?_)
      by_cases hj : 22 ≤ j ∧ j < 30
      · have e22 : sV S7 b ρ j = if j = 22 + n then 0 else sV S b ρ j := by
          rw [v7]
          dsimp only
          rw [if_pos hj, n1x, dB_an hn (by omega), e75, sV_k (S := S6) (b := b) (ρ := ρ) (show j - 22 < 8 by omega), show 22 + (j - 22) = j by omega, v6, v5, v4, v3, v2, v1, upd_ne _ _ (by omega), upd_ne _ _ (by omega), upd_ne _ _ (by omega), upd_ne _ _ (by omega), upd_ne _ _ (by omega), upd_ne _ _ (by omega)]
          by_cases z : j = 22 + n
          · rw [if_pos z, if_pos (by omega)]
          · rw [if_neg z, if_neg (by omega)]
        rw [e]
        unfold psL psX psR
        rw [if_neg (by omega), e22]
        by_cases z : j = 22 + n
        · rw [if_pos z, if_pos z]
        · rw [if_neg z, if_neg z, if_neg (by omega), if_neg (by omega), if_neg (by omega), if_neg (by omega), if_neg (by omega), if_neg (by omega), if_neg (by omega)]
      unfold psX
      rw [if_neg (show ¬ j = 22 + n by omega)]
      rw [e, v7, v6, v5, v4, v3, v2, v1]
      unfold psL psR upd
      dsimp only
      by_cases d0 : j = 1
      · subst d0; rw [if_neg (by omega), if_neg (by omega), if_neg (by omega), if_neg (by omega), if_neg (by omega), if_neg (by omega), if_neg (by omega), if_pos rfl, if_pos rfl]
      · by_cases d1 : 30 ≤ j ∧ j < 126 ∧ ((j - 30) / 6) % 8 = n
        · rw [if_pos (by omega), if_neg d0, if_neg (by omega), if_neg (by omega), if_neg (by omega), if_neg (by omega), if_neg (by omega), if_pos d1]
        · rw [if_neg (by omega), if_neg hj]
          by_cases d2 : j = 14 + n
          · rw [if_pos d2, if_neg d0, if_neg (by omega), if_neg (by omega), if_neg (by omega), if_neg (by omega), if_pos d2]
          · rw [if_neg d2]
            by_cases d3 : j = 162 + n
            · rw [if_pos d3, if_neg d0, if_neg (by omega), if_neg (by omega), if_neg (by omega), if_pos d3]
            · rw [if_neg d3]
              by_cases d4 : j = 154 + n
              · rw [if_pos d4, if_neg d0, if_neg (by omega), if_neg (by omega), if_pos d4]
              · rw [if_neg d4]
                by_cases d5 : j = 146 + n
                · rw [if_pos d5, if_neg d0, if_neg (by omega), if_pos d5]
                · rw [if_neg d5]
                  by_cases d6 : j = 138 + n
                  · rw [if_pos d6, if_neg d0, if_pos d6]
                  · rw [if_neg d6, if_neg d0, if_neg d0, if_neg d6, if_neg d5, if_neg d4, if_neg d3, if_neg d2, if_neg d1]
    · have c : m < 6 := (nI_not_le (a := 6) (b := m) (by omega) (by omega)).mp c
      refine kx_slot (V_sI_r h8 hb hf (by simp) (nI_toInt (by omega)) (by omega) (fun S9 h9 v9 => E_gP_8_0 h9 hb (fun hg9 => E_gP_2_1 h9 hg9 (fun _ => kx_slot (V_sI_u h9 hb hf (by simp) (nI_toInt (by omega)) (by omega) (fun S10 h10 v10 y ey => ?_))))))
      rw [ey, nI_1]
      refine ih (S10, m + 1) ⟨h10, by dsimp only; omega, ?_⟩ (by dsimp only; omega)
      dsimp only
      rw [v10, v9, e]
      funext j
      unfold psL upd
      dsimp only
      by_cases d1 : j = 78 + (n * 6 + m)
      · rw [if_pos d1, if_pos (by omega)]
      · rw [if_neg d1]
        by_cases d2 : j = 30 + (n * 6 + m)
        · rw [if_pos d2, if_pos (by omega)]
        · rw [if_neg d2]
          by_cases d3 : 30 ≤ j ∧ j < 126 ∧ ((j - 30) / 6) % 8 = n ∧ j % 6 < m
          · rw [if_pos d3, if_pos (by omega)]
          · rw [if_neg d3, if_neg (by omega)]
  · dsimp only
    funext j
    unfold psL
    rw [if_neg (by omega)]
theorem cx_clear {q : hS → Prop} (h : CR Γ S x ρ rs T) (hs : St Γ Φ S) (hf : fre Γ Φ [3]) (k : ∀ S', St Γ Φ S' → sam Γ [3] S S' → CR Γ S' x ρ rs (aCl T) → q S') : w_X3_clear q S (ρ 3) := by
  obtain ⟨hx, h1, h2, h3, h4, h5, h6, h7, h8⟩ := h
  have k3 := (P_11_3 hs hx).2
  unfold w_X3_clear
  refine T_pI_3_3 (frz_St (L := [3]) hs) (frz_fre hf (fun _ x => x)) k3 (by simp) (fun S1 s1' i1 q1 a1 => ?_)
  obtain ⟨s1, m1⟩ := frz_un hs s1'
  obtain ⟨nx, y1, y2, y3, y4, y5⟩ := h3
  refine k S1 s1 m1 ⟨hx, h1.sm hs gro_rf m1 (by decide), h2.sm hs hx gro_rf m1 (by decide), ⟨nx, y1, Nat.zero_le _, by rw [q1.I (by omega)]; exact y3, i1, fun k hk => absurd hk (Nat.not_lt_zero _)⟩, h4.sm hs (P_11_4 hs hx).2 m1 (by decide), h5.sm hs hx m1 (by decide), h6.sm hs hx m1 (by decide), h7.sm hs hx m1 (by decide), h8.1, fun y hy => by cases hy⟩
/-- the town's row is another -/
theorem CR.tw {f : Nat → Int32} (h : CR Γ S x ρ rs T) (hs : St Γ Φ S) (hm : sam Γ A S S') (hA : ∀ n ∈ [11, 1216, 1210, 9, 1000, 915] ++ imN ++ lgNm, n ∉ A) (ev : sV S' (ρ 0) (bk 0 ρ) = f) (hB : rB f) (e3 : f 3 = T.1.1 3) : CR Γ S' x ρ rs (aTn f T) := by
  obtain ⟨hx, ⟨t1, t2, t3, t4, t5⟩, h2, h3, h4, h5, h6, h7, h8⟩ := h
  have e3' : iR f 3 = iR T.1.1 3 := iR_ge e3
  have tn : ∀ y ∈ txN, y ∉ A := fun y hy => hA y (by simp only [List.mem_append]; exact Or.inl (Or.inr (by unfold imN; simp only [List.mem_cons, List.mem_append]; exact Or.inr (Or.inr hy))))
  refine ⟨hx, ⟨t1, ev, hB, ?_, fun j hj => t5 j (by rw [← e3']; exact hj)⟩, h2.sm hs hx gro_rf hm (fun n hn => hA n (by simp only [List.mem_append]; exact Or.inl (Or.inr hn))), h3.sg hs (P_11_3 hs hx).2 gro_rf hm (fun n hn => hA n (by simp only [List.mem_append]; exact Or.inr hn)), h4.sm hs (P_11_4 hs hx).2 hm ⟨hA _ (by simp), hA _ (by simp)⟩, h5.sm hs hx hm (hA _ (by simp)), h6.sm hs hx hm (hA _ (by simp)), h7.sm hs hx hm (hA _ (by simp)), h8⟩
  show lwsS Γ S' (bk 0 ρ) T.1.2 (iR f 3)
  rw [e3']
  exact t4.sm hs t1 hm ⟨hA _ (by simp), tn _ (by simp [txN]), tn _ (by simp [txN]), tn _ (by simp [txN]), tn _ (by simp [txN]), tn _ (by simp [txN])⟩
theorem rB_house {f : Nat → Int32} {p r : Int32} (hB : rB f) (hn : iR f 0 < 6) (hp : inB p 0 24) (hr : inB r 0 99) : rB (hsR f (nHR f) p r) := by
  obtain ⟨h1, h2, h3, h4, h5, h6⟩ := id hB
  have b0 := rB_0 hB
  obtain ⟨n, en, hn6⟩ : ∃ n, n = nHR f ∧ n < 6 := ⟨_, rfl, by unfold nHR; omega⟩
  rw [← en]
  unfold inB at hp hr
  have at' : ∀ i, iR (hsR f n p r) i = if i = 0 then (n : Int) + 1 else if i = 126 + n then p.toInt else if i = 132 + n then r.toInt else if i = 8 + n then 0 else if 30 ≤ i ∧ i < 126 ∧ i % 6 = n then 0 else iR f i := by
    intro i
    unfold iR hsR
    repeat' split
    all_goals first | rfl | (rw [nI_toInt (by omega)]; omega) | exact z0I
  have hb : ∀ n, n < 6 → rHi (126 + n) = 24 ∧ rHi (132 + n) = 99 ∧ rHi (8 + n) = 99 ∧ rLo (126 + n) = 0 ∧ rLo (132 + n) = 0 ∧ rLo (8 + n) = 0 := by decide
  obtain ⟨b1, b2, b3, b4, b5, b6⟩ := hb n hn6
  refine ⟨fun j hj => ?_, ?_, fun k hk => ?_, fun q hq => ?_, fun j hj => ?_, fun q hq => ?_⟩
  · rw [at']
    have := h1 j hj
    split
    · rename_i e; rw [e, show rHi 0 = 6 by decide, show rLo 0 = 0 by decide]; omega
    split
    · rename_i e; rw [e, b1, b4]; exact hp
    split
    · rename_i e; rw [e, b2, b5]; exact hr
    split
    · rename_i e; rw [e, b3, b6]; omega
    split
    · rename_i e
      have lo : rLo j = 0 ∧ rHi j = 99 := by
        by_cases c : j < 78
        · exact hi_r ⟨e.1, c⟩
        · exact hi_u ⟨by omega, e.2.1⟩
      rw [lo.1, lo.2]; omega
    · exact this
  · rw [at', at', if_neg (by omega), if_neg (by omega), if_neg (by omega), if_neg (by omega), if_neg (by omega), if_neg (by omega), if_neg (by omega), if_neg (by omega), if_neg (by omega), if_neg (by omega)]; exact h2
  · rw [at', if_neg (by omega), if_neg (by omega), if_neg (by omega), if_neg (by omega), if_neg (by omega)]; exact h3 k hk
  · rw [at', if_neg (by omega), if_neg (by omega), if_neg (by omega), if_neg (by omega), if_neg (by omega)]; exact h4 q hq
  · have := h5 j hj
    have e1 : ∀ i, 30 ≤ i → i < 126 → iR (hsR f n p r) i = if i % 6 = n then 0 else iR f i := by
      intro i i1 i2
      rw [at', if_neg (by omega), if_neg (by omega), if_neg (by omega), if_neg (by omega)]
      by_cases c : i % 6 = n
      · rw [if_pos (by omega), if_pos c]
      · rw [if_neg (by omega), if_neg c]
    rw [e1 _ (by omega) (by omega), e1 _ (by omega) (by omega)]
    by_cases c : (30 + j) % 6 = n
    · rw [if_pos (by omega), if_pos c]; exact Int.le_refl _
    · rw [if_neg (by omega), if_neg c]; exact this
  · have : hsR f n p r (162 + q) = f (162 + q) := by
      unfold hsR
      rw [if_neg (by omega), if_neg (by omega), if_neg (by omega), if_neg (by omega), if_neg (by omega)]
    rw [this]
    exact h6 q hq
end ST
