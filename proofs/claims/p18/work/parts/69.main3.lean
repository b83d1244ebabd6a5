/-! LAYER 2, the class: its own methods, rows and images -/
section MAIN3
variable {Γ : kG} {Φ : kF} {S : hS} {a b c n o i i' : Nat} {ρ ρ' ρa : Nat → Nat} {rs : Nat} {tx : Nat → Nat} {L : List Nat}
theorem sV_px {S' : hS} {k : Nat} (hc : c ≠ b) (hc0 : c ≠ ρ 0) (e1 : sEqx S S' c k) (e3 : aEq S S') : sV S' b ρ = sV S b ρ :=
  sV_congr (fun j => e1.I (fun z => hc z.1.symm)) (fun j => e1.I (fun z => hc0 z.1.symm)) (e3.1 _) (e3.1 _) (e3.1 _) (e3.1 _) (e3.1 _) (e3.1 _) (e3.1 _) (e3.1 _) (e3.1 _) (e3.1 _) (e3.1 _) (e3.1 _)
theorem kx_X11_row {q : Int32 → hS → Prop} {m : Nat} (h : St Γ Φ S) (hf : fre Γ Φ [11, 1216, 3, 9, 8, 2, 300, 301, 303, 905, 906, 907, 908]) (ha : Γ a = some (11, 11, 0, rs, ρ)) (hn : n ≤ 8) (en : sV S (ρ 0) (bk 0 ρ) 1 = nI n) (hm : m ≤ 400) (em : fI S (ρ 4) 1 = nI m) (k6 : m = 0 → ∀ S', St Γ Φ S' → sam Γ [11, 1216] S S' → q (-6) S') (k : ¬ m = 0 → ∀ J, J = (m + 3) / 4 → ∀ S', St (kset Γ a (11, 11, 0, J - (cmN (aV S (bk 4 ρ 0)) m n J - n), ρ)) Φ S' → fI S' (ρ 4) 1 = 0 → (∀ j, rTk j → sV S' (ρ 0) (bk 0 ρ) j = cmR (sV S (ρ 0) (bk 0 ρ)) n (cmN (aV S (bk 4 ρ 0)) m n J) j) → q (nI (cmN (aV S (bk 4 ρ 0)) m n J - n)) S') : w_X11_row q S a := by
  have ht := (P_11_4 h ha).2
  have hb := (P_11_0 h ha).2
  have hby := (P_9_0 h ht).2
  unfold w_X11_row
  refine E_gP_11_4 h ha (fun _ => T_gI_9_1 h ht (fun x4 e4 _ => ?_))
  rw [e4, em]
  refine ⟨fun c => ?_, fun c => T_oK_11 h ha (kx_refuse h (hf.sub (by simp)) ha (fun S' h' hs => k6 (nI_inj (b := 0) (by omega) (by omega) c) S' h' hs))⟩
  have hm0 : ¬ m = 0 := fun e => c (by rw [e]; rfl)
  generalize ef : aV S (bk 4 ρ 0) = f at k
  generalize eu : sV S (ρ 0) (bk 0 ρ) = u at k en
  refine (fun z : (∃ t, w_X11_row_b23 q t S a (nI (cmN f m n 0 - n)) (nI (0 - (cmN f m n 0 - n))) (nI (4 * 0))) => ?_) (loop_m (σ := hS × Nat) (fun t s => w_X11_row_b23 q t s.1 a (nI (cmN f m n s.2 - n)) (nI (s.2 - (cmN f m n s.2 - n))) (nI (4 * s.2))) (fun s => St Γ Φ s.1 ∧ 4 * s.2 ≤ m + 3 ∧ fI s.1 (ρ 4) 1 = nI m ∧ aV s.1 (bk 4 ρ 0) = f ∧ ∀ j, rTk j → sV s.1 (ρ 0) (bk 0 ρ) j = cmR u n (cmN f m n s.2) j) (fun s => m + 4 - 4 * s.2) ?_ (S, 0) ⟨h, by dsimp only; omega, em, ef, fun j _ => ?_⟩)
  · rw [show cmN f m n 0 = n from rfl, Nat.sub_self] at z
    exact z
  rotate_left
  · dsimp only
    rw [show cmN f m n 0 = n from rfl, cmR_0 en, eu]
  rintro t ⟨S1, j⟩ ⟨h1, hj, em1, ef1, ev⟩ ih
  dsimp only at h1 hj em1 ef1 ev ih ⊢
  have hc := cmN_le (f := f) (m := m) hn j
  have e1 : sV S1 (ρ 0) (bk 0 ρ) 1 = nI (cmN f m n j) := by
    rw [ev 1 (Or.inl (by omega))]
    unfold cmR
    rw [if_pos rfl]
  rw [w_X11_row_b23]
  refine E_gP_11_4 h1 ha (fun _ => T_gI_9_1 h1 ht (fun x28 e28 _ => ?_))
  rw [e28, em1, nI_leI (by omega) (by omega)]
  refine ⟨fun c => ?_, fun c => T_oK_11 h1 ha (kx_X11_let (frz_St (L := [8, 2, 300, 301, 303, 905, 906, 907, 908]) h1) (frz_fre (hf.sub (by simp)) (fun _ x => x)) ha (k := 4 * j) (by omega) hm em1 (by omega) e1 (fun nc => ⟨fun _ y ey => ?_, fun z => absurd rfl z⟩) (fun hat S2 h2 v2 => ⟨fun z => absurd z (by decide), fun _ y ey => ?_⟩))⟩
  · -- the tape's end
    refine E_gP_11_4 h1 ha (fun _ => T_pI_9_1 h1 hf ht (by simp) (by decide) (fun S2 h2 i2 q2 a2 => R_pI_11_15 h2 hf ha (by simp) rfl (fun S3 h3 q3 a3 => ?_)))
    have ha3 : kset Γ a (11, 11, 0, j - (cmN f m n j - n), ρ) a = some (11, 11, 0, j - (cmN f m n j - n), ρ) := kset_in
    have hf3 := R_fre (rs' := j - (cmN f m n j - n)) ha hf
    have hb3 := (P_11_0 h3 ha3).2
    have ht3 := (P_11_4 h3 ha3).2
    refine E_gP_11_3 h3 ha3 (fun kl => T_oK_3 h3 kl (kx_clear h3 (hf3.sub (by simp)) kl (fun S4 h4 s4 => T_oK_11 h4 ha3 (kx_accept h4 (hf3.sub (by simp)) ha3 (fun S5 h5 s5 => ?_)))))
    refine k hm0 j (by omega) S5 h5 ?_ (fun i hi => ?_)
    · rw [fI_cell (s5.at h4 ht3 (by simp)), fI_cell (s4.at h3 ht3 (by simp)), q3.I (by omega), i2]
    · rw [sV_sam h4 hb3 s5 (by simp), sV_sam h3 hb3 s4 (by simp), sV_px (nmne ha hb (by dsimp only; omega)) (nmne ha (P_8_0 h hb).2 (by dsimp only; omega)) q3 a3, sV_px (nmne ht hb (by dsimp only; omega)) (nmne ht (P_8_0 h hb).2 (by dsimp only; omega)) q2 a2]
      exact ev i hi
  · -- one who doesn't come
    rw [ef1] at nc
    unfold w_X11_row_b51
    intro y2 ey2
    rw [ey2, ey, nI_1, show nI (4 * j) + 4 = nI (4 * (j + 1)) from nIadd (4 * j) 4]
    have := ih (S1, j + 1) ⟨h1, by dsimp only; omega, em1, ef1, by dsimp only; rw [cmN_n nc]; exact ev⟩ (by dsimp only; omega)
    dsimp only at this
    rw [cmN_n nc, show j + 1 - (cmN f m n j - n) = j - (cmN f m n j - n) + 1 by omega] at this
    exact this
  · obtain ⟨h2, s2⟩ := frz_un h1 h2
    rw [ef1] at hat v2
    unfold w_X11_row_b51
    intro y2 ey2
    rw [ey2, ey, nI_1, show nI (4 * j) + 4 = nI (4 * (j + 1)) from nIadd (4 * j) 4]
    have := ih (S2, j + 1) ⟨h2, by dsimp only; omega, (fI_cell (s2.at h1 ht (by simp)) 1).trans em1, (funext fun i => aV_cell (s2.at h1 hby (by simp)) i).trans ef1, fun i hi => ?_⟩ (by dsimp only; omega)
    · dsimp only at this
      rw [cmN_y hat, show cmN f m n j + 1 - n = cmN f m n j - n + 1 by omega, show j + 1 - (cmN f m n j - n + 1) = j - (cmN f m n j - n) by omega] at this
      exact this
    · dsimp only
      rw [cmN_y hat, v2 i (by unfold rTk at hi; omega), ← cmR_s (by omega)]
      have h8 := hat.2.2.2
      unfold psR upd
      by_cases d1 : i = 1
      · rw [if_pos d1, if_pos d1]
      · rw [if_neg d1, if_neg d1]
        by_cases d2 : i = 162 + cmN f m n j
        · rw [if_pos d2, if_neg (by omega), if_neg (by omega), if_neg (by omega), if_pos d2]
        · unfold rTk at hi
          rw [if_neg d2, if_neg (by omega), if_neg (by omega), if_neg (by omega), if_neg d2, if_neg (by omega), if_neg (by omega)]
          exact ev i hi
theorem kx_no {q : Int32 → hS → Prop} {v : Int32} (h : St Γ Φ S) (hf : fre Γ Φ [11, 1216]) (ha : Γ a = some (11, 11, 0, rs, ρ)) {P : hS → Prop} (hv : ¬ (0 ≤ v.toInt ∧ v.toInt ≤ 1)) (k1 : ∀ S', St Γ Φ S' → sam Γ [11, 1216] S S' → q (-1) S') : w_X11_isWithin (fun x2 S => (¬ x2 = 0 → P S) ∧ (x2 = 0 → oK S a 11 ∧ w_X11_refuse (fun x10 S => q x10 S) S a (-1))) S v 1 := by
  have t1 : (1 : Int32).toInt = 1 := by decide
  exact kx_isWithin (fun _ => ⟨fun z => absurd rfl z, fun _ => T_oK_11 h ha (kx_refuse h hf ha k1)⟩) (fun y => absurd (by rw [t1] at y; exact y) hv)
theorem kx_yes {q : Int32 → hS → Prop} {j : Nat} (hj : j ≤ 1) {P : hS → Prop} {T : hS → Prop} (k : P S) : w_X11_isWithin (fun x2 S => (¬ x2 = 0 → P S) ∧ (x2 = 0 → T S)) S (nI j) 1 := by
  have t1 : (1 : Int32).toInt = 1 := by decide
  exact kx_isWithin (fun n => absurd (by rw [t1, nI_toInt (by omega)]; omega) n) (fun _ => ⟨fun _ => k, fun z => absurd z (by decide)⟩)
theorem kx_X11_back {q : Int32 → hS → Prop} {j : Nat} (hj : j ≤ 1) (h : St Γ Φ S) (hf : fre Γ Φ [11, 1216, 3, 2 + 10000 * 0, 300 + 10000 * 0, 301 + 10000 * 0, 302 + 10000 * 0, 303 + 10000 * 0, 8 + 10000 * 0, 902 + 10000 * 0, 903 + 10000 * 0, 905 + 10000 * 0, 906 + 10000 * 0, 907 + 10000 * 0, 908 + 10000 * 0, 910 + 10000 * 0, 911 + 10000 * 0, 915 + 10000 * 0]) (ha : Γ a = some (11, 11, 0, rs, ρ)) (k2 : aO S (ρ 2) j = none → ∀ S', St Γ Φ S' → sam Γ [11, 1216] S S' → q (-2) S') (k : ∀ d ρd, aO S (ρ 2) j = some d → Γ d = some (8, 8 + 10000 * (2 + j), 2 + j, 0, ρd) → ∀ S', St Γ Φ S' → sV S' (ρ 0) (bk 0 ρ) = sV S d ρd → q 0 S') : w_X11_back q S a (nI j) := by
  have hb := (P_11_0 h ha).2
  unfold w_X11_back
  refine kx_yes (q := q) hj (E_gP_11_2 h ha (fun hk => T_aR_26 h hk (by rw [nI_toInt (by omega)]; omega) (fun x ex hx => ⟨fun e => T_oK_11 h ha (kx_refuse h (hf.sub (by simp)) ha (k2 (by rw [nI_clamp (by omega)] at ex; exact ex.symm.trans e))), fun d hd => ?_⟩)))
  obtain ⟨ρd, kd⟩ := hx d hd
  rw [nI_clamp (by omega)] at ex kd
  refine E_gP_11_0 h ha (fun _ => T_oK_8 h hb (kx_X8_copyFrom h hb kd (by omega) (hf.sub (by simp)) (fun S1 h1 v1 _ => E_gP_11_3 h1 ha (fun kl => T_oK_3 h1 kl (kx_clear h1 (hf.sub (by simp)) kl (fun S2 h2 s2 => T_oK_11 h2 ha (kx_accept h2 (hf.sub (by simp)) ha (fun S3 h3 s3 => k d ρd (ex.symm.trans hd) kd S3 h3 ?_))))))))
  rw [sV_sam h2 hb s3 (by simp), sV_sam h1 hb s2 (by simp), v1]
theorem kx_image36 {q : Int32 → hS → Prop} {j d : Nat} {ρd : Nat → Nat} (hj : j ≤ 1) (h : St Γ Φ S) (hf : fre Γ Φ [11, 2 + 10000 * (2 + j), 300 + 10000 * (2 + j), 301 + 10000 * (2 + j), 302 + 10000 * (2 + j), 303 + 10000 * (2 + j), 8 + 10000 * (2 + j), 902 + 10000 * (2 + j), 903 + 10000 * (2 + j), 905 + 10000 * (2 + j), 906 + 10000 * (2 + j), 907 + 10000 * (2 + j), 908 + 10000 * (2 + j), 910 + 10000 * (2 + j), 911 + 10000 * (2 + j), 915 + 10000 * (2 + j)]) (ha : Γ a = some (11, 11, 0, rs, ρ)) (hd : aO S (ρ 2) j = some d) (kd : Γ d = some (8, 8 + 10000 * (2 + j), 2 + j, 0, ρd)) (k : ∀ S', St Γ Φ S' → sV S' d ρd = sV S (ρ 0) (bk 0 ρ) → q 0 S') : w_X11_image_b36 q S a (nI j) := by
  have hb := (P_11_0 h ha).2
  unfold w_X11_image_b36
  refine E_gP_11_2 h ha (fun hk => T_aR_26 h hk (by rw [nI_toInt (by omega)]; omega) (fun x ex hx => E_gP_11_0 h ha (fun _ => ?_)))
  rw [nI_clamp (by omega), hd] at ex
  subst ex
  refine dQ_s (T_oK_8 h kd (kx_X8_copyFrom h kd hb (by omega) (hf.sub (by simp)) (fun S1 h1 v1 _ => T_oK_11 h1 ha (kx_accept h1 (hf.sub (by simp)) ha (fun S2 h2 s2 => k S2 h2 ?_)))))
  rw [sV_sam h1 kd s2 (by simp; omega), v1]
theorem kx_X11_image {q : Int32 → hS → Prop} {j : Nat} (hj : j ≤ 1) (h : St Γ Φ S) (hf : fre Γ Φ [11, 1216, 1202, 2 + 10000 * (2 + j), 300 + 10000 * (2 + j), 301 + 10000 * (2 + j), 302 + 10000 * (2 + j), 303 + 10000 * (2 + j), 8 + 10000 * (2 + j), 902 + 10000 * (2 + j), 903 + 10000 * (2 + j), 905 + 10000 * (2 + j), 906 + 10000 * (2 + j), 907 + 10000 * (2 + j), 908 + 10000 * (2 + j), 910 + 10000 * (2 + j), 911 + 10000 * (2 + j), 915 + 10000 * (2 + j)]) (ha : Γ a = some (11, 11, 0, rs, ρ)) (k : ∀ Γ' S' d ρd, gro Γ Φ Γ' → St Γ' Φ S' → Γ' d = some (8, 8 + 10000 * (2 + j), 2 + j, 0, ρd) → aO S' (ρ 2) j = some d → (∀ t, t ≠ j → aO S' (ρ 2) t = aO S (ρ 2) t) → sV S' d ρd = sV S (ρ 0) (bk 0 ρ) → q 0 S') : w_X11_image q S a (nI j) := by
  have hb := (P_11_0 h ha).2
  have hk2 := (P_11_2 h ha).2
  unfold w_X11_image
  refine kx_yes (q := q) hj (E_gP_11_2 h ha (fun hk => T_aR_26 h hk (by rw [nI_toInt (by omega)]; omega) (fun x ex hx => ⟨fun e => E_gP_11_2 h ha (fun _ => St_nO (frz_St (L := []) h) (fun d S1 hN _ => ki_X8 (2 + j) hN (fun Γ2 S2 ρd g2 t2 h2 _ => ?_))), fun d hd => ?_⟩)))
  · have g2' := frz_gro h g2
    obtain ⟨h2, s2⟩ := frz_un h h2
    refine T_stR_26 h2 (hf.gr g2') (g2'.1 _ _ hk2) (by simp) (by rw [nI_toInt (by omega)]; omega) (fun b hb => by cases hb; rw [nI_clamp (by omega)]; exact ⟨ρd, t2⟩) (fun S3 h3 q3 a3 o3 p3 => ?_)
    rw [nI_clamp (by omega)] at p3
    refine kx_image36 hj (frz_St h3) (frz_fre ((hf.gr g2').sub (by simp)) (fun _ x => x)) (g2'.1 _ _ ha) (by rw [p3, if_pos rfl]) t2 (fun S4 h4 v4 => ?_)
    obtain ⟨h4, s4⟩ := frz_un h3 h4
    have c4 := s4.at h3 (g2'.1 _ _ hk2) (by simp; omega)
    refine k Γ2 S4 d ρd g2' h4 t2 ((aO_cell c4 j).trans ((p3 j).trans (if_pos rfl))) (fun t ht => (aO_cell c4 t).trans ((p3 t).trans ((if_neg ht).trans (aO_cell (s2.at h hk2 (by simp)) t)))) ?_
    rw [v4, ← sV_sam h hb s2 (by simp)]
    exact sV_congr (fun k => q3.I _ _) (fun k => q3.I _ _) (a3 _) (a3 _) (a3 _) (a3 _) (a3 _) (a3 _) (a3 _) (a3 _) (a3 _) (a3 _) (a3 _) (a3 _)
  · obtain ⟨ρd, kd⟩ := hx d hd
    rw [nI_clamp (by omega)] at ex kd
    refine kx_image36 hj (frz_St h) (frz_fre (hf.sub (by simp)) (fun _ x => x)) ha (ex.symm.trans hd) kd (fun S4 h4 v4 => ?_)
    obtain ⟨h4, s4⟩ := frz_un h h4
    have c4 := s4.at h hk2 (by simp; omega)
    exact k Γ S4 d ρd gro_rf h4 kd ((aO_cell c4 j).trans (ex.symm.trans hd)) (fun t _ => aO_cell c4 t) v4
end MAIN3
