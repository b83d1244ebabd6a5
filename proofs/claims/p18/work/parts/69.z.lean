/-! LAYER 2, the class: its own methods that change other things of a suburb, or the tape's length alone -/
/-- what is followed of two rows is the same -/
def eqT (f g : Nat → Int32) : Prop := ∀ j, rTk j → f j = g j
theorem eqT.rf {f : Nat → Int32} : eqT f f := fun _ _ => rfl
theorem eqT.of {f g : Nat → Int32} (e : f = g) : eqT f g := fun j _ => by rw [e]
theorem eqT.tr {f g h : Nat → Int32} (e : eqT f g) (e' : eqT g h) : eqT f h := fun j hj => (e j hj).trans (e' j hj)
theorem eqT.up {f g : Nat → Int32} {i : Nat} {x : Int32} (e : f = upd g i x) (hi : ¬ rTk i) : eqT f g := fun j hj => by
  rw [e]
  unfold upd
  rw [if_neg (by rintro rfl; exact hi hj)]
section MAIN4
variable {Γ : kG} {Φ : kF} {S : hS} {a b c n o i i' : Nat} {ρ ρ' ρa ρg : Nat → Nat} {rs : Nat} {tx : Nat → Nat} {L : List Nat}
theorem kt_X11_terms {q : Int32 → hS → Prop} {v w : Int32} (h : St Γ Φ S) (hf : fre Γ Φ [11, 1216, 2, 8, 3]) (ha : Γ a = some (11, 11, 0, rs, ρ)) (k : ∀ r S', St Γ Φ S' → eqT (sV S' (ρ 0) (bk 0 ρ)) (sV S (ρ 0) (bk 0 ρ)) → q r S') : w_X11_terms q S a v w := by
  have hb := (P_11_0 h ha).2
  have b105 : w_X11_terms_b105 q S a := T_oK_11 h ha (kx_refuse h (hf.sub (by simp)) ha (fun S' h' hs => k _ S' h' (eqT.of (sV_sam h hb hs (by simp)))))
  have b111 : ∀ S1 x, St Γ Φ S1 → eqT (sV S1 (ρ 0) (bk 0 ρ)) (sV S (ρ 0) (bk 0 ρ)) → w_X11_terms_b111 q S1 a x := by
    intro S1 x h1 e1
    unfold w_X11_terms_b111
    exact E_gP_11_3 h1 ha (fun kl => T_oK_3 h1 kl (kx_clear h1 (hf.sub (by simp)) kl (fun S2 h2 s2 => T_oK_11 h2 ha (kx_accept h2 (hf.sub (by simp)) ha (fun S3 h3 s3 => k _ S3 h3 ((eqT.of (sV_sam h2 hb s3 (by simp))).tr ((eqT.of (sV_sam h1 hb s2 (by simp))).tr e1)))))))
  have b72 : w_X11_terms_b72 q S a v w := by
    unfold w_X11_terms_b72
    exact ⟨fun _ => b105, fun _ => kx_isWithin (fun _ => ⟨fun _ => b105, fun z => absurd rfl z⟩) (fun _ => ⟨fun z => absurd z (by decide), fun _ => E_gP_11_0 h ha (fun _ => V_gI_13 h hb (E_gP_11_0 h ha (fun _ => V_pI_13 h hb hf (by simp) (fun S1 h1 v1 => b111 S1 _ h1 (eqT.up v1 (by unfold rTk; omega))))))⟩)⟩
  have b39 : w_X11_terms_b39 q S a v w := by
    unfold w_X11_terms_b39
    exact ⟨fun _ => b72, fun _ => kx_isWithin (fun _ => ⟨fun _ => b72, fun z => absurd rfl z⟩) (fun _ => ⟨fun z => absurd z (by decide), fun _ => E_gP_11_0 h ha (fun _ => V_gI_12 h hb (E_gP_11_0 h ha (fun _ => V_pI_12 h hb hf (by simp) (fun S1 h1 v1 => b111 S1 _ h1 (eqT.up v1 (by unfold rTk; omega))))))⟩)⟩
  unfold w_X11_terms
  exact ⟨fun _ => b39, fun _ => kx_isWithin (fun _ => ⟨fun _ => b39, fun z => absurd rfl z⟩) (fun _ => ⟨fun z => absurd z (by decide), fun _ => E_gP_11_0 h ha (fun _ => E_gP_8_0 h hb (fun _ => V_gI_y h hb (E_gP_11_0 h ha (fun _ => E_gP_8_0 h hb (fun _ => V_pI_y h hb hf (by simp) (fun S1 h1 v1 => b111 S1 _ h1 (eqT.up v1 (by unfold rTk; omega))))))))⟩)⟩
theorem kt_X11_force {q : Int32 → hS → Prop} {v : Int32} (h : St Γ Φ S) (hf : fre Γ Φ [11, 1216, 8]) (ha : Γ a = some (11, 11, 0, rs, ρ)) (k : ∀ r S', St Γ Φ S' → eqT (sV S' (ρ 0) (bk 0 ρ)) (sV S (ρ 0) (bk 0 ρ)) → q r S') : w_X11_force q S a v := by
  have hb := (P_11_0 h ha).2
  have b20 : w_X11_force_b20 q S a := T_oK_11 h ha (kx_refuse h (hf.sub (by simp)) ha (fun S' h' hs => k _ S' h' (eqT.of (sV_sam h hb hs (by simp)))))
  have b27 : w_X11_force_b27 q S a v := by
    unfold w_X11_force_b27
    exact E_gP_11_0 h ha (fun _ => V_gI_16 h hb (E_gP_11_0 h ha (fun _ => V_pI_16 h hb hf (by simp) (fun S1 h1 v1 => T_oK_11 h1 ha (kx_accept h1 (hf.sub (by simp)) ha (fun S2 h2 s2 => k _ S2 h2 ((eqT.of (sV_sam h1 hb s2 (by simp))).tr (eqT.up v1 (by unfold rTk; omega)))))))))
  unfold w_X11_force
  exact ⟨fun _ => b27, fun _ => ⟨fun _ => b20, fun _ => E_gP_11_0 h ha (fun _ => V_gI_14 h hb (fun _ => ⟨fun _ => b27, fun _ => b20⟩))⟩⟩
theorem kt_X8_addLaw {q : Int32 → hS → Prop} (h : St Γ Φ S) (hb : Γ b = some (8, 8 + 10000 * i, i, 0, ρ)) (hf : fre Γ Φ [8 + 10000 * i, 915 + 10000 * i]) (ht : isTx Γ o) (k : ∀ r S', St Γ Φ S' → eqT (sV S' b ρ) (sV S b ρ) → q r S') : w_X8_addLaw q S b o := by
  have t6 : (6 : Int32).toInt = 6 := by decide
  unfold w_X8_addLaw
  refine V_gI_14 h hb (fun r => ⟨fun c => E_gP_8_15 h hb (fun kd => V_gI_14 h hb (fun _ => ?_)), fun _ => k _ _ h eqT.rf⟩)
  obtain ⟨n, hn, en⟩ := pIx 6 (by omega) r.1 (by rw [Int32.lt_iff_toInt_lt, t6] at c; exact c)
  refine T_stR_28 h hf kd (by simp) (by rw [en, nI_toInt (by omega)]; omega) (fun b hb => by cases hb; exact ht) (fun S1 h1 q1 a1 _ _ => ?_)
  have e1 : sV S1 b ρ = sV S b ρ := sV_congr (fun k => q1.I _ _) (fun k => q1.I _ _) (a1 _) (a1 _) (a1 _) (a1 _) (a1 _) (a1 _) (a1 _) (a1 _) (a1 _) (a1 _) (a1 _) (a1 _)
  refine V_gI_14 h1 hb (fun _ => ?_)
  rw [e1, en, nI_1]
  exact V_pI_14 h1 hb hf (by simp) (by rw [nI_toInt (by omega)]; omega) (fun S2 h2 v2 => V_gI_14 h2 hb (fun _ => k _ S2 h2 ((eqT.up v2 (by unfold rTk; omega)).tr (eqT.of e1))))
theorem kt_X11_law {q : Int32 → hS → Prop} (h : St Γ Φ S) (hf : fre Γ Φ [11, 1216, 8, 915, 9, 5, 10, 1103, 1104, 1105, 1106]) (ha : Γ a = some (11, 11, 0, rs, ρ)) (k : ∀ r Γ' S', gro Γ Φ Γ' → St Γ' Φ S' → eqT (sV S' (ρ 0) (bk 0 ρ)) (sV S (ρ 0) (bk 0 ρ)) → fI S' (ρ 4) 1 = 0 → q r S') : w_X11_law tx q S a := by
  have hb := (P_11_0 h ha).2
  have ht := (P_11_4 h ha).2
  have k1 : ∀ r S', St Γ Φ S' → eqT (sV S' (ρ 0) (bk 0 ρ)) (sV S (ρ 0) (bk 0 ρ)) → fI S' (ρ 4) 1 = 0 → q r S' := fun r S' h' => k r _ _ gro_rf h'
  unfold w_X11_law
  refine E_gP_11_0 h ha (fun _ => V_gI_14 h hb (fun _ => ⟨fun _ => E_gP_11_5 h ha (fun h29 => T_oK_5 h h29 (kc_X5_read (frz_St (L := [9, 5, 10, 1103, 1104, 1105, 1106]) h) (frz_fre (hf.sub (by simp)) (fun x hx => by simp only [List.mem_cons, List.not_mem_nil, or_false] at hx ⊢; omega)) h29 (Or.inr rfl) (fun r S1 s1 => ?_))), fun _ => E_gP_11_4 h ha (fun _ => T_pI_9_1 h hf ht (by simp) (by decide) (fun S3 s3 i3 q3 a3 => T_oK_11 s3 ha (kx_refuse s3 (hf.sub (by simp)) ha (fun S' h' hs => k1 _ _ h' ?_ ?_))))⟩))
  · obtain ⟨s1, m1⟩ := frz_un h s1
    refine T_pI_11_13 s1 hf ha (by simp) (fun S2 s2 _ q2 a2 => E_gP_11_4 s2 ha (fun _ => T_pI_9_1 s2 hf ht (by simp) (by decide) (fun S3 s3 i3 q3 a3 => T_gI_11_13 s3 ha (fun x48 _ _ => ?_))))
    have e3 : sV S3 (ρ 0) (bk 0 ρ) = sV S (ρ 0) (bk 0 ρ) := by
      rw [sV_px (nmne ht hb (by dsimp only; omega)) (nmne ht (P_8_0 h hb).2 (by dsimp only; omega)) q3 a3, sV_px (nmne ha hb (by dsimp only; omega)) (nmne ha (P_8_0 h hb).2 (by dsimp only; omega)) q2 a2, sV_sam h hb m1 (by simp)]
    refine ⟨fun _ => E_gP_11_0 s3 ha (fun _ => St_nO (frz_St (L := []) s3) (fun o67 S4 hN _ => E_gP_11_5 hN.1 ha (fun h72 => E_gP_5_0 hN.1 h72 (fun h75 => kc_X10_init_ hN h75 (fun Γ5 S5 g5 t5 s5 => ?_))))), fun _ => T_oK_11 s3 ha (kx_refuse s3 (hf.sub (by simp)) ha (fun S' h' hs => k1 _ _ h' (eqT.of ((sV_sam s3 hb hs (by simp)).trans e3)) ((fI_cell (hs.at s3 ht (by simp)) 1).trans i3)))⟩
    have g5' := frz_gro s3 g5
    obtain ⟨s5, m5⟩ := frz_un s3 s5
    have ha5 := g5'.1 _ _ ha
    have hb5 := g5'.1 _ _ hb
    have ht5 := g5'.1 _ _ ht
    refine T_oK_8 s5 hb5 (kt_X8_addLaw (frz_St (L := [8 + 10000 * 0, 915 + 10000 * 0]) s5) hb5 (frz_fre ((hf.gr g5').sub (by simp)) (fun _ x => x)) t5 (fun r S6 s6 e6 => ?_))
    obtain ⟨s6, m6⟩ := frz_un s5 s6
    refine T_oK_11 s6 ha5 (kx_accept s6 ((hf.gr g5').sub (by simp)) ha5 (fun S7 s7 m7 => k _ _ _ g5' s7 ?_ ?_))
    · exact (eqT.of (sV_sam s6 hb5 m7 (by simp))).tr (e6.tr (eqT.of ((sV_sam s3 hb m5 (by simp)).trans e3)))
    · rw [fI_cell (m7.at s6 ht5 (by simp)), fI_cell (m6.at s5 ht5 (by simp)), fI_cell (m5.at s3 ht (by simp)), i3]
  · refine (eqT.of (sV_sam s3 hb hs (by simp))).tr (eqT.of (sV_px (nmne ht hb (by dsimp only; omega)) (nmne ht (P_8_0 h hb).2 (by dsimp only; omega)) q3 a3))
  · exact (fI_cell (hs.at s3 ht (by simp)) 1).trans i3
theorem kt_X11_orders {q : Int32 → hS → Prop} (h : St Γ Φ S) (hf : fre Γ Φ [11, 1216, 9, 5, 10, 1103, 1104, 1105, 1106, 1, 101, 202, 700, 2, 300, 301, 302, 303, 2 + 10000 * 1, 300 + 10000 * 1, 301 + 10000 * 1, 302 + 10000 * 1, 303 + 10000 * 1, 8 + 10000 * 1, 902 + 10000 * 1, 903 + 10000 * 1, 905 + 10000 * 1, 906 + 10000 * 1, 907 + 10000 * 1, 908 + 10000 * 1, 910 + 10000 * 1, 911 + 10000 * 1, 915 + 10000 * 1]) (hl : lgFr Γ Φ) (ha : Γ a = some (11, 11, 0, rs, ρ)) (k : ∀ r Γ' S', gro Γ Φ Γ' → St Γ' Φ S' → fI S' (ρ 4) 1 = 0 → q r S') : w_X11_orders tx q S a := by
  have ht := (P_11_4 h ha).2
  have k1 : ∀ r S', St Γ Φ S' → fI S' (ρ 4) 1 = 0 → q r S' := fun r S' h' => k r _ _ gro_rf h'
  unfold w_X11_orders
  refine T_pI_11_14 h hf ha (by simp) (fun S0 s0 _ _ _ => T_gP_11_5 s0 ha (fun x7 _ h7 => T_oK_5 s0 h7 (kc_X5_read s0 (hf.sub (by simp)) h7 (Or.inl rfl) (fun r S1 s1 => T_pI_11_13 s1 hf ha (by simp) (fun S2 s2 _ _ _ => E_gP_11_4 s2 ha (fun _ => T_pI_9_1 s2 hf ht (by simp) (by decide) (fun S3 s3 i3 _ _ => T_gI_11_13 s3 ha (fun x26 _ _ => ⟨fun _ => ?_, fun _ => T_oK_11 s3 ha (kx_refuse s3 (hf.sub (by simp)) ha (fun S' h' hs => k1 _ _ h' ((fI_cell (hs.at s3 ht (by simp)) 1).trans i3)))⟩))))))))
  -- the tape is kept from here on
  obtain ⟨et, het⟩ := s3.isS ht
  have u3 := St_fz s3 [ρ 4]
  have one : ∀ L : List Nat, 9 ∉ L → ∀ b ∈ [ρ 4], ∀ τ : kT, Γ b = some τ → τ.2.1 ∉ L := fun L hL b hb τ hτ => by
    rw [List.mem_singleton.mp hb, ht] at hτ
    cases hτ
    exact hL
  have hf : fre Γ (fzk Φ S3 [ρ 4]) [11, 1216, 1, 101, 202, 700, 2, 300, 301, 302, 303, 2 + 10000 * 1, 300 + 10000 * 1, 301 + 10000 * 1, 302 + 10000 * 1, 303 + 10000 * 1, 8 + 10000 * 1, 902 + 10000 * 1, 903 + 10000 * 1, 905 + 10000 * 1, 906 + 10000 * 1, 907 + 10000 * 1, 908 + 10000 * 1, 910 + 10000 * 1, 911 + 10000 * 1, 915 + 10000 * 1] := fre_fz (hf.sub (by simp)) (one _ (by simp))
  have hl : lgFr Γ (fzk Φ S3 [ρ 4]) := ⟨fre_fz hl.1 (one _ (by simp)), fun j hj => fre_fz (hl.2 j hj) (one _ (by simp; omega))⟩
  have k : ∀ r Γ' S', gro Γ (fzk Φ S3 [ρ 4]) Γ' → St Γ' (fzk Φ S3 [ρ 4]) S' → q r S' := fun r Γ' S' hg h' => k r Γ' S' (gro_unfz (fun b hb => by rw [List.mem_singleton.mp hb, het]; exact fun z => by cases z) hg) (St_unfz s3 h') ((fI_cell (fz_eq (b := ρ 4) h' (List.mem_singleton.mpr rfl) het) 1).trans i3)
  generalize fzk Φ S3 [ρ 4] = Ψ at u3 hf hl k
  clear s3 k1
  have s3 := u3
  refine T_gP_11_1 s3 ha (fun x41 _ h41 => T_gP_11_0 s3 ha (fun x45 _ h45 => T_oK_8 s3 h41 (kc_X8_copyFrom s3 h41 h45 (hf.sub (by simp)) (fun S4 s4 => T_gP_11_7 s4 ha (fun x53 _ h53 => T_gP_11_5 s4 ha (fun x57 _ h57 => T_gP_5_0 s4 h57 (fun x60 _ h60 => T_gP_11_1 s4 ha (fun x64 _ h64 => T_oK_1 s4 h53 (kc_X1_run (ρg := k0) s4 h53 h60 h64 (hf.sub (by simp)) (fun g e => by cases e) (fun g e => by cases e) (by omega) (fun r5 Γ5 S5 g5 s5 => ?_))))))))))
  have hf5 := hf.gr g5
  have ha5 := g5.1 _ _ ha
  refine T_pI_11_14 s5 hf5 ha5 (by simp) (fun S6 s6 _ _ _ => T_gI_11_14 s6 ha5 (fun x75 _ _ => ⟨fun _ => ?_, fun _ => T_oK_11 s6 ha5 (kc_X11_refuse s6 (hf5.sub (by simp)) ha5 (fun S' h' => k _ _ _ g5 h'))⟩))
  refine T_gP_11_7 s6 ha5 (fun x90 _ h90 => T_gP_11_5 s6 ha5 (fun x94 _ h94 => T_gP_5_0 s6 h94 (fun x97 _ h97 => T_gP_11_0 s6 ha5 (fun x101 _ h101 => T_gP_11_3 s6 ha5 (fun x105 _ h105 => T_oK_1 s6 h90 (kc_X1_run s6 h90 h97 h101 (hf5.sub (by simp)) (fun g e => by cases e; exact ⟨h105, hl.gr g5⟩) (fun g e => lgN16 _ _) (by omega) (fun r7 Γ7 S7 g7 s7 => ?_)))))))
  have hf7 := hf5.gr g7
  have ha7 := g7.1 _ _ ha5
  exact T_gP_11_7 s7 ha7 (fun x114 _ h114 => T_gI_1_5 s7 h114 (fun x117 _ _ => T_oK_11 s7 ha7 (kc_X11_accept s7 (hf7.sub (by simp)) ha7 (fun S8 s8 => k _ _ _ (g5.tr g7) s8))))
end MAIN4
