/-! THE LAW: its loop over both objects -/
section LOOP
variable {S : hS} {x o : Nat} {M T : mS} {tx : Nat → Nat}
theorem cc_at {q : Int32 → hS → Prop} {a b : Int32} (hI : IV S x o M M) (hq : ∀ r S', IV S' x o M M → q r S') : oK S x 11 ∧ w_X11_at q S x a b := by
  obtain ⟨Γ, Φ, ρ, rs, hs, hf, hx, hgo⟩ := hI.cls [101, 700] (by decide)
  exact T_oK_11 hs hx (kc_X11_at hs hf hx (fun r Γ' S' hg h' => hq r S' (hgo Γ' S' hg h')))
theorem rc_at {q : Int32 → hS → Prop} {a b : Int32} (hI : IV S x o M M) (hq : ∀ r S' N, IV S' x o N N → q r S') : oK S o 12 ∧ w_X12_at q S o a b := by
  obtain ⟨ad, hd, hM, e, hN⟩ := hI.ref
  rw [← e]
  exact ⟨ov_oK, p_at hd hM (fun r N hm => hq r _ N (hN N hm))⟩
theorem cc_of {q : Int32 → hS → Prop} {a b : Int32} (hI : IV S x o M M) (hq : ∀ r S', IV S' x o M M → q r S') : oK S x 11 ∧ w_X11_of q S x a b := by
  obtain ⟨Γ, Φ, ρ, rs, hs, hf, hx, hgo⟩ := hI.cls [] (by decide)
  exact T_oK_11 hs hx (kc_X11_of hs hf hx (fun r Γ' S' hg h' => hq r S' (hgo Γ' S' hg h')))
theorem rc_of {q : Int32 → hS → Prop} {a b : Int32} (hI : IV S x o M M) (hq : ∀ r S' N, IV S' x o N N → q r S') : oK S o 12 ∧ w_X12_of q S o a b := by
  obtain ⟨ad, hd, hM, e, hN⟩ := hI.ref
  rw [← e]
  exact ⟨ov_oK, p_of hd hM (fun r N hm => hq r _ N (hN N hm))⟩
theorem cc_right {q : Int32 → hS → Prop} {a b c : Int32} (hI : IV S x o M M) (hq : ∀ r S', IV S' x o M M → q r S') : oK S x 11 ∧ w_X11_right q S x a b c := by
  obtain ⟨Γ, Φ, ρ, rs, hs, hf, hx, hgo⟩ := hI.cls [11, 1216, 300, 3] (by decide)
  exact T_oK_11 hs hx (kc_X11_right hs hf hx (fun r Γ' S' hg h' => hq r S' (hgo Γ' S' hg h')))
theorem rc_right {q : Int32 → hS → Prop} {a b c : Int32} (hI : IV S x o M M) (hq : ∀ r S' N, IV S' x o N N → q r S') : oK S o 12 ∧ w_X12_right q S o a b c := by
  obtain ⟨ad, hd, hM, e, hN⟩ := hI.ref
  rw [← e]
  exact ⟨ov_oK, p_right hd hM (fun r N hm => hq r _ N (hN N hm))⟩
theorem cc_has {q : Int32 → hS → Prop} {a b c : Int32} (hI : IV S x o M M) (hq : ∀ r S', IV S' x o M M → q r S') : oK S x 11 ∧ w_X11_has q S x a b c := by
  obtain ⟨Γ, Φ, ρ, rs, hs, hf, hx, hgo⟩ := hI.cls [101, 700] (by decide)
  exact T_oK_11 hs hx (kc_X11_has hs hf hx (fun r Γ' S' hg h' => hq r S' (hgo Γ' S' hg h')))
theorem rc_has {q : Int32 → hS → Prop} {a b c : Int32} (hI : IV S x o M M) (hq : ∀ r S' N, IV S' x o N N → q r S') : oK S o 12 ∧ w_X12_has q S o a b c := by
  obtain ⟨ad, hd, hM, e, hN⟩ := hI.ref
  rw [← e]
  exact ⟨ov_oK, p_has hd hM (fun r N hm => hq r _ N (hN N hm))⟩
theorem cc_asks {q : Int32 → hS → Prop} {a b c d : Int32} (hI : IV S x o M M) (hq : ∀ r S', IV S' x o M M → q r S') : oK S x 11 ∧ w_X11_asks q S x a b c d := by
  obtain ⟨Γ, Φ, ρ, rs, hs, hf, hx, hgo⟩ := hI.cls [101, 700] (by decide)
  exact T_oK_11 hs hx (kc_X11_asks hs hf hx (fun r Γ' S' hg h' => hq r S' (hgo Γ' S' hg h')))
theorem rc_asks {q : Int32 → hS → Prop} {a b c d : Int32} (hI : IV S x o M M) (hq : ∀ r S' N, IV S' x o N N → q r S') : oK S o 12 ∧ w_X12_asks q S o a b c d := by
  obtain ⟨ad, hd, hM, e, hN⟩ := hI.ref
  rw [← e]
  exact ⟨ov_oK, p_asks hd hM (fun r N hm => hq r _ N (hN N hm))⟩
theorem cc_terms {q : Int32 → hS → Prop} {a b : Int32} (hI : IV S x o M M) (hq : ∀ r S', IV S' x o M M → q r S') : oK S x 11 ∧ w_X11_terms q S x a b := by
  obtain ⟨Γ, Φ, ρ, rs, hs, hf, hx, hT, hgo⟩ := hI.clx [11, 1216, 2, 8, 3]
  have hA : ∀ n ∈ 9 :: 1000 :: BI, n ∉ [11, 1216, 2, 8, 3] := by decide
  exact T_oK_11 hs hx (kt_X11_terms hs hf hx (fun r S' h' et => hq r S' (hgo Γ S' rs M idO h' hx (fun hsam => hT.gs hs hx idG hsam hA et))))
theorem rc_terms {q : Int32 → hS → Prop} {a b : Int32} (hI : IV S x o M M) (hq : ∀ r S' N, IV S' x o N N → q r S') : oK S o 12 ∧ w_X12_terms q S o a b := by
  obtain ⟨ad, hd, hM, e, hN⟩ := hI.ref
  rw [← e]
  exact ⟨ov_oK, p_terms hd hM (fun r N hm => hq r _ N (hN N hm))⟩
theorem cc_law {q : Int32 → hS → Prop} (hI : IV S x o M M) (hq : ∀ r S', IV S' x o M (mI M 13 0) → q r S') : oK S x 11 ∧ w_X11_law tx q S x := by
  obtain ⟨Γ, Φ, ρ, rs, hs, hf, hx, hT, hgo⟩ := hI.clx [11, 1216, 8, 915, 9, 5, 10, 1103, 1104, 1105, 1106]
  have hA : ∀ n ∈ 1000 :: BI, n ∉ [11, 1216, 8, 915, 9, 5, 10, 1103, 1104, 1105, 1106] := by decide
  refine T_oK_11 hs hx (kt_X11_law hs hf hx (fun r Γ' S' hg h' et el => hq r S' (hgo Γ' S' rs _ (gro_or hg) h' (hg.1 _ _ hx) (fun hsam => ?_))))
  have := hT.gp (Γ' := Γ') hs hx (fun a τ _ ha => hg.1 a τ ha) hsam (fun n hn => hA n (List.mem_cons_of_mem _ hn)) et (g := M.2.2.1 12) el (fun j hj => by rw [aV_cell (hsam.at hs (P_9_0 hs (P_11_4 hs hx).2).2 (hA 1000 (by simp)))]; exact hT.2.2.2.2.1 j hj)
  rw [mA_self] at this
  exact this
theorem rc_law {q : Int32 → hS → Prop} (hI : IV S x o M (mI M 13 0)) (hq : ∀ r S' N, IV S' x o N N → q r S') : oK S o 12 ∧ w_X12_law q S o := by
  obtain ⟨ad, hd, hM, e, hN⟩ := hI.ref
  rw [← e]
  exact ⟨ov_oK, p_law hd hM (fun r N hm => hq r _ N (hN N hm))⟩
theorem cc_orders {q : Int32 → hS → Prop} (hI : IV S x o M M) (hq : ∀ r S', IV S' x o M (mI M 13 0) → q r S') : oK S x 11 ∧ w_X11_orders tx q S x := by
  obtain ⟨Γ, Φ, ρ, rs, hs, hf, hx, hT, hgo⟩ := hI.clx ([11, 1216, 9, 5, 10, 1103, 1104, 1105, 1106, 1, 101, 202, 700, 2, 300, 301, 302, 303, 2 + 10000 * 1, 300 + 10000 * 1, 301 + 10000 * 1, 302 + 10000 * 1, 303 + 10000 * 1, 8 + 10000 * 1, 902 + 10000 * 1, 903 + 10000 * 1, 905 + 10000 * 1, 906 + 10000 * 1, 907 + 10000 * 1, 908 + 10000 * 1, 910 + 10000 * 1, 911 + 10000 * 1, 915 + 10000 * 1] ++ logN)
  have hA : ∀ n ∈ 1000 :: BI, n ∉ ([11, 1216, 9, 5, 10, 1103, 1104, 1105, 1106, 1, 101, 202, 700, 2, 300, 301, 302, 303, 2 + 10000 * 1, 300 + 10000 * 1, 301 + 10000 * 1, 302 + 10000 * 1, 303 + 10000 * 1, 8 + 10000 * 1, 902 + 10000 * 1, 903 + 10000 * 1, 905 + 10000 * 1, 906 + 10000 * 1, 907 + 10000 * 1, 908 + 10000 * 1, 910 + 10000 * 1, 911 + 10000 * 1, 915 + 10000 * 1] ++ logN) := by decide
  have hB : ∀ n ∈ [8, 908], n ∉ ([11, 1216, 9, 5, 10, 1103, 1104, 1105, 1106, 1, 101, 202, 700, 2, 300, 301, 302, 303, 2 + 10000 * 1, 300 + 10000 * 1, 301 + 10000 * 1, 302 + 10000 * 1, 303 + 10000 * 1, 8 + 10000 * 1, 902 + 10000 * 1, 903 + 10000 * 1, 905 + 10000 * 1, 906 + 10000 * 1, 907 + 10000 * 1, 908 + 10000 * 1, 910 + 10000 * 1, 911 + 10000 * 1, 915 + 10000 * 1] ++ logN) := by decide
  refine T_oK_11 hs hx (kt_X11_orders hs (fre_l hf) (lgFr_of hf) hx (fun r Γ' S' hg h' el => hq r S' (hgo Γ' S' rs _ (gro_or hg) h' (hg.1 _ _ hx) (fun hsam => ?_))))
  have := hT.gp (Γ' := Γ') hs hx (fun a τ _ ha => hg.1 a τ ha) hsam (fun n hn => hA n (List.mem_cons_of_mem _ hn)) (sV_tk (hsam.at hs (P_11_0 hs hx).2 (hB 8 (by simp))) (hsam.at hs (P_8_8 hs (P_11_0 hs hx).2).2 (hB 908 (by simp)))) (g := M.2.2.1 12) el (fun j hj => by rw [aV_cell (hsam.at hs (P_9_0 hs (P_11_4 hs hx).2).2 (hA 1000 (by simp)))]; exact hT.2.2.2.2.1 j hj)
  rw [mA_self] at this
  exact this
theorem rc_orders {q : Int32 → hS → Prop} (hI : IV S x o M (mI M 13 0)) (hq : ∀ r S' N, IV S' x o N N → q r S') : oK S o 12 ∧ w_X12_orders q S o := by
  obtain ⟨ad, hd, hM, e, hN⟩ := hI.ref
  rw [← e]
  exact ⟨ov_oK, p_orders hd hM (fun r N hm => hq r _ N (hN N hm))⟩
theorem cc_fault {q : Int32 → hS → Prop} (hI : IV S x o M M) (hq : ∀ r S', IV S' x o M M → q r S') : oK S x 11 ∧ w_X11_fault q S x := by
  obtain ⟨Γ, Φ, ρ, rs, hs, hf, hx, hgo⟩ := hI.cls [] (by decide)
  exact T_oK_11 hs hx (kc_X11_fault hs hf hx (fun r Γ' S' hg h' => hq r S' (hgo Γ' S' hg h')))
theorem rc_fault {q : Int32 → hS → Prop} (hI : IV S x o M M) (hq : ∀ r S' N, IV S' x o N N → q r S') : oK S o 12 ∧ w_X12_fault q S o := by
  obtain ⟨ad, hd, hM, e, hN⟩ := hI.ref
  rw [← e]
  exact ⟨ov_oK, p_fault hM (fun r N hm => hq r _ N (hN N hm))⟩
theorem cc_stopped {q : Int32 → hS → Prop} (hI : IV S x o M M) (hq : ∀ r S', IV S' x o M M → q r S') : oK S x 11 ∧ w_X11_stopped q S x := by
  obtain ⟨Γ, Φ, ρ, rs, hs, hf, hx, hgo⟩ := hI.cls [] (by decide)
  exact T_oK_11 hs hx (kc_X11_stopped hs hf hx (fun r Γ' S' hg h' => hq r S' (hgo Γ' S' hg h')))
theorem rc_stopped {q : Int32 → hS → Prop} (hI : IV S x o M M) (hq : ∀ r S' N, IV S' x o N N → q r S') : oK S o 12 ∧ w_X12_stopped q S o := by
  obtain ⟨ad, hd, hM, e, hN⟩ := hI.ref
  rw [← e]
  exact ⟨ov_oK, p_stopped hM (fun r N hm => hq r _ N (hN N hm))⟩
theorem cc_force {q : Int32 → hS → Prop} {a : Int32} (hI : IV S x o M M) (hq : ∀ r S', IV S' x o M M → q r S') : oK S x 11 ∧ w_X11_force q S x a := by
  obtain ⟨Γ, Φ, ρ, rs, hs, hf, hx, hT, hgo⟩ := hI.clx [11, 1216, 8]
  have hA : ∀ n ∈ 9 :: 1000 :: BI, n ∉ [11, 1216, 8] := by decide
  exact T_oK_11 hs hx (kt_X11_force hs hf hx (fun r S' h' et => hq r S' (hgo Γ S' rs M idO h' hx (fun hsam => hT.gs hs hx idG hsam hA et))))
theorem rc_force {q : Int32 → hS → Prop} {a : Int32} (hI : IV S x o M M) (hq : ∀ r S' N, IV S' x o N N → q r S') : oK S o 12 ∧ w_X12_force q S o a := by
  obtain ⟨ad, hd, hM, e, hN⟩ := hI.ref
  rw [← e]
  exact ⟨ov_oK, p_force hd hM (fun r N hm => hq r _ N (hN N hm))⟩
theorem cc_ring {q : Int32 → hS → Prop} {a b : Int32} (hI : IV S x o M M) (hq : ∀ r S', IV S' x o M M → q r S') : oK S x 11 ∧ w_X11_ring q S x a b := by
  obtain ⟨Γ, Φ, ρ, rs, hs, hf, hx, hgo⟩ := hI.cls ([11, 1216, 101, 700, 301, 302] ++ logN) (by decide)
  exact T_oK_11 hs hx (kc_X11_ring hs (fre_l hf) (lgFr_of hf) hx (fun r Γ' S' hg h' => hq r S' (hgo Γ' S' hg h')))
theorem rc_ring {q : Int32 → hS → Prop} {a b : Int32} (hI : IV S x o M M) (hq : ∀ r S' N, IV S' x o N N → q r S') : oK S o 12 ∧ w_X12_ring q S o a b := by
  obtain ⟨ad, hd, hM, e, hN⟩ := hI.ref
  rw [← e]
  exact ⟨ov_oK, p_ring hd hM (fun r N hm => hq r _ N (hN N hm))⟩
theorem cc_sell {q : Int32 → hS → Prop} {a b c : Int32} (hI : IV S x o M M) (hq : ∀ r S', IV S' x o M M → q r S') : oK S x 11 ∧ w_X11_sell q S x a b c := by
  obtain ⟨Γ, Φ, ρ, rs, hs, hf, hx, hgo⟩ := hI.cls ([11, 1216, 101, 700, 300, 303] ++ logN) (by decide)
  exact T_oK_11 hs hx (kc_X11_sell hs (fre_l hf) (lgFr_of hf) hx (fun r Γ' S' hg h' => hq r S' (hgo Γ' S' hg h')))
theorem rc_sell {q : Int32 → hS → Prop} {a b c : Int32} (hI : IV S x o M M) (hq : ∀ r S' N, IV S' x o N N → q r S') : oK S o 12 ∧ w_X12_sell q S o a b c := by
  obtain ⟨ad, hd, hM, e, hN⟩ := hI.ref
  rw [← e]
  exact ⟨ov_oK, p_sell hd hM (fun r N hm => hq r _ N (hN N hm))⟩
theorem cc_die {q : Int32 → hS → Prop} {a : Int32} (hI : IV S x o M M) (hq : ∀ r S', IV S' x o M M → q r S') : oK S x 11 ∧ w_X11_die q S x a := by
  obtain ⟨Γ, Φ, ρ, rs, hs, hf, hx, hgo⟩ := hI.cls ([11, 1216, 2, 300, 301] ++ logN) (by decide)
  exact T_oK_11 hs hx (kc_X11_die hs (fre_l hf) (lgFr_of hf) hx (fun r Γ' S' hg h' => hq r S' (hgo Γ' S' hg h')))
theorem rc_die {q : Int32 → hS → Prop} {a : Int32} (hI : IV S x o M M) (hq : ∀ r S' N, IV S' x o N N → q r S') : oK S o 12 ∧ w_X12_die q S o a := by
  obtain ⟨ad, hd, hM, e, hN⟩ := hI.ref
  rw [← e]
  exact ⟨ov_oK, p_die hd hM (fun r N hm => hq r _ N (hN N hm))⟩
theorem cc_pass {q : Int32 → hS → Prop} (hI : IV S x o M M) (hq : ∀ r S', IV S' x o M M → q r S') : oK S x 11 ∧ w_X11_pass q S x := by
  obtain ⟨Γ, Φ, ρ, rs, hs, hf, hx, hgo⟩ := hI.cls ([11, 1216, 2, 301, 302] ++ logN) (by decide)
  exact T_oK_11 hs hx (kc_X11_pass hs (fre_l hf) (lgFr_of hf) hx (fun r Γ' S' hg h' => hq r S' (hgo Γ' S' hg h')))
theorem rc_pass {q : Int32 → hS → Prop} (hI : IV S x o M M) (hq : ∀ r S' N, IV S' x o N N → q r S') : oK S o 12 ∧ w_X12_pass q S o := by
  obtain ⟨ad, hd, hM, e, hN⟩ := hI.ref
  rw [← e]
  exact ⟨ov_oK, p_pass hd hM (fun r N hm => hq r _ N (hN N hm))⟩
theorem cc_undo {q : Int32 → hS → Prop} (hI : IV S x o M M) (hq : ∀ r S', IV S' x o M M → q r S') : oK S x 11 ∧ w_X11_undo q S x := by
  obtain ⟨Γ, Φ, ρ, rs, hs, hf, hx, hgo⟩ := hI.cls [11, 1216, 3, 2, 300, 301, 302, 303] (by decide)
  exact T_oK_11 hs hx (kc_X11_undo hs hf hx (fun r Γ' S' hg h' => hq r S' (hgo Γ' S' hg h')))
theorem rc_undo {q : Int32 → hS → Prop} (hI : IV S x o M M) (hq : ∀ r S' N, IV S' x o N N → q r S') : oK S o 12 ∧ w_X12_undo q S o := by
  obtain ⟨ad, hd, hM, e, hN⟩ := hI.ref
  rw [← e]
  exact ⟨ov_oK, p_undo hd hM (fun r N hm => hq r _ N (hN N hm))⟩
theorem cc_visits {q : Int32 → hS → Prop} {a b c : Int32} (hI : IV S x o M M) (hq : ∀ r S', IV S' x o M M → q r S') : oK S x 11 ∧ w_X11_visits q S x a b c := by
  obtain ⟨Γ, Φ, ρ, rs, hs, hf, hx, hgo⟩ := hI.cls [4, 500, 503] (by decide)
  exact T_oK_11 hs hx (kc_X11_visits hs hf hx (fun r Γ' S' hg h' => hq r S' (hgo Γ' S' hg h')))
theorem rc_visits {q : Int32 → hS → Prop} {a b c : Int32} (hI : IV S x o M M) (hq : ∀ r S' N, IV S' x o N N → q r S') : oK S o 12 ∧ w_X12_visits q S o a b c := by
  obtain ⟨ad, hd, hM, e, hN⟩ := hI.ref
  rw [← e]
  exact ⟨ov_oK, p_visits hd hM (fun r N hm => hq r _ N (hN N hm))⟩
theorem cc_exchange {q : Int32 → hS → Prop} {a : Int32} (hI : IV S x o M M) (hq : ∀ r S', IV S' x o M M → q r S') : oK S x 11 ∧ w_X11_exchange q S x a := by
  obtain ⟨Γ, Φ, ρ, rs, hs, hf, hx, hgo⟩ := hI.cls [4, 505, 506] (by decide)
  exact T_oK_11 hs hx (kc_X11_exchange hs hf hx (fun r Γ' S' hg h' => hq r S' (hgo Γ' S' hg h')))
theorem rc_exchange {q : Int32 → hS → Prop} {a : Int32} (hI : IV S x o M M) (hq : ∀ r S' N, IV S' x o N N → q r S') : oK S o 12 ∧ w_X12_exchange q S o a := by
  obtain ⟨ad, hd, hM, e, hN⟩ := hI.ref
  rw [← e]
  exact ⟨ov_oK, p_exchange hd hM (fun r N hm => hq r _ N (hN N hm))⟩
theorem cc_who {q : Int32 → hS → Prop} (hI : IV S x o M M) (hq : ∀ r S', IV S' x o M M → q r S') : oK S x 11 ∧ w_X11_who q S x := by
  obtain ⟨Γ, Φ, ρ, rs, hs, hf, hx, hgo⟩ := hI.cls [] (by decide)
  exact T_oK_11 hs hx (kc_X11_who hs hf hx (fun r Γ' S' hg h' => hq r S' (hgo Γ' S' hg h')))
theorem rc_who {q : Int32 → hS → Prop} (hI : IV S x o M M) (hq : ∀ r S' N, IV S' x o N N → q r S') : oK S o 12 ∧ w_X12_who q S o := by
  obtain ⟨ad, hd, hM, e, hN⟩ := hI.ref
  rw [← e]
  exact ⟨ov_oK, p_who hd hM (fun r N hm => hq r _ N (hN N hm))⟩
theorem cc_look {q : Int32 → hS → Prop} {a : Int32} (hI : IV S x o M M) (hq : ∀ r S', IV S' x o M M → q r S') : oK S x 11 ∧ w_X11_look q S x a := by
  obtain ⟨Γ, Φ, ρ, rs, hs, hf, hx, hgo⟩ := hI.cls [] (by decide)
  exact T_oK_11 hs hx (kc_X11_look hs hf hx (fun r Γ' S' hg h' => hq r S' (hgo Γ' S' hg h')))
theorem rc_look {q : Int32 → hS → Prop} {a : Int32} (hI : IV S x o M M) (hq : ∀ r S' N, IV S' x o N N → q r S') : oK S o 12 ∧ w_X12_look q S o a := by
  obtain ⟨ad, hd, hM, e, hN⟩ := hI.ref
  rw [← e]
  exact ⟨ov_oK, p_look hd hM (fun r N hm => hq r _ N (hN N hm))⟩
theorem cc_amend {q : Int32 → hS → Prop} {a b : Int32} (hI : IV S x o M M) (hq : ∀ r S', IV S' x o M M → q r S') : oK S x 11 ∧ w_X11_amend q S x a b := by
  obtain ⟨Γ, Φ, ρ, rs, hs, hf, hx, hgo⟩ := hI.cls [] (by decide)
  exact T_oK_11 hs hx (kc_X11_amend hs hf hx (fun r Γ' S' hg h' => hq r S' (hgo Γ' S' hg h')))
theorem rc_amend {q : Int32 → hS → Prop} {a b : Int32} (hI : IV S x o M M) (hq : ∀ r S' N, IV S' x o N N → q r S') : oK S o 12 ∧ w_X12_amend q S o a b := by
  obtain ⟨ad, hd, hM, e, hN⟩ := hI.ref
  rw [← e]
  exact ⟨ov_oK, p_amend hd hM (fun r N hm => hq r _ N (hN N hm))⟩
theorem cc_given {q : Int32 → hS → Prop} {a b c : Int32} (hI : IV S x o M M) (hq : ∀ r S', IV S' x o M M → q r S') : oK S x 11 ∧ w_X11_given q S x a b c := by
  obtain ⟨Γ, Φ, ρ, rs, hs, hf, hx, hgo⟩ := hI.cls [800] (by decide)
  exact T_oK_11 hs hx (kc_X11_given hs hf hx (fun r Γ' S' hg h' => hq r S' (hgo Γ' S' hg h')))
theorem rc_given {q : Int32 → hS → Prop} {a b c : Int32} (hI : IV S x o M M) (hq : ∀ r S' N, IV S' x o N N → q r S') : oK S o 12 ∧ w_X12_given q S o a b c := by
  obtain ⟨ad, hd, hM, e, hN⟩ := hI.ref
  rw [← e]
  exact ⟨ov_oK, p_given hd hM (fun r N hm => hq r _ N (hN N hm))⟩
theorem cc_keep {q : Int32 → hS → Prop} {a b c d : Int32} (hI : IV S x o M M) (hq : ∀ r S', IV S' x o M M → q r S') : oK S x 11 ∧ w_X11_keep q S x a b c d := by
  obtain ⟨Γ, Φ, ρ, rs, hs, hf, hx, hgo⟩ := hI.cls [101, 700, 801, 802, 803] (by decide)
  exact T_oK_11 hs hx (kc_X11_keep hs hf hx (fun r Γ' S' hg h' => hq r S' (hgo Γ' S' hg h')))
theorem rc_keep {q : Int32 → hS → Prop} {a b c d : Int32} (hI : IV S x o M M) (hq : ∀ r S' N, IV S' x o N N → q r S') : oK S o 12 ∧ w_X12_keep q S o a b c d := by
  obtain ⟨ad, hd, hM, e, hN⟩ := hI.ref
  rw [← e]
  exact ⟨ov_oK, p_keep hd hM (fun r N hm => hq r _ N (hN N hm))⟩
theorem cc_chain {q : Int32 → hS → Prop} {a b c d : Int32} (hI : IV S x o M M) (hq : ∀ r S', IV S' x o M M → q r S') : oK S x 11 ∧ w_X11_chain q S x a b c d := by
  obtain ⟨Γ, Φ, ρ, rs, hs, hf, hx, hgo⟩ := hI.cls [101, 700, 4, 507, 508, 509] (by decide)
  exact T_oK_11 hs hx (kc_X11_chain hs hf hx (fun r Γ' S' hg h' => hq r S' (hgo Γ' S' hg h')))
theorem rc_chain {q : Int32 → hS → Prop} {a b c d : Int32} (hI : IV S x o M M) (hq : ∀ r S' N, IV S' x o N N → q r S') : oK S o 12 ∧ w_X12_chain q S o a b c d := by
  obtain ⟨ad, hd, hM, e, hN⟩ := hI.ref
  rw [← e]
  exact ⟨ov_oK, p_chain hd hM (fun r N hm => hq r _ N (hN N hm))⟩
theorem cc_likely {q : Int64 → hS → Prop} {a b : Int32} (hI : IV S x o M M) (hq : ∀ r S', IV S' x o M M → q r S') : oK S x 11 ∧ w_X11_likely q S x a b := by
  obtain ⟨Γ, Φ, ρ, rs, hs, hf, hx, hgo⟩ := hI.cls [804] (by decide)
  exact T_oK_11 hs hx (kc_X11_likely hs hf hx (fun r Γ' S' hg h' => hq r S' (hgo Γ' S' hg h')))
theorem rc_likely {q : Int64 → hS → Prop} {a b : Int32} (hI : IV S x o M M) (hq : ∀ r S' N, IV S' x o N N → q r S') : oK S o 12 ∧ w_X12_likely q S o a b := by
  obtain ⟨ad, hd, hM, e, hN⟩ := hI.ref
  rw [← e]
  exact ⟨ov_oK, p_likely hd hM (fun r N hm => hq r _ N (hN N hm))⟩
theorem cc_generations {q : Int32 → hS → Prop} {a b : Int32} (hI : IV S x o M M) (hq : ∀ r S', IV S' x o M M → q r S') : oK S x 11 ∧ w_X11_generations q S x a b := by
  obtain ⟨Γ, Φ, ρ, rs, hs, hf, hx, hgo⟩ := hI.cls [11, 1216, 1, 101, 202, 700, 1210, 2 + 10000 * 1, 300 + 10000 * 1, 301 + 10000 * 1, 302 + 10000 * 1, 303 + 10000 * 1, 8 + 10000 * 1, 902 + 10000 * 1, 903 + 10000 * 1, 905 + 10000 * 1, 906 + 10000 * 1, 907 + 10000 * 1, 908 + 10000 * 1, 910 + 10000 * 1, 911 + 10000 * 1, 915 + 10000 * 1] (by decide)
  exact T_oK_11 hs hx (kc_X11_generations hs hf hx (fun r Γ' S' hg h' => hq r S' (hgo Γ' S' hg h')))
theorem rc_generations {q : Int32 → hS → Prop} {a b : Int32} (hI : IV S x o M M) (hq : ∀ r S' N, IV S' x o N N → q r S') : oK S o 12 ∧ w_X12_generations q S o a b := by
  obtain ⟨ad, hd, hM, e, hN⟩ := hI.ref
  rw [← e]
  exact ⟨ov_oK, p_generations hd hM (fun r N hm => hq r _ N (hN N hm))⟩
theorem cc_drawn {q : Int32 → hS → Prop} {a b : Int32} (hI : IV S x o M M) (hq : ∀ r S', IV S' x o M M → q r S') : oK S x 11 ∧ w_X11_drawn q S x a b := by
  obtain ⟨Γ, Φ, ρ, rs, hs, hf, hx, hgo⟩ := hI.cls [] (by decide)
  exact T_oK_11 hs hx (kc_X11_drawn hs hf hx (fun r Γ' S' hg h' => hq r S' (hgo Γ' S' hg h')))
theorem rc_drawn {q : Int32 → hS → Prop} {a b : Int32} (hI : IV S x o M M) (hq : ∀ r S' N, IV S' x o N N → q r S') : oK S o 12 ∧ w_X12_drawn q S o a b := by
  obtain ⟨ad, hd, hM, e, hN⟩ := hI.ref
  rw [← e]
  exact ⟨ov_oK, p_drawn hd hM (fun r N hm => hq r _ N (hN N hm))⟩
theorem cc_count {q : Int32 → hS → Prop} {a : Int32} (hI : IV S x o M M) (hq : ∀ r S', IV S' x o M M → q r S') : oK S x 11 ∧ w_X11_count q S x a := by
  obtain ⟨Γ, Φ, ρ, rs, hs, hf, hx, hgo⟩ := hI.cls [] (by decide)
  exact T_oK_11 hs hx (kc_X11_count hs hf hx (fun r Γ' S' hg h' => hq r S' (hgo Γ' S' hg h')))
theorem rc_count {q : Int32 → hS → Prop} {a : Int32} (hI : IV S x o M M) (hq : ∀ r S' N, IV S' x o N N → q r S') : oK S o 12 ∧ w_X12_count q S o a := by
  obtain ⟨ad, hd, hM, e, hN⟩ := hI.ref
  rw [← e]
  exact ⟨ov_oK, p_count hd hM (fun r N hm => hq r _ N (hN N hm))⟩
theorem cc_status {q : Int32 → hS → Prop} (hI : IV S x o M M) (hq : ∀ r S', IV S' x o M M → q r S') : oK S x 11 ∧ w_X11_status q S x := by
  obtain ⟨Γ, Φ, ρ, rs, hs, hf, hx, hgo⟩ := hI.cls [] (by decide)
  exact T_oK_11 hs hx (kc_X11_status hs hf hx (fun r Γ' S' hg h' => hq r S' (hgo Γ' S' hg h')))
theorem rc_status {q : Int32 → hS → Prop} (hI : IV S x o M M) (hq : ∀ r S' N, IV S' x o N N → q r S') : oK S o 12 ∧ w_X12_status q S o := by
  obtain ⟨ad, hd, hM, e, hN⟩ := hI.ref
  rw [← e]
  exact ⟨ov_oK, p_status hM (fun r N hm => hq r _ N (hN N hm))⟩
set_option maxHeartbeats 8000000 in
set_option maxRecDepth 20000 in
theorem law_loop {L : Nat} {xs : Nat → Int32} (hL : L ≤ 3072) (hI : IV S x o M M) : ∃ n, w_L_law_b18 tx L xs () n S 512 x o 0 := by
  refine loop_m (σ := hS × Nat × Nat) (fun n s => w_L_law_b18 tx L xs () n s.1 s.2.1 x o (nI (6 * s.2.2))) (fun s => (∃ M, IV s.1 x o M M) ∧ 512 ≤ s.2.1 + s.2.2 ∧ 6 * s.2.2 ≤ L) (fun s => 600 - s.2.2) ?_ (S, 512, 0) ⟨⟨M, hI⟩, Nat.le_refl _, Nat.zero_le _⟩
  rintro n ⟨S, u, k⟩ ⟨⟨M, hI⟩, hu, hk⟩ ih
  dsimp only at hI hu hk ih ⊢
  rw [w_L_law_b18]
  refine ⟨fun _ => rfl, fun c => ?_⟩
  have hl : 6 * k + 6 ≤ L := by
    have e1 : (Int32.ofNat L).toInt = L := nI_toInt (n := L) (by omega)
    have e6 : (6 : Int32).toInt = 6 := by decide
    rw [i32lt, fb_subI (by rw [e1, e6]; omega) (by rw [e1, e6]; omega), e1, e6, nI_toInt (by omega)] at c
    omega
  have i0 : vp_in (nI (6 * k)) L := vp_in_nI (by omega) (by omega)
  have i1 : vp_in (nI (6 * k) + 1) L := by rw [show nI (6 * k) + 1 = nI (6 * k + 1) from nIadd _ _]; exact vp_in_nI (by omega) (by omega)
  have i2 : vp_in (nI (6 * k) + 2) L := by rw [show nI (6 * k) + 2 = nI (6 * k + 2) from nIadd _ _]; exact vp_in_nI (by omega) (by omega)
  have i3 : vp_in (nI (6 * k) + 3) L := by rw [show nI (6 * k) + 3 = nI (6 * k + 3) from nIadd _ _]; exact vp_in_nI (by omega) (by omega)
  have i4 : vp_in (nI (6 * k) + 4) L := by rw [show nI (6 * k) + 4 = nI (6 * k + 4) from nIadd _ _]; exact vp_in_nI (by omega) (by omega)
  have i5 : vp_in (nI (6 * k) + 5) L := by rw [show nI (6 * k) + 5 = nI (6 * k + 5) from nIadd _ _]; exact vp_in_nI (by omega) (by omega)
  have nx : ∀ S' u' N, IV S' x o N N → 512 ≤ u' + (k + 1) → w_L_law_b1415 tx L xs () (fun S u v1 v2 v3 => w_L_law_b18 tx L xs () n S u v1 v2 v3) S' u' x o (nI (6 * k)) := by
    intro S' u' N hI' hu' y ey
    rw [ey, show nI (6 * k) + 6 = nI (6 * (k + 1)) from by rw [show nI (6 * k) + 6 = nI (6 * k + 6) from nIadd _ _]; rfl]
    exact ih (S', u', k + 1) ⟨⟨N, hI'⟩, hu', by dsimp only; omega⟩ (by dsimp only; omega)
  have nu : ∀ S' N, IV S' x o N N → w_L_law_b1415 tx L xs () (fun S u v1 v2 v3 => w_L_law_b18 tx L xs () n S u v1 v2 v3) S' u x o (nI (6 * k)) := fun S' N h => nx S' u N h (by omega)
  obtain ⟨u', hu'⟩ : ∃ u', u = u' + 1 := ⟨u - 1, by omega⟩
  have nv : ∀ S' N, IV S' x o N N → w_L_law_b1415 tx L xs () (fun S u v1 v2 v3 => w_L_law_b18 tx L xs () n S u v1 v2 v3) S' u' x o (nI (6 * k)) := fun S' N h => nx S' u' N h (by omega)
  refine ⟨i0, fun y33 _ => ?_⟩
  refine ⟨fun _ => ⟨i1, ⟨i2, cc_house hI (fun _ _ S1 hP h1 => ⟨i1, ⟨i2, rc_house h1 hP (fun S2 N h2 => nu S2 N h2)⟩⟩)⟩⟩, ?_⟩
  refine ⟨fun _ => ⟨i1, ⟨i2, cc_at hI (fun _ S1 h1 => ⟨i1, ⟨i2, rc_at h1 (fun _ S2 N h2 => nu S2 N h2)⟩⟩)⟩⟩, ?_⟩
  refine ⟨fun _ => ⟨i1, ⟨i2, ⟨i3, cc_person hI (fun _ _ S1 hP h1 => ⟨i1, ⟨i2, ⟨i3, rc_person h1 hP (fun S2 N h2 => nu S2 N h2)⟩⟩⟩)⟩⟩⟩, ?_⟩
  refine ⟨fun _ => ⟨i1, ⟨i2, cc_of hI (fun _ S1 h1 => ⟨i1, ⟨i2, rc_of h1 (fun _ S2 N h2 => nu S2 N h2)⟩⟩)⟩⟩, ?_⟩
  refine ⟨fun _ => ⟨i1, ⟨i2, cc_want hI (fun _ _ S1 hP h1 => ⟨i1, ⟨i2, rc_want h1 hP (fun S2 N h2 => nu S2 N h2)⟩⟩)⟩⟩, ?_⟩
  refine ⟨fun _ => ⟨i1, ⟨i2, cc_will hI (fun _ _ S1 hP h1 => ⟨i1, ⟨i2, rc_will h1 hP (fun S2 N h2 => nu S2 N h2)⟩⟩)⟩⟩, ?_⟩
  refine ⟨fun _ => ⟨i1, ⟨i2, ⟨i3, cc_right hI (fun _ S1 h1 => ⟨i1, ⟨i2, ⟨i3, rc_right h1 (fun _ S2 N h2 => nu S2 N h2)⟩⟩⟩)⟩⟩⟩, ?_⟩
  refine ⟨fun _ => ⟨i1, ⟨i2, ⟨i3, cc_has hI (fun _ S1 h1 => ⟨i1, ⟨i2, ⟨i3, rc_has h1 (fun _ S2 N h2 => nu S2 N h2)⟩⟩⟩)⟩⟩⟩, ?_⟩
  refine ⟨fun _ => ⟨i1, ⟨i2, ⟨i3, ⟨i4, cc_asks hI (fun _ S1 h1 => ⟨i1, ⟨i2, ⟨i3, ⟨i4, rc_asks h1 (fun _ S2 N h2 => nu S2 N h2)⟩⟩⟩⟩)⟩⟩⟩⟩, ?_⟩
  refine ⟨fun _ => ⟨i1, ⟨i2, cc_terms hI (fun _ S1 h1 => ⟨i1, ⟨i2, rc_terms h1 (fun _ S2 N h2 => nu S2 N h2)⟩⟩)⟩⟩, ?_⟩
  refine ⟨fun _ => ⟨i1, ⟨i2, ⟨i3, ⟨i4, ⟨i5, cc_feed hI (fun _ _ S1 hP h1 => ⟨i1, ⟨i2, ⟨i3, ⟨i4, ⟨i5, rc_feed h1 hP (fun S2 N h2 => nu S2 N h2)⟩⟩⟩⟩⟩)⟩⟩⟩⟩⟩, ?_⟩
  refine ⟨fun _ => ⟨i1, cc_end hI (fun _ _ S1 hP h1 => ⟨i1, rc_end h1 hP (fun S2 N h2 => nu S2 N h2)⟩)⟩, ?_⟩
  refine ⟨fun _ => cc_row hI (fun _ _ S1 hP h1 => rc_row h1 hP (fun S2 N h2 => nu S2 N h2)), ?_⟩
  refine ⟨fun _ => cc_rust hI (fun _ _ S1 hP h1 => rc_rust h1 hP (fun S2 N h2 => ⟨fun _ => nu S2 N h2, fun z => absurd rfl z⟩)), ?_⟩
  refine ⟨fun _ => ⟨u', hu', cc_law hI (fun _ S1 h1 => rc_law h1 (fun _ S2 N h2 => nv S2 N h2))⟩, ?_⟩
  refine ⟨fun _ => ⟨u', hu', cc_orders hI (fun _ S1 h1 => rc_orders h1 (fun _ S2 N h2 => nv S2 N h2))⟩, ?_⟩
  refine ⟨fun _ => cc_fault hI (fun _ S1 h1 => rc_fault h1 (fun _ S2 N h2 => nu S2 N h2)), ?_⟩
  refine ⟨fun _ => cc_stopped hI (fun _ S1 h1 => rc_stopped h1 (fun _ S2 N h2 => nu S2 N h2)), ?_⟩
  refine ⟨fun _ => ⟨i1, cc_force hI (fun _ S1 h1 => ⟨i1, rc_force h1 (fun _ S2 N h2 => nu S2 N h2)⟩)⟩, ?_⟩
  refine ⟨fun _ => ⟨i1, ⟨i2, ⟨u', hu', cc_ring hI (fun _ S1 h1 => ⟨i1, ⟨i2, rc_ring h1 (fun _ S2 N h2 => nv S2 N h2)⟩⟩)⟩⟩⟩, ?_⟩
  refine ⟨fun _ => ⟨i1, ⟨i2, ⟨i3, ⟨u', hu', cc_sell hI (fun _ S1 h1 => ⟨i1, ⟨i2, ⟨i3, rc_sell h1 (fun _ S2 N h2 => nv S2 N h2)⟩⟩⟩)⟩⟩⟩⟩, ?_⟩
  refine ⟨fun _ => ⟨i1, ⟨u', hu', cc_die hI (fun _ S1 h1 => ⟨i1, rc_die h1 (fun _ S2 N h2 => nv S2 N h2)⟩)⟩⟩, ?_⟩
  refine ⟨fun _ => ⟨u', hu', cc_pass hI (fun _ S1 h1 => rc_pass h1 (fun _ S2 N h2 => nv S2 N h2))⟩, ?_⟩
  refine ⟨fun _ => cc_undo hI (fun _ S1 h1 => rc_undo h1 (fun _ S2 N h2 => nu S2 N h2)), ?_⟩
  refine ⟨fun _ => ⟨i1, ⟨i2, ⟨i3, cc_visits hI (fun _ S1 h1 => ⟨i1, ⟨i2, ⟨i3, rc_visits h1 (fun _ S2 N h2 => nu S2 N h2)⟩⟩⟩)⟩⟩⟩, ?_⟩
  refine ⟨fun _ => ⟨i1, cc_exchange hI (fun _ S1 h1 => ⟨i1, rc_exchange h1 (fun _ S2 N h2 => nu S2 N h2)⟩)⟩, ?_⟩
  refine ⟨fun _ => ⟨i1, ⟨i2, cc_clue hI (fun _ _ S1 hP h1 => ⟨i1, ⟨i2, rc_clue h1 hP (fun S2 N h2 => nu S2 N h2)⟩⟩)⟩⟩, ?_⟩
  refine ⟨fun _ => cc_forget hI (fun _ _ S1 hP h1 => rc_forget h1 hP (fun S2 N h2 => nu S2 N h2)), ?_⟩
  refine ⟨fun _ => cc_who hI (fun _ S1 h1 => rc_who h1 (fun _ S2 N h2 => nu S2 N h2)), ?_⟩
  refine ⟨fun _ => ⟨i1, cc_look hI (fun _ S1 h1 => ⟨i1, rc_look h1 (fun _ S2 N h2 => nu S2 N h2)⟩)⟩, ?_⟩
  refine ⟨fun _ => ⟨i1, ⟨i2, cc_amend hI (fun _ S1 h1 => ⟨i1, ⟨i2, rc_amend h1 (fun _ S2 N h2 => nu S2 N h2)⟩⟩)⟩⟩, ?_⟩
  refine ⟨fun _ => ⟨i1, ⟨i2, ⟨i3, cc_given hI (fun _ S1 h1 => ⟨i1, ⟨i2, ⟨i3, rc_given h1 (fun _ S2 N h2 => nu S2 N h2)⟩⟩⟩)⟩⟩⟩, ?_⟩
  refine ⟨fun _ => ⟨i1, ⟨i2, ⟨i3, ⟨i4, cc_keep hI (fun _ S1 h1 => ⟨i1, ⟨i2, ⟨i3, ⟨i4, rc_keep h1 (fun _ S2 N h2 => nu S2 N h2)⟩⟩⟩⟩)⟩⟩⟩⟩, ?_⟩
  refine ⟨fun _ => ⟨i1, ⟨i2, ⟨i3, ⟨i4, cc_chain hI (fun _ S1 h1 => ⟨i1, ⟨i2, ⟨i3, ⟨i4, rc_chain h1 (fun _ S2 N h2 => nu S2 N h2)⟩⟩⟩⟩)⟩⟩⟩⟩, ?_⟩
  refine ⟨fun _ => ⟨i1, ⟨i2, cc_likely hI (fun _ S1 h1 => ⟨i1, ⟨i2, rc_likely h1 (fun _ S2 N h2 => nu S2 N h2)⟩⟩)⟩⟩, ?_⟩
  refine ⟨fun _ => ⟨i1, ⟨i2, cc_generations hI (fun _ S1 h1 => ⟨i1, ⟨i2, rc_generations h1 (fun _ S2 N h2 => nu S2 N h2)⟩⟩)⟩⟩, ?_⟩
  refine ⟨fun _ => ⟨i1, ⟨i2, cc_drawn hI (fun _ S1 h1 => ⟨i1, ⟨i2, rc_drawn h1 (fun _ S2 N h2 => nu S2 N h2)⟩⟩)⟩⟩, ?_⟩
  refine ⟨fun _ => ⟨i1, ⟨u', hu', cc_image hI (fun _ _ S1 hP h1 => ⟨i1, rc_image h1 hP (fun S2 N h2 => nv S2 N h2)⟩)⟩⟩, ?_⟩
  refine ⟨fun _ => ⟨i1, cc_back hI (fun _ _ S1 hP h1 => ⟨i1, rc_back h1 hP (fun S2 N h2 => nu S2 N h2)⟩)⟩, ?_⟩
  refine ⟨fun _ => ⟨i1, cc_count hI (fun _ S1 h1 => ⟨i1, rc_count h1 (fun _ S2 N h2 => nu S2 N h2)⟩)⟩, ?_⟩
  refine ⟨fun _ => cc_status hI (fun _ S1 h1 => rc_status h1 (fun _ S2 N h2 => nu S2 N h2)), ?_⟩
  exact fun _ => nu S M hI
set_option maxHeartbeats 4000000 in
theorem law_all (tx : Nat → Nat) (L : Nat) (xs : Nat → Int32) (hL : L ≤ 3072) : w_L_law tx L xs () (fun _ => none) 512 := by
  have h0 : St (fun _ => none) (fun _ => none) (fun _ => none) := ⟨fun a τ h => (by cases h), fun a e h => (by cases h)⟩
  unfold w_L_law
  refine St_nO h0 (fun x S1 hN _ => ki_X11 hN (fun Γ S2 ρ hg hx hs hl => ?_))
  intro o ho
  have go := (hs.nG ho).1
  have st : St Γ (fun _ => none) (hset S2 o (.inr (12, FX12_0))) := ⟨fun a τ ha => by
    rw [hset_ne _ _ (fun e => by rw [e, go] at ha; cases ha)]
    exact hs.1 a τ ha, fun a e ha => by cases ha⟩
  refine ri_X12 (Γ := Γ) (x := x) (S₀ := hset S2 o (.inr (12, FX12_0))) ⟨fun a τ ha => ⟨st.1 a τ ha, rfl⟩, go, hset_self _ _ _, fun y hy => (by cases hy), fun y hy => (by cases hy)⟩ st hx (fun T t3 t5 t12 t13 t11 => ?_) (fun S3 M hI => law_loop hL hI)
  -- what the class's constructor leaves
  have cell : ∀ y ∈ in11 ρ x [], hset S2 o (.inr (12, FX12_0)) y.1 = some y.2 := fun y hy => by
    obtain ⟨e1, e2⟩ := hl y hy
    rw [hset_ne _ _ (fun e => by rw [e, go] at e2; exact e2 rfl)]
    exact e1
  have c8 := cell (ρ 0, .inr (8, [.ref (bk 0 ρ 0), .int 0, .ref (bk 0 ρ 2), .ref (bk 0 ρ 3), .int 0, .ref (bk 0 ρ 5), .ref (bk 0 ρ 6), .ref (bk 0 ρ 7), .ref (bk 0 ρ 8), .int 0, .ref (bk 0 ρ 10), .ref (bk 0 ρ 11), .int 3, .int 0, .int 0, .ref (bk 0 ρ 15), .int (-1)])) (by simp [in11, in8, in2, in1, in0, in3, in4, in5, in6, in7, in9, in10])
  have ch := cell (bk 0 ρ 8, .inl (0, 8, .inl (fun _ => 0))) (by simp [in11, in8, in2, in1, in0, in3, in4, in5, in6, in7, in9, in10])
  have ci := cell (ρ 2, .inl (4, 2, .inr (.inr (.inr (.inr (fun _ => none)))))) (by simp [in11, in8, in2, in1, in0, in3, in4, in5, in6, in7, in9, in10])
  have ct := cell (ρ 4, .inr (9, [.ref (bk 4 ρ 0), .int 0, .int 0, .int 0, .int 0, .int 0])) (by simp [in11, in8, in2, in1, in0, in3, in4, in5, in6, in7, in9, in10])
  have cb := cell (bk 4 ρ 0, .inl (0, 400, .inl (fun _ => 0))) (by simp [in11, in8, in2, in1, in0, in3, in4, in5, in6, in7, in9, in10])
  refine ⟨fun j hj => ?_, fun k _ => ?_, fun k b _ hb => ?_, ?_, fun j _ => ?_, ?_⟩
  · rw [t3 j (by unfold rTk at hj; omega) (by unfold rTk at hj; omega)]
    by_cases c : j ≤ 2
    · have : j = 0 ∨ j = 1 ∨ j = 2 := by omega
      rcases this with rfl | rfl | rfl
      · exact fI_of (fv_of c8 rfl)
      · exact fI_of (fv_of c8 rfl)
      · exact fI_of (fv_of c8 rfl)
    · unfold rTk at hj
      rw [show j = 162 + (j - 162) by omega, ← sV_e (by omega)]
      exact aV_of ch _
  · rw [aO_of ci, t5]
    exact ⟨fun _ => rfl, fun _ => rfl⟩
  · rw [aO_of ci] at hb
    cases hb
  · rw [t13]; exact fI_of (fv_of ct rfl)
  · rw [t12]; exact aV_of cb _
  · rw [t11]; rfl
end LOOP
