/-! EACH CALL OF BOTH, EXACTLY -/
section HP
variable {S : hS} {x o : Nat} {M : mS} {rs rc rr : Nat} {T Tc Tr : aS} {tx : Nat → Nat}
theorem hc_house {q : Int32 → hS → Prop} {a b : Int32} (hI : HV S x o M rs T rs T) (hq : ∀ S', HV S' x o M rs (spHouse a b T).2 rs T → q (spHouse a b T).1 S') : oK S x 11 ∧ w_X11_house q S x a b := by
  obtain ⟨Γ, Φ, ρ, hs, hf, hC, hgo⟩ := hI.clx ([11, 1216, 3] ++ tnN)
  exact T_oK_11 hs hC.1 (cx_house hC hs hf (fun S' h' c' => hq S' (hgo Γ S' _ _ idH h' (fun _ => c'))))
theorem hr_house {q : Int32 → hS → Prop} {a b : Int32} (hI : HV S x o M rs (spHouse a b T).2 rs T) (hq : ∀ S' N, HV S' x o N rs (spHouse a b T).2 rs (spHouse a b T).2 → q (spHouse a b T).1 S') : oK S o 12 ∧ w_X12_house q S o a b := by
  have hB := hI.abd
  obtain ⟨ad, hd, hM, e, hR, hA, hN⟩ := hI.ref
  rw [← e]
  exact ⟨ov_oK, xr_house hd hM hR hA (fun N hm hr => hq _ N (hN N _ _ hm hr hB))⟩
theorem hc_person {q : Int32 → hS → Prop} {a b c : Int32} (hI : HV S x o M rs T rs T) (hq : ∀ S', HV S' x o M rs (spPerson a b c T).2 rs T → q (spPerson a b c T).1 S') : oK S x 11 ∧ w_X11_person q S x a b c := by
  obtain ⟨Γ, Φ, ρ, hs, hf, hC, hgo⟩ := hI.clx ([11, 1216, 3] ++ tnN)
  exact T_oK_11 hs hC.1 (cx_person hC hs hf (fun S' h' c' => hq S' (hgo Γ S' _ _ idH h' (fun _ => c'))))
theorem hr_person {q : Int32 → hS → Prop} {a b c : Int32} (hI : HV S x o M rs (spPerson a b c T).2 rs T) (hq : ∀ S' N, HV S' x o N rs (spPerson a b c T).2 rs (spPerson a b c T).2 → q (spPerson a b c T).1 S') : oK S o 12 ∧ w_X12_person q S o a b c := by
  have hB := hI.abd
  obtain ⟨ad, hd, hM, e, hR, hA, hN⟩ := hI.ref
  rw [← e]
  exact ⟨ov_oK, xr_person hd hM hR hA (fun N hm hr => hq _ N (hN N _ _ hm hr hB))⟩
theorem hc_want {q : Int32 → hS → Prop} {a b : Int32} (hI : HV S x o M rs T rs T) (hq : ∀ S', HV S' x o M rs (spWant a b T).2 rs T → q (spWant a b T).1 S') : oK S x 11 ∧ w_X11_want q S x a b := by
  obtain ⟨Γ, Φ, ρ, hs, hf, hC, hgo⟩ := hI.clx ([11, 1216, 3] ++ tnN)
  exact T_oK_11 hs hC.1 (cx_want hC hs hf (fun S' h' c' => hq S' (hgo Γ S' _ _ idH h' (fun _ => c'))))
theorem hr_want {q : Int32 → hS → Prop} {a b : Int32} (hI : HV S x o M rs (spWant a b T).2 rs T) (hq : ∀ S' N, HV S' x o N rs (spWant a b T).2 rs (spWant a b T).2 → q (spWant a b T).1 S') : oK S o 12 ∧ w_X12_want q S o a b := by
  have hB := hI.abd
  obtain ⟨ad, hd, hM, e, hR, hA, hN⟩ := hI.ref
  rw [← e]
  exact ⟨ov_oK, xr_want hd hM hR hA (fun N hm hr => hq _ N (hN N _ _ hm hr hB))⟩
theorem hc_will {q : Int32 → hS → Prop} {a b : Int32} (hI : HV S x o M rs T rs T) (hq : ∀ S', HV S' x o M rs (spWill a b T).2 rs T → q (spWill a b T).1 S') : oK S x 11 ∧ w_X11_will q S x a b := by
  obtain ⟨Γ, Φ, ρ, hs, hf, hC, hgo⟩ := hI.clx ([11, 1216, 3] ++ tnN)
  exact T_oK_11 hs hC.1 (cx_will hC hs hf (fun S' h' c' => hq S' (hgo Γ S' _ _ idH h' (fun _ => c'))))
theorem hr_will {q : Int32 → hS → Prop} {a b : Int32} (hI : HV S x o M rs (spWill a b T).2 rs T) (hq : ∀ S' N, HV S' x o N rs (spWill a b T).2 rs (spWill a b T).2 → q (spWill a b T).1 S') : oK S o 12 ∧ w_X12_will q S o a b := by
  have hB := hI.abd
  obtain ⟨ad, hd, hM, e, hR, hA, hN⟩ := hI.ref
  rw [← e]
  exact ⟨ov_oK, xr_will hd hM hR hA (fun N hm hr => hq _ N (hN N _ _ hm hr hB))⟩
theorem hc_right {q : Int32 → hS → Prop} {a b c : Int32} (hI : HV S x o M rs T rs T) (hq : ∀ S', HV S' x o M rs (spRight a b c T).2 rs T → q (spRight a b c T).1 S') : oK S x 11 ∧ w_X11_right q S x a b c := by
  obtain ⟨Γ, Φ, ρ, hs, hf, hC, hgo⟩ := hI.clx ([11, 1216, 3] ++ tnN)
  exact T_oK_11 hs hC.1 (cx_right hC hs hf (fun S' h' c' => hq S' (hgo Γ S' _ _ idH h' (fun _ => c'))))
theorem hr_right {q : Int32 → hS → Prop} {a b c : Int32} (hI : HV S x o M rs (spRight a b c T).2 rs T) (hq : ∀ S' N, HV S' x o N rs (spRight a b c T).2 rs (spRight a b c T).2 → q (spRight a b c T).1 S') : oK S o 12 ∧ w_X12_right q S o a b c := by
  have hB := hI.abd
  obtain ⟨ad, hd, hM, e, hR, hA, hN⟩ := hI.ref
  rw [← e]
  exact ⟨ov_oK, xr_right hd hM hR hA (fun N hm hr => hq _ N (hN N _ _ hm hr hB))⟩
theorem hc_terms {q : Int32 → hS → Prop} {a b : Int32} (hI : HV S x o M rs T rs T) (hq : ∀ S', HV S' x o M rs (spTerms a b T).2 rs T → q (spTerms a b T).1 S') : oK S x 11 ∧ w_X11_terms q S x a b := by
  obtain ⟨Γ, Φ, ρ, hs, hf, hC, hgo⟩ := hI.clx ([11, 1216, 3] ++ tnN)
  exact T_oK_11 hs hC.1 (cx_terms hC hs hf (fun S' h' c' => hq S' (hgo Γ S' _ _ idH h' (fun _ => c'))))
theorem hr_terms {q : Int32 → hS → Prop} {a b : Int32} (hI : HV S x o M rs (spTerms a b T).2 rs T) (hq : ∀ S' N, HV S' x o N rs (spTerms a b T).2 rs (spTerms a b T).2 → q (spTerms a b T).1 S') : oK S o 12 ∧ w_X12_terms q S o a b := by
  have hB := hI.abd
  obtain ⟨ad, hd, hM, e, hR, hA, hN⟩ := hI.ref
  rw [← e]
  exact ⟨ov_oK, xr_terms hd hM hR (fun N hm hr => hq _ N (hN N _ _ hm hr hB))⟩
theorem hc_feed {q : Int32 → hS → Prop} {a b c d e : Int32} (hI : HV S x o M rs T rs T) (hq : ∀ S', HV S' x o M rs (spFeed a b c d e T).2 rs T → q (spFeed a b c d e T).1 S') : oK S x 11 ∧ w_X11_feed q S x a b c d e := by
  obtain ⟨Γ, Φ, ρ, hs, hf, hC, hgo⟩ := hI.clx [9, 1000]
  exact T_oK_11 hs hC.1 (cx_feed hC hs hf (fun S' h' c' => hq S' (hgo Γ S' _ _ idH h' (fun _ => c'))))
theorem hr_feed {q : Int32 → hS → Prop} {a b c d e : Int32} (hI : HV S x o M rs (spFeed a b c d e T).2 rs T) (hq : ∀ S' N, HV S' x o N rs (spFeed a b c d e T).2 rs (spFeed a b c d e T).2 → q (spFeed a b c d e T).1 S') : oK S o 12 ∧ w_X12_feed q S o a b c d e := by
  have hB := hI.abd
  obtain ⟨ad, hd, hM, e, hR, hA, hN⟩ := hI.ref
  rw [← e]
  exact ⟨ov_oK, xr_feed hd hM hR (fun N hm hr => hq _ N (hN N _ _ hm hr hB))⟩
theorem hc_end {q : Int32 → hS → Prop} {a : Int32} (hI : HV S x o M rs T rs T) (hq : ∀ S', HV S' x o M rs (spEnd a T).2 rs T → q (spEnd a T).1 S') : oK S x 11 ∧ w_X11_end q S x a := by
  obtain ⟨Γ, Φ, ρ, hs, hf, hC, hgo⟩ := hI.clx [9, 1000]
  exact T_oK_11 hs hC.1 (cx_end hC hs hf (fun S' h' c' => hq S' (hgo Γ S' _ _ idH h' (fun _ => c'))))
theorem hr_end {q : Int32 → hS → Prop} {a : Int32} (hI : HV S x o M rs (spEnd a T).2 rs T) (hq : ∀ S' N, HV S' x o N rs (spEnd a T).2 rs (spEnd a T).2 → q (spEnd a T).1 S') : oK S o 12 ∧ w_X12_end q S o a := by
  have hB := hI.abd
  obtain ⟨ad, hd, hM, e, hR, hA, hN⟩ := hI.ref
  rw [← e]
  exact ⟨ov_oK, xr_end hd hM hR (fun N hm hr => hq _ N (hN N _ _ hm hr hB))⟩
theorem hc_clue {q : Int32 → hS → Prop} {a b : Int32} (hI : HV S x o M rs T rs T) (hq : ∀ S', HV S' x o M rs (spClue a b T).2 rs T → q (spClue a b T).1 S') : oK S x 11 ∧ w_X11_clue q S x a b := by
  obtain ⟨Γ, Φ, ρ, hs, hf, hC, hgo⟩ := hI.clx ([11, 1216, 3] ++ tnN)
  exact T_oK_11 hs hC.1 (cx_clue hC hs hf (fun S' h' c' => hq S' (hgo Γ S' _ _ idH h' (fun _ => c'))))
theorem hr_clue {q : Int32 → hS → Prop} {a b : Int32} (hI : HV S x o M rs (spClue a b T).2 rs T) (hq : ∀ S' N, HV S' x o N rs (spClue a b T).2 rs (spClue a b T).2 → q (spClue a b T).1 S') : oK S o 12 ∧ w_X12_clue q S o a b := by
  have hB := hI.abd
  obtain ⟨ad, hd, hM, e, hR, hA, hN⟩ := hI.ref
  rw [← e]
  exact ⟨ov_oK, xr_clue hd hM hR hA (fun N hm hr => hq _ N (hN N _ _ hm hr hB))⟩
theorem hc_forget {q : Int32 → hS → Prop} (hI : HV S x o M rs T rs T) (hq : ∀ S', HV S' x o M rs (spForget T).2 rs T → q (spForget T).1 S') : oK S x 11 ∧ w_X11_forget q S x := by
  obtain ⟨Γ, Φ, ρ, hs, hf, hC, hgo⟩ := hI.clx ([11, 1216, 3] ++ tnN)
  exact T_oK_11 hs hC.1 (cx_forget hC hs hf (fun S' h' c' => hq S' (hgo Γ S' _ _ idH h' (fun _ => c'))))
theorem hr_forget {q : Int32 → hS → Prop} (hI : HV S x o M rs (spForget T).2 rs T) (hq : ∀ S' N, HV S' x o N rs (spForget T).2 rs (spForget T).2 → q (spForget T).1 S') : oK S o 12 ∧ w_X12_forget q S o := by
  have hB := hI.abd
  obtain ⟨ad, hd, hM, e, hR, hA, hN⟩ := hI.ref
  rw [← e]
  exact ⟨ov_oK, xr_forget hd hM hR (fun N hm hr => hq _ N (hN N _ _ hm hr hB))⟩
theorem hc_force {q : Int32 → hS → Prop} {a : Int32} (hI : HV S x o M rs T rs T) (hq : ∀ S', HV S' x o M rs (spForce a T).2 rs T → q (spForce a T).1 S') : oK S x 11 ∧ w_X11_force q S x a := by
  obtain ⟨Γ, Φ, ρ, hs, hf, hC, hgo⟩ := hI.clx ([11, 1216, 3] ++ tnN)
  exact T_oK_11 hs hC.1 (cx_force hC hs hf (fun S' h' c' => hq S' (hgo Γ S' _ _ idH h' (fun _ => c'))))
theorem hr_force {q : Int32 → hS → Prop} {a : Int32} (hI : HV S x o M rs (spForce a T).2 rs T) (hq : ∀ S' N, HV S' x o N rs (spForce a T).2 rs (spForce a T).2 → q (spForce a T).1 S') : oK S o 12 ∧ w_X12_force q S o a := by
  have hB := hI.abd
  obtain ⟨ad, hd, hM, e, hR, hA, hN⟩ := hI.ref
  rw [← e]
  exact ⟨ov_oK, xr_force hd hM hR hA (fun N hm hr => hq _ N (hN N _ _ hm hr hB))⟩
theorem hc_image {q : Int32 → hS → Prop} {a : Int32} (hI : HV S x o M rs T rs T) (hq : ∀ S', HV S' x o M rs (spImage a T).2 rs T → q (spImage a T).1 S') : oK S x 11 ∧ w_X11_image q S x a := by
  obtain ⟨Γ, Φ, ρ, hs, hf, hC, hgo⟩ := hI.clx imgN
  exact T_oK_11 hs hC.1 (cx_image hC hs hf (fun Γ' S' hg h' c' => hq S' (hgo Γ' S' _ _ (gro_or hg) h' (fun _ => c'))))
theorem hr_image {q : Int32 → hS → Prop} {a : Int32} (hI : HV S x o M rs (spImage a T).2 rs T) (hq : ∀ S' N, HV S' x o N rs (spImage a T).2 rs (spImage a T).2 → q (spImage a T).1 S') : oK S o 12 ∧ w_X12_image q S o a := by
  have hB := hI.abd
  obtain ⟨ad, hd, hM, e, hR, hA, hN⟩ := hI.ref
  rw [← e]
  exact ⟨ov_oK, xr_image hd hM hR hA (fun N hm hr => hq _ N (hN N _ _ hm hr hB))⟩
theorem hc_back {q : Int32 → hS → Prop} {a : Int32} (hI : HV S x o M rs T rs T) (hq : ∀ S', HV S' x o M rs (spBack a T).2 rs T → q (spBack a T).1 S') : oK S x 11 ∧ w_X11_back q S x a := by
  obtain ⟨Γ, Φ, ρ, hs, hf, hC, hgo⟩ := hI.clx imgN
  exact T_oK_11 hs hC.1 (cx_back hC hs hf (fun S' h' c' => hq S' (hgo Γ S' _ _ idH h' (fun _ => c'))))
theorem hr_back {q : Int32 → hS → Prop} {a : Int32} (hI : HV S x o M rs (spBack a T).2 rs T) (hq : ∀ S' N, HV S' x o N rs (spBack a T).2 rs (spBack a T).2 → q (spBack a T).1 S') : oK S o 12 ∧ w_X12_back q S o a := by
  have hB := hI.abd
  obtain ⟨ad, hd, hM, e, hR, hA, hN⟩ := hI.ref
  rw [← e]
  exact ⟨ov_oK, xr_back hd hM hR hA (fun N hm hr => hq _ N (hN N _ _ hm hr hB))⟩
theorem hc_orders {q : Int32 → hS → Prop} (hI : HV S x o M rs T rs T) (hq : ∀ S', HV S' x o M rs (spOrders T).2 rs T → q (spOrders T).1 S') : oK S x 11 ∧ w_X11_orders tx q S x := by
  obtain ⟨Γ, Φ, ρ, hs, hf, hC, hgo⟩ := hI.clx ordN
  exact T_oK_11 hs hC.1 (cx_orders hC hs hf (fun Γ' S' hg h' c' => hq S' (hgo Γ' S' _ _ (gro_or hg) h' (fun _ => c'))))
theorem hr_orders {q : Int32 → hS → Prop} (hI : HV S x o M rs (spOrders T).2 rs T) (hq : ∀ S' N, HV S' x o N rs (spOrders T).2 rs (spOrders T).2 → q (spOrders T).1 S') : oK S o 12 ∧ w_X12_orders q S o := by
  have hB := hI.abd
  obtain ⟨ad, hd, hM, e, hR, hA, hN⟩ := hI.ref
  rw [← e]
  exact ⟨ov_oK, xr_orders hd hM hR hA (fun N hm hr => hq _ N (hN N _ _ hm hr hB))⟩
theorem hc_law {q : Int32 → hS → Prop} (hI : HV S x o M rs T rs T) (hq : ∀ S', HV S' x o M rs (spLaw T).2 rs T → q (spLaw T).1 S') : oK S x 11 ∧ w_X11_law tx q S x := by
  obtain ⟨Γ, Φ, ρ, hs, hf, hC, hgo⟩ := hI.clx ([11, 1216, 8, 915] ++ rdN)
  exact T_oK_11 hs hC.1 (cx_law hC hs hf (fun Γ' S' hg h' c' => hq S' (hgo Γ' S' _ _ (gro_or hg) h' (fun _ => c'))))
theorem hr_law {q : Int32 → hS → Prop} (hI : HV S x o M rs (spLaw T).2 rs T) (hq : ∀ S' N, HV S' x o N rs (spLaw T).2 rs (spLaw T).2 → q (spLaw T).1 S') : oK S o 12 ∧ w_X12_law q S o := by
  have hB := hI.abd
  have hL := hI.okl
  have okn : ∀ r cs, iR T.1.1 3 < 6 → lawTx T.2.2.2.1 = (r, some cs) → okL cs := fun r cs h6 e => by
    have b3 := (hI.abT).1.1 3 (by omega)
    rw [show rLo 3 = 0 by decide] at b3
    have es : spLaw T = spAcc (nI (iR T.1.1 3).toNat) ((upd T.1.1 3 (nI ((iR T.1.1 3).toNat + 1)), updL T.1.2 (iR T.1.1 3).toNat cs), (aEm (aFl (-1) T)).2) := by
      unfold spLaw
      rw [if_pos h6, e]
    rw [es] at hL
    have := hL (iR T.1.1 3).toNat (by
      show ((iR T.1.1 3).toNat : Int) < iR (upd T.1.1 3 (nI ((iR T.1.1 3).toNat + 1))) 3
      unfold iR at *
      rw [upd_self, nI_toInt (by omega)]
      omega)
    have e2 : updL T.1.2 (iR T.1.1 3).toNat cs (iR T.1.1 3).toNat = cs := if_pos rfl
    rw [← e2]
    exact this
  obtain ⟨ad, hd, hM, e, hR, hA, hN⟩ := hI.ref
  rw [← e]
  exact ⟨ov_oK, xr_law hd hM hR hA okn (fun N hm hr => hq _ N (hN N _ _ hm hr hB))⟩
theorem hc_generations {q : Int32 → hS → Prop} {a b : Int32} (hI : HV S x o M rs T rs T) (hq : ∀ S', HV S' x o M rs (spGen a.toInt b.toInt T).2 rs T → q (spGen a.toInt b.toInt T).1 S') : oK S x 11 ∧ w_X11_generations q S x a b := by
  obtain ⟨Γ, Φ, ρ, hs, hf, hC, hgo⟩ := hI.clx genN
  exact T_oK_11 hs hC.1 (cx_gen hC hs hf (fun Γ' S' hg h' c' => hq S' (hgo Γ' S' _ _ (gro_or hg) h' (fun _ => c'))))
theorem hr_generations {q : Int32 → hS → Prop} {a b : Int32} (hI : HV S x o M rs (spGen a.toInt b.toInt T).2 rs T) (hq : ∀ S' N, HV S' x o N rs (spGen a.toInt b.toInt T).2 rs (spGen a.toInt b.toInt T).2 → q (spGen a.toInt b.toInt T).1 S') : oK S o 12 ∧ w_X12_generations q S o a b := by
  have hB := hI.abd
  obtain ⟨ad, hd, hM, e, hR, hA, hN⟩ := hI.ref
  rw [← e]
  exact ⟨ov_oK, xr_gen hd hM hR hA (fun N hm hr => hq _ N (hN N _ _ hm hr hB))⟩
theorem hc_ring {q : Int32 → hS → Prop} {a b : Int32} (hI : HV S x o M rs T rs T) (hq : ∀ S', HV S' x o M rs (spDeed 0 a.toInt b.toInt 0 T).2 rs T → q (spDeed 0 a.toInt b.toInt 0 T).1 S') : oK S x 11 ∧ w_X11_ring q S x a b := by
  obtain ⟨Γ, Φ, ρ, hs, hf, hC, hgo⟩ := hI.clx d0N
  exact T_oK_11 hs hC.1 (cx_ring hC hs hf (fun Γ' S' hg h' c' => hq S' (hgo Γ' S' _ _ (gro_or hg) h' (fun _ => c'))))
theorem hr_ring {q : Int32 → hS → Prop} {a b : Int32} (hI : HV S x o M rs (spDeed 0 a.toInt b.toInt 0 T).2 rs T) (hq : ∀ S' N, HV S' x o N rs (spDeed 0 a.toInt b.toInt 0 T).2 rs (spDeed 0 a.toInt b.toInt 0 T).2 → q (spDeed 0 a.toInt b.toInt 0 T).1 S') : oK S o 12 ∧ w_X12_ring q S o a b := by
  have hB := hI.abd
  obtain ⟨ad, hd, hM, e, hR, hA, hN⟩ := hI.ref
  rw [← e]
  exact ⟨ov_oK, xr_ring hd hM hR hA (fun N hm hr => hq _ N (hN N _ _ (mOk_self hm) hr hB))⟩
theorem hc_sell {q : Int32 → hS → Prop} {a b c : Int32} (hI : HV S x o M rs T rs T) (hq : ∀ S', HV S' x o M rs (spDeed 1 a.toInt b.toInt c.toInt T).2 rs T → q (spDeed 1 a.toInt b.toInt c.toInt T).1 S') : oK S x 11 ∧ w_X11_sell q S x a b c := by
  obtain ⟨Γ, Φ, ρ, hs, hf, hC, hgo⟩ := hI.clx d0N
  exact T_oK_11 hs hC.1 (cx_sell hC hs hf (fun Γ' S' hg h' c' => hq S' (hgo Γ' S' _ _ (gro_or hg) h' (fun _ => c'))))
theorem hr_sell {q : Int32 → hS → Prop} {a b c : Int32} (hI : HV S x o M rs (spDeed 1 a.toInt b.toInt c.toInt T).2 rs T) (hq : ∀ S' N, HV S' x o N rs (spDeed 1 a.toInt b.toInt c.toInt T).2 rs (spDeed 1 a.toInt b.toInt c.toInt T).2 → q (spDeed 1 a.toInt b.toInt c.toInt T).1 S') : oK S o 12 ∧ w_X12_sell q S o a b c := by
  have hB := hI.abd
  obtain ⟨ad, hd, hM, e, hR, hA, hN⟩ := hI.ref
  rw [← e]
  exact ⟨ov_oK, xr_sell hd hM hR hA (fun N hm hr => hq _ N (hN N _ _ (mOk_self hm) hr hB))⟩
theorem hc_die {q : Int32 → hS → Prop} {a : Int32} (hI : HV S x o M rs T rs T) (hq : ∀ S', HV S' x o M rs (spDeed 2 a.toInt 0 0 T).2 rs T → q (spDeed 2 a.toInt 0 0 T).1 S') : oK S x 11 ∧ w_X11_die q S x a := by
  obtain ⟨Γ, Φ, ρ, hs, hf, hC, hgo⟩ := hI.clx d0N
  exact T_oK_11 hs hC.1 (cx_die hC hs hf (fun Γ' S' hg h' c' => hq S' (hgo Γ' S' _ _ (gro_or hg) h' (fun _ => c'))))
theorem hr_die {q : Int32 → hS → Prop} {a : Int32} (hI : HV S x o M rs (spDeed 2 a.toInt 0 0 T).2 rs T) (hq : ∀ S' N, HV S' x o N rs (spDeed 2 a.toInt 0 0 T).2 rs (spDeed 2 a.toInt 0 0 T).2 → q (spDeed 2 a.toInt 0 0 T).1 S') : oK S o 12 ∧ w_X12_die q S o a := by
  have hB := hI.abd
  obtain ⟨ad, hd, hM, e, hR, hA, hN⟩ := hI.ref
  rw [← e]
  exact ⟨ov_oK, xr_die hd hM hR hA (fun N hm hr => hq _ N (hN N _ _ (mOk_self hm) hr hB))⟩
theorem hc_pass {q : Int32 → hS → Prop} (hI : HV S x o M rs T rs T) (hq : ∀ S', HV S' x o M rs (spDeed 3 0 0 0 T).2 rs T → q (spDeed 3 0 0 0 T).1 S') : oK S x 11 ∧ w_X11_pass q S x := by
  obtain ⟨Γ, Φ, ρ, hs, hf, hC, hgo⟩ := hI.clx d0N
  exact T_oK_11 hs hC.1 (cx_pass hC hs hf (fun Γ' S' hg h' c' => hq S' (hgo Γ' S' _ _ (gro_or hg) h' (fun _ => c'))))
theorem hr_pass {q : Int32 → hS → Prop} (hI : HV S x o M rs (spDeed 3 0 0 0 T).2 rs T) (hq : ∀ S' N, HV S' x o N rs (spDeed 3 0 0 0 T).2 rs (spDeed 3 0 0 0 T).2 → q (spDeed 3 0 0 0 T).1 S') : oK S o 12 ∧ w_X12_pass q S o := by
  have hB := hI.abd
  obtain ⟨ad, hd, hM, e, hR, hA, hN⟩ := hI.ref
  rw [← e]
  exact ⟨ov_oK, xr_pass hd hM hR hA (fun N hm hr => hq _ N (hN N _ _ (mOk_self hm) hr hB))⟩
theorem hc_undo {q : Int32 → hS → Prop} (hI : HV S x o M rs T rs T) (hq : ∀ S', HV S' x o M rs (spUndo T).2 rs T → q (spUndo T).1 S') : oK S x 11 ∧ w_X11_undo q S x := by
  obtain ⟨Γ, Φ, ρ, hs, hf, hC, hgo⟩ := hI.clx d0N
  exact T_oK_11 hs hC.1 (cx_undo hC hs hf (fun S' h' c' => hq S' (hgo Γ S' _ _ idH h' (fun _ => c'))))
theorem hr_undo {q : Int32 → hS → Prop} (hI : HV S x o M rs (spUndo T).2 rs T) (hq : ∀ S' N, HV S' x o N rs (spUndo T).2 rs (spUndo T).2 → q (spUndo T).1 S') : oK S o 12 ∧ w_X12_undo q S o := by
  have hB := hI.abd
  obtain ⟨ad, hd, hM, e, hR, hA, hN⟩ := hI.ref
  rw [← e]
  exact ⟨ov_oK, xr_undo hd hM hR hA (fun N hm hr => hq _ N (hN N _ _ (mOk_self hm) hr hB))⟩
theorem hc_row {q : Int32 → hS → Prop} (hI : HV S x o M rs T rs T) (hq : ∀ S', HV S' x o M (rowRs T rs) (spRow T).2 rs T → q (spRow T).1 S') : oK S x 11 ∧ w_X11_row q S x := by
  obtain ⟨Γ, Φ, ρ, hs, hf, hC, hgo⟩ := hI.clx ([11, 1216, 3, 9] ++ tnN)
  exact T_oK_11 hs hC.1 (cx_row hC hs hf (fun Γ' S' hg h' c' => hq S' (hgo Γ' S' _ _ hg h' (fun _ => c'))))
theorem hr_row {q : Int32 → hS → Prop} (hI : HV S x o M (rowRs T rs) (spRow T).2 rs T) (hq : ∀ S' N, HV S' x o N (rowRs T rs) (spRow T).2 (rowRs T rs) (spRow T).2 → q (spRow T).1 S') : oK S o 12 ∧ w_X12_row q S o := by
  have hB := hI.abd
  obtain ⟨ad, hd, hM, e, hR, hA, hN⟩ := hI.ref
  rw [← e]
  exact ⟨ov_oK, xr_row hd hM hR (fun N hm hr => hq _ N (hN N _ _ hm hr hB))⟩
theorem hc_at {q : Int32 → hS → Prop} {a b : Int32} (hI : HV S x o M rs T rs T) (hq : ∀ S', HV S' x o M rs T rs T → q (spAt a b T) S') : oK S x 11 ∧ w_X11_at q S x a b := by
  obtain ⟨Γ, Φ, ρ, hs, hf, hC, hgo⟩ := hI.clx [101, 700]
  exact T_oK_11 hs hC.1 (cx_at hC hs hf (fun S' h' c' => hq S' (hgo Γ S' _ _ idH h' (fun _ => c'))))
theorem hr_at {q : Int32 → hS → Prop} {a b : Int32} (hI : HV S x o M rs T rs T) (hq : ∀ S' N, HV S' x o N rs T rs T → q (spAt a b T) S') : oK S o 12 ∧ w_X12_at q S o a b := by
  obtain ⟨ad, hd, hM, e, hR, hA, hN⟩ := hI.ref
  rw [← e]
  exact ⟨ov_oK, xr_at hd hM hR hA (fun N hm hr => hq _ N (hN N _ _ hm hr hA))⟩
theorem hc_of {q : Int32 → hS → Prop} {a b : Int32} (hI : HV S x o M rs T rs T) (hq : ∀ S', HV S' x o M rs T rs T → q (spOf a b T) S') : oK S x 11 ∧ w_X11_of q S x a b := by
  obtain ⟨Γ, Φ, ρ, hs, hf, hC, hgo⟩ := hI.clx []
  exact T_oK_11 hs hC.1 (cx_of hC hs (fun S' h' c' => hq S' (hgo Γ S' _ _ idH h' (fun _ => c'))))
theorem hr_of {q : Int32 → hS → Prop} {a b : Int32} (hI : HV S x o M rs T rs T) (hq : ∀ S' N, HV S' x o N rs T rs T → q (spOf a b T) S') : oK S o 12 ∧ w_X12_of q S o a b := by
  obtain ⟨ad, hd, hM, e, hR, hA, hN⟩ := hI.ref
  rw [← e]
  exact ⟨ov_oK, xr_of hd hM hR hA (fun N hm hr => hq _ N (hN N _ _ hm hr hA))⟩
theorem hc_has {q : Int32 → hS → Prop} {a b c : Int32} (hI : HV S x o M rs T rs T) (hq : ∀ S', HV S' x o M rs T rs T → q (spHas a b c T) S') : oK S x 11 ∧ w_X11_has q S x a b c := by
  obtain ⟨Γ, Φ, ρ, hs, hf, hC, hgo⟩ := hI.clx [101, 700]
  exact T_oK_11 hs hC.1 (cx_has hC hs hf (fun S' h' c' => hq S' (hgo Γ S' _ _ idH h' (fun _ => c'))))
theorem hr_has {q : Int32 → hS → Prop} {a b c : Int32} (hI : HV S x o M rs T rs T) (hq : ∀ S' N, HV S' x o N rs T rs T → q (spHas a b c T) S') : oK S o 12 ∧ w_X12_has q S o a b c := by
  obtain ⟨ad, hd, hM, e, hR, hA, hN⟩ := hI.ref
  rw [← e]
  exact ⟨ov_oK, xr_has hd hM hR hA (fun N hm hr => hq _ N (hN N _ _ hm hr hA))⟩
theorem hc_asks {q : Int32 → hS → Prop} {a b c d : Int32} (hI : HV S x o M rs T rs T) (hq : ∀ S', HV S' x o M rs T rs T → q (spAsks a b c d T) S') : oK S x 11 ∧ w_X11_asks q S x a b c d := by
  obtain ⟨Γ, Φ, ρ, hs, hf, hC, hgo⟩ := hI.clx [101, 700]
  exact T_oK_11 hs hC.1 (cx_asks hC hs hf (fun S' h' c' => hq S' (hgo Γ S' _ _ idH h' (fun _ => c'))))
theorem hr_asks {q : Int32 → hS → Prop} {a b c d : Int32} (hI : HV S x o M rs T rs T) (hq : ∀ S' N, HV S' x o N rs T rs T → q (spAsks a b c d T) S') : oK S o 12 ∧ w_X12_asks q S o a b c d := by
  obtain ⟨ad, hd, hM, e, hR, hA, hN⟩ := hI.ref
  rw [← e]
  exact ⟨ov_oK, xr_asks hd hM hR hA (fun N hm hr => hq _ N (hN N _ _ hm hr hA))⟩
theorem hc_drawn {q : Int32 → hS → Prop} {a b : Int32} (hI : HV S x o M rs T rs T) (hq : ∀ S', HV S' x o M rs T rs T → q (spDrawn a b T) S') : oK S x 11 ∧ w_X11_drawn q S x a b := by
  obtain ⟨Γ, Φ, ρ, hs, hf, hC, hgo⟩ := hI.clx []
  exact T_oK_11 hs hC.1 (cx_drawn hC hs (hq S hI))
theorem hr_drawn {q : Int32 → hS → Prop} {a b : Int32} (hI : HV S x o M rs T rs T) (hq : ∀ S' N, HV S' x o N rs T rs T → q (spDrawn a b T) S') : oK S o 12 ∧ w_X12_drawn q S o a b := by
  obtain ⟨ad, hd, hM, e, hR, hA, hN⟩ := hI.ref
  rw [← e]
  exact ⟨ov_oK, xr_drawn hd hM hR (fun N hm hr => hq _ N (hN N _ _ hm hr hA))⟩
theorem hc_count {q : Int32 → hS → Prop} {a : Int32} (hI : HV S x o M rs T rs T) (hq : ∀ S', HV S' x o M rs T rs T → q (spCount a T) S') : oK S x 11 ∧ w_X11_count q S x a := by
  obtain ⟨Γ, Φ, ρ, hs, hf, hC, hgo⟩ := hI.clx []
  exact T_oK_11 hs hC.1 (cx_count hC hs (hq S hI))
theorem hr_count {q : Int32 → hS → Prop} {a : Int32} (hI : HV S x o M rs T rs T) (hq : ∀ S' N, HV S' x o N rs T rs T → q (spCount a T) S') : oK S o 12 ∧ w_X12_count q S o a := by
  obtain ⟨ad, hd, hM, e, hR, hA, hN⟩ := hI.ref
  rw [← e]
  exact ⟨ov_oK, xr_count hd hM hR hA (fun N hm hr => hq _ N (hN N _ _ hm hr hA))⟩
theorem hc_status {q : Int32 → hS → Prop} (hI : HV S x o M rs T rs T) (hq : ∀ S', HV S' x o M rs T rs T → q (T.2.2.2.2.1 2) S') : oK S x 11 ∧ w_X11_status q S x := by
  obtain ⟨Γ, Φ, ρ, hs, hf, hC, hgo⟩ := hI.clx []
  exact T_oK_11 hs hC.1 (cx_status hC hs (hq S hI))
theorem hr_status {q : Int32 → hS → Prop} (hI : HV S x o M rs T rs T) (hq : ∀ S' N, HV S' x o N rs T rs T → q (T.2.2.2.2.1 2) S') : oK S o 12 ∧ w_X12_status q S o := by
  obtain ⟨ad, hd, hM, e, hR, hA, hN⟩ := hI.ref
  rw [← e]
  exact ⟨ov_oK, xr_status hd hM hR (fun N hm hr => hq _ N (hN N _ _ hm hr hA))⟩
theorem hc_fault {q : Int32 → hS → Prop} (hI : HV S x o M rs T rs T) (hq : ∀ S', HV S' x o M rs T rs T → q (T.2.2.2.2.1 0) S') : oK S x 11 ∧ w_X11_fault q S x := by
  obtain ⟨Γ, Φ, ρ, hs, hf, hC, hgo⟩ := hI.clx []
  exact T_oK_11 hs hC.1 (cx_fault hC hs (hq S hI))
theorem hr_fault {q : Int32 → hS → Prop} (hI : HV S x o M rs T rs T) (hq : ∀ S' N, HV S' x o N rs T rs T → q (T.2.2.2.2.1 0) S') : oK S o 12 ∧ w_X12_fault q S o := by
  obtain ⟨ad, hd, hM, e, hR, hA, hN⟩ := hI.ref
  rw [← e]
  exact ⟨ov_oK, xr_fault hd hM hR (fun N hm hr => hq _ N (hN N _ _ hm hr hA))⟩
theorem hc_stopped {q : Int32 → hS → Prop} (hI : HV S x o M rs T rs T) (hq : ∀ S', HV S' x o M rs T rs T → q (T.2.2.2.2.1 1) S') : oK S x 11 ∧ w_X11_stopped q S x := by
  obtain ⟨Γ, Φ, ρ, hs, hf, hC, hgo⟩ := hI.clx []
  exact T_oK_11 hs hC.1 (cx_stopped hC hs (hq S hI))
theorem hr_stopped {q : Int32 → hS → Prop} (hI : HV S x o M rs T rs T) (hq : ∀ S' N, HV S' x o N rs T rs T → q (T.2.2.2.2.1 1) S') : oK S o 12 ∧ w_X12_stopped q S o := by
  obtain ⟨ad, hd, hM, e, hR, hA, hN⟩ := hI.ref
  rw [← e]
  exact ⟨ov_oK, xr_stopped hd hM hR (fun N hm hr => hq _ N (hN N _ _ hm hr hA))⟩
theorem hc_rust {q : Int32 → hS → Prop} (hI : HV S x o M rs T rs T) (hq : ∀ S', HV S' x o M rs T rs T → q (nI rs) S') : oK S x 11 ∧ w_X11_rust q S x := by
  obtain ⟨Γ, Φ, ρ, hs, hf, hC, hgo⟩ := hI.clx []
  exact T_oK_11 hs hC.1 (cx_rust hC hs (hq S hI))
theorem hr_rust {q : Int32 → hS → Prop} (hI : HV S x o M rs T rs T) (hq : ∀ S' N, HV S' x o N rs T rs T → q (nI rs) S') : oK S o 12 ∧ w_X12_rust q S o := by
  obtain ⟨ad, hd, hM, e, hR, hA, hN⟩ := hI.ref
  rw [← e]
  exact ⟨ov_oK, xr_rust hd hM hR (fun N hm hr => hq _ N (hN N _ _ hm hr hA))⟩
set_option maxRecDepth 16384 in
theorem hc_visits {q : Int32 → hS → Prop} {a b c : Int32} (hI : HV S x o M rs T rs T) (hq : ∀ r S', HV S' x o M rs T rs T → q r S') : oK S x 11 ∧ w_X11_visits q S x a b c := by
  obtain ⟨Γ, Φ, ρ, hs, hf, hC, hgo⟩ := hI.clx [4, 500, 503]
  exact T_oK_11 hs hC.1 (kc_X11_visits hs hf hC.1 (fun r Γ' S' hg h' => hq r S' (hgo Γ' S' _ _ (gro_or hg) h' (fun hm => hC.sm hs hg hm (by decide)))))
theorem hr_visits {q : Int32 → hS → Prop} {a b c : Int32} (hI : HV S x o M rs T rs T) (hq : ∀ r S' N, HV S' x o N rs T rs T → q r S') : oK S o 12 ∧ w_X12_visits q S o a b c := by
  obtain ⟨ad, hd, hM, e, hR, hA, hN⟩ := hI.ref
  rw [← e]
  exact ⟨ov_oK, px_visits (mT := M) hd ⟨hM, hR⟩ (fun r N hm => hq r _ N (hN N _ _ (mOk_self hm.1) hm.2 hA))⟩
set_option maxRecDepth 16384 in
theorem hc_exchange {q : Int32 → hS → Prop} {a : Int32} (hI : HV S x o M rs T rs T) (hq : ∀ r S', HV S' x o M rs T rs T → q r S') : oK S x 11 ∧ w_X11_exchange q S x a := by
  obtain ⟨Γ, Φ, ρ, hs, hf, hC, hgo⟩ := hI.clx [4, 505, 506]
  exact T_oK_11 hs hC.1 (kc_X11_exchange hs hf hC.1 (fun r Γ' S' hg h' => hq r S' (hgo Γ' S' _ _ (gro_or hg) h' (fun hm => hC.sm hs hg hm (by decide)))))
theorem hr_exchange {q : Int32 → hS → Prop} {a : Int32} (hI : HV S x o M rs T rs T) (hq : ∀ r S' N, HV S' x o N rs T rs T → q r S') : oK S o 12 ∧ w_X12_exchange q S o a := by
  obtain ⟨ad, hd, hM, e, hR, hA, hN⟩ := hI.ref
  rw [← e]
  exact ⟨ov_oK, px_exchange (mT := M) hd ⟨hM, hR⟩ (fun r N hm => hq r _ N (hN N _ _ (mOk_self hm.1) hm.2 hA))⟩
set_option maxRecDepth 16384 in
theorem hc_who {q : Int32 → hS → Prop} (hI : HV S x o M rs T rs T) (hq : ∀ r S', HV S' x o M rs T rs T → q r S') : oK S x 11 ∧ w_X11_who q S x := by
  obtain ⟨Γ, Φ, ρ, hs, hf, hC, hgo⟩ := hI.clx []
  exact T_oK_11 hs hC.1 (kc_X11_who hs hf hC.1 (fun r Γ' S' hg h' => hq r S' (hgo Γ' S' _ _ (gro_or hg) h' (fun hm => hC.sm hs hg hm (by decide)))))
theorem hr_who {q : Int32 → hS → Prop} (hI : HV S x o M rs T rs T) (hq : ∀ r S' N, HV S' x o N rs T rs T → q r S') : oK S o 12 ∧ w_X12_who q S o := by
  obtain ⟨ad, hd, hM, e, hR, hA, hN⟩ := hI.ref
  rw [← e]
  exact ⟨ov_oK, px_who (mT := M) hd ⟨hM, hR⟩ (fun r N hm => hq r _ N (hN N _ _ (mOk_self hm.1) hm.2 hA))⟩
set_option maxRecDepth 16384 in
theorem hc_look {q : Int32 → hS → Prop} {a : Int32} (hI : HV S x o M rs T rs T) (hq : ∀ r S', HV S' x o M rs T rs T → q r S') : oK S x 11 ∧ w_X11_look q S x a := by
  obtain ⟨Γ, Φ, ρ, hs, hf, hC, hgo⟩ := hI.clx []
  exact T_oK_11 hs hC.1 (kc_X11_look hs hf hC.1 (fun r Γ' S' hg h' => hq r S' (hgo Γ' S' _ _ (gro_or hg) h' (fun hm => hC.sm hs hg hm (by decide)))))
theorem hr_look {q : Int32 → hS → Prop} {a : Int32} (hI : HV S x o M rs T rs T) (hq : ∀ r S' N, HV S' x o N rs T rs T → q r S') : oK S o 12 ∧ w_X12_look q S o a := by
  obtain ⟨ad, hd, hM, e, hR, hA, hN⟩ := hI.ref
  rw [← e]
  exact ⟨ov_oK, px_look (mT := M) hd ⟨hM, hR⟩ (fun r N hm => hq r _ N (hN N _ _ (mOk_self hm.1) hm.2 hA))⟩
set_option maxRecDepth 16384 in
theorem hc_amend {q : Int32 → hS → Prop} {a b : Int32} (hI : HV S x o M rs T rs T) (hq : ∀ r S', HV S' x o M rs T rs T → q r S') : oK S x 11 ∧ w_X11_amend q S x a b := by
  obtain ⟨Γ, Φ, ρ, hs, hf, hC, hgo⟩ := hI.clx []
  exact T_oK_11 hs hC.1 (kc_X11_amend hs hf hC.1 (fun r Γ' S' hg h' => hq r S' (hgo Γ' S' _ _ (gro_or hg) h' (fun hm => hC.sm hs hg hm (by decide)))))
theorem hr_amend {q : Int32 → hS → Prop} {a b : Int32} (hI : HV S x o M rs T rs T) (hq : ∀ r S' N, HV S' x o N rs T rs T → q r S') : oK S o 12 ∧ w_X12_amend q S o a b := by
  obtain ⟨ad, hd, hM, e, hR, hA, hN⟩ := hI.ref
  rw [← e]
  exact ⟨ov_oK, px_amend (mT := M) hd ⟨hM, hR⟩ (fun r N hm => hq r _ N (hN N _ _ (mOk_self hm.1) hm.2 hA))⟩
set_option maxRecDepth 16384 in
theorem hc_given {q : Int32 → hS → Prop} {a b c : Int32} (hI : HV S x o M rs T rs T) (hq : ∀ r S', HV S' x o M rs T rs T → q r S') : oK S x 11 ∧ w_X11_given q S x a b c := by
  obtain ⟨Γ, Φ, ρ, hs, hf, hC, hgo⟩ := hI.clx [800]
  exact T_oK_11 hs hC.1 (kc_X11_given hs hf hC.1 (fun r Γ' S' hg h' => hq r S' (hgo Γ' S' _ _ (gro_or hg) h' (fun hm => hC.sm hs hg hm (by decide)))))
theorem hr_given {q : Int32 → hS → Prop} {a b c : Int32} (hI : HV S x o M rs T rs T) (hq : ∀ r S' N, HV S' x o N rs T rs T → q r S') : oK S o 12 ∧ w_X12_given q S o a b c := by
  obtain ⟨ad, hd, hM, e, hR, hA, hN⟩ := hI.ref
  rw [← e]
  exact ⟨ov_oK, px_given (mT := M) hd ⟨hM, hR⟩ (fun r N hm => hq r _ N (hN N _ _ (mOk_self hm.1) hm.2 hA))⟩
set_option maxRecDepth 16384 in
theorem hc_keep {q : Int32 → hS → Prop} {a b c d : Int32} (hI : HV S x o M rs T rs T) (hq : ∀ r S', HV S' x o M rs T rs T → q r S') : oK S x 11 ∧ w_X11_keep q S x a b c d := by
  obtain ⟨Γ, Φ, ρ, hs, hf, hC, hgo⟩ := hI.clx [101, 700, 801, 802, 803]
  exact T_oK_11 hs hC.1 (kc_X11_keep hs hf hC.1 (fun r Γ' S' hg h' => hq r S' (hgo Γ' S' _ _ (gro_or hg) h' (fun hm => hC.sm hs hg hm (by decide)))))
theorem hr_keep {q : Int32 → hS → Prop} {a b c d : Int32} (hI : HV S x o M rs T rs T) (hq : ∀ r S' N, HV S' x o N rs T rs T → q r S') : oK S o 12 ∧ w_X12_keep q S o a b c d := by
  obtain ⟨ad, hd, hM, e, hR, hA, hN⟩ := hI.ref
  rw [← e]
  exact ⟨ov_oK, px_keep (mT := M) hd ⟨hM, hR⟩ (fun r N hm => hq r _ N (hN N _ _ (mOk_self hm.1) hm.2 hA))⟩
set_option maxRecDepth 16384 in
theorem hc_chain {q : Int32 → hS → Prop} {a b c d : Int32} (hI : HV S x o M rs T rs T) (hq : ∀ r S', HV S' x o M rs T rs T → q r S') : oK S x 11 ∧ w_X11_chain q S x a b c d := by
  obtain ⟨Γ, Φ, ρ, hs, hf, hC, hgo⟩ := hI.clx [101, 700, 4, 507, 508, 509]
  exact T_oK_11 hs hC.1 (kc_X11_chain hs hf hC.1 (fun r Γ' S' hg h' => hq r S' (hgo Γ' S' _ _ (gro_or hg) h' (fun hm => hC.sm hs hg hm (by decide)))))
theorem hr_chain {q : Int32 → hS → Prop} {a b c d : Int32} (hI : HV S x o M rs T rs T) (hq : ∀ r S' N, HV S' x o N rs T rs T → q r S') : oK S o 12 ∧ w_X12_chain q S o a b c d := by
  obtain ⟨ad, hd, hM, e, hR, hA, hN⟩ := hI.ref
  rw [← e]
  exact ⟨ov_oK, px_chain (mT := M) hd ⟨hM, hR⟩ (fun r N hm => hq r _ N (hN N _ _ (mOk_self hm.1) hm.2 hA))⟩
set_option maxRecDepth 16384 in
theorem hc_likely {q : Int64 → hS → Prop} {a b : Int32} (hI : HV S x o M rs T rs T) (hq : ∀ r S', HV S' x o M rs T rs T → q r S') : oK S x 11 ∧ w_X11_likely q S x a b := by
  obtain ⟨Γ, Φ, ρ, hs, hf, hC, hgo⟩ := hI.clx [804]
  exact T_oK_11 hs hC.1 (kc_X11_likely hs hf hC.1 (fun r Γ' S' hg h' => hq r S' (hgo Γ' S' _ _ (gro_or hg) h' (fun hm => hC.sm hs hg hm (by decide)))))
theorem hr_likely {q : Int64 → hS → Prop} {a b : Int32} (hI : HV S x o M rs T rs T) (hq : ∀ r S' N, HV S' x o N rs T rs T → q r S') : oK S o 12 ∧ w_X12_likely q S o a b := by
  obtain ⟨ad, hd, hM, e, hR, hA, hN⟩ := hI.ref
  rw [← e]
  exact ⟨ov_oK, px_likely (mT := M) hd ⟨hM, hR⟩ (fun r N hm => hq r _ N (hN N _ _ (mOk_self hm.1) hm.2 hA))⟩
end HP
