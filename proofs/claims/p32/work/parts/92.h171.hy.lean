/-! THE CHEAPEST CHAIN, BOTH SIDES -/
section HY
variable {S : hS} {x o : Nat} {M : mS} {rs : Nat} {T : aS}
set_option maxRecDepth 16384 in
theorem hcx_chain {q : Int32 → hS → Prop} {a b c d : Int32} (hI : HV S x o M rs T rs T) (hq : ∀ S', HV S' x o M rs T rs T → q (spChain a b c d T) S') : oK S x 11 ∧ w_X11_chain q S x a b c d := by
  obtain ⟨Γ, Φ, ρ, hs, hf, hC, hgo⟩ := hI.cly [101, 700, 4, 507, 508, 509] (by decide)
  exact T_oK_11 hs (hC S hs).1 (cx_chain hs hf (fun _ h => h) hC (fun S' h' => hq S' (hgo S' h')))
theorem hrx_chain {q : Int32 → hS → Prop} {a b c d : Int32} (hI : HV S x o M rs T rs T) (hq : ∀ S' N, HV S' x o N rs T rs T → q (spChain a b c d T) S') : oK S o 12 ∧ w_X12_chain q S o a b c d := by
  obtain ⟨ad, hd, hM, e, hR, hA, hN⟩ := hI.ref
  rw [← e]
  exact ⟨ov_oK, x_chain hd hM hR hA (fun N hm hr => hq _ N (hN N _ _ (mOk_self hm) hr hA))⟩
end HY
