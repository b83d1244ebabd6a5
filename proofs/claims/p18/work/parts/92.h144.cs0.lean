/-! THE CLASS'S START, EXACTLY -/
section CS0
variable {Γ : kG} {Φ : kF} {S : hS} {x : Nat} {ρ : Nat → Nat}
theorem rB_0t : rB t0.1.1 := by
  refine ⟨?_, ?_, ?_, ?_, ?_, ?_⟩
  · decide +kernel
  · decide +kernel
  · decide +kernel
  · decide +kernel
  · decide +kernel
  · decide +kernel
theorem cr_0 (hs : St Γ Φ S) (hx : Γ x = some (11, 11, 0, 0, ρ)) (cell : ∀ y ∈ in11 ρ x [], S y.1 = some y.2) : CR Γ S x ρ 0 t0 := by
  have cx := cell (x, .inr (11, [.ref (ρ 0), .ref (ρ 1), .ref (ρ 2), .ref (ρ 3), .ref (ρ 4), .ref (ρ 5), .ref (ρ 6), .ref (ρ 7), .ref (ρ 8), .ref (ρ 9), .ref (ρ 10), .int 0, .int 0, .int (-1), .int (-1), .int 0, .ref (ρ 16), .int 0])) (by simp [in11])
  have c8 := cell (ρ 0, .inr (8, [.ref (bk 0 ρ 0), .int 0, .ref (bk 0 ρ 2), .ref (bk 0 ρ 3), .int 0, .ref (bk 0 ρ 5), .ref (bk 0 ρ 6), .ref (bk 0 ρ 7), .ref (bk 0 ρ 8), .int 0, .ref (bk 0 ρ 10), .ref (bk 0 ρ 11), .int 3, .int 0, .int 0, .ref (bk 0 ρ 15), .int (-1)])) (by simp [in11, in8, in2, in1, in0, in3, in4, in5, in6, in7, in9, in10])
  have c2 := cell (bk 0 ρ 0, .inr (2, [.ref (bk 0 (bk 0 ρ) 0), .ref (bk 0 (bk 0 ρ) 1), .ref (bk 0 (bk 0 ρ) 2), .ref (bk 0 (bk 0 ρ) 3), .int 0, .int 0])) (by simp [in11, in8, in2, in1, in0, in3, in4, in5, in6, in7, in9, in10])
  have d0 := cell (bk 0 (bk 0 ρ) 0, .inl (0, 48, .inl (fun _ => 0))) (by simp [in11, in8, in2, in1, in0, in3, in4, in5, in6, in7, in9, in10])
  have d1 := cell (bk 0 (bk 0 ρ) 1, .inl (0, 48, .inl (fun _ => 0))) (by simp [in11, in8, in2, in1, in0, in3, in4, in5, in6, in7, in9, in10])
  have d2 := cell (bk 0 (bk 0 ρ) 2, .inl (0, 6, .inl (fun _ => 0))) (by simp [in11, in8, in2, in1, in0, in3, in4, in5, in6, in7, in9, in10])
  have d3 := cell (bk 0 (bk 0 ρ) 3, .inl (0, 8, .inl (fun _ => 0))) (by simp [in11, in8, in2, in1, in0, in3, in4, in5, in6, in7, in9, in10])
  have f2 := cell (bk 0 ρ 2, .inl (0, 6, .inl (fun _ => 0))) (by simp [in11, in8, in2, in1, in0, in3, in4, in5, in6, in7, in9, in10])
  have f3 := cell (bk 0 ρ 3, .inl (0, 6, .inl (fun _ => 0))) (by simp [in11, in8, in2, in1, in0, in3, in4, in5, in6, in7, in9, in10])
  have f5 := cell (bk 0 ρ 5, .inl (0, 8, .inl (fun _ => 0))) (by simp [in11, in8, in2, in1, in0, in3, in4, in5, in6, in7, in9, in10])
  have f6 := cell (bk 0 ρ 6, .inl (0, 8, .inl (fun _ => 0))) (by simp [in11, in8, in2, in1, in0, in3, in4, in5, in6, in7, in9, in10])
  have f7 := cell (bk 0 ρ 7, .inl (0, 8, .inl (fun _ => 0))) (by simp [in11, in8, in2, in1, in0, in3, in4, in5, in6, in7, in9, in10])
  have f8 := cell (bk 0 ρ 8, .inl (0, 8, .inl (fun _ => 0))) (by simp [in11, in8, in2, in1, in0, in3, in4, in5, in6, in7, in9, in10])
  have f10 := cell (bk 0 ρ 10, .inl (0, 6, .inl (fun _ => 0))) (by simp [in11, in8, in2, in1, in0, in3, in4, in5, in6, in7, in9, in10])
  have f11 := cell (bk 0 ρ 11, .inl (0, 6, .inl (fun _ => 0))) (by simp [in11, in8, in2, in1, in0, in3, in4, in5, in6, in7, in9, in10])
  have ci := cell (ρ 2, .inl (4, 2, .inr (.inr (.inr (.inr (fun _ => none)))))) (by simp [in11, in8, in2, in1, in0, in3, in4, in5, in6, in7, in9, in10])
  have c3 := cell (ρ 3, .inr (3, [.ref (bk 3 ρ 0), .ref (bk 3 ρ 1), .int 0, .int 0])) (by simp [in11, in8, in2, in1, in0, in3, in4, in5, in6, in7, in9, in10])
  have ct := cell (ρ 4, .inr (9, [.ref (bk 4 ρ 0), .int 0, .int 0, .int 0, .int 0, .int 0])) (by simp [in11, in8, in2, in1, in0, in3, in4, in5, in6, in7, in9, in10])
  have cb := cell (bk 4 ρ 0, .inl (0, 400, .inl (fun _ => 0))) (by simp [in11, in8, in2, in1, in0, in3, in4, in5, in6, in7, in9, in10])
  have cf := cell (ρ 16, .inl (0, 7, .inl (fun _ => 0))) (by simp [in11])
  have cd := cell (ρ 10, .inl (0, 48, .inl (fun _ => 0))) (by simp [in11])
  have z0 : (0 : Int32).toInt = 0 := by decide
  have h0 := (P_11_0 hs hx).2
  have e3 : iR t0.1.1 3 = 0 := by decide
  refine ⟨hx, ⟨h0, ?_, rB_0t, fun j hj => absurd hj (by rw [e3]; omega), fun j hj => absurd hj (by rw [e3]; omega)⟩, fun k hk => ⟨fun _ => by rw [aO_of ci], fun t ht => by cases ht⟩, ⟨0, by omega, Nat.zero_le _, fI_of (fv_of c3 rfl), fI_of (fv_of c3 rfl), fun k hk => absurd hk (Nat.not_lt_zero _)⟩, ⟨fI_of (fv_of ct rfl), Nat.zero_le _, fun i hi => aV_of cb _, fun i => (show 0 < 256 by omega)⟩, fun k hk => ?_, fun j hj => aV_of cf _, fun j hj => aV_of cd _, (T_rs hs hx).2, fun y hy => by cases hy⟩
  · show sV S (ρ 0) (bk 0 ρ) = upd (upd (fun _ => 0) 4 (-1)) 6 3
    have dz : ∀ j, j < 8 → dB 0 j = 0 := by decide +kernel
    have b1 : fI S (ρ 0) 1 = 0 := fI_of (fv_of c8 rfl)
    have b4 : fI S (ρ 0) 4 = 0 := fI_of (fv_of c8 rfl)
    have b9 : fI S (ρ 0) 9 = 0 := fI_of (fv_of c8 rfl)
    have b12 : fI S (ρ 0) 12 = 3 := fI_of (fv_of c8 rfl)
    have b13 : fI S (ρ 0) 13 = 0 := fI_of (fv_of c8 rfl)
    have b14 : fI S (ρ 0) 14 = 0 := fI_of (fv_of c8 rfl)
    have b16 : fI S (ρ 0) 16 = -1 := fI_of (fv_of c8 rfl)
    have l4 : fI S (bk 0 ρ 0) 4 = 0 := fI_of (fv_of c2 rfl)
    have l5 : fI S (bk 0 ρ 0) 5 = 0 := fI_of (fv_of c2 rfl)
    have a0 : ∀ j, aV S (bk 0 (bk 0 ρ) 0) j = 0 := fun j => aV_of d0 _
    have a1 : ∀ j, aV S (bk 0 (bk 0 ρ) 1) j = 0 := fun j => aV_of d1 _
    have a2 : ∀ j, aV S (bk 0 (bk 0 ρ) 2) j = 0 := fun j => aV_of d2 _
    have a3 : ∀ j, aV S (bk 0 (bk 0 ρ) 3) j = 0 := fun j => aV_of d3 _
    have x2 : ∀ j, aV S (bk 0 ρ 2) j = 0 := fun j => aV_of f2 _
    have x3 : ∀ j, aV S (bk 0 ρ 3) j = 0 := fun j => aV_of f3 _
    have x5 : ∀ j, aV S (bk 0 ρ 5) j = 0 := fun j => aV_of f5 _
    have x6 : ∀ j, aV S (bk 0 ρ 6) j = 0 := fun j => aV_of f6 _
    have x7 : ∀ j, aV S (bk 0 ρ 7) j = 0 := fun j => aV_of f7 _
    have x8 : ∀ j, aV S (bk 0 ρ 8) j = 0 := fun j => aV_of f8 _
    have x10 : ∀ j, aV S (bk 0 ρ 10) j = 0 := fun j => aV_of f10 _
    have x11 : ∀ j, aV S (bk 0 ρ 11) j = 0 := fun j => aV_of f11 _
    funext i
    unfold sV
    rw [b1, b4, b9, b12, b13, b14, b16, l4, l5]
    by_cases c : i < 8
    · rw [if_pos c]
      have : i = 0 ∨ i = 1 ∨ i = 2 ∨ i = 3 ∨ i = 4 ∨ i = 5 ∨ i = 6 ∨ i = 7 := by omega
      rcases this with rfl | rfl | rfl | rfl | rfl | rfl | rfl | rfl <;> rfl
    · rw [if_neg c, upd_ne _ _ (by omega), upd_ne _ _ (by omega)]
      rw [a2, a3, a0, a1, x2, x3, x5, x6, x7, x8, x10, x11]
      by_cases c1 : i < 14
      · rw [if_pos c1]
      · rw [if_neg c1]
        by_cases c2 : i < 22
        · rw [if_pos c2]
        · rw [if_neg c2]
          by_cases c3 : i < 30
          · rw [if_pos c3]
            exact dz _ (by omega)
          · rw [if_neg c3]
            simp only [ite_self]
  · have : k = 0 ∨ k = 1 ∨ k = 2 ∨ k = 3 ∨ k = 4 := by omega
    rcases this with rfl | rfl | rfl | rfl | rfl
    · exact fI_of (fv_of cx rfl)
    · exact fI_of (fv_of cx rfl)
    · exact fI_of (fv_of cx rfl)
    · exact fI_of (fv_of cx rfl)
    · exact fI_of (fv_of cx rfl)
end CS0
