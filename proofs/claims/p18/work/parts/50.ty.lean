/-! LAYER 2, the class: kinds of cells. A kind: a number, a name for what may be changed, two sizes, a book: where what the object holds lies -/
abbrev kT : Type := Nat × Nat × Nat × Nat × (Nat → Nat)
def k0 : Nat → Nat := fun _ => 0
/-- the book of what field k holds; a book made of a field's addresses and of the books of what they hold -/
def bk (k : Nat) (ρ : Nat → Nat) : Nat → Nat := fun j => ρ (32 * (j + 1) + k)
def mkb (f : Nat → Nat) (s : Nat → Nat → Nat) : Nat → Nat := fun n => if n < 32 then f n else s (n % 32) (n / 32 - 1)
theorem bk_mkb {f : Nat → Nat} {s : Nat → Nat → Nat} {k : Nat} (hk : k < 32) : bk k (mkb f s) = s k := by
  funext j
  unfold bk mkb
  rw [if_neg (by omega), show (32 * (j + 1) + k) % 32 = k by omega, show (32 * (j + 1) + k) / 32 - 1 = j by omega]
abbrev kG : Type := Nat → Option kT
abbrev kF : Type := Nat → Option hE
/-- a field's value; an int's, a reference's; what stands in an array -/
def fv (S : hS) (a k : Nat) : Value := match S a with
  | some (.inr (_, fs)) => fs.getD k .null
  | _ => .null
def fI (S : hS) (a k : Nat) : Int32 := match fv S a k with
  | .int x => x
  | _ => 0
def fP (S : hS) (a k : Nat) : Nat := match fv S a k with
  | .ref x => x
  | _ => 0
def aV (S : hS) (a j : Nat) : Int32 := match S a with
  | some (.inl (_, _, .inl f)) => f j
  | _ => 0
def aO (S : hS) (a j : Nat) : Option Nat := match S a with
  | some (.inl (_, _, .inr (.inr (.inr (.inr f))))) => f j
  | _ => none
/-- a law's text: any sizes up to the largest -/
def isTx (Γ : kG) (b : Nat) : Prop := ∃ (c n : Nat) (ρ : Nat → Nat), Γ b = some (10, 19, c, n, ρ) ∧ c ≤ 12 ∧ n ≤ 400
def arI (n : Nat) (lo hi : Int) (e : Option hE) : Prop := n ≤ 1000 ∧ ∃ f, e = some (.inl (0, n, .inl f)) ∧ ∀ j, j < n → lo ≤ (f j).toInt ∧ (f j).toInt ≤ hi
def arJ (n : Nat) (e : Option hE) : Prop := n ≤ 1000 ∧ ∃ f, e = some (.inl (1, n, .inr (.inl f)))
def arR (kd n : Nat) (p : Nat → Nat → Prop) (e : Option hE) : Prop := n ≤ 1000 ∧ ∃ f, e = some (.inl (kd, n, .inr (.inr (.inr (.inr f))))) ∧ ∀ j, j < n → ∀ b, f j = some b → p j b
def cl0 (Γ : kG) (τ : kT) (e : Option hE) : Prop := ∃ (a0 : Nat) (a1 : Nat), e = some (.inr (0, [.ref a0, .ref a1])) ∧ (a0 = τ.2.2.2.2 0 ∧ Γ a0 = some (6, 6, 0, 0, bk 0 τ.2.2.2.2)) ∧ (a1 = τ.2.2.2.2 1 ∧ Γ a1 = some (20, 101, 9, 0, k0))
def cl1 (Γ : kG) (τ : kT) (e : Option hE) : Prop := ∃ (a0 : Nat) (a1 : Nat) (a2 : Nat) (a3 : Int32) (a4 : Int32) (a5 : Int32), e = some (.inr (1, [.ref a0, .ref a1, .ref a2, .int a3, .int a4, .int a5])) ∧ (a0 = τ.2.2.2.2 0 ∧ Γ a0 = some (0, 0, 0, 0, bk 0 τ.2.2.2.2)) ∧ (a1 = τ.2.2.2.2 1 ∧ Γ a1 = some (6, 6, 0, 0, bk 1 τ.2.2.2.2)) ∧ (a2 = τ.2.2.2.2 2 ∧ Γ a2 = some (20, 202, 26, 0, k0))
def cl2 (Γ : kG) (τ : kT) (e : Option hE) : Prop := ∃ (a0 : Nat) (a1 : Nat) (a2 : Nat) (a3 : Nat) (a4 : Int32) (a5 : Int32), e = some (.inr (2, [.ref a0, .ref a1, .ref a2, .ref a3, .int a4, .int a5])) ∧ (a0 = τ.2.2.2.2 0 ∧ Γ a0 = some (20, 300 + 10000 * τ.2.2.1, 48, 0, k0)) ∧ (a1 = τ.2.2.2.2 1 ∧ Γ a1 = some (20, 301 + 10000 * τ.2.2.1, 48, 0, k0)) ∧ (a2 = τ.2.2.2.2 2 ∧ Γ a2 = some (20, 302 + 10000 * τ.2.2.1, 6, 0, k0)) ∧ (a3 = τ.2.2.2.2 3 ∧ Γ a3 = some (20, 303 + 10000 * τ.2.2.1, 8, 0, k0))
def cl3 (Γ : kG) (τ : kT) (e : Option hE) : Prop := ∃ (a0 : Nat) (a1 : Nat) (a2 : Int32) (a3 : Int32), e = some (.inr (3, [.ref a0, .ref a1, .int a2, .int a3])) ∧ (a0 = τ.2.2.2.2 0 ∧ Γ a0 = some (27, 400, 16, 0, k0)) ∧ (a1 = τ.2.2.2.2 1 ∧ Γ a1 = some (20, 401, 16, 0, k0)) ∧ (0 ≤ a2.toInt ∧ a2.toInt ≤ 15)
def cl4 (Γ : kG) (τ : kT) (e : Option hE) : Prop := ∃ (a0 : Nat) (a1 : Int32) (a2 : Int32) (a3 : Nat) (a4 : Int32) (a5 : Nat) (a6 : Nat) (a7 : Nat) (a8 : Nat) (a9 : Nat) (a10 : Int32), e = some (.inr (4, [.ref a0, .int a1, .int a2, .ref a3, .int a4, .ref a5, .ref a6, .ref a7, .ref a8, .ref a9, .int a10])) ∧ (a0 = τ.2.2.2.2 0 ∧ Γ a0 = some (20, 500, 6, 0, k0)) ∧ (a3 = τ.2.2.2.2 3 ∧ Γ a3 = some (20, 503, 6, 0, k0)) ∧ (0 ≤ a4.toInt ∧ a4.toInt ≤ 6) ∧ (a5 = τ.2.2.2.2 5 ∧ Γ a5 = some (20, 505, 256, 0, k0)) ∧ (a6 = τ.2.2.2.2 6 ∧ Γ a6 = some (20, 506, 8, 0, k0)) ∧ (a7 = τ.2.2.2.2 7 ∧ Γ a7 = some (20, 507, 64, 0, k0)) ∧ (a8 = τ.2.2.2.2 8 ∧ Γ a8 = some (20, 508, 8, 0, k0)) ∧ (a9 = τ.2.2.2.2 9 ∧ Γ a9 = some (20, 509, 8, 0, k0)) ∧ (0 ≤ a10.toInt ∧ a10.toInt ≤ 8)
def cl5 (Γ : kG) (τ : kT) (e : Option hE) : Prop := ∃ (a0 : Nat) (a1 : Nat) (a2 : Int32) (a3 : Int32), e = some (.inr (5, [.ref a0, .ref a1, .int a2, .int a3])) ∧ (a0 = τ.2.2.2.2 0 ∧ Γ a0 = some (10, 10, 12, 400, bk 0 τ.2.2.2.2)) ∧ (a1 = τ.2.2.2.2 1 ∧ Γ a1 = some (9, 9, 0, 0, bk 1 τ.2.2.2.2))
def cl6 (Γ : kG) (τ : kT) (e : Option hE) : Prop := ∃ (a0 : Nat), e = some (.inr (6, [.ref a0])) ∧ (a0 = τ.2.2.2.2 0 ∧ Γ a0 = some (20, 700, 52, 0, k0))
def cl7 (Γ : kG) (τ : kT) (e : Option hE) : Prop := ∃ (a0 : Nat) (a1 : Nat) (a2 : Nat) (a3 : Nat) (a4 : Nat), e = some (.inr (7, [.ref a0, .ref a1, .ref a2, .ref a3, .ref a4])) ∧ (a0 = τ.2.2.2.2 0 ∧ Γ a0 = some (20, 800, 8, 0, k0)) ∧ (a1 = τ.2.2.2.2 1 ∧ Γ a1 = some (20, 801, 8, 0, k0)) ∧ (a2 = τ.2.2.2.2 2 ∧ Γ a2 = some (20, 802, 8, 0, k0)) ∧ (a3 = τ.2.2.2.2 3 ∧ Γ a3 = some (20, 803, 189, 0, k0)) ∧ (a4 = τ.2.2.2.2 4 ∧ Γ a4 = some (25, 804, 21, 0, k0))
def cl8 (Γ : kG) (τ : kT) (e : Option hE) : Prop := ∃ (a0 : Nat) (a1 : Int32) (a2 : Nat) (a3 : Nat) (a4 : Int32) (a5 : Nat) (a6 : Nat) (a7 : Nat) (a8 : Nat) (a9 : Int32) (a10 : Nat) (a11 : Nat) (a12 : Int32) (a13 : Int32) (a14 : Int32) (a15 : Nat) (a16 : Int32), e = some (.inr (8, [.ref a0, .int a1, .ref a2, .ref a3, .int a4, .ref a5, .ref a6, .ref a7, .ref a8, .int a9, .ref a10, .ref a11, .int a12, .int a13, .int a14, .ref a15, .int a16])) ∧ (a0 = τ.2.2.2.2 0 ∧ Γ a0 = some (2, 2 + 10000 * τ.2.2.1, τ.2.2.1, 0, bk 0 τ.2.2.2.2)) ∧ (0 ≤ a1.toInt ∧ a1.toInt ≤ 6) ∧ (a2 = τ.2.2.2.2 2 ∧ Γ a2 = some (20, 902 + 10000 * τ.2.2.1, 6, 0, k0)) ∧ (a3 = τ.2.2.2.2 3 ∧ Γ a3 = some (20, 903 + 10000 * τ.2.2.1, 6, 0, k0)) ∧ (0 ≤ a4.toInt ∧ a4.toInt ≤ 8) ∧ (a5 = τ.2.2.2.2 5 ∧ Γ a5 = some (20, 905 + 10000 * τ.2.2.1, 8, 0, k0)) ∧ (a6 = τ.2.2.2.2 6 ∧ Γ a6 = some (20, 906 + 10000 * τ.2.2.1, 8, 0, k0)) ∧ (a7 = τ.2.2.2.2 7 ∧ Γ a7 = some (20, 907 + 10000 * τ.2.2.1, 8, 0, k0)) ∧ (a8 = τ.2.2.2.2 8 ∧ Γ a8 = some (20, 908 + 10000 * τ.2.2.1, 8, 0, k0)) ∧ (0 ≤ a9.toInt ∧ a9.toInt ≤ 6) ∧ (a10 = τ.2.2.2.2 10 ∧ Γ a10 = some (21, 910 + 10000 * τ.2.2.1, 6, 0, k0)) ∧ (a11 = τ.2.2.2.2 11 ∧ Γ a11 = some (20, 911 + 10000 * τ.2.2.1, 6, 0, k0)) ∧ (0 ≤ a14.toInt ∧ a14.toInt ≤ 6) ∧ (a15 = τ.2.2.2.2 15 ∧ Γ a15 = some (28, 915 + 10000 * τ.2.2.1, 6, 0, k0))
def cl9 (Γ : kG) (τ : kT) (e : Option hE) : Prop := ∃ (a0 : Nat) (a1 : Int32) (a2 : Int32) (a3 : Int32) (a4 : Int32) (a5 : Int32), e = some (.inr (9, [.ref a0, .int a1, .int a2, .int a3, .int a4, .int a5])) ∧ (a0 = τ.2.2.2.2 0 ∧ Γ a0 = some (22, 1000, 400, 0, k0)) ∧ (0 ≤ a1.toInt ∧ a1.toInt ≤ 400) ∧ (0 ≤ a3.toInt ∧ a3.toInt ≤ 400) ∧ (0 ≤ a4.toInt ∧ a4.toInt ≤ 10000) ∧ (0 ≤ a5.toInt ∧ a5.toInt ≤ 400)
def cl10 (Γ : kG) (τ : kT) (e : Option hE) : Prop := ∃ (a0 : Int32) (a1 : Int32) (a2 : Int32) (a3 : Nat) (a4 : Nat) (a5 : Nat) (a6 : Nat), e = some (.inr (10, [.int a0, .int a1, .int a2, .ref a3, .ref a4, .ref a5, .ref a6])) ∧ (0 ≤ a0.toInt ∧ a0.toInt ≤ τ.2.2.1) ∧ (0 ≤ a1.toInt ∧ a1.toInt ≤ τ.2.2.2.1) ∧ (0 ≤ a2.toInt ∧ a2.toInt ≤ 3) ∧ (a3 = τ.2.2.2.2 3 ∧ Γ a3 = some (20, τ.2.1 + 1093, τ.2.2.1, 0, k0)) ∧ (a4 = τ.2.2.2.2 4 ∧ Γ a4 = some (20, τ.2.1 + 1094, τ.2.2.1, 0, k0)) ∧ (a5 = τ.2.2.2.2 5 ∧ Γ a5 = some (23, τ.2.1 + 1095, 5 * τ.2.2.1, 0, k0)) ∧ (a6 = τ.2.2.2.2 6 ∧ Γ a6 = some (24, τ.2.1 + 1096, τ.2.2.2.1, 0, k0)) ∧ (τ.2.2.1 ≤ 12) ∧ (τ.2.2.2.1 ≤ 400)
def cl11 (Γ : kG) (τ : kT) (e : Option hE) : Prop := ∃ (a0 : Nat) (a1 : Nat) (a2 : Nat) (a3 : Nat) (a4 : Nat) (a5 : Nat) (a6 : Nat) (a7 : Nat) (a8 : Nat) (a9 : Nat) (a10 : Nat) (a11 : Int32) (a12 : Int32) (a13 : Int32) (a14 : Int32) (a15 : Int32) (a16 : Nat) (a17 : Int32), e = some (.inr (11, [.ref a0, .ref a1, .ref a2, .ref a3, .ref a4, .ref a5, .ref a6, .ref a7, .ref a8, .ref a9, .ref a10, .int a11, .int a12, .int a13, .int a14, .int a15, .ref a16, .int a17])) ∧ (a0 = τ.2.2.2.2 0 ∧ Γ a0 = some (8, 8 + 10000 * 0, 0, 0, bk 0 τ.2.2.2.2)) ∧ (a1 = τ.2.2.2.2 1 ∧ Γ a1 = some (8, 8 + 10000 * 1, 1, 0, bk 1 τ.2.2.2.2)) ∧ (a2 = τ.2.2.2.2 2 ∧ Γ a2 = some (26, 1202, 2, 0, k0)) ∧ (a3 = τ.2.2.2.2 3 ∧ Γ a3 = some (3, 3, 0, 0, bk 3 τ.2.2.2.2)) ∧ (a4 = τ.2.2.2.2 4 ∧ Γ a4 = some (9, 9, 0, 0, bk 4 τ.2.2.2.2)) ∧ (a5 = τ.2.2.2.2 5 ∧ Γ a5 = some (5, 5, 0, 0, bk 5 τ.2.2.2.2)) ∧ (a6 = τ.2.2.2.2 6 ∧ Γ a6 = some (0, 0, 0, 0, bk 6 τ.2.2.2.2)) ∧ (a7 = τ.2.2.2.2 7 ∧ Γ a7 = some (1, 1, 0, 0, bk 7 τ.2.2.2.2)) ∧ (a8 = τ.2.2.2.2 8 ∧ Γ a8 = some (4, 4, 0, 0, bk 8 τ.2.2.2.2)) ∧ (a9 = τ.2.2.2.2 9 ∧ Γ a9 = some (7, 7, 0, 0, bk 9 τ.2.2.2.2)) ∧ (a10 = τ.2.2.2.2 10 ∧ Γ a10 = some (20, 1210, 48, 0, k0)) ∧ (0 ≤ a11.toInt ∧ a11.toInt ≤ 8) ∧ (0 ≤ a12.toInt ∧ a12.toInt ≤ 6) ∧ (a16 = τ.2.2.2.2 16 ∧ Γ a16 = some (20, 1216, 7, 0, k0)) ∧ (a15 = nI τ.2.2.2.1) ∧ (bk 5 τ.2.2.2.2 1 = τ.2.2.2.2 4)
def cellOk (Γ : kG) (τ : kT) (e : Option hE) : Prop := (τ.1 = 0 → cl0 Γ τ e) ∧ (τ.1 = 1 → cl1 Γ τ e) ∧ (τ.1 = 2 → cl2 Γ τ e) ∧ (τ.1 = 3 → cl3 Γ τ e) ∧ (τ.1 = 4 → cl4 Γ τ e) ∧ (τ.1 = 5 → cl5 Γ τ e) ∧ (τ.1 = 6 → cl6 Γ τ e) ∧ (τ.1 = 7 → cl7 Γ τ e) ∧ (τ.1 = 8 → cl8 Γ τ e) ∧ (τ.1 = 9 → cl9 Γ τ e) ∧ (τ.1 = 10 → cl10 Γ τ e) ∧ (τ.1 = 11 → cl11 Γ τ e) ∧ (τ.1 = 20 → arI τ.2.2.1 (-2147483648) (2147483647) e) ∧ (τ.1 = 21 → arI τ.2.2.1 (0) (5) e) ∧ (τ.1 = 22 → arI τ.2.2.1 (0) (255) e) ∧ (τ.1 = 23 → arI τ.2.2.1 (0) (400) e) ∧ (τ.1 = 24 → arI τ.2.2.1 (0) (43007) e) ∧ (τ.1 = 25 → arJ τ.2.2.1 e) ∧ (τ.1 = 26 → arR 4 τ.2.2.1 (fun j b => ∃ ρ, Γ b = some (8, 8 + 10000 * (2 + j), 2 + j, 0, ρ)) e) ∧ (τ.1 = 27 → arR 3 τ.2.2.1 (fun j b => ∃ ρ, Γ b = some (2, 2 + 10000 * (10 + j), 10 + j, 0, ρ)) e) ∧ (τ.1 = 28 → arR 5 τ.2.2.1 (fun j b => isTx Γ b) e) ∧ (τ.1 < 12 ∨ (20 ≤ τ.1 ∧ τ.1 ≤ 28))
/-- the heap is as Γ says, and what Φ keeps is as Φ says -/
def St (Γ : kG) (Φ : kF) (S : hS) : Prop := (∀ a τ, Γ a = some τ → cellOk Γ τ (S a)) ∧ ∀ a e, Φ a = some e → S a = some e
/-- what is named in L is not kept -/
def fre (Γ : kG) (Φ : kF) (L : List Nat) : Prop := ∀ a τ, Γ a = some τ → τ.2.1 ∈ L → Φ a = none
theorem fre.sub {Γ : kG} {Φ : kF} {L L' : List Nat} (h : fre Γ Φ L) (hs : ∀ x ∈ L', x ∈ L) : fre Γ Φ L' := fun a τ ha hm => h a τ ha (hs _ hm)
def sEq (S S' : hS) : Prop := ∀ b j, fv S' b j = fv S b j
def sEqx (S S' : hS) (a k : Nat) : Prop := ∀ b j, ¬ (b = a ∧ j = k) → fv S' b j = fv S b j
def aEq (S S' : hS) : Prop := (∀ b j, aV S' b j = aV S b j) ∧ ∀ b j, aO S' b j = aO S b j
theorem fv_hset_ne {S : hS} {a b k : Nat} {e : hE} (h : b ≠ a) : fv (hset S a e) b k = fv S b k := by unfold fv; rw [hset_ne _ _ h]
theorem fv_hset_inl {S : hS} {a b k : Nat} {x y : Nat × vp_A} (h : S a = some (.inl x)) : fv (hset S a (.inl y)) b k = fv S b k := by
  by_cases e : b = a
  · subst e; unfold fv; rw [hset_self, h]
  · exact fv_hset_ne e
theorem aV_hset_ne {S : hS} {a b k : Nat} {e : hE} (h : b ≠ a) : aV (hset S a e) b k = aV S b k := by unfold aV; rw [hset_ne _ _ h]
theorem aO_hset_ne {S : hS} {a b k : Nat} {e : hE} (h : b ≠ a) : aO (hset S a e) b k = aO S b k := by unfold aO; rw [hset_ne _ _ h]
theorem aEq_hset {S : hS} {a : Nat} {x y : Nat × List Value} (h : S a = some (.inr x)) : aEq S (hset S a (.inr y)) := by
  refine ⟨fun b j => ?_, fun b j => ?_⟩
  · by_cases e : b = a
    · subst e; unfold aV; rw [hset_self, h]
    · exact aV_hset_ne e
  · by_cases e : b = a
    · subst e; unfold aO; rw [hset_self, h]
    · exact aO_hset_ne e
theorem fv_of {S : hS} {a k ci : Nat} {fs : List Value} {v : Value} (h : S a = some (.inr (ci, fs))) (hk : fs[k]? = some v) : fv S a k = v := by
  unfold fv
  rw [h]
  show fs.getD k .null = v
  rw [List.getD_eq_getElem?_getD, hk]
  rfl
theorem fI_of {S : hS} {a k : Nat} {x : Int32} (h : fv S a k = .int x) : fI S a k = x := by unfold fI; rw [h]
theorem fP_of {S : hS} {a k : Nat} {x : Nat} (h : fv S a k = .ref x) : fP S a k = x := by unfold fP; rw [h]
theorem sEq.I {S S' : hS} (h : sEq S S') (b j : Nat) : fI S' b j = fI S b j := by unfold fI; rw [h]
theorem sEq.P {S S' : hS} (h : sEq S S') (b j : Nat) : fP S' b j = fP S b j := by unfold fP; rw [h]
theorem sEqx.I {S S' : hS} {a k : Nat} (h : sEqx S S' a k) {b j : Nat} (hn : ¬ (b = a ∧ j = k)) : fI S' b j = fI S b j := by unfold fI; rw [h b j hn]
theorem sEqx.P {S S' : hS} {a k : Nat} (h : sEqx S S' a k) {b j : Nat} (hn : ¬ (b = a ∧ j = k)) : fP S' b j = fP S b j := by unfold fP; rw [h b j hn]
/-- one cell changed to one of its kind -/
theorem St.set {Γ : kG} {Φ : kF} {S : hS} (h : St Γ Φ S) {a : Nat} {τ : kT} {e : hE} (ha : Γ a = some τ) (hp : Φ a = none) (he : cellOk Γ τ (some e)) : St Γ Φ (hset S a e) := by
  refine ⟨fun b τ' hb => ?_, fun b e' hb => ?_⟩
  · by_cases c : b = a
    · subst c
      rw [ha] at hb
      cases hb
      rw [hset_self]; exact he
    · rw [hset_ne _ _ c]; exact h.1 b τ' hb
  · by_cases c : b = a
    · subst c; rw [hp] at hb; cases hb
    · rw [hset_ne _ _ c]; exact h.2 b e' hb
/-- a new cell, of a kind that is given it -/
def kset (Γ : kG) (a : Nat) (τ : kT) : kG := fun b => if b = a then some τ else Γ b
theorem cellOk_0 {Γ : kG} {τ : kT} {e : Option hE} (ht : τ.1 = 0) (h : cl0 Γ τ e) : cellOk Γ τ e := by
  exact ⟨fun _ => h, fun z => absurd (ht.symm.trans z) (by decide), fun z => absurd (ht.symm.trans z) (by decide), fun z => absurd (ht.symm.trans z) (by decide), fun z => absurd (ht.symm.trans z) (by decide), fun z => absurd (ht.symm.trans z) (by decide), fun z => absurd (ht.symm.trans z) (by decide), fun z => absurd (ht.symm.trans z) (by decide), fun z => absurd (ht.symm.trans z) (by decide), fun z => absurd (ht.symm.trans z) (by decide), fun z => absurd (ht.symm.trans z) (by decide), fun z => absurd (ht.symm.trans z) (by decide), fun z => absurd (ht.symm.trans z) (by decide), fun z => absurd (ht.symm.trans z) (by decide), fun z => absurd (ht.symm.trans z) (by decide), fun z => absurd (ht.symm.trans z) (by decide), fun z => absurd (ht.symm.trans z) (by decide), fun z => absurd (ht.symm.trans z) (by decide), fun z => absurd (ht.symm.trans z) (by decide), fun z => absurd (ht.symm.trans z) (by decide), fun z => absurd (ht.symm.trans z) (by decide), Or.inl (by omega)⟩
theorem cellOk_1 {Γ : kG} {τ : kT} {e : Option hE} (ht : τ.1 = 1) (h : cl1 Γ τ e) : cellOk Γ τ e := by
  exact ⟨fun z => absurd (ht.symm.trans z) (by decide), fun _ => h, fun z => absurd (ht.symm.trans z) (by decide), fun z => absurd (ht.symm.trans z) (by decide), fun z => absurd (ht.symm.trans z) (by decide), fun z => absurd (ht.symm.trans z) (by decide), fun z => absurd (ht.symm.trans z) (by decide), fun z => absurd (ht.symm.trans z) (by decide), fun z => absurd (ht.symm.trans z) (by decide), fun z => absurd (ht.symm.trans z) (by decide), fun z => absurd (ht.symm.trans z) (by decide), fun z => absurd (ht.symm.trans z) (by decide), fun z => absurd (ht.symm.trans z) (by decide), fun z => absurd (ht.symm.trans z) (by decide), fun z => absurd (ht.symm.trans z) (by decide), fun z => absurd (ht.symm.trans z) (by decide), fun z => absurd (ht.symm.trans z) (by decide), fun z => absurd (ht.symm.trans z) (by decide), fun z => absurd (ht.symm.trans z) (by decide), fun z => absurd (ht.symm.trans z) (by decide), fun z => absurd (ht.symm.trans z) (by decide), Or.inl (by omega)⟩
theorem cellOk_2 {Γ : kG} {τ : kT} {e : Option hE} (ht : τ.1 = 2) (h : cl2 Γ τ e) : cellOk Γ τ e := by
  exact ⟨fun z => absurd (ht.symm.trans z) (by decide), fun z => absurd (ht.symm.trans z) (by decide), fun _ => h, fun z => absurd (ht.symm.trans z) (by decide), fun z => absurd (ht.symm.trans z) (by decide), fun z => absurd (ht.symm.trans z) (by decide), fun z => absurd (ht.symm.trans z) (by decide), fun z => absurd (ht.symm.trans z) (by decide), fun z => absurd (ht.symm.trans z) (by decide), fun z => absurd (ht.symm.trans z) (by decide), fun z => absurd (ht.symm.trans z) (by decide), fun z => absurd (ht.symm.trans z) (by decide), fun z => absurd (ht.symm.trans z) (by decide), fun z => absurd (ht.symm.trans z) (by decide), fun z => absurd (ht.symm.trans z) (by decide), fun z => absurd (ht.symm.trans z) (by decide), fun z => absurd (ht.symm.trans z) (by decide), fun z => absurd (ht.symm.trans z) (by decide), fun z => absurd (ht.symm.trans z) (by decide), fun z => absurd (ht.symm.trans z) (by decide), fun z => absurd (ht.symm.trans z) (by decide), Or.inl (by omega)⟩
theorem cellOk_3 {Γ : kG} {τ : kT} {e : Option hE} (ht : τ.1 = 3) (h : cl3 Γ τ e) : cellOk Γ τ e := by
  exact ⟨fun z => absurd (ht.symm.trans z) (by decide), fun z => absurd (ht.symm.trans z) (by decide), fun z => absurd (ht.symm.trans z) (by decide), fun _ => h, fun z => absurd (ht.symm.trans z) (by decide), fun z => absurd (ht.symm.trans z) (by decide), fun z => absurd (ht.symm.trans z) (by decide), fun z => absurd (ht.symm.trans z) (by decide), fun z => absurd (ht.symm.trans z) (by decide), fun z => absurd (ht.symm.trans z) (by decide), fun z => absurd (ht.symm.trans z) (by decide), fun z => absurd (ht.symm.trans z) (by decide), fun z => absurd (ht.symm.trans z) (by decide), fun z => absurd (ht.symm.trans z) (by decide), fun z => absurd (ht.symm.trans z) (by decide), fun z => absurd (ht.symm.trans z) (by decide), fun z => absurd (ht.symm.trans z) (by decide), fun z => absurd (ht.symm.trans z) (by decide), fun z => absurd (ht.symm.trans z) (by decide), fun z => absurd (ht.symm.trans z) (by decide), fun z => absurd (ht.symm.trans z) (by decide), Or.inl (by omega)⟩
theorem cellOk_4 {Γ : kG} {τ : kT} {e : Option hE} (ht : τ.1 = 4) (h : cl4 Γ τ e) : cellOk Γ τ e := by
  exact ⟨fun z => absurd (ht.symm.trans z) (by decide), fun z => absurd (ht.symm.trans z) (by decide), fun z => absurd (ht.symm.trans z) (by decide), fun z => absurd (ht.symm.trans z) (by decide), fun _ => h, fun z => absurd (ht.symm.trans z) (by decide), fun z => absurd (ht.symm.trans z) (by decide), fun z => absurd (ht.symm.trans z) (by decide), fun z => absurd (ht.symm.trans z) (by decide), fun z => absurd (ht.symm.trans z) (by decide), fun z => absurd (ht.symm.trans z) (by decide), fun z => absurd (ht.symm.trans z) (by decide), fun z => absurd (ht.symm.trans z) (by decide), fun z => absurd (ht.symm.trans z) (by decide), fun z => absurd (ht.symm.trans z) (by decide), fun z => absurd (ht.symm.trans z) (by decide), fun z => absurd (ht.symm.trans z) (by decide), fun z => absurd (ht.symm.trans z) (by decide), fun z => absurd (ht.symm.trans z) (by decide), fun z => absurd (ht.symm.trans z) (by decide), fun z => absurd (ht.symm.trans z) (by decide), Or.inl (by omega)⟩
theorem cellOk_5 {Γ : kG} {τ : kT} {e : Option hE} (ht : τ.1 = 5) (h : cl5 Γ τ e) : cellOk Γ τ e := by
  exact ⟨fun z => absurd (ht.symm.trans z) (by decide), fun z => absurd (ht.symm.trans z) (by decide), fun z => absurd (ht.symm.trans z) (by decide), fun z => absurd (ht.symm.trans z) (by decide), fun z => absurd (ht.symm.trans z) (by decide), fun _ => h, fun z => absurd (ht.symm.trans z) (by decide), fun z => absurd (ht.symm.trans z) (by decide), fun z => absurd (ht.symm.trans z) (by decide), fun z => absurd (ht.symm.trans z) (by decide), fun z => absurd (ht.symm.trans z) (by decide), fun z => absurd (ht.symm.trans z) (by decide), fun z => absurd (ht.symm.trans z) (by decide), fun z => absurd (ht.symm.trans z) (by decide), fun z => absurd (ht.symm.trans z) (by decide), fun z => absurd (ht.symm.trans z) (by decide), fun z => absurd (ht.symm.trans z) (by decide), fun z => absurd (ht.symm.trans z) (by decide), fun z => absurd (ht.symm.trans z) (by decide), fun z => absurd (ht.symm.trans z) (by decide), fun z => absurd (ht.symm.trans z) (by decide), Or.inl (by omega)⟩
theorem cellOk_6 {Γ : kG} {τ : kT} {e : Option hE} (ht : τ.1 = 6) (h : cl6 Γ τ e) : cellOk Γ τ e := by
  exact ⟨fun z => absurd (ht.symm.trans z) (by decide), fun z => absurd (ht.symm.trans z) (by decide), fun z => absurd (ht.symm.trans z) (by decide), fun z => absurd (ht.symm.trans z) (by decide), fun z => absurd (ht.symm.trans z) (by decide), fun z => absurd (ht.symm.trans z) (by decide), fun _ => h, fun z => absurd (ht.symm.trans z) (by decide), fun z => absurd (ht.symm.trans z) (by decide), fun z => absurd (ht.symm.trans z) (by decide), fun z => absurd (ht.symm.trans z) (by decide), fun z => absurd (ht.symm.trans z) (by decide), fun z => absurd (ht.symm.trans z) (by decide), fun z => absurd (ht.symm.trans z) (by decide), fun z => absurd (ht.symm.trans z) (by decide), fun z => absurd (ht.symm.trans z) (by decide), fun z => absurd (ht.symm.trans z) (by decide), fun z => absurd (ht.symm.trans z) (by decide), fun z => absurd (ht.symm.trans z) (by decide), fun z => absurd (ht.symm.trans z) (by decide), fun z => absurd (ht.symm.trans z) (by decide), Or.inl (by omega)⟩
theorem cellOk_7 {Γ : kG} {τ : kT} {e : Option hE} (ht : τ.1 = 7) (h : cl7 Γ τ e) : cellOk Γ τ e := by
  exact ⟨fun z => absurd (ht.symm.trans z) (by decide), fun z => absurd (ht.symm.trans z) (by decide), fun z => absurd (ht.symm.trans z) (by decide), fun z => absurd (ht.symm.trans z) (by decide), fun z => absurd (ht.symm.trans z) (by decide), fun z => absurd (ht.symm.trans z) (by decide), fun z => absurd (ht.symm.trans z) (by decide), fun _ => h, fun z => absurd (ht.symm.trans z) (by decide), fun z => absurd (ht.symm.trans z) (by decide), fun z => absurd (ht.symm.trans z) (by decide), fun z => absurd (ht.symm.trans z) (by decide), fun z => absurd (ht.symm.trans z) (by decide), fun z => absurd (ht.symm.trans z) (by decide), fun z => absurd (ht.symm.trans z) (by decide), fun z => absurd (ht.symm.trans z) (by decide), fun z => absurd (ht.symm.trans z) (by decide), fun z => absurd (ht.symm.trans z) (by decide), fun z => absurd (ht.symm.trans z) (by decide), fun z => absurd (ht.symm.trans z) (by decide), fun z => absurd (ht.symm.trans z) (by decide), Or.inl (by omega)⟩
theorem cellOk_8 {Γ : kG} {τ : kT} {e : Option hE} (ht : τ.1 = 8) (h : cl8 Γ τ e) : cellOk Γ τ e := by
  exact ⟨fun z => absurd (ht.symm.trans z) (by decide), fun z => absurd (ht.symm.trans z) (by decide), fun z => absurd (ht.symm.trans z) (by decide), fun z => absurd (ht.symm.trans z) (by decide), fun z => absurd (ht.symm.trans z) (by decide), fun z => absurd (ht.symm.trans z) (by decide), fun z => absurd (ht.symm.trans z) (by decide), fun z => absurd (ht.symm.trans z) (by decide), fun _ => h, fun z => absurd (ht.symm.trans z) (by decide), fun z => absurd (ht.symm.trans z) (by decide), fun z => absurd (ht.symm.trans z) (by decide), fun z => absurd (ht.symm.trans z) (by decide), fun z => absurd (ht.symm.trans z) (by decide), fun z => absurd (ht.symm.trans z) (by decide), fun z => absurd (ht.symm.trans z) (by decide), fun z => absurd (ht.symm.trans z) (by decide), fun z => absurd (ht.symm.trans z) (by decide), fun z => absurd (ht.symm.trans z) (by decide), fun z => absurd (ht.symm.trans z) (by decide), fun z => absurd (ht.symm.trans z) (by decide), Or.inl (by omega)⟩
theorem cellOk_9 {Γ : kG} {τ : kT} {e : Option hE} (ht : τ.1 = 9) (h : cl9 Γ τ e) : cellOk Γ τ e := by
  exact ⟨fun z => absurd (ht.symm.trans z) (by decide), fun z => absurd (ht.symm.trans z) (by decide), fun z => absurd (ht.symm.trans z) (by decide), fun z => absurd (ht.symm.trans z) (by decide), fun z => absurd (ht.symm.trans z) (by decide), fun z => absurd (ht.symm.trans z) (by decide), fun z => absurd (ht.symm.trans z) (by decide), fun z => absurd (ht.symm.trans z) (by decide), fun z => absurd (ht.symm.trans z) (by decide), fun _ => h, fun z => absurd (ht.symm.trans z) (by decide), fun z => absurd (ht.symm.trans z) (by decide), fun z => absurd (ht.symm.trans z) (by decide), fun z => absurd (ht.symm.trans z) (by decide), fun z => absurd (ht.symm.trans z) (by decide), fun z => absurd (ht.symm.trans z) (by decide), fun z => absurd (ht.symm.trans z) (by decide), fun z => absurd (ht.symm.trans z) (by decide), fun z => absurd (ht.symm.trans z) (by decide), fun z => absurd (ht.symm.trans z) (by decide), fun z => absurd (ht.symm.trans z) (by decide), Or.inl (by omega)⟩
theorem cellOk_10 {Γ : kG} {τ : kT} {e : Option hE} (ht : τ.1 = 10) (h : cl10 Γ τ e) : cellOk Γ τ e := by
  exact ⟨fun z => absurd (ht.symm.trans z) (by decide), fun z => absurd (ht.symm.trans z) (by decide), fun z => absurd (ht.symm.trans z) (by decide), fun z => absurd (ht.symm.trans z) (by decide), fun z => absurd (ht.symm.trans z) (by decide), fun z => absurd (ht.symm.trans z) (by decide), fun z => absurd (ht.symm.trans z) (by decide), fun z => absurd (ht.symm.trans z) (by decide), fun z => absurd (ht.symm.trans z) (by decide), fun z => absurd (ht.symm.trans z) (by decide), fun _ => h, fun z => absurd (ht.symm.trans z) (by decide), fun z => absurd (ht.symm.trans z) (by decide), fun z => absurd (ht.symm.trans z) (by decide), fun z => absurd (ht.symm.trans z) (by decide), fun z => absurd (ht.symm.trans z) (by decide), fun z => absurd (ht.symm.trans z) (by decide), fun z => absurd (ht.symm.trans z) (by decide), fun z => absurd (ht.symm.trans z) (by decide), fun z => absurd (ht.symm.trans z) (by decide), fun z => absurd (ht.symm.trans z) (by decide), Or.inl (by omega)⟩
theorem cellOk_11 {Γ : kG} {τ : kT} {e : Option hE} (ht : τ.1 = 11) (h : cl11 Γ τ e) : cellOk Γ τ e := by
  exact ⟨fun z => absurd (ht.symm.trans z) (by decide), fun z => absurd (ht.symm.trans z) (by decide), fun z => absurd (ht.symm.trans z) (by decide), fun z => absurd (ht.symm.trans z) (by decide), fun z => absurd (ht.symm.trans z) (by decide), fun z => absurd (ht.symm.trans z) (by decide), fun z => absurd (ht.symm.trans z) (by decide), fun z => absurd (ht.symm.trans z) (by decide), fun z => absurd (ht.symm.trans z) (by decide), fun z => absurd (ht.symm.trans z) (by decide), fun z => absurd (ht.symm.trans z) (by decide), fun _ => h, fun z => absurd (ht.symm.trans z) (by decide), fun z => absurd (ht.symm.trans z) (by decide), fun z => absurd (ht.symm.trans z) (by decide), fun z => absurd (ht.symm.trans z) (by decide), fun z => absurd (ht.symm.trans z) (by decide), fun z => absurd (ht.symm.trans z) (by decide), fun z => absurd (ht.symm.trans z) (by decide), fun z => absurd (ht.symm.trans z) (by decide), fun z => absurd (ht.symm.trans z) (by decide), Or.inl (by omega)⟩
theorem cellOk_20 {Γ : kG} {τ : kT} {e : Option hE} (ht : τ.1 = 20) (h : arI τ.2.2.1 (-2147483648) (2147483647) e) : cellOk Γ τ e := by
  exact ⟨fun z => absurd (ht.symm.trans z) (by decide), fun z => absurd (ht.symm.trans z) (by decide), fun z => absurd (ht.symm.trans z) (by decide), fun z => absurd (ht.symm.trans z) (by decide), fun z => absurd (ht.symm.trans z) (by decide), fun z => absurd (ht.symm.trans z) (by decide), fun z => absurd (ht.symm.trans z) (by decide), fun z => absurd (ht.symm.trans z) (by decide), fun z => absurd (ht.symm.trans z) (by decide), fun z => absurd (ht.symm.trans z) (by decide), fun z => absurd (ht.symm.trans z) (by decide), fun z => absurd (ht.symm.trans z) (by decide), fun _ => h, fun z => absurd (ht.symm.trans z) (by decide), fun z => absurd (ht.symm.trans z) (by decide), fun z => absurd (ht.symm.trans z) (by decide), fun z => absurd (ht.symm.trans z) (by decide), fun z => absurd (ht.symm.trans z) (by decide), fun z => absurd (ht.symm.trans z) (by decide), fun z => absurd (ht.symm.trans z) (by decide), fun z => absurd (ht.symm.trans z) (by decide), Or.inr (by omega)⟩
theorem cellOk_21 {Γ : kG} {τ : kT} {e : Option hE} (ht : τ.1 = 21) (h : arI τ.2.2.1 (0) (5) e) : cellOk Γ τ e := by
  exact ⟨fun z => absurd (ht.symm.trans z) (by decide), fun z => absurd (ht.symm.trans z) (by decide), fun z => absurd (ht.symm.trans z) (by decide), fun z => absurd (ht.symm.trans z) (by decide), fun z => absurd (ht.symm.trans z) (by decide), fun z => absurd (ht.symm.trans z) (by decide), fun z => absurd (ht.symm.trans z) (by decide), fun z => absurd (ht.symm.trans z) (by decide), fun z => absurd (ht.symm.trans z) (by decide), fun z => absurd (ht.symm.trans z) (by decide), fun z => absurd (ht.symm.trans z) (by decide), fun z => absurd (ht.symm.trans z) (by decide), fun z => absurd (ht.symm.trans z) (by decide), fun _ => h, fun z => absurd (ht.symm.trans z) (by decide), fun z => absurd (ht.symm.trans z) (by decide), fun z => absurd (ht.symm.trans z) (by decide), fun z => absurd (ht.symm.trans z) (by decide), fun z => absurd (ht.symm.trans z) (by decide), fun z => absurd (ht.symm.trans z) (by decide), fun z => absurd (ht.symm.trans z) (by decide), Or.inr (by omega)⟩
theorem cellOk_22 {Γ : kG} {τ : kT} {e : Option hE} (ht : τ.1 = 22) (h : arI τ.2.2.1 (0) (255) e) : cellOk Γ τ e := by
  exact ⟨fun z => absurd (ht.symm.trans z) (by decide), fun z => absurd (ht.symm.trans z) (by decide), fun z => absurd (ht.symm.trans z) (by decide), fun z => absurd (ht.symm.trans z) (by decide), fun z => absurd (ht.symm.trans z) (by decide), fun z => absurd (ht.symm.trans z) (by decide), fun z => absurd (ht.symm.trans z) (by decide), fun z => absurd (ht.symm.trans z) (by decide), fun z => absurd (ht.symm.trans z) (by decide), fun z => absurd (ht.symm.trans z) (by decide), fun z => absurd (ht.symm.trans z) (by decide), fun z => absurd (ht.symm.trans z) (by decide), fun z => absurd (ht.symm.trans z) (by decide), fun z => absurd (ht.symm.trans z) (by decide), fun _ => h, fun z => absurd (ht.symm.trans z) (by decide), fun z => absurd (ht.symm.trans z) (by decide), fun z => absurd (ht.symm.trans z) (by decide), fun z => absurd (ht.symm.trans z) (by decide), fun z => absurd (ht.symm.trans z) (by decide), fun z => absurd (ht.symm.trans z) (by decide), Or.inr (by omega)⟩
theorem cellOk_23 {Γ : kG} {τ : kT} {e : Option hE} (ht : τ.1 = 23) (h : arI τ.2.2.1 (0) (400) e) : cellOk Γ τ e := by
  exact ⟨fun z => absurd (ht.symm.trans z) (by decide), fun z => absurd (ht.symm.trans z) (by decide), fun z => absurd (ht.symm.trans z) (by decide), fun z => absurd (ht.symm.trans z) (by decide), fun z => absurd (ht.symm.trans z) (by decide), fun z => absurd (ht.symm.trans z) (by decide), fun z => absurd (ht.symm.trans z) (by decide), fun z => absurd (ht.symm.trans z) (by decide), fun z => absurd (ht.symm.trans z) (by decide), fun z => absurd (ht.symm.trans z) (by decide), fun z => absurd (ht.symm.trans z) (by decide), fun z => absurd (ht.symm.trans z) (by decide), fun z => absurd (ht.symm.trans z) (by decide), fun z => absurd (ht.symm.trans z) (by decide), fun z => absurd (ht.symm.trans z) (by decide), fun _ => h, fun z => absurd (ht.symm.trans z) (by decide), fun z => absurd (ht.symm.trans z) (by decide), fun z => absurd (ht.symm.trans z) (by decide), fun z => absurd (ht.symm.trans z) (by decide), fun z => absurd (ht.symm.trans z) (by decide), Or.inr (by omega)⟩
theorem cellOk_24 {Γ : kG} {τ : kT} {e : Option hE} (ht : τ.1 = 24) (h : arI τ.2.2.1 (0) (43007) e) : cellOk Γ τ e := by
  exact ⟨fun z => absurd (ht.symm.trans z) (by decide), fun z => absurd (ht.symm.trans z) (by decide), fun z => absurd (ht.symm.trans z) (by decide), fun z => absurd (ht.symm.trans z) (by decide), fun z => absurd (ht.symm.trans z) (by decide), fun z => absurd (ht.symm.trans z) (by decide), fun z => absurd (ht.symm.trans z) (by decide), fun z => absurd (ht.symm.trans z) (by decide), fun z => absurd (ht.symm.trans z) (by decide), fun z => absurd (ht.symm.trans z) (by decide), fun z => absurd (ht.symm.trans z) (by decide), fun z => absurd (ht.symm.trans z) (by decide), fun z => absurd (ht.symm.trans z) (by decide), fun z => absurd (ht.symm.trans z) (by decide), fun z => absurd (ht.symm.trans z) (by decide), fun z => absurd (ht.symm.trans z) (by decide), fun _ => h, fun z => absurd (ht.symm.trans z) (by decide), fun z => absurd (ht.symm.trans z) (by decide), fun z => absurd (ht.symm.trans z) (by decide), fun z => absurd (ht.symm.trans z) (by decide), Or.inr (by omega)⟩
theorem cellOk_25 {Γ : kG} {τ : kT} {e : Option hE} (ht : τ.1 = 25) (h : arJ τ.2.2.1 e) : cellOk Γ τ e := by
  exact ⟨fun z => absurd (ht.symm.trans z) (by decide), fun z => absurd (ht.symm.trans z) (by decide), fun z => absurd (ht.symm.trans z) (by decide), fun z => absurd (ht.symm.trans z) (by decide), fun z => absurd (ht.symm.trans z) (by decide), fun z => absurd (ht.symm.trans z) (by decide), fun z => absurd (ht.symm.trans z) (by decide), fun z => absurd (ht.symm.trans z) (by decide), fun z => absurd (ht.symm.trans z) (by decide), fun z => absurd (ht.symm.trans z) (by decide), fun z => absurd (ht.symm.trans z) (by decide), fun z => absurd (ht.symm.trans z) (by decide), fun z => absurd (ht.symm.trans z) (by decide), fun z => absurd (ht.symm.trans z) (by decide), fun z => absurd (ht.symm.trans z) (by decide), fun z => absurd (ht.symm.trans z) (by decide), fun z => absurd (ht.symm.trans z) (by decide), fun _ => h, fun z => absurd (ht.symm.trans z) (by decide), fun z => absurd (ht.symm.trans z) (by decide), fun z => absurd (ht.symm.trans z) (by decide), Or.inr (by omega)⟩
theorem cellOk_26 {Γ : kG} {τ : kT} {e : Option hE} (ht : τ.1 = 26) (h : arR 4 τ.2.2.1 (fun j b => ∃ ρ, Γ b = some (8, 8 + 10000 * (2 + j), 2 + j, 0, ρ)) e) : cellOk Γ τ e := by
  exact ⟨fun z => absurd (ht.symm.trans z) (by decide), fun z => absurd (ht.symm.trans z) (by decide), fun z => absurd (ht.symm.trans z) (by decide), fun z => absurd (ht.symm.trans z) (by decide), fun z => absurd (ht.symm.trans z) (by decide), fun z => absurd (ht.symm.trans z) (by decide), fun z => absurd (ht.symm.trans z) (by decide), fun z => absurd (ht.symm.trans z) (by decide), fun z => absurd (ht.symm.trans z) (by decide), fun z => absurd (ht.symm.trans z) (by decide), fun z => absurd (ht.symm.trans z) (by decide), fun z => absurd (ht.symm.trans z) (by decide), fun z => absurd (ht.symm.trans z) (by decide), fun z => absurd (ht.symm.trans z) (by decide), fun z => absurd (ht.symm.trans z) (by decide), fun z => absurd (ht.symm.trans z) (by decide), fun z => absurd (ht.symm.trans z) (by decide), fun z => absurd (ht.symm.trans z) (by decide), fun _ => h, fun z => absurd (ht.symm.trans z) (by decide), fun z => absurd (ht.symm.trans z) (by decide), Or.inr (by omega)⟩
theorem cellOk_27 {Γ : kG} {τ : kT} {e : Option hE} (ht : τ.1 = 27) (h : arR 3 τ.2.2.1 (fun j b => ∃ ρ, Γ b = some (2, 2 + 10000 * (10 + j), 10 + j, 0, ρ)) e) : cellOk Γ τ e := by
  exact ⟨fun z => absurd (ht.symm.trans z) (by decide), fun z => absurd (ht.symm.trans z) (by decide), fun z => absurd (ht.symm.trans z) (by decide), fun z => absurd (ht.symm.trans z) (by decide), fun z => absurd (ht.symm.trans z) (by decide), fun z => absurd (ht.symm.trans z) (by decide), fun z => absurd (ht.symm.trans z) (by decide), fun z => absurd (ht.symm.trans z) (by decide), fun z => absurd (ht.symm.trans z) (by decide), fun z => absurd (ht.symm.trans z) (by decide), fun z => absurd (ht.symm.trans z) (by decide), fun z => absurd (ht.symm.trans z) (by decide), fun z => absurd (ht.symm.trans z) (by decide), fun z => absurd (ht.symm.trans z) (by decide), fun z => absurd (ht.symm.trans z) (by decide), fun z => absurd (ht.symm.trans z) (by decide), fun z => absurd (ht.symm.trans z) (by decide), fun z => absurd (ht.symm.trans z) (by decide), fun z => absurd (ht.symm.trans z) (by decide), fun _ => h, fun z => absurd (ht.symm.trans z) (by decide), Or.inr (by omega)⟩
theorem cellOk_28 {Γ : kG} {τ : kT} {e : Option hE} (ht : τ.1 = 28) (h : arR 5 τ.2.2.1 (fun j b => isTx Γ b) e) : cellOk Γ τ e := by
  exact ⟨fun z => absurd (ht.symm.trans z) (by decide), fun z => absurd (ht.symm.trans z) (by decide), fun z => absurd (ht.symm.trans z) (by decide), fun z => absurd (ht.symm.trans z) (by decide), fun z => absurd (ht.symm.trans z) (by decide), fun z => absurd (ht.symm.trans z) (by decide), fun z => absurd (ht.symm.trans z) (by decide), fun z => absurd (ht.symm.trans z) (by decide), fun z => absurd (ht.symm.trans z) (by decide), fun z => absurd (ht.symm.trans z) (by decide), fun z => absurd (ht.symm.trans z) (by decide), fun z => absurd (ht.symm.trans z) (by decide), fun z => absurd (ht.symm.trans z) (by decide), fun z => absurd (ht.symm.trans z) (by decide), fun z => absurd (ht.symm.trans z) (by decide), fun z => absurd (ht.symm.trans z) (by decide), fun z => absurd (ht.symm.trans z) (by decide), fun z => absurd (ht.symm.trans z) (by decide), fun z => absurd (ht.symm.trans z) (by decide), fun z => absurd (ht.symm.trans z) (by decide), fun _ => h, Or.inr (by omega)⟩
section TY
variable {Γ : kG} {Φ : kF} {S : hS} {L : List Nat} {a i c n id κ rs : Nat} {ρ : Nat → Nat}
theorem St.c0 (h : St Γ Φ S) (ha : Γ a = some (0, 0, 0, 0, ρ)) : cl0 Γ (0, 0, 0, 0, ρ) (S a) := (h.1 a _ ha).1 rfl
theorem T_oK_0 {P : Prop} (h : St Γ Φ S) (ha : Γ a = some (0, 0, 0, 0, ρ)) (k : P) : oK S a 0 ∧ P := by
  obtain ⟨b0, b1, e, hc⟩ := h.c0 ha
  exact ⟨⟨_, e⟩, k⟩
theorem T_gP_0_0 {P : Nat → Prop} (h : St Γ Φ S) (ha : Γ a = some (0, 0, 0, 0, ρ)) (k : ∀ x, x = fP S a 0 → Γ x = some (6, 6, 0, 0, bk 0 ρ) → P x) : gP S a 0 0 P := by
  obtain ⟨b0, b1, e, hc⟩ := h.c0 ha
  exact ⟨_, _, e, rfl, k b0 (fP_of (fv_of e rfl)).symm hc.1.2⟩
theorem E_gP_0_0 {P : Nat → Prop} (h : St Γ Φ S) (ha : Γ a = some (0, 0, 0, 0, ρ)) (k : Γ (ρ 0) = some (6, 6, 0, 0, bk 0 ρ) → P (ρ 0)) : gP S a 0 0 P := by
  obtain ⟨b0, b1, e, hc⟩ := h.c0 ha
  have e0 : b0 = ρ 0 := hc.1.1
  subst e0
  exact ⟨_, _, e, rfl, k hc.1.2⟩
theorem P_0_0 (h : St Γ Φ S) (ha : Γ a = some (0, 0, 0, 0, ρ)) : fP S a 0 = ρ 0 ∧ Γ (ρ 0) = some (6, 6, 0, 0, bk 0 ρ) := by
  obtain ⟨b0, b1, e, hc⟩ := h.c0 ha
  have e0 : b0 = ρ 0 := hc.1.1
  subst e0
  exact ⟨fP_of (fv_of e rfl), hc.1.2⟩
theorem T_gP_0_1 {P : Nat → Prop} (h : St Γ Φ S) (ha : Γ a = some (0, 0, 0, 0, ρ)) (k : ∀ x, x = fP S a 1 → Γ x = some (20, 101, 9, 0, k0) → P x) : gP S a 0 1 P := by
  obtain ⟨b0, b1, e, hc⟩ := h.c0 ha
  exact ⟨_, _, e, rfl, k b1 (fP_of (fv_of e rfl)).symm hc.2.2⟩
theorem E_gP_0_1 {P : Nat → Prop} (h : St Γ Φ S) (ha : Γ a = some (0, 0, 0, 0, ρ)) (k : Γ (ρ 1) = some (20, 101, 9, 0, k0) → P (ρ 1)) : gP S a 0 1 P := by
  obtain ⟨b0, b1, e, hc⟩ := h.c0 ha
  have e1 : b1 = ρ 1 := hc.2.1
  subst e1
  exact ⟨_, _, e, rfl, k hc.2.2⟩
theorem P_0_1 (h : St Γ Φ S) (ha : Γ a = some (0, 0, 0, 0, ρ)) : fP S a 1 = ρ 1 ∧ Γ (ρ 1) = some (20, 101, 9, 0, k0) := by
  obtain ⟨b0, b1, e, hc⟩ := h.c0 ha
  have e1 : b1 = ρ 1 := hc.2.1
  subst e1
  exact ⟨fP_of (fv_of e rfl), hc.2.2⟩
theorem St.c1 (h : St Γ Φ S) (ha : Γ a = some (1, 1, 0, 0, ρ)) : cl1 Γ (1, 1, 0, 0, ρ) (S a) := (h.1 a _ ha).2.1 rfl
theorem T_oK_1 {P : Prop} (h : St Γ Φ S) (ha : Γ a = some (1, 1, 0, 0, ρ)) (k : P) : oK S a 1 ∧ P := by
  obtain ⟨b0, b1, b2, b3, b4, b5, e, hc⟩ := h.c1 ha
  exact ⟨⟨_, e⟩, k⟩
theorem T_gP_1_0 {P : Nat → Prop} (h : St Γ Φ S) (ha : Γ a = some (1, 1, 0, 0, ρ)) (k : ∀ x, x = fP S a 0 → Γ x = some (0, 0, 0, 0, bk 0 ρ) → P x) : gP S a 1 0 P := by
  obtain ⟨b0, b1, b2, b3, b4, b5, e, hc⟩ := h.c1 ha
  exact ⟨_, _, e, rfl, k b0 (fP_of (fv_of e rfl)).symm hc.1.2⟩
theorem E_gP_1_0 {P : Nat → Prop} (h : St Γ Φ S) (ha : Γ a = some (1, 1, 0, 0, ρ)) (k : Γ (ρ 0) = some (0, 0, 0, 0, bk 0 ρ) → P (ρ 0)) : gP S a 1 0 P := by
  obtain ⟨b0, b1, b2, b3, b4, b5, e, hc⟩ := h.c1 ha
  have e0 : b0 = ρ 0 := hc.1.1
  subst e0
  exact ⟨_, _, e, rfl, k hc.1.2⟩
theorem P_1_0 (h : St Γ Φ S) (ha : Γ a = some (1, 1, 0, 0, ρ)) : fP S a 0 = ρ 0 ∧ Γ (ρ 0) = some (0, 0, 0, 0, bk 0 ρ) := by
  obtain ⟨b0, b1, b2, b3, b4, b5, e, hc⟩ := h.c1 ha
  have e0 : b0 = ρ 0 := hc.1.1
  subst e0
  exact ⟨fP_of (fv_of e rfl), hc.1.2⟩
theorem T_gP_1_1 {P : Nat → Prop} (h : St Γ Φ S) (ha : Γ a = some (1, 1, 0, 0, ρ)) (k : ∀ x, x = fP S a 1 → Γ x = some (6, 6, 0, 0, bk 1 ρ) → P x) : gP S a 1 1 P := by
  obtain ⟨b0, b1, b2, b3, b4, b5, e, hc⟩ := h.c1 ha
  exact ⟨_, _, e, rfl, k b1 (fP_of (fv_of e rfl)).symm hc.2.1.2⟩
theorem E_gP_1_1 {P : Nat → Prop} (h : St Γ Φ S) (ha : Γ a = some (1, 1, 0, 0, ρ)) (k : Γ (ρ 1) = some (6, 6, 0, 0, bk 1 ρ) → P (ρ 1)) : gP S a 1 1 P := by
  obtain ⟨b0, b1, b2, b3, b4, b5, e, hc⟩ := h.c1 ha
  have e1 : b1 = ρ 1 := hc.2.1.1
  subst e1
  exact ⟨_, _, e, rfl, k hc.2.1.2⟩
theorem P_1_1 (h : St Γ Φ S) (ha : Γ a = some (1, 1, 0, 0, ρ)) : fP S a 1 = ρ 1 ∧ Γ (ρ 1) = some (6, 6, 0, 0, bk 1 ρ) := by
  obtain ⟨b0, b1, b2, b3, b4, b5, e, hc⟩ := h.c1 ha
  have e1 : b1 = ρ 1 := hc.2.1.1
  subst e1
  exact ⟨fP_of (fv_of e rfl), hc.2.1.2⟩
theorem T_gP_1_2 {P : Nat → Prop} (h : St Γ Φ S) (ha : Γ a = some (1, 1, 0, 0, ρ)) (k : ∀ x, x = fP S a 2 → Γ x = some (20, 202, 26, 0, k0) → P x) : gP S a 1 2 P := by
  obtain ⟨b0, b1, b2, b3, b4, b5, e, hc⟩ := h.c1 ha
  exact ⟨_, _, e, rfl, k b2 (fP_of (fv_of e rfl)).symm hc.2.2.2⟩
theorem E_gP_1_2 {P : Nat → Prop} (h : St Γ Φ S) (ha : Γ a = some (1, 1, 0, 0, ρ)) (k : Γ (ρ 2) = some (20, 202, 26, 0, k0) → P (ρ 2)) : gP S a 1 2 P := by
  obtain ⟨b0, b1, b2, b3, b4, b5, e, hc⟩ := h.c1 ha
  have e2 : b2 = ρ 2 := hc.2.2.1
  subst e2
  exact ⟨_, _, e, rfl, k hc.2.2.2⟩
theorem P_1_2 (h : St Γ Φ S) (ha : Γ a = some (1, 1, 0, 0, ρ)) : fP S a 2 = ρ 2 ∧ Γ (ρ 2) = some (20, 202, 26, 0, k0) := by
  obtain ⟨b0, b1, b2, b3, b4, b5, e, hc⟩ := h.c1 ha
  have e2 : b2 = ρ 2 := hc.2.2.1
  subst e2
  exact ⟨fP_of (fv_of e rfl), hc.2.2.2⟩
theorem T_gI_1_3 {P : Int32 → Prop} (h : St Γ Φ S) (ha : Γ a = some (1, 1, 0, 0, ρ)) (k : ∀ x, x = fI S a 3 → (x.toInt = (fI S a 3).toInt) → P x) : gI S a 1 3 P := by
  obtain ⟨b0, b1, b2, b3, b4, b5, e, hc⟩ := h.c1 ha
  exact ⟨_, _, e, rfl, k b3 (fI_of (fv_of e rfl)).symm (congrArg Int32.toInt (fI_of (fv_of e rfl))).symm⟩
theorem T_pI_1_3 {P : hS → Prop} {x : Int32} (h : St Γ Φ S) (hf : fre Γ Φ L) (ha : Γ a = some (1, 1, 0, 0, ρ)) (hm : 1 ∈ L) (k : ∀ S₁, St Γ Φ S₁ → fI S₁ a 3 = x → sEqx S S₁ a 3 → aEq S S₁ → P S₁) : pI S a 1 3 x P := by
  obtain ⟨b0, b1, b2, b3, b4, b5, e, hc⟩ := h.c1 ha
  refine ⟨_, e, by simp only [List.length_cons, List.length_nil]; omega, k _ (h.set ha (hf a _ ha hm) (cellOk_1 rfl ⟨b0, b1, b2, x, b4, b5, rfl, hc.1, hc.2.1, hc.2.2⟩)) (fI_of (fv_of (hset_self _ _ _) rfl)) (fun b j hn => ?_) (aEq_hset e)⟩
  by_cases e1 : b = a
  · subst e1
    unfold fv
    rw [hset_self, e]
    show (List.set _ _ _).getD j _ = List.getD _ j _
    rw [List.getD_eq_getElem?_getD, List.getD_eq_getElem?_getD, List.getElem?_set_ne (fun z => hn ⟨rfl, z.symm⟩)]
  · exact fv_hset_ne e1
theorem T_gI_1_4 {P : Int32 → Prop} (h : St Γ Φ S) (ha : Γ a = some (1, 1, 0, 0, ρ)) (k : ∀ x, x = fI S a 4 → (x.toInt = (fI S a 4).toInt) → P x) : gI S a 1 4 P := by
  obtain ⟨b0, b1, b2, b3, b4, b5, e, hc⟩ := h.c1 ha
  exact ⟨_, _, e, rfl, k b4 (fI_of (fv_of e rfl)).symm (congrArg Int32.toInt (fI_of (fv_of e rfl))).symm⟩
theorem T_pI_1_4 {P : hS → Prop} {x : Int32} (h : St Γ Φ S) (hf : fre Γ Φ L) (ha : Γ a = some (1, 1, 0, 0, ρ)) (hm : 1 ∈ L) (k : ∀ S₁, St Γ Φ S₁ → fI S₁ a 4 = x → sEqx S S₁ a 4 → aEq S S₁ → P S₁) : pI S a 1 4 x P := by
  obtain ⟨b0, b1, b2, b3, b4, b5, e, hc⟩ := h.c1 ha
  refine ⟨_, e, by simp only [List.length_cons, List.length_nil]; omega, k _ (h.set ha (hf a _ ha hm) (cellOk_1 rfl ⟨b0, b1, b2, b3, x, b5, rfl, hc.1, hc.2.1, hc.2.2⟩)) (fI_of (fv_of (hset_self _ _ _) rfl)) (fun b j hn => ?_) (aEq_hset e)⟩
  by_cases e1 : b = a
  · subst e1
    unfold fv
    rw [hset_self, e]
    show (List.set _ _ _).getD j _ = List.getD _ j _
    rw [List.getD_eq_getElem?_getD, List.getD_eq_getElem?_getD, List.getElem?_set_ne (fun z => hn ⟨rfl, z.symm⟩)]
  · exact fv_hset_ne e1
theorem T_gI_1_5 {P : Int32 → Prop} (h : St Γ Φ S) (ha : Γ a = some (1, 1, 0, 0, ρ)) (k : ∀ x, x = fI S a 5 → (x.toInt = (fI S a 5).toInt) → P x) : gI S a 1 5 P := by
  obtain ⟨b0, b1, b2, b3, b4, b5, e, hc⟩ := h.c1 ha
  exact ⟨_, _, e, rfl, k b5 (fI_of (fv_of e rfl)).symm (congrArg Int32.toInt (fI_of (fv_of e rfl))).symm⟩
theorem T_pI_1_5 {P : hS → Prop} {x : Int32} (h : St Γ Φ S) (hf : fre Γ Φ L) (ha : Γ a = some (1, 1, 0, 0, ρ)) (hm : 1 ∈ L) (k : ∀ S₁, St Γ Φ S₁ → fI S₁ a 5 = x → sEqx S S₁ a 5 → aEq S S₁ → P S₁) : pI S a 1 5 x P := by
  obtain ⟨b0, b1, b2, b3, b4, b5, e, hc⟩ := h.c1 ha
  refine ⟨_, e, by simp only [List.length_cons, List.length_nil]; omega, k _ (h.set ha (hf a _ ha hm) (cellOk_1 rfl ⟨b0, b1, b2, b3, b4, x, rfl, hc.1, hc.2.1, hc.2.2⟩)) (fI_of (fv_of (hset_self _ _ _) rfl)) (fun b j hn => ?_) (aEq_hset e)⟩
  by_cases e1 : b = a
  · subst e1
    unfold fv
    rw [hset_self, e]
    show (List.set _ _ _).getD j _ = List.getD _ j _
    rw [List.getD_eq_getElem?_getD, List.getD_eq_getElem?_getD, List.getElem?_set_ne (fun z => hn ⟨rfl, z.symm⟩)]
  · exact fv_hset_ne e1
theorem St.c2 (h : St Γ Φ S) (ha : Γ a = some (2, 2 + 10000 * i, i, 0, ρ)) : cl2 Γ (2, 2 + 10000 * i, i, 0, ρ) (S a) := (h.1 a _ ha).2.2.1 rfl
theorem T_oK_2 {P : Prop} (h : St Γ Φ S) (ha : Γ a = some (2, 2 + 10000 * i, i, 0, ρ)) (k : P) : oK S a 2 ∧ P := by
  obtain ⟨b0, b1, b2, b3, b4, b5, e, hc⟩ := h.c2 ha
  exact ⟨⟨_, e⟩, k⟩
theorem T_gP_2_0 {P : Nat → Prop} (h : St Γ Φ S) (ha : Γ a = some (2, 2 + 10000 * i, i, 0, ρ)) (k : ∀ x, x = fP S a 0 → Γ x = some (20, 300 + 10000 * i, 48, 0, k0) → P x) : gP S a 2 0 P := by
  obtain ⟨b0, b1, b2, b3, b4, b5, e, hc⟩ := h.c2 ha
  exact ⟨_, _, e, rfl, k b0 (fP_of (fv_of e rfl)).symm hc.1.2⟩
theorem E_gP_2_0 {P : Nat → Prop} (h : St Γ Φ S) (ha : Γ a = some (2, 2 + 10000 * i, i, 0, ρ)) (k : Γ (ρ 0) = some (20, 300 + 10000 * i, 48, 0, k0) → P (ρ 0)) : gP S a 2 0 P := by
  obtain ⟨b0, b1, b2, b3, b4, b5, e, hc⟩ := h.c2 ha
  have e0 : b0 = ρ 0 := hc.1.1
  subst e0
  exact ⟨_, _, e, rfl, k hc.1.2⟩
theorem P_2_0 (h : St Γ Φ S) (ha : Γ a = some (2, 2 + 10000 * i, i, 0, ρ)) : fP S a 0 = ρ 0 ∧ Γ (ρ 0) = some (20, 300 + 10000 * i, 48, 0, k0) := by
  obtain ⟨b0, b1, b2, b3, b4, b5, e, hc⟩ := h.c2 ha
  have e0 : b0 = ρ 0 := hc.1.1
  subst e0
  exact ⟨fP_of (fv_of e rfl), hc.1.2⟩
theorem T_gP_2_1 {P : Nat → Prop} (h : St Γ Φ S) (ha : Γ a = some (2, 2 + 10000 * i, i, 0, ρ)) (k : ∀ x, x = fP S a 1 → Γ x = some (20, 301 + 10000 * i, 48, 0, k0) → P x) : gP S a 2 1 P := by
  obtain ⟨b0, b1, b2, b3, b4, b5, e, hc⟩ := h.c2 ha
  exact ⟨_, _, e, rfl, k b1 (fP_of (fv_of e rfl)).symm hc.2.1.2⟩
theorem E_gP_2_1 {P : Nat → Prop} (h : St Γ Φ S) (ha : Γ a = some (2, 2 + 10000 * i, i, 0, ρ)) (k : Γ (ρ 1) = some (20, 301 + 10000 * i, 48, 0, k0) → P (ρ 1)) : gP S a 2 1 P := by
  obtain ⟨b0, b1, b2, b3, b4, b5, e, hc⟩ := h.c2 ha
  have e1 : b1 = ρ 1 := hc.2.1.1
  subst e1
  exact ⟨_, _, e, rfl, k hc.2.1.2⟩
theorem P_2_1 (h : St Γ Φ S) (ha : Γ a = some (2, 2 + 10000 * i, i, 0, ρ)) : fP S a 1 = ρ 1 ∧ Γ (ρ 1) = some (20, 301 + 10000 * i, 48, 0, k0) := by
  obtain ⟨b0, b1, b2, b3, b4, b5, e, hc⟩ := h.c2 ha
  have e1 : b1 = ρ 1 := hc.2.1.1
  subst e1
  exact ⟨fP_of (fv_of e rfl), hc.2.1.2⟩
theorem T_gP_2_2 {P : Nat → Prop} (h : St Γ Φ S) (ha : Γ a = some (2, 2 + 10000 * i, i, 0, ρ)) (k : ∀ x, x = fP S a 2 → Γ x = some (20, 302 + 10000 * i, 6, 0, k0) → P x) : gP S a 2 2 P := by
  obtain ⟨b0, b1, b2, b3, b4, b5, e, hc⟩ := h.c2 ha
  exact ⟨_, _, e, rfl, k b2 (fP_of (fv_of e rfl)).symm hc.2.2.1.2⟩
theorem E_gP_2_2 {P : Nat → Prop} (h : St Γ Φ S) (ha : Γ a = some (2, 2 + 10000 * i, i, 0, ρ)) (k : Γ (ρ 2) = some (20, 302 + 10000 * i, 6, 0, k0) → P (ρ 2)) : gP S a 2 2 P := by
  obtain ⟨b0, b1, b2, b3, b4, b5, e, hc⟩ := h.c2 ha
  have e2 : b2 = ρ 2 := hc.2.2.1.1
  subst e2
  exact ⟨_, _, e, rfl, k hc.2.2.1.2⟩
theorem P_2_2 (h : St Γ Φ S) (ha : Γ a = some (2, 2 + 10000 * i, i, 0, ρ)) : fP S a 2 = ρ 2 ∧ Γ (ρ 2) = some (20, 302 + 10000 * i, 6, 0, k0) := by
  obtain ⟨b0, b1, b2, b3, b4, b5, e, hc⟩ := h.c2 ha
  have e2 : b2 = ρ 2 := hc.2.2.1.1
  subst e2
  exact ⟨fP_of (fv_of e rfl), hc.2.2.1.2⟩
theorem T_gP_2_3 {P : Nat → Prop} (h : St Γ Φ S) (ha : Γ a = some (2, 2 + 10000 * i, i, 0, ρ)) (k : ∀ x, x = fP S a 3 → Γ x = some (20, 303 + 10000 * i, 8, 0, k0) → P x) : gP S a 2 3 P := by
  obtain ⟨b0, b1, b2, b3, b4, b5, e, hc⟩ := h.c2 ha
  exact ⟨_, _, e, rfl, k b3 (fP_of (fv_of e rfl)).symm hc.2.2.2.2⟩
theorem E_gP_2_3 {P : Nat → Prop} (h : St Γ Φ S) (ha : Γ a = some (2, 2 + 10000 * i, i, 0, ρ)) (k : Γ (ρ 3) = some (20, 303 + 10000 * i, 8, 0, k0) → P (ρ 3)) : gP S a 2 3 P := by
  obtain ⟨b0, b1, b2, b3, b4, b5, e, hc⟩ := h.c2 ha
  have e3 : b3 = ρ 3 := hc.2.2.2.1
  subst e3
  exact ⟨_, _, e, rfl, k hc.2.2.2.2⟩
theorem P_2_3 (h : St Γ Φ S) (ha : Γ a = some (2, 2 + 10000 * i, i, 0, ρ)) : fP S a 3 = ρ 3 ∧ Γ (ρ 3) = some (20, 303 + 10000 * i, 8, 0, k0) := by
  obtain ⟨b0, b1, b2, b3, b4, b5, e, hc⟩ := h.c2 ha
  have e3 : b3 = ρ 3 := hc.2.2.2.1
  subst e3
  exact ⟨fP_of (fv_of e rfl), hc.2.2.2.2⟩
theorem T_gI_2_4 {P : Int32 → Prop} (h : St Γ Φ S) (ha : Γ a = some (2, 2 + 10000 * i, i, 0, ρ)) (k : ∀ x, x = fI S a 4 → (x.toInt = (fI S a 4).toInt) → P x) : gI S a 2 4 P := by
  obtain ⟨b0, b1, b2, b3, b4, b5, e, hc⟩ := h.c2 ha
  exact ⟨_, _, e, rfl, k b4 (fI_of (fv_of e rfl)).symm (congrArg Int32.toInt (fI_of (fv_of e rfl))).symm⟩
theorem T_pI_2_4 {P : hS → Prop} {x : Int32} (h : St Γ Φ S) (hf : fre Γ Φ L) (ha : Γ a = some (2, 2 + 10000 * i, i, 0, ρ)) (hm : 2 + 10000 * i ∈ L) (k : ∀ S₁, St Γ Φ S₁ → fI S₁ a 4 = x → sEqx S S₁ a 4 → aEq S S₁ → P S₁) : pI S a 2 4 x P := by
  obtain ⟨b0, b1, b2, b3, b4, b5, e, hc⟩ := h.c2 ha
  refine ⟨_, e, by simp only [List.length_cons, List.length_nil]; omega, k _ (h.set ha (hf a _ ha hm) (cellOk_2 rfl ⟨b0, b1, b2, b3, x, b5, rfl, hc.1, hc.2.1, hc.2.2.1, hc.2.2.2⟩)) (fI_of (fv_of (hset_self _ _ _) rfl)) (fun b j hn => ?_) (aEq_hset e)⟩
  by_cases e1 : b = a
  · subst e1
    unfold fv
    rw [hset_self, e]
    show (List.set _ _ _).getD j _ = List.getD _ j _
    rw [List.getD_eq_getElem?_getD, List.getD_eq_getElem?_getD, List.getElem?_set_ne (fun z => hn ⟨rfl, z.symm⟩)]
  · exact fv_hset_ne e1
theorem T_gI_2_5 {P : Int32 → Prop} (h : St Γ Φ S) (ha : Γ a = some (2, 2 + 10000 * i, i, 0, ρ)) (k : ∀ x, x = fI S a 5 → (x.toInt = (fI S a 5).toInt) → P x) : gI S a 2 5 P := by
  obtain ⟨b0, b1, b2, b3, b4, b5, e, hc⟩ := h.c2 ha
  exact ⟨_, _, e, rfl, k b5 (fI_of (fv_of e rfl)).symm (congrArg Int32.toInt (fI_of (fv_of e rfl))).symm⟩
theorem T_pI_2_5 {P : hS → Prop} {x : Int32} (h : St Γ Φ S) (hf : fre Γ Φ L) (ha : Γ a = some (2, 2 + 10000 * i, i, 0, ρ)) (hm : 2 + 10000 * i ∈ L) (k : ∀ S₁, St Γ Φ S₁ → fI S₁ a 5 = x → sEqx S S₁ a 5 → aEq S S₁ → P S₁) : pI S a 2 5 x P := by
  obtain ⟨b0, b1, b2, b3, b4, b5, e, hc⟩ := h.c2 ha
  refine ⟨_, e, by simp only [List.length_cons, List.length_nil]; omega, k _ (h.set ha (hf a _ ha hm) (cellOk_2 rfl ⟨b0, b1, b2, b3, b4, x, rfl, hc.1, hc.2.1, hc.2.2.1, hc.2.2.2⟩)) (fI_of (fv_of (hset_self _ _ _) rfl)) (fun b j hn => ?_) (aEq_hset e)⟩
  by_cases e1 : b = a
  · subst e1
    unfold fv
    rw [hset_self, e]
    show (List.set _ _ _).getD j _ = List.getD _ j _
    rw [List.getD_eq_getElem?_getD, List.getD_eq_getElem?_getD, List.getElem?_set_ne (fun z => hn ⟨rfl, z.symm⟩)]
  · exact fv_hset_ne e1
theorem St.c3 (h : St Γ Φ S) (ha : Γ a = some (3, 3, 0, 0, ρ)) : cl3 Γ (3, 3, 0, 0, ρ) (S a) := (h.1 a _ ha).2.2.2.1 rfl
theorem T_oK_3 {P : Prop} (h : St Γ Φ S) (ha : Γ a = some (3, 3, 0, 0, ρ)) (k : P) : oK S a 3 ∧ P := by
  obtain ⟨b0, b1, b2, b3, e, hc⟩ := h.c3 ha
  exact ⟨⟨_, e⟩, k⟩
theorem T_gP_3_0 {P : Nat → Prop} (h : St Γ Φ S) (ha : Γ a = some (3, 3, 0, 0, ρ)) (k : ∀ x, x = fP S a 0 → Γ x = some (27, 400, 16, 0, k0) → P x) : gP S a 3 0 P := by
  obtain ⟨b0, b1, b2, b3, e, hc⟩ := h.c3 ha
  exact ⟨_, _, e, rfl, k b0 (fP_of (fv_of e rfl)).symm hc.1.2⟩
theorem E_gP_3_0 {P : Nat → Prop} (h : St Γ Φ S) (ha : Γ a = some (3, 3, 0, 0, ρ)) (k : Γ (ρ 0) = some (27, 400, 16, 0, k0) → P (ρ 0)) : gP S a 3 0 P := by
  obtain ⟨b0, b1, b2, b3, e, hc⟩ := h.c3 ha
  have e0 : b0 = ρ 0 := hc.1.1
  subst e0
  exact ⟨_, _, e, rfl, k hc.1.2⟩
theorem P_3_0 (h : St Γ Φ S) (ha : Γ a = some (3, 3, 0, 0, ρ)) : fP S a 0 = ρ 0 ∧ Γ (ρ 0) = some (27, 400, 16, 0, k0) := by
  obtain ⟨b0, b1, b2, b3, e, hc⟩ := h.c3 ha
  have e0 : b0 = ρ 0 := hc.1.1
  subst e0
  exact ⟨fP_of (fv_of e rfl), hc.1.2⟩
theorem T_gP_3_1 {P : Nat → Prop} (h : St Γ Φ S) (ha : Γ a = some (3, 3, 0, 0, ρ)) (k : ∀ x, x = fP S a 1 → Γ x = some (20, 401, 16, 0, k0) → P x) : gP S a 3 1 P := by
  obtain ⟨b0, b1, b2, b3, e, hc⟩ := h.c3 ha
  exact ⟨_, _, e, rfl, k b1 (fP_of (fv_of e rfl)).symm hc.2.1.2⟩
theorem E_gP_3_1 {P : Nat → Prop} (h : St Γ Φ S) (ha : Γ a = some (3, 3, 0, 0, ρ)) (k : Γ (ρ 1) = some (20, 401, 16, 0, k0) → P (ρ 1)) : gP S a 3 1 P := by
  obtain ⟨b0, b1, b2, b3, e, hc⟩ := h.c3 ha
  have e1 : b1 = ρ 1 := hc.2.1.1
  subst e1
  exact ⟨_, _, e, rfl, k hc.2.1.2⟩
theorem P_3_1 (h : St Γ Φ S) (ha : Γ a = some (3, 3, 0, 0, ρ)) : fP S a 1 = ρ 1 ∧ Γ (ρ 1) = some (20, 401, 16, 0, k0) := by
  obtain ⟨b0, b1, b2, b3, e, hc⟩ := h.c3 ha
  have e1 : b1 = ρ 1 := hc.2.1.1
  subst e1
  exact ⟨fP_of (fv_of e rfl), hc.2.1.2⟩
theorem T_gI_3_2 {P : Int32 → Prop} (h : St Γ Φ S) (ha : Γ a = some (3, 3, 0, 0, ρ)) (k : ∀ x, x = fI S a 2 → (x.toInt = (fI S a 2).toInt ∧ 0 ≤ x.toInt ∧ x.toInt ≤ 15) → P x) : gI S a 3 2 P := by
  obtain ⟨b0, b1, b2, b3, e, hc⟩ := h.c3 ha
  exact ⟨_, _, e, rfl, k b2 (fI_of (fv_of e rfl)).symm ⟨(congrArg Int32.toInt (fI_of (fv_of e rfl))).symm, hc.2.2⟩⟩
theorem T_pI_3_2 {P : hS → Prop} {x : Int32} (h : St Γ Φ S) (hf : fre Γ Φ L) (ha : Γ a = some (3, 3, 0, 0, ρ)) (hm : 3 ∈ L) (hx : 0 ≤ x.toInt ∧ x.toInt ≤ 15) (k : ∀ S₁, St Γ Φ S₁ → fI S₁ a 2 = x → sEqx S S₁ a 2 → aEq S S₁ → P S₁) : pI S a 3 2 x P := by
  obtain ⟨b0, b1, b2, b3, e, hc⟩ := h.c3 ha
  refine ⟨_, e, by simp only [List.length_cons, List.length_nil]; omega, k _ (h.set ha (hf a _ ha hm) (cellOk_3 rfl ⟨b0, b1, x, b3, rfl, hc.1, hc.2.1, hx⟩)) (fI_of (fv_of (hset_self _ _ _) rfl)) (fun b j hn => ?_) (aEq_hset e)⟩
  by_cases e1 : b = a
  · subst e1
    unfold fv
    rw [hset_self, e]
    show (List.set _ _ _).getD j _ = List.getD _ j _
    rw [List.getD_eq_getElem?_getD, List.getD_eq_getElem?_getD, List.getElem?_set_ne (fun z => hn ⟨rfl, z.symm⟩)]
  · exact fv_hset_ne e1
theorem T_gI_3_3 {P : Int32 → Prop} (h : St Γ Φ S) (ha : Γ a = some (3, 3, 0, 0, ρ)) (k : ∀ x, x = fI S a 3 → (x.toInt = (fI S a 3).toInt) → P x) : gI S a 3 3 P := by
  obtain ⟨b0, b1, b2, b3, e, hc⟩ := h.c3 ha
  exact ⟨_, _, e, rfl, k b3 (fI_of (fv_of e rfl)).symm (congrArg Int32.toInt (fI_of (fv_of e rfl))).symm⟩
theorem T_pI_3_3 {P : hS → Prop} {x : Int32} (h : St Γ Φ S) (hf : fre Γ Φ L) (ha : Γ a = some (3, 3, 0, 0, ρ)) (hm : 3 ∈ L) (k : ∀ S₁, St Γ Φ S₁ → fI S₁ a 3 = x → sEqx S S₁ a 3 → aEq S S₁ → P S₁) : pI S a 3 3 x P := by
  obtain ⟨b0, b1, b2, b3, e, hc⟩ := h.c3 ha
  refine ⟨_, e, by simp only [List.length_cons, List.length_nil]; omega, k _ (h.set ha (hf a _ ha hm) (cellOk_3 rfl ⟨b0, b1, b2, x, rfl, hc.1, hc.2.1, hc.2.2⟩)) (fI_of (fv_of (hset_self _ _ _) rfl)) (fun b j hn => ?_) (aEq_hset e)⟩
  by_cases e1 : b = a
  · subst e1
    unfold fv
    rw [hset_self, e]
    show (List.set _ _ _).getD j _ = List.getD _ j _
    rw [List.getD_eq_getElem?_getD, List.getD_eq_getElem?_getD, List.getElem?_set_ne (fun z => hn ⟨rfl, z.symm⟩)]
  · exact fv_hset_ne e1
theorem St.c4 (h : St Γ Φ S) (ha : Γ a = some (4, 4, 0, 0, ρ)) : cl4 Γ (4, 4, 0, 0, ρ) (S a) := (h.1 a _ ha).2.2.2.2.1 rfl
theorem T_oK_4 {P : Prop} (h : St Γ Φ S) (ha : Γ a = some (4, 4, 0, 0, ρ)) (k : P) : oK S a 4 ∧ P := by
  obtain ⟨b0, b1, b2, b3, b4, b5, b6, b7, b8, b9, b10, e, hc⟩ := h.c4 ha
  exact ⟨⟨_, e⟩, k⟩
theorem T_gP_4_0 {P : Nat → Prop} (h : St Γ Φ S) (ha : Γ a = some (4, 4, 0, 0, ρ)) (k : ∀ x, x = fP S a 0 → Γ x = some (20, 500, 6, 0, k0) → P x) : gP S a 4 0 P := by
  obtain ⟨b0, b1, b2, b3, b4, b5, b6, b7, b8, b9, b10, e, hc⟩ := h.c4 ha
  exact ⟨_, _, e, rfl, k b0 (fP_of (fv_of e rfl)).symm hc.1.2⟩
theorem E_gP_4_0 {P : Nat → Prop} (h : St Γ Φ S) (ha : Γ a = some (4, 4, 0, 0, ρ)) (k : Γ (ρ 0) = some (20, 500, 6, 0, k0) → P (ρ 0)) : gP S a 4 0 P := by
  obtain ⟨b0, b1, b2, b3, b4, b5, b6, b7, b8, b9, b10, e, hc⟩ := h.c4 ha
  have e0 : b0 = ρ 0 := hc.1.1
  subst e0
  exact ⟨_, _, e, rfl, k hc.1.2⟩
theorem P_4_0 (h : St Γ Φ S) (ha : Γ a = some (4, 4, 0, 0, ρ)) : fP S a 0 = ρ 0 ∧ Γ (ρ 0) = some (20, 500, 6, 0, k0) := by
  obtain ⟨b0, b1, b2, b3, b4, b5, b6, b7, b8, b9, b10, e, hc⟩ := h.c4 ha
  have e0 : b0 = ρ 0 := hc.1.1
  subst e0
  exact ⟨fP_of (fv_of e rfl), hc.1.2⟩
theorem T_gI_4_1 {P : Int32 → Prop} (h : St Γ Φ S) (ha : Γ a = some (4, 4, 0, 0, ρ)) (k : ∀ x, x = fI S a 1 → (x.toInt = (fI S a 1).toInt) → P x) : gI S a 4 1 P := by
  obtain ⟨b0, b1, b2, b3, b4, b5, b6, b7, b8, b9, b10, e, hc⟩ := h.c4 ha
  exact ⟨_, _, e, rfl, k b1 (fI_of (fv_of e rfl)).symm (congrArg Int32.toInt (fI_of (fv_of e rfl))).symm⟩
theorem T_pI_4_1 {P : hS → Prop} {x : Int32} (h : St Γ Φ S) (hf : fre Γ Φ L) (ha : Γ a = some (4, 4, 0, 0, ρ)) (hm : 4 ∈ L) (k : ∀ S₁, St Γ Φ S₁ → fI S₁ a 1 = x → sEqx S S₁ a 1 → aEq S S₁ → P S₁) : pI S a 4 1 x P := by
  obtain ⟨b0, b1, b2, b3, b4, b5, b6, b7, b8, b9, b10, e, hc⟩ := h.c4 ha
  refine ⟨_, e, by simp only [List.length_cons, List.length_nil]; omega, k _ (h.set ha (hf a _ ha hm) (cellOk_4 rfl ⟨b0, x, b2, b3, b4, b5, b6, b7, b8, b9, b10, rfl, hc.1, hc.2.1, hc.2.2.1, hc.2.2.2.1, hc.2.2.2.2.1, hc.2.2.2.2.2.1, hc.2.2.2.2.2.2.1, hc.2.2.2.2.2.2.2.1, hc.2.2.2.2.2.2.2.2⟩)) (fI_of (fv_of (hset_self _ _ _) rfl)) (fun b j hn => ?_) (aEq_hset e)⟩
  by_cases e1 : b = a
  · subst e1
    unfold fv
    rw [hset_self, e]
    show (List.set _ _ _).getD j _ = List.getD _ j _
    rw [List.getD_eq_getElem?_getD, List.getD_eq_getElem?_getD, List.getElem?_set_ne (fun z => hn ⟨rfl, z.symm⟩)]
  · exact fv_hset_ne e1
theorem T_gI_4_2 {P : Int32 → Prop} (h : St Γ Φ S) (ha : Γ a = some (4, 4, 0, 0, ρ)) (k : ∀ x, x = fI S a 2 → (x.toInt = (fI S a 2).toInt) → P x) : gI S a 4 2 P := by
  obtain ⟨b0, b1, b2, b3, b4, b5, b6, b7, b8, b9, b10, e, hc⟩ := h.c4 ha
  exact ⟨_, _, e, rfl, k b2 (fI_of (fv_of e rfl)).symm (congrArg Int32.toInt (fI_of (fv_of e rfl))).symm⟩
theorem T_pI_4_2 {P : hS → Prop} {x : Int32} (h : St Γ Φ S) (hf : fre Γ Φ L) (ha : Γ a = some (4, 4, 0, 0, ρ)) (hm : 4 ∈ L) (k : ∀ S₁, St Γ Φ S₁ → fI S₁ a 2 = x → sEqx S S₁ a 2 → aEq S S₁ → P S₁) : pI S a 4 2 x P := by
  obtain ⟨b0, b1, b2, b3, b4, b5, b6, b7, b8, b9, b10, e, hc⟩ := h.c4 ha
  refine ⟨_, e, by simp only [List.length_cons, List.length_nil]; omega, k _ (h.set ha (hf a _ ha hm) (cellOk_4 rfl ⟨b0, b1, x, b3, b4, b5, b6, b7, b8, b9, b10, rfl, hc.1, hc.2.1, hc.2.2.1, hc.2.2.2.1, hc.2.2.2.2.1, hc.2.2.2.2.2.1, hc.2.2.2.2.2.2.1, hc.2.2.2.2.2.2.2.1, hc.2.2.2.2.2.2.2.2⟩)) (fI_of (fv_of (hset_self _ _ _) rfl)) (fun b j hn => ?_) (aEq_hset e)⟩
  by_cases e1 : b = a
  · subst e1
    unfold fv
    rw [hset_self, e]
    show (List.set _ _ _).getD j _ = List.getD _ j _
    rw [List.getD_eq_getElem?_getD, List.getD_eq_getElem?_getD, List.getElem?_set_ne (fun z => hn ⟨rfl, z.symm⟩)]
  · exact fv_hset_ne e1
theorem T_gP_4_3 {P : Nat → Prop} (h : St Γ Φ S) (ha : Γ a = some (4, 4, 0, 0, ρ)) (k : ∀ x, x = fP S a 3 → Γ x = some (20, 503, 6, 0, k0) → P x) : gP S a 4 3 P := by
  obtain ⟨b0, b1, b2, b3, b4, b5, b6, b7, b8, b9, b10, e, hc⟩ := h.c4 ha
  exact ⟨_, _, e, rfl, k b3 (fP_of (fv_of e rfl)).symm hc.2.1.2⟩
theorem E_gP_4_3 {P : Nat → Prop} (h : St Γ Φ S) (ha : Γ a = some (4, 4, 0, 0, ρ)) (k : Γ (ρ 3) = some (20, 503, 6, 0, k0) → P (ρ 3)) : gP S a 4 3 P := by
  obtain ⟨b0, b1, b2, b3, b4, b5, b6, b7, b8, b9, b10, e, hc⟩ := h.c4 ha
  have e3 : b3 = ρ 3 := hc.2.1.1
  subst e3
  exact ⟨_, _, e, rfl, k hc.2.1.2⟩
theorem P_4_3 (h : St Γ Φ S) (ha : Γ a = some (4, 4, 0, 0, ρ)) : fP S a 3 = ρ 3 ∧ Γ (ρ 3) = some (20, 503, 6, 0, k0) := by
  obtain ⟨b0, b1, b2, b3, b4, b5, b6, b7, b8, b9, b10, e, hc⟩ := h.c4 ha
  have e3 : b3 = ρ 3 := hc.2.1.1
  subst e3
  exact ⟨fP_of (fv_of e rfl), hc.2.1.2⟩
theorem T_gI_4_4 {P : Int32 → Prop} (h : St Γ Φ S) (ha : Γ a = some (4, 4, 0, 0, ρ)) (k : ∀ x, x = fI S a 4 → (x.toInt = (fI S a 4).toInt ∧ 0 ≤ x.toInt ∧ x.toInt ≤ 6) → P x) : gI S a 4 4 P := by
  obtain ⟨b0, b1, b2, b3, b4, b5, b6, b7, b8, b9, b10, e, hc⟩ := h.c4 ha
  exact ⟨_, _, e, rfl, k b4 (fI_of (fv_of e rfl)).symm ⟨(congrArg Int32.toInt (fI_of (fv_of e rfl))).symm, hc.2.2.1⟩⟩
theorem T_pI_4_4 {P : hS → Prop} {x : Int32} (h : St Γ Φ S) (hf : fre Γ Φ L) (ha : Γ a = some (4, 4, 0, 0, ρ)) (hm : 4 ∈ L) (hx : 0 ≤ x.toInt ∧ x.toInt ≤ 6) (k : ∀ S₁, St Γ Φ S₁ → fI S₁ a 4 = x → sEqx S S₁ a 4 → aEq S S₁ → P S₁) : pI S a 4 4 x P := by
  obtain ⟨b0, b1, b2, b3, b4, b5, b6, b7, b8, b9, b10, e, hc⟩ := h.c4 ha
  refine ⟨_, e, by simp only [List.length_cons, List.length_nil]; omega, k _ (h.set ha (hf a _ ha hm) (cellOk_4 rfl ⟨b0, b1, b2, b3, x, b5, b6, b7, b8, b9, b10, rfl, hc.1, hc.2.1, hx, hc.2.2.2.1, hc.2.2.2.2.1, hc.2.2.2.2.2.1, hc.2.2.2.2.2.2.1, hc.2.2.2.2.2.2.2.1, hc.2.2.2.2.2.2.2.2⟩)) (fI_of (fv_of (hset_self _ _ _) rfl)) (fun b j hn => ?_) (aEq_hset e)⟩
  by_cases e1 : b = a
  · subst e1
    unfold fv
    rw [hset_self, e]
    show (List.set _ _ _).getD j _ = List.getD _ j _
    rw [List.getD_eq_getElem?_getD, List.getD_eq_getElem?_getD, List.getElem?_set_ne (fun z => hn ⟨rfl, z.symm⟩)]
  · exact fv_hset_ne e1
theorem T_gP_4_5 {P : Nat → Prop} (h : St Γ Φ S) (ha : Γ a = some (4, 4, 0, 0, ρ)) (k : ∀ x, x = fP S a 5 → Γ x = some (20, 505, 256, 0, k0) → P x) : gP S a 4 5 P := by
  obtain ⟨b0, b1, b2, b3, b4, b5, b6, b7, b8, b9, b10, e, hc⟩ := h.c4 ha
  exact ⟨_, _, e, rfl, k b5 (fP_of (fv_of e rfl)).symm hc.2.2.2.1.2⟩
theorem E_gP_4_5 {P : Nat → Prop} (h : St Γ Φ S) (ha : Γ a = some (4, 4, 0, 0, ρ)) (k : Γ (ρ 5) = some (20, 505, 256, 0, k0) → P (ρ 5)) : gP S a 4 5 P := by
  obtain ⟨b0, b1, b2, b3, b4, b5, b6, b7, b8, b9, b10, e, hc⟩ := h.c4 ha
  have e5 : b5 = ρ 5 := hc.2.2.2.1.1
  subst e5
  exact ⟨_, _, e, rfl, k hc.2.2.2.1.2⟩
theorem P_4_5 (h : St Γ Φ S) (ha : Γ a = some (4, 4, 0, 0, ρ)) : fP S a 5 = ρ 5 ∧ Γ (ρ 5) = some (20, 505, 256, 0, k0) := by
  obtain ⟨b0, b1, b2, b3, b4, b5, b6, b7, b8, b9, b10, e, hc⟩ := h.c4 ha
  have e5 : b5 = ρ 5 := hc.2.2.2.1.1
  subst e5
  exact ⟨fP_of (fv_of e rfl), hc.2.2.2.1.2⟩
theorem T_gP_4_6 {P : Nat → Prop} (h : St Γ Φ S) (ha : Γ a = some (4, 4, 0, 0, ρ)) (k : ∀ x, x = fP S a 6 → Γ x = some (20, 506, 8, 0, k0) → P x) : gP S a 4 6 P := by
  obtain ⟨b0, b1, b2, b3, b4, b5, b6, b7, b8, b9, b10, e, hc⟩ := h.c4 ha
  exact ⟨_, _, e, rfl, k b6 (fP_of (fv_of e rfl)).symm hc.2.2.2.2.1.2⟩
theorem E_gP_4_6 {P : Nat → Prop} (h : St Γ Φ S) (ha : Γ a = some (4, 4, 0, 0, ρ)) (k : Γ (ρ 6) = some (20, 506, 8, 0, k0) → P (ρ 6)) : gP S a 4 6 P := by
  obtain ⟨b0, b1, b2, b3, b4, b5, b6, b7, b8, b9, b10, e, hc⟩ := h.c4 ha
  have e6 : b6 = ρ 6 := hc.2.2.2.2.1.1
  subst e6
  exact ⟨_, _, e, rfl, k hc.2.2.2.2.1.2⟩
theorem P_4_6 (h : St Γ Φ S) (ha : Γ a = some (4, 4, 0, 0, ρ)) : fP S a 6 = ρ 6 ∧ Γ (ρ 6) = some (20, 506, 8, 0, k0) := by
  obtain ⟨b0, b1, b2, b3, b4, b5, b6, b7, b8, b9, b10, e, hc⟩ := h.c4 ha
  have e6 : b6 = ρ 6 := hc.2.2.2.2.1.1
  subst e6
  exact ⟨fP_of (fv_of e rfl), hc.2.2.2.2.1.2⟩
theorem T_gP_4_7 {P : Nat → Prop} (h : St Γ Φ S) (ha : Γ a = some (4, 4, 0, 0, ρ)) (k : ∀ x, x = fP S a 7 → Γ x = some (20, 507, 64, 0, k0) → P x) : gP S a 4 7 P := by
  obtain ⟨b0, b1, b2, b3, b4, b5, b6, b7, b8, b9, b10, e, hc⟩ := h.c4 ha
  exact ⟨_, _, e, rfl, k b7 (fP_of (fv_of e rfl)).symm hc.2.2.2.2.2.1.2⟩
theorem E_gP_4_7 {P : Nat → Prop} (h : St Γ Φ S) (ha : Γ a = some (4, 4, 0, 0, ρ)) (k : Γ (ρ 7) = some (20, 507, 64, 0, k0) → P (ρ 7)) : gP S a 4 7 P := by
  obtain ⟨b0, b1, b2, b3, b4, b5, b6, b7, b8, b9, b10, e, hc⟩ := h.c4 ha
  have e7 : b7 = ρ 7 := hc.2.2.2.2.2.1.1
  subst e7
  exact ⟨_, _, e, rfl, k hc.2.2.2.2.2.1.2⟩
theorem P_4_7 (h : St Γ Φ S) (ha : Γ a = some (4, 4, 0, 0, ρ)) : fP S a 7 = ρ 7 ∧ Γ (ρ 7) = some (20, 507, 64, 0, k0) := by
  obtain ⟨b0, b1, b2, b3, b4, b5, b6, b7, b8, b9, b10, e, hc⟩ := h.c4 ha
  have e7 : b7 = ρ 7 := hc.2.2.2.2.2.1.1
  subst e7
  exact ⟨fP_of (fv_of e rfl), hc.2.2.2.2.2.1.2⟩
theorem T_gP_4_8 {P : Nat → Prop} (h : St Γ Φ S) (ha : Γ a = some (4, 4, 0, 0, ρ)) (k : ∀ x, x = fP S a 8 → Γ x = some (20, 508, 8, 0, k0) → P x) : gP S a 4 8 P := by
  obtain ⟨b0, b1, b2, b3, b4, b5, b6, b7, b8, b9, b10, e, hc⟩ := h.c4 ha
  exact ⟨_, _, e, rfl, k b8 (fP_of (fv_of e rfl)).symm hc.2.2.2.2.2.2.1.2⟩
theorem E_gP_4_8 {P : Nat → Prop} (h : St Γ Φ S) (ha : Γ a = some (4, 4, 0, 0, ρ)) (k : Γ (ρ 8) = some (20, 508, 8, 0, k0) → P (ρ 8)) : gP S a 4 8 P := by
  obtain ⟨b0, b1, b2, b3, b4, b5, b6, b7, b8, b9, b10, e, hc⟩ := h.c4 ha
  have e8 : b8 = ρ 8 := hc.2.2.2.2.2.2.1.1
  subst e8
  exact ⟨_, _, e, rfl, k hc.2.2.2.2.2.2.1.2⟩
theorem P_4_8 (h : St Γ Φ S) (ha : Γ a = some (4, 4, 0, 0, ρ)) : fP S a 8 = ρ 8 ∧ Γ (ρ 8) = some (20, 508, 8, 0, k0) := by
  obtain ⟨b0, b1, b2, b3, b4, b5, b6, b7, b8, b9, b10, e, hc⟩ := h.c4 ha
  have e8 : b8 = ρ 8 := hc.2.2.2.2.2.2.1.1
  subst e8
  exact ⟨fP_of (fv_of e rfl), hc.2.2.2.2.2.2.1.2⟩
theorem T_gP_4_9 {P : Nat → Prop} (h : St Γ Φ S) (ha : Γ a = some (4, 4, 0, 0, ρ)) (k : ∀ x, x = fP S a 9 → Γ x = some (20, 509, 8, 0, k0) → P x) : gP S a 4 9 P := by
  obtain ⟨b0, b1, b2, b3, b4, b5, b6, b7, b8, b9, b10, e, hc⟩ := h.c4 ha
  exact ⟨_, _, e, rfl, k b9 (fP_of (fv_of e rfl)).symm hc.2.2.2.2.2.2.2.1.2⟩
theorem E_gP_4_9 {P : Nat → Prop} (h : St Γ Φ S) (ha : Γ a = some (4, 4, 0, 0, ρ)) (k : Γ (ρ 9) = some (20, 509, 8, 0, k0) → P (ρ 9)) : gP S a 4 9 P := by
  obtain ⟨b0, b1, b2, b3, b4, b5, b6, b7, b8, b9, b10, e, hc⟩ := h.c4 ha
  have e9 : b9 = ρ 9 := hc.2.2.2.2.2.2.2.1.1
  subst e9
  exact ⟨_, _, e, rfl, k hc.2.2.2.2.2.2.2.1.2⟩
theorem P_4_9 (h : St Γ Φ S) (ha : Γ a = some (4, 4, 0, 0, ρ)) : fP S a 9 = ρ 9 ∧ Γ (ρ 9) = some (20, 509, 8, 0, k0) := by
  obtain ⟨b0, b1, b2, b3, b4, b5, b6, b7, b8, b9, b10, e, hc⟩ := h.c4 ha
  have e9 : b9 = ρ 9 := hc.2.2.2.2.2.2.2.1.1
  subst e9
  exact ⟨fP_of (fv_of e rfl), hc.2.2.2.2.2.2.2.1.2⟩
theorem T_gI_4_10 {P : Int32 → Prop} (h : St Γ Φ S) (ha : Γ a = some (4, 4, 0, 0, ρ)) (k : ∀ x, x = fI S a 10 → (x.toInt = (fI S a 10).toInt ∧ 0 ≤ x.toInt ∧ x.toInt ≤ 8) → P x) : gI S a 4 10 P := by
  obtain ⟨b0, b1, b2, b3, b4, b5, b6, b7, b8, b9, b10, e, hc⟩ := h.c4 ha
  exact ⟨_, _, e, rfl, k b10 (fI_of (fv_of e rfl)).symm ⟨(congrArg Int32.toInt (fI_of (fv_of e rfl))).symm, hc.2.2.2.2.2.2.2.2⟩⟩
theorem T_pI_4_10 {P : hS → Prop} {x : Int32} (h : St Γ Φ S) (hf : fre Γ Φ L) (ha : Γ a = some (4, 4, 0, 0, ρ)) (hm : 4 ∈ L) (hx : 0 ≤ x.toInt ∧ x.toInt ≤ 8) (k : ∀ S₁, St Γ Φ S₁ → fI S₁ a 10 = x → sEqx S S₁ a 10 → aEq S S₁ → P S₁) : pI S a 4 10 x P := by
  obtain ⟨b0, b1, b2, b3, b4, b5, b6, b7, b8, b9, b10, e, hc⟩ := h.c4 ha
  refine ⟨_, e, by simp only [List.length_cons, List.length_nil]; omega, k _ (h.set ha (hf a _ ha hm) (cellOk_4 rfl ⟨b0, b1, b2, b3, b4, b5, b6, b7, b8, b9, x, rfl, hc.1, hc.2.1, hc.2.2.1, hc.2.2.2.1, hc.2.2.2.2.1, hc.2.2.2.2.2.1, hc.2.2.2.2.2.2.1, hc.2.2.2.2.2.2.2.1, hx⟩)) (fI_of (fv_of (hset_self _ _ _) rfl)) (fun b j hn => ?_) (aEq_hset e)⟩
  by_cases e1 : b = a
  · subst e1
    unfold fv
    rw [hset_self, e]
    show (List.set _ _ _).getD j _ = List.getD _ j _
    rw [List.getD_eq_getElem?_getD, List.getD_eq_getElem?_getD, List.getElem?_set_ne (fun z => hn ⟨rfl, z.symm⟩)]
  · exact fv_hset_ne e1
theorem St.c5 (h : St Γ Φ S) (ha : Γ a = some (5, 5, 0, 0, ρ)) : cl5 Γ (5, 5, 0, 0, ρ) (S a) := (h.1 a _ ha).2.2.2.2.2.1 rfl
theorem T_oK_5 {P : Prop} (h : St Γ Φ S) (ha : Γ a = some (5, 5, 0, 0, ρ)) (k : P) : oK S a 5 ∧ P := by
  obtain ⟨b0, b1, b2, b3, e, hc⟩ := h.c5 ha
  exact ⟨⟨_, e⟩, k⟩
theorem T_gP_5_0 {P : Nat → Prop} (h : St Γ Φ S) (ha : Γ a = some (5, 5, 0, 0, ρ)) (k : ∀ x, x = fP S a 0 → Γ x = some (10, 10, 12, 400, bk 0 ρ) → P x) : gP S a 5 0 P := by
  obtain ⟨b0, b1, b2, b3, e, hc⟩ := h.c5 ha
  exact ⟨_, _, e, rfl, k b0 (fP_of (fv_of e rfl)).symm hc.1.2⟩
theorem E_gP_5_0 {P : Nat → Prop} (h : St Γ Φ S) (ha : Γ a = some (5, 5, 0, 0, ρ)) (k : Γ (ρ 0) = some (10, 10, 12, 400, bk 0 ρ) → P (ρ 0)) : gP S a 5 0 P := by
  obtain ⟨b0, b1, b2, b3, e, hc⟩ := h.c5 ha
  have e0 : b0 = ρ 0 := hc.1.1
  subst e0
  exact ⟨_, _, e, rfl, k hc.1.2⟩
theorem P_5_0 (h : St Γ Φ S) (ha : Γ a = some (5, 5, 0, 0, ρ)) : fP S a 0 = ρ 0 ∧ Γ (ρ 0) = some (10, 10, 12, 400, bk 0 ρ) := by
  obtain ⟨b0, b1, b2, b3, e, hc⟩ := h.c5 ha
  have e0 : b0 = ρ 0 := hc.1.1
  subst e0
  exact ⟨fP_of (fv_of e rfl), hc.1.2⟩
theorem T_gP_5_1 {P : Nat → Prop} (h : St Γ Φ S) (ha : Γ a = some (5, 5, 0, 0, ρ)) (k : ∀ x, x = fP S a 1 → Γ x = some (9, 9, 0, 0, bk 1 ρ) → P x) : gP S a 5 1 P := by
  obtain ⟨b0, b1, b2, b3, e, hc⟩ := h.c5 ha
  exact ⟨_, _, e, rfl, k b1 (fP_of (fv_of e rfl)).symm hc.2.2⟩
theorem E_gP_5_1 {P : Nat → Prop} (h : St Γ Φ S) (ha : Γ a = some (5, 5, 0, 0, ρ)) (k : Γ (ρ 1) = some (9, 9, 0, 0, bk 1 ρ) → P (ρ 1)) : gP S a 5 1 P := by
  obtain ⟨b0, b1, b2, b3, e, hc⟩ := h.c5 ha
  have e1 : b1 = ρ 1 := hc.2.1
  subst e1
  exact ⟨_, _, e, rfl, k hc.2.2⟩
theorem P_5_1 (h : St Γ Φ S) (ha : Γ a = some (5, 5, 0, 0, ρ)) : fP S a 1 = ρ 1 ∧ Γ (ρ 1) = some (9, 9, 0, 0, bk 1 ρ) := by
  obtain ⟨b0, b1, b2, b3, e, hc⟩ := h.c5 ha
  have e1 : b1 = ρ 1 := hc.2.1
  subst e1
  exact ⟨fP_of (fv_of e rfl), hc.2.2⟩
theorem T_gI_5_2 {P : Int32 → Prop} (h : St Γ Φ S) (ha : Γ a = some (5, 5, 0, 0, ρ)) (k : ∀ x, x = fI S a 2 → (x.toInt = (fI S a 2).toInt) → P x) : gI S a 5 2 P := by
  obtain ⟨b0, b1, b2, b3, e, hc⟩ := h.c5 ha
  exact ⟨_, _, e, rfl, k b2 (fI_of (fv_of e rfl)).symm (congrArg Int32.toInt (fI_of (fv_of e rfl))).symm⟩
theorem T_pI_5_2 {P : hS → Prop} {x : Int32} (h : St Γ Φ S) (hf : fre Γ Φ L) (ha : Γ a = some (5, 5, 0, 0, ρ)) (hm : 5 ∈ L) (k : ∀ S₁, St Γ Φ S₁ → fI S₁ a 2 = x → sEqx S S₁ a 2 → aEq S S₁ → P S₁) : pI S a 5 2 x P := by
  obtain ⟨b0, b1, b2, b3, e, hc⟩ := h.c5 ha
  refine ⟨_, e, by simp only [List.length_cons, List.length_nil]; omega, k _ (h.set ha (hf a _ ha hm) (cellOk_5 rfl ⟨b0, b1, x, b3, rfl, hc.1, hc.2⟩)) (fI_of (fv_of (hset_self _ _ _) rfl)) (fun b j hn => ?_) (aEq_hset e)⟩
  by_cases e1 : b = a
  · subst e1
    unfold fv
    rw [hset_self, e]
    show (List.set _ _ _).getD j _ = List.getD _ j _
    rw [List.getD_eq_getElem?_getD, List.getD_eq_getElem?_getD, List.getElem?_set_ne (fun z => hn ⟨rfl, z.symm⟩)]
  · exact fv_hset_ne e1
theorem T_gI_5_3 {P : Int32 → Prop} (h : St Γ Φ S) (ha : Γ a = some (5, 5, 0, 0, ρ)) (k : ∀ x, x = fI S a 3 → (x.toInt = (fI S a 3).toInt) → P x) : gI S a 5 3 P := by
  obtain ⟨b0, b1, b2, b3, e, hc⟩ := h.c5 ha
  exact ⟨_, _, e, rfl, k b3 (fI_of (fv_of e rfl)).symm (congrArg Int32.toInt (fI_of (fv_of e rfl))).symm⟩
theorem T_pI_5_3 {P : hS → Prop} {x : Int32} (h : St Γ Φ S) (hf : fre Γ Φ L) (ha : Γ a = some (5, 5, 0, 0, ρ)) (hm : 5 ∈ L) (k : ∀ S₁, St Γ Φ S₁ → fI S₁ a 3 = x → sEqx S S₁ a 3 → aEq S S₁ → P S₁) : pI S a 5 3 x P := by
  obtain ⟨b0, b1, b2, b3, e, hc⟩ := h.c5 ha
  refine ⟨_, e, by simp only [List.length_cons, List.length_nil]; omega, k _ (h.set ha (hf a _ ha hm) (cellOk_5 rfl ⟨b0, b1, b2, x, rfl, hc.1, hc.2⟩)) (fI_of (fv_of (hset_self _ _ _) rfl)) (fun b j hn => ?_) (aEq_hset e)⟩
  by_cases e1 : b = a
  · subst e1
    unfold fv
    rw [hset_self, e]
    show (List.set _ _ _).getD j _ = List.getD _ j _
    rw [List.getD_eq_getElem?_getD, List.getD_eq_getElem?_getD, List.getElem?_set_ne (fun z => hn ⟨rfl, z.symm⟩)]
  · exact fv_hset_ne e1
theorem St.c6 (h : St Γ Φ S) (ha : Γ a = some (6, 6, 0, 0, ρ)) : cl6 Γ (6, 6, 0, 0, ρ) (S a) := (h.1 a _ ha).2.2.2.2.2.2.1 rfl
theorem T_oK_6 {P : Prop} (h : St Γ Φ S) (ha : Γ a = some (6, 6, 0, 0, ρ)) (k : P) : oK S a 6 ∧ P := by
  obtain ⟨b0, e, hc⟩ := h.c6 ha
  exact ⟨⟨_, e⟩, k⟩
theorem T_gP_6_0 {P : Nat → Prop} (h : St Γ Φ S) (ha : Γ a = some (6, 6, 0, 0, ρ)) (k : ∀ x, x = fP S a 0 → Γ x = some (20, 700, 52, 0, k0) → P x) : gP S a 6 0 P := by
  obtain ⟨b0, e, hc⟩ := h.c6 ha
  exact ⟨_, _, e, rfl, k b0 (fP_of (fv_of e rfl)).symm hc.2⟩
theorem E_gP_6_0 {P : Nat → Prop} (h : St Γ Φ S) (ha : Γ a = some (6, 6, 0, 0, ρ)) (k : Γ (ρ 0) = some (20, 700, 52, 0, k0) → P (ρ 0)) : gP S a 6 0 P := by
  obtain ⟨b0, e, hc⟩ := h.c6 ha
  have e0 : b0 = ρ 0 := hc.1
  subst e0
  exact ⟨_, _, e, rfl, k hc.2⟩
theorem P_6_0 (h : St Γ Φ S) (ha : Γ a = some (6, 6, 0, 0, ρ)) : fP S a 0 = ρ 0 ∧ Γ (ρ 0) = some (20, 700, 52, 0, k0) := by
  obtain ⟨b0, e, hc⟩ := h.c6 ha
  have e0 : b0 = ρ 0 := hc.1
  subst e0
  exact ⟨fP_of (fv_of e rfl), hc.2⟩
theorem St.c7 (h : St Γ Φ S) (ha : Γ a = some (7, 7, 0, 0, ρ)) : cl7 Γ (7, 7, 0, 0, ρ) (S a) := (h.1 a _ ha).2.2.2.2.2.2.2.1 rfl
theorem T_oK_7 {P : Prop} (h : St Γ Φ S) (ha : Γ a = some (7, 7, 0, 0, ρ)) (k : P) : oK S a 7 ∧ P := by
  obtain ⟨b0, b1, b2, b3, b4, e, hc⟩ := h.c7 ha
  exact ⟨⟨_, e⟩, k⟩
theorem T_gP_7_0 {P : Nat → Prop} (h : St Γ Φ S) (ha : Γ a = some (7, 7, 0, 0, ρ)) (k : ∀ x, x = fP S a 0 → Γ x = some (20, 800, 8, 0, k0) → P x) : gP S a 7 0 P := by
  obtain ⟨b0, b1, b2, b3, b4, e, hc⟩ := h.c7 ha
  exact ⟨_, _, e, rfl, k b0 (fP_of (fv_of e rfl)).symm hc.1.2⟩
theorem E_gP_7_0 {P : Nat → Prop} (h : St Γ Φ S) (ha : Γ a = some (7, 7, 0, 0, ρ)) (k : Γ (ρ 0) = some (20, 800, 8, 0, k0) → P (ρ 0)) : gP S a 7 0 P := by
  obtain ⟨b0, b1, b2, b3, b4, e, hc⟩ := h.c7 ha
  have e0 : b0 = ρ 0 := hc.1.1
  subst e0
  exact ⟨_, _, e, rfl, k hc.1.2⟩
theorem P_7_0 (h : St Γ Φ S) (ha : Γ a = some (7, 7, 0, 0, ρ)) : fP S a 0 = ρ 0 ∧ Γ (ρ 0) = some (20, 800, 8, 0, k0) := by
  obtain ⟨b0, b1, b2, b3, b4, e, hc⟩ := h.c7 ha
  have e0 : b0 = ρ 0 := hc.1.1
  subst e0
  exact ⟨fP_of (fv_of e rfl), hc.1.2⟩
theorem T_gP_7_1 {P : Nat → Prop} (h : St Γ Φ S) (ha : Γ a = some (7, 7, 0, 0, ρ)) (k : ∀ x, x = fP S a 1 → Γ x = some (20, 801, 8, 0, k0) → P x) : gP S a 7 1 P := by
  obtain ⟨b0, b1, b2, b3, b4, e, hc⟩ := h.c7 ha
  exact ⟨_, _, e, rfl, k b1 (fP_of (fv_of e rfl)).symm hc.2.1.2⟩
theorem E_gP_7_1 {P : Nat → Prop} (h : St Γ Φ S) (ha : Γ a = some (7, 7, 0, 0, ρ)) (k : Γ (ρ 1) = some (20, 801, 8, 0, k0) → P (ρ 1)) : gP S a 7 1 P := by
  obtain ⟨b0, b1, b2, b3, b4, e, hc⟩ := h.c7 ha
  have e1 : b1 = ρ 1 := hc.2.1.1
  subst e1
  exact ⟨_, _, e, rfl, k hc.2.1.2⟩
theorem P_7_1 (h : St Γ Φ S) (ha : Γ a = some (7, 7, 0, 0, ρ)) : fP S a 1 = ρ 1 ∧ Γ (ρ 1) = some (20, 801, 8, 0, k0) := by
  obtain ⟨b0, b1, b2, b3, b4, e, hc⟩ := h.c7 ha
  have e1 : b1 = ρ 1 := hc.2.1.1
  subst e1
  exact ⟨fP_of (fv_of e rfl), hc.2.1.2⟩
theorem T_gP_7_2 {P : Nat → Prop} (h : St Γ Φ S) (ha : Γ a = some (7, 7, 0, 0, ρ)) (k : ∀ x, x = fP S a 2 → Γ x = some (20, 802, 8, 0, k0) → P x) : gP S a 7 2 P := by
  obtain ⟨b0, b1, b2, b3, b4, e, hc⟩ := h.c7 ha
  exact ⟨_, _, e, rfl, k b2 (fP_of (fv_of e rfl)).symm hc.2.2.1.2⟩
theorem E_gP_7_2 {P : Nat → Prop} (h : St Γ Φ S) (ha : Γ a = some (7, 7, 0, 0, ρ)) (k : Γ (ρ 2) = some (20, 802, 8, 0, k0) → P (ρ 2)) : gP S a 7 2 P := by
  obtain ⟨b0, b1, b2, b3, b4, e, hc⟩ := h.c7 ha
  have e2 : b2 = ρ 2 := hc.2.2.1.1
  subst e2
  exact ⟨_, _, e, rfl, k hc.2.2.1.2⟩
theorem P_7_2 (h : St Γ Φ S) (ha : Γ a = some (7, 7, 0, 0, ρ)) : fP S a 2 = ρ 2 ∧ Γ (ρ 2) = some (20, 802, 8, 0, k0) := by
  obtain ⟨b0, b1, b2, b3, b4, e, hc⟩ := h.c7 ha
  have e2 : b2 = ρ 2 := hc.2.2.1.1
  subst e2
  exact ⟨fP_of (fv_of e rfl), hc.2.2.1.2⟩
theorem T_gP_7_3 {P : Nat → Prop} (h : St Γ Φ S) (ha : Γ a = some (7, 7, 0, 0, ρ)) (k : ∀ x, x = fP S a 3 → Γ x = some (20, 803, 189, 0, k0) → P x) : gP S a 7 3 P := by
  obtain ⟨b0, b1, b2, b3, b4, e, hc⟩ := h.c7 ha
  exact ⟨_, _, e, rfl, k b3 (fP_of (fv_of e rfl)).symm hc.2.2.2.1.2⟩
theorem E_gP_7_3 {P : Nat → Prop} (h : St Γ Φ S) (ha : Γ a = some (7, 7, 0, 0, ρ)) (k : Γ (ρ 3) = some (20, 803, 189, 0, k0) → P (ρ 3)) : gP S a 7 3 P := by
  obtain ⟨b0, b1, b2, b3, b4, e, hc⟩ := h.c7 ha
  have e3 : b3 = ρ 3 := hc.2.2.2.1.1
  subst e3
  exact ⟨_, _, e, rfl, k hc.2.2.2.1.2⟩
theorem P_7_3 (h : St Γ Φ S) (ha : Γ a = some (7, 7, 0, 0, ρ)) : fP S a 3 = ρ 3 ∧ Γ (ρ 3) = some (20, 803, 189, 0, k0) := by
  obtain ⟨b0, b1, b2, b3, b4, e, hc⟩ := h.c7 ha
  have e3 : b3 = ρ 3 := hc.2.2.2.1.1
  subst e3
  exact ⟨fP_of (fv_of e rfl), hc.2.2.2.1.2⟩
theorem T_gP_7_4 {P : Nat → Prop} (h : St Γ Φ S) (ha : Γ a = some (7, 7, 0, 0, ρ)) (k : ∀ x, x = fP S a 4 → Γ x = some (25, 804, 21, 0, k0) → P x) : gP S a 7 4 P := by
  obtain ⟨b0, b1, b2, b3, b4, e, hc⟩ := h.c7 ha
  exact ⟨_, _, e, rfl, k b4 (fP_of (fv_of e rfl)).symm hc.2.2.2.2.2⟩
theorem E_gP_7_4 {P : Nat → Prop} (h : St Γ Φ S) (ha : Γ a = some (7, 7, 0, 0, ρ)) (k : Γ (ρ 4) = some (25, 804, 21, 0, k0) → P (ρ 4)) : gP S a 7 4 P := by
  obtain ⟨b0, b1, b2, b3, b4, e, hc⟩ := h.c7 ha
  have e4 : b4 = ρ 4 := hc.2.2.2.2.1
  subst e4
  exact ⟨_, _, e, rfl, k hc.2.2.2.2.2⟩
theorem P_7_4 (h : St Γ Φ S) (ha : Γ a = some (7, 7, 0, 0, ρ)) : fP S a 4 = ρ 4 ∧ Γ (ρ 4) = some (25, 804, 21, 0, k0) := by
  obtain ⟨b0, b1, b2, b3, b4, e, hc⟩ := h.c7 ha
  have e4 : b4 = ρ 4 := hc.2.2.2.2.1
  subst e4
  exact ⟨fP_of (fv_of e rfl), hc.2.2.2.2.2⟩
theorem St.c8 (h : St Γ Φ S) (ha : Γ a = some (8, 8 + 10000 * i, i, 0, ρ)) : cl8 Γ (8, 8 + 10000 * i, i, 0, ρ) (S a) := (h.1 a _ ha).2.2.2.2.2.2.2.2.1 rfl
theorem T_oK_8 {P : Prop} (h : St Γ Φ S) (ha : Γ a = some (8, 8 + 10000 * i, i, 0, ρ)) (k : P) : oK S a 8 ∧ P := by
  obtain ⟨b0, b1, b2, b3, b4, b5, b6, b7, b8, b9, b10, b11, b12, b13, b14, b15, b16, e, hc⟩ := h.c8 ha
  exact ⟨⟨_, e⟩, k⟩
theorem T_gP_8_0 {P : Nat → Prop} (h : St Γ Φ S) (ha : Γ a = some (8, 8 + 10000 * i, i, 0, ρ)) (k : ∀ x, x = fP S a 0 → Γ x = some (2, 2 + 10000 * i, i, 0, bk 0 ρ) → P x) : gP S a 8 0 P := by
  obtain ⟨b0, b1, b2, b3, b4, b5, b6, b7, b8, b9, b10, b11, b12, b13, b14, b15, b16, e, hc⟩ := h.c8 ha
  exact ⟨_, _, e, rfl, k b0 (fP_of (fv_of e rfl)).symm hc.1.2⟩
theorem E_gP_8_0 {P : Nat → Prop} (h : St Γ Φ S) (ha : Γ a = some (8, 8 + 10000 * i, i, 0, ρ)) (k : Γ (ρ 0) = some (2, 2 + 10000 * i, i, 0, bk 0 ρ) → P (ρ 0)) : gP S a 8 0 P := by
  obtain ⟨b0, b1, b2, b3, b4, b5, b6, b7, b8, b9, b10, b11, b12, b13, b14, b15, b16, e, hc⟩ := h.c8 ha
  have e0 : b0 = ρ 0 := hc.1.1
  subst e0
  exact ⟨_, _, e, rfl, k hc.1.2⟩
theorem P_8_0 (h : St Γ Φ S) (ha : Γ a = some (8, 8 + 10000 * i, i, 0, ρ)) : fP S a 0 = ρ 0 ∧ Γ (ρ 0) = some (2, 2 + 10000 * i, i, 0, bk 0 ρ) := by
  obtain ⟨b0, b1, b2, b3, b4, b5, b6, b7, b8, b9, b10, b11, b12, b13, b14, b15, b16, e, hc⟩ := h.c8 ha
  have e0 : b0 = ρ 0 := hc.1.1
  subst e0
  exact ⟨fP_of (fv_of e rfl), hc.1.2⟩
theorem T_gI_8_1 {P : Int32 → Prop} (h : St Γ Φ S) (ha : Γ a = some (8, 8 + 10000 * i, i, 0, ρ)) (k : ∀ x, x = fI S a 1 → (x.toInt = (fI S a 1).toInt ∧ 0 ≤ x.toInt ∧ x.toInt ≤ 6) → P x) : gI S a 8 1 P := by
  obtain ⟨b0, b1, b2, b3, b4, b5, b6, b7, b8, b9, b10, b11, b12, b13, b14, b15, b16, e, hc⟩ := h.c8 ha
  exact ⟨_, _, e, rfl, k b1 (fI_of (fv_of e rfl)).symm ⟨(congrArg Int32.toInt (fI_of (fv_of e rfl))).symm, hc.2.1⟩⟩
theorem T_pI_8_1 {P : hS → Prop} {x : Int32} (h : St Γ Φ S) (hf : fre Γ Φ L) (ha : Γ a = some (8, 8 + 10000 * i, i, 0, ρ)) (hm : 8 + 10000 * i ∈ L) (hx : 0 ≤ x.toInt ∧ x.toInt ≤ 6) (k : ∀ S₁, St Γ Φ S₁ → fI S₁ a 1 = x → sEqx S S₁ a 1 → aEq S S₁ → P S₁) : pI S a 8 1 x P := by
  obtain ⟨b0, b1, b2, b3, b4, b5, b6, b7, b8, b9, b10, b11, b12, b13, b14, b15, b16, e, hc⟩ := h.c8 ha
  refine ⟨_, e, by simp only [List.length_cons, List.length_nil]; omega, k _ (h.set ha (hf a _ ha hm) (cellOk_8 rfl ⟨b0, x, b2, b3, b4, b5, b6, b7, b8, b9, b10, b11, b12, b13, b14, b15, b16, rfl, hc.1, hx, hc.2.2.1, hc.2.2.2.1, hc.2.2.2.2.1, hc.2.2.2.2.2.1, hc.2.2.2.2.2.2.1, hc.2.2.2.2.2.2.2.1, hc.2.2.2.2.2.2.2.2.1, hc.2.2.2.2.2.2.2.2.2.1, hc.2.2.2.2.2.2.2.2.2.2.1, hc.2.2.2.2.2.2.2.2.2.2.2.1, hc.2.2.2.2.2.2.2.2.2.2.2.2.1, hc.2.2.2.2.2.2.2.2.2.2.2.2.2⟩)) (fI_of (fv_of (hset_self _ _ _) rfl)) (fun b j hn => ?_) (aEq_hset e)⟩
  by_cases e1 : b = a
  · subst e1
    unfold fv
    rw [hset_self, e]
    show (List.set _ _ _).getD j _ = List.getD _ j _
    rw [List.getD_eq_getElem?_getD, List.getD_eq_getElem?_getD, List.getElem?_set_ne (fun z => hn ⟨rfl, z.symm⟩)]
  · exact fv_hset_ne e1
theorem T_gP_8_2 {P : Nat → Prop} (h : St Γ Φ S) (ha : Γ a = some (8, 8 + 10000 * i, i, 0, ρ)) (k : ∀ x, x = fP S a 2 → Γ x = some (20, 902 + 10000 * i, 6, 0, k0) → P x) : gP S a 8 2 P := by
  obtain ⟨b0, b1, b2, b3, b4, b5, b6, b7, b8, b9, b10, b11, b12, b13, b14, b15, b16, e, hc⟩ := h.c8 ha
  exact ⟨_, _, e, rfl, k b2 (fP_of (fv_of e rfl)).symm hc.2.2.1.2⟩
theorem E_gP_8_2 {P : Nat → Prop} (h : St Γ Φ S) (ha : Γ a = some (8, 8 + 10000 * i, i, 0, ρ)) (k : Γ (ρ 2) = some (20, 902 + 10000 * i, 6, 0, k0) → P (ρ 2)) : gP S a 8 2 P := by
  obtain ⟨b0, b1, b2, b3, b4, b5, b6, b7, b8, b9, b10, b11, b12, b13, b14, b15, b16, e, hc⟩ := h.c8 ha
  have e2 : b2 = ρ 2 := hc.2.2.1.1
  subst e2
  exact ⟨_, _, e, rfl, k hc.2.2.1.2⟩
theorem P_8_2 (h : St Γ Φ S) (ha : Γ a = some (8, 8 + 10000 * i, i, 0, ρ)) : fP S a 2 = ρ 2 ∧ Γ (ρ 2) = some (20, 902 + 10000 * i, 6, 0, k0) := by
  obtain ⟨b0, b1, b2, b3, b4, b5, b6, b7, b8, b9, b10, b11, b12, b13, b14, b15, b16, e, hc⟩ := h.c8 ha
  have e2 : b2 = ρ 2 := hc.2.2.1.1
  subst e2
  exact ⟨fP_of (fv_of e rfl), hc.2.2.1.2⟩
theorem T_gP_8_3 {P : Nat → Prop} (h : St Γ Φ S) (ha : Γ a = some (8, 8 + 10000 * i, i, 0, ρ)) (k : ∀ x, x = fP S a 3 → Γ x = some (20, 903 + 10000 * i, 6, 0, k0) → P x) : gP S a 8 3 P := by
  obtain ⟨b0, b1, b2, b3, b4, b5, b6, b7, b8, b9, b10, b11, b12, b13, b14, b15, b16, e, hc⟩ := h.c8 ha
  exact ⟨_, _, e, rfl, k b3 (fP_of (fv_of e rfl)).symm hc.2.2.2.1.2⟩
theorem E_gP_8_3 {P : Nat → Prop} (h : St Γ Φ S) (ha : Γ a = some (8, 8 + 10000 * i, i, 0, ρ)) (k : Γ (ρ 3) = some (20, 903 + 10000 * i, 6, 0, k0) → P (ρ 3)) : gP S a 8 3 P := by
  obtain ⟨b0, b1, b2, b3, b4, b5, b6, b7, b8, b9, b10, b11, b12, b13, b14, b15, b16, e, hc⟩ := h.c8 ha
  have e3 : b3 = ρ 3 := hc.2.2.2.1.1
  subst e3
  exact ⟨_, _, e, rfl, k hc.2.2.2.1.2⟩
theorem P_8_3 (h : St Γ Φ S) (ha : Γ a = some (8, 8 + 10000 * i, i, 0, ρ)) : fP S a 3 = ρ 3 ∧ Γ (ρ 3) = some (20, 903 + 10000 * i, 6, 0, k0) := by
  obtain ⟨b0, b1, b2, b3, b4, b5, b6, b7, b8, b9, b10, b11, b12, b13, b14, b15, b16, e, hc⟩ := h.c8 ha
  have e3 : b3 = ρ 3 := hc.2.2.2.1.1
  subst e3
  exact ⟨fP_of (fv_of e rfl), hc.2.2.2.1.2⟩
theorem T_gI_8_4 {P : Int32 → Prop} (h : St Γ Φ S) (ha : Γ a = some (8, 8 + 10000 * i, i, 0, ρ)) (k : ∀ x, x = fI S a 4 → (x.toInt = (fI S a 4).toInt ∧ 0 ≤ x.toInt ∧ x.toInt ≤ 8) → P x) : gI S a 8 4 P := by
  obtain ⟨b0, b1, b2, b3, b4, b5, b6, b7, b8, b9, b10, b11, b12, b13, b14, b15, b16, e, hc⟩ := h.c8 ha
  exact ⟨_, _, e, rfl, k b4 (fI_of (fv_of e rfl)).symm ⟨(congrArg Int32.toInt (fI_of (fv_of e rfl))).symm, hc.2.2.2.2.1⟩⟩
theorem T_pI_8_4 {P : hS → Prop} {x : Int32} (h : St Γ Φ S) (hf : fre Γ Φ L) (ha : Γ a = some (8, 8 + 10000 * i, i, 0, ρ)) (hm : 8 + 10000 * i ∈ L) (hx : 0 ≤ x.toInt ∧ x.toInt ≤ 8) (k : ∀ S₁, St Γ Φ S₁ → fI S₁ a 4 = x → sEqx S S₁ a 4 → aEq S S₁ → P S₁) : pI S a 8 4 x P := by
  obtain ⟨b0, b1, b2, b3, b4, b5, b6, b7, b8, b9, b10, b11, b12, b13, b14, b15, b16, e, hc⟩ := h.c8 ha
  refine ⟨_, e, by simp only [List.length_cons, List.length_nil]; omega, k _ (h.set ha (hf a _ ha hm) (cellOk_8 rfl ⟨b0, b1, b2, b3, x, b5, b6, b7, b8, b9, b10, b11, b12, b13, b14, b15, b16, rfl, hc.1, hc.2.1, hc.2.2.1, hc.2.2.2.1, hx, hc.2.2.2.2.2.1, hc.2.2.2.2.2.2.1, hc.2.2.2.2.2.2.2.1, hc.2.2.2.2.2.2.2.2.1, hc.2.2.2.2.2.2.2.2.2.1, hc.2.2.2.2.2.2.2.2.2.2.1, hc.2.2.2.2.2.2.2.2.2.2.2.1, hc.2.2.2.2.2.2.2.2.2.2.2.2.1, hc.2.2.2.2.2.2.2.2.2.2.2.2.2⟩)) (fI_of (fv_of (hset_self _ _ _) rfl)) (fun b j hn => ?_) (aEq_hset e)⟩
  by_cases e1 : b = a
  · subst e1
    unfold fv
    rw [hset_self, e]
    show (List.set _ _ _).getD j _ = List.getD _ j _
    rw [List.getD_eq_getElem?_getD, List.getD_eq_getElem?_getD, List.getElem?_set_ne (fun z => hn ⟨rfl, z.symm⟩)]
  · exact fv_hset_ne e1
theorem T_gP_8_5 {P : Nat → Prop} (h : St Γ Φ S) (ha : Γ a = some (8, 8 + 10000 * i, i, 0, ρ)) (k : ∀ x, x = fP S a 5 → Γ x = some (20, 905 + 10000 * i, 8, 0, k0) → P x) : gP S a 8 5 P := by
  obtain ⟨b0, b1, b2, b3, b4, b5, b6, b7, b8, b9, b10, b11, b12, b13, b14, b15, b16, e, hc⟩ := h.c8 ha
  exact ⟨_, _, e, rfl, k b5 (fP_of (fv_of e rfl)).symm hc.2.2.2.2.2.1.2⟩
theorem E_gP_8_5 {P : Nat → Prop} (h : St Γ Φ S) (ha : Γ a = some (8, 8 + 10000 * i, i, 0, ρ)) (k : Γ (ρ 5) = some (20, 905 + 10000 * i, 8, 0, k0) → P (ρ 5)) : gP S a 8 5 P := by
  obtain ⟨b0, b1, b2, b3, b4, b5, b6, b7, b8, b9, b10, b11, b12, b13, b14, b15, b16, e, hc⟩ := h.c8 ha
  have e5 : b5 = ρ 5 := hc.2.2.2.2.2.1.1
  subst e5
  exact ⟨_, _, e, rfl, k hc.2.2.2.2.2.1.2⟩
theorem P_8_5 (h : St Γ Φ S) (ha : Γ a = some (8, 8 + 10000 * i, i, 0, ρ)) : fP S a 5 = ρ 5 ∧ Γ (ρ 5) = some (20, 905 + 10000 * i, 8, 0, k0) := by
  obtain ⟨b0, b1, b2, b3, b4, b5, b6, b7, b8, b9, b10, b11, b12, b13, b14, b15, b16, e, hc⟩ := h.c8 ha
  have e5 : b5 = ρ 5 := hc.2.2.2.2.2.1.1
  subst e5
  exact ⟨fP_of (fv_of e rfl), hc.2.2.2.2.2.1.2⟩
theorem T_gP_8_6 {P : Nat → Prop} (h : St Γ Φ S) (ha : Γ a = some (8, 8 + 10000 * i, i, 0, ρ)) (k : ∀ x, x = fP S a 6 → Γ x = some (20, 906 + 10000 * i, 8, 0, k0) → P x) : gP S a 8 6 P := by
  obtain ⟨b0, b1, b2, b3, b4, b5, b6, b7, b8, b9, b10, b11, b12, b13, b14, b15, b16, e, hc⟩ := h.c8 ha
  exact ⟨_, _, e, rfl, k b6 (fP_of (fv_of e rfl)).symm hc.2.2.2.2.2.2.1.2⟩
theorem E_gP_8_6 {P : Nat → Prop} (h : St Γ Φ S) (ha : Γ a = some (8, 8 + 10000 * i, i, 0, ρ)) (k : Γ (ρ 6) = some (20, 906 + 10000 * i, 8, 0, k0) → P (ρ 6)) : gP S a 8 6 P := by
  obtain ⟨b0, b1, b2, b3, b4, b5, b6, b7, b8, b9, b10, b11, b12, b13, b14, b15, b16, e, hc⟩ := h.c8 ha
  have e6 : b6 = ρ 6 := hc.2.2.2.2.2.2.1.1
  subst e6
  exact ⟨_, _, e, rfl, k hc.2.2.2.2.2.2.1.2⟩
theorem P_8_6 (h : St Γ Φ S) (ha : Γ a = some (8, 8 + 10000 * i, i, 0, ρ)) : fP S a 6 = ρ 6 ∧ Γ (ρ 6) = some (20, 906 + 10000 * i, 8, 0, k0) := by
  obtain ⟨b0, b1, b2, b3, b4, b5, b6, b7, b8, b9, b10, b11, b12, b13, b14, b15, b16, e, hc⟩ := h.c8 ha
  have e6 : b6 = ρ 6 := hc.2.2.2.2.2.2.1.1
  subst e6
  exact ⟨fP_of (fv_of e rfl), hc.2.2.2.2.2.2.1.2⟩
theorem T_gP_8_7 {P : Nat → Prop} (h : St Γ Φ S) (ha : Γ a = some (8, 8 + 10000 * i, i, 0, ρ)) (k : ∀ x, x = fP S a 7 → Γ x = some (20, 907 + 10000 * i, 8, 0, k0) → P x) : gP S a 8 7 P := by
  obtain ⟨b0, b1, b2, b3, b4, b5, b6, b7, b8, b9, b10, b11, b12, b13, b14, b15, b16, e, hc⟩ := h.c8 ha
  exact ⟨_, _, e, rfl, k b7 (fP_of (fv_of e rfl)).symm hc.2.2.2.2.2.2.2.1.2⟩
theorem E_gP_8_7 {P : Nat → Prop} (h : St Γ Φ S) (ha : Γ a = some (8, 8 + 10000 * i, i, 0, ρ)) (k : Γ (ρ 7) = some (20, 907 + 10000 * i, 8, 0, k0) → P (ρ 7)) : gP S a 8 7 P := by
  obtain ⟨b0, b1, b2, b3, b4, b5, b6, b7, b8, b9, b10, b11, b12, b13, b14, b15, b16, e, hc⟩ := h.c8 ha
  have e7 : b7 = ρ 7 := hc.2.2.2.2.2.2.2.1.1
  subst e7
  exact ⟨_, _, e, rfl, k hc.2.2.2.2.2.2.2.1.2⟩
theorem P_8_7 (h : St Γ Φ S) (ha : Γ a = some (8, 8 + 10000 * i, i, 0, ρ)) : fP S a 7 = ρ 7 ∧ Γ (ρ 7) = some (20, 907 + 10000 * i, 8, 0, k0) := by
  obtain ⟨b0, b1, b2, b3, b4, b5, b6, b7, b8, b9, b10, b11, b12, b13, b14, b15, b16, e, hc⟩ := h.c8 ha
  have e7 : b7 = ρ 7 := hc.2.2.2.2.2.2.2.1.1
  subst e7
  exact ⟨fP_of (fv_of e rfl), hc.2.2.2.2.2.2.2.1.2⟩
theorem T_gP_8_8 {P : Nat → Prop} (h : St Γ Φ S) (ha : Γ a = some (8, 8 + 10000 * i, i, 0, ρ)) (k : ∀ x, x = fP S a 8 → Γ x = some (20, 908 + 10000 * i, 8, 0, k0) → P x) : gP S a 8 8 P := by
  obtain ⟨b0, b1, b2, b3, b4, b5, b6, b7, b8, b9, b10, b11, b12, b13, b14, b15, b16, e, hc⟩ := h.c8 ha
  exact ⟨_, _, e, rfl, k b8 (fP_of (fv_of e rfl)).symm hc.2.2.2.2.2.2.2.2.1.2⟩
theorem E_gP_8_8 {P : Nat → Prop} (h : St Γ Φ S) (ha : Γ a = some (8, 8 + 10000 * i, i, 0, ρ)) (k : Γ (ρ 8) = some (20, 908 + 10000 * i, 8, 0, k0) → P (ρ 8)) : gP S a 8 8 P := by
  obtain ⟨b0, b1, b2, b3, b4, b5, b6, b7, b8, b9, b10, b11, b12, b13, b14, b15, b16, e, hc⟩ := h.c8 ha
  have e8 : b8 = ρ 8 := hc.2.2.2.2.2.2.2.2.1.1
  subst e8
  exact ⟨_, _, e, rfl, k hc.2.2.2.2.2.2.2.2.1.2⟩
theorem P_8_8 (h : St Γ Φ S) (ha : Γ a = some (8, 8 + 10000 * i, i, 0, ρ)) : fP S a 8 = ρ 8 ∧ Γ (ρ 8) = some (20, 908 + 10000 * i, 8, 0, k0) := by
  obtain ⟨b0, b1, b2, b3, b4, b5, b6, b7, b8, b9, b10, b11, b12, b13, b14, b15, b16, e, hc⟩ := h.c8 ha
  have e8 : b8 = ρ 8 := hc.2.2.2.2.2.2.2.2.1.1
  subst e8
  exact ⟨fP_of (fv_of e rfl), hc.2.2.2.2.2.2.2.2.1.2⟩
theorem T_gI_8_9 {P : Int32 → Prop} (h : St Γ Φ S) (ha : Γ a = some (8, 8 + 10000 * i, i, 0, ρ)) (k : ∀ x, x = fI S a 9 → (x.toInt = (fI S a 9).toInt ∧ 0 ≤ x.toInt ∧ x.toInt ≤ 6) → P x) : gI S a 8 9 P := by
  obtain ⟨b0, b1, b2, b3, b4, b5, b6, b7, b8, b9, b10, b11, b12, b13, b14, b15, b16, e, hc⟩ := h.c8 ha
  exact ⟨_, _, e, rfl, k b9 (fI_of (fv_of e rfl)).symm ⟨(congrArg Int32.toInt (fI_of (fv_of e rfl))).symm, hc.2.2.2.2.2.2.2.2.2.1⟩⟩
theorem T_pI_8_9 {P : hS → Prop} {x : Int32} (h : St Γ Φ S) (hf : fre Γ Φ L) (ha : Γ a = some (8, 8 + 10000 * i, i, 0, ρ)) (hm : 8 + 10000 * i ∈ L) (hx : 0 ≤ x.toInt ∧ x.toInt ≤ 6) (k : ∀ S₁, St Γ Φ S₁ → fI S₁ a 9 = x → sEqx S S₁ a 9 → aEq S S₁ → P S₁) : pI S a 8 9 x P := by
  obtain ⟨b0, b1, b2, b3, b4, b5, b6, b7, b8, b9, b10, b11, b12, b13, b14, b15, b16, e, hc⟩ := h.c8 ha
  refine ⟨_, e, by simp only [List.length_cons, List.length_nil]; omega, k _ (h.set ha (hf a _ ha hm) (cellOk_8 rfl ⟨b0, b1, b2, b3, b4, b5, b6, b7, b8, x, b10, b11, b12, b13, b14, b15, b16, rfl, hc.1, hc.2.1, hc.2.2.1, hc.2.2.2.1, hc.2.2.2.2.1, hc.2.2.2.2.2.1, hc.2.2.2.2.2.2.1, hc.2.2.2.2.2.2.2.1, hc.2.2.2.2.2.2.2.2.1, hx, hc.2.2.2.2.2.2.2.2.2.2.1, hc.2.2.2.2.2.2.2.2.2.2.2.1, hc.2.2.2.2.2.2.2.2.2.2.2.2.1, hc.2.2.2.2.2.2.2.2.2.2.2.2.2⟩)) (fI_of (fv_of (hset_self _ _ _) rfl)) (fun b j hn => ?_) (aEq_hset e)⟩
  by_cases e1 : b = a
  · subst e1
    unfold fv
    rw [hset_self, e]
    show (List.set _ _ _).getD j _ = List.getD _ j _
    rw [List.getD_eq_getElem?_getD, List.getD_eq_getElem?_getD, List.getElem?_set_ne (fun z => hn ⟨rfl, z.symm⟩)]
  · exact fv_hset_ne e1
theorem T_gP_8_10 {P : Nat → Prop} (h : St Γ Φ S) (ha : Γ a = some (8, 8 + 10000 * i, i, 0, ρ)) (k : ∀ x, x = fP S a 10 → Γ x = some (21, 910 + 10000 * i, 6, 0, k0) → P x) : gP S a 8 10 P := by
  obtain ⟨b0, b1, b2, b3, b4, b5, b6, b7, b8, b9, b10, b11, b12, b13, b14, b15, b16, e, hc⟩ := h.c8 ha
  exact ⟨_, _, e, rfl, k b10 (fP_of (fv_of e rfl)).symm hc.2.2.2.2.2.2.2.2.2.2.1.2⟩
theorem E_gP_8_10 {P : Nat → Prop} (h : St Γ Φ S) (ha : Γ a = some (8, 8 + 10000 * i, i, 0, ρ)) (k : Γ (ρ 10) = some (21, 910 + 10000 * i, 6, 0, k0) → P (ρ 10)) : gP S a 8 10 P := by
  obtain ⟨b0, b1, b2, b3, b4, b5, b6, b7, b8, b9, b10, b11, b12, b13, b14, b15, b16, e, hc⟩ := h.c8 ha
  have e10 : b10 = ρ 10 := hc.2.2.2.2.2.2.2.2.2.2.1.1
  subst e10
  exact ⟨_, _, e, rfl, k hc.2.2.2.2.2.2.2.2.2.2.1.2⟩
theorem P_8_10 (h : St Γ Φ S) (ha : Γ a = some (8, 8 + 10000 * i, i, 0, ρ)) : fP S a 10 = ρ 10 ∧ Γ (ρ 10) = some (21, 910 + 10000 * i, 6, 0, k0) := by
  obtain ⟨b0, b1, b2, b3, b4, b5, b6, b7, b8, b9, b10, b11, b12, b13, b14, b15, b16, e, hc⟩ := h.c8 ha
  have e10 : b10 = ρ 10 := hc.2.2.2.2.2.2.2.2.2.2.1.1
  subst e10
  exact ⟨fP_of (fv_of e rfl), hc.2.2.2.2.2.2.2.2.2.2.1.2⟩
theorem T_gP_8_11 {P : Nat → Prop} (h : St Γ Φ S) (ha : Γ a = some (8, 8 + 10000 * i, i, 0, ρ)) (k : ∀ x, x = fP S a 11 → Γ x = some (20, 911 + 10000 * i, 6, 0, k0) → P x) : gP S a 8 11 P := by
  obtain ⟨b0, b1, b2, b3, b4, b5, b6, b7, b8, b9, b10, b11, b12, b13, b14, b15, b16, e, hc⟩ := h.c8 ha
  exact ⟨_, _, e, rfl, k b11 (fP_of (fv_of e rfl)).symm hc.2.2.2.2.2.2.2.2.2.2.2.1.2⟩
theorem E_gP_8_11 {P : Nat → Prop} (h : St Γ Φ S) (ha : Γ a = some (8, 8 + 10000 * i, i, 0, ρ)) (k : Γ (ρ 11) = some (20, 911 + 10000 * i, 6, 0, k0) → P (ρ 11)) : gP S a 8 11 P := by
  obtain ⟨b0, b1, b2, b3, b4, b5, b6, b7, b8, b9, b10, b11, b12, b13, b14, b15, b16, e, hc⟩ := h.c8 ha
  have e11 : b11 = ρ 11 := hc.2.2.2.2.2.2.2.2.2.2.2.1.1
  subst e11
  exact ⟨_, _, e, rfl, k hc.2.2.2.2.2.2.2.2.2.2.2.1.2⟩
theorem P_8_11 (h : St Γ Φ S) (ha : Γ a = some (8, 8 + 10000 * i, i, 0, ρ)) : fP S a 11 = ρ 11 ∧ Γ (ρ 11) = some (20, 911 + 10000 * i, 6, 0, k0) := by
  obtain ⟨b0, b1, b2, b3, b4, b5, b6, b7, b8, b9, b10, b11, b12, b13, b14, b15, b16, e, hc⟩ := h.c8 ha
  have e11 : b11 = ρ 11 := hc.2.2.2.2.2.2.2.2.2.2.2.1.1
  subst e11
  exact ⟨fP_of (fv_of e rfl), hc.2.2.2.2.2.2.2.2.2.2.2.1.2⟩
theorem T_gI_8_12 {P : Int32 → Prop} (h : St Γ Φ S) (ha : Γ a = some (8, 8 + 10000 * i, i, 0, ρ)) (k : ∀ x, x = fI S a 12 → (x.toInt = (fI S a 12).toInt) → P x) : gI S a 8 12 P := by
  obtain ⟨b0, b1, b2, b3, b4, b5, b6, b7, b8, b9, b10, b11, b12, b13, b14, b15, b16, e, hc⟩ := h.c8 ha
  exact ⟨_, _, e, rfl, k b12 (fI_of (fv_of e rfl)).symm (congrArg Int32.toInt (fI_of (fv_of e rfl))).symm⟩
theorem T_pI_8_12 {P : hS → Prop} {x : Int32} (h : St Γ Φ S) (hf : fre Γ Φ L) (ha : Γ a = some (8, 8 + 10000 * i, i, 0, ρ)) (hm : 8 + 10000 * i ∈ L) (k : ∀ S₁, St Γ Φ S₁ → fI S₁ a 12 = x → sEqx S S₁ a 12 → aEq S S₁ → P S₁) : pI S a 8 12 x P := by
  obtain ⟨b0, b1, b2, b3, b4, b5, b6, b7, b8, b9, b10, b11, b12, b13, b14, b15, b16, e, hc⟩ := h.c8 ha
  refine ⟨_, e, by simp only [List.length_cons, List.length_nil]; omega, k _ (h.set ha (hf a _ ha hm) (cellOk_8 rfl ⟨b0, b1, b2, b3, b4, b5, b6, b7, b8, b9, b10, b11, x, b13, b14, b15, b16, rfl, hc.1, hc.2.1, hc.2.2.1, hc.2.2.2.1, hc.2.2.2.2.1, hc.2.2.2.2.2.1, hc.2.2.2.2.2.2.1, hc.2.2.2.2.2.2.2.1, hc.2.2.2.2.2.2.2.2.1, hc.2.2.2.2.2.2.2.2.2.1, hc.2.2.2.2.2.2.2.2.2.2.1, hc.2.2.2.2.2.2.2.2.2.2.2.1, hc.2.2.2.2.2.2.2.2.2.2.2.2.1, hc.2.2.2.2.2.2.2.2.2.2.2.2.2⟩)) (fI_of (fv_of (hset_self _ _ _) rfl)) (fun b j hn => ?_) (aEq_hset e)⟩
  by_cases e1 : b = a
  · subst e1
    unfold fv
    rw [hset_self, e]
    show (List.set _ _ _).getD j _ = List.getD _ j _
    rw [List.getD_eq_getElem?_getD, List.getD_eq_getElem?_getD, List.getElem?_set_ne (fun z => hn ⟨rfl, z.symm⟩)]
  · exact fv_hset_ne e1
theorem T_gI_8_13 {P : Int32 → Prop} (h : St Γ Φ S) (ha : Γ a = some (8, 8 + 10000 * i, i, 0, ρ)) (k : ∀ x, x = fI S a 13 → (x.toInt = (fI S a 13).toInt) → P x) : gI S a 8 13 P := by
  obtain ⟨b0, b1, b2, b3, b4, b5, b6, b7, b8, b9, b10, b11, b12, b13, b14, b15, b16, e, hc⟩ := h.c8 ha
  exact ⟨_, _, e, rfl, k b13 (fI_of (fv_of e rfl)).symm (congrArg Int32.toInt (fI_of (fv_of e rfl))).symm⟩
theorem T_pI_8_13 {P : hS → Prop} {x : Int32} (h : St Γ Φ S) (hf : fre Γ Φ L) (ha : Γ a = some (8, 8 + 10000 * i, i, 0, ρ)) (hm : 8 + 10000 * i ∈ L) (k : ∀ S₁, St Γ Φ S₁ → fI S₁ a 13 = x → sEqx S S₁ a 13 → aEq S S₁ → P S₁) : pI S a 8 13 x P := by
  obtain ⟨b0, b1, b2, b3, b4, b5, b6, b7, b8, b9, b10, b11, b12, b13, b14, b15, b16, e, hc⟩ := h.c8 ha
  refine ⟨_, e, by simp only [List.length_cons, List.length_nil]; omega, k _ (h.set ha (hf a _ ha hm) (cellOk_8 rfl ⟨b0, b1, b2, b3, b4, b5, b6, b7, b8, b9, b10, b11, b12, x, b14, b15, b16, rfl, hc.1, hc.2.1, hc.2.2.1, hc.2.2.2.1, hc.2.2.2.2.1, hc.2.2.2.2.2.1, hc.2.2.2.2.2.2.1, hc.2.2.2.2.2.2.2.1, hc.2.2.2.2.2.2.2.2.1, hc.2.2.2.2.2.2.2.2.2.1, hc.2.2.2.2.2.2.2.2.2.2.1, hc.2.2.2.2.2.2.2.2.2.2.2.1, hc.2.2.2.2.2.2.2.2.2.2.2.2.1, hc.2.2.2.2.2.2.2.2.2.2.2.2.2⟩)) (fI_of (fv_of (hset_self _ _ _) rfl)) (fun b j hn => ?_) (aEq_hset e)⟩
  by_cases e1 : b = a
  · subst e1
    unfold fv
    rw [hset_self, e]
    show (List.set _ _ _).getD j _ = List.getD _ j _
    rw [List.getD_eq_getElem?_getD, List.getD_eq_getElem?_getD, List.getElem?_set_ne (fun z => hn ⟨rfl, z.symm⟩)]
  · exact fv_hset_ne e1
theorem T_gI_8_14 {P : Int32 → Prop} (h : St Γ Φ S) (ha : Γ a = some (8, 8 + 10000 * i, i, 0, ρ)) (k : ∀ x, x = fI S a 14 → (x.toInt = (fI S a 14).toInt ∧ 0 ≤ x.toInt ∧ x.toInt ≤ 6) → P x) : gI S a 8 14 P := by
  obtain ⟨b0, b1, b2, b3, b4, b5, b6, b7, b8, b9, b10, b11, b12, b13, b14, b15, b16, e, hc⟩ := h.c8 ha
  exact ⟨_, _, e, rfl, k b14 (fI_of (fv_of e rfl)).symm ⟨(congrArg Int32.toInt (fI_of (fv_of e rfl))).symm, hc.2.2.2.2.2.2.2.2.2.2.2.2.1⟩⟩
theorem T_pI_8_14 {P : hS → Prop} {x : Int32} (h : St Γ Φ S) (hf : fre Γ Φ L) (ha : Γ a = some (8, 8 + 10000 * i, i, 0, ρ)) (hm : 8 + 10000 * i ∈ L) (hx : 0 ≤ x.toInt ∧ x.toInt ≤ 6) (k : ∀ S₁, St Γ Φ S₁ → fI S₁ a 14 = x → sEqx S S₁ a 14 → aEq S S₁ → P S₁) : pI S a 8 14 x P := by
  obtain ⟨b0, b1, b2, b3, b4, b5, b6, b7, b8, b9, b10, b11, b12, b13, b14, b15, b16, e, hc⟩ := h.c8 ha
  refine ⟨_, e, by simp only [List.length_cons, List.length_nil]; omega, k _ (h.set ha (hf a _ ha hm) (cellOk_8 rfl ⟨b0, b1, b2, b3, b4, b5, b6, b7, b8, b9, b10, b11, b12, b13, x, b15, b16, rfl, hc.1, hc.2.1, hc.2.2.1, hc.2.2.2.1, hc.2.2.2.2.1, hc.2.2.2.2.2.1, hc.2.2.2.2.2.2.1, hc.2.2.2.2.2.2.2.1, hc.2.2.2.2.2.2.2.2.1, hc.2.2.2.2.2.2.2.2.2.1, hc.2.2.2.2.2.2.2.2.2.2.1, hc.2.2.2.2.2.2.2.2.2.2.2.1, hx, hc.2.2.2.2.2.2.2.2.2.2.2.2.2⟩)) (fI_of (fv_of (hset_self _ _ _) rfl)) (fun b j hn => ?_) (aEq_hset e)⟩
  by_cases e1 : b = a
  · subst e1
    unfold fv
    rw [hset_self, e]
    show (List.set _ _ _).getD j _ = List.getD _ j _
    rw [List.getD_eq_getElem?_getD, List.getD_eq_getElem?_getD, List.getElem?_set_ne (fun z => hn ⟨rfl, z.symm⟩)]
  · exact fv_hset_ne e1
theorem T_gP_8_15 {P : Nat → Prop} (h : St Γ Φ S) (ha : Γ a = some (8, 8 + 10000 * i, i, 0, ρ)) (k : ∀ x, x = fP S a 15 → Γ x = some (28, 915 + 10000 * i, 6, 0, k0) → P x) : gP S a 8 15 P := by
  obtain ⟨b0, b1, b2, b3, b4, b5, b6, b7, b8, b9, b10, b11, b12, b13, b14, b15, b16, e, hc⟩ := h.c8 ha
  exact ⟨_, _, e, rfl, k b15 (fP_of (fv_of e rfl)).symm hc.2.2.2.2.2.2.2.2.2.2.2.2.2.2⟩
theorem E_gP_8_15 {P : Nat → Prop} (h : St Γ Φ S) (ha : Γ a = some (8, 8 + 10000 * i, i, 0, ρ)) (k : Γ (ρ 15) = some (28, 915 + 10000 * i, 6, 0, k0) → P (ρ 15)) : gP S a 8 15 P := by
  obtain ⟨b0, b1, b2, b3, b4, b5, b6, b7, b8, b9, b10, b11, b12, b13, b14, b15, b16, e, hc⟩ := h.c8 ha
  have e15 : b15 = ρ 15 := hc.2.2.2.2.2.2.2.2.2.2.2.2.2.1
  subst e15
  exact ⟨_, _, e, rfl, k hc.2.2.2.2.2.2.2.2.2.2.2.2.2.2⟩
theorem P_8_15 (h : St Γ Φ S) (ha : Γ a = some (8, 8 + 10000 * i, i, 0, ρ)) : fP S a 15 = ρ 15 ∧ Γ (ρ 15) = some (28, 915 + 10000 * i, 6, 0, k0) := by
  obtain ⟨b0, b1, b2, b3, b4, b5, b6, b7, b8, b9, b10, b11, b12, b13, b14, b15, b16, e, hc⟩ := h.c8 ha
  have e15 : b15 = ρ 15 := hc.2.2.2.2.2.2.2.2.2.2.2.2.2.1
  subst e15
  exact ⟨fP_of (fv_of e rfl), hc.2.2.2.2.2.2.2.2.2.2.2.2.2.2⟩
theorem T_gI_8_16 {P : Int32 → Prop} (h : St Γ Φ S) (ha : Γ a = some (8, 8 + 10000 * i, i, 0, ρ)) (k : ∀ x, x = fI S a 16 → (x.toInt = (fI S a 16).toInt) → P x) : gI S a 8 16 P := by
  obtain ⟨b0, b1, b2, b3, b4, b5, b6, b7, b8, b9, b10, b11, b12, b13, b14, b15, b16, e, hc⟩ := h.c8 ha
  exact ⟨_, _, e, rfl, k b16 (fI_of (fv_of e rfl)).symm (congrArg Int32.toInt (fI_of (fv_of e rfl))).symm⟩
theorem T_pI_8_16 {P : hS → Prop} {x : Int32} (h : St Γ Φ S) (hf : fre Γ Φ L) (ha : Γ a = some (8, 8 + 10000 * i, i, 0, ρ)) (hm : 8 + 10000 * i ∈ L) (k : ∀ S₁, St Γ Φ S₁ → fI S₁ a 16 = x → sEqx S S₁ a 16 → aEq S S₁ → P S₁) : pI S a 8 16 x P := by
  obtain ⟨b0, b1, b2, b3, b4, b5, b6, b7, b8, b9, b10, b11, b12, b13, b14, b15, b16, e, hc⟩ := h.c8 ha
  refine ⟨_, e, by simp only [List.length_cons, List.length_nil]; omega, k _ (h.set ha (hf a _ ha hm) (cellOk_8 rfl ⟨b0, b1, b2, b3, b4, b5, b6, b7, b8, b9, b10, b11, b12, b13, b14, b15, x, rfl, hc.1, hc.2.1, hc.2.2.1, hc.2.2.2.1, hc.2.2.2.2.1, hc.2.2.2.2.2.1, hc.2.2.2.2.2.2.1, hc.2.2.2.2.2.2.2.1, hc.2.2.2.2.2.2.2.2.1, hc.2.2.2.2.2.2.2.2.2.1, hc.2.2.2.2.2.2.2.2.2.2.1, hc.2.2.2.2.2.2.2.2.2.2.2.1, hc.2.2.2.2.2.2.2.2.2.2.2.2.1, hc.2.2.2.2.2.2.2.2.2.2.2.2.2⟩)) (fI_of (fv_of (hset_self _ _ _) rfl)) (fun b j hn => ?_) (aEq_hset e)⟩
  by_cases e1 : b = a
  · subst e1
    unfold fv
    rw [hset_self, e]
    show (List.set _ _ _).getD j _ = List.getD _ j _
    rw [List.getD_eq_getElem?_getD, List.getD_eq_getElem?_getD, List.getElem?_set_ne (fun z => hn ⟨rfl, z.symm⟩)]
  · exact fv_hset_ne e1
theorem St.c9 (h : St Γ Φ S) (ha : Γ a = some (9, 9, 0, 0, ρ)) : cl9 Γ (9, 9, 0, 0, ρ) (S a) := (h.1 a _ ha).2.2.2.2.2.2.2.2.2.1 rfl
theorem T_oK_9 {P : Prop} (h : St Γ Φ S) (ha : Γ a = some (9, 9, 0, 0, ρ)) (k : P) : oK S a 9 ∧ P := by
  obtain ⟨b0, b1, b2, b3, b4, b5, e, hc⟩ := h.c9 ha
  exact ⟨⟨_, e⟩, k⟩
theorem T_gP_9_0 {P : Nat → Prop} (h : St Γ Φ S) (ha : Γ a = some (9, 9, 0, 0, ρ)) (k : ∀ x, x = fP S a 0 → Γ x = some (22, 1000, 400, 0, k0) → P x) : gP S a 9 0 P := by
  obtain ⟨b0, b1, b2, b3, b4, b5, e, hc⟩ := h.c9 ha
  exact ⟨_, _, e, rfl, k b0 (fP_of (fv_of e rfl)).symm hc.1.2⟩
theorem E_gP_9_0 {P : Nat → Prop} (h : St Γ Φ S) (ha : Γ a = some (9, 9, 0, 0, ρ)) (k : Γ (ρ 0) = some (22, 1000, 400, 0, k0) → P (ρ 0)) : gP S a 9 0 P := by
  obtain ⟨b0, b1, b2, b3, b4, b5, e, hc⟩ := h.c9 ha
  have e0 : b0 = ρ 0 := hc.1.1
  subst e0
  exact ⟨_, _, e, rfl, k hc.1.2⟩
theorem P_9_0 (h : St Γ Φ S) (ha : Γ a = some (9, 9, 0, 0, ρ)) : fP S a 0 = ρ 0 ∧ Γ (ρ 0) = some (22, 1000, 400, 0, k0) := by
  obtain ⟨b0, b1, b2, b3, b4, b5, e, hc⟩ := h.c9 ha
  have e0 : b0 = ρ 0 := hc.1.1
  subst e0
  exact ⟨fP_of (fv_of e rfl), hc.1.2⟩
theorem T_gI_9_1 {P : Int32 → Prop} (h : St Γ Φ S) (ha : Γ a = some (9, 9, 0, 0, ρ)) (k : ∀ x, x = fI S a 1 → (x.toInt = (fI S a 1).toInt ∧ 0 ≤ x.toInt ∧ x.toInt ≤ 400) → P x) : gI S a 9 1 P := by
  obtain ⟨b0, b1, b2, b3, b4, b5, e, hc⟩ := h.c9 ha
  exact ⟨_, _, e, rfl, k b1 (fI_of (fv_of e rfl)).symm ⟨(congrArg Int32.toInt (fI_of (fv_of e rfl))).symm, hc.2.1⟩⟩
theorem T_pI_9_1 {P : hS → Prop} {x : Int32} (h : St Γ Φ S) (hf : fre Γ Φ L) (ha : Γ a = some (9, 9, 0, 0, ρ)) (hm : 9 ∈ L) (hx : 0 ≤ x.toInt ∧ x.toInt ≤ 400) (k : ∀ S₁, St Γ Φ S₁ → fI S₁ a 1 = x → sEqx S S₁ a 1 → aEq S S₁ → P S₁) : pI S a 9 1 x P := by
  obtain ⟨b0, b1, b2, b3, b4, b5, e, hc⟩ := h.c9 ha
  refine ⟨_, e, by simp only [List.length_cons, List.length_nil]; omega, k _ (h.set ha (hf a _ ha hm) (cellOk_9 rfl ⟨b0, x, b2, b3, b4, b5, rfl, hc.1, hx, hc.2.2.1, hc.2.2.2.1, hc.2.2.2.2⟩)) (fI_of (fv_of (hset_self _ _ _) rfl)) (fun b j hn => ?_) (aEq_hset e)⟩
  by_cases e1 : b = a
  · subst e1
    unfold fv
    rw [hset_self, e]
    show (List.set _ _ _).getD j _ = List.getD _ j _
    rw [List.getD_eq_getElem?_getD, List.getD_eq_getElem?_getD, List.getElem?_set_ne (fun z => hn ⟨rfl, z.symm⟩)]
  · exact fv_hset_ne e1
theorem T_gI_9_2 {P : Int32 → Prop} (h : St Γ Φ S) (ha : Γ a = some (9, 9, 0, 0, ρ)) (k : ∀ x, x = fI S a 2 → (x.toInt = (fI S a 2).toInt) → P x) : gI S a 9 2 P := by
  obtain ⟨b0, b1, b2, b3, b4, b5, e, hc⟩ := h.c9 ha
  exact ⟨_, _, e, rfl, k b2 (fI_of (fv_of e rfl)).symm (congrArg Int32.toInt (fI_of (fv_of e rfl))).symm⟩
theorem T_pI_9_2 {P : hS → Prop} {x : Int32} (h : St Γ Φ S) (hf : fre Γ Φ L) (ha : Γ a = some (9, 9, 0, 0, ρ)) (hm : 9 ∈ L) (k : ∀ S₁, St Γ Φ S₁ → fI S₁ a 2 = x → sEqx S S₁ a 2 → aEq S S₁ → P S₁) : pI S a 9 2 x P := by
  obtain ⟨b0, b1, b2, b3, b4, b5, e, hc⟩ := h.c9 ha
  refine ⟨_, e, by simp only [List.length_cons, List.length_nil]; omega, k _ (h.set ha (hf a _ ha hm) (cellOk_9 rfl ⟨b0, b1, x, b3, b4, b5, rfl, hc.1, hc.2.1, hc.2.2.1, hc.2.2.2.1, hc.2.2.2.2⟩)) (fI_of (fv_of (hset_self _ _ _) rfl)) (fun b j hn => ?_) (aEq_hset e)⟩
  by_cases e1 : b = a
  · subst e1
    unfold fv
    rw [hset_self, e]
    show (List.set _ _ _).getD j _ = List.getD _ j _
    rw [List.getD_eq_getElem?_getD, List.getD_eq_getElem?_getD, List.getElem?_set_ne (fun z => hn ⟨rfl, z.symm⟩)]
  · exact fv_hset_ne e1
theorem T_gI_9_3 {P : Int32 → Prop} (h : St Γ Φ S) (ha : Γ a = some (9, 9, 0, 0, ρ)) (k : ∀ x, x = fI S a 3 → (x.toInt = (fI S a 3).toInt ∧ 0 ≤ x.toInt ∧ x.toInt ≤ 400) → P x) : gI S a 9 3 P := by
  obtain ⟨b0, b1, b2, b3, b4, b5, e, hc⟩ := h.c9 ha
  exact ⟨_, _, e, rfl, k b3 (fI_of (fv_of e rfl)).symm ⟨(congrArg Int32.toInt (fI_of (fv_of e rfl))).symm, hc.2.2.1⟩⟩
theorem T_pI_9_3 {P : hS → Prop} {x : Int32} (h : St Γ Φ S) (hf : fre Γ Φ L) (ha : Γ a = some (9, 9, 0, 0, ρ)) (hm : 9 ∈ L) (hx : 0 ≤ x.toInt ∧ x.toInt ≤ 400) (k : ∀ S₁, St Γ Φ S₁ → fI S₁ a 3 = x → sEqx S S₁ a 3 → aEq S S₁ → P S₁) : pI S a 9 3 x P := by
  obtain ⟨b0, b1, b2, b3, b4, b5, e, hc⟩ := h.c9 ha
  refine ⟨_, e, by simp only [List.length_cons, List.length_nil]; omega, k _ (h.set ha (hf a _ ha hm) (cellOk_9 rfl ⟨b0, b1, b2, x, b4, b5, rfl, hc.1, hc.2.1, hx, hc.2.2.2.1, hc.2.2.2.2⟩)) (fI_of (fv_of (hset_self _ _ _) rfl)) (fun b j hn => ?_) (aEq_hset e)⟩
  by_cases e1 : b = a
  · subst e1
    unfold fv
    rw [hset_self, e]
    show (List.set _ _ _).getD j _ = List.getD _ j _
    rw [List.getD_eq_getElem?_getD, List.getD_eq_getElem?_getD, List.getElem?_set_ne (fun z => hn ⟨rfl, z.symm⟩)]
  · exact fv_hset_ne e1
theorem T_gI_9_4 {P : Int32 → Prop} (h : St Γ Φ S) (ha : Γ a = some (9, 9, 0, 0, ρ)) (k : ∀ x, x = fI S a 4 → (x.toInt = (fI S a 4).toInt ∧ 0 ≤ x.toInt ∧ x.toInt ≤ 10000) → P x) : gI S a 9 4 P := by
  obtain ⟨b0, b1, b2, b3, b4, b5, e, hc⟩ := h.c9 ha
  exact ⟨_, _, e, rfl, k b4 (fI_of (fv_of e rfl)).symm ⟨(congrArg Int32.toInt (fI_of (fv_of e rfl))).symm, hc.2.2.2.1⟩⟩
theorem T_pI_9_4 {P : hS → Prop} {x : Int32} (h : St Γ Φ S) (hf : fre Γ Φ L) (ha : Γ a = some (9, 9, 0, 0, ρ)) (hm : 9 ∈ L) (hx : 0 ≤ x.toInt ∧ x.toInt ≤ 10000) (k : ∀ S₁, St Γ Φ S₁ → fI S₁ a 4 = x → sEqx S S₁ a 4 → aEq S S₁ → P S₁) : pI S a 9 4 x P := by
  obtain ⟨b0, b1, b2, b3, b4, b5, e, hc⟩ := h.c9 ha
  refine ⟨_, e, by simp only [List.length_cons, List.length_nil]; omega, k _ (h.set ha (hf a _ ha hm) (cellOk_9 rfl ⟨b0, b1, b2, b3, x, b5, rfl, hc.1, hc.2.1, hc.2.2.1, hx, hc.2.2.2.2⟩)) (fI_of (fv_of (hset_self _ _ _) rfl)) (fun b j hn => ?_) (aEq_hset e)⟩
  by_cases e1 : b = a
  · subst e1
    unfold fv
    rw [hset_self, e]
    show (List.set _ _ _).getD j _ = List.getD _ j _
    rw [List.getD_eq_getElem?_getD, List.getD_eq_getElem?_getD, List.getElem?_set_ne (fun z => hn ⟨rfl, z.symm⟩)]
  · exact fv_hset_ne e1
theorem T_gI_9_5 {P : Int32 → Prop} (h : St Γ Φ S) (ha : Γ a = some (9, 9, 0, 0, ρ)) (k : ∀ x, x = fI S a 5 → (x.toInt = (fI S a 5).toInt ∧ 0 ≤ x.toInt ∧ x.toInt ≤ 400) → P x) : gI S a 9 5 P := by
  obtain ⟨b0, b1, b2, b3, b4, b5, e, hc⟩ := h.c9 ha
  exact ⟨_, _, e, rfl, k b5 (fI_of (fv_of e rfl)).symm ⟨(congrArg Int32.toInt (fI_of (fv_of e rfl))).symm, hc.2.2.2.2⟩⟩
theorem T_pI_9_5 {P : hS → Prop} {x : Int32} (h : St Γ Φ S) (hf : fre Γ Φ L) (ha : Γ a = some (9, 9, 0, 0, ρ)) (hm : 9 ∈ L) (hx : 0 ≤ x.toInt ∧ x.toInt ≤ 400) (k : ∀ S₁, St Γ Φ S₁ → fI S₁ a 5 = x → sEqx S S₁ a 5 → aEq S S₁ → P S₁) : pI S a 9 5 x P := by
  obtain ⟨b0, b1, b2, b3, b4, b5, e, hc⟩ := h.c9 ha
  refine ⟨_, e, by simp only [List.length_cons, List.length_nil]; omega, k _ (h.set ha (hf a _ ha hm) (cellOk_9 rfl ⟨b0, b1, b2, b3, b4, x, rfl, hc.1, hc.2.1, hc.2.2.1, hc.2.2.2.1, hx⟩)) (fI_of (fv_of (hset_self _ _ _) rfl)) (fun b j hn => ?_) (aEq_hset e)⟩
  by_cases e1 : b = a
  · subst e1
    unfold fv
    rw [hset_self, e]
    show (List.set _ _ _).getD j _ = List.getD _ j _
    rw [List.getD_eq_getElem?_getD, List.getD_eq_getElem?_getD, List.getElem?_set_ne (fun z => hn ⟨rfl, z.symm⟩)]
  · exact fv_hset_ne e1
theorem St.c10 (h : St Γ Φ S) (ha : Γ a = some (10, κ, c, n, ρ)) : cl10 Γ (10, κ, c, n, ρ) (S a) := (h.1 a _ ha).2.2.2.2.2.2.2.2.2.2.1 rfl
theorem T_oK_10 {P : Prop} (h : St Γ Φ S) (ha : Γ a = some (10, κ, c, n, ρ)) (k : P) : oK S a 10 ∧ P := by
  obtain ⟨b0, b1, b2, b3, b4, b5, b6, e, hc⟩ := h.c10 ha
  exact ⟨⟨_, e⟩, k⟩
theorem T_tx (h : St Γ Φ S) (ha : Γ a = some (10, κ, c, n, ρ)) : c ≤ 12 ∧ n ≤ 400 := by
  obtain ⟨b0, b1, b2, b3, b4, b5, b6, e, hc⟩ := h.c10 ha
  exact hc.2.2.2.2.2.2.2
theorem T_gI_10_0 {P : Int32 → Prop} (h : St Γ Φ S) (ha : Γ a = some (10, κ, c, n, ρ)) (k : ∀ x, x = fI S a 0 → (x.toInt = (fI S a 0).toInt ∧ 0 ≤ x.toInt ∧ x.toInt ≤ c) → P x) : gI S a 10 0 P := by
  obtain ⟨b0, b1, b2, b3, b4, b5, b6, e, hc⟩ := h.c10 ha
  exact ⟨_, _, e, rfl, k b0 (fI_of (fv_of e rfl)).symm ⟨(congrArg Int32.toInt (fI_of (fv_of e rfl))).symm, hc.1⟩⟩
theorem T_pI_10_0 {P : hS → Prop} {x : Int32} (h : St Γ Φ S) (hf : fre Γ Φ L) (ha : Γ a = some (10, κ, c, n, ρ)) (hm : κ ∈ L) (hx : 0 ≤ x.toInt ∧ x.toInt ≤ c) (k : ∀ S₁, St Γ Φ S₁ → fI S₁ a 0 = x → sEqx S S₁ a 0 → aEq S S₁ → P S₁) : pI S a 10 0 x P := by
  obtain ⟨b0, b1, b2, b3, b4, b5, b6, e, hc⟩ := h.c10 ha
  refine ⟨_, e, by simp only [List.length_cons, List.length_nil]; omega, k _ (h.set ha (hf a _ ha hm) (cellOk_10 rfl ⟨x, b1, b2, b3, b4, b5, b6, rfl, hx, hc.2.1, hc.2.2.1, hc.2.2.2.1, hc.2.2.2.2.1, hc.2.2.2.2.2.1, hc.2.2.2.2.2.2.1, hc.2.2.2.2.2.2.2.1, hc.2.2.2.2.2.2.2.2⟩)) (fI_of (fv_of (hset_self _ _ _) rfl)) (fun b j hn => ?_) (aEq_hset e)⟩
  by_cases e1 : b = a
  · subst e1
    unfold fv
    rw [hset_self, e]
    show (List.set _ _ _).getD j _ = List.getD _ j _
    rw [List.getD_eq_getElem?_getD, List.getD_eq_getElem?_getD, List.getElem?_set_ne (fun z => hn ⟨rfl, z.symm⟩)]
  · exact fv_hset_ne e1
theorem T_gI_10_1 {P : Int32 → Prop} (h : St Γ Φ S) (ha : Γ a = some (10, κ, c, n, ρ)) (k : ∀ x, x = fI S a 1 → (x.toInt = (fI S a 1).toInt ∧ 0 ≤ x.toInt ∧ x.toInt ≤ n) → P x) : gI S a 10 1 P := by
  obtain ⟨b0, b1, b2, b3, b4, b5, b6, e, hc⟩ := h.c10 ha
  exact ⟨_, _, e, rfl, k b1 (fI_of (fv_of e rfl)).symm ⟨(congrArg Int32.toInt (fI_of (fv_of e rfl))).symm, hc.2.1⟩⟩
theorem T_pI_10_1 {P : hS → Prop} {x : Int32} (h : St Γ Φ S) (hf : fre Γ Φ L) (ha : Γ a = some (10, κ, c, n, ρ)) (hm : κ ∈ L) (hx : 0 ≤ x.toInt ∧ x.toInt ≤ n) (k : ∀ S₁, St Γ Φ S₁ → fI S₁ a 1 = x → sEqx S S₁ a 1 → aEq S S₁ → P S₁) : pI S a 10 1 x P := by
  obtain ⟨b0, b1, b2, b3, b4, b5, b6, e, hc⟩ := h.c10 ha
  refine ⟨_, e, by simp only [List.length_cons, List.length_nil]; omega, k _ (h.set ha (hf a _ ha hm) (cellOk_10 rfl ⟨b0, x, b2, b3, b4, b5, b6, rfl, hc.1, hx, hc.2.2.1, hc.2.2.2.1, hc.2.2.2.2.1, hc.2.2.2.2.2.1, hc.2.2.2.2.2.2.1, hc.2.2.2.2.2.2.2.1, hc.2.2.2.2.2.2.2.2⟩)) (fI_of (fv_of (hset_self _ _ _) rfl)) (fun b j hn => ?_) (aEq_hset e)⟩
  by_cases e1 : b = a
  · subst e1
    unfold fv
    rw [hset_self, e]
    show (List.set _ _ _).getD j _ = List.getD _ j _
    rw [List.getD_eq_getElem?_getD, List.getD_eq_getElem?_getD, List.getElem?_set_ne (fun z => hn ⟨rfl, z.symm⟩)]
  · exact fv_hset_ne e1
theorem T_gI_10_2 {P : Int32 → Prop} (h : St Γ Φ S) (ha : Γ a = some (10, κ, c, n, ρ)) (k : ∀ x, x = fI S a 2 → (x.toInt = (fI S a 2).toInt ∧ 0 ≤ x.toInt ∧ x.toInt ≤ 3) → P x) : gI S a 10 2 P := by
  obtain ⟨b0, b1, b2, b3, b4, b5, b6, e, hc⟩ := h.c10 ha
  exact ⟨_, _, e, rfl, k b2 (fI_of (fv_of e rfl)).symm ⟨(congrArg Int32.toInt (fI_of (fv_of e rfl))).symm, hc.2.2.1⟩⟩
theorem T_pI_10_2 {P : hS → Prop} {x : Int32} (h : St Γ Φ S) (hf : fre Γ Φ L) (ha : Γ a = some (10, κ, c, n, ρ)) (hm : κ ∈ L) (hx : 0 ≤ x.toInt ∧ x.toInt ≤ 3) (k : ∀ S₁, St Γ Φ S₁ → fI S₁ a 2 = x → sEqx S S₁ a 2 → aEq S S₁ → P S₁) : pI S a 10 2 x P := by
  obtain ⟨b0, b1, b2, b3, b4, b5, b6, e, hc⟩ := h.c10 ha
  refine ⟨_, e, by simp only [List.length_cons, List.length_nil]; omega, k _ (h.set ha (hf a _ ha hm) (cellOk_10 rfl ⟨b0, b1, x, b3, b4, b5, b6, rfl, hc.1, hc.2.1, hx, hc.2.2.2.1, hc.2.2.2.2.1, hc.2.2.2.2.2.1, hc.2.2.2.2.2.2.1, hc.2.2.2.2.2.2.2.1, hc.2.2.2.2.2.2.2.2⟩)) (fI_of (fv_of (hset_self _ _ _) rfl)) (fun b j hn => ?_) (aEq_hset e)⟩
  by_cases e1 : b = a
  · subst e1
    unfold fv
    rw [hset_self, e]
    show (List.set _ _ _).getD j _ = List.getD _ j _
    rw [List.getD_eq_getElem?_getD, List.getD_eq_getElem?_getD, List.getElem?_set_ne (fun z => hn ⟨rfl, z.symm⟩)]
  · exact fv_hset_ne e1
theorem T_gP_10_3 {P : Nat → Prop} (h : St Γ Φ S) (ha : Γ a = some (10, κ, c, n, ρ)) (k : ∀ x, x = fP S a 3 → Γ x = some (20, κ + 1093, c, 0, k0) → P x) : gP S a 10 3 P := by
  obtain ⟨b0, b1, b2, b3, b4, b5, b6, e, hc⟩ := h.c10 ha
  exact ⟨_, _, e, rfl, k b3 (fP_of (fv_of e rfl)).symm hc.2.2.2.1.2⟩
theorem E_gP_10_3 {P : Nat → Prop} (h : St Γ Φ S) (ha : Γ a = some (10, κ, c, n, ρ)) (k : Γ (ρ 3) = some (20, κ + 1093, c, 0, k0) → P (ρ 3)) : gP S a 10 3 P := by
  obtain ⟨b0, b1, b2, b3, b4, b5, b6, e, hc⟩ := h.c10 ha
  have e3 : b3 = ρ 3 := hc.2.2.2.1.1
  subst e3
  exact ⟨_, _, e, rfl, k hc.2.2.2.1.2⟩
theorem P_10_3 (h : St Γ Φ S) (ha : Γ a = some (10, κ, c, n, ρ)) : fP S a 3 = ρ 3 ∧ Γ (ρ 3) = some (20, κ + 1093, c, 0, k0) := by
  obtain ⟨b0, b1, b2, b3, b4, b5, b6, e, hc⟩ := h.c10 ha
  have e3 : b3 = ρ 3 := hc.2.2.2.1.1
  subst e3
  exact ⟨fP_of (fv_of e rfl), hc.2.2.2.1.2⟩
theorem T_gP_10_4 {P : Nat → Prop} (h : St Γ Φ S) (ha : Γ a = some (10, κ, c, n, ρ)) (k : ∀ x, x = fP S a 4 → Γ x = some (20, κ + 1094, c, 0, k0) → P x) : gP S a 10 4 P := by
  obtain ⟨b0, b1, b2, b3, b4, b5, b6, e, hc⟩ := h.c10 ha
  exact ⟨_, _, e, rfl, k b4 (fP_of (fv_of e rfl)).symm hc.2.2.2.2.1.2⟩
theorem E_gP_10_4 {P : Nat → Prop} (h : St Γ Φ S) (ha : Γ a = some (10, κ, c, n, ρ)) (k : Γ (ρ 4) = some (20, κ + 1094, c, 0, k0) → P (ρ 4)) : gP S a 10 4 P := by
  obtain ⟨b0, b1, b2, b3, b4, b5, b6, e, hc⟩ := h.c10 ha
  have e4 : b4 = ρ 4 := hc.2.2.2.2.1.1
  subst e4
  exact ⟨_, _, e, rfl, k hc.2.2.2.2.1.2⟩
theorem P_10_4 (h : St Γ Φ S) (ha : Γ a = some (10, κ, c, n, ρ)) : fP S a 4 = ρ 4 ∧ Γ (ρ 4) = some (20, κ + 1094, c, 0, k0) := by
  obtain ⟨b0, b1, b2, b3, b4, b5, b6, e, hc⟩ := h.c10 ha
  have e4 : b4 = ρ 4 := hc.2.2.2.2.1.1
  subst e4
  exact ⟨fP_of (fv_of e rfl), hc.2.2.2.2.1.2⟩
theorem T_gP_10_5 {P : Nat → Prop} (h : St Γ Φ S) (ha : Γ a = some (10, κ, c, n, ρ)) (k : ∀ x, x = fP S a 5 → Γ x = some (23, κ + 1095, 5 * c, 0, k0) → P x) : gP S a 10 5 P := by
  obtain ⟨b0, b1, b2, b3, b4, b5, b6, e, hc⟩ := h.c10 ha
  exact ⟨_, _, e, rfl, k b5 (fP_of (fv_of e rfl)).symm hc.2.2.2.2.2.1.2⟩
theorem E_gP_10_5 {P : Nat → Prop} (h : St Γ Φ S) (ha : Γ a = some (10, κ, c, n, ρ)) (k : Γ (ρ 5) = some (23, κ + 1095, 5 * c, 0, k0) → P (ρ 5)) : gP S a 10 5 P := by
  obtain ⟨b0, b1, b2, b3, b4, b5, b6, e, hc⟩ := h.c10 ha
  have e5 : b5 = ρ 5 := hc.2.2.2.2.2.1.1
  subst e5
  exact ⟨_, _, e, rfl, k hc.2.2.2.2.2.1.2⟩
theorem P_10_5 (h : St Γ Φ S) (ha : Γ a = some (10, κ, c, n, ρ)) : fP S a 5 = ρ 5 ∧ Γ (ρ 5) = some (23, κ + 1095, 5 * c, 0, k0) := by
  obtain ⟨b0, b1, b2, b3, b4, b5, b6, e, hc⟩ := h.c10 ha
  have e5 : b5 = ρ 5 := hc.2.2.2.2.2.1.1
  subst e5
  exact ⟨fP_of (fv_of e rfl), hc.2.2.2.2.2.1.2⟩
theorem T_gP_10_6 {P : Nat → Prop} (h : St Γ Φ S) (ha : Γ a = some (10, κ, c, n, ρ)) (k : ∀ x, x = fP S a 6 → Γ x = some (24, κ + 1096, n, 0, k0) → P x) : gP S a 10 6 P := by
  obtain ⟨b0, b1, b2, b3, b4, b5, b6, e, hc⟩ := h.c10 ha
  exact ⟨_, _, e, rfl, k b6 (fP_of (fv_of e rfl)).symm hc.2.2.2.2.2.2.1.2⟩
theorem E_gP_10_6 {P : Nat → Prop} (h : St Γ Φ S) (ha : Γ a = some (10, κ, c, n, ρ)) (k : Γ (ρ 6) = some (24, κ + 1096, n, 0, k0) → P (ρ 6)) : gP S a 10 6 P := by
  obtain ⟨b0, b1, b2, b3, b4, b5, b6, e, hc⟩ := h.c10 ha
  have e6 : b6 = ρ 6 := hc.2.2.2.2.2.2.1.1
  subst e6
  exact ⟨_, _, e, rfl, k hc.2.2.2.2.2.2.1.2⟩
theorem P_10_6 (h : St Γ Φ S) (ha : Γ a = some (10, κ, c, n, ρ)) : fP S a 6 = ρ 6 ∧ Γ (ρ 6) = some (24, κ + 1096, n, 0, k0) := by
  obtain ⟨b0, b1, b2, b3, b4, b5, b6, e, hc⟩ := h.c10 ha
  have e6 : b6 = ρ 6 := hc.2.2.2.2.2.2.1.1
  subst e6
  exact ⟨fP_of (fv_of e rfl), hc.2.2.2.2.2.2.1.2⟩
theorem St.c11 (h : St Γ Φ S) (ha : Γ a = some (11, 11, 0, rs, ρ)) : cl11 Γ (11, 11, 0, rs, ρ) (S a) := (h.1 a _ ha).2.2.2.2.2.2.2.2.2.2.2.1 rfl
theorem T_oK_11 {P : Prop} (h : St Γ Φ S) (ha : Γ a = some (11, 11, 0, rs, ρ)) (k : P) : oK S a 11 ∧ P := by
  obtain ⟨b0, b1, b2, b3, b4, b5, b6, b7, b8, b9, b10, b11, b12, b13, b14, b15, b16, b17, e, hc⟩ := h.c11 ha
  exact ⟨⟨_, e⟩, k⟩
theorem T_gP_11_0 {P : Nat → Prop} (h : St Γ Φ S) (ha : Γ a = some (11, 11, 0, rs, ρ)) (k : ∀ x, x = fP S a 0 → Γ x = some (8, 8 + 10000 * 0, 0, 0, bk 0 ρ) → P x) : gP S a 11 0 P := by
  obtain ⟨b0, b1, b2, b3, b4, b5, b6, b7, b8, b9, b10, b11, b12, b13, b14, b15, b16, b17, e, hc⟩ := h.c11 ha
  exact ⟨_, _, e, rfl, k b0 (fP_of (fv_of e rfl)).symm hc.1.2⟩
theorem E_gP_11_0 {P : Nat → Prop} (h : St Γ Φ S) (ha : Γ a = some (11, 11, 0, rs, ρ)) (k : Γ (ρ 0) = some (8, 8 + 10000 * 0, 0, 0, bk 0 ρ) → P (ρ 0)) : gP S a 11 0 P := by
  obtain ⟨b0, b1, b2, b3, b4, b5, b6, b7, b8, b9, b10, b11, b12, b13, b14, b15, b16, b17, e, hc⟩ := h.c11 ha
  have e0 : b0 = ρ 0 := hc.1.1
  subst e0
  exact ⟨_, _, e, rfl, k hc.1.2⟩
theorem P_11_0 (h : St Γ Φ S) (ha : Γ a = some (11, 11, 0, rs, ρ)) : fP S a 0 = ρ 0 ∧ Γ (ρ 0) = some (8, 8 + 10000 * 0, 0, 0, bk 0 ρ) := by
  obtain ⟨b0, b1, b2, b3, b4, b5, b6, b7, b8, b9, b10, b11, b12, b13, b14, b15, b16, b17, e, hc⟩ := h.c11 ha
  have e0 : b0 = ρ 0 := hc.1.1
  subst e0
  exact ⟨fP_of (fv_of e rfl), hc.1.2⟩
theorem T_gP_11_1 {P : Nat → Prop} (h : St Γ Φ S) (ha : Γ a = some (11, 11, 0, rs, ρ)) (k : ∀ x, x = fP S a 1 → Γ x = some (8, 8 + 10000 * 1, 1, 0, bk 1 ρ) → P x) : gP S a 11 1 P := by
  obtain ⟨b0, b1, b2, b3, b4, b5, b6, b7, b8, b9, b10, b11, b12, b13, b14, b15, b16, b17, e, hc⟩ := h.c11 ha
  exact ⟨_, _, e, rfl, k b1 (fP_of (fv_of e rfl)).symm hc.2.1.2⟩
theorem E_gP_11_1 {P : Nat → Prop} (h : St Γ Φ S) (ha : Γ a = some (11, 11, 0, rs, ρ)) (k : Γ (ρ 1) = some (8, 8 + 10000 * 1, 1, 0, bk 1 ρ) → P (ρ 1)) : gP S a 11 1 P := by
  obtain ⟨b0, b1, b2, b3, b4, b5, b6, b7, b8, b9, b10, b11, b12, b13, b14, b15, b16, b17, e, hc⟩ := h.c11 ha
  have e1 : b1 = ρ 1 := hc.2.1.1
  subst e1
  exact ⟨_, _, e, rfl, k hc.2.1.2⟩
theorem P_11_1 (h : St Γ Φ S) (ha : Γ a = some (11, 11, 0, rs, ρ)) : fP S a 1 = ρ 1 ∧ Γ (ρ 1) = some (8, 8 + 10000 * 1, 1, 0, bk 1 ρ) := by
  obtain ⟨b0, b1, b2, b3, b4, b5, b6, b7, b8, b9, b10, b11, b12, b13, b14, b15, b16, b17, e, hc⟩ := h.c11 ha
  have e1 : b1 = ρ 1 := hc.2.1.1
  subst e1
  exact ⟨fP_of (fv_of e rfl), hc.2.1.2⟩
theorem T_gP_11_2 {P : Nat → Prop} (h : St Γ Φ S) (ha : Γ a = some (11, 11, 0, rs, ρ)) (k : ∀ x, x = fP S a 2 → Γ x = some (26, 1202, 2, 0, k0) → P x) : gP S a 11 2 P := by
  obtain ⟨b0, b1, b2, b3, b4, b5, b6, b7, b8, b9, b10, b11, b12, b13, b14, b15, b16, b17, e, hc⟩ := h.c11 ha
  exact ⟨_, _, e, rfl, k b2 (fP_of (fv_of e rfl)).symm hc.2.2.1.2⟩
theorem E_gP_11_2 {P : Nat → Prop} (h : St Γ Φ S) (ha : Γ a = some (11, 11, 0, rs, ρ)) (k : Γ (ρ 2) = some (26, 1202, 2, 0, k0) → P (ρ 2)) : gP S a 11 2 P := by
  obtain ⟨b0, b1, b2, b3, b4, b5, b6, b7, b8, b9, b10, b11, b12, b13, b14, b15, b16, b17, e, hc⟩ := h.c11 ha
  have e2 : b2 = ρ 2 := hc.2.2.1.1
  subst e2
  exact ⟨_, _, e, rfl, k hc.2.2.1.2⟩
theorem P_11_2 (h : St Γ Φ S) (ha : Γ a = some (11, 11, 0, rs, ρ)) : fP S a 2 = ρ 2 ∧ Γ (ρ 2) = some (26, 1202, 2, 0, k0) := by
  obtain ⟨b0, b1, b2, b3, b4, b5, b6, b7, b8, b9, b10, b11, b12, b13, b14, b15, b16, b17, e, hc⟩ := h.c11 ha
  have e2 : b2 = ρ 2 := hc.2.2.1.1
  subst e2
  exact ⟨fP_of (fv_of e rfl), hc.2.2.1.2⟩
theorem T_gP_11_3 {P : Nat → Prop} (h : St Γ Φ S) (ha : Γ a = some (11, 11, 0, rs, ρ)) (k : ∀ x, x = fP S a 3 → Γ x = some (3, 3, 0, 0, bk 3 ρ) → P x) : gP S a 11 3 P := by
  obtain ⟨b0, b1, b2, b3, b4, b5, b6, b7, b8, b9, b10, b11, b12, b13, b14, b15, b16, b17, e, hc⟩ := h.c11 ha
  exact ⟨_, _, e, rfl, k b3 (fP_of (fv_of e rfl)).symm hc.2.2.2.1.2⟩
theorem E_gP_11_3 {P : Nat → Prop} (h : St Γ Φ S) (ha : Γ a = some (11, 11, 0, rs, ρ)) (k : Γ (ρ 3) = some (3, 3, 0, 0, bk 3 ρ) → P (ρ 3)) : gP S a 11 3 P := by
  obtain ⟨b0, b1, b2, b3, b4, b5, b6, b7, b8, b9, b10, b11, b12, b13, b14, b15, b16, b17, e, hc⟩ := h.c11 ha
  have e3 : b3 = ρ 3 := hc.2.2.2.1.1
  subst e3
  exact ⟨_, _, e, rfl, k hc.2.2.2.1.2⟩
theorem P_11_3 (h : St Γ Φ S) (ha : Γ a = some (11, 11, 0, rs, ρ)) : fP S a 3 = ρ 3 ∧ Γ (ρ 3) = some (3, 3, 0, 0, bk 3 ρ) := by
  obtain ⟨b0, b1, b2, b3, b4, b5, b6, b7, b8, b9, b10, b11, b12, b13, b14, b15, b16, b17, e, hc⟩ := h.c11 ha
  have e3 : b3 = ρ 3 := hc.2.2.2.1.1
  subst e3
  exact ⟨fP_of (fv_of e rfl), hc.2.2.2.1.2⟩
theorem T_gP_11_4 {P : Nat → Prop} (h : St Γ Φ S) (ha : Γ a = some (11, 11, 0, rs, ρ)) (k : ∀ x, x = fP S a 4 → Γ x = some (9, 9, 0, 0, bk 4 ρ) → P x) : gP S a 11 4 P := by
  obtain ⟨b0, b1, b2, b3, b4, b5, b6, b7, b8, b9, b10, b11, b12, b13, b14, b15, b16, b17, e, hc⟩ := h.c11 ha
  exact ⟨_, _, e, rfl, k b4 (fP_of (fv_of e rfl)).symm hc.2.2.2.2.1.2⟩
theorem E_gP_11_4 {P : Nat → Prop} (h : St Γ Φ S) (ha : Γ a = some (11, 11, 0, rs, ρ)) (k : Γ (ρ 4) = some (9, 9, 0, 0, bk 4 ρ) → P (ρ 4)) : gP S a 11 4 P := by
  obtain ⟨b0, b1, b2, b3, b4, b5, b6, b7, b8, b9, b10, b11, b12, b13, b14, b15, b16, b17, e, hc⟩ := h.c11 ha
  have e4 : b4 = ρ 4 := hc.2.2.2.2.1.1
  subst e4
  exact ⟨_, _, e, rfl, k hc.2.2.2.2.1.2⟩
theorem P_11_4 (h : St Γ Φ S) (ha : Γ a = some (11, 11, 0, rs, ρ)) : fP S a 4 = ρ 4 ∧ Γ (ρ 4) = some (9, 9, 0, 0, bk 4 ρ) := by
  obtain ⟨b0, b1, b2, b3, b4, b5, b6, b7, b8, b9, b10, b11, b12, b13, b14, b15, b16, b17, e, hc⟩ := h.c11 ha
  have e4 : b4 = ρ 4 := hc.2.2.2.2.1.1
  subst e4
  exact ⟨fP_of (fv_of e rfl), hc.2.2.2.2.1.2⟩
theorem T_gP_11_5 {P : Nat → Prop} (h : St Γ Φ S) (ha : Γ a = some (11, 11, 0, rs, ρ)) (k : ∀ x, x = fP S a 5 → Γ x = some (5, 5, 0, 0, bk 5 ρ) → P x) : gP S a 11 5 P := by
  obtain ⟨b0, b1, b2, b3, b4, b5, b6, b7, b8, b9, b10, b11, b12, b13, b14, b15, b16, b17, e, hc⟩ := h.c11 ha
  exact ⟨_, _, e, rfl, k b5 (fP_of (fv_of e rfl)).symm hc.2.2.2.2.2.1.2⟩
theorem E_gP_11_5 {P : Nat → Prop} (h : St Γ Φ S) (ha : Γ a = some (11, 11, 0, rs, ρ)) (k : Γ (ρ 5) = some (5, 5, 0, 0, bk 5 ρ) → P (ρ 5)) : gP S a 11 5 P := by
  obtain ⟨b0, b1, b2, b3, b4, b5, b6, b7, b8, b9, b10, b11, b12, b13, b14, b15, b16, b17, e, hc⟩ := h.c11 ha
  have e5 : b5 = ρ 5 := hc.2.2.2.2.2.1.1
  subst e5
  exact ⟨_, _, e, rfl, k hc.2.2.2.2.2.1.2⟩
theorem P_11_5 (h : St Γ Φ S) (ha : Γ a = some (11, 11, 0, rs, ρ)) : fP S a 5 = ρ 5 ∧ Γ (ρ 5) = some (5, 5, 0, 0, bk 5 ρ) := by
  obtain ⟨b0, b1, b2, b3, b4, b5, b6, b7, b8, b9, b10, b11, b12, b13, b14, b15, b16, b17, e, hc⟩ := h.c11 ha
  have e5 : b5 = ρ 5 := hc.2.2.2.2.2.1.1
  subst e5
  exact ⟨fP_of (fv_of e rfl), hc.2.2.2.2.2.1.2⟩
theorem T_gP_11_6 {P : Nat → Prop} (h : St Γ Φ S) (ha : Γ a = some (11, 11, 0, rs, ρ)) (k : ∀ x, x = fP S a 6 → Γ x = some (0, 0, 0, 0, bk 6 ρ) → P x) : gP S a 11 6 P := by
  obtain ⟨b0, b1, b2, b3, b4, b5, b6, b7, b8, b9, b10, b11, b12, b13, b14, b15, b16, b17, e, hc⟩ := h.c11 ha
  exact ⟨_, _, e, rfl, k b6 (fP_of (fv_of e rfl)).symm hc.2.2.2.2.2.2.1.2⟩
theorem E_gP_11_6 {P : Nat → Prop} (h : St Γ Φ S) (ha : Γ a = some (11, 11, 0, rs, ρ)) (k : Γ (ρ 6) = some (0, 0, 0, 0, bk 6 ρ) → P (ρ 6)) : gP S a 11 6 P := by
  obtain ⟨b0, b1, b2, b3, b4, b5, b6, b7, b8, b9, b10, b11, b12, b13, b14, b15, b16, b17, e, hc⟩ := h.c11 ha
  have e6 : b6 = ρ 6 := hc.2.2.2.2.2.2.1.1
  subst e6
  exact ⟨_, _, e, rfl, k hc.2.2.2.2.2.2.1.2⟩
theorem P_11_6 (h : St Γ Φ S) (ha : Γ a = some (11, 11, 0, rs, ρ)) : fP S a 6 = ρ 6 ∧ Γ (ρ 6) = some (0, 0, 0, 0, bk 6 ρ) := by
  obtain ⟨b0, b1, b2, b3, b4, b5, b6, b7, b8, b9, b10, b11, b12, b13, b14, b15, b16, b17, e, hc⟩ := h.c11 ha
  have e6 : b6 = ρ 6 := hc.2.2.2.2.2.2.1.1
  subst e6
  exact ⟨fP_of (fv_of e rfl), hc.2.2.2.2.2.2.1.2⟩
theorem T_gP_11_7 {P : Nat → Prop} (h : St Γ Φ S) (ha : Γ a = some (11, 11, 0, rs, ρ)) (k : ∀ x, x = fP S a 7 → Γ x = some (1, 1, 0, 0, bk 7 ρ) → P x) : gP S a 11 7 P := by
  obtain ⟨b0, b1, b2, b3, b4, b5, b6, b7, b8, b9, b10, b11, b12, b13, b14, b15, b16, b17, e, hc⟩ := h.c11 ha
  exact ⟨_, _, e, rfl, k b7 (fP_of (fv_of e rfl)).symm hc.2.2.2.2.2.2.2.1.2⟩
theorem E_gP_11_7 {P : Nat → Prop} (h : St Γ Φ S) (ha : Γ a = some (11, 11, 0, rs, ρ)) (k : Γ (ρ 7) = some (1, 1, 0, 0, bk 7 ρ) → P (ρ 7)) : gP S a 11 7 P := by
  obtain ⟨b0, b1, b2, b3, b4, b5, b6, b7, b8, b9, b10, b11, b12, b13, b14, b15, b16, b17, e, hc⟩ := h.c11 ha
  have e7 : b7 = ρ 7 := hc.2.2.2.2.2.2.2.1.1
  subst e7
  exact ⟨_, _, e, rfl, k hc.2.2.2.2.2.2.2.1.2⟩
theorem P_11_7 (h : St Γ Φ S) (ha : Γ a = some (11, 11, 0, rs, ρ)) : fP S a 7 = ρ 7 ∧ Γ (ρ 7) = some (1, 1, 0, 0, bk 7 ρ) := by
  obtain ⟨b0, b1, b2, b3, b4, b5, b6, b7, b8, b9, b10, b11, b12, b13, b14, b15, b16, b17, e, hc⟩ := h.c11 ha
  have e7 : b7 = ρ 7 := hc.2.2.2.2.2.2.2.1.1
  subst e7
  exact ⟨fP_of (fv_of e rfl), hc.2.2.2.2.2.2.2.1.2⟩
theorem T_gP_11_8 {P : Nat → Prop} (h : St Γ Φ S) (ha : Γ a = some (11, 11, 0, rs, ρ)) (k : ∀ x, x = fP S a 8 → Γ x = some (4, 4, 0, 0, bk 8 ρ) → P x) : gP S a 11 8 P := by
  obtain ⟨b0, b1, b2, b3, b4, b5, b6, b7, b8, b9, b10, b11, b12, b13, b14, b15, b16, b17, e, hc⟩ := h.c11 ha
  exact ⟨_, _, e, rfl, k b8 (fP_of (fv_of e rfl)).symm hc.2.2.2.2.2.2.2.2.1.2⟩
theorem E_gP_11_8 {P : Nat → Prop} (h : St Γ Φ S) (ha : Γ a = some (11, 11, 0, rs, ρ)) (k : Γ (ρ 8) = some (4, 4, 0, 0, bk 8 ρ) → P (ρ 8)) : gP S a 11 8 P := by
  obtain ⟨b0, b1, b2, b3, b4, b5, b6, b7, b8, b9, b10, b11, b12, b13, b14, b15, b16, b17, e, hc⟩ := h.c11 ha
  have e8 : b8 = ρ 8 := hc.2.2.2.2.2.2.2.2.1.1
  subst e8
  exact ⟨_, _, e, rfl, k hc.2.2.2.2.2.2.2.2.1.2⟩
theorem P_11_8 (h : St Γ Φ S) (ha : Γ a = some (11, 11, 0, rs, ρ)) : fP S a 8 = ρ 8 ∧ Γ (ρ 8) = some (4, 4, 0, 0, bk 8 ρ) := by
  obtain ⟨b0, b1, b2, b3, b4, b5, b6, b7, b8, b9, b10, b11, b12, b13, b14, b15, b16, b17, e, hc⟩ := h.c11 ha
  have e8 : b8 = ρ 8 := hc.2.2.2.2.2.2.2.2.1.1
  subst e8
  exact ⟨fP_of (fv_of e rfl), hc.2.2.2.2.2.2.2.2.1.2⟩
theorem T_gP_11_9 {P : Nat → Prop} (h : St Γ Φ S) (ha : Γ a = some (11, 11, 0, rs, ρ)) (k : ∀ x, x = fP S a 9 → Γ x = some (7, 7, 0, 0, bk 9 ρ) → P x) : gP S a 11 9 P := by
  obtain ⟨b0, b1, b2, b3, b4, b5, b6, b7, b8, b9, b10, b11, b12, b13, b14, b15, b16, b17, e, hc⟩ := h.c11 ha
  exact ⟨_, _, e, rfl, k b9 (fP_of (fv_of e rfl)).symm hc.2.2.2.2.2.2.2.2.2.1.2⟩
theorem E_gP_11_9 {P : Nat → Prop} (h : St Γ Φ S) (ha : Γ a = some (11, 11, 0, rs, ρ)) (k : Γ (ρ 9) = some (7, 7, 0, 0, bk 9 ρ) → P (ρ 9)) : gP S a 11 9 P := by
  obtain ⟨b0, b1, b2, b3, b4, b5, b6, b7, b8, b9, b10, b11, b12, b13, b14, b15, b16, b17, e, hc⟩ := h.c11 ha
  have e9 : b9 = ρ 9 := hc.2.2.2.2.2.2.2.2.2.1.1
  subst e9
  exact ⟨_, _, e, rfl, k hc.2.2.2.2.2.2.2.2.2.1.2⟩
theorem P_11_9 (h : St Γ Φ S) (ha : Γ a = some (11, 11, 0, rs, ρ)) : fP S a 9 = ρ 9 ∧ Γ (ρ 9) = some (7, 7, 0, 0, bk 9 ρ) := by
  obtain ⟨b0, b1, b2, b3, b4, b5, b6, b7, b8, b9, b10, b11, b12, b13, b14, b15, b16, b17, e, hc⟩ := h.c11 ha
  have e9 : b9 = ρ 9 := hc.2.2.2.2.2.2.2.2.2.1.1
  subst e9
  exact ⟨fP_of (fv_of e rfl), hc.2.2.2.2.2.2.2.2.2.1.2⟩
theorem T_gP_11_10 {P : Nat → Prop} (h : St Γ Φ S) (ha : Γ a = some (11, 11, 0, rs, ρ)) (k : ∀ x, x = fP S a 10 → Γ x = some (20, 1210, 48, 0, k0) → P x) : gP S a 11 10 P := by
  obtain ⟨b0, b1, b2, b3, b4, b5, b6, b7, b8, b9, b10, b11, b12, b13, b14, b15, b16, b17, e, hc⟩ := h.c11 ha
  exact ⟨_, _, e, rfl, k b10 (fP_of (fv_of e rfl)).symm hc.2.2.2.2.2.2.2.2.2.2.1.2⟩
theorem E_gP_11_10 {P : Nat → Prop} (h : St Γ Φ S) (ha : Γ a = some (11, 11, 0, rs, ρ)) (k : Γ (ρ 10) = some (20, 1210, 48, 0, k0) → P (ρ 10)) : gP S a 11 10 P := by
  obtain ⟨b0, b1, b2, b3, b4, b5, b6, b7, b8, b9, b10, b11, b12, b13, b14, b15, b16, b17, e, hc⟩ := h.c11 ha
  have e10 : b10 = ρ 10 := hc.2.2.2.2.2.2.2.2.2.2.1.1
  subst e10
  exact ⟨_, _, e, rfl, k hc.2.2.2.2.2.2.2.2.2.2.1.2⟩
theorem P_11_10 (h : St Γ Φ S) (ha : Γ a = some (11, 11, 0, rs, ρ)) : fP S a 10 = ρ 10 ∧ Γ (ρ 10) = some (20, 1210, 48, 0, k0) := by
  obtain ⟨b0, b1, b2, b3, b4, b5, b6, b7, b8, b9, b10, b11, b12, b13, b14, b15, b16, b17, e, hc⟩ := h.c11 ha
  have e10 : b10 = ρ 10 := hc.2.2.2.2.2.2.2.2.2.2.1.1
  subst e10
  exact ⟨fP_of (fv_of e rfl), hc.2.2.2.2.2.2.2.2.2.2.1.2⟩
theorem T_gI_11_11 {P : Int32 → Prop} (h : St Γ Φ S) (ha : Γ a = some (11, 11, 0, rs, ρ)) (k : ∀ x, x = fI S a 11 → (x.toInt = (fI S a 11).toInt ∧ 0 ≤ x.toInt ∧ x.toInt ≤ 8) → P x) : gI S a 11 11 P := by
  obtain ⟨b0, b1, b2, b3, b4, b5, b6, b7, b8, b9, b10, b11, b12, b13, b14, b15, b16, b17, e, hc⟩ := h.c11 ha
  exact ⟨_, _, e, rfl, k b11 (fI_of (fv_of e rfl)).symm ⟨(congrArg Int32.toInt (fI_of (fv_of e rfl))).symm, hc.2.2.2.2.2.2.2.2.2.2.2.1⟩⟩
theorem T_pI_11_11 {P : hS → Prop} {x : Int32} (h : St Γ Φ S) (hf : fre Γ Φ L) (ha : Γ a = some (11, 11, 0, rs, ρ)) (hm : 11 ∈ L) (hx : 0 ≤ x.toInt ∧ x.toInt ≤ 8) (k : ∀ S₁, St Γ Φ S₁ → fI S₁ a 11 = x → sEqx S S₁ a 11 → aEq S S₁ → P S₁) : pI S a 11 11 x P := by
  obtain ⟨b0, b1, b2, b3, b4, b5, b6, b7, b8, b9, b10, b11, b12, b13, b14, b15, b16, b17, e, hc⟩ := h.c11 ha
  refine ⟨_, e, by simp only [List.length_cons, List.length_nil]; omega, k _ (h.set ha (hf a _ ha hm) (cellOk_11 rfl ⟨b0, b1, b2, b3, b4, b5, b6, b7, b8, b9, b10, x, b12, b13, b14, b15, b16, b17, rfl, hc.1, hc.2.1, hc.2.2.1, hc.2.2.2.1, hc.2.2.2.2.1, hc.2.2.2.2.2.1, hc.2.2.2.2.2.2.1, hc.2.2.2.2.2.2.2.1, hc.2.2.2.2.2.2.2.2.1, hc.2.2.2.2.2.2.2.2.2.1, hc.2.2.2.2.2.2.2.2.2.2.1, hx, hc.2.2.2.2.2.2.2.2.2.2.2.2.1, hc.2.2.2.2.2.2.2.2.2.2.2.2.2.1, hc.2.2.2.2.2.2.2.2.2.2.2.2.2.2.1, hc.2.2.2.2.2.2.2.2.2.2.2.2.2.2.2⟩)) (fI_of (fv_of (hset_self _ _ _) rfl)) (fun b j hn => ?_) (aEq_hset e)⟩
  by_cases e1 : b = a
  · subst e1
    unfold fv
    rw [hset_self, e]
    show (List.set _ _ _).getD j _ = List.getD _ j _
    rw [List.getD_eq_getElem?_getD, List.getD_eq_getElem?_getD, List.getElem?_set_ne (fun z => hn ⟨rfl, z.symm⟩)]
  · exact fv_hset_ne e1
theorem T_gI_11_12 {P : Int32 → Prop} (h : St Γ Φ S) (ha : Γ a = some (11, 11, 0, rs, ρ)) (k : ∀ x, x = fI S a 12 → (x.toInt = (fI S a 12).toInt ∧ 0 ≤ x.toInt ∧ x.toInt ≤ 6) → P x) : gI S a 11 12 P := by
  obtain ⟨b0, b1, b2, b3, b4, b5, b6, b7, b8, b9, b10, b11, b12, b13, b14, b15, b16, b17, e, hc⟩ := h.c11 ha
  exact ⟨_, _, e, rfl, k b12 (fI_of (fv_of e rfl)).symm ⟨(congrArg Int32.toInt (fI_of (fv_of e rfl))).symm, hc.2.2.2.2.2.2.2.2.2.2.2.2.1⟩⟩
theorem T_pI_11_12 {P : hS → Prop} {x : Int32} (h : St Γ Φ S) (hf : fre Γ Φ L) (ha : Γ a = some (11, 11, 0, rs, ρ)) (hm : 11 ∈ L) (hx : 0 ≤ x.toInt ∧ x.toInt ≤ 6) (k : ∀ S₁, St Γ Φ S₁ → fI S₁ a 12 = x → sEqx S S₁ a 12 → aEq S S₁ → P S₁) : pI S a 11 12 x P := by
  obtain ⟨b0, b1, b2, b3, b4, b5, b6, b7, b8, b9, b10, b11, b12, b13, b14, b15, b16, b17, e, hc⟩ := h.c11 ha
  refine ⟨_, e, by simp only [List.length_cons, List.length_nil]; omega, k _ (h.set ha (hf a _ ha hm) (cellOk_11 rfl ⟨b0, b1, b2, b3, b4, b5, b6, b7, b8, b9, b10, b11, x, b13, b14, b15, b16, b17, rfl, hc.1, hc.2.1, hc.2.2.1, hc.2.2.2.1, hc.2.2.2.2.1, hc.2.2.2.2.2.1, hc.2.2.2.2.2.2.1, hc.2.2.2.2.2.2.2.1, hc.2.2.2.2.2.2.2.2.1, hc.2.2.2.2.2.2.2.2.2.1, hc.2.2.2.2.2.2.2.2.2.2.1, hc.2.2.2.2.2.2.2.2.2.2.2.1, hx, hc.2.2.2.2.2.2.2.2.2.2.2.2.2.1, hc.2.2.2.2.2.2.2.2.2.2.2.2.2.2.1, hc.2.2.2.2.2.2.2.2.2.2.2.2.2.2.2⟩)) (fI_of (fv_of (hset_self _ _ _) rfl)) (fun b j hn => ?_) (aEq_hset e)⟩
  by_cases e1 : b = a
  · subst e1
    unfold fv
    rw [hset_self, e]
    show (List.set _ _ _).getD j _ = List.getD _ j _
    rw [List.getD_eq_getElem?_getD, List.getD_eq_getElem?_getD, List.getElem?_set_ne (fun z => hn ⟨rfl, z.symm⟩)]
  · exact fv_hset_ne e1
theorem T_gI_11_13 {P : Int32 → Prop} (h : St Γ Φ S) (ha : Γ a = some (11, 11, 0, rs, ρ)) (k : ∀ x, x = fI S a 13 → (x.toInt = (fI S a 13).toInt) → P x) : gI S a 11 13 P := by
  obtain ⟨b0, b1, b2, b3, b4, b5, b6, b7, b8, b9, b10, b11, b12, b13, b14, b15, b16, b17, e, hc⟩ := h.c11 ha
  exact ⟨_, _, e, rfl, k b13 (fI_of (fv_of e rfl)).symm (congrArg Int32.toInt (fI_of (fv_of e rfl))).symm⟩
theorem T_pI_11_13 {P : hS → Prop} {x : Int32} (h : St Γ Φ S) (hf : fre Γ Φ L) (ha : Γ a = some (11, 11, 0, rs, ρ)) (hm : 11 ∈ L) (k : ∀ S₁, St Γ Φ S₁ → fI S₁ a 13 = x → sEqx S S₁ a 13 → aEq S S₁ → P S₁) : pI S a 11 13 x P := by
  obtain ⟨b0, b1, b2, b3, b4, b5, b6, b7, b8, b9, b10, b11, b12, b13, b14, b15, b16, b17, e, hc⟩ := h.c11 ha
  refine ⟨_, e, by simp only [List.length_cons, List.length_nil]; omega, k _ (h.set ha (hf a _ ha hm) (cellOk_11 rfl ⟨b0, b1, b2, b3, b4, b5, b6, b7, b8, b9, b10, b11, b12, x, b14, b15, b16, b17, rfl, hc.1, hc.2.1, hc.2.2.1, hc.2.2.2.1, hc.2.2.2.2.1, hc.2.2.2.2.2.1, hc.2.2.2.2.2.2.1, hc.2.2.2.2.2.2.2.1, hc.2.2.2.2.2.2.2.2.1, hc.2.2.2.2.2.2.2.2.2.1, hc.2.2.2.2.2.2.2.2.2.2.1, hc.2.2.2.2.2.2.2.2.2.2.2.1, hc.2.2.2.2.2.2.2.2.2.2.2.2.1, hc.2.2.2.2.2.2.2.2.2.2.2.2.2.1, hc.2.2.2.2.2.2.2.2.2.2.2.2.2.2.1, hc.2.2.2.2.2.2.2.2.2.2.2.2.2.2.2⟩)) (fI_of (fv_of (hset_self _ _ _) rfl)) (fun b j hn => ?_) (aEq_hset e)⟩
  by_cases e1 : b = a
  · subst e1
    unfold fv
    rw [hset_self, e]
    show (List.set _ _ _).getD j _ = List.getD _ j _
    rw [List.getD_eq_getElem?_getD, List.getD_eq_getElem?_getD, List.getElem?_set_ne (fun z => hn ⟨rfl, z.symm⟩)]
  · exact fv_hset_ne e1
theorem T_gI_11_14 {P : Int32 → Prop} (h : St Γ Φ S) (ha : Γ a = some (11, 11, 0, rs, ρ)) (k : ∀ x, x = fI S a 14 → (x.toInt = (fI S a 14).toInt) → P x) : gI S a 11 14 P := by
  obtain ⟨b0, b1, b2, b3, b4, b5, b6, b7, b8, b9, b10, b11, b12, b13, b14, b15, b16, b17, e, hc⟩ := h.c11 ha
  exact ⟨_, _, e, rfl, k b14 (fI_of (fv_of e rfl)).symm (congrArg Int32.toInt (fI_of (fv_of e rfl))).symm⟩
theorem T_pI_11_14 {P : hS → Prop} {x : Int32} (h : St Γ Φ S) (hf : fre Γ Φ L) (ha : Γ a = some (11, 11, 0, rs, ρ)) (hm : 11 ∈ L) (k : ∀ S₁, St Γ Φ S₁ → fI S₁ a 14 = x → sEqx S S₁ a 14 → aEq S S₁ → P S₁) : pI S a 11 14 x P := by
  obtain ⟨b0, b1, b2, b3, b4, b5, b6, b7, b8, b9, b10, b11, b12, b13, b14, b15, b16, b17, e, hc⟩ := h.c11 ha
  refine ⟨_, e, by simp only [List.length_cons, List.length_nil]; omega, k _ (h.set ha (hf a _ ha hm) (cellOk_11 rfl ⟨b0, b1, b2, b3, b4, b5, b6, b7, b8, b9, b10, b11, b12, b13, x, b15, b16, b17, rfl, hc.1, hc.2.1, hc.2.2.1, hc.2.2.2.1, hc.2.2.2.2.1, hc.2.2.2.2.2.1, hc.2.2.2.2.2.2.1, hc.2.2.2.2.2.2.2.1, hc.2.2.2.2.2.2.2.2.1, hc.2.2.2.2.2.2.2.2.2.1, hc.2.2.2.2.2.2.2.2.2.2.1, hc.2.2.2.2.2.2.2.2.2.2.2.1, hc.2.2.2.2.2.2.2.2.2.2.2.2.1, hc.2.2.2.2.2.2.2.2.2.2.2.2.2.1, hc.2.2.2.2.2.2.2.2.2.2.2.2.2.2.1, hc.2.2.2.2.2.2.2.2.2.2.2.2.2.2.2⟩)) (fI_of (fv_of (hset_self _ _ _) rfl)) (fun b j hn => ?_) (aEq_hset e)⟩
  by_cases e1 : b = a
  · subst e1
    unfold fv
    rw [hset_self, e]
    show (List.set _ _ _).getD j _ = List.getD _ j _
    rw [List.getD_eq_getElem?_getD, List.getD_eq_getElem?_getD, List.getElem?_set_ne (fun z => hn ⟨rfl, z.symm⟩)]
  · exact fv_hset_ne e1
theorem T_gI_11_15 {P : Int32 → Prop} (h : St Γ Φ S) (ha : Γ a = some (11, 11, 0, rs, ρ)) (k : ∀ x, x = fI S a 15 → (x.toInt = (fI S a 15).toInt) → P x) : gI S a 11 15 P := by
  obtain ⟨b0, b1, b2, b3, b4, b5, b6, b7, b8, b9, b10, b11, b12, b13, b14, b15, b16, b17, e, hc⟩ := h.c11 ha
  exact ⟨_, _, e, rfl, k b15 (fI_of (fv_of e rfl)).symm (congrArg Int32.toInt (fI_of (fv_of e rfl))).symm⟩
theorem T_pI_11_15 {P : hS → Prop} {x : Int32} (h : St Γ Φ S) (hf : fre Γ Φ L) (ha : Γ a = some (11, 11, 0, rs, ρ)) (hm : 11 ∈ L) (hx : x = nI rs) (k : ∀ S₁, St Γ Φ S₁ → fI S₁ a 15 = x → sEqx S S₁ a 15 → aEq S S₁ → P S₁) : pI S a 11 15 x P := by
  obtain ⟨b0, b1, b2, b3, b4, b5, b6, b7, b8, b9, b10, b11, b12, b13, b14, b15, b16, b17, e, hc⟩ := h.c11 ha
  refine ⟨_, e, by simp only [List.length_cons, List.length_nil]; omega, k _ (h.set ha (hf a _ ha hm) (cellOk_11 rfl ⟨b0, b1, b2, b3, b4, b5, b6, b7, b8, b9, b10, b11, b12, b13, b14, x, b16, b17, rfl, hc.1, hc.2.1, hc.2.2.1, hc.2.2.2.1, hc.2.2.2.2.1, hc.2.2.2.2.2.1, hc.2.2.2.2.2.2.1, hc.2.2.2.2.2.2.2.1, hc.2.2.2.2.2.2.2.2.1, hc.2.2.2.2.2.2.2.2.2.1, hc.2.2.2.2.2.2.2.2.2.2.1, hc.2.2.2.2.2.2.2.2.2.2.2.1, hc.2.2.2.2.2.2.2.2.2.2.2.2.1, hc.2.2.2.2.2.2.2.2.2.2.2.2.2.1, hx, hc.2.2.2.2.2.2.2.2.2.2.2.2.2.2.2⟩)) (fI_of (fv_of (hset_self _ _ _) rfl)) (fun b j hn => ?_) (aEq_hset e)⟩
  by_cases e1 : b = a
  · subst e1
    unfold fv
    rw [hset_self, e]
    show (List.set _ _ _).getD j _ = List.getD _ j _
    rw [List.getD_eq_getElem?_getD, List.getD_eq_getElem?_getD, List.getElem?_set_ne (fun z => hn ⟨rfl, z.symm⟩)]
  · exact fv_hset_ne e1
theorem T_gP_11_16 {P : Nat → Prop} (h : St Γ Φ S) (ha : Γ a = some (11, 11, 0, rs, ρ)) (k : ∀ x, x = fP S a 16 → Γ x = some (20, 1216, 7, 0, k0) → P x) : gP S a 11 16 P := by
  obtain ⟨b0, b1, b2, b3, b4, b5, b6, b7, b8, b9, b10, b11, b12, b13, b14, b15, b16, b17, e, hc⟩ := h.c11 ha
  exact ⟨_, _, e, rfl, k b16 (fP_of (fv_of e rfl)).symm hc.2.2.2.2.2.2.2.2.2.2.2.2.2.1.2⟩
theorem E_gP_11_16 {P : Nat → Prop} (h : St Γ Φ S) (ha : Γ a = some (11, 11, 0, rs, ρ)) (k : Γ (ρ 16) = some (20, 1216, 7, 0, k0) → P (ρ 16)) : gP S a 11 16 P := by
  obtain ⟨b0, b1, b2, b3, b4, b5, b6, b7, b8, b9, b10, b11, b12, b13, b14, b15, b16, b17, e, hc⟩ := h.c11 ha
  have e16 : b16 = ρ 16 := hc.2.2.2.2.2.2.2.2.2.2.2.2.2.1.1
  subst e16
  exact ⟨_, _, e, rfl, k hc.2.2.2.2.2.2.2.2.2.2.2.2.2.1.2⟩
theorem P_11_16 (h : St Γ Φ S) (ha : Γ a = some (11, 11, 0, rs, ρ)) : fP S a 16 = ρ 16 ∧ Γ (ρ 16) = some (20, 1216, 7, 0, k0) := by
  obtain ⟨b0, b1, b2, b3, b4, b5, b6, b7, b8, b9, b10, b11, b12, b13, b14, b15, b16, b17, e, hc⟩ := h.c11 ha
  have e16 : b16 = ρ 16 := hc.2.2.2.2.2.2.2.2.2.2.2.2.2.1.1
  subst e16
  exact ⟨fP_of (fv_of e rfl), hc.2.2.2.2.2.2.2.2.2.2.2.2.2.1.2⟩
theorem T_gI_11_17 {P : Int32 → Prop} (h : St Γ Φ S) (ha : Γ a = some (11, 11, 0, rs, ρ)) (k : ∀ x, x = fI S a 17 → (x.toInt = (fI S a 17).toInt) → P x) : gI S a 11 17 P := by
  obtain ⟨b0, b1, b2, b3, b4, b5, b6, b7, b8, b9, b10, b11, b12, b13, b14, b15, b16, b17, e, hc⟩ := h.c11 ha
  exact ⟨_, _, e, rfl, k b17 (fI_of (fv_of e rfl)).symm (congrArg Int32.toInt (fI_of (fv_of e rfl))).symm⟩
theorem T_pI_11_17 {P : hS → Prop} {x : Int32} (h : St Γ Φ S) (hf : fre Γ Φ L) (ha : Γ a = some (11, 11, 0, rs, ρ)) (hm : 11 ∈ L) (k : ∀ S₁, St Γ Φ S₁ → fI S₁ a 17 = x → sEqx S S₁ a 17 → aEq S S₁ → P S₁) : pI S a 11 17 x P := by
  obtain ⟨b0, b1, b2, b3, b4, b5, b6, b7, b8, b9, b10, b11, b12, b13, b14, b15, b16, b17, e, hc⟩ := h.c11 ha
  refine ⟨_, e, by simp only [List.length_cons, List.length_nil]; omega, k _ (h.set ha (hf a _ ha hm) (cellOk_11 rfl ⟨b0, b1, b2, b3, b4, b5, b6, b7, b8, b9, b10, b11, b12, b13, b14, b15, b16, x, rfl, hc.1, hc.2.1, hc.2.2.1, hc.2.2.2.1, hc.2.2.2.2.1, hc.2.2.2.2.2.1, hc.2.2.2.2.2.2.1, hc.2.2.2.2.2.2.2.1, hc.2.2.2.2.2.2.2.2.1, hc.2.2.2.2.2.2.2.2.2.1, hc.2.2.2.2.2.2.2.2.2.2.1, hc.2.2.2.2.2.2.2.2.2.2.2.1, hc.2.2.2.2.2.2.2.2.2.2.2.2.1, hc.2.2.2.2.2.2.2.2.2.2.2.2.2.1, hc.2.2.2.2.2.2.2.2.2.2.2.2.2.2.1, hc.2.2.2.2.2.2.2.2.2.2.2.2.2.2.2⟩)) (fI_of (fv_of (hset_self _ _ _) rfl)) (fun b j hn => ?_) (aEq_hset e)⟩
  by_cases e1 : b = a
  · subst e1
    unfold fv
    rw [hset_self, e]
    show (List.set _ _ _).getD j _ = List.getD _ j _
    rw [List.getD_eq_getElem?_getD, List.getD_eq_getElem?_getD, List.getElem?_set_ne (fun z => hn ⟨rfl, z.symm⟩)]
  · exact fv_hset_ne e1
theorem T_rs (h : St Γ Φ S) (ha : Γ a = some (11, 11, 0, rs, ρ)) : fI S a 15 = nI rs ∧ bk 5 ρ 1 = ρ 4 := by
  obtain ⟨b0, b1, b2, b3, b4, b5, b6, b7, b8, b9, b10, b11, b12, b13, b14, b15, b16, b17, e, hc⟩ := h.c11 ha
  exact ⟨(fI_of (fv_of e rfl)).trans hc.2.2.2.2.2.2.2.2.2.2.2.2.2.2.1, hc.2.2.2.2.2.2.2.2.2.2.2.2.2.2.2⟩
end TY
