/-! THE CLASS'S SCALE, EXACTLY -/
section CW0
variable {T : hS}
theorem c_r157 {q : Int32 → hS → Prop} {v : Int64} {z : Int} (e : v.toInt = z) (h0 : ckD z = none → q 2000000000 T) (h1 : ckD z = some z → ∀ r : Int32, r.toInt = z → q r T) : w_X6_reckon_b157 q T v := by
  unfold w_X6_reckon_b157 w_X6_reckon_b173
  have t1 : (1000000000 : Int64).toInt = 1000000000 := by decide
  have t2 : (-1000000000 : Int64).toInt = -1000000000 := by decide
  have e1 : 0 < lg_cmp v 1000000000 ↔ 1000000000 < z := by rw [show 0 < lg_cmp v 1000000000 ↔ ¬ (lg_cmp v 1000000000 ≤ 0) from by rw [Int32.not_le], lg_cmp_le, Int64.le_iff_toInt_le, t1, e]; omega
  have e2 : 0 ≤ lg_cmp v (-1000000000) ↔ -1000000000 ≤ z := by rw [lg_cmp_ge, Int64.le_iff_toInt_le, t2, e]
  rw [e1, e2]
  have no : ¬ (-1000000000 ≤ z ∧ z ≤ 1000000000) → ckD z = none := fun c => by unfold ckD; rw [if_pos (by omega)]
  refine ⟨fun c => h0 (no (by omega)), fun c => ⟨fun c2 => h1 (by unfold ckD; rw [if_neg (by omega)]) _ ?_, fun c2 => h0 (no (by omega))⟩⟩
  rw [Int64.toInt_toInt32, e]
  exact fb_bmod (by omega) (by omega)
theorem tdiv_le {x y : Int} (h : -1100000000 ≤ x ∧ x ≤ 1100000000) : -1100000000 ≤ x.tdiv y ∧ x.tdiv y ≤ 1100000000 := by
  have h1 : (x.tdiv y).natAbs ≤ x.natAbs := by
    rw [Int.natAbs_tdiv]
    exact Nat.div_le_self _ _
  omega
theorem kx_X6_reckon {q : Int32 → hS → Prop} {o : Nat} {x y : Int32} (ho : 2 ≤ o ∧ o ≤ 9) (hx : -1000001000 ≤ x.toInt ∧ x.toInt ≤ 1000001000) (hy : -1000001000 ≤ y.toInt ∧ y.toInt ≤ 1000001000) (h0 : opD o x.toInt y.toInt = none → q 2000000000 T) (h1 : ∀ v, opD o x.toInt y.toInt = some v → ∀ r : Int32, r.toInt = v → q r T) : w_X6_reckon q T (nI o) x y := by
  unfold w_X6_reckon
  intro yo eo
  have ey : yo.toInt = o := by rw [eo, nI_toInt (by omega)]
  rw [ey]
  have a1 : (Int32.toInt64 x).toInt = x.toInt := i64toInt x
  have a2 : (Int32.toInt64 y).toInt = y.toInt := i64toInt y
  have yz : y = 0 ↔ y.toInt = 0 := by
    constructor
    · intro z; rw [z]; decide
    · intro z; exact Int32.toInt_inj.mp (z.trans z0I.symm)
  have hd := tdiv_le (x := x.toInt) (y := y.toInt) ⟨by omega, by omega⟩
  have dv : (x / y).toInt = x.toInt.tdiv y.toInt := by rw [Int32.toInt_div, fb_bmod (by omega) (by omega)]
  refine ⟨fun c v ev => ?_, fun c v ev => ?_, fun c v ev => ?_, fun c => ⟨fun c2 => ⟨c2, ?_⟩, fun c2 => ?_⟩, fun c => ⟨fun c2 => ⟨c2, ?_⟩, fun c2 => ?_⟩, fun c => ⟨fun c2 => ?_, fun c2 => ?_⟩, fun c => ⟨fun c2 => ?_, fun c2 => ?_⟩, fun c => ⟨fun c2 => ?_, fun c2 => ?_⟩, fun c => by omega⟩
  · have o2 : o = 2 := by omega
    subst o2
    exact c_r157 (z := x.toInt + y.toInt) (by rw [ev, fb_addL] <;> omega) h0 (fun z => h1 _ z)
  · have o2 : o = 3 := by omega
    subst o2
    exact c_r157 (z := x.toInt - y.toInt) (by rw [ev, fb_subL] <;> omega) h0 (fun z => h1 _ z)
  · have o2 : o = 4 := by omega
    subst o2
    have hb : -2000000000000000000 ≤ x.toInt * y.toInt ∧ x.toInt * y.toInt ≤ 2000000000000000000 := by
      have h1 : (x.toInt * y.toInt).natAbs = x.toInt.natAbs * y.toInt.natAbs := Int.natAbs_mul _ _
      have h2 : x.toInt.natAbs * y.toInt.natAbs ≤ 1000001000 * 1000001000 := Nat.mul_le_mul (by omega) (by omega)
      omega
    exact c_r157 (z := x.toInt * y.toInt) (by rw [ev, fb_mulL] <;> rw [a1, a2] <;> omega) h0 (fun z => h1 _ z)
  · have o2 : o = 5 := by omega
    subst o2
    have e5 : opD 5 x.toInt y.toInt = ckD (x.toInt.tdiv y.toInt) := by
      show (if y.toInt = 0 then none else ckD (x.toInt.tdiv y.toInt)) = _
      rw [if_neg (fun z => c2 (yz.mpr z))]
    rw [e5] at h0 h1
    unfold w_X6_reckon_b89
    exact c_r157 (z := x.toInt.tdiv y.toInt) (by rw [i64toInt, dv]) h0 (fun z => h1 _ z)
  · have o2 : o = 5 := by omega
    subst o2
    unfold w_X6_reckon_b89
    have e5 : opD 5 x.toInt y.toInt = none := if_pos (yz.mp c2)
    exact c_r157 (z := 2000000000) (by decide) (fun _ => h0 e5) (fun z => absurd z (by decide))
  · have o2 : o = 6 := by omega
    subst o2
    have e5 : opD 6 x.toInt y.toInt = ckD (x.toInt.tmod y.toInt) := by
      show (if y.toInt = 0 then none else ckD (x.toInt.tmod y.toInt)) = _
      rw [if_neg (fun z => c2 (yz.mpr z))]
    rw [e5] at h0 h1
    unfold w_X6_reckon_b107
    refine c_r157 (z := x.toInt.tmod y.toInt) ?_ h0 (fun z => h1 _ z)
    have hm : (x.toInt.tmod y.toInt).natAbs ≤ x.toInt.natAbs := by
      rw [Int.natAbs_tmod]
      exact Nat.mod_le _ _
    have e6 : x.toInt.tdiv y.toInt * y.toInt = x.toInt - x.toInt.tmod y.toInt := by
      have := Int.mul_tdiv_add_tmod x.toInt y.toInt
      rw [Int.mul_comm] at this
      omega
    have e7 : (x / y * y).toInt = x.toInt - x.toInt.tmod y.toInt := by rw [fb_mulI] <;> rw [dv, e6] <;> omega
    rw [i64toInt, fb_subI (by omega) (by omega), e7]
    omega
  · have o2 : o = 6 := by omega
    subst o2
    unfold w_X6_reckon_b107
    have e5 : opD 6 x.toInt y.toInt = none := if_pos (yz.mp c2)
    exact c_r157 (z := 2000000000) (by decide) (fun _ => h0 e5) (fun z => absurd z (by decide))
  · have o2 : o = 7 := by omega
    subst o2
    unfold w_X6_reckon_b121
    rw [Int32.le_iff_toInt_le] at c2
    have e5 : opD 7 x.toInt y.toInt = some 0 := congrArg some (if_neg (by omega))
    exact c_r157 (z := 0) (by decide) (fun z => absurd z (by decide)) (fun _ => h1 _ e5)
  · have o2 : o = 7 := by omega
    subst o2
    unfold w_X6_reckon_b121
    rw [Int32.le_iff_toInt_le] at c2
    have e5 : opD 7 x.toInt y.toInt = some 1 := congrArg some (if_pos (by omega))
    exact c_r157 (z := 1) (by decide) (fun z => absurd z (by decide)) (fun _ => h1 _ e5)
  · have o2 : o = 8 := by omega
    subst o2
    unfold w_X6_reckon_b135
    rw [Int32.le_iff_toInt_le] at c2
    have e5 : opD 8 x.toInt y.toInt = some 0 := congrArg some (if_neg (by omega))
    exact c_r157 (z := 0) (by decide) (fun z => absurd z (by decide)) (fun _ => h1 _ e5)
  · have o2 : o = 8 := by omega
    subst o2
    unfold w_X6_reckon_b135
    rw [Int32.le_iff_toInt_le] at c2
    have e5 : opD 8 x.toInt y.toInt = some 1 := congrArg some (if_pos (by omega))
    exact c_r157 (z := 1) (by decide) (fun z => absurd z (by decide)) (fun _ => h1 _ e5)
  · have o2 : o = 9 := by omega
    subst o2
    unfold w_X6_reckon_b149
    have e5 : opD 9 x.toInt y.toInt = some 0 := congrArg some (if_neg (fun z => c2 (Int32.toInt_inj.mp z)))
    exact c_r157 (z := 0) (by decide) (fun z => absurd z (by decide)) (fun _ => h1 _ e5)
  · have o2 : o = 9 := by omega
    subst o2
    unfold w_X6_reckon_b149
    have e5 : opD 9 x.toInt y.toInt = some 1 := congrArg some (if_pos (by rw [c2]))
    exact c_r157 (z := 1) (by decide) (fun z => absurd z (by decide)) (fun _ => h1 _ e5)
end CW0
