section ZS
variable {p : Program} {l : Launch} {e : Env} {R : Room} {s : State} {m : MethodId} {args : Array Value} {below : List Frame} {meth : Method} {c : Code} {Q : State → Prop} {G : hG} {B mc ms nL fr lo : Nat} {cc : ByteArray} {own : String} {S : hS} {ku kv pc : Nat} {lv : hL} {st : List Value}
theorem z_istore_n (hC : zC p R s m args c cc nL own G B mc ms fr lo) {n : Fin 4} {i : Nat} (hi : (n : Nat) = i) {x : Int32} {lv' : hL} (d : decode cc pc = .ok (.istore_n n, 1)) (hn : i < nL) (ho : hok1 lv i) (hl : (lv.set i (some (.int x))) = lv') (k : Z p l e R s m args below meth c Q G B mc ms nL S ku kv (pc + 1) lv' st) : Z p l e R s m args below meth c Q G B mc ms nL S ku kv pc lv (.int x :: st) := by
  subst hi
  intro H locs ls cells slots h1 h2 h3 h4 h5
  obtain ⟨ls', e', h'⟩ := h3.st1 (v := .int x) hn rfl ho
  intro T hT X
  obtain ⟨t, a, b⟩ := k H locs ls' cells slots h1 h2 (hl ▸ h') h4 h5 T hT X
  refine ⟨t, ?_, b⟩
  have hx := hC.x
  have hb := hC.b
  jvm_step X.here [X.here.top, ↓top_set X.here.top, hx, hb, d, e']
  exact a
theorem z_istore (hC : zC p R s m args c cc nL own G B mc ms fr lo) {i : Nat} {x : Int32} {lv' : hL} (d : decode cc pc = .ok (.istore i, 2)) (hn : i < nL) (ho : hok1 lv i) (hl : (lv.set i (some (.int x))) = lv') (k : Z p l e R s m args below meth c Q G B mc ms nL S ku kv (pc + 2) lv' st) : Z p l e R s m args below meth c Q G B mc ms nL S ku kv pc lv (.int x :: st) := by
  intro H locs ls cells slots h1 h2 h3 h4 h5
  obtain ⟨ls', e', h'⟩ := h3.st1 (v := .int x) hn rfl ho
  intro T hT X
  obtain ⟨t, a, b⟩ := k H locs ls' cells slots h1 h2 (hl ▸ h') h4 h5 T hT X
  refine ⟨t, ?_, b⟩
  have hx := hC.x
  have hb := hC.b
  jvm_step X.here [X.here.top, ↓top_set X.here.top, hx, hb, d, e']
  exact a
theorem z_lstore_n (hC : zC p R s m args c cc nL own G B mc ms fr lo) {n : Fin 4} {i : Nat} (hi : (n : Nat) = i) {x : Int64} {lv' : hL} (d : decode cc pc = .ok (.lstore_n n, 1)) (hn : i + 1 < nL) (ho : hok1 lv i) (hl : ((lv.set i (some (.long x))).set (i + 1) none) = lv') (k : Z p l e R s m args below meth c Q G B mc ms nL S ku kv (pc + 1) lv' st) : Z p l e R s m args below meth c Q G B mc ms nL S ku kv pc lv (.long x :: st) := by
  subst hi
  intro H locs ls cells slots h1 h2 h3 h4 h5
  obtain ⟨ls', e', h'⟩ := h3.st2 (v := .long x) hn rfl ho
  intro T hT X
  obtain ⟨t, a, b⟩ := k H locs ls' cells slots h1 h2 (hl ▸ h') h4 h5 T hT X
  refine ⟨t, ?_, b⟩
  have hx := hC.x
  have hb := hC.b
  jvm_step X.here [X.here.top, ↓top_set X.here.top, hx, hb, d, e']
  exact a
theorem z_lstore (hC : zC p R s m args c cc nL own G B mc ms fr lo) {i : Nat} {x : Int64} {lv' : hL} (d : decode cc pc = .ok (.lstore i, 2)) (hn : i + 1 < nL) (ho : hok1 lv i) (hl : ((lv.set i (some (.long x))).set (i + 1) none) = lv') (k : Z p l e R s m args below meth c Q G B mc ms nL S ku kv (pc + 2) lv' st) : Z p l e R s m args below meth c Q G B mc ms nL S ku kv pc lv (.long x :: st) := by
  intro H locs ls cells slots h1 h2 h3 h4 h5
  obtain ⟨ls', e', h'⟩ := h3.st2 (v := .long x) hn rfl ho
  intro T hT X
  obtain ⟨t, a, b⟩ := k H locs ls' cells slots h1 h2 (hl ▸ h') h4 h5 T hT X
  refine ⟨t, ?_, b⟩
  have hx := hC.x
  have hb := hC.b
  jvm_step X.here [X.here.top, ↓top_set X.here.top, hx, hb, d, e']
  exact a
theorem z_astore_n (hC : zC p R s m args c cc nL own G B mc ms fr lo) {n : Fin 4} {i : Nat} (hi : (n : Nat) = i) {x : Nat} {lv' : hL} (d : decode cc pc = .ok (.astore_n n, 1)) (hn : i < nL) (ho : hok1 lv i) (hl : (lv.set i (some (.ref x))) = lv') (k : Z p l e R s m args below meth c Q G B mc ms nL S ku kv (pc + 1) lv' st) : Z p l e R s m args below meth c Q G B mc ms nL S ku kv pc lv (.ref x :: st) := by
  subst hi
  intro H locs ls cells slots h1 h2 h3 h4 h5
  obtain ⟨ls', e', h'⟩ := h3.st1 (v := .ref x) hn rfl ho
  intro T hT X
  obtain ⟨t, a, b⟩ := k H locs ls' cells slots h1 h2 (hl ▸ h') h4 h5 T hT X
  refine ⟨t, ?_, b⟩
  have hx := hC.x
  have hb := hC.b
  jvm_step X.here [X.here.top, ↓top_set X.here.top, hx, hb, d, e', Value.isRef]
  exact a
theorem z_astore (hC : zC p R s m args c cc nL own G B mc ms fr lo) {i : Nat} {x : Nat} {lv' : hL} (d : decode cc pc = .ok (.astore i, 2)) (hn : i < nL) (ho : hok1 lv i) (hl : (lv.set i (some (.ref x))) = lv') (k : Z p l e R s m args below meth c Q G B mc ms nL S ku kv (pc + 2) lv' st) : Z p l e R s m args below meth c Q G B mc ms nL S ku kv pc lv (.ref x :: st) := by
  intro H locs ls cells slots h1 h2 h3 h4 h5
  obtain ⟨ls', e', h'⟩ := h3.st1 (v := .ref x) hn rfl ho
  intro T hT X
  obtain ⟨t, a, b⟩ := k H locs ls' cells slots h1 h2 (hl ▸ h') h4 h5 T hT X
  refine ⟨t, ?_, b⟩
  have hx := hC.x
  have hb := hC.b
  jvm_step X.here [X.here.top, ↓top_set X.here.top, hx, hb, d, e', Value.isRef]
  exact a
theorem z_qload_n (hC : zC p R s m args c cc nL own G B mc ms fr lo) {n : Fin 4} {i : Nat} {x : Option Nat} (d : decode cc pc = .ok (.aload_n n, 1)) (hi : (n : Nat) = i) (hl : lv[i]? = some (some (va_rf x))) (k : Z p l e R s m args below meth c Q G B mc ms nL S ku kv (pc + 1) lv (va_rf x :: st)) : Z p l e R s m args below meth c Q G B mc ms nL S ku kv pc lv st := by
  cases x with
  | none => exact fun H locs ls cells slots h1 h2 h3 h4 h5 => lv_aload_nN hC.x hC.b d hi (h3.at hl) (k H locs ls cells slots h1 h2 h3 h4 h5)
  | some b => exact fun H locs ls cells slots h1 h2 h3 h4 h5 => lv_aload_n hC.x hC.b d hi (h3.at hl) (k H locs ls cells slots h1 h2 h3 h4 h5)
theorem z_qload (hC : zC p R s m args c cc nL own G B mc ms fr lo) {i : Nat} {x : Option Nat} (d : decode cc pc = .ok (.aload i, 2)) (hl : lv[i]? = some (some (va_rf x))) (k : Z p l e R s m args below meth c Q G B mc ms nL S ku kv (pc + 2) lv (va_rf x :: st)) : Z p l e R s m args below meth c Q G B mc ms nL S ku kv pc lv st := by
  cases x with
  | none => exact fun H locs ls cells slots h1 h2 h3 h4 h5 => lv_aloadN hC.x hC.b d (h3.at hl) (k H locs ls cells slots h1 h2 h3 h4 h5)
  | some b => exact fun H locs ls cells slots h1 h2 h3 h4 h5 => lv_aload hC.x hC.b d (h3.at hl) (k H locs ls cells slots h1 h2 h3 h4 h5)
theorem z_iinc (hC : zC p R s m args c cc nL own G B mc ms fr lo) {i : Nat} {n : Int} {x v : Int32} {lv' : hL} (d : decode cc pc = .ok (.iinc i n, 3)) (hx : lv[i]? = some (some (.int x))) (hv : x + Int32.ofInt n = v) (hn : i < nL) (ho : hok1 lv i) (hl : lv.set i (some (.int v)) = lv') (k : Z p l e R s m args below meth c Q G B mc ms nL S ku kv (pc + 3) lv' st) : Z p l e R s m args below meth c Q G B mc ms nL S ku kv pc lv st := by
  intro H locs ls cells slots h1 h2 h3 h4 h5
  subst hv
  have hg := h3.at hx
  obtain ⟨ls', e', h'⟩ := h3.st1 (v := .int (x + Int32.ofInt n)) hn rfl ho
  intro T hT X
  obtain ⟨t, a, b⟩ := k H locs ls' cells slots h1 h2 (hl ▸ h') h4 h5 T hT X
  refine ⟨t, ?_, b⟩
  have hx := hC.x
  have hb := hC.b
  jvm_step X.here [X.here.top, ↓top_set X.here.top, hx, hb, d, hg, e']
  exact a
theorem z_mask (bs : List Bool) {lv' : hL} (hl : hmask bs lv = lv') (k : Z p l e R s m args below meth c Q G B mc ms nL S ku kv pc lv' st) : Z p l e R s m args below meth c Q G B mc ms nL S ku kv pc lv st := fun H locs ls cells slots h1 h2 h3 h4 h5 => k H locs ls cells slots h1 h2 (h3.le (fun i v h => hmask_le bs lv i v (by rw [hl]; exact h))) h4 h5
theorem z_less {ku' kv' : Nat} (h : ku' ≤ ku) (h' : kv' ≤ kv) (k : Z p l e R s m args below meth c Q G B mc ms nL S ku' kv' pc lv st) : Z p l e R s m args below meth c Q G B mc ms nL S ku kv pc lv st := fun H locs ls cells slots h1 h2 h3 h4 h5 => k H locs ls cells slots h1 h2 h3 (by omega) (by omega)
theorem z_get (hC : zC p R s m args c cc nL own G B mc ms fr lo) {ci N : Nat} {C : String} {T : u_T} {ty : Nat → FieldType} (F : hF ci C T N ty) (k : Nat) {index a : Nat} {fs : List Value} {v : Value} (hl : Cond.fieldLink own index (T k).1 (T k).2.1 (T k).2.2.1 ∈ aw_all) (d : decode cc pc = .ok (.getfield index, 3)) (hk : k < N) (hs : S a = some (.inr (ci, fs))) (hv : fs[k]? = some v) (kk : Z p l e R s m args below meth c Q G B mc ms nL S ku kv (pc + 3) lv (v :: st)) : Z p l e R s m args below meth c Q G B mc ms nL S ku kv pc lv (.ref a :: st) := by
  intro H locs ls cells slots h1 h2 h3 h4 h5
  obtain ⟨ws, hP, hD, hE⟩ := id h1
  obtain ⟨q0, hq⟩ := hE a _ hs
  exact va_get hC.x hC.b hC.w F.2.1 hC.o hC.a.1 hP q0 hq F.1 k hk (hC.w _ hl) (fun _ h => h) hv d (kk H locs ls cells slots h1 h2 h3 h4 h5)
def gI (S : hS) (a ci k : Nat) (P : Int32 → Prop) : Prop := ∃ (fs : List Value) (x : Int32), S a = some (.inr (ci, fs)) ∧ fs[k]? = some (.int x) ∧ P x
theorem z_getI (hC : zC p R s m args c cc nL own G B mc ms fr lo) {ci N : Nat} {C : String} {T : u_T} {ty : Nat → FieldType} (F : hF ci C T N ty) (k : Nat) {index a : Nat} (hl : Cond.fieldLink own index (T k).1 (T k).2.1 (T k).2.2.1 ∈ aw_all) (d : decode cc pc = .ok (.getfield index, 3)) (hk : k < N) {P : Int32 → Prop} (hw : gI S a ci k P) (kk : ∀ x : Int32, P x → Z p l e R s m args below meth c Q G B mc ms nL S ku kv (pc + 3) lv (.int x :: st)) : Z p l e R s m args below meth c Q G B mc ms nL S ku kv pc lv (.ref a :: st) := by
  obtain ⟨fs, x, h1, h2, h3⟩ := hw
  exact z_get hC F k hl d hk h1 h2 (kk x h3)
def pI (S : hS) (a ci k : Nat) (x : Int32) (P : hS → Prop) : Prop := ∃ (fs : List Value), S a = some (.inr (ci, fs)) ∧ k < fs.length ∧ P (hset S a (.inr (ci, fs.set k (.int x))))
def gJ (S : hS) (a ci k : Nat) (P : Int64 → Prop) : Prop := ∃ (fs : List Value) (x : Int64), S a = some (.inr (ci, fs)) ∧ fs[k]? = some (.long x) ∧ P x
theorem z_getJ (hC : zC p R s m args c cc nL own G B mc ms fr lo) {ci N : Nat} {C : String} {T : u_T} {ty : Nat → FieldType} (F : hF ci C T N ty) (k : Nat) {index a : Nat} (hl : Cond.fieldLink own index (T k).1 (T k).2.1 (T k).2.2.1 ∈ aw_all) (d : decode cc pc = .ok (.getfield index, 3)) (hk : k < N) {P : Int64 → Prop} (hw : gJ S a ci k P) (kk : ∀ x : Int64, P x → Z p l e R s m args below meth c Q G B mc ms nL S ku kv (pc + 3) lv (.long x :: st)) : Z p l e R s m args below meth c Q G B mc ms nL S ku kv pc lv (.ref a :: st) := by
  obtain ⟨fs, x, h1, h2, h3⟩ := hw
  exact z_get hC F k hl d hk h1 h2 (kk x h3)
def pJ (S : hS) (a ci k : Nat) (x : Int64) (P : hS → Prop) : Prop := ∃ (fs : List Value), S a = some (.inr (ci, fs)) ∧ k < fs.length ∧ P (hset S a (.inr (ci, fs.set k (.long x))))
def gP (S : hS) (a ci k : Nat) (P : Nat → Prop) : Prop := ∃ (fs : List Value) (x : Nat), S a = some (.inr (ci, fs)) ∧ fs[k]? = some (.ref x) ∧ P x
theorem z_getP (hC : zC p R s m args c cc nL own G B mc ms fr lo) {ci N : Nat} {C : String} {T : u_T} {ty : Nat → FieldType} (F : hF ci C T N ty) (k : Nat) {index a : Nat} (hl : Cond.fieldLink own index (T k).1 (T k).2.1 (T k).2.2.1 ∈ aw_all) (d : decode cc pc = .ok (.getfield index, 3)) (hk : k < N) {P : Nat → Prop} (hw : gP S a ci k P) (kk : ∀ x : Nat, P x → Z p l e R s m args below meth c Q G B mc ms nL S ku kv (pc + 3) lv (.ref x :: st)) : Z p l e R s m args below meth c Q G B mc ms nL S ku kv pc lv (.ref a :: st) := by
  obtain ⟨fs, x, h1, h2, h3⟩ := hw
  exact z_get hC F k hl d hk h1 h2 (kk x h3)
def pP (S : hS) (a ci k : Nat) (x : Nat) (P : hS → Prop) : Prop := ∃ (fs : List Value), S a = some (.inr (ci, fs)) ∧ k < fs.length ∧ P (hset S a (.inr (ci, fs.set k (.ref x))))
theorem z_put (hC : zC p R s m args c cc nL own G B mc ms fr lo) {ci N : Nat} {C : String} {T : u_T} {ty : Nat → FieldType} (F : hF ci C T N ty) (k : Nat) {index a : Nat} {fs : List Value} {v : Value} (hl : Cond.fieldLink own index (T k).1 (T k).2.1 (T k).2.2.1 ∈ aw_all) (d : decode cc pc = .ok (.putfield index, 3)) (hk : k < N) (hfin : (T k).2.2.2 = false) (hn : narrow (ty k) v = v) (hfit : fits (ty k) v = true) (hs : S a = some (.inr (ci, fs))) (hlen : k < fs.length) (kk : Z p l e R s m args below meth c Q G B mc ms nL (hset S a (.inr (ci, fs.set k v))) ku kv (pc + 3) lv st) : Z p l e R s m args below meth c Q G B mc ms nL S ku kv pc lv (v :: .ref a :: st) := by
  intro H locs ls cells slots h1 h2 h3 h4 h5
  obtain ⟨ws, hP, hD, hE⟩ := id h1
  obtain ⟨q0, hq⟩ := hE a _ hs
  exact va_put hC.x hC.b hC.w F.2.1 ty F.2.2.1 F.2.2.2 hC.o hC.a.1 hP hD h2 q0 hq F.1 k hk (hC.w _ hl) (fun _ h => h) hfin (F.2.2.1 k hk) hn hfit hlen d (fun H1 locs1 hP1 hD1 hS1 => kk H1 locs1 ls cells slots (Hold.upd (e1 := .inr (ci, fs.set k v)) hE hq hP1 hD1) hS1 h3 h4 h5)
theorem z_putF (hC : zC p R s m args c cc nL own G B mc ms fr lo) {ci N : Nat} {C : String} {T : u_T} {ty : Nat → FieldType} (F : hF ci C T N ty) (k : Nat) {index a : Nat} {fs : List Value} {v : Value} (hl : Cond.fieldLink own index (T k).1 (T k).2.1 (T k).2.2.1 ∈ aw_all) (d : decode cc pc = .ok (.putfield index, 3)) (hk : k < N) (hfin : (T k).2.2.2 = true) (hin2 : meth.name = "<init>") (hdecl : (T k).1 = own) (hn : narrow (ty k) v = v) (hfit : fits (ty k) v = true) (hs : S a = some (.inr (ci, fs))) (hlen : k < fs.length) (kk : Z p l e R s m args below meth c Q G B mc ms nL (hset S a (.inr (ci, fs.set k v))) ku kv (pc + 3) lv st) : Z p l e R s m args below meth c Q G B mc ms nL S ku kv pc lv (v :: .ref a :: st) := by
  intro H locs ls cells slots h1 h2 h3 h4 h5
  obtain ⟨ws, hP, hD, hE⟩ := id h1
  obtain ⟨q0, hq⟩ := hE a _ hs
  exact va_putF hC.x hC.b hC.w F.2.1 ty F.2.2.1 F.2.2.2 hC.o hC.a.1 hP hD h2 q0 hq F.1 k hk (hC.w _ hl) (fun _ h => h) hfin hin2 hdecl (F.2.2.1 k hk) hn hfit hlen d (fun H1 locs1 hP1 hD1 hS1 => kk H1 locs1 ls cells slots (Hold.upd (e1 := .inr (ci, fs.set k v)) hE hq hP1 hD1) hS1 h3 h4 h5)
def aI (S : hS) (a : Nat) (i : Int32) (P : Int32 → Prop) : Prop := ∃ (n : Nat) (f : Nat → Int32), S a = some (.inl (0, n, .inl f)) ∧ vp_in i n ∧ P (f i.toNatClampNeg)
theorem z_aldI (hC : zC p R s m args c cc nL own G B mc ms fr lo) {a : Nat} {i : Int32} (d : decode cc pc = .ok (.iaload, 1)) {P : Int32 → Prop} (hw : aI S a i P) (kk : ∀ x : Int32, P x → Z p l e R s m args below meth c Q G B mc ms nL S ku kv (pc + 1) lv (.int x :: st)) : Z p l e R s m args below meth c Q G B mc ms nL S ku kv pc lv (.int i :: .ref a :: st) := by
  intro H locs ls cells slots h1 h2 h3 h4 h5
  obtain ⟨n, f, g1, g2, g3⟩ := hw
  obtain ⟨ws, hP, hD, hE⟩ := id h1
  obtain ⟨q0, hq⟩ := hE a _ g1
  exact va_iald hC.x hC.b hC.a.1 hP q0 0 hq rfl g2 d (kk _ g3 H locs ls cells slots h1 h2 h3 h4 h5)
def sI (S : hS) (a : Nat) (i : Int32) (x : Int32) (P : hS → Prop) : Prop := ∃ (n : Nat) (f : Nat → Int32), S a = some (.inl (0, n, .inl f)) ∧ vp_in i n ∧ P (hset S a (.inl (0, n, .inl (upd f i.toNatClampNeg x))))
theorem z_astI (hC : zC p R s m args c cc nL own G B mc ms fr lo) {a : Nat} {i : Int32} {x : Int32} (d : decode cc pc = .ok (.iastore, 1)) {P : hS → Prop} (hw : sI S a i x P) (kk : ∀ S : hS, P S → Z p l e R s m args below meth c Q G B mc ms nL S ku kv (pc + 1) lv st) : Z p l e R s m args below meth c Q G B mc ms nL S ku kv pc lv (.int x :: .int i :: .ref a :: st) := by
  intro H locs ls cells slots h1 h2 h3 h4 h5
  obtain ⟨n, f, g1, g2, g3⟩ := hw
  obtain ⟨ws, hP, hD, hE⟩ := id h1
  obtain ⟨q0, hq⟩ := hE a _ g1
  exact va_iast hC.x hC.b hC.a.1 hP hD h2 q0 0 hq rfl g2 d (fun H1 locs1 hP1 hD1 hS1 => kk _ g3 H1 locs1 ls cells slots (Hold.upd (e1 := (.inl (0, n, .inl (upd f i.toNatClampNeg x)))) hE hq hP1 hD1) hS1 h3 h4 h5)
def aJ (S : hS) (a : Nat) (i : Int32) (P : Int64 → Prop) : Prop := ∃ (n : Nat) (f : Nat → Int64), S a = some (.inl (1, n, .inr (.inl f))) ∧ vp_in i n ∧ P (f i.toNatClampNeg)
theorem z_aldJ (hC : zC p R s m args c cc nL own G B mc ms fr lo) {a : Nat} {i : Int32} (d : decode cc pc = .ok (.laload, 1)) {P : Int64 → Prop} (hw : aJ S a i P) (kk : ∀ x : Int64, P x → Z p l e R s m args below meth c Q G B mc ms nL S ku kv (pc + 1) lv (.long x :: st)) : Z p l e R s m args below meth c Q G B mc ms nL S ku kv pc lv (.int i :: .ref a :: st) := by
  intro H locs ls cells slots h1 h2 h3 h4 h5
  obtain ⟨n, f, g1, g2, g3⟩ := hw
  obtain ⟨ws, hP, hD, hE⟩ := id h1
  obtain ⟨q0, hq⟩ := hE a _ g1
  exact va_lald hC.x hC.b hC.a.1 hP q0 1 hq rfl g2 d (kk _ g3 H locs ls cells slots h1 h2 h3 h4 h5)
def sJ (S : hS) (a : Nat) (i : Int32) (x : Int64) (P : hS → Prop) : Prop := ∃ (n : Nat) (f : Nat → Int64), S a = some (.inl (1, n, .inr (.inl f))) ∧ vp_in i n ∧ P (hset S a (.inl (1, n, .inr (.inl (vp_updL f i.toNatClampNeg x)))))
theorem z_astJ (hC : zC p R s m args c cc nL own G B mc ms fr lo) {a : Nat} {i : Int32} {x : Int64} (d : decode cc pc = .ok (.lastore, 1)) {P : hS → Prop} (hw : sJ S a i x P) (kk : ∀ S : hS, P S → Z p l e R s m args below meth c Q G B mc ms nL S ku kv (pc + 1) lv st) : Z p l e R s m args below meth c Q G B mc ms nL S ku kv pc lv (.long x :: .int i :: .ref a :: st) := by
  intro H locs ls cells slots h1 h2 h3 h4 h5
  obtain ⟨n, f, g1, g2, g3⟩ := hw
  obtain ⟨ws, hP, hD, hE⟩ := id h1
  obtain ⟨q0, hq⟩ := hE a _ g1
  exact va_last hC.x hC.b hC.a.1 hP hD h2 q0 1 hq rfl g2 d (fun H1 locs1 hP1 hD1 hS1 => kk _ g3 H1 locs1 ls cells slots (Hold.upd (e1 := (.inl (1, n, .inr (.inl (vp_updL f i.toNatClampNeg x))))) hE hq hP1 hD1) hS1 h3 h4 h5)
def aZ (S : hS) (a : Nat) (i : Int32) (P : Int32 → Prop) : Prop := ∃ (n : Nat) (f : Nat → Int32), S a = some (.inl (2, n, .inl f)) ∧ vp_in i n ∧ P (f i.toNatClampNeg)
theorem z_aldZ (hC : zC p R s m args c cc nL own G B mc ms fr lo) {a : Nat} {i : Int32} (d : decode cc pc = .ok (.baload, 1)) {P : Int32 → Prop} (hw : aZ S a i P) (kk : ∀ x : Int32, P x → Z p l e R s m args below meth c Q G B mc ms nL S ku kv (pc + 1) lv (.int x :: st)) : Z p l e R s m args below meth c Q G B mc ms nL S ku kv pc lv (.int i :: .ref a :: st) := by
  intro H locs ls cells slots h1 h2 h3 h4 h5
  obtain ⟨n, f, g1, g2, g3⟩ := hw
  obtain ⟨ws, hP, hD, hE⟩ := id h1
  obtain ⟨q0, hq⟩ := hE a _ g1
  exact va_zald hC.x hC.b hC.a.1 hP q0 2 hq rfl g2 d (kk _ g3 H locs ls cells slots h1 h2 h3 h4 h5)
def sZ (S : hS) (a : Nat) (i : Int32) (x : Int32) (P : hS → Prop) : Prop := ∃ (n : Nat) (f : Nat → Int32), S a = some (.inl (2, n, .inl f)) ∧ vp_in i n ∧ P (hset S a (.inl (2, n, .inl (upd f i.toNatClampNeg (vp_nar .boolean x)))))
theorem z_astZ (hC : zC p R s m args c cc nL own G B mc ms fr lo) {a : Nat} {i : Int32} {x : Int32} (d : decode cc pc = .ok (.bastore, 1)) {P : hS → Prop} (hw : sZ S a i x P) (kk : ∀ S : hS, P S → Z p l e R s m args below meth c Q G B mc ms nL S ku kv (pc + 1) lv st) : Z p l e R s m args below meth c Q G B mc ms nL S ku kv pc lv (.int x :: .int i :: .ref a :: st) := by
  intro H locs ls cells slots h1 h2 h3 h4 h5
  obtain ⟨n, f, g1, g2, g3⟩ := hw
  obtain ⟨ws, hP, hD, hE⟩ := id h1
  obtain ⟨q0, hq⟩ := hE a _ g1
  exact va_zast hC.x hC.b hC.a.1 hP hD h2 q0 2 hq rfl g2 d (fun H1 locs1 hP1 hD1 hS1 => kk _ g3 H1 locs1 ls cells slots (Hold.upd (e1 := (.inl (2, n, .inl (upd f i.toNatClampNeg (vp_nar .boolean x))))) hE hq hP1 hD1) hS1 h3 h4 h5)
def aN (S : hS) (a : Nat) (P : Int32 → Prop) : Prop := ∃ (kd : Nat) (x : vp_A), S a = some (.inl (kd, x)) ∧ kd < 6 ∧ P (Int32.ofNat x.1)
theorem htys_at (G : hG) : ∀ kd, kd < 6 → ∃ ty, (htys G)[kd]? = some (G.2.1 kd, ty) := by
  intro kd h
  match kd, h with
  | 0, _ => exact ⟨_, rfl⟩
  | 1, _ => exact ⟨_, rfl⟩
  | 2, _ => exact ⟨_, rfl⟩
  | 3, _ => exact ⟨_, rfl⟩
  | 4, _ => exact ⟨_, rfl⟩
  | 5, _ => exact ⟨_, rfl⟩
theorem z_alen (hC : zC p R s m args c cc nL own G B mc ms fr lo) {a : Nat} (d : decode cc pc = .ok (.arraylength, 1)) {P : Int32 → Prop} (hw : aN S a P) (kk : ∀ x : Int32, P x → Z p l e R s m args below meth c Q G B mc ms nL S ku kv (pc + 1) lv (.int x :: st)) : Z p l e R s m args below meth c Q G B mc ms nL S ku kv pc lv (.ref a :: st) := by
  intro H locs ls cells slots h1 h2 h3 h4 h5
  obtain ⟨kd, x, g1, g2, g3⟩ := hw
  obtain ⟨ws, hP, hD, hE⟩ := id h1
  obtain ⟨q0, hq⟩ := hE a _ g1
  obtain ⟨ty, ht⟩ := htys_at G kd g2
  exact va_alen hC.x hC.b hC.a.1 hP q0 kd hq ht rfl d (kk _ g3 H locs ls cells slots h1 h2 h3 h4 h5)
def aR (S : hS) (kd : Nat) (a : Nat) (i : Int32) (P : Option Nat → Prop) : Prop := ∃ (n : Nat) (f : Nat → Option Nat), S a = some (.inl (kd, n, .inr (.inr (.inr (.inr f))))) ∧ vp_in i n ∧ P (f i.toNatClampNeg)
theorem z_aldR (hC : zC p R s m args c cc nL own G B mc ms fr lo) {a kd : Nat} {i : Int32} {C : String} (d : decode cc pc = .ok (.aaload, 1)) {P : Option Nat → Prop} (hw : aR S kd a i P) (ht : (htys G)[kd]? = some (G.2.1 kd, .object C)) (kk : ∀ x : Option Nat, P x → Z p l e R s m args below meth c Q G B mc ms nL S ku kv (pc + 1) lv (va_rf x :: st)) : Z p l e R s m args below meth c Q G B mc ms nL S ku kv pc lv (.int i :: .ref a :: st) := by
  intro H locs ls cells slots h1 h2 h3 h4 h5
  obtain ⟨n, f, g1, g2, g3⟩ := hw
  obtain ⟨ws, hP, hD, hE⟩ := id h1
  obtain ⟨q0, hq⟩ := hE a _ g1
  exact va_aldq hC.x hC.b hC.a.1 hP q0 kd hq ht g2 d (kk _ g3 H locs ls cells slots h1 h2 h3 h4 h5)
def sR (S : hS) (kd : Nat) (a : Nat) (i : Int32) (x : Option Nat) (P : hS → Prop) : Prop := ∃ (n : Nat) (f : Nat → Option Nat), S a = some (.inl (kd, n, .inr (.inr (.inr (.inr f))))) ∧ vp_in i n ∧ P (hset S a (.inl (kd, n, .inr (.inr (.inr (.inr (va_up f i.toNatClampNeg x)))))))
theorem z_astR (hC : zC p R s m args c cc nL own G B mc ms fr lo) {a kd ci : Nat} {i : Int32} {x : Option Nat} {r : vw_C} (d : decode cc pc = .ok (.aastore, 1)) {P : hS → Prop} (hw : sR S kd a i x P) (ht : (htys G)[kd]? = some (G.2.1 kd, .object r.1)) (hc : vwCl[ci]? = some r) (hx : ∀ v, x = some v → ∃ vs, S v = some (.inr (ci, vs))) (kk : ∀ S : hS, P S → Z p l e R s m args below meth c Q G B mc ms nL S ku kv (pc + 1) lv st) : Z p l e R s m args below meth c Q G B mc ms nL S ku kv pc lv (va_rf x :: .int i :: .ref a :: st) := by
  intro H locs ls cells slots h1 h2 h3 h4 h5
  obtain ⟨n, f, g1, g2, g3⟩ := hw
  obtain ⟨ws, hP, hD, hE⟩ := id h1
  obtain ⟨q0, hq⟩ := hE a _ g1
  cases x with
  | none => exact va_astqN (C := r.1) hC.x hC.b hC.a.1 hP hD h2 q0 kd hq ht g2 d (fun H1 locs1 hP1 hD1 hS1 => kk _ g3 H1 locs1 ls cells slots (Hold.upd (e1 := .inl (kd, n, .inr (.inr (.inr (.inr (va_up f i.toNatClampNeg none)))))) hE hq hP1 hD1) hS1 h3 h4 h5)
  | some v =>
    obtain ⟨vs, hv⟩ := hx v rfl
    obtain ⟨qk, hqk⟩ := hE v _ hv
    exact va_astq hC.x hC.b hC.a.1 hP hD h2 q0 kd qk ci hq ht hqk hc g2 d (fun H1 locs1 hP1 hD1 hS1 => kk _ g3 H1 locs1 ls cells slots (Hold.upd (e1 := .inl (kd, n, .inr (.inr (.inr (.inr (va_up f i.toNatClampNeg (some v))))))) hE hq hP1 hD1) hS1 h3 h4 h5)
end ZS
