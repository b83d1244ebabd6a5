theorem hok_0 {lv : hL} : hok1 lv 0 := trivial
theorem hok_n {lv : hL} {i : Nat} (h : lv[i]? = some none) : hok1 lv (i + 1) := fun w hw => by rw [h] at hw; cases hw
theorem hok_v {lv : hL} {i : Nat} {v : Value} (h : lv[i]? = some (some v)) (hc : v.category = 1) : hok1 lv (i + 1) := fun w hw => by rw [h] at hw; cases hw; exact hc
theorem va_rf_cat (r : Option Nat) : (va_rf r).category = 1 := by cases r <;> rfl
theorem hz01 {x : Int32} (h : x = 0 ∨ x = 1) : narrow .boolean (.int x) = .int x ∧ fits .boolean (.int x) = true := by
  rcases h with rfl | rfl
  · exact ⟨by decide, by decide⟩
  · exact ⟨by decide, by decide⟩
def oK (S : hS) (b ci : Nat) : Prop := ∃ fs, S b = some (.inr (ci, fs))
def pZ (S : hS) (a ci k : Nat) (x : Int32) (P : hS → Prop) : Prop := (x = 0 ∨ x = 1) ∧ pI S a ci k x P
def dQ (r : Option Nat) (P : Nat → Prop) : Prop := ∃ b, r = some b ∧ P b
section ZU
variable {p : Program} {l : Launch} {e : Env} {R : Room} {s : State} {m : MethodId} {args : Array Value} {below : List Frame} {meth : Method} {c : Code} {Q : State → Prop} {G : hG} {B mc ms nL fr lo : Nat} {cc : ByteArray} {own : String} {S : hS} {ku kv pc : Nat} {lv : hL} {st : List Value}
theorem z_nmI {x : Int32} (k : ∀ y : Int32, y = x → Z p l e R s m args below meth c Q G B mc ms nL S ku kv pc lv (.int y :: st)) : Z p l e R s m args below meth c Q G B mc ms nL S ku kv pc lv (.int x :: st) := k x rfl
theorem z_nmJ {x : Int64} (k : ∀ y : Int64, y = x → Z p l e R s m args below meth c Q G B mc ms nL S ku kv pc lv (.long y :: st)) : Z p l e R s m args below meth c Q G B mc ms nL S ku kv pc lv (.long x :: st) := k x rfl
theorem z_inc (hC : zC p R s m args c cc nL own G B mc ms fr lo) {i : Nat} {n : Int} {x w : Int32} (hw : Int32.ofInt n = w) (d : decode cc pc = .ok (.iinc i n, 3)) (hx : lv[i]? = some (some (.int x))) (hn : i < nL) (ho : hok1 lv i) (k : ∀ y : Int32, y = x + w → Z p l e R s m args below meth c Q G B mc ms nL S ku kv (pc + 3) (lv.set i (some (.int y))) st) : Z p l e R s m args below meth c Q G B mc ms nL S ku kv pc lv st := z_iinc (v := x + w) hC d hx (by rw [hw]) hn ho rfl (k (x + w) rfl)
theorem z_putI (hC : zC p R s m args c cc nL own G B mc ms fr lo) {ci N : Nat} {C : String} {T : u_T} {ty : Nat → FieldType} (F : hF ci C T N ty) (k : Nat) {index a : Nat} {x : Int32} (hl : Cond.fieldLink own index (T k).1 (T k).2.1 (T k).2.2.1 ∈ aw_all) (d : decode cc pc = .ok (.putfield index, 3)) (hk : k < N) (hfin : (T k).2.2.2 = false) (hty : ty k = .int) {P : hS → Prop} (hw : pI S a ci k x P) (kk : ∀ S : hS, P S → Z p l e R s m args below meth c Q G B mc ms nL S ku kv (pc + 3) lv st) : Z p l e R s m args below meth c Q G B mc ms nL S ku kv pc lv (.int x :: .ref a :: st) := by
  obtain ⟨fs, h1, h2, h3⟩ := hw
  exact z_put hC F k hl d hk hfin (by rw [hty]; rfl) (by rw [hty]; rfl) h1 h2 (kk _ h3)
theorem z_putJ (hC : zC p R s m args c cc nL own G B mc ms fr lo) {ci N : Nat} {C : String} {T : u_T} {ty : Nat → FieldType} (F : hF ci C T N ty) (k : Nat) {index a : Nat} {x : Int64} (hl : Cond.fieldLink own index (T k).1 (T k).2.1 (T k).2.2.1 ∈ aw_all) (d : decode cc pc = .ok (.putfield index, 3)) (hk : k < N) (hfin : (T k).2.2.2 = false) (hty : ty k = .long) {P : hS → Prop} (hw : pJ S a ci k x P) (kk : ∀ S : hS, P S → Z p l e R s m args below meth c Q G B mc ms nL S ku kv (pc + 3) lv st) : Z p l e R s m args below meth c Q G B mc ms nL S ku kv pc lv (.long x :: .ref a :: st) := by
  obtain ⟨fs, h1, h2, h3⟩ := hw
  exact z_put hC F k hl d hk hfin (by rw [hty]; rfl) (by rw [hty]; rfl) h1 h2 (kk _ h3)
theorem z_putZ (hC : zC p R s m args c cc nL own G B mc ms fr lo) {ci N : Nat} {C : String} {T : u_T} {ty : Nat → FieldType} (F : hF ci C T N ty) (k : Nat) {index a : Nat} {x : Int32} (hl : Cond.fieldLink own index (T k).1 (T k).2.1 (T k).2.2.1 ∈ aw_all) (d : decode cc pc = .ok (.putfield index, 3)) (hk : k < N) (hfin : (T k).2.2.2 = false) (hty : ty k = .boolean) {P : hS → Prop} (hw : pZ S a ci k x P) (kk : ∀ S : hS, P S → Z p l e R s m args below meth c Q G B mc ms nL S ku kv (pc + 3) lv st) : Z p l e R s m args below meth c Q G B mc ms nL S ku kv pc lv (.int x :: .ref a :: st) := by
  obtain ⟨hx, fs, h1, h2, h3⟩ := hw
  exact z_put hC F k hl d hk hfin (by rw [hty]; exact (hz01 hx).1) (by rw [hty]; exact (hz01 hx).2) h1 h2 (kk _ h3)
theorem z_putPF (hC : zC p R s m args c cc nL own G B mc ms fr lo) {ci N : Nat} {C : String} {T : u_T} {ty : Nat → FieldType} (F : hF ci C T N ty) (k : Nat) {index a x : Nat} (hl : Cond.fieldLink own index (T k).1 (T k).2.1 (T k).2.2.1 ∈ aw_all) (d : decode cc pc = .ok (.putfield index, 3)) (hk : k < N) (hfin : (T k).2.2.2 = true) (hin2 : meth.name = "<init>") (hdecl : (T k).1 = own) (hn : narrow (ty k) (.ref x) = .ref x) (hfit : fits (ty k) (.ref x) = true) {P : hS → Prop} (hw : pP S a ci k x P) (kk : ∀ S : hS, P S → Z p l e R s m args below meth c Q G B mc ms nL S ku kv (pc + 3) lv st) : Z p l e R s m args below meth c Q G B mc ms nL S ku kv pc lv (.ref x :: .ref a :: st) := by
  obtain ⟨fs, h1, h2, h3⟩ := hw
  exact z_putF hC F k hl d hk hfin hin2 hdecl hn hfit h1 h2 (kk _ h3)
theorem kI {q : Int32 → hS → Prop} (kk : ∀ (x : Int32) (S : hS), q x S → Z p l e R s m args below meth c Q G B mc ms nL S ku kv pc lv (.int x :: st)) : ∀ (r : Option Value) (S : hS), iP q r S → Z p l e R s m args below meth c Q G B mc ms nL S ku kv pc lv (r.toList ++ st) := by
  rintro r S ⟨x, rfl, h⟩
  exact kk x S h
theorem kJ {q : Int64 → hS → Prop} (kk : ∀ (x : Int64) (S : hS), q x S → Z p l e R s m args below meth c Q G B mc ms nL S ku kv pc lv (.long x :: st)) : ∀ (r : Option Value) (S : hS), jP q r S → Z p l e R s m args below meth c Q G B mc ms nL S ku kv pc lv (r.toList ++ st) := by
  rintro r S ⟨x, rfl, h⟩
  exact kk x S h
theorem kR {q : Option Nat → hS → Prop} (kk : ∀ (x : Option Nat) (S : hS), q x S → Z p l e R s m args below meth c Q G B mc ms nL S ku kv pc lv (va_rf x :: st)) : ∀ (r : Option Value) (S : hS), rP q r S → Z p l e R s m args below meth c Q G B mc ms nL S ku kv pc lv (r.toList ++ st) := by
  rintro r S ⟨x, rfl, h⟩
  exact kk x S h
theorem kV {q : hS → Prop} (kk : ∀ (S : hS), q S → Z p l e R s m args below meth c Q G B mc ms nL S ku kv pc lv st) : ∀ (r : Option Value) (S : hS), vP q r S → Z p l e R s m args below meth c Q G B mc ms nL S ku kv pc lv (r.toList ++ st) := by
  rintro r S ⟨rfl, h⟩
  exact kk S h
end ZU
theorem hMet {l : Launch} {y : MethodName} {rm : Room} {cc : ByteArray} {maxL : Nat} {ret : Option FieldType} {G : hG} {B : Nat} {S : hS} {av : List Value} {φ : Prop} {post : Option Value → hS → Prop} {lv : hL} {fr lo : Nat} {own : String} (hy : plainName y.cls = true) (how : y.cls = own) (hfr : fr = rm.frames) (hlo : lo = rm.locals) (hlen : (lg_sl av).length ≤ maxL)
    (hlv0 : hprs 0 lv = lv_args 0 av)
    (body : φ → ∀ (p : Program) (e : Env) (R : Room) (s : State) (m : MethodId) (args : Array Value) (below : List Frame) (meth : Method) (c : Code), zC p R s m args c cc maxL own G B rm.cells rm.slots fr lo → meth.sig.returnType = ret → meth.locks = false → meth.name = y.name →
      Z p l e R s m args below meth c (MQ below (hQ G B post) args s rm.cells rm.slots (fun q => B ≤ q)) G B rm.cells rm.slots maxL S rm.cells rm.slots 0 lv []) : Met l y (hws y cc maxL ret) rm (hPc G B S av φ) (hQ G B post) rm.cells rm.slots (fun q => B ≤ q) := by
  refine Met.ofW (cc := cc) (maxL := maxL) (ret := ret) hy rfl ?_
  intro p e s m args below meth c s₁ Bd hml hv
  obtain ⟨rfl, hH, hA, hφ⟩ := hv
  have hts := atoms_spec (ws := hws y cc maxL ret) Bd.pre
  have hown : s.vm.findClass own = some m.cls := by rw [← how]; exact findClass_of_methodNamed Bd.named
  have hl := lv_entry av (n := maxL) hlen
  rw [lg_entry_eq]
  refine body hφ p e _ s m _ below meth c ⟨Bd.exec, Bd.bytes, hml, hown, fun w hw => hts w (List.mem_cons_of_mem _ hw), hA, Nat.le_refl _, Nat.le_refl _, by rw [hfr]; exact Nat.le_refl _, by rw [hlo]; exact Nat.le_refl _⟩ Bd.returns Bd.notSynchronized (name_of_methodNamed Bd.named Bd.method).1 s.heap [] _ 0 0 hH va_S.rf ⟨hl.1, hl.2.1, fun q hq => hl.2.2 q ?_⟩ (by omega) (by omega)
  rw [← hlv0]
  exact hq
