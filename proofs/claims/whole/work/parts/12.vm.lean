-- A METHOD'S CONTRACT over the world, and the judgement of a walk
def rmd (d : Nat) : Room := { frames := d, cells := 0, slots := 0, locals := 48 * d }
def wsm (X : md) : List Cond := .code X.1 X.2.1 X.2.2.1 X.2.2.2 :: tg
def wdS (D : va_G) (cA : Nat → ClassId) (ad : Nat → Nat → Nat) (M : mm × mm) (U : State) : Prop :=
  va_P D vwCl (wl cA ad M) U.heap ∧ va_K D vwCl (tysw cA) U ∧ va_D (Aw ad) (wl cA ad M) ∧ xt (Aw ad) ad U U.heap
def Pcm (D : va_G) (cA : Nat → ClassId) (ad : Nat → Nat → Nat) (as : List mv) (M : mm × mm) : Array Value → State → Prop := fun v U => v = (as.map (tv ad)).toArray ∧ wdS D cA ad M U
def Qcm (D : va_G) (cA : Nat → ClassId) (ad : Nat → Nat → Nat) (r : Option mv) (M : mm × mm) : Array Value → State → Outcome → State → Prop := fun _ st oc t => oc = .returned (r.map (tv ad)) ∧ va_P D vwCl (wl cA ad M) t.heap ∧ va_F (Aw ad) st t
/-- the method of X, from the memory M, with these arguments, returns r, and the memory is M' -/
def Cx (X : md) (d : Nat) (as : List mv) (M : mm × mm) (r : Option mv) (M' : mm × mm) : Prop :=
  ∀ (l : Launch) (D : va_G) (cA : Nat → ClassId) (ad : Nat → Nat → Nat), Met l X.1 (wsm X) (rmd d) (Pcm D cA ad as M) (Qcm D cA ad r M') 0 0 (Aw ad)
/-- a walk's surroundings -/
def ctx (X : md) (d : Nat) (p : Program) (R : Room) (s : State) (m : MethodId) (args : Array Value) (meth : Method) (c : Code) (D : va_G) (cA : Nat → ClassId) (ad : Nat → Nat → Nat) : Prop :=
  p.tables.exec = Jvm.exec ∧ c.code = X.2.1 ∧ c.maxLocals = X.2.2.1 ∧ s.vm.findClass X.1.cls = some m.cls ∧ (∀ w ∈ wsm X, w.before args s = true) ∧ meth.sig.returnType = X.2.2.2 ∧ meth.locks = false ∧ R = rmd d ∧ va_K D vwCl (tysw cA) s ∧ xt (Aw ad) ad s s.heap
def lm (ad : Nat → Nat → Nat) (lv : List (Nat × mv)) : List (Nat × Value) := lv.map (fun q => (q.1, tv ad q.2))
/-- the walk at pc, with these locals, this stack, this memory, comes to the method's end with r and M' -/
def Vm (X : md) (d pc : Nat) (lv : List (Nat × mv)) (st : List mv) (M : mm × mm) (r : Option mv) (M' : mm × mm) : Prop :=
  ∀ (p : Program) (l : Launch) (e : Env) (R : Room) (s : State) (m : MethodId) (args : Array Value) (below : List Frame) (meth : Method) (c : Code) (D : va_G) (cA : Nat → ClassId) (ad : Nat → Nat → Nat) (H : Heap) (locs : List Loc) (ls : Array Slot),
    ctx X d p R s m args meth c D cA ad → va_P D vwCl (wl cA ad M) H → va_D (Aw ad) (wl cA ad M) → va_S (Aw ad) s.heap H locs → lv_has ls X.2.2.1 (lm ad lv) →
    W p l e R s m args below meth c H locs 0 0 (MQ below (Qcm D cA ad r M') args s 0 0 (Aw ad)) (F0 m pc ls (st.map (tv ad)))
theorem Pcm_blind {D : va_G} {cA : Nat → ClassId} {ad : Nat → Nat → Nat} {as : List mv} {M : mm × mm} : FrameBlind (Pcm D cA ad as M) := by
  intro a U g mk h
  obtain ⟨h1, h2, h3, h4, h5⟩ := h
  exact ⟨h1, h2, va_K.moved (u := U) (U := U.calling g mk a) (Vm.Alike.refl U.vm) h3, h4, xt.vm (s := U) rfl h5⟩
theorem lm_at {ad : Nat → Nat → Nat} {lv : List (Nat × mv)} {k i : Nat} {v : mv} (h : lv[k]? = some (i, v)) : (lm ad lv)[k]? = some (i, tv ad v) := by
  unfold lm
  rw [List.getElem?_map, h]
  rfl
/-- a contract out of a walk from the method's entry -/
theorem Cx.of {X : md} {d : Nat} {as : List mv} {M M' : mm × mm} {r : Option mv} {lv : List (Nat × mv)} (hy : plainName X.1.cls = true)
    (hlen : ∀ ad, (lg_sl (as.map (tv ad))).length ≤ X.2.2.1) (hlv : ∀ ad, lv_args 0 (as.map (tv ad)) = lm ad lv) (k : Vm X d 0 lv [] M r M') : Cx X d as M r M' := by
  intro l D cA ad
  refine Met.ofW (cc := X.2.1) (maxL := X.2.2.1) (ret := X.2.2.2) hy rfl ?_
  intro p e s m args below meth c s₁ B hml hv
  obtain ⟨rfl, hP, hK, hD, hE⟩ := hv
  have hl := lv_entry (as.map (tv ad)) (n := X.2.2.1) (hlen ad)
  rw [lg_entry_eq]
  generalize (lg_sl (as.map (tv ad)) ++ List.replicate (X.2.2.1 - (lg_sl (as.map (tv ad))).length) Slot.unset).toArray = ls at hl ⊢
  rw [hlv ad] at hl
  exact k p l e _ s m _ below meth c D cA ad s.heap [] ls ⟨B.exec, B.bytes, hml, findClass_of_methodNamed B.named, atoms_spec (ws := wsm X) B.pre, B.returns, B.notSynchronized, rfl, hK, hE⟩ hP hD va_S.rf hl
section VR
variable {X : md} {d pc n : Nat} {lv lv' : List (Nat × mv)} {st : List mv} {M M' : mm × mm} {r : Option mv}
theorem Vm.sub (ks : List Nat) (hl : ks.filterMap (fun k => lv[k]?) = lv') (k : Vm X d pc lv' st M r M') : Vm X d pc lv st M r M' := by
  intro p l e R s m args below meth c D cA ad H locs ls C hP hD hS hl0
  refine k p l e R s m args below meth c D cA ad H locs ls C hP hD hS (lv_sub hl0 ks ?_)
  unfold lv_pick lm
  rw [← hl, List.map_filterMap]
  congr 1
  funext i
  rw [List.getElem?_map]
theorem Vm.top {x y : Int32} (h : x = y) (k : Vm X d pc lv (.inl y :: st) M r M') : Vm X d pc lv (.inl x :: st) M r M' := by
  subst h
  exact k
theorem Vm.topl {x y : Int64} (h : x = y) (k : Vm X d pc lv (.inr (.inl y) :: st) M r M') : Vm X d pc lv (.inr (.inl x) :: st) M r M' := by
  subst h
  exact k
theorem Vm.iconst {z : Int} {v : Int32} (hd : decode X.2.1 pc = .ok (.iconst z, 1)) (hn : pc + 1 = n) (hv : Int32.ofInt z = v) (k : Vm X d n lv (.inl v :: st) M r M') : Vm X d pc lv st M r M' := by
  subst hn
  intro p l e R s m args below meth c D cA ad H locs ls C hP hD hS hl0
  exact lv_iconst C.1 C.2.1 hd hv (k p l e R s m args below meth c D cA ad H locs ls C hP hD hS hl0)
end VR
