-- THE MAKING: a world whose cells lie in a row, from b on; a reference is a place in it
abbrev gv : Type := Int32 ⊕ Option Nat
abbrev gc : Type := (Nat × List gv) ⊕ ((Nat × Nat × List Int32) ⊕ (Nat × Nat × List (Option Nat)))
def gtv (b : Nat) : gv → Value
  | .inl x => .int x
  | .inr none => .null
  | .inr (some p) => .ref (b + p)
def gce (cA : Nat → ClassId) (b : Nat) : gc → va_E
  | .inl o => .inr (o.1, o.2.map (gtv b))
  | .inr (.inl a) => .inl (cA a.1, a.2.1, if a.1 = 1 then .inr (.inl (fun _ => 0)) else .inl (fun j => a.2.2.getD j 0))
  | .inr (.inr a) => .inl (cA a.1, a.2.1, .inr (.inr (.inr (.inr (fun j => (a.2.2.getD j none).map (fun p => b + p))))))
def gw (cA : Nat → ClassId) (b : Nat) (l : List gc) : va_W := l.mapIdx (fun k c => (b + k, gce cA b c))
def gA (b : Nat) : Nat → Prop := fun q => b ≤ q
theorem gw_at {cA : Nat → ClassId} {b : Nat} {l : List gc} {k : Nat} {c : gc} (h : l[k]? = some c) : (gw cA b l)[k]? = some (b + k, gce cA b c) := by
  unfold gw
  rw [List.getElem?_mapIdx, h]
  rfl
theorem gw_in {cA : Nat → ClassId} {b : Nat} {l : List gc} {k : Nat} {q : Nat × va_E} (h : (gw cA b l)[k]? = some q) : ∃ c, l[k]? = some c ∧ q = (b + k, gce cA b c) := by
  unfold gw at h
  rw [List.getElem?_mapIdx] at h
  cases hc : l[k]? with
  | none => rw [hc] at h; cases h
  | some c => rw [hc] at h; cases h; exact ⟨c, rfl, rfl⟩
theorem gw_D (cA : Nat → ClassId) (b : Nat) (l : List gc) : va_D (gA b) (gw cA b l) := by
  refine ⟨fun i j p q hi hj h => ?_, fun k q hk => ?_⟩
  · obtain ⟨c1, -, rfl⟩ := gw_in hi
    obtain ⟨c2, -, rfl⟩ := gw_in hj
    have h : b + i = b + j := h
    omega
  · obtain ⟨c1, -, rfl⟩ := gw_in hk
    exact Nat.le_add_right _ _
theorem gw_set {cA : Nat → ClassId} {b : Nat} {l : List gc} {k : Nat} {c : gc} : (gw cA b l).set k (b + k, gce cA b c) = gw cA b (l.set k c) := by
  unfold gw
  apply List.ext_getElem?
  intro j
  rw [List.getElem?_set, List.getElem?_mapIdx, List.getElem?_mapIdx, List.getElem?_set, List.length_mapIdx]
  by_cases hj : k = j
  · subst hj
    rw [if_pos rfl, if_pos rfl]
    split <;> rfl
  · rw [if_neg hj, if_neg hj]
theorem gw_push {cA : Nat → ClassId} {b : Nat} {l : List gc} {c : gc} : gw cA b (l ++ [c]) = gw cA b l ++ [(b + l.length, gce cA b c)] := by
  unfold gw
  rw [List.mapIdx_append]
  simp
def lup {α : Type} (z : α) (l : List α) (i : Nat) (v : α) : List α := (List.range (max l.length (i + 1))).map (fun j => if j = i then v else l.getD j z)
theorem lup_at {α : Type} (z : α) (l : List α) (i : Nat) (v : α) (j : Nat) : (lup z l i v).getD j z = if j = i then v else l.getD j z := by
  unfold lup
  rw [List.getD_eq_getElem?_getD, List.getElem?_map]
  by_cases h : j < max l.length (i + 1)
  · rw [List.getElem?_range h]
    rfl
  · rw [List.getElem?_eq_none (by rw [List.length_range]; omega)]
    have h1 : j ≠ i := by omega
    rw [if_neg h1, List.getD_eq_getElem?_getD, List.getElem?_eq_none (by omega)]
    rfl
/-- what the making leans on beside the words: classes of arrays, private constructors of nest mates -/
def ynM : List (String × Nat × MethodName × String) := [(RX0, 36, yX4_init, RX7), (RX7, 28, yX1_init, RX7), (RX7, 35, yX6_init, RX7), (RX7, 42, yX2_init, RX7), (RX7, 49, yX3_init, RX7), (RX7, 67, yX5_init, RX7)]
def yt (U : State) : Prop := va_AO RX4 U ∧ va_AO RX5 U ∧ va_Nw (.arrayOver (.array .int)) U ∧ va_Nw (.arrayOver (.array .long)) U ∧ ∀ q ∈ ynM, va_Nw (.methodLinkNest q.1 q.2.1 q.2.2.1 q.2.2.2) U
abbrev gX : Type := MethodName × ByteArray × Nat × Option FieldType
def rmg (d mc ms : Nat) : Room := { frames := d, cells := mc, slots := ms, locals := 48 * d }
def Pcg (D : va_G) (cA : Nat → ClassId) (b : Nat) (as : List gv) (C E : List gc) : Array Value → State → Prop := fun v U => v = (as.map (gtv b)).toArray ∧ va_P D vwCl (gw cA b (C ++ E)) U.heap ∧ U.heap.size = b + (C ++ E).length ∧ va_K D vwCl (tysw cA) U ∧ yt U
def Qcg (D : va_G) (cA : Nat → ClassId) (b : Nat) (C E : List gc) : Array Value → State → Outcome → State → Prop := fun _ st oc t => oc = .returned none ∧ va_P D vwCl (gw cA b (C ++ E)) t.heap ∧ t.heap.size = b + (C ++ E).length ∧ va_F (gA b) st t
/-- a maker's contract: behind any cells C it finds E and leaves E' -/
def Gx (X : md) (d mc ms : Nat) (as : List gv) (o : Nat) (E E' : List gc) : Prop :=
  ∀ (l : Launch) (D : va_G) (cA : Nat → ClassId) (b : Nat) (C : List gc), C.length = o → Met l X.1 (wsm X) (rmg d mc ms) (Pcg D cA b as C E) (Qcg D cA b C E') mc ms (gA b)
def gctx (X : md) (d mc ms : Nat) (p : Program) (R : Room) (s : State) (m : MethodId) (args : Array Value) (meth : Method) (c : Code) (D : va_G) (cA : Nat → ClassId) : Prop :=
  p.tables.exec = Jvm.exec ∧ c.code = X.2.1 ∧ c.maxLocals = X.2.2.1 ∧ s.vm.findClass X.1.cls = some m.cls ∧ (∀ w ∈ wsm X, w.before args s = true) ∧ meth.sig.returnType = X.2.2.2 ∧ meth.locks = false ∧ R = rmg d mc ms ∧ va_K D vwCl (tysw cA) s ∧ yt s ∧ meth.name = X.1.name
def lmg (b : Nat) (lv : List (Nat × gv)) : List (Nat × Value) := lv.map (fun q => (q.1, gtv b q.2))
def Gm (X : md) (d mc ms pc : Nat) (lv : List (Nat × gv)) (st : List gv) (o : Nat) (E : List gc) (k n : Nat) (E' : List gc) : Prop :=
  ∀ (p : Program) (l : Launch) (e : Env) (R : Room) (s : State) (m : MethodId) (args : Array Value) (below : List Frame) (meth : Method) (c : Code) (D : va_G) (cA : Nat → ClassId) (b : Nat) (C : List gc) (H : Heap) (locs : List Loc) (ls : Array Slot),
    gctx X d mc ms p R s m args meth c D cA → C.length = o → b ≤ s.heap.size → va_P D vwCl (gw cA b (C ++ E)) H → H.size = b + (C ++ E).length → va_S (gA b) s.heap H locs → lv_has ls X.2.2.1 (lmg b lv) →
    W p l e R s m args below meth c H locs k n (MQ below (Qcg D cA b C E') args s mc ms (gA b)) (F0 m pc ls (st.map (gtv b)))
theorem lmg_at {b : Nat} {lv : List (Nat × gv)} {k i : Nat} {v : gv} (h : lv[k]? = some (i, v)) : (lmg b lv)[k]? = some (i, gtv b v) := by
  unfold lmg
  rw [List.getElem?_map, h]
  rfl
theorem Gx.of {X : md} {d mc ms o : Nat} {as : List gv} {E E' : List gc} {lv : List (Nat × gv)} (hy : plainName X.1.cls = true)
    (hlen : ∀ b, (lg_sl (as.map (gtv b))).length ≤ X.2.2.1) (hlv : ∀ b, lv_args 0 (as.map (gtv b)) = lmg b lv) (k : Gm X d mc ms 0 lv [] o E 0 0 E') : Gx X d mc ms as o E E' := by
  intro l D cA b C hC
  refine Met.ofW (cc := X.2.1) (maxL := X.2.2.1) (ret := X.2.2.2) hy rfl ?_
  intro p e s m args below meth c s₁ B hml hv
  obtain ⟨rfl, hP, hz, hK, hY⟩ := hv
  have hl := lv_entry (as.map (gtv b)) (n := X.2.2.1) (hlen b)
  rw [lg_entry_eq]
  generalize (lg_sl (as.map (gtv b)) ++ List.replicate (X.2.2.1 - (lg_sl (as.map (gtv b))).length) Slot.unset).toArray = ls at hl ⊢
  rw [hlv b] at hl
  exact k p l e _ s m _ below meth c D cA b C s.heap [] ls ⟨B.exec, B.bytes, hml, findClass_of_methodNamed B.named, atoms_spec (ws := wsm X) B.pre, B.returns, B.notSynchronized, rfl, hK, hY, (name_of_methodNamed B.named B.method).1⟩ hC (by rw [hz]; exact Nat.le_add_right _ _) hP hz va_S.rf hl
theorem catE {C E : List gc} {o k : Nat} {c : gc} (hC : C.length = o) (h : E[k]? = some c) : (C ++ E)[o + k]? = some c := by
  rw [List.getElem?_append_right (by omega), show o + k - C.length = k by omega]
  exact h
theorem catS {C E : List gc} {o k : Nat} {c : gc} (hC : C.length = o) : (C ++ E).set (o + k) c = C ++ E.set k c := by
  rw [List.set_append_right _ _ (by omega), show o + k - C.length = k by omega]
section GR
variable {X Y : md} {d mc ms pc n' o k n d' mc' ms' : Nat} {lv lv' : List (Nat × gv)} {st : List gv} {E E' E2 : List gc}
theorem Gm.iconst {z : Int} {v : Int32} (hd : decode X.2.1 pc = .ok (.iconst z, 1)) (hn : pc + 1 = n') (hv : Int32.ofInt z = v) (kk : Gm X d mc ms n' lv (.inl v :: st) o E k n E') : Gm X d mc ms pc lv (st) o E k n E' := by
  subst hn
  intro p l e R s m args below meth c D cA b C H locs ls G hC hb hP hz hS hl0
  exact lv_iconst G.1 G.2.1 hd hv (kk p l e R s m args below meth c D cA b C H locs ls G hC hb hP hz hS hl0)
theorem Gm.bipush {z : Int} {v : Int32} (hd : decode X.2.1 pc = .ok (.bipush z, 2)) (hn : pc + 2 = n') (hv : (Int8.ofInt z).toInt32 = v) (kk : Gm X d mc ms n' lv (.inl v :: st) o E k n E') : Gm X d mc ms pc lv (st) o E k n E' := by
  subst hn
  intro p l e R s m args below meth c D cA b C H locs ls G hC hb hP hz hS hl0
  exact lv_bipush G.1 G.2.1 hd hv (kk p l e R s m args below meth c D cA b C H locs ls G hC hb hP hz hS hl0)
theorem Gm.sipush {z : Int} {v : Int32} (hd : decode X.2.1 pc = .ok (.sipush z, 3)) (hn : pc + 3 = n') (hv : (Int16.ofInt z).toInt32 = v) (kk : Gm X d mc ms n' lv (.inl v :: st) o E k n E') : Gm X d mc ms pc lv (st) o E k n E' := by
  subst hn
  intro p l e R s m args below meth c D cA b C H locs ls G hC hb hP hz hS hl0
  exact lv_sipush G.1 G.2.1 hd hv (kk p l e R s m args below meth c D cA b C H locs ls G hC hb hP hz hS hl0)
theorem Gm.ldc {z : Nat} {v : Int32} (hd : decode X.2.1 pc = .ok (.ldc z, 2)) (hn : pc + 2 = n') (hw : Cond.constant X.1.cls z v ∈ tg) (kk : Gm X d mc ms n' lv (.inl v :: st) o E k n E') : Gm X d mc ms pc lv (st) o E k n E' := by
  subst hn
  intro p l e R s m args below meth c D cA b C H locs ls G hC hb hP hz hS hl0
  exact lv_ldc G.1 G.2.1 G.2.2.2.1 (G.2.2.2.2.1 _ (List.mem_cons_of_mem _ hw)) hd (kk p l e R s m args below meth c D cA b C H locs ls G hC hb hP hz hS hl0)
theorem Gm.iload_n {i : Fin 4} {x : Int32} (q : Nat) (hd : decode X.2.1 pc = .ok (.iload_n i, 1)) (hn : pc + 1 = n') (hk : lv[q]? = some ((i : Nat), .inl x)) (kk : Gm X d mc ms n' lv (.inl x :: st) o E k n E') : Gm X d mc ms pc lv (st) o E k n E' := by
  subst hn
  intro p l e R s m args below meth c D cA b C H locs ls G hC hb hP hz hS hl0
  exact lv_iload_n G.1 G.2.1 hd rfl (lv_at hl0 q (lmg_at hk)) (kk p l e R s m args below meth c D cA b C H locs ls G hC hb hP hz hS hl0)
theorem Gm.aload_n {i : Fin 4} {x : Nat} (q : Nat) (hd : decode X.2.1 pc = .ok (.aload_n i, 1)) (hn : pc + 1 = n') (hk : lv[q]? = some ((i : Nat), .inr (some x))) (kk : Gm X d mc ms n' lv (.inr (some x) :: st) o E k n E') : Gm X d mc ms pc lv (st) o E k n E' := by
  subst hn
  intro p l e R s m args below meth c D cA b C H locs ls G hC hb hP hz hS hl0
  exact lv_aload_n G.1 G.2.1 hd rfl (lv_at hl0 q (lmg_at hk)) (kk p l e R s m args below meth c D cA b C H locs ls G hC hb hP hz hS hl0)
theorem Gm.irem {x y z : Int32} (hd : decode X.2.1 pc = .ok (.irem, 1)) (hn : pc + 1 = n') (h : rmI x y = some z) (kk : Gm X d mc ms n' lv (.inl z :: st) o E k n E') : Gm X d mc ms pc lv (.inl y :: .inl x :: st) o E k n E' := by
  subst hn
  intro p l e R s m args below meth c D cA b C H locs ls G hC hb hP hz hS hl0
  exact (by
    unfold rmI at h
    split at h
    · cases h
    · rename_i hne
      cases h
      exact lv_irem G.1 G.2.1 hd hne (kk p l e R s m args below meth c D cA b C H locs ls G hC hb hP hz hS hl0))
theorem gtv_cat (b : Nat) (v : gv) : (gtv b v).category = 1 := by
  rcases v with x | x
  · rfl
  · cases x <;> rfl
theorem Gm.dup {v : gv} (hd : decode X.2.1 pc = .ok (.dup, 1)) (hn : pc + 1 = n') (kk : Gm X d mc ms n' lv (v :: v :: st) o E k n E') : Gm X d mc ms pc lv (v :: st) o E k n E' := by
  subst hn
  intro p l e R s m args below meth c D cA b C H locs ls G hC hb hP hz hS hl0
  exact lv_dup G.1 G.2.1 hd (gtv_cat b v) (kk p l e R s m args below meth c D cA b C H locs ls G hC hb hP hz hS hl0)
theorem Gm.dup2 {v w : gv} (hd : decode X.2.1 pc = .ok (.dup2, 1)) (hn : pc + 1 = n') (kk : Gm X d mc ms n' lv (v :: w :: v :: w :: st) o E k n E') : Gm X d mc ms pc lv (v :: w :: st) o E k n E' := by
  subst hn
  intro p l e R s m args below meth c D cA b C H locs ls G hC hb hP hz hS hl0
  exact lv_dup2_11 G.1 G.2.1 hd (gtv_cat b v) (gtv_cat b w) (kk p l e R s m args below meth c D cA b C H locs ls G hC hb hP hz hS hl0)
def gl1 (i : Nat) (v : gv) (lv : List (Nat × gv)) : List (Nat × gv) := (i, v) :: lv.filter (fun q => !(q.1 == i))
theorem lmg_gl1 (b : Nat) (i : Nat) (v : gv) (lv : List (Nat × gv)) : (i, gtv b v) :: (lmg b lv).filter (fun q => !(q.1 == i) && !(q.1 + 1 == i && q.2.category == 2)) = lmg b (gl1 i v lv) := by
  unfold lmg gl1
  rw [List.map_cons, List.filter_map]
  congr 2
  apply List.filter_congr
  intro q _
  simp only [Function.comp_apply, gtv_cat]
  simp
theorem Gm.istore_n {i : Fin 4} {x : Int32} (hd : decode X.2.1 pc = .ok (.istore_n i, 1)) (hn : pc + 1 = n') (hi : (i : Nat) < X.2.2.1) (hl : gl1 i (.inl x) lv = lv') (kk : Gm X d mc ms n' lv' st o E k n E') : Gm X d mc ms pc lv (.inl x :: st) o E k n E' := by
  subst hn
  intro p l e R s m args below meth c D cA b C H locs ls G hC hb hP hz hS hl0
  exact lv_istore_n G.1 G.2.1 hd rfl hl0 hi (lmg_gl1 b _ (.inl x) lv) (fun ls2 hl2 => kk p l e R s m args below meth c D cA b C H locs ls2 G hC hb hP hz hS (by rw [← hl]; exact hl2))
theorem Gm.iinc {i : Nat} {z : Int} {x v : Int32} (q : Nat) (hd : decode X.2.1 pc = .ok (.iinc i z, 3)) (hn : pc + 3 = n') (hk : lv[q]? = some (i, .inl x)) (hv : x + Int32.ofInt z = v) (hi : i < X.2.2.1) (hl : gl1 i (.inl v) lv = lv') (kk : Gm X d mc ms n' lv' st o E k n E') : Gm X d mc ms pc lv st o E k n E' := by
  subst hn
  intro p l e R s m args below meth c D cA b C H locs ls G hC hb hP hz hS hl0
  exact lv_iinc G.1 G.2.1 hd hl0 (lmg_at hk) hv hi (lmg_gl1 b _ (.inl v) lv) (fun ls2 hl2 => kk p l e R s m args below meth c D cA b C H locs ls2 G hC hb hP hz hS (by rw [← hl]; exact hl2))
theorem Gm.goto {off : Int} (t : Nat) (hd : decode X.2.1 pc = .ok (.goto off, 3)) (ht : (pc : Int) + off = (t : Int)) (kk : Gm X d mc ms t lv st o E k n E') : Gm X d mc ms pc lv st o E k n E' := by
  intro p l e R s m args below meth c D cA b C H locs ls G hC hb hP hz hS hl0
  exact lv_goto G.1 G.2.1 hd ht (kk p l e R s m args below meth c D cA b C H locs ls G hC hb hP hz hS hl0)
theorem Gm.icmp_geT {x y : Int32} {off : Int} (t : Nat) (hd : decode X.2.1 pc = .ok (.if_icmp .ge off, 3)) (ht : (pc : Int) + off = (t : Int)) (h : y ≤ x) (kk : Gm X d mc ms t lv st o E k n E') : Gm X d mc ms pc lv (.inl y :: .inl x :: st) o E k n E' := by
  intro p l e R s m args below meth c D cA b C H locs ls G hC hb hP hz hS hl0
  exact lv_icmp_ge G.1 G.2.1 hd ht (fun _ => (kk p l e R s m args below meth c D cA b C H locs ls G hC hb hP hz hS hl0)) (fun c9 => absurd h c9)
theorem Gm.icmp_geF {x y : Int32} {off : Int} (t : Nat) (hd : decode X.2.1 pc = .ok (.if_icmp .ge off, 3)) (ht : (pc : Int) + off = (t : Int)) (hn : pc + 3 = n') (h : ¬ y ≤ x) (kk : Gm X d mc ms n' lv st o E k n E') : Gm X d mc ms pc lv (.inl y :: .inl x :: st) o E k n E' := by
  subst hn
  intro p l e R s m args below meth c D cA b C H locs ls G hC hb hP hz hS hl0
  exact lv_icmp_ge G.1 G.2.1 hd ht (fun c9 => absurd c9 h) (fun _ => (kk p l e R s m args below meth c D cA b C H locs ls G hC hb hP hz hS hl0))
theorem Gm.icmp_neT {x y : Int32} {off : Int} (t : Nat) (hd : decode X.2.1 pc = .ok (.if_icmp .ne off, 3)) (ht : (pc : Int) + off = (t : Int)) (h : ¬ x = y) (kk : Gm X d mc ms t lv st o E k n E') : Gm X d mc ms pc lv (.inl y :: .inl x :: st) o E k n E' := by
  intro p l e R s m args below meth c D cA b C H locs ls G hC hb hP hz hS hl0
  exact lv_icmp_ne G.1 G.2.1 hd ht (fun _ => (kk p l e R s m args below meth c D cA b C H locs ls G hC hb hP hz hS hl0)) (fun c9 => absurd c9 h)
theorem Gm.icmp_neF {x y : Int32} {off : Int} (t : Nat) (hd : decode X.2.1 pc = .ok (.if_icmp .ne off, 3)) (ht : (pc : Int) + off = (t : Int)) (hn : pc + 3 = n') (h : x = y) (kk : Gm X d mc ms n' lv st o E k n E') : Gm X d mc ms pc lv (.inl y :: .inl x :: st) o E k n E' := by
  subst hn
  intro p l e R s m args below meth c D cA b C H locs ls G hC hb hP hz hS hl0
  exact lv_icmp_ne G.1 G.2.1 hd ht (fun c9 => absurd h c9) (fun _ => (kk p l e R s m args below meth c D cA b C H locs ls G hC hb hP hz hS hl0))
theorem Gm.if_neT {x : Int32} {off : Int} (t : Nat) (hd : decode X.2.1 pc = .ok (.ifCond .ne off, 3)) (ht : (pc : Int) + off = (t : Int)) (h : ¬ x = 0) (kk : Gm X d mc ms t lv st o E k n E') : Gm X d mc ms pc lv (.inl x :: st) o E k n E' := by
  intro p l e R s m args below meth c D cA b C H locs ls G hC hb hP hz hS hl0
  exact lv_if_ne G.1 G.2.1 hd ht (fun _ => (kk p l e R s m args below meth c D cA b C H locs ls G hC hb hP hz hS hl0)) (fun c9 => absurd c9 h)
theorem Gm.if_neF {x : Int32} {off : Int} (t : Nat) (hd : decode X.2.1 pc = .ok (.ifCond .ne off, 3)) (ht : (pc : Int) + off = (t : Int)) (hn : pc + 3 = n') (h : x = 0) (kk : Gm X d mc ms n' lv st o E k n E') : Gm X d mc ms pc lv (.inl x :: st) o E k n E' := by
  subst hn
  intro p l e R s m args below meth c D cA b C H locs ls G hC hb hP hz hS hl0
  exact lv_if_ne G.1 G.2.1 hd ht (fun c9 => absurd h c9) (fun _ => (kk p l e R s m args below meth c D cA b C H locs ls G hC hb hP hz hS hl0))
theorem Gm.if_eqT {x : Int32} {off : Int} (t : Nat) (hd : decode X.2.1 pc = .ok (.ifCond .eq off, 3)) (ht : (pc : Int) + off = (t : Int)) (h : x = 0) (kk : Gm X d mc ms t lv st o E k n E') : Gm X d mc ms pc lv (.inl x :: st) o E k n E' := by
  intro p l e R s m args below meth c D cA b C H locs ls G hC hb hP hz hS hl0
  exact lv_if_eq G.1 G.2.1 hd ht (fun _ => (kk p l e R s m args below meth c D cA b C H locs ls G hC hb hP hz hS hl0)) (fun c9 => absurd h c9)
theorem Gm.if_eqF {x : Int32} {off : Int} (t : Nat) (hd : decode X.2.1 pc = .ok (.ifCond .eq off, 3)) (ht : (pc : Int) + off = (t : Int)) (hn : pc + 3 = n') (h : ¬ x = 0) (kk : Gm X d mc ms n' lv st o E k n E') : Gm X d mc ms pc lv (.inl x :: st) o E k n E' := by
  subst hn
  intro p l e R s m args below meth c D cA b C H locs ls G hC hb hP hz hS hl0
  exact lv_if_eq G.1 G.2.1 hd ht (fun c9 => absurd c9 h) (fun _ => (kk p l e R s m args below meth c D cA b C H locs ls G hC hb hP hz hS hl0))
theorem Gm.vret (hd : decode X.2.1 pc = .ok (.return_, 1)) (hr : X.2.2.2 = none) (h1 : k ≤ mc) (h2 : n ≤ ms) (hE : E = E') : Gm X d mc ms pc lv [] o E k n E' := by
  subst hE
  intro p l e R s m args below meth c D cA b C H locs ls G hC hb hP hz hS hl0
  refine W.widen (k := mc) (n := ms) h1 h2 ?_
  exact W.vret G.1 G.2.1 (G.2.2.2.2.2.1.trans hr) (fun t ht hW => ⟨rfl, by rw [ht]; exact hP, by rw [ht]; exact hz, hS.F ht⟩) hS.2.2 hd (hlocks := G.2.2.2.2.2.2.1)
theorem Gm.objInit {p0 idx : Nat} (hd : decode X.2.1 pc = .ok (.invokespecial idx, 3)) (hn : pc + 3 = n') (hw : Cond.methodLink X.1.cls idx objectInit ∈ tg ∧ Cond.instanceMethod objectInit ∈ tg ∧ Cond.code objectInit ⟨#[0xb1]⟩ 1 none ∈ tg) (hdd : 1 ≤ d) (hst : st.length ≤ 4) (kk : Gm X d mc ms n' lv st o E k n E') : Gm X d mc ms pc lv (.inr (some p0) :: st) o E k n E' := by
  subst hn
  intro p l e R s m args below meth c D cA b C H locs ls G hC hb hP hz hS hl0
  have hR := G.2.2.2.2.2.2.2.1
  have hcat : ((st.map (gtv b)).map fun v => v.category).sum = st.length := by
    clear kk hst
    induction st with
    | nil => rfl
    | cons a l ih => rw [List.map_cons, List.map_cons, List.sum_cons, ih, gtv_cat, List.length_cons]; omega
  refine W.objInit G.1 G.2.1 G.2.2.2.1 (G.2.2.2.2.1 _ (List.mem_cons_of_mem _ hw.1)) (G.2.2.2.2.1 _ (List.mem_cons_of_mem _ hw.2.1)) (G.2.2.2.2.1 _ (List.mem_cons_of_mem _ hw.2.2)) (a := b + p0) (rest := st.map (gtv b)) rfl (by rw [G.2.2.1]; exact hl0.1) rfl hd (by rw [hR]; exact hdd) (by rw [hR, hcat]; show 2 * 0 + st.length + 12 ≤ 48 * d; omega) ?_
  exact kk p l e R s m args below meth c D cA b C H locs ls G hC hb hP hz hS hl0
theorem Gm.getR {p0 k0 j ci idx q : Nat} {fs : List gv} (hd : decode X.2.1 pc = .ok (.getfield idx, 3)) (hn : pc + 3 = n') (hw : fw X.1.cls idx ci j ∈ tg) (hp : p0 = o + k0) (he : E[k0]? = some (.inl (ci, fs))) (h9 : ci < 9) (hj : j < (cq ci).2.2) (hv : fs[j]? = some (.inr (some q))) (kk : Gm X d mc ms n' lv (.inr (some q) :: st) o E k n E') : Gm X d mc ms pc lv (.inr (some p0) :: st) o E k n E' := by
  subst hn
  subst hp
  intro p l e R s m args below meth c D cA b C H locs ls G hC hb hP hz hS hl0
  refine va_get (D := D) (own := X.1.cls) (C := (cq ci).1) (T := (cq ci).2.1) (N := (cq ci).2.2) (v := .ref (b + q)) G.1 G.2.1 G.2.2.2.2.1 (fun w hw => List.mem_cons_of_mem _ (uwg h9 w hw)) G.2.2.2.1 G.2.2.2.2.2.2.2.2.1 hP (o + k0) (gw_at (catE hC he)) (cq_at h9) j hj (G.2.2.2.2.1 _ (List.mem_cons_of_mem _ hw)) (fun _ h => h) ?_ hd (kk p l e R s m args below meth c D cA b C H locs ls G hC hb hP hz hS hl0)
  rw [List.getElem?_map, hv]
  rfl
theorem gobj {D : va_G} {cA : Nat → ClassId} {b kk ci : Nat} {l : List gc} {fs : List gv} {H : Heap} (h9 : ci < 9) (hP : va_P D vwCl (gw cA b l) H) (he : l[kk]? = some (.inl (ci, fs))) : ∃ cell : Cell, H[b + kk]? = some cell ∧ cell.cls = D.1 ci ∧ cell.vm = .none ∧ ∀ j, j < (cq ci).2.2 → cell.slots[D.2 ci j]? = some (vp_V (fs.map (gtv b)) j) := by
  obtain ⟨r, h1, cell, q1, q2, q3, q4⟩ := hP kk _ (gw_at he)
  have hr : r = ((cq ci).1, (cq ci).2.1, (cq ci).2.2) := Option.some.inj (h1.symm.trans (cq_at h9))
  subst hr
  exact ⟨cell, q1, q2, q3, q4⟩
/-- a cell is written: the world by places -/
theorem gset {D : va_G} {cA : Nat → ClassId} {b kk : Nat} {l : List gc} {c c' : gc} {H H1 : Heap} (hP : va_P D vwCl (gw cA b l) H) (he : l[kk]? = some c) (hn : va_at D vwCl (b + kk, gce cA b c') H1) (ho : ∀ q, q ≠ b + kk → H1[q]? = H[q]?) : va_P D vwCl (gw cA b (l.set kk c')) H1 := by
  rw [← gw_set]
  exact hP.set (gw_D cA b l) (gw_at he) hn ho
theorem Gm.put {p0 k0 j ci idx : Nat} {fs : List gv} {v : gv} {ty : FieldType} (fin : Bool) (hd : decode X.2.1 pc = .ok (.putfield idx, 3)) (hn : pc + 3 = n') (hw : fw X.1.cls idx ci j ∈ tg) (hp : p0 = o + k0) (he : E[k0]? = some (.inl (ci, fs))) (h9 : ci < 9) (hj : j < (cq ci).2.2) (hl : j < fs.length) (hfin : ((cq ci).2.1 j).2.2.2 = fin) (hin : fin = true → X.1.name = "<init>" ∧ ((cq ci).2.1 j).1 = X.1.cls) (hty : cty ci j = ty) (hna : ∀ b, narrow ty (gtv b v) = gtv b v) (hfi : ∀ b, fits ty (gtv b v) = true) (hE : E.set k0 (.inl (ci, fs.set j v)) = E2)
    (kk : Gm X d mc ms n' lv st o E2 k n E') : Gm X d mc ms pc lv (v :: .inr (some p0) :: st) o E k n E' := by
  subst hn
  subst hp
  subst hE
  intro p l e R s m args below meth c D cA b C H locs ls G hC hb hP hz hS hl0
  have hts := G.2.2.2.2.1
  have hK := G.2.2.2.2.2.2.2.2.1
  have hin9 : ∀ w ∈ u_ws (cq ci).1 (cq ci).2.1 (cq ci).2.2, w ∈ wsm X := fun w hw => List.mem_cons_of_mem _ (uwg h9 w hw)
  have hap := va_apart (own := X.1.cls) hts hin9 (cty ci) (ctyo h9) (cnm h9) hK (cq_at h9)
  obtain ⟨cell, q1, q2, q3, q4⟩ := gobj h9 hP (catE hC he)
  obtain ⟨hSl, hfc, kC, hkC, hkind⟩ := hK.1 ci _ (cq_at h9)
  obtain ⟨cf, kf, fi, f, hi, hsl⟩ := hSl j hj
  have hlay := hts _ (hin9 _ (u_in_lay hj))
  have hst := (u_facts hfc hkC (u_lays hts hin9 hj) hi).1
  have hd2 : parseFieldDescriptor ((cq ci).2.1 j).2.2.1 = some ty := by rw [ctyo h9 j hj, hty]
  have hlink : (fw X.1.cls idx ci j).before args s = true := hts _ (List.mem_cons_of_mem _ hw)
  have go : ∀ H' : Heap, H'[b + (o + k0)]? = some (cell.setSlot f.slot (gtv b v)) → H'.size = H.size → (∀ q, q ≠ b + (o + k0) → H'[q]? = H[q]?) → W p l e R s m args below meth c H' (locs ++ [⟨b + (o + k0), f.slot⟩]) k n (MQ below (Qcg D cA b C E') args s mc ms (gA b)) (F0 m (pc + 3) ls (st.map (gtv b))) := by
    intro H' e1 e2 e3
    rw [hsl] at e1 ⊢
    refine kk p l e R s m args below meth c D cA b C H' _ ls G hC hb ?_ ?_ (hS.put e2 e3 (Nat.le_add_right _ _)) hl0
    · rw [← catS hC]
      refine gset hP (catE hC he) ?_ e3
      refine ⟨_, cq_at h9, ?_⟩
      have h7 : (fs.set j v).map (gtv b) = (fs.map (gtv b)).set j (gtv b v) := List.map_set
      show t_OB (b + (o + k0)) (D.1 ci) (cq ci).2.2 (D.2 ci) H' (vp_V ((fs.set j v).map (gtv b)))
      rw [h7]
      exact t_OB.to (V := updV (vp_V (fs.map (gtv b))) j (gtv b v)) ⟨_, e1, q2, q3, t_set q4 hap hj (gtv b v)⟩ (fun j' _ => vp_updV_set (by rw [List.length_map]; exact hl) (gtv b v) j')
    · rw [e2, hz, ← catS hC, List.length_set]
  cases fin with
  | false =>
    unfold u_lay at hlay
    rw [if_neg (by rw [hfin]; decide)] at hlay
    have h6 := u_store hfc hkC hkind hlay hi hd2 (hna b) (hfi b)
    exact W.putK G.1 G.2.1 (f := f) ⟨G.2.2.2.1, hlink, ⟨_, _, _, hi⟩, hst⟩ (by rw [q2]; exact h6) q1 q3 (by rw [hsl]; exact k2_hasslot (q4 j hj)) rfl rfl hd go
  | true =>
    obtain ⟨hi1, hi2⟩ := hin rfl
    unfold u_lay at hlay
    rw [if_pos hfin] at hlay
    have hcf : m.cls = cf := by
      obtain ⟨_, _, c', _, _, _, -, -, hf', -, -, -, hown2, -⟩ := Cond.laysFinal_spec hlay
      have e1 : c' = cf := by have := hi.symm.trans hf'; simp at this; exact this.1.symm
      rw [hi2] at hown2
      rw [← e1]; exact Option.some.inj (G.2.2.2.1.symm.trans hown2)
    have h6 := u_fits hfc hkC hkind (Or.inr hlay) hi hd2 (hna b) (hfi b)
    exact W.putFinK G.1 G.2.1 G.2.2.2.1 hlink hi hst hcf (by rw [G.2.2.2.2.2.2.2.2.2.2]; exact hi1) (by rw [q2]; exact h6) q1 q3 (by rw [hsl]; exact k2_hasslot (q4 j hj)) rfl rfl hd go
end GR
