-- calls
theorem vaD_any {A : Nat → Prop} {cA : Nat → ClassId} {ad : Nat → Nat → Nat} {M M1 : mm × mm} (h : va_D A (wl cA ad M)) : va_D A (wl cA ad M1) := by
  have key : ∀ (k : Nat) (q : Nat × va_E), (wl cA ad M1)[k]? = some q → ∃ e, (wl cA ad M)[k]? = some (q.1, e) := by
    intro k q hk
    unfold wl at hk ⊢
    rw [List.getElem?_map] at hk ⊢
    cases hy : allk[k]? with
    | none => rw [hy] at hk; cases hk
    | some y =>
      rw [hy] at hk
      cases hk
      exact ⟨_, rfl⟩
  refine ⟨fun i j p q hi hj hpq => ?_, fun k q hk => ?_⟩
  · obtain ⟨e1, h1⟩ := key i p hi
    obtain ⟨e2, h2⟩ := key j q hj
    exact h.1 i j _ _ h1 h2 hpq
  · obtain ⟨e1, h1⟩ := key k q hk
    exact h.2 k (q.1, e1) h1
def mcat (v : mv) : Nat := if isl v = true then 2 else 1
theorem mcat_eq (ad : Nat → Nat → Nat) (v : mv) : (tv ad v).category = mcat v := by rcases v with x | x | x <;> rfl
theorem mcat_sum (ad : Nat → Nat → Nat) (l : List mv) : ((l.map (tv ad)).map fun v => v.category).sum = (l.map mcat).sum := by
  rw [List.map_map]
  congr 1
  apply List.map_congr_left
  intro v _
  exact mcat_eq ad v
def okV (own : String) (idx : Nat) (y : MethodName) : Prop := Cond.methodLink own idx y ∈ tg ∧ Cond.instanceMethod y ∈ tg ∧ Cond.selects y.cls y y ∈ tg ∧ Cond.initialized y.cls ∈ tg
def okS (own : String) (idx : Nat) (y : MethodName) : Prop := Cond.methodLink own idx y ∈ tg ∧ Cond.static y ∈ tg ∧ Cond.initialized y.cls ∈ tg
def okN (own : String) (idx : Nat) (y : MethodName) (host : String) : Prop := (own, idx, y, host) ∈ xnM ∧ Cond.static y ∈ tg ∧ Cond.initialized y.cls ∈ tg
def okm (Y : md) (np : Nat) : Prop := Cond.code Y.1 Y.2.1 Y.2.2.1 Y.2.2.2 ∈ tg ∧ (Y.1.cls ≠ "java/lang/invoke/MethodHandle" ∧ Y.1.cls ≠ "java/lang/invoke/VarHandle" ∧ (parseMethodDescriptor Y.1.desc).map (fun d => d.parameters.length) = some np) ∧ Y.2.2.1 ≤ 29
theorem wsm_good {X Y : md} {np : Nat} (h : okm Y np) : GoodIn (wsm X) (wsm Y) := by
  intro w hw
  rcases List.mem_cons.mp hw with rfl | hw
  · exact ⟨List.mem_cons_of_mem _ h.1, (tg_good h.1).2⟩
  · exact ⟨List.mem_cons_of_mem _ hw, (tg_good hw).2⟩
section VC1
variable {X Y : md} {d d' pc n idx np : Nat} {lv : List (Nat × mv)} {st rest as : List mv} {M M' M1 : mm × mm} {r r1 : Option mv} {c i ci nf : Nat}
theorem Vm.callB (k : Vm X d n lv (r1.toList ++ rest) M1 r M') (hn : pc + 3 = n)
    (run : ∀ (p : Program) (l : Launch) (e : Env) (R : Room) (s : State) (m : MethodId) (args : Array Value) (below : List Frame) (meth : Method) (co : Code) (D : va_G) (cA : Nat → ClassId) (ad : Nat → Nat → Nat) (H : Heap) (locs : List Loc) (ls : Array Slot),
      ctx X d p R s m args meth co D cA ad → va_P D vwCl (wl cA ad M) H → va_D (Aw ad) (wl cA ad M) → va_S (Aw ad) s.heap H locs → lv_has ls X.2.2.1 (lm ad lv) → ∃ av, va_Run p l e R s m args below meth co H locs 0 0 0 0 (F0 m pc ls (st.map (tv ad))) (rest.map (tv ad)) (Qcm D cA ad r1 M1 av) (Aw ad)) : Vm X d pc lv st M r M' := by
  subst hn
  intro p l e R s m args below meth co D cA ad H locs ls C hP hD hS hl0 T hT X0
  obtain ⟨av, hrun⟩ := run p l e R s m args below meth co D cA ad H locs ls C hP hD hS hl0
  obtain ⟨v, st₀, t, T', L, h0, X', hL, e1, e2, ⟨hv, hP1, hz, hk⟩, go⟩ := hrun T hT X0
  have hv : v = r1.map (tv ad) := by
    injection hv
  subst hv
  rw [h0] at hz hk
  have hS1 : va_S (Aw ad) s.heap T'.heap (locs ++ L) := ⟨Nat.le_trans hS.1 (by rw [e1]; exact hz), fun q h1 h2 => by rw [e1, hk q (Nat.lt_of_lt_of_le h1 hS.1) h2]; exact hS.2.1 q h1 h2, fun q hq => by
      rcases List.mem_append.mp hq with h | h
      · exact hS.2.2 q h
      · exact hL q h⟩
  obtain ⟨t2, a1, b1⟩ := k p l e R s m args below meth co D cA ad T'.heap (locs ++ L) ls C (by rw [e1]; exact hP1) (vaD_any hD) hS1 hl0 T' rfl X'
  refine ⟨t2, go t2 ?_, b1⟩
  have he : ({ F0 m pc ls (st.map (tv ad)) with pc := (F0 m pc ls (st.map (tv ad))).pc + 3, stack := (r1.map (tv ad)).toList ++ rest.map (tv ad) } : JFrame) = F0 m (pc + 3) ls ((r1.toList ++ rest).map (tv ad)) := by
    rw [List.map_append]
    cases r1 <;> rfl
  rw [he]
  exact a1
theorem ctx_pre {p : Program} {R : Room} {s : State} {m : MethodId} {args : Array Value} {meth : Method} {co : Code} {D : va_G} {cA : Nat → ClassId} {ad : Nat → Nat → Nat} {H : Heap} {locs : List Loc} (C : ctx X d p R s m args meth co D cA ad) (hP : va_P D vwCl (wl cA ad M) H) (hD : va_D (Aw ad) (wl cA ad M)) (hS : va_S (Aw ad) s.heap H locs) (U : State) (hU : U.heap = H) (hW : s.WarmedH U.vm) : wdS D cA ad M U := by
  refine ⟨by rw [hU]; exact hP, va_K.moved hW.alike C.2.2.2.2.2.2.2.2.1, hD, ?_⟩
  rw [hU]
  exact (C.2.2.2.2.2.2.2.2.2.kept hS.2.1).warm hW
theorem rmd_fit {a b ml : Nat} (h : a + 1 ≤ b) (hm : ml ≤ 29) : (rmd a).frames + 1 ≤ (rmd b).frames ∧ 8 + (ml + 11) + (rmd a).locals ≤ (rmd b).locals := by
  refine ⟨h, ?_⟩
  show 8 + (ml + 11) + 48 * a ≤ 48 * b
  omega
theorem ctx_cb {p : Program} {R : Room} {s : State} {m : MethodId} {args : Array Value} {meth : Method} {co : Code} {D : va_G} {cA : Nat → ClassId} {ad : Nat → Nat → Nat} (C : ctx X d p R s m args meth co D cA ad) (hY : okm Y np) (hl : Cond.methodLink X.1.cls idx Y.1 ∈ tg) (hi : Cond.initialized Y.1.cls ∈ tg) (hdd : d' + 1 ≤ d) : CallB R s args X.1.cls idx Y.1 Y.2.1 Y.2.2.1 Y.2.2.2 (wsm Y) (rmd d') 0 0 np := by
  have hR := C.2.2.2.2.2.2.2.1
  subst hR
  exact callB_of np C.2.2.2.2.1 (wsm_good hY) rfl rfl rfl (C.2.2.2.2.1 _ (List.mem_cons_of_mem _ hi)) (C.2.2.2.2.1 _ (List.mem_cons_of_mem _ hl)) hY.2.1 (rmd_fit hdd hY.2.2)
theorem Vm.callV0 (hd : decode X.2.1 pc = .ok (.invokevirtual idx, 3)) (hn : pc + 3 = n) (hw : okV X.1.cls idx Y.1) (hY : okm Y np) (hlen : as.length = np) (hq : (c, i) ∈ allk) (hk : kcls c = some (ci, nf)) (hcl : (cq ci).1 = Y.1.cls) (hst : st = as.reverse ++ .inr (.inr (c, i)) :: rest) (hroom : (rest.map mcat).sum ≤ 8) (hdd : d' + 1 ≤ d) (hC : Cx Y d' (.inr (.inr (c, i)) :: as) M r1 M1) (k : Vm X d n lv (r1.toList ++ rest) M1 r M') : Vm X d pc lv st M r M' := by
  refine Vm.callB (M := M) (st := st) k hn ?_
  intro p l e R s m args below meth co D cA ad H locs ls C hP hD hS hl0
  refine ⟨(tv ad (.inr (.inr (c, i))) :: as.map (tv ad)).toArray, ?_⟩
  obtain ⟨q0, -, he⟩ := wl_at (cA := cA) (ad := ad) (M := M) hq
  rw [cel_o hk] at he
  have h9 := (cq_of hk).1
  have hR := C.2.2.2.2.2.2.2.1
  refine va_runV (C := Y.1.cls) (b := ad c i) (As := as.map (tv ad)) (n := np) ⟨C.1, C.2.1, C.2.2.1, C.2.2.2.1, C.2.2.2.2.1⟩ (hC l D cA ad) ⟨ctx_cb C hY hw.1 hw.2.2.2 hdd, C.2.2.2.2.1 _ (List.mem_cons_of_mem _ hw.2.1), C.2.2.2.2.1 _ (List.mem_cons_of_mem _ hw.2.2.1)⟩ ⟨Pcm_blind, ?_, fun U hU hW => ⟨rfl, ctx_pre C hP hD hS U hU hW⟩⟩ rfl (by rw [List.length_map]; exact hlen) hl0.1 ?_ (lv_room (by rw [mcat_sum]; exact hroom)) hd ⟨by rw [hR]; exact Nat.le_refl _, by rw [hR]; exact Nat.le_refl _⟩
  · rw [← hcl]
    exact va_recv C.2.2.2.2.2.2.2.2.1 hP (cq_at h9) he
  · rw [hst, List.map_append, List.map_reverse]
    rfl
theorem Vm.callS0 (hd : decode X.2.1 pc = .ok (.invokestatic idx, 3)) (hn : pc + 3 = n) (hw : okS X.1.cls idx Y.1) (hY : okm Y np) (hlen : as.length = np) (hst : st = as.reverse ++ rest) (hroom : (rest.map mcat).sum ≤ 8) (hdd : d' + 1 ≤ d) (hC : Cx Y d' as M r1 M1) (k : Vm X d n lv (r1.toList ++ rest) M1 r M') : Vm X d pc lv st M r M' := by
  refine Vm.callB (M := M) (st := st) k hn ?_
  intro p l e R s m args below meth co D cA ad H locs ls C hP hD hS hl0
  refine ⟨(as.map (tv ad)).toArray, ?_⟩
  have hR := C.2.2.2.2.2.2.2.1
  refine va_runS (As := as.map (tv ad)) (n := np) ⟨C.1, C.2.1, C.2.2.1, C.2.2.2.1, C.2.2.2.2.1⟩ (hC l D cA ad) ⟨ctx_cb C hY hw.1 hw.2.2 hdd, C.2.2.2.2.1 _ (List.mem_cons_of_mem _ hw.2.1)⟩ ⟨Pcm_blind, fun U hU hW => ⟨rfl, ctx_pre C hP hD hS U hU hW⟩⟩ rfl (by rw [List.length_map]; exact hlen) hl0.1 ?_ (lv_room (by rw [mcat_sum]; exact hroom)) hd ⟨by rw [hR]; exact Nat.le_refl _, by rw [hR]; exact Nat.le_refl _⟩
  rw [hst, List.map_append, List.map_reverse]
theorem Vm.callN0 {host : String} (hd : decode X.2.1 pc = .ok (.invokestatic idx, 3)) (hn : pc + 3 = n) (hw : okN X.1.cls idx Y.1 host) (hY : okm Y np) (hlen : as.length = np) (hst : st = as.reverse ++ rest) (hroom : (rest.map mcat).sum ≤ 8) (hdd : d' + 1 ≤ d) (hC : Cx Y d' as M r1 M1) (k : Vm X d n lv (r1.toList ++ rest) M1 r M') : Vm X d pc lv st M r M' := by
  refine Vm.callB (M := M) (st := st) k hn ?_
  intro p l e R s m args below meth co D cA ad H locs ls C hP hD hS hl0
  refine ⟨(as.map (tv ad)).toArray, ?_⟩
  have hR := C.2.2.2.2.2.2.2.1
  refine va_runSN (As := as.map (tv ad)) (n := np) ⟨C.1, C.2.1, C.2.2.1, C.2.2.2.1, C.2.2.2.2.1⟩ (hC l D cA ad) ⟨va_cnB np C.2.2.2.2.1 (wsm_good hY) rfl rfl rfl (C.2.2.2.2.2.2.2.2.2.2.2.2.2.2.2.1 _ hw.1) (C.2.2.2.2.1 _ (List.mem_cons_of_mem _ hw.2.2)) hY.2.1 (by rw [hR]; exact rmd_fit hdd hY.2.2), C.2.2.2.2.1 _ (List.mem_cons_of_mem _ hw.2.1), trivial⟩ ⟨Pcm_blind, fun U hU hW => ⟨rfl, ctx_pre C hP hD hS U hU hW⟩⟩ rfl (by rw [List.length_map]; exact hlen) hl0.1 ?_ (lv_room (by rw [mcat_sum]; exact hroom)) hd ⟨by rw [hR]; exact Nat.le_refl _, by rw [hR]; exact Nat.le_refl _⟩
  rw [hst, List.map_append, List.map_reverse]
-- with an answer, and without
theorem Vm.callV {v : mv} (as : List mv) (hd : decode X.2.1 pc = .ok (.invokevirtual idx, 3)) (hn : pc + 3 = n) (hw : okV X.1.cls idx Y.1) (hY : okm Y np) (hlen : as.length = np) (hq : (c, i) ∈ allk) (hk : kcls c = some (ci, nf)) (hcl : (cq ci).1 = Y.1.cls) (hst : st = as.reverse ++ .inr (.inr (c, i)) :: rest) (hroom : (rest.map mcat).sum ≤ 8) (hdd : d' + 1 ≤ d) (hC : Cx Y d' (.inr (.inr (c, i)) :: as) M (some v) M1) (k : Vm X d n lv (v :: rest) M1 r M') : Vm X d pc lv st M r M' := Vm.callV0 hd hn hw hY hlen hq hk hcl hst hroom hdd hC k
theorem Vm.callVv (as : List mv) (hd : decode X.2.1 pc = .ok (.invokevirtual idx, 3)) (hn : pc + 3 = n) (hw : okV X.1.cls idx Y.1) (hY : okm Y np) (hlen : as.length = np) (hq : (c, i) ∈ allk) (hk : kcls c = some (ci, nf)) (hcl : (cq ci).1 = Y.1.cls) (hst : st = as.reverse ++ .inr (.inr (c, i)) :: rest) (hroom : (rest.map mcat).sum ≤ 8) (hdd : d' + 1 ≤ d) (hC : Cx Y d' (.inr (.inr (c, i)) :: as) M none M1) (k : Vm X d n lv rest M1 r M') : Vm X d pc lv st M r M' := Vm.callV0 hd hn hw hY hlen hq hk hcl hst hroom hdd hC k
theorem Vm.callS {v : mv} (as : List mv) (hd : decode X.2.1 pc = .ok (.invokestatic idx, 3)) (hn : pc + 3 = n) (hw : okS X.1.cls idx Y.1) (hY : okm Y np) (hlen : as.length = np) (hst : st = as.reverse ++ rest) (hroom : (rest.map mcat).sum ≤ 8) (hdd : d' + 1 ≤ d) (hC : Cx Y d' as M (some v) M1) (k : Vm X d n lv (v :: rest) M1 r M') : Vm X d pc lv st M r M' := Vm.callS0 hd hn hw hY hlen hst hroom hdd hC k
theorem Vm.callN {v : mv} {host : String} (as : List mv) (hd : decode X.2.1 pc = .ok (.invokestatic idx, 3)) (hn : pc + 3 = n) (hw : okN X.1.cls idx Y.1 host) (hY : okm Y np) (hlen : as.length = np) (hst : st = as.reverse ++ rest) (hroom : (rest.map mcat).sum ≤ 8) (hdd : d' + 1 ≤ d) (hC : Cx Y d' as M (some v) M1) (k : Vm X d n lv (v :: rest) M1 r M') : Vm X d pc lv st M r M' := Vm.callN0 hd hn hw hY hlen hst hroom hdd hC k
end VC1
