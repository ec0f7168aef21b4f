-- new cells, stores into arrays, calls
theorem gpush {D : va_G} {cA : Nat → ClassId} {b : Nat} {l : List gc} {c : gc} {H H1 : Heap} (hP : va_P D vwCl (gw cA b l) H) (ho : ∀ q, q < H.size → H1[q]? = H[q]?) (hn : va_at D vwCl (b + l.length, gce cA b c) H1) : va_P D vwCl (gw cA b (l ++ [c])) H1 := by
  rw [gw_push]
  have hk : ∀ (k : Nat) (x : Nat × va_E), (gw cA b l)[k]? = some x → H1[x.1]? = H[x.1]? := fun k x hx => ho x.1 ((hP k x hx).lt)
  refine (hP.kept hk).app (fun k x hx => ?_)
  have hz : k < 1 := (List.getElem?_eq_some_iff.mp hx).1
  rw [show k = 0 by omega] at hx
  cases hx
  exact hn
theorem gS_push {b : Nat} {H0 H H1 : Heap} {locs : List Loc} {z : Nat} (hS : va_S (gA b) H0 H locs) (hz : H1.size = H.size + z) (ho : ∀ q, q < H.size → H1[q]? = H[q]?) : va_S (gA b) H0 H1 locs :=
  ⟨by have := hS.1; omega, fun x h1 h2 => (ho x (Nat.lt_of_lt_of_le h1 hS.1)).trans (hS.2.1 x h1 h2), hS.2.2⟩
section GR2
variable {X Y : md} {d mc ms pc n' o k n d' mc' ms' : Nat} {lv lv' : List (Nat × gv)} {st : List gv} {E E' E2 : List gc}
theorem Gm.new {idx ci p0 N : Nat} {fs : List gv} (hd : decode X.2.1 pc = .ok (.new idx, 3)) (hn : pc + 3 = n') (hw : Cond.classLink X.1.cls idx (cq ci).1 ∈ tg ∧ Cond.instantiable (cq ci).1 N ∈ tg ∧ Cond.initialized (cq ci).1 ∈ tg) (h9 : ci < 9) (hN : (cq ci).2.2 = N) (hfs : ∀ b j, j < N → defaultValue (cty ci j) = vp_V (fs.map (gtv b)) j) (hp : p0 = o + E.length) (hk : k + 1 ≤ mc) (hm : n + N ≤ ms) (hE : E ++ [.inl (ci, fs)] = E2) (kk : Gm X d mc ms n' lv (.inr (some p0) :: st) o E2 (k + 1) (n + N) E') : Gm X d mc ms pc lv st o E k n E' := by
  subst hn
  subst hE
  subst hN
  intro p l e R s m args below meth c D cA b C H locs ls G hC hb hP hz hS hl0
  have hts := G.2.2.2.2.1
  have hR := G.2.2.2.2.2.2.2.1
  have hKn := G.2.2.2.2.2.2.2.2.1.1 ci _ (cq_at h9)
  have hin9 : ∀ w ∈ u_ws (cq ci).1 (cq ci).2.1 (cq ci).2.2, w ∈ wsm X := fun w hw => List.mem_cons_of_mem _ (uwg h9 w hw)
  have hp' : H.size = b + p0 := by rw [hz, List.length_append, hC, hp]
  refine W.newcK G.1 G.2.1 G.2.2.2.1 (hts _ (List.mem_cons_of_mem _ hw.1)) (hts _ (List.mem_cons_of_mem _ hw.2.1)) (hts _ (List.mem_cons_of_mem _ hw.2.2)) rfl hd (by rw [hR]; exact hk) (by rw [hR]; exact hm) hKn.2.1 hp' fun H1 kC hkC e1 z1 o1 => ?_
  refine kk p l e R s m args below meth c D cA b C H1 locs ls G hC hb ?_ ?_ (gS_push (z := 1) hS (by rw [z1, hp']) (fun q hq => o1 q (by rw [← hp']; exact hq))) hl0
  · rw [← List.append_assoc]
    refine gpush hP (fun q hq => o1 q (by rw [← hp']; exact hq)) ⟨_, cq_at h9, ?_⟩
    have e9 : b + (C ++ E).length = b + p0 := by rw [← hz, hp']
    show t_OB (b + (C ++ E).length) (D.1 ci) (cq ci).2.2 (D.2 ci) H1 (vp_V (fs.map (gtv b)))
    rw [e9]
    exact (u_born (cty ci) hts hin9 hKn hkC e1 (ctyo h9)).to (fun j hj => hfs b j hj)
  · rw [z1, hp, List.length_append, List.length_append, hC, List.length_singleton]
    omega
theorem Gm.newarr {x : Int32} {N t p0 : Nat} {atype : ArrayType} {ty : FieldType} (hd : decode X.2.1 pc = .ok (.newarray atype, 2)) (hn : pc + 2 = n') (hw : Cond.arrayClass ty ∈ tg) (hat : newarray.typeOf atype = ty) (hty : ∀ cA : Nat → ClassId, (tysw cA)[t]? = some (cA t, ty)) (hra : ∀ (U : State) (c : ClassId), va_RA U c ty → U.vm.findClass ("[" ++ ty.toString) = some c) (hcell : ∀ (cA : Nat → ClassId) (b : Nat), ∃ a0, gce cA b (.inr (.inl (t, N, []))) = .inl (cA t, a0) ∧ vp_cell (cA t) a0 = arrV (cA t) N (fun _ => defaultValue ty)) (hx0 : ¬ x < 0) (hxN : x.toNatClampNeg = N) (hby : N * componentBytes ty ≤ 536870912) (hp : p0 = o + E.length) (hk : k + 1 ≤ mc) (hm : n + N ≤ ms) (hE : E ++ [.inr (.inl (t, N, []))] = E2) (kk : Gm X d mc ms n' lv (.inr (some p0) :: st) o E2 (k + 1) (n + N) E') : Gm X d mc ms pc lv (.inl x :: st) o E k n E' := by
  subst hn
  subst hE
  subst hat
  subst hxN
  intro p l e R s m args below meth c D cA b C H locs ls G hC hb hP hz hS hl0
  have hR := G.2.2.2.2.2.2.2.1
  have hp' : H.size = b + p0 := by rw [hz, List.length_append, hC, hp]
  refine W.newa G.1 G.2.1 (G.2.2.2.2.1 _ (List.mem_cons_of_mem _ hw)) rfl hd rfl hx0 hby (by rw [hR]; exact hk) (by rw [hR]; exact hm) fun cA' kA comp h1 h2 h3 => ?_
  have hcA : cA t = cA' := Option.some.inj ((hra s _ (G.2.2.2.2.2.2.2.2.1.2 t _ (hty cA)).2).symm.trans h1)
  generalize hH1 : H.push ({ cls := cA', slots := Array.replicate x.toNatClampNeg (defaultValue (newarray.typeOf atype)), vm := .none } : Cell) = H1
  have z1 : H1.size = H.size + 1 := by rw [← hH1, Array.size_push]
  have e1 : H1[H.size]? = some (arrV cA' x.toNatClampNeg (fun _ => defaultValue (newarray.typeOf atype))) := by rw [← hH1, Array.getElem?_push_size, ← arrV_new]
  have o1 : ∀ q : Nat, q < H.size → H1[q]? = H[q]? := fun q hq => by rw [← hH1, Array.getElem?_push, if_neg (Nat.ne_of_lt hq)]
  have hgo := kk p l e R s m args below meth c D cA b C H1 locs ls G hC hb (by
    rw [← List.append_assoc]
    refine gpush hP o1 ?_
    obtain ⟨a0, g1, g2⟩ := hcell cA b
    rw [g1, ← hz]
    show H1[H.size]? = some (vp_cell (cA t) a0)
    rw [e1, g2, hcA]) (by rw [z1, hz, List.length_append, List.length_append, List.length_append, List.length_singleton]; omega) (gS_push (z := 1) hS z1 o1) hl0
  rw [show H.size = b + p0 from hp']
  exact hgo
theorem Gm.anew {x : Int32} {N t p0 idx : Nat} {cn : String} (hd : decode X.2.1 pc = .ok (.anewarray idx, 3)) (hn : pc + 3 = n') (hw : Cond.classLink X.1.cls idx cn ∈ tg) (hao : ∀ U, yt U → va_AO cn U) (hty : ∀ cA : Nat → ClassId, (tysw cA)[t]? = some (cA t, .object cn)) (hx0 : ¬ x < 0) (hxN : x.toNatClampNeg = N) (hby : N * 4 ≤ 536870912) (hp : p0 = o + E.length) (hk : k + 1 ≤ mc) (hm : n + N ≤ ms) (hE : E ++ [.inr (.inr (t, N, []))] = E2) (kk : Gm X d mc ms n' lv (.inr (some p0) :: st) o E2 (k + 1) (n + N) E') : Gm X d mc ms pc lv (.inl x :: st) o E k n E' := by
  subst hn
  subst hE
  subst hxN
  intro p l e R s m args below meth c D cA b C H locs ls G hC hb hP hz hS hl0
  have hR := G.2.2.2.2.2.2.2.1
  have hp' : H.size = b + p0 := by rw [hz, List.length_append, hC, hp]
  refine W.anew G.1 G.2.1 G.2.2.2.1 (G.2.2.2.2.1 _ (List.mem_cons_of_mem _ hw)) (va_AO.use (hao s G.2.2.2.2.2.2.2.2.2.1)) rfl hd rfl hx0 hby (by rw [hR]; exact hk) (by rw [hR]; exact hm) fun cA' kA comp f1 f2 f3 f4 => ?_
  obtain ⟨kA2, comp2, -, -, -, f5⟩ := (G.2.2.2.2.2.2.2.2.1.2 t _ (hty cA)).2
  have hcA : cA t = cA' := Option.some.inj (f5.symm.trans f1)
  generalize hH1 : H.push ({ cls := cA', slots := Array.replicate x.toNatClampNeg .null, vm := .none } : Cell) = H1
  have z1 : H1.size = H.size + 1 := by rw [← hH1, Array.size_push]
  have e1 : H1[H.size]? = some (arrV cA' x.toNatClampNeg (fun _ => .null)) := by rw [← hH1, Array.getElem?_push_size, ← arrV_new]
  have o1 : ∀ q : Nat, q < H.size → H1[q]? = H[q]? := fun q hq => by rw [← hH1, Array.getElem?_push, if_neg (Nat.ne_of_lt hq)]
  have hgo := kk p l e R s m args below meth c D cA b C H1 locs ls G hC hb (by
    rw [← List.append_assoc]
    refine gpush hP o1 ?_
    rw [← hz]
    show H1[H.size]? = some (vp_cell (cA t) (x.toNatClampNeg, .inr (.inr (.inr (.inr (fun j => ((([] : List (Option Nat)).getD j none).map (fun p => b + p))))))))
    rw [e1, hcA]
    rfl) (by rw [z1, hz, List.length_append, List.length_append, List.length_append, List.length_singleton]; omega) (gS_push (z := 1) hS z1 o1) hl0
  rw [show H.size = b + p0 from hp']
  exact hgo
theorem gin {i : Int32} {N j : Nat} (h0 : ¬ i < 0) (hj : i.toNatClampNeg = j) (hN : j < N) : vp_in i N := by
  rintro (q | q)
  · exact h0 q
  · omega
theorem Gm.iast {p0 k0 N j : Nat} {i x : Int32} {l9 l8 : List Int32} (hd : decode X.2.1 pc = .ok (.iastore, 1)) (hn : pc + 1 = n') (hp : p0 = o + k0) (he : E[k0]? = some (.inr (.inl (0, N, l9)))) (h0 : ¬ i < 0) (hj : i.toNatClampNeg = j) (hN : j < N) (hl : lup 0 l9 j x = l8) (hE : E.set k0 (.inr (.inl (0, N, l8))) = E2) (kk : Gm X d mc ms n' lv st o E2 k n E') : Gm X d mc ms pc lv (.inl x :: .inl i :: .inr (some p0) :: st) o E k n E' := by
  subst hn
  subst hp
  subst hE
  subst hl
  intro p l e R s m args below meth c D cA b C H locs ls G hC hb hP hz hS hl0
  have he9 := hP (o + k0) _ (gw_at (catE hC he))
  have hA := (G.2.2.2.2.2.2.2.2.1.2 0 _ rfl).1 N (fun j => .int (l9.getD j 0))
  have hcell : H[b + (o + k0)]? = some (arrV (cA 0) N (fun j => .int (l9.getD j 0))) := he9
  refine W.iast G.1 G.2.1 hcell hA (fun q => by cases q) (by show ¬ (i < 0 ∨ (arrV _ _ _).slots.size ≤ _); rw [arrV_size]; exact gin h0 hj hN) rfl rfl hd fun H1 e1 z1 o1 => ?_
  refine kk p l e R s m args below meth c D cA b C H1 _ ls G hC hb ?_ (by rw [z1, hz, ← catS hC, List.length_set]) (hS.put z1 o1 (Nat.le_add_right _ _)) hl0
  rw [← catS hC]
  refine gset hP (catE hC he) ?_ o1
  show H1[b + (o + k0)]? = some (vp_cell (cA 0) (N, .inl (fun j' => (lup 0 l9 j x).getD j' 0)))
  rw [e1, hj, vp_cell_i, arrV_store]
  congr 2
  funext j'
  rw [lup_at]
  unfold updV
  by_cases h9 : j' = j
  · rw [if_pos h9, if_pos h9]
    try rfl
  · rw [if_neg h9, if_neg h9]
theorem Gm.cast {p0 k0 N j : Nat} {i x y : Int32} {l9 l8 : List Int32} (hd : decode X.2.1 pc = .ok (.castore, 1)) (hn : pc + 1 = n') (hp : p0 = o + k0) (he : E[k0]? = some (.inr (.inl (3, N, l9)))) (h0 : ¬ i < 0) (hj : i.toNatClampNeg = j) (hN : j < N) (hy : narrow .char (.int x) = .int y) (hl : lup 0 l9 j y = l8) (hE : E.set k0 (.inr (.inl (3, N, l8))) = E2) (kk : Gm X d mc ms n' lv st o E2 k n E') : Gm X d mc ms pc lv (.inl x :: .inl i :: .inr (some p0) :: st) o E k n E' := by
  subst hn
  subst hp
  subst hE
  subst hl
  intro p l e R s m args below meth c D cA b C H locs ls G hC hb hP hz hS hl0
  have he9 := hP (o + k0) _ (gw_at (catE hC he))
  have hA := (G.2.2.2.2.2.2.2.2.1.2 3 _ rfl).1 N (fun j => .int (l9.getD j 0))
  have hcell : H[b + (o + k0)]? = some (arrV (cA 3) N (fun j => .int (l9.getD j 0))) := he9
  refine W.cast G.1 G.2.1 hcell hA (fun q => by cases q) (by show ¬ (i < 0 ∨ (arrV _ _ _).slots.size ≤ _); rw [arrV_size]; exact gin h0 hj hN) rfl rfl hd fun H1 e1 z1 o1 => ?_
  refine kk p l e R s m args below meth c D cA b C H1 _ ls G hC hb ?_ (by rw [z1, hz, ← catS hC, List.length_set]) (hS.put z1 o1 (Nat.le_add_right _ _)) hl0
  rw [← catS hC]
  refine gset hP (catE hC he) ?_ o1
  show H1[b + (o + k0)]? = some (vp_cell (cA 3) (N, .inl (fun j' => (lup 0 l9 j y).getD j' 0)))
  rw [e1, hj, vp_cell_i, hy, arrV_store]
  congr 2
  funext j'
  rw [lup_at]
  unfold updV
  by_cases h9 : j' = j
  · rw [if_pos h9, if_pos h9]
    try rfl
  · rw [if_neg h9, if_neg h9]
theorem Gm.aast {p0 k0 q0 q1 N j t ci : Nat} {i : Int32} {fs : List gv} {l9 l8 : List (Option Nat)} (hd : decode X.2.1 pc = .ok (.aastore, 1)) (hn : pc + 1 = n') (hp : p0 = o + k0) (he : E[k0]? = some (.inr (.inr (t, N, l9)))) (hq : q0 = o + q1) (he1 : E[q1]? = some (.inl (ci, fs))) (h9 : ci < 9) (hty : ∀ cA : Nat → ClassId, (tysw cA)[t]? = some (cA t, .object (cq ci).1)) (h0 : ¬ i < 0) (hj : i.toNatClampNeg = j) (hN : j < N) (hl : lup none l9 j (some q0) = l8) (hE : E.set k0 (.inr (.inr (t, N, l8))) = E2) (kk : Gm X d mc ms n' lv st o E2 k n E') : Gm X d mc ms pc lv (.inr (some q0) :: .inl i :: .inr (some p0) :: st) o E k n E' := by
  subst hn
  subst hp
  subst hE
  subst hl
  subst hq
  intro p l e R s m args below meth c D cA b C H locs ls G hC hb hP hz hS hl0
  have hK := G.2.2.2.2.2.2.2.2.1
  have hcell : H[b + (o + k0)]? = some (arrV (cA t) N (fun j => va_rf ((l9.getD j none).map (fun p => b + p)))) := hP (o + k0) _ (gw_at (catE hC he))
  obtain ⟨cellV, g1, g2, g3, -⟩ := gobj h9 hP (catE hC he1)
  have hcls := (hK.1 ci _ (cq_at h9)).2
  obtain ⟨kA, comp, k1, k2, k3, -⟩ := (hK.2 t _ (hty cA)).2
  have hcomp : comp = D.1 ci := Option.some.inj (k3.symm.trans hcls.1)
  subst hcomp
  obtain ⟨kC, hkC, -⟩ := hcls.2
  refine W.aast G.1 G.2.1 hcell (fun q h => by cases h) (fun h => by cases h) k1 k2 rfl hkC ⟨h0, by show _ < (arrV _ _ _).slots.size; rw [arrV_size, hj]; exact hN⟩ g1 (fun q h => by rw [g3] at h; cases h) (by rw [g2]; exact hkC) (by rw [g2]; exact va_assign hcls) rfl rfl hd fun H1 e1 z1 o1 => ?_
  refine kk p l e R s m args below meth c D cA b C H1 _ ls G hC hb ?_ (by rw [z1, hz, ← catS hC, List.length_set]) (hS.put z1 o1 (Nat.le_add_right _ _)) hl0
  rw [← catS hC]
  refine gset hP (catE hC he) ?_ o1
  show H1[b + (o + k0)]? = some (vp_cell (cA t) (N, .inr (.inr (.inr (.inr (fun j' => ((lup none l9 j (some (o + q1))).getD j' none).map (fun p => b + p)))))))
  rw [e1, hj, vp_cell_q, arrV_store]
  congr 2
  funext j'
  rw [lup_at]
  unfold updV
  by_cases h9 : j' = j
  · rw [if_pos h9, if_pos h9]
    try rfl
  · rw [if_neg h9, if_neg h9]
theorem Gm.aald {p0 k0 q N j t : Nat} {i : Int32} {ty : FieldType} {l9 : List (Option Nat)} (hd : decode X.2.1 pc = .ok (.aaload, 1)) (hn : pc + 1 = n') (hp : p0 = o + k0) (he : E[k0]? = some (.inr (.inr (t, N, l9)))) (hty : ∀ cA : Nat → ClassId, (tysw cA)[t]? = some (cA t, ty)) (hrk : refKind ty = true) (h0 : ¬ i < 0) (hj : i.toNatClampNeg = j) (hN : j < N) (hq : l9.getD j none = some q) (kk : Gm X d mc ms n' lv (.inr (some q) :: st) o E k n E') : Gm X d mc ms pc lv (.inl i :: .inr (some p0) :: st) o E k n E' := by
  subst hn
  subst hp
  intro p l e R s m args below meth c D cA b C H locs ls G hC hb hP hz hS hl0
  have hcell : H[b + (o + k0)]? = some (arrV (cA t) N (fun j => va_rf ((l9.getD j none).map (fun p => b + p)))) := hP (o + k0) _ (gw_at (catE hC he))
  refine W.aald (v := .ref (b + q)) (ty := ty) G.1 G.2.1 hcell ((G.2.2.2.2.2.2.2.2.1.2 t _ (hty cA)).1 N _) hrk (fun q => by cases q) (by show ¬ (i < 0 ∨ (arrV _ _ _).slots.size ≤ _); rw [arrV_size]; exact gin h0 hj hN) (by show (arrV _ _ _).slots[_]? = _; rw [hj, arrV_read _ _ hN, hq]; rfl) rfl rfl hd (kk p l e R s m args below meth c D cA b C H locs ls G hC hb hP hz hS hl0)
-- calls of makers
end GR2
theorem aaUse {ty : FieldType} {a : Array Value} {U : State} (h : va_Nw (.arrayOver ty) U) : (Cond.arrayOver ty).before a U = true := by
  first
    | exact h
    | (unfold va_Nw at h; simpa [Cond.before, Cond.holds, Cond.value] using h)
theorem aaSame {ty : FieldType} {u U : State} (hv : u.vm = U.vm) (h : va_Nw (.arrayOver ty) u) : va_Nw (.arrayOver ty) U := by
  unfold va_Nw at h ⊢
  simp only [Cond.before, Cond.holds, Cond.value] at h ⊢
  rw [← hv]
  exact h
theorem aaMoved {ty : FieldType} {s U : State} (hA : s.vm.Alike U.vm) (h : va_Nw (.arrayOver ty) s) : va_Nw (.arrayOver ty) U := by
  have h1 : va_Nw (.arrayOver ty) (s.setVm U.vm) := by
    unfold va_Nw
    rw [Cond.arrayOver_setVmC hA]
    exact h
  exact aaSame rfl h1
theorem Pcg_blind {D : va_G} {cA : Nat → ClassId} {b : Nat} {as : List gv} {C E : List gc} : FrameBlind (Pcg D cA b as C E) := by
  intro a U g mk h
  obtain ⟨h1, h2, h3, h4, h5, h6, h7, h8, h9⟩ := h
  exact ⟨h1, h2, h3, va_K.moved (u := U) (U := U.calling g mk a) (Vm.Alike.refl U.vm) h4, va_AO.moved (u := U) (Vm.Alike.refl U.vm) h5, va_AO.moved (u := U) (Vm.Alike.refl U.vm) h6, aaSame (u := U) rfl h7, aaSame (u := U) rfl h8, fun q hq => va_Nw.same (u := U) rfl rfl (h9 q hq)⟩
theorem yt.warm {s U : State} (hW : s.WarmedH U.vm) (h : yt s) : yt U := ⟨va_AO.moved hW.alike h.1, va_AO.moved hW.alike h.2.1, aaMoved hW.alike h.2.2.1, aaMoved hW.alike h.2.2.2.1, fun q hq => va_Nw.warmM hW (h.2.2.2.2 q hq)⟩
theorem rmg_fit {a b ml mc ms mc' ms' : Nat} (h : a + 1 ≤ b) (hm : ml ≤ 29) : (rmg a mc' ms').frames + 1 ≤ (rmg b mc ms).frames ∧ 8 + (ml + 11) + (rmg a mc' ms').locals ≤ (rmg b mc ms).locals := by
  refine ⟨h, ?_⟩
  show 8 + (ml + 11) + 48 * a ≤ 48 * b
  omega
theorem gcat (b : Nat) (l : List gv) : ((l.map (gtv b)).map fun v => v.category).sum = l.length := by
  induction l with
  | nil => rfl
  | cons a l ih => rw [List.map_cons, List.map_cons, List.sum_cons, ih, gtv_cat, List.length_cons]; omega
section GR3
variable {X Y : md} {d mc ms pc n' o k n d' mc' ms' idx np : Nat} {lv : List (Nat × gv)} {st : List gv} {E E' E1 E2 E3 E4 : List gc}
theorem gpre {p : Program} {R : Room} {s : State} {m : MethodId} {args : Array Value} {meth : Method} {co : Code} {D : va_G} {cA : Nat → ClassId} {b : Nat} {C : List gc} {H : Heap} {as : List gv} (G : gctx X d mc ms p R s m args meth co D cA) (hP : va_P D vwCl (gw cA b (C ++ E)) H) (hz : H.size = b + (C ++ E).length) (hE : E = E1 ++ E3) (U : State) (hU : U.heap = H) (hW : s.WarmedH U.vm) : Pcg D cA b as (C ++ E1) E3 (as.map (gtv b)).toArray U := by
  subst hE
  rw [← List.append_assoc] at hP hz
  exact ⟨rfl, by rw [hU]; exact hP, by rw [hU]; exact hz, va_K.moved hW.alike G.2.2.2.2.2.2.2.2.1, yt.warm hW G.2.2.2.2.2.2.2.2.2.1⟩
/-- behind a maker's call -/
theorem Gm.callB (hn : pc + 3 = n') (hE2 : E2 = E1 ++ E4) (st0 : List gv) (kk : Gm X d mc ms n' lv st o E2 (k + mc') (n + ms') E')
    (run : ∀ (p : Program) (l : Launch) (e : Env) (R : Room) (s : State) (m : MethodId) (args : Array Value) (below : List Frame) (meth : Method) (c : Code) (D : va_G) (cA : Nat → ClassId) (b : Nat) (C : List gc) (H : Heap) (locs : List Loc) (ls : Array Slot),
      gctx X d mc ms p R s m args meth c D cA → C.length = o → va_P D vwCl (gw cA b (C ++ E)) H → H.size = b + (C ++ E).length → lv_has ls X.2.2.1 (lmg b lv) → ∃ av, va_Run p l e R s m args below meth c H locs k n mc' ms' (F0 m pc ls (st0.map (gtv b))) (st.map (gtv b)) (Qcg D cA b (C ++ E1) E4 av) (gA b)) : Gm X d mc ms pc lv st0 o E k n E' := by
  subst hn
  subst hE2
  intro p l e R s m args below meth c D cA b C H locs ls G hC hb hP hz hS hl0 T hT X0
  obtain ⟨av, hrun⟩ := run p l e R s m args below meth c D cA b C H locs ls G hC hP hz hl0
  obtain ⟨v, st₀, t, T', L, h0, X', hL, e1, e2, ⟨hv, hP1, hz1, hzz, hk⟩, go⟩ := hrun T hT X0
  have hv : v = none := by injection hv
  subst hv
  rw [h0] at hzz hk
  have hS1 : va_S (gA b) s.heap T'.heap (locs ++ L) := ⟨Nat.le_trans hS.1 (by rw [e1]; exact hzz), fun q h1 h2 => by rw [e1, hk q (Nat.lt_of_lt_of_le h1 hS.1) h2]; exact hS.2.1 q h1 h2, fun q hq => by
      rcases List.mem_append.mp hq with h | h
      · exact hS.2.2 q h
      · exact hL q h⟩
  obtain ⟨t2, a1, b1⟩ := kk p l e R s m args below meth c D cA b C T'.heap (locs ++ L) ls G hC hb (by rw [e1, ← List.append_assoc]; exact hP1) (by rw [e1, ← List.append_assoc]; exact hz1) hS1 hl0 T' rfl X'
  exact ⟨t2, go t2 a1, b1⟩
theorem Gm.callI {p0 C0 : Nat} (hd : decode X.2.1 pc = .ok (.invokespecial idx, 3)) (hn : pc + 3 = n') (hl : Cond.methodLink X.1.cls idx Y.1 ∈ tg) (hi : Cond.instanceMethod Y.1 ∈ tg) (hni : Cond.initialized Y.1.cls ∈ tg) (hY : okm Y 0) (hy1 : Y.1.name = "<init>") (hyr : Y.2.2.2 = none) (hst : st.length ≤ 8) (hdd : d' + 1 ≤ d) (hk : k + mc' ≤ mc) (hm : n + ms' ≤ ms) (hE : E = E1 ++ E3) (ho : C0 = o + E1.length) (hG : Gx Y d' mc' ms' [.inr (some p0)] C0 E3 E4) (hE2 : E2 = E1 ++ E4) (kk : Gm X d mc ms n' lv st o E2 (k + mc') (n + ms') E') : Gm X d mc ms pc lv (.inr (some p0) :: st) o E k n E' := by
  refine Gm.callB hn hE2 _ kk ?_
  intro p l e R s m args below meth c D cA b C H locs ls G hC hP hz hl0
  have hR := G.2.2.2.2.2.2.2.1
  have hts := G.2.2.2.2.1
  refine ⟨[Value.ref (b + p0)].toArray, ?_⟩
  refine va_runI (bytes := Y.2.1) (maxL := Y.2.2.1) (b := b + p0) (As := []) (n := 0) ⟨G.1, G.2.1, G.2.2.1, G.2.2.2.1, hts⟩ (hG l D cA b (C ++ E1) (by rw [List.length_append, hC, ho])) ⟨?_, hy1, hts _ (List.mem_cons_of_mem _ hi)⟩ ⟨Pcg_blind, fun U hU hW => gpre G hP hz hE U hU hW⟩ rfl rfl hl0.1 rfl (lv_room (by rw [gcat]; exact hst)) hd ⟨by rw [hR]; exact hk, by rw [hR]; exact hm⟩
  rw [← hyr]
  exact callB_of 0 hts (wsm_good hY) rfl rfl rfl (hts _ (List.mem_cons_of_mem _ hni)) (hts _ (List.mem_cons_of_mem _ hl)) hY.2.1 (by rw [hR]; exact rmg_fit hdd hY.2.2)
theorem Gm.callN {p0 C0 : Nat} {host : String} (hd : decode X.2.1 pc = .ok (.invokespecial idx, 3)) (hn : pc + 3 = n') (hl : (X.1.cls, idx, Y.1, host) ∈ ynM) (hi : Cond.instanceMethod Y.1 ∈ tg) (hni : Cond.initialized Y.1.cls ∈ tg) (hY : okm Y 0) (hy1 : Y.1.name = "<init>") (hyr : Y.2.2.2 = none) (hst : st.length ≤ 8) (hdd : d' + 1 ≤ d) (hk : k + mc' ≤ mc) (hm : n + ms' ≤ ms) (hE : E = E1 ++ E3) (ho : C0 = o + E1.length) (hG : Gx Y d' mc' ms' [.inr (some p0)] C0 E3 E4) (hE2 : E2 = E1 ++ E4) (kk : Gm X d mc ms n' lv st o E2 (k + mc') (n + ms') E') : Gm X d mc ms pc lv (.inr (some p0) :: st) o E k n E' := by
  refine Gm.callB hn hE2 _ kk ?_
  intro p l e R s m args below meth c D cA b C H locs ls G hC hP hz hl0
  have hR := G.2.2.2.2.2.2.2.1
  have hts := G.2.2.2.2.1
  refine ⟨[Value.ref (b + p0)].toArray, ?_⟩
  refine va_runIN (bytes := Y.2.1) (maxL := Y.2.2.1) (host := host) (b := b + p0) (As := []) (n := 0) ⟨G.1, G.2.1, G.2.2.1, G.2.2.2.1, hts⟩ (hG l D cA b (C ++ E1) (by rw [List.length_append, hC, ho])) ⟨?_, hy1, hts _ (List.mem_cons_of_mem _ hi)⟩ ⟨Pcg_blind, fun U hU hW => gpre G hP hz hE U hU hW⟩ rfl rfl hl0.1 rfl (lv_room (by rw [gcat]; exact hst)) hd ⟨by rw [hR]; exact hk, by rw [hR]; exact hm⟩
  rw [← hyr]
  exact va_cnB 0 hts (wsm_good hY) rfl rfl rfl (G.2.2.2.2.2.2.2.2.2.1.2.2.2.2 _ hl) (hts _ (List.mem_cons_of_mem _ hni)) hY.2.1 (by rw [hR]; exact rmg_fit hdd hY.2.2)
theorem Gm.callV {p0 k0 ci : Nat} {fs : List gv} (hd : decode X.2.1 pc = .ok (.invokevirtual idx, 3)) (hn : pc + 3 = n') (hw : okV X.1.cls idx Y.1) (hY : okm Y 0) (hyr : Y.2.2.2 = none) (hp : p0 = o + k0) (he : E[k0]? = some (.inl (ci, fs))) (h9 : ci < 9) (hcl : (cq ci).1 = Y.1.cls) (hst : st.length ≤ 8) (hdd : d' + 1 ≤ d) (hk : k + mc' ≤ mc) (hm : n + ms' ≤ ms) (hG : Gx Y d' mc' ms' [.inr (some p0)] o E E2) (kk : Gm X d mc ms n' lv st o E2 (k + mc') (n + ms') E') : Gm X d mc ms pc lv (.inr (some p0) :: st) o E k n E' := by
  refine Gm.callB (E1 := []) (E4 := E2) hn rfl _ kk ?_
  intro p l e R s m args below meth c D cA b C H locs ls G hC hP hz hl0
  have hR := G.2.2.2.2.2.2.2.1
  have hts := G.2.2.2.2.1
  subst hp
  refine ⟨[Value.ref (b + (o + k0))].toArray, ?_⟩
  rw [List.append_nil]
  refine va_runV (bytes := Y.2.1) (maxL := Y.2.2.1) (ret := none) (C := Y.1.cls) (b := b + (o + k0)) (As := []) (n := 0) ⟨G.1, G.2.1, G.2.2.1, G.2.2.2.1, hts⟩ (hG l D cA b C hC) ⟨?_, hts _ (List.mem_cons_of_mem _ hw.2.1), hts _ (List.mem_cons_of_mem _ hw.2.2.1)⟩ ⟨Pcg_blind, ?_, fun U hU hW => ?_⟩ rfl rfl hl0.1 rfl (lv_room (by rw [gcat]; exact hst)) hd ⟨by rw [hR]; exact hk, by rw [hR]; exact hm⟩
  · rw [← hyr]
    exact callB_of 0 hts (wsm_good hY) rfl rfl rfl (hts _ (List.mem_cons_of_mem _ hw.2.2.2)) (hts _ (List.mem_cons_of_mem _ hw.1)) hY.2.1 (by rw [hR]; exact rmg_fit hdd hY.2.2)
  · rw [← hcl]
    exact va_recv G.2.2.2.2.2.2.2.2.1 hP (cq_at h9) (gw_at (catE hC he))
  · have := gpre (as := [.inr (some (o + k0))]) G hP hz (E1 := []) (E3 := E) rfl U hU hW
    rw [List.append_nil] at this
    exact this
end GR3
