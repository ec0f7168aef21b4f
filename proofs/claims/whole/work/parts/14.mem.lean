-- fields and arrays
def cq (ci : Nat) : vw_C := match ci with
  | 0 => (RX0, TX0, 6) | 1 => (RX1, TX1, 11) | 2 => (RX2, TX2, 7) | 3 => (RX3, TX3, 6) | 4 => (RX4, TX4, 4) | 5 => (RX5, TX5, 3) | 6 => (RX6, TX6, 8) | 7 => (RX7, TX7, 11) | _ => (RX8, TX8, 42)
def cty (ci : Nat) : Nat → FieldType := match ci with
  | 0 => tyX0 | 1 => tyX1 | 2 => tyX2 | 3 => tyX3 | 4 => tyX4 | 5 => tyX5 | 6 => tyX6 | 7 => tyX7 | _ => tyX8
theorem cq_of {c ci nf : Nat} (h : kcls c = some (ci, nf)) : ci < 9 ∧ nf = (cq ci).2.2 := by
  unfold kcls at h
  split at h <;> cases h <;> exact ⟨by decide, rfl⟩
theorem cq_at {ci : Nat} (h : ci < 9) : vwCl[ci]? = some ((cq ci).1, (cq ci).2.1, (cq ci).2.2) := by
  rcases (show ci = 0 ∨ ci = 1 ∨ ci = 2 ∨ ci = 3 ∨ ci = 4 ∨ ci = 5 ∨ ci = 6 ∨ ci = 7 ∨ ci = 8 by omega) with rfl | rfl | rfl | rfl | rfl | rfl | rfl | rfl | rfl <;> rfl
theorem uwg0 : ∀ w ∈ u_ws RX0 TX0 6, w ∈ tg := by decide +kernel
theorem uwg1 : ∀ w ∈ u_ws RX1 TX1 11, w ∈ tg := by decide +kernel
theorem uwg2 : ∀ w ∈ u_ws RX2 TX2 7, w ∈ tg := by decide +kernel
theorem uwg3 : ∀ w ∈ u_ws RX3 TX3 6, w ∈ tg := by decide +kernel
theorem uwg4 : ∀ w ∈ u_ws RX4 TX4 4, w ∈ tg := by decide +kernel
theorem uwg5 : ∀ w ∈ u_ws RX5 TX5 3, w ∈ tg := by decide +kernel
theorem uwg6 : ∀ w ∈ u_ws RX6 TX6 8, w ∈ tg := by decide +kernel
theorem uwg7 : ∀ w ∈ u_ws RX7 TX7 11, w ∈ tg := by decide +kernel
theorem uwg8 : ∀ w ∈ u_ws RX8 TX8 42, w ∈ tg := by decide +kernel
theorem uwg {ci : Nat} (h : ci < 9) : ∀ w ∈ u_ws (cq ci).1 (cq ci).2.1 (cq ci).2.2, w ∈ tg := by
  rcases (show ci = 0 ∨ ci = 1 ∨ ci = 2 ∨ ci = 3 ∨ ci = 4 ∨ ci = 5 ∨ ci = 6 ∨ ci = 7 ∨ ci = 8 by omega) with rfl | rfl | rfl | rfl | rfl | rfl | rfl | rfl | rfl
  · exact uwg0
  · exact uwg1
  · exact uwg2
  · exact uwg3
  · exact uwg4
  · exact uwg5
  · exact uwg6
  · exact uwg7
  · exact uwg8
theorem cnm {ci : Nat} (h : ci < 9) : ∀ a, a < (cq ci).2.2 → ∀ b, b < (cq ci).2.2 → a ≠ b → ((cq ci).2.1 a).2.1 ≠ ((cq ci).2.1 b).2.1 := by
  rcases (show ci = 0 ∨ ci = 1 ∨ ci = 2 ∨ ci = 3 ∨ ci = 4 ∨ ci = 5 ∨ ci = 6 ∨ ci = 7 ∨ ci = 8 by omega) with rfl | rfl | rfl | rfl | rfl | rfl | rfl | rfl | rfl
  · exact nmX0
  · exact nmX1
  · exact nmX2
  · exact nmX3
  · exact nmX4
  · exact nmX5
  · exact nmX6
  · exact nmX7
  · exact nmX8
theorem ctyo {ci : Nat} (h : ci < 9) : ∀ k, k < (cq ci).2.2 → parseFieldDescriptor ((cq ci).2.1 k).2.2.1 = some (cty ci k) := by
  rcases (show ci = 0 ∨ ci = 1 ∨ ci = 2 ∨ ci = 3 ∨ ci = 4 ∨ ci = 5 ∨ ci = 6 ∨ ci = 7 ∨ ci = 8 by omega) with rfl | rfl | rfl | rfl | rfl | rfl | rfl | rfl | rfl
  · exact tyX0_ok
  · exact tyX1_ok
  · exact tyX2_ok
  · exact tyX3_ok
  · exact tyX4_ok
  · exact tyX5_ok
  · exact tyX6_ok
  · exact tyX7_ok
  · exact tyX8_ok
/-- the word that an instruction of a class links a field by -/
def fw (own : String) (idx ci j : Nat) : Cond := .fieldLink own idx ((cq ci).2.1 j).1 ((cq ci).2.1 j).2.1 ((cq ci).2.1 j).2.2.1
theorem cel_o {cA : Nat → ClassId} {ad : Nat → Nat → Nat} {M : mm × mm} {c i ci nf : Nat} (h : kcls c = some (ci, nf)) : cel cA ad M c i = .inr (ci, (List.range nf).map (fun j => fcel ad M c i j)) := by
  unfold cel
  rw [h]
theorem cel_a {cA : Nat → ClassId} {ad : Nat → Nat → Nat} {M : mm × mm} {c i : Nat} (h : kcls c = none) : cel cA ad M c i = .inl (cA (karr c).1, (karr c).2, acel ad M c i) := by
  unfold cel
  rw [h]
theorem range_at {α : Type} {f : Nat → α} {j nf : Nat} (h : j < nf) : ((List.range nf).map f)[j]? = some (f j) := by
  rw [List.getElem?_map, List.getElem?_range h]
  rfl
section VM1
variable {X : md} {d pc n : Nat} {lv : List (Nat × mv)} {st : List mv} {M M' M2 : mm × mm} {r : Option mv} {c i j ci nf idx : Nat}
theorem Vm.getV {v : mv} (hd : decode X.2.1 pc = .ok (.getfield idx, 3)) (hn : pc + 3 = n) (hw : fw X.1.cls idx ci j ∈ tg) (hq : (c, i) ∈ allk) (hk : kcls c = some (ci, nf)) (hj : j < nf) (hv : ∀ ad, fcel ad M c i j = tv ad v) (k : Vm X d n lv (v :: st) M r M') : Vm X d pc lv (.inr (.inr (c, i)) :: st) M r M' := by
  subst hn
  intro p l e R s m args below meth co D cA ad H locs ls C hP hD hS hl0
  obtain ⟨h9, rfl⟩ := cq_of hk
  obtain ⟨q0, -, he⟩ := wl_at (cA := cA) (ad := ad) (M := M) hq
  rw [cel_o hk] at he
  exact va_get (D := D) (own := X.1.cls) (C := (cq ci).1) (T := (cq ci).2.1) (N := (cq ci).2.2) C.1 C.2.1 C.2.2.2.2.1 (fun w hw => List.mem_cons_of_mem _ (uwg h9 w hw)) C.2.2.2.1 C.2.2.2.2.2.2.2.2.1 hP q0 he (cq_at h9) j hj (C.2.2.2.2.1 _ (List.mem_cons_of_mem _ hw)) (fun _ h => h) ((range_at hj).trans (congrArg some (hv ad))) hd (k p l e R s m args below meth co D cA ad H locs ls C hP hD hS hl0)
theorem Vm.getX (hd : decode X.2.1 pc = .ok (.getfield idx, 3)) (hn : pc + 3 = n) (hw : fw X.1.cls idx ci j ∈ tg) (hq : (c, i) ∈ allk) (hk : kcls c = some (ci, nf)) (hj : j < nf) (hr : kref c i j = none) (hc : c < 32) (k : Vm X d n lv (.inl (M.1.1 c i j) :: st) M r M') : Vm X d pc lv (.inr (.inr (c, i)) :: st) M r M' :=
  Vm.getV hd hn hw hq hk hj (fun ad => by unfold fcel; rw [hr, gI_x M hc]; rfl) k
theorem Vm.getM (hd : decode X.2.1 pc = .ok (.getfield idx, 3)) (hn : pc + 3 = n) (hw : fw X.1.cls idx ci j ∈ tg) (hq : (c, i) ∈ allk) (hk : kcls c = some (ci, nf)) (hj : j < nf) (hr : kref c i j = none) (hc : ¬ c < 32) (k : Vm X d n lv (.inl (M.2.1 c i j) :: st) M r M') : Vm X d pc lv (.inr (.inr (c, i)) :: st) M r M' :=
  Vm.getV hd hn hw hq hk hj (fun ad => by unfold fcel; rw [hr, gI_m M hc]; rfl) k
theorem Vm.getR {q : Nat × Nat} (hd : decode X.2.1 pc = .ok (.getfield idx, 3)) (hn : pc + 3 = n) (hw : fw X.1.cls idx ci j ∈ tg) (hq : (c, i) ∈ allk) (hk : kcls c = some (ci, nf)) (hj : j < nf) (hr : kref c i j = some q) (k : Vm X d n lv (.inr (.inr q) :: st) M r M') : Vm X d pc lv (.inr (.inr (c, i)) :: st) M r M' :=
  Vm.getV hd hn hw hq hk hj (fun ad => by unfold fcel; rw [hr]; rfl) k
theorem Vm.putV {v : Int32} {ty : FieldType} (hd : decode X.2.1 pc = .ok (.putfield idx, 3)) (hn : pc + 3 = n) (hw : fw X.1.cls idx ci j ∈ tg) (hq : (c, i) ∈ allk) (hk : kcls c = some (ci, nf)) (hj : j < nf) (hfin : ((cq ci).2.1 j).2.2.2 = false) (hty : cty ci j = ty) (hna : narrow ty (.int v) = .int v) (hfi : fits ty (.int v) = true)
    (hx : ∀ (cA : Nat → ClassId) (ad : Nat → Nat → Nat) c' i', (c', i') ≠ (c, i) → cel cA ad M c' i' = cel cA ad M2 c' i') (hf : ∀ ad j', fcel ad M2 c i j' = if j' = j then .int v else fcel ad M c i j') (k : Vm X d n lv st M2 r M') : Vm X d pc lv (.inl v :: .inr (.inr (c, i)) :: st) M r M' := by
  subst hn
  intro p l e R s m args below meth co D cA ad H locs ls C hP hD hS hl0
  obtain ⟨h9, rfl⟩ := cq_of hk
  obtain ⟨q0, hq0, he⟩ := wl_at (cA := cA) (ad := ad) (M := M) hq
  rw [cel_o hk] at he
  have hset : (wl cA ad M).set q0 (ad c i, .inr (ci, ((List.range (cq ci).2.2).map (fun j => fcel ad M c i j)).set j (.int v))) = wl cA ad M2 := by
    rw [← wl_set hq0 (hx cA ad), cel_o hk]
    congr 4
    apply List.ext_getElem?
    intro j'
    rw [List.getElem?_set]
    by_cases hjj : j = j'
    · subst hjj
      rw [if_pos rfl, if_pos (by simpa using hj), range_at hj, hf, if_pos rfl]
    · rw [if_neg hjj, List.getElem?_map, List.getElem?_map]
      cases hy : (List.range (cq ci).2.2)[j']? with
      | none => rfl
      | some y =>
        have : y = j' := by
          have h1 := List.getElem?_eq_some_iff.mp hy
          obtain ⟨h2, h3⟩ := h1
          simpa using h3.symm
        subst this
        simp only [Option.map_some]
        rw [hf, if_neg (fun e => hjj e.symm)]
  refine va_put (D := D) (own := X.1.cls) (C := (cq ci).1) (T := (cq ci).2.1) (N := (cq ci).2.2) (ty := ty) (v := .int v) C.1 C.2.1 C.2.2.2.2.1 (fun w hw => List.mem_cons_of_mem _ (uwg h9 w hw)) (cty ci) (ctyo h9) (cnm h9) C.2.2.2.1 C.2.2.2.2.2.2.2.2.1 hP hD hS q0 he (cq_at h9) j hj (C.2.2.2.2.1 _ (List.mem_cons_of_mem _ hw)) (fun _ h => h) hfin (by rw [ctyo h9 j hj, hty]) hna hfi (by simpa using hj) hd (fun H1 locs1 hP1 hD1 hS1 => ?_)
  rw [hset] at hP1 hD1
  exact k p l e R s m args below meth co D cA ad H1 locs1 ls C hP1 hD1 hS1 hl0
theorem Vm.putX {v : Int32} {ty : FieldType} (hd : decode X.2.1 pc = .ok (.putfield idx, 3)) (hn : pc + 3 = n) (hw : fw X.1.cls idx ci j ∈ tg) (hq : (c, i) ∈ allk) (hk : kcls c = some (ci, nf)) (hj : j < nf) (hr : kref c i j = none) (hc : c < 32) (hfin : ((cq ci).2.1 j).2.2.2 = false) (hty : cty ci j = ty) (hna : narrow ty (.int v) = .int v) (hfi : fits ty (.int v) = true) (k : Vm X d n lv st (stI M.1 c i j v, M.2) r M') : Vm X d pc lv (.inl v :: .inr (.inr (c, i)) :: st) M r M' := by
  refine Vm.putV (M2 := (stI M.1 c i j v, M.2)) hd hn hw hq hk hj hfin hty hna hfi (fun cA ad c' i' hne => cel_x (σ := M.1) (σ' := stI M.1 c i j v) (τ := M.2) (fun c' i' h => (up3_ne _ _ _ h).symm) (fun _ _ _ => rfl) c' i' hne) (fun ad j' => ?_) k
  unfold fcel
  by_cases hjj : j' = j
  · subst hjj
    rw [if_pos rfl, hr, gI_x _ hc]
    show Value.int (up3 M.1.1 c i j' v c i j') = _
    rw [up3_same, up1_same]
  · rw [if_neg hjj]
    rw [gI_x _ hc, gI_x _ hc]
    show (match kref c i j' with | some r => Value.ref (ad r.1 r.2) | none => Value.int (up3 M.1.1 c i j v c i j')) = _
    rw [up3_same, up1_ne _ _ hjj]
    cases kref c i j' <;> rfl
theorem Vm.putM {v : Int32} {ty : FieldType} (hd : decode X.2.1 pc = .ok (.putfield idx, 3)) (hn : pc + 3 = n) (hw : fw X.1.cls idx ci j ∈ tg) (hq : (c, i) ∈ allk) (hk : kcls c = some (ci, nf)) (hj : j < nf) (hr : kref c i j = none) (hc : ¬ c < 32) (hfin : ((cq ci).2.1 j).2.2.2 = false) (hty : cty ci j = ty) (hna : narrow ty (.int v) = .int v) (hfi : fits ty (.int v) = true) (k : Vm X d n lv st (M.1, stI M.2 c i j v) r M') : Vm X d pc lv (.inl v :: .inr (.inr (c, i)) :: st) M r M' := by
  refine Vm.putV (M2 := (M.1, stI M.2 c i j v)) hd hn hw hq hk hj hfin hty hna hfi (fun cA ad c' i' hne => cel_mI (σ := M.1) (τ := M.2) (τ' := stI M.2 c i j v) (fun c' i' h => (up3_ne _ _ _ h).symm) (fun _ _ _ => rfl) c' i' hne) (fun ad j' => ?_) k
  unfold fcel
  by_cases hjj : j' = j
  · subst hjj
    rw [if_pos rfl, hr, gI_m _ hc]
    show Value.int (up3 M.2.1 c i j' v c i j') = _
    rw [up3_same, up1_same]
  · rw [if_neg hjj]
    rw [gI_m _ hc, gI_m _ hc]
    show (match kref c i j' with | some r => Value.ref (ad r.1 r.2) | none => Value.int (up3 M.2.1 c i j v c i j')) = _
    rw [up3_same, up1_ne _ _ hjj]
    cases kref c i j' <;> rfl
end VM1
