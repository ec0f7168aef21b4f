section GMN
variable {X : md} {d mc ms pc n' o k n : Nat} {lv : List (Nat × gv)} {st : List gv} {E E' E2 : List gc}
theorem outerV (c : ClassId) (N h0 : Nat) : ∀ i : Nat, Jvm.Free.Multi.outerC c N h0 i = arrV c N (fun j => va_rf (if j < i then some (h0 + 1 + j) else none))
  | 0 => by
    show ({ cls := c, slots := Array.replicate N .null, vm := .none } : Cell) = _
    rw [arrV_new]
    rfl
  | i + 1 => by
    show (Jvm.Free.Multi.outerC c N h0 i).setSlot i (.ref (h0 + 1 + i)) = _
    rw [outerV c N h0 i, arrV_store]
    congr 1
    funext j
    unfold updV
    by_cases hj : j = i
    · subst hj
      rw [if_pos rfl, if_pos (by omega)]
      rfl
    · rw [if_neg hj]
      by_cases h2 : j < i
      · show va_rf (if j < i then some (h0 + 1 + j) else none) = _
        rw [if_pos h2, if_pos (by omega)]
      · show va_rf (if j < i then some (h0 + 1 + j) else none) = _
        rw [if_neg h2, if_neg (by omega)]
theorem gpush5 {D : va_G} {cA : Nat → ClassId} {b : Nat} {l : List gc} {c0 c1 c2 c3 c4 : gc} {H H1 : Heap} (hP : va_P D vwCl (gw cA b l) H) (ho : ∀ q, q < H.size → H1[q]? = H[q]?) (h0 : va_at D vwCl (b + l.length, gce cA b c0) H1) (h1 : va_at D vwCl (b + l.length + 1, gce cA b c1) H1) (h2 : va_at D vwCl (b + l.length + 2, gce cA b c2) H1) (h3 : va_at D vwCl (b + l.length + 3, gce cA b c3) H1) (h4 : va_at D vwCl (b + l.length + 4, gce cA b c4) H1) : va_P D vwCl (gw cA b (l ++ [c0, c1, c2, c3, c4])) H1 := by
  intro kk q hq
  obtain ⟨c, hc, rfl⟩ := gw_in hq
  by_cases hl : kk < l.length
  · rw [List.getElem?_append_left hl] at hc
    have h9 := hP kk _ (gw_at hc)
    exact h9.kept (ho _ h9.lt)
  · rw [List.getElem?_append_right (by omega)] at hc
    have hk : kk - l.length < 5 := (List.getElem?_eq_some_iff.mp hc).1
    rcases (show kk = l.length ∨ kk = l.length + 1 ∨ kk = l.length + 2 ∨ kk = l.length + 3 ∨ kk = l.length + 4 by omega) with e | e | e | e | e
    · subst e
      rw [Nat.sub_self] at hc
      cases hc
      exact h0
    · subst e
      rw [Nat.add_sub_cancel_left] at hc
      cases hc
      exact h1
    · subst e
      rw [Nat.add_sub_cancel_left] at hc
      cases hc
      exact h2
    · subst e
      rw [Nat.add_sub_cancel_left] at hc
      cases hc
      exact h3
    · subst e
      rw [Nat.add_sub_cancel_left] at hc
      cases hc
      exact h4
theorem Gm.mna {p0 idx t it : Nat} {ty : FieldType} {c1 : gc} (hd : decode X.2.1 pc = .ok (.multianewarray idx 2, 4)) (hn : pc + 4 = n') (hw : Cond.classLink X.1.cls idx ("[" ++ (FieldType.array ty).toString) ∈ tg) (hac : Cond.arrayClass ty ∈ tg) (hao : ∀ U, yt U → va_Nw (.arrayOver (.array ty)) U) (hty : ∀ cA : Nat → ClassId, (tysw cA)[t]? = some (cA t, .array ty)) (hit : ∀ cA : Nat → ClassId, (tysw cA)[it]? = some (cA it, ty)) (hrt : ∀ (U : State) (c : ClassId), va_RA U c (.array ty) → U.vm.findClass ("[" ++ (FieldType.array ty).toString) = some c) (hri : ∀ (U : State) (c : ClassId), va_RA U c ty → U.vm.findClass (FieldType.array ty).toString = some c)
    (hcell : ∀ (cA : Nat → ClassId) (b : Nat), ∃ a0, gce cA b c1 = .inl (cA it, a0) ∧ vp_cell (cA it) a0 = arrV (cA it) 4 (fun _ => defaultValue ty)) (hby : 4 * componentBytes ty ≤ 536870912) (hdf : fits ty (defaultValue ty) = true) (hdd : (defaultValue ty).isDefault = true)
    (hp : p0 = o + E.length) (hk : k + 5 ≤ mc) (hm : n + 20 ≤ ms) (hE : E ++ [.inr (.inr (t, 4, [some (p0 + 1), some (p0 + 2), some (p0 + 3), some (p0 + 4)])), c1, c1, c1, c1] = E2) (kk : Gm X d mc ms n' lv (.inr (some p0) :: st) o E2 (k + 5) (n + 20) E') : Gm X d mc ms pc lv (.inl 4 :: .inl 4 :: st) o E k n E' := by
  subst hn
  subst hE
  intro p l e R s m args below meth c D cA b C H locs ls G hC hb hP hz hS hl0
  have hR := G.2.2.2.2.2.2.2.1
  have hp' : H.size = b + p0 := by rw [hz, List.length_append, hC, hp]
  have hp2 : b + (C ++ E).length = b + p0 := by rw [← hz, hp']
  intro T hT Xs
  have h40 : ¬ (4 : Int32) < 0 := by decide
  have h4n : (4 : Int32).toNatClampNeg = 4 := by decide
  obtain ⟨vm₁, cA', comp, -, fA, fC, hO, hI, X', step⟩ := Jvm.Stand.multianewarray2F Xs G.1 G.2.2.2.1 (G.2.2.2.2.1 _ (List.mem_cons_of_mem _ hw)) (aaUse (hao s G.2.2.2.2.2.2.2.2.2.1)) (G.2.2.2.2.1 _ (List.mem_cons_of_mem _ hac)) (g := F0 m pc ls (.int 4 :: .int 4 :: st.map (gtv b))) (n := 4) (k := 4) (rest := st.map (gtv b)) rfl (by rw [G.2.1]; exact hd) rfl h40 h40 (by decide) (by rw [h4n]; exact hby) (by decide) hdf hdd (by rw [hR, h4n]; exact hk) (by rw [hR, h4n]; exact hm)
  have e1 : cA t = cA' := Option.some.inj ((hrt s _ (G.2.2.2.2.2.2.2.2.1.2 t _ (hty cA)).2).symm.trans fA)
  have e2 : cA it = comp := Option.some.inj ((hri s _ (G.2.2.2.2.2.2.2.2.1.2 it _ (hit cA)).2).symm.trans fC)
  subst e1
  subst e2
  rw [h4n] at X' step
  generalize hF : Jvm.Free.Multi.fill (T.setVm vm₁) (cA t) (cA it) 4 4 (defaultValue ty) 4 = F at X' step
  have hTh : (T.setVm vm₁).heap = H := hT
  obtain ⟨f1, f2, -, -⟩ := Jvm.Free.Multi.fill_facts (T.setVm vm₁) (cA t) (cA it) 4 4 (defaultValue ty) 4
  rw [hF, hTh] at f1 f2
  have hold : ∀ x : Nat, x < H.size → F.heap[x]? = H[x]? := fun x hx => by
    have := Jvm.Free.Multi.fill_old (T.setVm vm₁) (cA t) (cA it) 4 4 (defaultValue ty) (a := x) (by rw [hTh]; exact hx) 4
    rw [hF, hTh] at this
    exact this
  have hrow : ∀ j : Nat, j < 4 → va_at D vwCl (b + (C ++ E).length + (1 + j), gce cA b c1) F.heap := fun j hj => by
    have := Jvm.Free.Multi.fill_inner (T.setVm vm₁) (cA t) (cA it) 4 4 (defaultValue ty) 4 j hj
    rw [hF, hTh] at this
    obtain ⟨a0, g1, g2⟩ := hcell cA b
    rw [g1]
    show F.heap[b + (C ++ E).length + (1 + j)]? = some (vp_cell (cA it) a0)
    rw [g2, ← hz, show H.size + (1 + j) = H.size + 1 + j by omega, this, ← arrV_new]
    rfl
  obtain ⟨t9, a1, b1⟩ := kk p l e R s m args below meth c D cA b C F.heap locs ls G hC hb (by
    rw [← List.append_assoc]
    refine gpush5 hP hold ?_ (hrow 0 (by omega)) (hrow 1 (by omega)) (hrow 2 (by omega)) (hrow 3 (by omega))
    rw [← hz]
    show F.heap[H.size]? = some (vp_cell (cA t) (4, .inr (.inr (.inr (.inr (fun j => (([some (p0 + 1), some (p0 + 2), some (p0 + 3), some (p0 + 4)] : List (Option Nat)).getD j none).map (fun q => b + q)))))))
    rw [f2, outerV, vp_cell_q]
    congr 2
    funext j
    rw [hp']
    rcases (show j = 0 ∨ j = 1 ∨ j = 2 ∨ j = 3 ∨ 4 ≤ j by omega) with rfl | rfl | rfl | rfl | h
    · rfl
    · show va_rf (some (b + p0 + 1 + 1)) = va_rf (some (b + (p0 + 2)))
      congr 2
    · show va_rf (some (b + p0 + 1 + 2)) = va_rf (some (b + (p0 + 3)))
      congr 2
    · show va_rf (some (b + p0 + 1 + 3)) = va_rf (some (b + (p0 + 4)))
      congr 2
    · rw [if_neg (by omega), List.getD_eq_getElem?_getD, List.getElem?_eq_none (by show 4 ≤ j; exact h)]
      rfl) (by rw [f1, hz]; simp only [List.length_append, List.length_cons, List.length_nil]; omega) (gS_push (z := 5) hS (by rw [f1]) hold) hl0 F rfl X'
  refine ⟨t9, step t9 ?_, b1⟩
  have e9 : T.heap.size = b + p0 := by rw [hT, hp']
  rw [e9]
  exact a1
theorem Gm.mnaI {p0 idx : Nat} (hd : decode X.2.1 pc = .ok (.multianewarray idx 2, 4)) (hn : pc + 4 = n') (hw : Cond.classLink X.1.cls idx "[[I" ∈ tg) (hac : Cond.arrayClass .int ∈ tg) (hp : p0 = o + E.length) (hk : k + 5 ≤ mc) (hm : n + 20 ≤ ms) (hE : E ++ [.inr (.inr (6, 4, [some (p0 + 1), some (p0 + 2), some (p0 + 3), some (p0 + 4)])), .inr (.inl (0, 4, [])), .inr (.inl (0, 4, [])), .inr (.inl (0, 4, [])), .inr (.inl (0, 4, []))] = E2) (kk : Gm X d mc ms n' lv (.inr (some p0) :: st) o E2 (k + 5) (n + 20) E') : Gm X d mc ms pc lv (.inl 4 :: .inl 4 :: st) o E k n E' :=
  Gm.mna (ty := .int) (t := 6) (it := 0) hd hn hw hac (fun _ h => h.2.2.1) (fun _ => rfl) (fun _ => rfl) (fun _ _ h => h) (fun _ _ h => h) (fun _ _ => ⟨_, rfl, rfl⟩) (by decide) rfl rfl hp hk hm hE kk
theorem Gm.mnaL {p0 idx : Nat} (hd : decode X.2.1 pc = .ok (.multianewarray idx 2, 4)) (hn : pc + 4 = n') (hw : Cond.classLink X.1.cls idx "[[J" ∈ tg) (hac : Cond.arrayClass .long ∈ tg) (hp : p0 = o + E.length) (hk : k + 5 ≤ mc) (hm : n + 20 ≤ ms) (hE : E ++ [.inr (.inr (7, 4, [some (p0 + 1), some (p0 + 2), some (p0 + 3), some (p0 + 4)])), .inr (.inl (1, 4, [])), .inr (.inl (1, 4, [])), .inr (.inl (1, 4, [])), .inr (.inl (1, 4, []))] = E2) (kk : Gm X d mc ms n' lv (.inr (some p0) :: st) o E2 (k + 5) (n + 20) E') : Gm X d mc ms pc lv (.inl 4 :: .inl 4 :: st) o E k n E' :=
  Gm.mna (ty := .long) (t := 7) (it := 1) hd hn hw hac (fun _ h => h.2.2.2.1) (fun _ => rfl) (fun _ => rfl) (fun _ _ h => h) (fun _ _ h => h) (fun _ _ => ⟨_, rfl, rfl⟩) (by decide) rfl rfl hp hk hm hE kk
end GMN
