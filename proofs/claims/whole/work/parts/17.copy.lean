-- System.arraycopy
def okC (own : String) (idx : Nat) : Prop := Cond.methodLink own idx arraycopyName ∈ tg ∧ Cond.native arraycopyName ∈ tg ∧ Cond.static arraycopyName ∈ tg ∧ Cond.initialized "java/lang/System" ∈ tg
theorem up2_ne {α : Type} (f : Nat → Nat → α) {c i c' i' : Nat} (v : α) (h : (c', i') ≠ (c, i)) : up1 f c (up1 (f c) i v) c' i' = f c' i' := by
  by_cases h1 : c' = c
  · subst h1
    rw [up1_same]
    exact up1_ne _ _ (fun e => h (by rw [e]))
  · rw [up1_ne _ _ h1]
theorem nlt_of {x : Int32} (h : 0 ≤ x.toInt) : ¬ x < 0 := fun q => by
  have := Int32.lt_iff_toInt_lt.mp q
  rw [Int32.toInt_zero] at this
  omega
section VCP
variable {X : md} {d pc n idx : Nat} {lv : List (Nat × mv)} {st : List mv} {M M' : mm × mm} {r : Option mv} {c i n0 c' i' n1 : Nat}
theorem Vm.acpI {sp dp w : Int32} {σ2 : mm} (hd : decode X.2.1 pc = .ok (.invokestatic idx, 3)) (hn : pc + 3 = n) (hw : okC X.1.cls idx) (hq : (c, i) ∈ allk) (hk : kcls c = none) (ha : karr c = (0, n0)) (hc : c < 32) (hq' : (c', i') ∈ allk) (hk' : kcls c' = none) (ha' : karr c' = (0, n1)) (hc' : c' < 32) (hroom : (st.map mcat).sum ≤ 8) (hdd : 1 ≤ d) (h : cpI M.1 c i n0 c' i' n1 sp dp w = some σ2) (k : Vm X d n lv st (σ2, M.2) r M') : Vm X d pc lv (.inl w :: .inl dp :: .inr (.inr (c', i')) :: .inl sp :: .inr (.inr (c, i)) :: st) M r M' := by
  subst hn
  unfold cpI at h
  split at h
  · rename_i hin
    cases h
    intro p l e R s m args below meth co D cA ad H locs ls C hP hD hS hl0
    obtain ⟨q0, hq0, he⟩ := wl_arr (cA := cA) (ad := ad) (M := M) hq hk ha
    obtain ⟨q1, hq1, he1⟩ := wl_arr (cA := cA) (ad := ad) (M := M) hq' hk' ha'
    rw [acel_i (t := 0) (by rw [ha]) (by decide) (by decide), gI_x M hc] at he
    rw [acel_i (t := 0) (by rw [ha']) (by decide) (by decide), gI_x M hc'] at he1
    have hset := wl_set (cA := cA) (ad := ad) (M := M) (M' := ((up1 M.1.1 c' (up1 (M.1.1 c') i' (cp1 (M.1.1 c i) (M.1.1 c' i') sp.toInt.toNat dp.toInt.toNat w.toInt.toNat)), M.1.2), M.2)) hq1 (fun c9 i9 hne => cel_x (σ := M.1) (σ' := (up1 M.1.1 c' (up1 (M.1.1 c') i' (cp1 (M.1.1 c i) (M.1.1 c' i') sp.toInt.toNat dp.toInt.toNat w.toInt.toNat)), M.1.2)) (τ := M.2) (fun c9 i9 h => (up2_ne _ _ h).symm) (fun _ _ _ => rfl) c9 i9 hne)
    rw [cel_a hk', ha', acel_i (t := 0) (by rw [ha']) (by decide) (by decide), gI_x _ hc'] at hset
    have hu : (up1 M.1.1 c' (up1 (M.1.1 c') i' (cp1 (M.1.1 c i) (M.1.1 c' i') sp.toInt.toNat dp.toInt.toNat w.toInt.toNat))) c' i' = va_cpy (M.1.1 c i) (M.1.1 c' i') sp.toNatClampNeg dp.toNatClampNeg w.toNatClampNeg := by
      rw [up1_same, up1_same]
      rfl
    have hR := C.2.2.2.2.2.2.2.1
    have n1' : sp.toNatClampNeg = sp.toInt.toNat := rfl
    have n2' : dp.toNatClampNeg = dp.toInt.toNat := rfl
    have n3' : w.toNatClampNeg = w.toInt.toNat := rfl
    refine va_copyi (ty := .int) C.1 C.2.1 (C.2.2.1.trans hl0.1.symm) C.2.2.2.1 (C.2.2.2.2.1 _ (List.mem_cons_of_mem _ hw.1)) (C.2.2.2.2.1 _ (List.mem_cons_of_mem _ hw.2.1)) (C.2.2.2.2.1 _ (List.mem_cons_of_mem _ hw.2.2.1)) (C.2.2.2.2.1 _ (List.mem_cons_of_mem _ hw.2.2.2)) C.2.2.2.2.2.2.2.2.1 hP hD hS q0 q1 0 0 he he1 rfl rfl rfl (nlt_of hin.1.1) (nlt_of hin.1.2.1) (nlt_of hin.1.2.2) (by omega) (by omega) (fun _ _ => rfl) (by rw [hR]; exact hdd) ?_ hd (fun H1 locs1 hP1 hD1 hS1 => ?_)
    · rw [hR, mcat_sum]
      show _ + (nativeFrameWords "java/lang/System" "arraycopy" 5 + 11) ≤ 48 * d
      have : nativeFrameWords "java/lang/System" "arraycopy" 5 = 7 := by decide +kernel
      omega
    · rw [← hu] at hP1 hD1
      rw [hset] at hP1 hD1
      exact k p l e R s m args below meth co D cA ad H1 locs1 ls C hP1 hD1 hS1 hl0
  · cases h
theorem Vm.acpL {sp dp w : Int32} {σ2 : mm} (hd : decode X.2.1 pc = .ok (.invokestatic idx, 3)) (hn : pc + 3 = n) (hw : okC X.1.cls idx) (hq : (c, i) ∈ allk) (hk : kcls c = none) (ha : karr c = (1, n0)) (hc : c < 32) (hq' : (c', i') ∈ allk) (hk' : kcls c' = none) (ha' : karr c' = (1, n1)) (hc' : c' < 32) (hroom : (st.map mcat).sum ≤ 8) (hdd : 1 ≤ d) (h : cpL M.1 c i n0 c' i' n1 sp dp w = some σ2) (k : Vm X d n lv st (σ2, M.2) r M') : Vm X d pc lv (.inl w :: .inl dp :: .inr (.inr (c', i')) :: .inl sp :: .inr (.inr (c, i)) :: st) M r M' := by
  subst hn
  unfold cpL at h
  split at h
  · rename_i hin
    cases h
    intro p l e R s m args below meth co D cA ad H locs ls C hP hD hS hl0
    obtain ⟨q0, hq0, he⟩ := wl_arr (cA := cA) (ad := ad) (M := M) hq hk ha
    obtain ⟨q1, hq1, he1⟩ := wl_arr (cA := cA) (ad := ad) (M := M) hq' hk' ha'
    rw [acel_l (by rw [ha]), gL_x M hc] at he
    rw [acel_l (by rw [ha']), gL_x M hc'] at he1
    have hset := wl_set (cA := cA) (ad := ad) (M := M) (M' := ((M.1.1, up1 M.1.2 c' (up1 (M.1.2 c') i' (cp1 (M.1.2 c i) (M.1.2 c' i') sp.toInt.toNat dp.toInt.toNat w.toInt.toNat))), M.2)) hq1 (fun c9 i9 hne => cel_x (σ := M.1) (σ' := (M.1.1, up1 M.1.2 c' (up1 (M.1.2 c') i' (cp1 (M.1.2 c i) (M.1.2 c' i') sp.toInt.toNat dp.toInt.toNat w.toInt.toNat)))) (τ := M.2) (fun _ _ _ => rfl) (fun c9 i9 h => (up2_ne _ _ h).symm) c9 i9 hne)
    rw [cel_a hk', ha', acel_l (by rw [ha']), gL_x _ hc'] at hset
    have hu : (up1 M.1.2 c' (up1 (M.1.2 c') i' (cp1 (M.1.2 c i) (M.1.2 c' i') sp.toInt.toNat dp.toInt.toNat w.toInt.toNat))) c' i' = va_cpy (M.1.2 c i) (M.1.2 c' i') sp.toNatClampNeg dp.toNatClampNeg w.toNatClampNeg := by
      rw [up1_same, up1_same]
      rfl
    have hR := C.2.2.2.2.2.2.2.1
    have n1' : sp.toNatClampNeg = sp.toInt.toNat := rfl
    have n2' : dp.toNatClampNeg = dp.toInt.toNat := rfl
    have n3' : w.toNatClampNeg = w.toInt.toNat := rfl
    refine va_copyl (ty := .long) C.1 C.2.1 (C.2.2.1.trans hl0.1.symm) C.2.2.2.1 (C.2.2.2.2.1 _ (List.mem_cons_of_mem _ hw.1)) (C.2.2.2.2.1 _ (List.mem_cons_of_mem _ hw.2.1)) (C.2.2.2.2.1 _ (List.mem_cons_of_mem _ hw.2.2.1)) (C.2.2.2.2.1 _ (List.mem_cons_of_mem _ hw.2.2.2)) C.2.2.2.2.2.2.2.2.1 hP hD hS q0 q1 1 1 he he1 rfl rfl rfl (nlt_of hin.1.1) (nlt_of hin.1.2.1) (nlt_of hin.1.2.2) (by omega) (by omega) (fun _ _ => rfl) (by rw [hR]; exact hdd) ?_ hd (fun H1 locs1 hP1 hD1 hS1 => ?_)
    · rw [hR, mcat_sum]
      show _ + (nativeFrameWords "java/lang/System" "arraycopy" 5 + 11) ≤ 48 * d
      have : nativeFrameWords "java/lang/System" "arraycopy" 5 = 7 := by decide +kernel
      omega
    · rw [← hu] at hP1 hD1
      rw [hset] at hP1 hD1
      exact k p l e R s m args below meth co D cA ad H1 locs1 ls C hP1 hD1 hS1 hl0
  · cases h
end VCP
