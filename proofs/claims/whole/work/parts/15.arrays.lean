-- arrays
section VA1
variable {X : md} {d pc n : Nat} {lv : List (Nat × mv)} {st : List mv} {M M' : mm × mm} {r : Option mv} {c i n0 : Nat}
theorem acel_i {ad : Nat → Nat → Nat} {M : mm × mm} {c i : Nat} {t : Nat} (h : (karr c).1 = t) (h1 : t ≠ 1) (h4 : t < 4) : acel ad M c i = .inl (gI M c i) := by
  unfold acel
  rw [h, if_neg h1, if_pos h4]
theorem acel_l {ad : Nat → Nat → Nat} {M : mm × mm} {c i : Nat} (h : (karr c).1 = 1) : acel ad M c i = .inr (.inl (gL M c i)) := by
  unfold acel
  rw [if_pos h]
theorem acel_r {ad : Nat → Nat → Nat} {M : mm × mm} {c i t : Nat} (h : (karr c).1 = t) (h1 : ¬ t < 4) : acel ad M c i = .inr (.inr (.inr (.inr (fun j => some (ad (kel c i j).1 (kel c i j).2))))) := by
  unfold acel
  rw [h, if_neg (by omega), if_neg h1]
theorem wl_arr {cA : Nat → ClassId} {ad : Nat → Nat → Nat} {M : mm × mm} {c i t n0 : Nat} (hq : (c, i) ∈ allk) (hk : kcls c = none) (ha : karr c = (t, n0)) : ∃ k : Nat, allk[k]? = some (c, i) ∧ (wl cA ad M)[k]? = some (ad c i, .inl (cA t, n0, acel ad M c i)) := by
  obtain ⟨k, h1, h2⟩ := wl_at (cA := cA) (ad := ad) (M := M) hq
  rw [cel_a hk, ha] at h2
  exact ⟨k, h1, h2⟩
theorem upd_up1 (f : Nat → Int32) (k : Nat) (x : Int32) : upd f k x = up1 f k x := rfl
theorem updL_up1 (f : Nat → Int64) (k : Nat) (x : Int64) : vp_updL f k x = up1 f k x := rfl
theorem Vm.ialdX {x : Int32} {v : Int32} (hd : decode X.2.1 pc = .ok (.iaload, 1)) (hn : pc + 1 = n) (hq : (c, i) ∈ allk) (hk : kcls c = none) (ha : karr c = (0, n0)) (hc : c < 32) (h : rdI M.1 c i n0 x = some v) (k : Vm X d n lv (.inl v :: st) M r M') : Vm X d pc lv (.inl x :: .inr (.inr (c, i)) :: st) M r M' := by
  subst hn
  unfold rdI at h
  split at h
  · rename_i hin
    cases h
    intro p l e R s m args below meth co D cA ad H locs ls C hP hD hS hl0
    obtain ⟨q0, -, he⟩ := wl_arr (cA := cA) (ad := ad) (M := M) hq hk ha
    rw [acel_i (t := 0) (by rw [ha]) (by decide) (by decide), gI_x M hc] at he
    exact va_iald C.1 C.2.1 C.2.2.2.2.2.2.2.2.1 hP q0 0 he rfl (in_of hin) hd (k p l e R s m args below meth co D cA ad H locs ls C hP hD hS hl0)
  · cases h
theorem Vm.laldX {x : Int32} {v : Int64} (hd : decode X.2.1 pc = .ok (.laload, 1)) (hn : pc + 1 = n) (hq : (c, i) ∈ allk) (hk : kcls c = none) (ha : karr c = (1, n0)) (hc : c < 32) (h : rdL M.1 c i n0 x = some v) (k : Vm X d n lv (.inr (.inl v) :: st) M r M') : Vm X d pc lv (.inl x :: .inr (.inr (c, i)) :: st) M r M' := by
  subst hn
  unfold rdL at h
  split at h
  · rename_i hin
    cases h
    intro p l e R s m args below meth co D cA ad H locs ls C hP hD hS hl0
    obtain ⟨q0, -, he⟩ := wl_arr (cA := cA) (ad := ad) (M := M) hq hk ha
    rw [acel_l (by rw [ha]), gL_x M hc] at he
    exact va_lald C.1 C.2.1 C.2.2.2.2.2.2.2.2.1 hP q0 1 he rfl (in_of hin) hd (k p l e R s m args below meth co D cA ad H locs ls C hP hD hS hl0)
  · cases h
theorem Vm.baldX {x : Int32} {v : Int32} (hd : decode X.2.1 pc = .ok (.baload, 1)) (hn : pc + 1 = n) (hq : (c, i) ∈ allk) (hk : kcls c = none) (ha : karr c = (2, n0)) (hc : c < 32) (h : rdI M.1 c i n0 x = some v) (k : Vm X d n lv (.inl v :: st) M r M') : Vm X d pc lv (.inl x :: .inr (.inr (c, i)) :: st) M r M' := by
  subst hn
  unfold rdI at h
  split at h
  · rename_i hin
    cases h
    intro p l e R s m args below meth co D cA ad H locs ls C hP hD hS hl0
    obtain ⟨q0, -, he⟩ := wl_arr (cA := cA) (ad := ad) (M := M) hq hk ha
    rw [acel_i (t := 2) (by rw [ha]) (by decide) (by decide), gI_x M hc] at he
    exact va_bald C.1 C.2.1 C.2.2.2.2.2.2.2.2.1 hP q0 2 he rfl (in_of hin) hd (k p l e R s m args below meth co D cA ad H locs ls C hP hD hS hl0)
  · cases h
theorem Vm.caldX {x : Int32} {v : Int32} (hd : decode X.2.1 pc = .ok (.caload, 1)) (hn : pc + 1 = n) (hq : (c, i) ∈ allk) (hk : kcls c = none) (ha : karr c = (3, n0)) (hc : c < 32) (h : rdI M.1 c i n0 x = some v) (k : Vm X d n lv (.inl v :: st) M r M') : Vm X d pc lv (.inl x :: .inr (.inr (c, i)) :: st) M r M' := by
  subst hn
  unfold rdI at h
  split at h
  · rename_i hin
    cases h
    intro p l e R s m args below meth co D cA ad H locs ls C hP hD hS hl0
    obtain ⟨q0, -, he⟩ := wl_arr (cA := cA) (ad := ad) (M := M) hq hk ha
    rw [acel_i (t := 3) (by rw [ha]) (by decide) (by decide), gI_x M hc] at he
    exact va_cald C.1 C.2.1 C.2.2.2.2.2.2.2.2.1 hP q0 3 he rfl (in_of hin) hd (k p l e R s m args below meth co D cA ad H locs ls C hP hD hS hl0)
  · cases h
theorem Vm.ialdM {x : Int32} {v : Int32} (hd : decode X.2.1 pc = .ok (.iaload, 1)) (hn : pc + 1 = n) (hq : (c, i) ∈ allk) (hk : kcls c = none) (ha : karr c = (0, n0)) (hc : ¬ c < 32) (h : rdI M.2 c i n0 x = some v) (k : Vm X d n lv (.inl v :: st) M r M') : Vm X d pc lv (.inl x :: .inr (.inr (c, i)) :: st) M r M' := by
  subst hn
  unfold rdI at h
  split at h
  · rename_i hin
    cases h
    intro p l e R s m args below meth co D cA ad H locs ls C hP hD hS hl0
    obtain ⟨q0, -, he⟩ := wl_arr (cA := cA) (ad := ad) (M := M) hq hk ha
    rw [acel_i (t := 0) (by rw [ha]) (by decide) (by decide), gI_m M hc] at he
    exact va_iald C.1 C.2.1 C.2.2.2.2.2.2.2.2.1 hP q0 0 he rfl (in_of hin) hd (k p l e R s m args below meth co D cA ad H locs ls C hP hD hS hl0)
  · cases h
theorem Vm.laldM {x : Int32} {v : Int64} (hd : decode X.2.1 pc = .ok (.laload, 1)) (hn : pc + 1 = n) (hq : (c, i) ∈ allk) (hk : kcls c = none) (ha : karr c = (1, n0)) (hc : ¬ c < 32) (h : rdL M.2 c i n0 x = some v) (k : Vm X d n lv (.inr (.inl v) :: st) M r M') : Vm X d pc lv (.inl x :: .inr (.inr (c, i)) :: st) M r M' := by
  subst hn
  unfold rdL at h
  split at h
  · rename_i hin
    cases h
    intro p l e R s m args below meth co D cA ad H locs ls C hP hD hS hl0
    obtain ⟨q0, -, he⟩ := wl_arr (cA := cA) (ad := ad) (M := M) hq hk ha
    rw [acel_l (by rw [ha]), gL_m M hc] at he
    exact va_lald C.1 C.2.1 C.2.2.2.2.2.2.2.2.1 hP q0 1 he rfl (in_of hin) hd (k p l e R s m args below meth co D cA ad H locs ls C hP hD hS hl0)
  · cases h
theorem Vm.baldM {x : Int32} {v : Int32} (hd : decode X.2.1 pc = .ok (.baload, 1)) (hn : pc + 1 = n) (hq : (c, i) ∈ allk) (hk : kcls c = none) (ha : karr c = (2, n0)) (hc : ¬ c < 32) (h : rdI M.2 c i n0 x = some v) (k : Vm X d n lv (.inl v :: st) M r M') : Vm X d pc lv (.inl x :: .inr (.inr (c, i)) :: st) M r M' := by
  subst hn
  unfold rdI at h
  split at h
  · rename_i hin
    cases h
    intro p l e R s m args below meth co D cA ad H locs ls C hP hD hS hl0
    obtain ⟨q0, -, he⟩ := wl_arr (cA := cA) (ad := ad) (M := M) hq hk ha
    rw [acel_i (t := 2) (by rw [ha]) (by decide) (by decide), gI_m M hc] at he
    exact va_bald C.1 C.2.1 C.2.2.2.2.2.2.2.2.1 hP q0 2 he rfl (in_of hin) hd (k p l e R s m args below meth co D cA ad H locs ls C hP hD hS hl0)
  · cases h
theorem Vm.caldM {x : Int32} {v : Int32} (hd : decode X.2.1 pc = .ok (.caload, 1)) (hn : pc + 1 = n) (hq : (c, i) ∈ allk) (hk : kcls c = none) (ha : karr c = (3, n0)) (hc : ¬ c < 32) (h : rdI M.2 c i n0 x = some v) (k : Vm X d n lv (.inl v :: st) M r M') : Vm X d pc lv (.inl x :: .inr (.inr (c, i)) :: st) M r M' := by
  subst hn
  unfold rdI at h
  split at h
  · rename_i hin
    cases h
    intro p l e R s m args below meth co D cA ad H locs ls C hP hD hS hl0
    obtain ⟨q0, -, he⟩ := wl_arr (cA := cA) (ad := ad) (M := M) hq hk ha
    rw [acel_i (t := 3) (by rw [ha]) (by decide) (by decide), gI_m M hc] at he
    exact va_cald C.1 C.2.1 C.2.2.2.2.2.2.2.2.1 hP q0 3 he rfl (in_of hin) hd (k p l e R s m args below meth co D cA ad H locs ls C hP hD hS hl0)
  · cases h
theorem Vm.iastX {x : Int32} {v : Int32} {σ2 : mm} (hd : decode X.2.1 pc = .ok (.iastore, 1)) (hn : pc + 1 = n) (hq : (c, i) ∈ allk) (hk : kcls c = none) (ha : karr c = (0, n0)) (hc : c < 32) (h : wrI M.1 c i n0 x v = some σ2) (k : Vm X d n lv st (σ2, M.2) r M') : Vm X d pc lv (.inl v :: .inl x :: .inr (.inr (c, i)) :: st) M r M' := by
  subst hn
  unfold wrI at h
  split at h
  · rename_i hin
    cases h
    intro p l e R s m args below meth co D cA ad H locs ls C hP hD hS hl0
    obtain ⟨q0, hq0, he⟩ := wl_arr (cA := cA) (ad := ad) (M := M) hq hk ha
    rw [acel_i (t := 0) (by rw [ha]) (by decide) (by decide), gI_x M hc] at he
    have hset := wl_set (cA := cA) (ad := ad) (M := M) (M' := (stI M.1 c i x.toInt.toNat v, M.2)) hq0 (fun c' i' hne => cel_x (σ := M.1) (σ' := stI M.1 c i x.toInt.toNat v) (τ := M.2) (fun c' i' h => (up3_ne _ _ _ h).symm) (fun _ _ _ => rfl) c' i' hne)
    rw [cel_a hk, ha, acel_i (t := 0) (by rw [ha]) (by decide) (by decide), gI_x _ hc] at hset
    have hu : (stI M.1 c i x.toInt.toNat v).1  c i = upd (M.1.1 c i) x.toNatClampNeg v := up3_same _ _ _ _ _
    refine va_iast C.1 C.2.1 C.2.2.2.2.2.2.2.2.1 hP hD hS q0 0 he rfl (in_of hin) hd (fun H1 locs1 hP1 hD1 hS1 => ?_)
    rw [← hu] at hP1 hD1
    rw [hset] at hP1 hD1
    exact k p l e R s m args below meth co D cA ad H1 locs1 ls C hP1 hD1 hS1 hl0
  · cases h
theorem Vm.lastX {x : Int32} {v : Int64} {σ2 : mm} (hd : decode X.2.1 pc = .ok (.lastore, 1)) (hn : pc + 1 = n) (hq : (c, i) ∈ allk) (hk : kcls c = none) (ha : karr c = (1, n0)) (hc : c < 32) (h : wrL M.1 c i n0 x v = some σ2) (k : Vm X d n lv st (σ2, M.2) r M') : Vm X d pc lv (.inr (.inl v) :: .inl x :: .inr (.inr (c, i)) :: st) M r M' := by
  subst hn
  unfold wrL at h
  split at h
  · rename_i hin
    cases h
    intro p l e R s m args below meth co D cA ad H locs ls C hP hD hS hl0
    obtain ⟨q0, hq0, he⟩ := wl_arr (cA := cA) (ad := ad) (M := M) hq hk ha
    rw [acel_l (by rw [ha]), gL_x M hc] at he
    have hset := wl_set (cA := cA) (ad := ad) (M := M) (M' := (stL M.1 c i x.toInt.toNat v, M.2)) hq0 (fun c' i' hne => cel_x (σ := M.1) (σ' := stL M.1 c i x.toInt.toNat v) (τ := M.2) (fun _ _ _ => rfl) (fun c' i' h => (up3_ne _ _ _ h).symm) c' i' hne)
    rw [cel_a hk, ha, acel_l (by rw [ha]), gL_x _ hc] at hset
    have hu : (stL M.1 c i x.toInt.toNat v).2  c i = vp_updL (M.1.2 c i) x.toNatClampNeg v := up3_same _ _ _ _ _
    refine va_last C.1 C.2.1 C.2.2.2.2.2.2.2.2.1 hP hD hS q0 1 he rfl (in_of hin) hd (fun H1 locs1 hP1 hD1 hS1 => ?_)
    rw [← hu] at hP1 hD1
    rw [hset] at hP1 hD1
    exact k p l e R s m args below meth co D cA ad H1 locs1 ls C hP1 hD1 hS1 hl0
  · cases h
theorem Vm.iastM {x : Int32} {v : Int32} {σ2 : mm} (hd : decode X.2.1 pc = .ok (.iastore, 1)) (hn : pc + 1 = n) (hq : (c, i) ∈ allk) (hk : kcls c = none) (ha : karr c = (0, n0)) (hc : ¬ c < 32) (h : wrI M.2 c i n0 x v = some σ2) (k : Vm X d n lv st (M.1, σ2) r M') : Vm X d pc lv (.inl v :: .inl x :: .inr (.inr (c, i)) :: st) M r M' := by
  subst hn
  unfold wrI at h
  split at h
  · rename_i hin
    cases h
    intro p l e R s m args below meth co D cA ad H locs ls C hP hD hS hl0
    obtain ⟨q0, hq0, he⟩ := wl_arr (cA := cA) (ad := ad) (M := M) hq hk ha
    rw [acel_i (t := 0) (by rw [ha]) (by decide) (by decide), gI_m M hc] at he
    have hset := wl_set (cA := cA) (ad := ad) (M := M) (M' := (M.1, stI M.2 c i x.toInt.toNat v)) hq0 (fun c' i' hne => cel_mI (σ := M.1) (τ := M.2) (τ' := stI M.2 c i x.toInt.toNat v) (fun c' i' h => (up3_ne _ _ _ h).symm) (fun _ _ _ => rfl) c' i' hne)
    rw [cel_a hk, ha, acel_i (t := 0) (by rw [ha]) (by decide) (by decide), gI_m _ hc] at hset
    have hu : (stI M.2 c i x.toInt.toNat v).1  c i = upd (M.2.1 c i) x.toNatClampNeg v := up3_same _ _ _ _ _
    refine va_iast C.1 C.2.1 C.2.2.2.2.2.2.2.2.1 hP hD hS q0 0 he rfl (in_of hin) hd (fun H1 locs1 hP1 hD1 hS1 => ?_)
    rw [← hu] at hP1 hD1
    rw [hset] at hP1 hD1
    exact k p l e R s m args below meth co D cA ad H1 locs1 ls C hP1 hD1 hS1 hl0
  · cases h
theorem Vm.lastM {x : Int32} {v : Int64} {σ2 : mm} (hd : decode X.2.1 pc = .ok (.lastore, 1)) (hn : pc + 1 = n) (hq : (c, i) ∈ allk) (hk : kcls c = none) (ha : karr c = (1, n0)) (hc : ¬ c < 32) (h : wrL M.2 c i n0 x v = some σ2) (k : Vm X d n lv st (M.1, σ2) r M') : Vm X d pc lv (.inr (.inl v) :: .inl x :: .inr (.inr (c, i)) :: st) M r M' := by
  subst hn
  unfold wrL at h
  split at h
  · rename_i hin
    cases h
    intro p l e R s m args below meth co D cA ad H locs ls C hP hD hS hl0
    obtain ⟨q0, hq0, he⟩ := wl_arr (cA := cA) (ad := ad) (M := M) hq hk ha
    rw [acel_l (by rw [ha]), gL_m M hc] at he
    have hset := wl_set (cA := cA) (ad := ad) (M := M) (M' := (M.1, stL M.2 c i x.toInt.toNat v)) hq0 (fun c' i' hne => cel_mI (σ := M.1) (τ := M.2) (τ' := stL M.2 c i x.toInt.toNat v) (fun _ _ _ => rfl) (fun c' i' h => (up3_ne _ _ _ h).symm) c' i' hne)
    rw [cel_a hk, ha, acel_l (by rw [ha]), gL_m _ hc] at hset
    have hu : (stL M.2 c i x.toInt.toNat v).2  c i = vp_updL (M.2.2 c i) x.toNatClampNeg v := up3_same _ _ _ _ _
    refine va_last C.1 C.2.1 C.2.2.2.2.2.2.2.2.1 hP hD hS q0 1 he rfl (in_of hin) hd (fun H1 locs1 hP1 hD1 hS1 => ?_)
    rw [← hu] at hP1 hD1
    rw [hset] at hP1 hD1
    exact k p l e R s m args below meth co D cA ad H1 locs1 ls C hP1 hD1 hS1 hl0
  · cases h
theorem Vm.bastX {x : Int32} {v : Int32} {σ2 : mm} (hd : decode X.2.1 pc = .ok (.bastore, 1)) (hn : pc + 1 = n) (hq : (c, i) ∈ allk) (hk : kcls c = none) (ha : karr c = (2, n0)) (hc : c < 32) (h : wrI M.1 c i n0 x (vp_nar .byte v) = some σ2) (k : Vm X d n lv st (σ2, M.2) r M') : Vm X d pc lv (.inl v :: .inl x :: .inr (.inr (c, i)) :: st) M r M' := by
  subst hn
  unfold wrI at h
  split at h
  · rename_i hin
    cases h
    intro p l e R s m args below meth co D cA ad H locs ls C hP hD hS hl0
    obtain ⟨q0, hq0, he⟩ := wl_arr (cA := cA) (ad := ad) (M := M) hq hk ha
    rw [acel_i (t := 2) (by rw [ha]) (by decide) (by decide), gI_x M hc] at he
    have hset := wl_set (cA := cA) (ad := ad) (M := M) (M' := (stI M.1 c i x.toInt.toNat (vp_nar .byte v), M.2)) hq0 (fun c' i' hne => cel_x (σ := M.1) (σ' := stI M.1 c i x.toInt.toNat (vp_nar .byte v)) (τ := M.2) (fun c' i' h => (up3_ne _ _ _ h).symm) (fun _ _ _ => rfl) c' i' hne)
    rw [cel_a hk, ha, acel_i (t := 2) (by rw [ha]) (by decide) (by decide), gI_x _ hc] at hset
    have hu : (stI M.1 c i x.toInt.toNat (vp_nar .byte v)).1  c i = upd (M.1.1 c i) x.toNatClampNeg (vp_nar .byte v) := up3_same _ _ _ _ _
    refine va_bast C.1 C.2.1 C.2.2.2.2.2.2.2.2.1 hP hD hS q0 2 he rfl (in_of hin) hd (fun H1 locs1 hP1 hD1 hS1 => ?_)
    rw [← hu] at hP1 hD1
    rw [hset] at hP1 hD1
    exact k p l e R s m args below meth co D cA ad H1 locs1 ls C hP1 hD1 hS1 hl0
  · cases h
theorem Vm.aald {x : Int32} {w t : Nat} {ty : FieldType} (hd : decode X.2.1 pc = .ok (.aaload, 1)) (hn : pc + 1 = n) (hq : (c, i) ∈ allk) (hk : kcls c = none) (ha : karr c = (t, n0)) (h4 : ¬ t < 4) (hty : ∀ cA, (tysw cA)[t]? = some (cA t, ty)) (hrk : refKind ty = true) (h : rdR n0 x = some w) (k : Vm X d n lv (.inr (.inr (kel c i w)) :: st) M r M') : Vm X d pc lv (.inl x :: .inr (.inr (c, i)) :: st) M r M' := by
  subst hn
  unfold rdR at h
  split at h
  · rename_i hin
    cases h
    intro p l e R s m args below meth co D cA ad H locs ls C hP hD hS hl0
    obtain ⟨q0, -, he⟩ := wl_arr (cA := cA) (ad := ad) (M := M) hq hk ha
    rw [acel_r (t := t) (by rw [ha]) h4] at he
    have hlt : x.toNatClampNeg < n0 := Nat.not_le.mp fun q => in_of hin (Or.inr q)
    exact W.aald (v := va_rf (some (ad (kel c i x.toNatClampNeg).1 (kel c i x.toNatClampNeg).2))) (ty := ty) C.1 C.2.1 (hP q0 _ he) ((C.2.2.2.2.2.2.2.2.1.2 t _ (hty cA)).1 n0 _) hrk (fun q => by cases q) (by show ¬ (x < 0 ∨ (arrV _ _ _).slots.size ≤ _); rw [arrV_size]; exact in_of hin) (by show (arrV _ _ _).slots[_]? = _; rw [arrV_read _ _ hlt]) rfl rfl hd (k p l e R s m args below meth co D cA ad H locs ls C hP hD hS hl0)
  · cases h
end VA1
