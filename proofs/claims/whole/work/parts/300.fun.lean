-- ThinBodies finding (I)I
def fX7_finding_20 (a1 : Int32) (σ : mm) : Option (Int32 × mm) :=
  some (((-1000000001 : Int32) - a1, σ))
def fX7_finding_0 (a1 : Int32) (σ : mm) : Option (Int32 × mm) :=
  if a1 < (0 : Int32) then
  fX7_finding_20 a1 σ
  else
  if (7 : Int32) ≤ a1 then
  fX7_finding_20 a1 σ
  else
  Option.bind (rdI σ 19 0 7 a1) fun x1 =>
  Option.bind (wrI σ 19 0 7 a1 (x1 + (1 : Int32))) fun σ2 =>
  fX7_finding_20 a1 σ2
def fX7_finding (a1 : Int32) (σ : mm) : Option (Int32 × mm) := fX7_finding_0 a1 σ
set_option maxRecDepth 20000 in
theorem lX7_finding_20 (a1 : Int32) (σ τ : mm) {r : Option mv} {M' : mm × mm} {v9 : Int32 × mm} (h : fX7_finding_20 a1 σ = some v9) (hk : (fun q : Int32 × mm => r = some (.inl q.1) ∧ M' = (q.2, τ)) v9) : Vm mX7_finding 0 20 [(1, .inl a1)] [] (σ, τ) r M' := by
  unfold fX7_finding_20 at h
  refine Vm.ldc_w (n := 23) dX7_finding_20 rfl wc_RX7_360 ?_
  refine Vm.iload_n (n := 24) 0 dX7_finding_23 rfl rfl ?_
  refine Vm.isub (n := 25) dX7_finding_24 rfl ?_
  obtain rfl := Option.some.inj h
  exact Vm.iret dX7_finding_25 rfl hk.1 hk.2.symm
set_option maxRecDepth 20000 in
theorem lX7_finding_0 (a1 : Int32) (σ τ : mm) {r : Option mv} {M' : mm × mm} {v9 : Int32 × mm} (h : fX7_finding_0 a1 σ = some v9) (hk : (fun q : Int32 × mm => r = some (.inl q.1) ∧ M' = (q.2, τ)) v9) : Vm mX7_finding 0 0 [(0, .inr (.inr (7, 0))), (1, .inl a1)] [] (σ, τ) r M' := by
  unfold fX7_finding_0 at h
  refine Vm.iload_n (n := 1) 1 dX7_finding_0 rfl rfl ?_
  refine Vm.if_lt (n := 4) 20 dX7_finding_1 rfl rfl (fun c9 => ?_) (fun c9 => ?_)
  · replace h := (if_pos c9).symm.trans h
    refine Vm.sub (lv' := [(1, .inl a1)]) [1] rfl ?_
    exact lX7_finding_20 a1 σ τ h hk
  · replace h := (if_neg c9).symm.trans h
    refine Vm.iload_n (n := 5) 1 dX7_finding_4 rfl rfl ?_
    refine Vm.bipush (n := 7) (v := (7 : Int32)) dX7_finding_5 rfl (by decide) ?_
    refine Vm.icmp_ge (n := 10) 20 dX7_finding_7 rfl rfl (fun c9 => ?_) (fun c9 => ?_)
    · replace h := (if_pos c9).symm.trans h
      refine Vm.sub (lv' := [(1, .inl a1)]) [1] rfl ?_
      exact lX7_finding_20 a1 σ τ h hk
    · replace h := (if_neg c9).symm.trans h
      refine Vm.aload_n (n := 11) 0 dX7_finding_10 rfl rfl ?_
      refine Vm.getR (n := 14) dX7_finding_11 rfl wf_RX7_60 in_7 rfl (by decide) rfl ?_
      refine Vm.iload_n (n := 15) 1 dX7_finding_14 rfl rfl ?_
      refine Vm.dup2 (n := 16) dX7_finding_15 rfl rfl rfl ?_
      replace h := Option.bind_eq_some_iff.mp h
      obtain ⟨x1, h1, h⟩ := h
      refine Vm.ialdx (n := 17) dX7_finding_16 rfl in_19 rfl rfl (by decide) h1 ?_
      refine Vm.iconst (n := 18) (v := (1 : Int32)) dX7_finding_17 rfl (by decide) ?_
      refine Vm.iadd (n := 19) dX7_finding_18 rfl ?_
      replace h := Option.bind_eq_some_iff.mp h
      obtain ⟨σ2, h2, h⟩ := h
      refine Vm.iastx (n := 20) dX7_finding_19 rfl in_19 rfl rfl (by decide) h2 ?_
      refine Vm.sub (lv' := [(1, .inl a1)]) [1] rfl ?_
      exact lX7_finding_20 a1 σ2 τ h hk
theorem kX7_finding (a1 : Int32) (σ τ : mm) {q : Int32 × mm} (h : fX7_finding a1 σ = some q) : Cx mX7_finding 0 [.inr (.inr (7, 0)), .inl a1] (σ, τ) (some (.inl q.1)) (q.2, τ) :=
  Cx.of (lv := [(0, .inr (.inr (7, 0))), (1, .inl a1)]) (by decide) (fun ad => Nat.le_of_ble_eq_true rfl) (fun ad => rfl) (lX7_finding_0 a1 σ τ h ⟨rfl, rfl⟩)
-- ThinBodies$Body pointsWithLetters (I)I
noncomputable def fX0_pointsWithLetters_37 (a0 : Nat) (a1 : Int32) (a3 : Int32) (s0 : Int32) (s1 : Int32) (σ : mm) : Option ((Int32 × Int32) ⊕ (Int32)) :=
  Option.bind (some (s0 * s1)) fun x1 =>
  Option.bind (some (a3 + (1 : Int32))) fun x2 =>
  some (.inl (x1, x2))
noncomputable def fX0_pointsWithLetters_4 (a0 : Nat) (a1 : Int32) (a2 : Int32) (a3 : Int32) (σ : mm) : Option ((Int32 × Int32) ⊕ (Int32)) :=
  if a1 ≤ a3 then
  some (.inr (a2))
  else
  if (σ.1 0 a0 0) ≤ a3 then
  fX0_pointsWithLetters_37 a0 a1 a3 a2 (4 : Int32) σ
  else
  Option.bind (rdI σ 9 a0 4 a3) fun x1 =>
  Option.bind (rdI σ 8 a0 4 a3) fun x2 =>
  fX0_pointsWithLetters_37 a0 a1 a3 a2 ((x1 - x2) + (1 : Int32)) σ
noncomputable def fX0_pointsWithLetters_4_L (a0 : Nat) (a1 : Int32) (σ : mm) : Int32 × Int32 → Option ((Int32 × Int32) ⊕ (Int32)) := fun z => fX0_pointsWithLetters_4 a0 a1 z.1 z.2 σ
noncomputable def fX0_pointsWithLetters_0 (a0 : Nat) (a1 : Int32) (σ : mm) : Option (Int32) :=
  lp (fX0_pointsWithLetters_4_L a0 a1 σ) ((1 : Int32), (0 : Int32))
noncomputable def fX0_pointsWithLetters (a0 : Nat) (a1 : Int32) (σ : mm) : Option (Int32) := fX0_pointsWithLetters_0 a0 a1 σ
set_option maxRecDepth 20000 in
theorem lX0_pointsWithLetters_37 (a0 : Nat) (ha0 : a0 < 3) (a1 : Int32) (a3 : Int32) (s0 : Int32) (s1 : Int32) (σ σ0 τ : mm) (hσ : σ = σ0) {r : Option mv} {M' : mm × mm} {v9 : (Int32 × Int32) ⊕ (Int32)} (h : fX0_pointsWithLetters_37 a0 a1 a3 s0 s1 σ = some v9) (hk : (Sum.elim (fun z : Int32 × Int32 => Vm mX0_pointsWithLetters 0 4 [(0, .inr (.inr (0, a0))), (1, .inl a1), (2, .inl z.1), (3, .inl z.2)] [] (σ, τ) r M') (fun q : Int32 => r = some (.inl q) ∧ M' = (σ0, τ))) v9) : Vm mX0_pointsWithLetters 0 37 [(0, .inr (.inr (0, a0))), (1, .inl a1), (3, .inl a3)] [.inl s1, .inl s0] (σ, τ) r M' := by
  unfold fX0_pointsWithLetters_37 at h
  refine Vm.imul (n := 38) dX0_pointsWithLetters_37 rfl ?_
  replace h := Option.bind_eq_some_iff.mp h
  obtain ⟨x1, e1, h⟩ := h
  replace e1 := Option.some.inj e1
  refine Vm.top e1 ?_
  refine Vm.istore_n (n := 39) (lv' := [(2, .inl x1), (0, .inr (.inr (0, a0))), (1, .inl a1), (3, .inl a3)]) dX0_pointsWithLetters_38 rfl (Nat.le_of_ble_eq_true rfl) rfl ?_
  replace h := Option.bind_eq_some_iff.mp h
  obtain ⟨x2, e2, h⟩ := h
  replace e2 := Option.some.inj e2
  refine Vm.iinc (n := 42) (v := x2) (lv' := [(3, .inl x2), (2, .inl x1), (0, .inr (.inr (0, a0))), (1, .inl a1)]) 3 dX0_pointsWithLetters_39 rfl rfl e2 (Nat.le_of_ble_eq_true rfl) rfl ?_
  refine Vm.goto 4 dX0_pointsWithLetters_42 rfl ?_
  refine Vm.sub (lv' := [(0, .inr (.inr (0, a0))), (1, .inl a1), (2, .inl x1), (3, .inl x2)]) [2, 3, 1, 0] rfl ?_
  obtain rfl := Option.some.inj h
  exact hk
set_option maxRecDepth 20000 in
theorem lX0_pointsWithLetters_4 (a0 : Nat) (ha0 : a0 < 3) (a1 : Int32) (a2 : Int32) (a3 : Int32) (σ σ0 τ : mm) (hσ : σ = σ0) {r : Option mv} {M' : mm × mm} {v9 : (Int32 × Int32) ⊕ (Int32)} (h : fX0_pointsWithLetters_4 a0 a1 a2 a3 σ = some v9) (hk : (Sum.elim (fun z : Int32 × Int32 => Vm mX0_pointsWithLetters 0 4 [(0, .inr (.inr (0, a0))), (1, .inl a1), (2, .inl z.1), (3, .inl z.2)] [] (σ, τ) r M') (fun q : Int32 => r = some (.inl q) ∧ M' = (σ0, τ))) v9) : Vm mX0_pointsWithLetters 0 4 [(0, .inr (.inr (0, a0))), (1, .inl a1), (2, .inl a2), (3, .inl a3)] [] (σ, τ) r M' := by
  unfold fX0_pointsWithLetters_4 at h
  refine Vm.iload_n (n := 5) 3 dX0_pointsWithLetters_4 rfl rfl ?_
  refine Vm.iload_n (n := 6) 1 dX0_pointsWithLetters_5 rfl rfl ?_
  refine Vm.icmp_ge (n := 9) 45 dX0_pointsWithLetters_6 rfl rfl (fun c9 => ?_) (fun c9 => ?_)
  · replace h := (if_pos c9).symm.trans h
    refine Vm.iload_n (n := 46) 2 dX0_pointsWithLetters_45 rfl rfl ?_
    obtain rfl := Option.some.inj h
    exact Vm.iret dX0_pointsWithLetters_46 rfl hk.1 (by rw [hσ]; exact hk.2.symm)
  · replace h := (if_neg c9).symm.trans h
    refine Vm.iload_n (n := 10) 2 dX0_pointsWithLetters_9 rfl rfl ?_
    refine Vm.iload_n (n := 11) 3 dX0_pointsWithLetters_10 rfl rfl ?_
    refine Vm.aload_n (n := 12) 0 dX0_pointsWithLetters_11 rfl rfl ?_
    refine Vm.gX (n := 15) dX0_pointsWithLetters_12 rfl wf_RX0_9 (ink ik_0 (by omega)) rfl (by decide) rfl (by decide) ?_
    refine Vm.icmp_ge (n := 18) 36 dX0_pointsWithLetters_15 rfl rfl (fun c9 => ?_) (fun c9 => ?_)
    · replace h := (if_pos c9).symm.trans h
      refine Vm.iconst (n := 37) (v := (4 : Int32)) dX0_pointsWithLetters_36 rfl (by decide) ?_
      refine Vm.sub (lv' := [(0, .inr (.inr (0, a0))), (1, .inl a1), (3, .inl a3)]) [0, 1, 3] rfl ?_
      exact lX0_pointsWithLetters_37 a0 (by omega) a1 a3 a2 (4 : Int32) σ σ0 τ hσ h hk
    · replace h := (if_neg c9).symm.trans h
      refine Vm.aload_n (n := 19) 0 dX0_pointsWithLetters_18 rfl rfl ?_
      refine Vm.getR (n := 22) dX0_pointsWithLetters_19 rfl wf_RX0_19 (ink ik_0 (by omega)) rfl (by decide) rfl ?_
      refine Vm.iload_n (n := 23) 3 dX0_pointsWithLetters_22 rfl rfl ?_
      replace h := Option.bind_eq_some_iff.mp h
      obtain ⟨x1, h1, h⟩ := h
      refine Vm.ialdx (n := 24) dX0_pointsWithLetters_23 rfl (ink ik_9 (by omega)) rfl rfl (by decide) h1 ?_
      refine Vm.aload_n (n := 25) 0 dX0_pointsWithLetters_24 rfl rfl ?_
      refine Vm.getR (n := 28) dX0_pointsWithLetters_25 rfl wf_RX0_15 (ink ik_0 (by omega)) rfl (by decide) rfl ?_
      refine Vm.iload_n (n := 29) 3 dX0_pointsWithLetters_28 rfl rfl ?_
      replace h := Option.bind_eq_some_iff.mp h
      obtain ⟨x2, h2, h⟩ := h
      refine Vm.ialdx (n := 30) dX0_pointsWithLetters_29 rfl (ink ik_8 (by omega)) rfl rfl (by decide) h2 ?_
      refine Vm.isub (n := 31) dX0_pointsWithLetters_30 rfl ?_
      refine Vm.iconst (n := 32) (v := (1 : Int32)) dX0_pointsWithLetters_31 rfl (by decide) ?_
      refine Vm.iadd (n := 33) dX0_pointsWithLetters_32 rfl ?_
      refine Vm.goto 37 dX0_pointsWithLetters_33 rfl ?_
      refine Vm.sub (lv' := [(0, .inr (.inr (0, a0))), (1, .inl a1), (3, .inl a3)]) [0, 1, 3] rfl ?_
      exact lX0_pointsWithLetters_37 a0 (by omega) a1 a3 a2 ((x1 - x2) + (1 : Int32)) σ σ0 τ hσ h hk
theorem lX0_pointsWithLetters_4_L (a0 : Nat) (ha0 : a0 < 3) (a1 : Int32) (σ σ0 τ : mm) (hσ : σ = σ0) {r : Option mv} {M' : mm × mm} (z : Int32 × Int32) (w9 : Int32) (h : lp (fX0_pointsWithLetters_4_L a0 a1 σ) z = some w9) (hk : (fun q : Int32 => r = some (.inl q) ∧ M' = (σ0, τ)) w9) : Vm mX0_pointsWithLetters 0 4 [(0, .inr (.inr (0, a0))), (1, .inl a1), (2, .inl z.1), (3, .inl z.2)] [] (σ, τ) r M' :=
  lp_link (S := Int32 × Int32) (R := Int32) (body := fX0_pointsWithLetters_4_L a0 a1 σ) (A := fun z : Int32 × Int32 => Vm mX0_pointsWithLetters 0 4 [(0, .inr (.inr (0, a0))), (1, .inl a1), (2, .inl z.1), (3, .inl z.2)] [] (σ, τ) r M') (B := fun w : Int32 => (fun q : Int32 => r = some (.inl q) ∧ M' = (σ0, τ)) w) (fun z v hb hv => lX0_pointsWithLetters_4 a0 ha0 a1 z.1 z.2 σ σ0 τ hσ hb hv) z w9 h hk
set_option maxRecDepth 20000 in
theorem lX0_pointsWithLetters_0 (a0 : Nat) (ha0 : a0 < 3) (a1 : Int32) (σ σ0 τ : mm) (hσ : σ = σ0) {r : Option mv} {M' : mm × mm} {v9 : Int32} (h : fX0_pointsWithLetters_0 a0 a1 σ = some v9) (hk : (fun q : Int32 => r = some (.inl q) ∧ M' = (σ0, τ)) v9) : Vm mX0_pointsWithLetters 0 0 [(0, .inr (.inr (0, a0))), (1, .inl a1)] [] (σ, τ) r M' := by
  unfold fX0_pointsWithLetters_0 at h
  refine Vm.iconst (n := 1) (v := (1 : Int32)) dX0_pointsWithLetters_0 rfl (by decide) ?_
  refine Vm.istore_n (n := 2) (lv' := [(2, .inl (1 : Int32)), (0, .inr (.inr (0, a0))), (1, .inl a1)]) dX0_pointsWithLetters_1 rfl (Nat.le_of_ble_eq_true rfl) rfl ?_
  refine Vm.iconst (n := 3) (v := (0 : Int32)) dX0_pointsWithLetters_2 rfl (by decide) ?_
  refine Vm.istore_n (n := 4) (lv' := [(3, .inl (0 : Int32)), (2, .inl (1 : Int32)), (0, .inr (.inr (0, a0))), (1, .inl a1)]) dX0_pointsWithLetters_3 rfl (Nat.le_of_ble_eq_true rfl) rfl ?_
  refine Vm.sub (lv' := [(0, .inr (.inr (0, a0))), (1, .inl a1), (2, .inl (1 : Int32)), (3, .inl (0 : Int32))]) [2, 3, 1, 0] rfl ?_
  exact lX0_pointsWithLetters_4_L a0 (by omega) a1 σ σ0 τ hσ ((1 : Int32), (0 : Int32)) _ h hk
theorem kX0_pointsWithLetters (a0 : Nat) (ha0 : a0 < 3) (a1 : Int32) (σ τ : mm) {q : Int32} (h : fX0_pointsWithLetters a0 a1 σ = some q) : Cx mX0_pointsWithLetters 0 [.inr (.inr (0, a0)), .inl a1] (σ, τ) (some (.inl q)) (σ, τ) :=
  Cx.of (lv := [(0, .inr (.inr (0, a0))), (1, .inl a1)]) (by decide) (fun ad => Nat.le_of_ble_eq_true rfl) (fun ad => rfl) (lX0_pointsWithLetters_0 a0 ha0 a1 σ σ τ rfl h ⟨rfl, rfl⟩)
-- ThinBodies$Body resetVectors ()V
noncomputable def fX0_resetVectors_31 (a0 : Nat) (a1 : Int32) (a2 : Int32) (s0 : Nat) (s1 : Int32) (s2 : Int32) (σ : mm) : Option ((Int32 × mm) ⊕ ((Int32 × mm) ⊕ (mm))) :=
  Option.bind (wrI σ 11 s0 4 s1 s2) fun σ1 =>
  Option.bind (some (a2 + (1 : Int32))) fun x2 =>
  some (.inl (x2, σ1))
noncomputable def fX0_resetVectors_9 (a0 : Nat) (a1 : Int32) (a2 : Int32) (σ : mm) : Option ((Int32 × mm) ⊕ ((Int32 × mm) ⊕ (mm))) :=
  if (4 : Int32) ≤ a2 then
  Option.bind (some (a1 + (1 : Int32))) fun x1 =>
  some (.inr (.inl (x1, σ)))
  else
  Option.bind (rdR 4 a1) fun k2 =>
  if a1 = a2 then
  fX0_resetVectors_31 a0 a1 a2 (4 * a0 + k2) a2 (1 : Int32) σ
  else
  fX0_resetVectors_31 a0 a1 a2 (4 * a0 + k2) a2 (0 : Int32) σ
noncomputable def fX0_resetVectors_9_L (a0 : Nat) (a1 : Int32) : Int32 × mm → Option ((Int32 × mm) ⊕ ((Int32 × mm) ⊕ (mm))) := fun z => fX0_resetVectors_9 a0 a1 z.1 z.2
noncomputable def fX0_resetVectors_2 (a0 : Nat) (a1 : Int32) (σ : mm) : Option ((Int32 × mm) ⊕ (mm)) :=
  if (4 : Int32) ≤ a1 then
  some (.inr (σ))
  else
  lp (fX0_resetVectors_9_L a0 a1) ((0 : Int32), σ)
noncomputable def fX0_resetVectors_2_L (a0 : Nat) : Int32 × mm → Option ((Int32 × mm) ⊕ (mm)) := fun z => fX0_resetVectors_2 a0 z.1 z.2
noncomputable def fX0_resetVectors_0 (a0 : Nat) (σ : mm) : Option (mm) :=
  lp (fX0_resetVectors_2_L a0) ((0 : Int32), σ)
noncomputable def fX0_resetVectors (a0 : Nat) (σ : mm) : Option (mm) := fX0_resetVectors_0 a0 σ
set_option maxRecDepth 20000 in
theorem lX0_resetVectors_31 (a0 : Nat) (ha0 : a0 < 3) (a1 : Int32) (a2 : Int32) (s0 : Nat) (hs0 : s0 < 12) (s1 : Int32) (s2 : Int32) (σ τ : mm) {r : Option mv} {M' : mm × mm} {v9 : (Int32 × mm) ⊕ ((Int32 × mm) ⊕ (mm))} (h : fX0_resetVectors_31 a0 a1 a2 s0 s1 s2 σ = some v9) (hk : (Sum.elim (fun z : Int32 × mm => Vm mX0_resetVectors 0 9 [(0, .inr (.inr (0, a0))), (1, .inl a1), (2, .inl z.1)] [] (z.2, τ) r M') (Sum.elim (fun z : Int32 × mm => Vm mX0_resetVectors 0 2 [(0, .inr (.inr (0, a0))), (1, .inl z.1)] [] (z.2, τ) r M') (fun q : mm => r = none ∧ M' = (q, τ)))) v9) : Vm mX0_resetVectors 0 31 [(0, .inr (.inr (0, a0))), (1, .inl a1), (2, .inl a2)] [.inl s2, .inl s1, .inr (.inr (11, s0))] (σ, τ) r M' := by
  unfold fX0_resetVectors_31 at h
  replace h := Option.bind_eq_some_iff.mp h
  obtain ⟨σ1, h1, h⟩ := h
  refine Vm.iastx (n := 32) dX0_resetVectors_31 rfl (ink ik_11 (by omega)) rfl rfl (by decide) h1 ?_
  replace h := Option.bind_eq_some_iff.mp h
  obtain ⟨x2, e2, h⟩ := h
  replace e2 := Option.some.inj e2
  refine Vm.iinc (n := 35) (v := x2) (lv' := [(2, .inl x2), (0, .inr (.inr (0, a0))), (1, .inl a1)]) 2 dX0_resetVectors_32 rfl rfl e2 (Nat.le_of_ble_eq_true rfl) rfl ?_
  refine Vm.goto 9 dX0_resetVectors_35 rfl ?_
  refine Vm.sub (lv' := [(0, .inr (.inr (0, a0))), (1, .inl a1), (2, .inl x2)]) [1, 2, 0] rfl ?_
  obtain rfl := Option.some.inj h
  exact hk
set_option maxRecDepth 20000 in
theorem lX0_resetVectors_9 (a0 : Nat) (ha0 : a0 < 3) (a1 : Int32) (a2 : Int32) (σ τ : mm) {r : Option mv} {M' : mm × mm} {v9 : (Int32 × mm) ⊕ ((Int32 × mm) ⊕ (mm))} (h : fX0_resetVectors_9 a0 a1 a2 σ = some v9) (hk : (Sum.elim (fun z : Int32 × mm => Vm mX0_resetVectors 0 9 [(0, .inr (.inr (0, a0))), (1, .inl a1), (2, .inl z.1)] [] (z.2, τ) r M') (Sum.elim (fun z : Int32 × mm => Vm mX0_resetVectors 0 2 [(0, .inr (.inr (0, a0))), (1, .inl z.1)] [] (z.2, τ) r M') (fun q : mm => r = none ∧ M' = (q, τ)))) v9) : Vm mX0_resetVectors 0 9 [(0, .inr (.inr (0, a0))), (1, .inl a1), (2, .inl a2)] [] (σ, τ) r M' := by
  unfold fX0_resetVectors_9 at h
  refine Vm.iload_n (n := 10) 2 dX0_resetVectors_9 rfl rfl ?_
  refine Vm.iconst (n := 11) (v := (4 : Int32)) dX0_resetVectors_10 rfl (by decide) ?_
  refine Vm.icmp_ge (n := 14) 38 dX0_resetVectors_11 rfl rfl (fun c9 => ?_) (fun c9 => ?_)
  · replace h := (if_pos c9).symm.trans h
    replace h := Option.bind_eq_some_iff.mp h
    obtain ⟨x1, e1, h⟩ := h
    replace e1 := Option.some.inj e1
    refine Vm.iinc (n := 41) (v := x1) (lv' := [(1, .inl x1), (0, .inr (.inr (0, a0))), (2, .inl a2)]) 1 dX0_resetVectors_38 rfl rfl e1 (Nat.le_of_ble_eq_true rfl) rfl ?_
    refine Vm.goto 2 dX0_resetVectors_41 rfl ?_
    refine Vm.sub (lv' := [(0, .inr (.inr (0, a0))), (1, .inl x1)]) [1, 0] rfl ?_
    obtain rfl := Option.some.inj h
    exact hk
  · replace h := (if_neg c9).symm.trans h
    refine Vm.aload_n (n := 15) 0 dX0_resetVectors_14 rfl rfl ?_
    refine Vm.getR (n := 18) dX0_resetVectors_15 rfl wf_RX0_33 (ink ik_0 (by omega)) rfl (by decide) rfl ?_
    refine Vm.iload_n (n := 19) 1 dX0_resetVectors_18 rfl rfl ?_
    replace h := Option.bind_eq_some_iff.mp h
    obtain ⟨k2, h2, h⟩ := h
    refine Vm.aald (n := 20) dX0_resetVectors_19 rfl (ink ik_28 (by omega)) rfl rfl (by decide) (fun _ => rfl) rfl h2 ?_
    have g2 := rdR_lt h2
    refine Vm.iload_n (n := 21) 2 dX0_resetVectors_20 rfl rfl ?_
    refine Vm.iload_n (n := 22) 1 dX0_resetVectors_21 rfl rfl ?_
    refine Vm.iload_n (n := 23) 2 dX0_resetVectors_22 rfl rfl ?_
    refine Vm.icmp_ne (n := 26) 30 dX0_resetVectors_23 rfl rfl (fun c9 => ?_) (fun c9 => ?_)
    · replace h := (if_neg c9).symm.trans h
      refine Vm.iconst (n := 31) (v := (0 : Int32)) dX0_resetVectors_30 rfl (by decide) ?_
      exact lX0_resetVectors_31 a0 (by omega) a1 a2 (4 * a0 + k2) (by omega) a2 (0 : Int32) σ τ h hk
    · replace h := (if_pos c9).symm.trans h
      refine Vm.iconst (n := 27) (v := (1 : Int32)) dX0_resetVectors_26 rfl (by decide) ?_
      refine Vm.goto 31 dX0_resetVectors_27 rfl ?_
      exact lX0_resetVectors_31 a0 (by omega) a1 a2 (4 * a0 + k2) (by omega) a2 (1 : Int32) σ τ h hk
theorem lX0_resetVectors_9_L (a0 : Nat) (ha0 : a0 < 3) (a1 : Int32) (τ : mm) {r : Option mv} {M' : mm × mm} (z : Int32 × mm) (w9 : (Int32 × mm) ⊕ (mm)) (h : lp (fX0_resetVectors_9_L a0 a1) z = some w9) (hk : (Sum.elim (fun z : Int32 × mm => Vm mX0_resetVectors 0 2 [(0, .inr (.inr (0, a0))), (1, .inl z.1)] [] (z.2, τ) r M') (fun q : mm => r = none ∧ M' = (q, τ))) w9) : Vm mX0_resetVectors 0 9 [(0, .inr (.inr (0, a0))), (1, .inl a1), (2, .inl z.1)] [] (z.2, τ) r M' :=
  lp_link (S := Int32 × mm) (R := (Int32 × mm) ⊕ (mm)) (body := fX0_resetVectors_9_L a0 a1) (A := fun z : Int32 × mm => Vm mX0_resetVectors 0 9 [(0, .inr (.inr (0, a0))), (1, .inl a1), (2, .inl z.1)] [] (z.2, τ) r M') (B := fun w : (Int32 × mm) ⊕ (mm) => (Sum.elim (fun z : Int32 × mm => Vm mX0_resetVectors 0 2 [(0, .inr (.inr (0, a0))), (1, .inl z.1)] [] (z.2, τ) r M') (fun q : mm => r = none ∧ M' = (q, τ))) w) (fun z v hb hv => lX0_resetVectors_9 a0 ha0 a1 z.1 z.2 τ hb hv) z w9 h hk
set_option maxRecDepth 20000 in
theorem lX0_resetVectors_2 (a0 : Nat) (ha0 : a0 < 3) (a1 : Int32) (σ τ : mm) {r : Option mv} {M' : mm × mm} {v9 : (Int32 × mm) ⊕ (mm)} (h : fX0_resetVectors_2 a0 a1 σ = some v9) (hk : (Sum.elim (fun z : Int32 × mm => Vm mX0_resetVectors 0 2 [(0, .inr (.inr (0, a0))), (1, .inl z.1)] [] (z.2, τ) r M') (fun q : mm => r = none ∧ M' = (q, τ))) v9) : Vm mX0_resetVectors 0 2 [(0, .inr (.inr (0, a0))), (1, .inl a1)] [] (σ, τ) r M' := by
  unfold fX0_resetVectors_2 at h
  refine Vm.iload_n (n := 3) 1 dX0_resetVectors_2 rfl rfl ?_
  refine Vm.iconst (n := 4) (v := (4 : Int32)) dX0_resetVectors_3 rfl (by decide) ?_
  refine Vm.icmp_ge (n := 7) 44 dX0_resetVectors_4 rfl rfl (fun c9 => ?_) (fun c9 => ?_)
  · replace h := (if_pos c9).symm.trans h
    obtain rfl := Option.some.inj h
    exact Vm.vret dX0_resetVectors_44 rfl hk.1 hk.2.symm
  · replace h := (if_neg c9).symm.trans h
    refine Vm.iconst (n := 8) (v := (0 : Int32)) dX0_resetVectors_7 rfl (by decide) ?_
    refine Vm.istore_n (n := 9) (lv' := [(2, .inl (0 : Int32)), (0, .inr (.inr (0, a0))), (1, .inl a1)]) dX0_resetVectors_8 rfl (Nat.le_of_ble_eq_true rfl) rfl ?_
    refine Vm.sub (lv' := [(0, .inr (.inr (0, a0))), (1, .inl a1), (2, .inl (0 : Int32))]) [1, 2, 0] rfl ?_
    exact lX0_resetVectors_9_L a0 (by omega) a1 τ ((0 : Int32), σ) _ h hk
theorem lX0_resetVectors_2_L (a0 : Nat) (ha0 : a0 < 3) (τ : mm) {r : Option mv} {M' : mm × mm} (z : Int32 × mm) (w9 : mm) (h : lp (fX0_resetVectors_2_L a0) z = some w9) (hk : (fun q : mm => r = none ∧ M' = (q, τ)) w9) : Vm mX0_resetVectors 0 2 [(0, .inr (.inr (0, a0))), (1, .inl z.1)] [] (z.2, τ) r M' :=
  lp_link (S := Int32 × mm) (R := mm) (body := fX0_resetVectors_2_L a0) (A := fun z : Int32 × mm => Vm mX0_resetVectors 0 2 [(0, .inr (.inr (0, a0))), (1, .inl z.1)] [] (z.2, τ) r M') (B := fun w : mm => (fun q : mm => r = none ∧ M' = (q, τ)) w) (fun z v hb hv => lX0_resetVectors_2 a0 ha0 z.1 z.2 τ hb hv) z w9 h hk
set_option maxRecDepth 20000 in
theorem lX0_resetVectors_0 (a0 : Nat) (ha0 : a0 < 3) (σ τ : mm) {r : Option mv} {M' : mm × mm} {v9 : mm} (h : fX0_resetVectors_0 a0 σ = some v9) (hk : (fun q : mm => r = none ∧ M' = (q, τ)) v9) : Vm mX0_resetVectors 0 0 [(0, .inr (.inr (0, a0)))] [] (σ, τ) r M' := by
  unfold fX0_resetVectors_0 at h
  refine Vm.iconst (n := 1) (v := (0 : Int32)) dX0_resetVectors_0 rfl (by decide) ?_
  refine Vm.istore_n (n := 2) (lv' := [(1, .inl (0 : Int32)), (0, .inr (.inr (0, a0)))]) dX0_resetVectors_1 rfl (Nat.le_of_ble_eq_true rfl) rfl ?_
  refine Vm.sub (lv' := [(0, .inr (.inr (0, a0))), (1, .inl (0 : Int32))]) [1, 0] rfl ?_
  exact lX0_resetVectors_2_L a0 (by omega) τ ((0 : Int32), σ) _ h hk
theorem kX0_resetVectors (a0 : Nat) (ha0 : a0 < 3) (σ τ : mm) {q : mm} (h : fX0_resetVectors a0 σ = some q) : Cx mX0_resetVectors 0 [.inr (.inr (0, a0))] (σ, τ) (none) (q, τ) :=
  Cx.of (lv := [(0, .inr (.inr (0, a0)))]) (by decide) (fun ad => Nat.le_of_ble_eq_true rfl) (fun ad => rfl) (lX0_resetVectors_0 a0 ha0 σ τ h ⟨rfl, rfl⟩)
-- ThinBodies$Body setLetters (I)V
noncomputable def fX0_setLetters_14 (a0 : Nat) (a1 : Int32) (a2 : Int32) (σ : mm) : Option ((Int32 × mm) ⊕ (mm)) :=
  if a1 ≤ a2 then
  Option.bind (some (stI σ 0 a0 0 a1)) fun σ1 =>
  Option.bind (fX0_resetVectors a0 σ1) fun q2 =>
  some (.inr (q2))
  else
  Option.bind (wrI σ 8 a0 4 a2 (0 : Int32)) fun σ3 =>
  Option.bind (wrI σ3 9 a0 4 a2 (3 : Int32)) fun σ4 =>
  Option.bind (some (a2 + (1 : Int32))) fun x5 =>
  some (.inl (x5, σ4))
noncomputable def fX0_setLetters_14_L (a0 : Nat) (a1 : Int32) : Int32 × mm → Option ((Int32 × mm) ⊕ (mm)) := fun z => fX0_setLetters_14 a0 a1 z.1 z.2
noncomputable def fX0_setLetters_0 (a0 : Nat) (a1 : Int32) (σ : mm) : Option (mm) :=
  if a1 = (σ.1 0 a0 0) then
  some (σ)
  else
  Option.bind (some (σ.1 0 a0 0)) fun x1 =>
  lp (fX0_setLetters_14_L a0 a1) (x1, σ)
noncomputable def fX0_setLetters (a0 : Nat) (a1 : Int32) (σ : mm) : Option (mm) := fX0_setLetters_0 a0 a1 σ
set_option maxRecDepth 20000 in
theorem lX0_setLetters_14 (a0 : Nat) (ha0 : a0 < 3) (a1 : Int32) (a2 : Int32) (σ τ : mm) {r : Option mv} {M' : mm × mm} {v9 : (Int32 × mm) ⊕ (mm)} (h : fX0_setLetters_14 a0 a1 a2 σ = some v9) (hk : (Sum.elim (fun z : Int32 × mm => Vm mX0_setLetters 1 14 [(0, .inr (.inr (0, a0))), (1, .inl a1), (2, .inl z.1)] [] (z.2, τ) r M') (fun q : mm => r = none ∧ M' = (q, τ))) v9) : Vm mX0_setLetters 1 14 [(0, .inr (.inr (0, a0))), (1, .inl a1), (2, .inl a2)] [] (σ, τ) r M' := by
  unfold fX0_setLetters_14 at h
  refine Vm.iload_n (n := 15) 2 dX0_setLetters_14 rfl rfl ?_
  refine Vm.iload_n (n := 16) 1 dX0_setLetters_15 rfl rfl ?_
  refine Vm.icmp_ge (n := 19) 39 dX0_setLetters_16 rfl rfl (fun c9 => ?_) (fun c9 => ?_)
  · replace h := (if_pos c9).symm.trans h
    refine Vm.aload_n (n := 40) 0 dX0_setLetters_39 rfl rfl ?_
    refine Vm.iload_n (n := 41) 1 dX0_setLetters_40 rfl rfl ?_
    refine Vm.pX (n := 44) (ty := .int) dX0_setLetters_41 rfl wf_RX0_9 (ink ik_0 (by omega)) rfl (by decide) rfl (by decide) rfl rfl rfl rfl ?_
    replace h := Option.bind_eq_some_iff.mp h
    obtain ⟨σ1, e1, h⟩ := h
    replace e1 := Option.some.inj e1
    refine Vm.mem (congrArg (fun z => (z, τ)) e1) ?_
    refine Vm.aload_n (n := 45) 0 dX0_setLetters_44 rfl rfl ?_
    replace h := Option.bind_eq_some_iff.mp h
    obtain ⟨q2, h2, h⟩ := h
    refine Vm.callVv (Y := mX0_resetVectors) (n := 48) [] dX0_setLetters_45 rfl wv_RX0_37 omX0_resetVectors rfl (ink ik_0 (by omega)) rfl rfl rfl (Nat.le_of_ble_eq_true rfl) (by decide) (kX0_resetVectors a0 (by omega) σ1 τ h2) ?_
    obtain rfl := Option.some.inj h
    exact Vm.vret dX0_setLetters_48 rfl hk.1 hk.2.symm
  · replace h := (if_neg c9).symm.trans h
    refine Vm.aload_n (n := 20) 0 dX0_setLetters_19 rfl rfl ?_
    refine Vm.getR (n := 23) dX0_setLetters_20 rfl wf_RX0_15 (ink ik_0 (by omega)) rfl (by decide) rfl ?_
    refine Vm.iload_n (n := 24) 2 dX0_setLetters_23 rfl rfl ?_
    refine Vm.iconst (n := 25) (v := (0 : Int32)) dX0_setLetters_24 rfl (by decide) ?_
    replace h := Option.bind_eq_some_iff.mp h
    obtain ⟨σ3, h3, h⟩ := h
    refine Vm.iastx (n := 26) dX0_setLetters_25 rfl (ink ik_8 (by omega)) rfl rfl (by decide) h3 ?_
    refine Vm.aload_n (n := 27) 0 dX0_setLetters_26 rfl rfl ?_
    refine Vm.getR (n := 30) dX0_setLetters_27 rfl wf_RX0_19 (ink ik_0 (by omega)) rfl (by decide) rfl ?_
    refine Vm.iload_n (n := 31) 2 dX0_setLetters_30 rfl rfl ?_
    refine Vm.iconst (n := 32) (v := (3 : Int32)) dX0_setLetters_31 rfl (by decide) ?_
    replace h := Option.bind_eq_some_iff.mp h
    obtain ⟨σ4, h4, h⟩ := h
    refine Vm.iastx (n := 33) dX0_setLetters_32 rfl (ink ik_9 (by omega)) rfl rfl (by decide) h4 ?_
    replace h := Option.bind_eq_some_iff.mp h
    obtain ⟨x5, e5, h⟩ := h
    replace e5 := Option.some.inj e5
    refine Vm.iinc (n := 36) (v := x5) (lv' := [(2, .inl x5), (0, .inr (.inr (0, a0))), (1, .inl a1)]) 2 dX0_setLetters_33 rfl rfl e5 (Nat.le_of_ble_eq_true rfl) rfl ?_
    refine Vm.goto 14 dX0_setLetters_36 rfl ?_
    refine Vm.sub (lv' := [(0, .inr (.inr (0, a0))), (1, .inl a1), (2, .inl x5)]) [1, 2, 0] rfl ?_
    obtain rfl := Option.some.inj h
    exact hk
theorem lX0_setLetters_14_L (a0 : Nat) (ha0 : a0 < 3) (a1 : Int32) (τ : mm) {r : Option mv} {M' : mm × mm} (z : Int32 × mm) (w9 : mm) (h : lp (fX0_setLetters_14_L a0 a1) z = some w9) (hk : (fun q : mm => r = none ∧ M' = (q, τ)) w9) : Vm mX0_setLetters 1 14 [(0, .inr (.inr (0, a0))), (1, .inl a1), (2, .inl z.1)] [] (z.2, τ) r M' :=
  lp_link (S := Int32 × mm) (R := mm) (body := fX0_setLetters_14_L a0 a1) (A := fun z : Int32 × mm => Vm mX0_setLetters 1 14 [(0, .inr (.inr (0, a0))), (1, .inl a1), (2, .inl z.1)] [] (z.2, τ) r M') (B := fun w : mm => (fun q : mm => r = none ∧ M' = (q, τ)) w) (fun z v hb hv => lX0_setLetters_14 a0 ha0 a1 z.1 z.2 τ hb hv) z w9 h hk
set_option maxRecDepth 20000 in
theorem lX0_setLetters_0 (a0 : Nat) (ha0 : a0 < 3) (a1 : Int32) (σ τ : mm) {r : Option mv} {M' : mm × mm} {v9 : mm} (h : fX0_setLetters_0 a0 a1 σ = some v9) (hk : (fun q : mm => r = none ∧ M' = (q, τ)) v9) : Vm mX0_setLetters 1 0 [(0, .inr (.inr (0, a0))), (1, .inl a1)] [] (σ, τ) r M' := by
  unfold fX0_setLetters_0 at h
  refine Vm.iload_n (n := 1) 1 dX0_setLetters_0 rfl rfl ?_
  refine Vm.aload_n (n := 2) 0 dX0_setLetters_1 rfl rfl ?_
  refine Vm.gX (n := 5) dX0_setLetters_2 rfl wf_RX0_9 (ink ik_0 (by omega)) rfl (by decide) rfl (by decide) ?_
  refine Vm.icmp_ne (n := 8) 9 dX0_setLetters_5 rfl rfl (fun c9 => ?_) (fun c9 => ?_)
  · replace h := (if_neg c9).symm.trans h
    refine Vm.aload_n (n := 10) 0 dX0_setLetters_9 rfl rfl ?_
    refine Vm.gX (n := 13) dX0_setLetters_10 rfl wf_RX0_9 (ink ik_0 (by omega)) rfl (by decide) rfl (by decide) ?_
    replace h := Option.bind_eq_some_iff.mp h
    obtain ⟨x1, e1, h⟩ := h
    replace e1 := Option.some.inj e1
    refine Vm.top e1 ?_
    refine Vm.istore_n (n := 14) (lv' := [(2, .inl x1), (0, .inr (.inr (0, a0))), (1, .inl a1)]) dX0_setLetters_13 rfl (Nat.le_of_ble_eq_true rfl) rfl ?_
    refine Vm.sub (lv' := [(0, .inr (.inr (0, a0))), (1, .inl a1), (2, .inl x1)]) [1, 2, 0] rfl ?_
    exact lX0_setLetters_14_L a0 (by omega) a1 τ (x1, σ) _ h hk
  · replace h := (if_pos c9).symm.trans h
    obtain rfl := Option.some.inj h
    exact Vm.vret dX0_setLetters_8 rfl hk.1 hk.2.symm
theorem kX0_setLetters (a0 : Nat) (ha0 : a0 < 3) (a1 : Int32) (σ τ : mm) {q : mm} (h : fX0_setLetters a0 a1 σ = some q) : Cx mX0_setLetters 1 [.inr (.inr (0, a0)), .inl a1] (σ, τ) (none) (q, τ) :=
  Cx.of (lv := [(0, .inr (.inr (0, a0))), (1, .inl a1)]) (by decide) (fun ad => Nat.le_of_ble_eq_true rfl) (fun ad => rfl) (lX0_setLetters_0 a0 ha0 a1 σ τ h ⟨rfl, rfl⟩)
-- ThinBodies bodyChanged ()V
def fX7_bodyChanged_0 (σ : mm) : mm :=
  (stI (stI σ 1 0 0 (1 : Int32)) 6 0 0 (1 : Int32))
def fX7_bodyChanged (σ : mm) : mm := fX7_bodyChanged_0 σ
set_option maxRecDepth 20000 in
theorem lX7_bodyChanged_0 (σ τ : mm) {r : Option mv} {M' : mm × mm} {v9 : mm} (h : fX7_bodyChanged_0 σ = v9) (hk : (fun q : mm => r = none ∧ M' = (q, τ)) v9) : Vm mX7_bodyChanged 0 0 [(0, .inr (.inr (7, 0)))] [] (σ, τ) r M' := by
  unfold fX7_bodyChanged_0 at h
  refine Vm.aload_n (n := 1) 0 dX7_bodyChanged_0 rfl rfl ?_
  refine Vm.getR (n := 4) dX7_bodyChanged_1 rfl wf_RX7_29 in_7 rfl (by decide) rfl ?_
  refine Vm.iconst (n := 5) (v := (1 : Int32)) dX7_bodyChanged_4 rfl (by decide) ?_
  refine Vm.pX (n := 8) (ty := .boolean) dX7_bodyChanged_5 rfl wf_RX7_361 in_1 rfl (by decide) rfl (by decide) rfl rfl rfl rfl ?_
  refine Vm.aload_n (n := 9) 0 dX7_bodyChanged_8 rfl rfl ?_
  refine Vm.getR (n := 12) dX7_bodyChanged_9 rfl wf_RX7_36 in_7 rfl (by decide) rfl ?_
  refine Vm.iconst (n := 13) (v := (1 : Int32)) dX7_bodyChanged_12 rfl (by decide) ?_
  refine Vm.pX (n := 16) (ty := .boolean) dX7_bodyChanged_13 rfl wf_RX7_364 in_6 rfl (by decide) rfl (by decide) rfl rfl rfl rfl ?_
  subst h
  exact Vm.vret dX7_bodyChanged_16 rfl hk.1 hk.2.symm
theorem kX7_bodyChanged (σ τ : mm) {q : mm} (h : fX7_bodyChanged σ = q) : Cx mX7_bodyChanged 0 [.inr (.inr (7, 0))] (σ, τ) (none) (q, τ) :=
  Cx.of (lv := [(0, .inr (.inr (7, 0)))]) (by decide) (fun ad => Nat.le_of_ble_eq_true rfl) (fun ad => rfl) (lX7_bodyChanged_0 σ τ h ⟨rfl, rfl⟩)
-- ThinBodies letters (I)I
noncomputable def fX7_letters_10 (σ : mm) : Option (Int32 × mm) :=
  Option.bind (fX7_finding (0 : Int32) σ) fun q1 =>
  some ((q1.1, q1.2))
noncomputable def fX7_letters_0 (a1 : Int32) (σ : mm) : Option (Int32 × mm) :=
  if a1 < (1 : Int32) then
  fX7_letters_10 σ
  else
  if a1 ≤ (4 : Int32) then
  Option.bind (fX0_pointsWithLetters 0 a1 σ) fun q1 =>
  if q1 ≤ (4096 : Int32) then
  Option.bind (some (σ.1 0 0 0)) fun x2 =>
  Option.bind (fX0_setLetters 0 a1 σ) fun q3 =>
  some ((x2, (fX7_bodyChanged q3)))
  else
  Option.bind (fX7_finding (1 : Int32) σ) fun q4 =>
  some ((q4.1, q4.2))
  else
  fX7_letters_10 σ
noncomputable def fX7_letters (a1 : Int32) (σ : mm) : Option (Int32 × mm) := fX7_letters_0 a1 σ
set_option maxRecDepth 20000 in
theorem lX7_letters_10 (σ τ : mm) {r : Option mv} {M' : mm × mm} {v9 : Int32 × mm} (h : fX7_letters_10 σ = some v9) (hk : (fun q : Int32 × mm => r = some (.inl q.1) ∧ M' = (q.2, τ)) v9) : Vm mX7_letters 2 10 [(0, .inr (.inr (7, 0)))] [] (σ, τ) r M' := by
  unfold fX7_letters_10 at h
  refine Vm.aload_n (n := 11) 0 dX7_letters_10 rfl rfl ?_
  refine Vm.iconst (n := 12) (v := (0 : Int32)) dX7_letters_11 rfl (by decide) ?_
  replace h := Option.bind_eq_some_iff.mp h
  obtain ⟨q1, h1, h⟩ := h
  refine Vm.callV (Y := mX7_finding) (n := 15) [.inl (0 : Int32)] dX7_letters_12 rfl wv_RX7_68 omX7_finding rfl in_7 rfl rfl rfl (Nat.le_of_ble_eq_true rfl) (by decide) (kX7_finding (0 : Int32) σ τ h1) ?_
  obtain rfl := Option.some.inj h
  exact Vm.iret dX7_letters_15 rfl hk.1 hk.2.symm
set_option maxRecDepth 20000 in
theorem lX7_letters_0 (a1 : Int32) (σ τ : mm) {r : Option mv} {M' : mm × mm} {v9 : Int32 × mm} (h : fX7_letters_0 a1 σ = some v9) (hk : (fun q : Int32 × mm => r = some (.inl q.1) ∧ M' = (q.2, τ)) v9) : Vm mX7_letters 2 0 [(0, .inr (.inr (7, 0))), (1, .inl a1)] [] (σ, τ) r M' := by
  unfold fX7_letters_0 at h
  refine Vm.iload_n (n := 1) 1 dX7_letters_0 rfl rfl ?_
  refine Vm.iconst (n := 2) (v := (1 : Int32)) dX7_letters_1 rfl (by decide) ?_
  refine Vm.icmp_lt (n := 5) 10 dX7_letters_2 rfl rfl (fun c9 => ?_) (fun c9 => ?_)
  · replace h := (if_pos c9).symm.trans h
    refine Vm.sub (lv' := [(0, .inr (.inr (7, 0)))]) [0] rfl ?_
    exact lX7_letters_10 σ τ h hk
  · replace h := (if_neg c9).symm.trans h
    refine Vm.iload_n (n := 6) 1 dX7_letters_5 rfl rfl ?_
    refine Vm.iconst (n := 7) (v := (4 : Int32)) dX7_letters_6 rfl (by decide) ?_
    refine Vm.icmp_le (n := 10) 16 dX7_letters_7 rfl rfl (fun c9 => ?_) (fun c9 => ?_)
    · replace h := (if_pos c9).symm.trans h
      refine Vm.aload_n (n := 17) 0 dX7_letters_16 rfl rfl ?_
      refine Vm.getR (n := 20) dX7_letters_17 rfl wf_RX7_12 in_7 rfl (by decide) rfl ?_
      refine Vm.iload_n (n := 21) 1 dX7_letters_20 rfl rfl ?_
      replace h := Option.bind_eq_some_iff.mp h
      obtain ⟨q1, h1, h⟩ := h
      refine Vm.callV (Y := mX0_pointsWithLetters) (n := 24) [.inl a1] dX7_letters_21 rfl wv_RX7_72 omX0_pointsWithLetters rfl (ink ik_0 (by decide)) rfl rfl rfl (Nat.le_of_ble_eq_true rfl) (by decide) (kX0_pointsWithLetters 0 (by decide) a1 σ τ h1) ?_
      refine Vm.sipush (n := 27) (v := (4096 : Int32)) dX7_letters_24 rfl (by decide) ?_
      refine Vm.icmp_le (n := 30) 36 dX7_letters_27 rfl rfl (fun c9 => ?_) (fun c9 => ?_)
      · replace h := (if_pos c9).symm.trans h
        refine Vm.aload_n (n := 37) 0 dX7_letters_36 rfl rfl ?_
        refine Vm.getR (n := 40) dX7_letters_37 rfl wf_RX7_12 in_7 rfl (by decide) rfl ?_
        refine Vm.gX (n := 43) dX7_letters_40 rfl wf_RX7_75 (ink ik_0 (by decide)) rfl (by decide) rfl (by decide) ?_
        replace h := Option.bind_eq_some_iff.mp h
        obtain ⟨x2, e2, h⟩ := h
        replace e2 := Option.some.inj e2
        refine Vm.top e2 ?_
        refine Vm.istore_n (n := 44) (lv' := [(2, .inl x2), (0, .inr (.inr (7, 0))), (1, .inl a1)]) dX7_letters_43 rfl (Nat.le_of_ble_eq_true rfl) rfl ?_
        refine Vm.aload_n (n := 45) 1 dX7_letters_44 rfl rfl ?_
        refine Vm.getR (n := 48) dX7_letters_45 rfl wf_RX7_12 in_7 rfl (by decide) rfl ?_
        refine Vm.iload_n (n := 49) 2 dX7_letters_48 rfl rfl ?_
        replace h := Option.bind_eq_some_iff.mp h
        obtain ⟨q3, h3, h⟩ := h
        refine Vm.callVv (Y := mX0_setLetters) (n := 52) [.inl a1] dX7_letters_49 rfl wv_RX7_79 omX0_setLetters rfl (ink ik_0 (by decide)) rfl rfl rfl (Nat.le_of_ble_eq_true rfl) (by decide) (kX0_setLetters 0 (by decide) a1 σ τ h3) ?_
        refine Vm.aload_n (n := 53) 1 dX7_letters_52 rfl rfl ?_
        refine Vm.callVv (Y := mX7_bodyChanged) (n := 56) [] dX7_letters_53 rfl wv_RX7_83 omX7_bodyChanged rfl in_7 rfl rfl rfl (Nat.le_of_ble_eq_true rfl) (by decide) (kX7_bodyChanged q3 τ rfl) ?_
        refine Vm.iload_n (n := 57) 0 dX7_letters_56 rfl rfl ?_
        obtain rfl := Option.some.inj h
        exact Vm.iret dX7_letters_57 rfl hk.1 hk.2.symm
      · replace h := (if_neg c9).symm.trans h
        refine Vm.aload_n (n := 31) 0 dX7_letters_30 rfl rfl ?_
        refine Vm.iconst (n := 32) (v := (1 : Int32)) dX7_letters_31 rfl (by decide) ?_
        replace h := Option.bind_eq_some_iff.mp h
        obtain ⟨q4, h4, h⟩ := h
        refine Vm.callV (Y := mX7_finding) (n := 35) [.inl (1 : Int32)] dX7_letters_32 rfl wv_RX7_68 omX7_finding rfl in_7 rfl rfl rfl (Nat.le_of_ble_eq_true rfl) (by decide) (kX7_finding (1 : Int32) σ τ h4) ?_
        obtain rfl := Option.some.inj h
        exact Vm.iret dX7_letters_35 rfl hk.1 hk.2.symm
    · replace h := (if_neg c9).symm.trans h
      refine Vm.sub (lv' := [(0, .inr (.inr (7, 0)))]) [0] rfl ?_
      exact lX7_letters_10 σ τ h hk
theorem kX7_letters (a1 : Int32) (σ τ : mm) {q : Int32 × mm} (h : fX7_letters a1 σ = some q) : Cx mX7_letters 2 [.inr (.inr (7, 0)), .inl a1] (σ, τ) (some (.inl q.1)) (q.2, τ) :=
  Cx.of (lv := [(0, .inr (.inr (7, 0))), (1, .inl a1)]) (by decide) (fun ad => Nat.le_of_ble_eq_true rfl) (fun ad => rfl) (lX7_letters_0 a1 σ τ h ⟨rfl, rfl⟩)
-- ThinBodies$Body hasLetter (I)Z
def fX0_hasLetter_0 (a0 : Nat) (a1 : Int32) (σ : mm) : Bool :=
  if a1 < (0 : Int32) then
  false
  else
  if (σ.1 0 a0 0) ≤ a1 then
  false
  else
  true
def fX0_hasLetter (a0 : Nat) (a1 : Int32) (σ : mm) : Bool := fX0_hasLetter_0 a0 a1 σ
set_option maxRecDepth 20000 in
theorem lX0_hasLetter_0 (a0 : Nat) (ha0 : a0 < 3) (a1 : Int32) (σ σ0 τ : mm) (hσ : σ = σ0) {r : Option mv} {M' : mm × mm} {v9 : Bool} (h : fX0_hasLetter_0 a0 a1 σ = v9) (hk : (fun q : Bool => r = some (.inl (bi q)) ∧ M' = (σ0, τ)) v9) : Vm mX0_hasLetter 0 0 [(0, .inr (.inr (0, a0))), (1, .inl a1)] [] (σ, τ) r M' := by
  unfold fX0_hasLetter_0 at h
  refine Vm.iload_n (n := 1) 1 dX0_hasLetter_0 rfl rfl ?_
  refine Vm.if_lt (n := 4) 16 dX0_hasLetter_1 rfl rfl (fun c9 => ?_) (fun c9 => ?_)
  · replace h := (if_pos c9).symm.trans h
    refine Vm.iconst (n := 17) (v := (0 : Int32)) dX0_hasLetter_16 rfl (by decide) ?_
    subst h
    exact Vm.zret (b := false) dX0_hasLetter_17 rfl rfl hk.1 (by rw [hσ]; exact hk.2.symm)
  · replace h := (if_neg c9).symm.trans h
    refine Vm.iload_n (n := 5) 1 dX0_hasLetter_4 rfl rfl ?_
    refine Vm.aload_n (n := 6) 0 dX0_hasLetter_5 rfl rfl ?_
    refine Vm.gX (n := 9) dX0_hasLetter_6 rfl wf_RX0_9 (ink ik_0 (by omega)) rfl (by decide) rfl (by decide) ?_
    refine Vm.icmp_ge (n := 12) 16 dX0_hasLetter_9 rfl rfl (fun c9 => ?_) (fun c9 => ?_)
    · replace h := (if_pos c9).symm.trans h
      refine Vm.iconst (n := 17) (v := (0 : Int32)) dX0_hasLetter_16 rfl (by decide) ?_
      subst h
      exact Vm.zret (b := false) dX0_hasLetter_17 rfl rfl hk.1 (by rw [hσ]; exact hk.2.symm)
    · replace h := (if_neg c9).symm.trans h
      refine Vm.iconst (n := 13) (v := (1 : Int32)) dX0_hasLetter_12 rfl (by decide) ?_
      refine Vm.goto 17 dX0_hasLetter_13 rfl ?_
      subst h
      exact Vm.zret (b := true) dX0_hasLetter_17 rfl rfl hk.1 (by rw [hσ]; exact hk.2.symm)
theorem kX0_hasLetter (a0 : Nat) (ha0 : a0 < 3) (a1 : Int32) (σ τ : mm) {q : Bool} (h : fX0_hasLetter a0 a1 σ = q) : Cx mX0_hasLetter 0 [.inr (.inr (0, a0)), .inl a1] (σ, τ) (some (.inl (bi q))) (σ, τ) :=
  Cx.of (lv := [(0, .inr (.inr (0, a0))), (1, .inl a1)]) (by decide) (fun ad => Nat.le_of_ble_eq_true rfl) (fun ad => rfl) (lX0_hasLetter_0 a0 ha0 a1 σ σ τ rfl h ⟨rfl, rfl⟩)
-- ThinBodies within (II)Z
def fX7_within_0 (a0 : Int32) (a1 : Int32) : Bool :=
  if a0 < (-a1) then
  false
  else
  if a1 < a0 then
  false
  else
  true
def fX7_within (a0 : Int32) (a1 : Int32) : Bool := fX7_within_0 a0 a1
set_option maxRecDepth 20000 in
theorem lX7_within_0 (a0 : Int32) (a1 : Int32) {M : mm × mm} {r : Option mv} {M' : mm × mm} {v9 : Bool} (h : fX7_within_0 a0 a1 = v9) (hk : (fun q : Bool => r = some (.inl (bi q)) ∧ M' = M) v9) : Vm mX7_within 0 0 [(0, .inl a0), (1, .inl a1)] [] M r M' := by
  unfold fX7_within_0 at h
  refine Vm.iload_n (n := 1) 0 dX7_within_0 rfl rfl ?_
  refine Vm.iload_n (n := 2) 1 dX7_within_1 rfl rfl ?_
  refine Vm.ineg (n := 3) dX7_within_2 rfl ?_
  refine Vm.icmp_lt (n := 6) 15 dX7_within_3 rfl rfl (fun c9 => ?_) (fun c9 => ?_)
  · replace h := (if_pos c9).symm.trans h
    refine Vm.iconst (n := 16) (v := (0 : Int32)) dX7_within_15 rfl (by decide) ?_
    subst h
    exact Vm.zret (b := false) dX7_within_16 rfl rfl hk.1 hk.2.symm
  · replace h := (if_neg c9).symm.trans h
    refine Vm.iload_n (n := 7) 0 dX7_within_6 rfl rfl ?_
    refine Vm.iload_n (n := 8) 1 dX7_within_7 rfl rfl ?_
    refine Vm.icmp_gt (n := 11) 15 dX7_within_8 rfl rfl (fun c9 => ?_) (fun c9 => ?_)
    · replace h := (if_pos c9).symm.trans h
      refine Vm.iconst (n := 16) (v := (0 : Int32)) dX7_within_15 rfl (by decide) ?_
      subst h
      exact Vm.zret (b := false) dX7_within_16 rfl rfl hk.1 hk.2.symm
    · replace h := (if_neg c9).symm.trans h
      refine Vm.iconst (n := 12) (v := (1 : Int32)) dX7_within_11 rfl (by decide) ?_
      refine Vm.goto 16 dX7_within_12 rfl ?_
      subst h
      exact Vm.zret (b := true) dX7_within_16 rfl rfl hk.1 hk.2.symm
theorem kX7_within (a0 : Int32) (a1 : Int32) {M : mm × mm} {q : Bool} (h : fX7_within a0 a1 = q) : Cx mX7_within 0 [.inl a0, .inl a1] M (some (.inl (bi q))) M :=
  Cx.of (lv := [(0, .inl a0), (1, .inl a1)]) (by decide) (fun ad => Nat.le_of_ble_eq_true rfl) (fun ad => rfl) (lX7_within_0 a0 a1 h ⟨rfl, rfl⟩)
-- ThinBodies$Body pointsWithSide (III)I
noncomputable def fX0_pointsWithSide_48 (a0 : Nat) (a1 : Int32) (a2 : Int32) (a3 : Int32) (a5 : Int32) (s0 : Int32) (s1 : Int32) (σ : mm) : Option ((Int32 × Int32) ⊕ (Int32)) :=
  Option.bind (some (s0 * s1)) fun x1 =>
  Option.bind (some (a5 + (1 : Int32))) fun x2 =>
  some (.inl (x1, x2))
noncomputable def fX0_pointsWithSide_6 (a0 : Nat) (a1 : Int32) (a2 : Int32) (a3 : Int32) (a4 : Int32) (a5 : Int32) (σ : mm) : Option ((Int32 × Int32) ⊕ (Int32)) :=
  if (σ.1 0 a0 0) ≤ a5 then
  some (.inr (a4))
  else
  if a5 = a1 then
  fX0_pointsWithSide_48 a0 a1 a2 a3 a5 a4 ((a3 - a2) + (1 : Int32)) σ
  else
  Option.bind (rdI σ 9 a0 4 a5) fun x1 =>
  Option.bind (rdI σ 8 a0 4 a5) fun x2 =>
  fX0_pointsWithSide_48 a0 a1 a2 a3 a5 a4 ((x1 - x2) + (1 : Int32)) σ
noncomputable def fX0_pointsWithSide_6_L (a0 : Nat) (a1 : Int32) (a2 : Int32) (a3 : Int32) (σ : mm) : Int32 × Int32 → Option ((Int32 × Int32) ⊕ (Int32)) := fun z => fX0_pointsWithSide_6 a0 a1 a2 a3 z.1 z.2 σ
noncomputable def fX0_pointsWithSide_0 (a0 : Nat) (a1 : Int32) (a2 : Int32) (a3 : Int32) (σ : mm) : Option (Int32) :=
  lp (fX0_pointsWithSide_6_L a0 a1 a2 a3 σ) ((1 : Int32), (0 : Int32))
noncomputable def fX0_pointsWithSide (a0 : Nat) (a1 : Int32) (a2 : Int32) (a3 : Int32) (σ : mm) : Option (Int32) := fX0_pointsWithSide_0 a0 a1 a2 a3 σ
set_option maxRecDepth 20000 in
theorem lX0_pointsWithSide_48 (a0 : Nat) (ha0 : a0 < 3) (a1 : Int32) (a2 : Int32) (a3 : Int32) (a5 : Int32) (s0 : Int32) (s1 : Int32) (σ σ0 τ : mm) (hσ : σ = σ0) {r : Option mv} {M' : mm × mm} {v9 : (Int32 × Int32) ⊕ (Int32)} (h : fX0_pointsWithSide_48 a0 a1 a2 a3 a5 s0 s1 σ = some v9) (hk : (Sum.elim (fun z : Int32 × Int32 => Vm mX0_pointsWithSide 0 6 [(0, .inr (.inr (0, a0))), (1, .inl a1), (2, .inl a2), (3, .inl a3), (4, .inl z.1), (5, .inl z.2)] [] (σ, τ) r M') (fun q : Int32 => r = some (.inl q) ∧ M' = (σ0, τ))) v9) : Vm mX0_pointsWithSide 0 48 [(0, .inr (.inr (0, a0))), (1, .inl a1), (2, .inl a2), (3, .inl a3), (5, .inl a5)] [.inl s1, .inl s0] (σ, τ) r M' := by
  unfold fX0_pointsWithSide_48 at h
  refine Vm.imul (n := 49) dX0_pointsWithSide_48 rfl ?_
  replace h := Option.bind_eq_some_iff.mp h
  obtain ⟨x1, e1, h⟩ := h
  replace e1 := Option.some.inj e1
  refine Vm.top e1 ?_
  refine Vm.istore (n := 51) (lv' := [(4, .inl x1), (0, .inr (.inr (0, a0))), (1, .inl a1), (2, .inl a2), (3, .inl a3), (5, .inl a5)]) dX0_pointsWithSide_49 rfl (Nat.le_of_ble_eq_true rfl) rfl ?_
  replace h := Option.bind_eq_some_iff.mp h
  obtain ⟨x2, e2, h⟩ := h
  replace e2 := Option.some.inj e2
  refine Vm.iinc (n := 54) (v := x2) (lv' := [(5, .inl x2), (4, .inl x1), (0, .inr (.inr (0, a0))), (1, .inl a1), (2, .inl a2), (3, .inl a3)]) 5 dX0_pointsWithSide_51 rfl rfl e2 (Nat.le_of_ble_eq_true rfl) rfl ?_
  refine Vm.goto 6 dX0_pointsWithSide_54 rfl ?_
  refine Vm.sub (lv' := [(0, .inr (.inr (0, a0))), (1, .inl a1), (2, .inl a2), (3, .inl a3), (4, .inl x1), (5, .inl x2)]) [2, 3, 4, 5, 1, 0] rfl ?_
  obtain rfl := Option.some.inj h
  exact hk
set_option maxRecDepth 20000 in
theorem lX0_pointsWithSide_6 (a0 : Nat) (ha0 : a0 < 3) (a1 : Int32) (a2 : Int32) (a3 : Int32) (a4 : Int32) (a5 : Int32) (σ σ0 τ : mm) (hσ : σ = σ0) {r : Option mv} {M' : mm × mm} {v9 : (Int32 × Int32) ⊕ (Int32)} (h : fX0_pointsWithSide_6 a0 a1 a2 a3 a4 a5 σ = some v9) (hk : (Sum.elim (fun z : Int32 × Int32 => Vm mX0_pointsWithSide 0 6 [(0, .inr (.inr (0, a0))), (1, .inl a1), (2, .inl a2), (3, .inl a3), (4, .inl z.1), (5, .inl z.2)] [] (σ, τ) r M') (fun q : Int32 => r = some (.inl q) ∧ M' = (σ0, τ))) v9) : Vm mX0_pointsWithSide 0 6 [(0, .inr (.inr (0, a0))), (1, .inl a1), (2, .inl a2), (3, .inl a3), (4, .inl a4), (5, .inl a5)] [] (σ, τ) r M' := by
  unfold fX0_pointsWithSide_6 at h
  refine Vm.iload (n := 8) 5 dX0_pointsWithSide_6 rfl rfl ?_
  refine Vm.aload_n (n := 9) 0 dX0_pointsWithSide_8 rfl rfl ?_
  refine Vm.gX (n := 12) dX0_pointsWithSide_9 rfl wf_RX0_9 (ink ik_0 (by omega)) rfl (by decide) rfl (by decide) ?_
  refine Vm.icmp_ge (n := 15) 57 dX0_pointsWithSide_12 rfl rfl (fun c9 => ?_) (fun c9 => ?_)
  · replace h := (if_pos c9).symm.trans h
    refine Vm.iload (n := 59) 4 dX0_pointsWithSide_57 rfl rfl ?_
    obtain rfl := Option.some.inj h
    exact Vm.iret dX0_pointsWithSide_59 rfl hk.1 (by rw [hσ]; exact hk.2.symm)
  · replace h := (if_neg c9).symm.trans h
    refine Vm.iload (n := 17) 4 dX0_pointsWithSide_15 rfl rfl ?_
    refine Vm.iload (n := 19) 5 dX0_pointsWithSide_17 rfl rfl ?_
    refine Vm.iload_n (n := 20) 1 dX0_pointsWithSide_19 rfl rfl ?_
    refine Vm.icmp_ne (n := 23) 31 dX0_pointsWithSide_20 rfl rfl (fun c9 => ?_) (fun c9 => ?_)
    · replace h := (if_neg c9).symm.trans h
      refine Vm.aload_n (n := 32) 0 dX0_pointsWithSide_31 rfl rfl ?_
      refine Vm.getR (n := 35) dX0_pointsWithSide_32 rfl wf_RX0_19 (ink ik_0 (by omega)) rfl (by decide) rfl ?_
      refine Vm.iload (n := 37) 5 dX0_pointsWithSide_35 rfl rfl ?_
      replace h := Option.bind_eq_some_iff.mp h
      obtain ⟨x1, h1, h⟩ := h
      refine Vm.ialdx (n := 38) dX0_pointsWithSide_37 rfl (ink ik_9 (by omega)) rfl rfl (by decide) h1 ?_
      refine Vm.aload_n (n := 39) 0 dX0_pointsWithSide_38 rfl rfl ?_
      refine Vm.getR (n := 42) dX0_pointsWithSide_39 rfl wf_RX0_15 (ink ik_0 (by omega)) rfl (by decide) rfl ?_
      refine Vm.iload (n := 44) 5 dX0_pointsWithSide_42 rfl rfl ?_
      replace h := Option.bind_eq_some_iff.mp h
      obtain ⟨x2, h2, h⟩ := h
      refine Vm.ialdx (n := 45) dX0_pointsWithSide_44 rfl (ink ik_8 (by omega)) rfl rfl (by decide) h2 ?_
      refine Vm.isub (n := 46) dX0_pointsWithSide_45 rfl ?_
      refine Vm.iconst (n := 47) (v := (1 : Int32)) dX0_pointsWithSide_46 rfl (by decide) ?_
      refine Vm.iadd (n := 48) dX0_pointsWithSide_47 rfl ?_
      refine Vm.sub (lv' := [(0, .inr (.inr (0, a0))), (1, .inl a1), (2, .inl a2), (3, .inl a3), (5, .inl a5)]) [0, 1, 2, 3, 5] rfl ?_
      exact lX0_pointsWithSide_48 a0 (by omega) a1 a2 a3 a5 a4 ((x1 - x2) + (1 : Int32)) σ σ0 τ hσ h hk
    · replace h := (if_pos c9).symm.trans h
      refine Vm.iload_n (n := 24) 3 dX0_pointsWithSide_23 rfl rfl ?_
      refine Vm.iload_n (n := 25) 2 dX0_pointsWithSide_24 rfl rfl ?_
      refine Vm.isub (n := 26) dX0_pointsWithSide_25 rfl ?_
      refine Vm.iconst (n := 27) (v := (1 : Int32)) dX0_pointsWithSide_26 rfl (by decide) ?_
      refine Vm.iadd (n := 28) dX0_pointsWithSide_27 rfl ?_
      refine Vm.goto 48 dX0_pointsWithSide_28 rfl ?_
      refine Vm.sub (lv' := [(0, .inr (.inr (0, a0))), (1, .inl a1), (2, .inl a2), (3, .inl a3), (5, .inl a5)]) [0, 1, 2, 3, 5] rfl ?_
      exact lX0_pointsWithSide_48 a0 (by omega) a1 a2 a3 a5 a4 ((a3 - a2) + (1 : Int32)) σ σ0 τ hσ h hk
theorem lX0_pointsWithSide_6_L (a0 : Nat) (ha0 : a0 < 3) (a1 : Int32) (a2 : Int32) (a3 : Int32) (σ σ0 τ : mm) (hσ : σ = σ0) {r : Option mv} {M' : mm × mm} (z : Int32 × Int32) (w9 : Int32) (h : lp (fX0_pointsWithSide_6_L a0 a1 a2 a3 σ) z = some w9) (hk : (fun q : Int32 => r = some (.inl q) ∧ M' = (σ0, τ)) w9) : Vm mX0_pointsWithSide 0 6 [(0, .inr (.inr (0, a0))), (1, .inl a1), (2, .inl a2), (3, .inl a3), (4, .inl z.1), (5, .inl z.2)] [] (σ, τ) r M' :=
  lp_link (S := Int32 × Int32) (R := Int32) (body := fX0_pointsWithSide_6_L a0 a1 a2 a3 σ) (A := fun z : Int32 × Int32 => Vm mX0_pointsWithSide 0 6 [(0, .inr (.inr (0, a0))), (1, .inl a1), (2, .inl a2), (3, .inl a3), (4, .inl z.1), (5, .inl z.2)] [] (σ, τ) r M') (B := fun w : Int32 => (fun q : Int32 => r = some (.inl q) ∧ M' = (σ0, τ)) w) (fun z v hb hv => lX0_pointsWithSide_6 a0 ha0 a1 a2 a3 z.1 z.2 σ σ0 τ hσ hb hv) z w9 h hk
set_option maxRecDepth 20000 in
theorem lX0_pointsWithSide_0 (a0 : Nat) (ha0 : a0 < 3) (a1 : Int32) (a2 : Int32) (a3 : Int32) (σ σ0 τ : mm) (hσ : σ = σ0) {r : Option mv} {M' : mm × mm} {v9 : Int32} (h : fX0_pointsWithSide_0 a0 a1 a2 a3 σ = some v9) (hk : (fun q : Int32 => r = some (.inl q) ∧ M' = (σ0, τ)) v9) : Vm mX0_pointsWithSide 0 0 [(0, .inr (.inr (0, a0))), (1, .inl a1), (2, .inl a2), (3, .inl a3)] [] (σ, τ) r M' := by
  unfold fX0_pointsWithSide_0 at h
  refine Vm.iconst (n := 1) (v := (1 : Int32)) dX0_pointsWithSide_0 rfl (by decide) ?_
  refine Vm.istore (n := 3) (lv' := [(4, .inl (1 : Int32)), (0, .inr (.inr (0, a0))), (1, .inl a1), (2, .inl a2), (3, .inl a3)]) dX0_pointsWithSide_1 rfl (Nat.le_of_ble_eq_true rfl) rfl ?_
  refine Vm.iconst (n := 4) (v := (0 : Int32)) dX0_pointsWithSide_3 rfl (by decide) ?_
  refine Vm.istore (n := 6) (lv' := [(5, .inl (0 : Int32)), (4, .inl (1 : Int32)), (0, .inr (.inr (0, a0))), (1, .inl a1), (2, .inl a2), (3, .inl a3)]) dX0_pointsWithSide_4 rfl (Nat.le_of_ble_eq_true rfl) rfl ?_
  refine Vm.sub (lv' := [(0, .inr (.inr (0, a0))), (1, .inl a1), (2, .inl a2), (3, .inl a3), (4, .inl (1 : Int32)), (5, .inl (0 : Int32))]) [2, 3, 4, 5, 1, 0] rfl ?_
  exact lX0_pointsWithSide_6_L a0 (by omega) a1 a2 a3 σ σ0 τ hσ ((1 : Int32), (0 : Int32)) _ h hk
theorem kX0_pointsWithSide (a0 : Nat) (ha0 : a0 < 3) (a1 : Int32) (a2 : Int32) (a3 : Int32) (σ τ : mm) {q : Int32} (h : fX0_pointsWithSide a0 a1 a2 a3 σ = some q) : Cx mX0_pointsWithSide 0 [.inr (.inr (0, a0)), .inl a1, .inl a2, .inl a3] (σ, τ) (some (.inl q)) (σ, τ) :=
  Cx.of (lv := [(0, .inr (.inr (0, a0))), (1, .inl a1), (2, .inl a2), (3, .inl a3)]) (by decide) (fun ad => Nat.le_of_ble_eq_true rfl) (fun ad => rfl) (lX0_pointsWithSide_0 a0 ha0 a1 a2 a3 σ σ τ rfl h ⟨rfl, rfl⟩)
-- ThinBodies$Body setSide (III)V
def fX0_setSide_0 (a0 : Nat) (a1 : Int32) (a2 : Int32) (a3 : Int32) (σ : mm) : Option (mm) :=
  Option.bind (wrI σ 8 a0 4 a1 a2) fun σ1 =>
  Option.bind (wrI σ1 9 a0 4 a1 a3) fun σ2 =>
  some (σ2)
def fX0_setSide (a0 : Nat) (a1 : Int32) (a2 : Int32) (a3 : Int32) (σ : mm) : Option (mm) := fX0_setSide_0 a0 a1 a2 a3 σ
set_option maxRecDepth 20000 in
theorem lX0_setSide_0 (a0 : Nat) (ha0 : a0 < 3) (a1 : Int32) (a2 : Int32) (a3 : Int32) (σ τ : mm) {r : Option mv} {M' : mm × mm} {v9 : mm} (h : fX0_setSide_0 a0 a1 a2 a3 σ = some v9) (hk : (fun q : mm => r = none ∧ M' = (q, τ)) v9) : Vm mX0_setSide 0 0 [(0, .inr (.inr (0, a0))), (1, .inl a1), (2, .inl a2), (3, .inl a3)] [] (σ, τ) r M' := by
  unfold fX0_setSide_0 at h
  refine Vm.aload_n (n := 1) 0 dX0_setSide_0 rfl rfl ?_
  refine Vm.getR (n := 4) dX0_setSide_1 rfl wf_RX0_15 (ink ik_0 (by omega)) rfl (by decide) rfl ?_
  refine Vm.iload_n (n := 5) 1 dX0_setSide_4 rfl rfl ?_
  refine Vm.iload_n (n := 6) 2 dX0_setSide_5 rfl rfl ?_
  replace h := Option.bind_eq_some_iff.mp h
  obtain ⟨σ1, h1, h⟩ := h
  refine Vm.iastx (n := 7) dX0_setSide_6 rfl (ink ik_8 (by omega)) rfl rfl (by decide) h1 ?_
  refine Vm.aload_n (n := 8) 0 dX0_setSide_7 rfl rfl ?_
  refine Vm.getR (n := 11) dX0_setSide_8 rfl wf_RX0_19 (ink ik_0 (by omega)) rfl (by decide) rfl ?_
  refine Vm.iload_n (n := 12) 1 dX0_setSide_11 rfl rfl ?_
  refine Vm.iload_n (n := 13) 3 dX0_setSide_12 rfl rfl ?_
  replace h := Option.bind_eq_some_iff.mp h
  obtain ⟨σ2, h2, h⟩ := h
  refine Vm.iastx (n := 14) dX0_setSide_13 rfl (ink ik_9 (by omega)) rfl rfl (by decide) h2 ?_
  obtain rfl := Option.some.inj h
  exact Vm.vret dX0_setSide_14 rfl hk.1 hk.2.symm
theorem kX0_setSide (a0 : Nat) (ha0 : a0 < 3) (a1 : Int32) (a2 : Int32) (a3 : Int32) (σ τ : mm) {q : mm} (h : fX0_setSide a0 a1 a2 a3 σ = some q) : Cx mX0_setSide 0 [.inr (.inr (0, a0)), .inl a1, .inl a2, .inl a3] (σ, τ) (none) (q, τ) :=
  Cx.of (lv := [(0, .inr (.inr (0, a0))), (1, .inl a1), (2, .inl a2), (3, .inl a3)]) (by decide) (fun ad => Nat.le_of_ble_eq_true rfl) (fun ad => rfl) (lX0_setSide_0 a0 ha0 a1 a2 a3 σ τ h ⟨rfl, rfl⟩)
-- ThinBodies$Body points ()I
noncomputable def fX0_points_0 (a0 : Nat) (σ : mm) : Option (Int32) :=
  Option.bind (fX0_pointsWithLetters a0 (σ.1 0 a0 0) σ) fun q1 =>
  some (q1)
noncomputable def fX0_points (a0 : Nat) (σ : mm) : Option (Int32) := fX0_points_0 a0 σ
set_option maxRecDepth 20000 in
theorem lX0_points_0 (a0 : Nat) (ha0 : a0 < 3) (σ σ0 τ : mm) (hσ : σ = σ0) {r : Option mv} {M' : mm × mm} {v9 : Int32} (h : fX0_points_0 a0 σ = some v9) (hk : (fun q : Int32 => r = some (.inl q) ∧ M' = (σ0, τ)) v9) : Vm mX0_points 1 0 [(0, .inr (.inr (0, a0)))] [] (σ, τ) r M' := by
  unfold fX0_points_0 at h
  refine Vm.aload_n (n := 1) 0 dX0_points_0 rfl rfl ?_
  refine Vm.aload_n (n := 2) 0 dX0_points_1 rfl rfl ?_
  refine Vm.gX (n := 5) dX0_points_2 rfl wf_RX0_9 (ink ik_0 (by omega)) rfl (by decide) rfl (by decide) ?_
  replace h := Option.bind_eq_some_iff.mp h
  obtain ⟨q1, h1, h⟩ := h
  refine Vm.callV (Y := mX0_pointsWithLetters) (n := 8) [.inl (σ.1 0 a0 0)] dX0_points_5 rfl wv_RX0_50 omX0_pointsWithLetters rfl (ink ik_0 (by omega)) rfl rfl rfl (Nat.le_of_ble_eq_true rfl) (by decide) (kX0_pointsWithLetters a0 (by omega) (σ.1 0 a0 0) σ τ h1) ?_
  obtain rfl := Option.some.inj h
  exact Vm.iret dX0_points_8 rfl hk.1 (by rw [hσ]; exact hk.2.symm)
theorem kX0_points (a0 : Nat) (ha0 : a0 < 3) (σ τ : mm) {q : Int32} (h : fX0_points a0 σ = some q) : Cx mX0_points 1 [.inr (.inr (0, a0))] (σ, τ) (some (.inl q)) (σ, τ) :=
  Cx.of (lv := [(0, .inr (.inr (0, a0)))]) (by decide) (fun ad => Nat.le_of_ble_eq_true rfl) (fun ad => rfl) (lX0_points_0 a0 ha0 σ σ τ rfl h ⟨rfl, rfl⟩)
-- ThinBodies box (III)I
noncomputable def fX7_box_34 (σ : mm) : Option (Int32 × mm) :=
  Option.bind (fX7_finding (0 : Int32) σ) fun q1 =>
  some ((q1.1, q1.2))
noncomputable def fX7_box_0 (a1 : Int32) (a2 : Int32) (a3 : Int32) (σ : mm) : Option (Int32 × mm) :=
  if (bi (fX0_hasLetter 0 a1 σ)) = (0 : Int32) then
  fX7_box_34 σ
  else
  if (bi (fX7_within a2 (9 : Int32))) = (0 : Int32) then
  fX7_box_34 σ
  else
  if (bi (fX7_within a3 (9 : Int32))) = (0 : Int32) then
  fX7_box_34 σ
  else
  if a2 ≤ a3 then
  Option.bind (fX0_pointsWithSide 0 a1 a2 a3 σ) fun q1 =>
  if q1 ≤ (4096 : Int32) then
  Option.bind (fX0_setSide 0 a1 a2 a3 σ) fun q2 =>
  Option.bind (fX0_points 0 (fX7_bodyChanged q2)) fun q3 =>
  some ((q3, (fX7_bodyChanged q2)))
  else
  Option.bind (fX7_finding (1 : Int32) σ) fun q4 =>
  some ((q4.1, q4.2))
  else
  fX7_box_34 σ
noncomputable def fX7_box (a1 : Int32) (a2 : Int32) (a3 : Int32) (σ : mm) : Option (Int32 × mm) := fX7_box_0 a1 a2 a3 σ
set_option maxRecDepth 20000 in
theorem lX7_box_34 (σ τ : mm) {r : Option mv} {M' : mm × mm} {v9 : Int32 × mm} (h : fX7_box_34 σ = some v9) (hk : (fun q : Int32 × mm => r = some (.inl q.1) ∧ M' = (q.2, τ)) v9) : Vm mX7_box 2 34 [(0, .inr (.inr (7, 0)))] [] (σ, τ) r M' := by
  unfold fX7_box_34 at h
  refine Vm.aload_n (n := 35) 0 dX7_box_34 rfl rfl ?_
  refine Vm.iconst (n := 36) (v := (0 : Int32)) dX7_box_35 rfl (by decide) ?_
  replace h := Option.bind_eq_some_iff.mp h
  obtain ⟨q1, h1, h⟩ := h
  refine Vm.callV (Y := mX7_finding) (n := 39) [.inl (0 : Int32)] dX7_box_36 rfl wv_RX7_68 omX7_finding rfl in_7 rfl rfl rfl (Nat.le_of_ble_eq_true rfl) (by decide) (kX7_finding (0 : Int32) σ τ h1) ?_
  obtain rfl := Option.some.inj h
  exact Vm.iret dX7_box_39 rfl hk.1 hk.2.symm
set_option maxRecDepth 20000 in
theorem lX7_box_0 (a1 : Int32) (a2 : Int32) (a3 : Int32) (σ τ : mm) {r : Option mv} {M' : mm × mm} {v9 : Int32 × mm} (h : fX7_box_0 a1 a2 a3 σ = some v9) (hk : (fun q : Int32 × mm => r = some (.inl q.1) ∧ M' = (q.2, τ)) v9) : Vm mX7_box 2 0 [(0, .inr (.inr (7, 0))), (1, .inl a1), (2, .inl a2), (3, .inl a3)] [] (σ, τ) r M' := by
  unfold fX7_box_0 at h
  refine Vm.aload_n (n := 1) 0 dX7_box_0 rfl rfl ?_
  refine Vm.getR (n := 4) dX7_box_1 rfl wf_RX7_12 in_7 rfl (by decide) rfl ?_
  refine Vm.iload_n (n := 5) 1 dX7_box_4 rfl rfl ?_
  refine Vm.callV (Y := mX0_hasLetter) (n := 8) [.inl a1] dX7_box_5 rfl wv_RX7_86 omX0_hasLetter rfl (ink ik_0 (by decide)) rfl rfl rfl (Nat.le_of_ble_eq_true rfl) (by decide) (kX0_hasLetter 0 (by decide) a1 σ τ rfl) ?_
  refine Vm.if_eq (n := 11) 34 dX7_box_8 rfl rfl (fun c9 => ?_) (fun c9 => ?_)
  · replace h := (if_pos c9).symm.trans h
    refine Vm.sub (lv' := [(0, .inr (.inr (7, 0)))]) [0] rfl ?_
    exact lX7_box_34 σ τ h hk
  · replace h := (if_neg c9).symm.trans h
    refine Vm.iload_n (n := 12) 2 dX7_box_11 rfl rfl ?_
    refine Vm.bipush (n := 14) (v := (9 : Int32)) dX7_box_12 rfl (by decide) ?_
    refine Vm.callS (Y := mX7_within) (n := 17) [.inl a2, .inl (9 : Int32)] dX7_box_14 rfl wv_RX7_90 omX7_within rfl rfl (Nat.le_of_ble_eq_true rfl) (by decide) (kX7_within a2 (9 : Int32) rfl) ?_
    refine Vm.if_eq (n := 20) 34 dX7_box_17 rfl rfl (fun c9 => ?_) (fun c9 => ?_)
    · replace h := (if_pos c9).symm.trans h
      refine Vm.sub (lv' := [(0, .inr (.inr (7, 0)))]) [0] rfl ?_
      exact lX7_box_34 σ τ h hk
    · replace h := (if_neg c9).symm.trans h
      refine Vm.iload_n (n := 21) 3 dX7_box_20 rfl rfl ?_
      refine Vm.bipush (n := 23) (v := (9 : Int32)) dX7_box_21 rfl (by decide) ?_
      refine Vm.callS (Y := mX7_within) (n := 26) [.inl a3, .inl (9 : Int32)] dX7_box_23 rfl wv_RX7_90 omX7_within rfl rfl (Nat.le_of_ble_eq_true rfl) (by decide) (kX7_within a3 (9 : Int32) rfl) ?_
      refine Vm.if_eq (n := 29) 34 dX7_box_26 rfl rfl (fun c9 => ?_) (fun c9 => ?_)
      · replace h := (if_pos c9).symm.trans h
        refine Vm.sub (lv' := [(0, .inr (.inr (7, 0)))]) [0] rfl ?_
        exact lX7_box_34 σ τ h hk
      · replace h := (if_neg c9).symm.trans h
        refine Vm.iload_n (n := 30) 2 dX7_box_29 rfl rfl ?_
        refine Vm.iload_n (n := 31) 3 dX7_box_30 rfl rfl ?_
        refine Vm.icmp_le (n := 34) 40 dX7_box_31 rfl rfl (fun c9 => ?_) (fun c9 => ?_)
        · replace h := (if_pos c9).symm.trans h
          refine Vm.aload_n (n := 41) 0 dX7_box_40 rfl rfl ?_
          refine Vm.getR (n := 44) dX7_box_41 rfl wf_RX7_12 in_7 rfl (by decide) rfl ?_
          refine Vm.iload_n (n := 45) 1 dX7_box_44 rfl rfl ?_
          refine Vm.iload_n (n := 46) 2 dX7_box_45 rfl rfl ?_
          refine Vm.iload_n (n := 47) 3 dX7_box_46 rfl rfl ?_
          replace h := Option.bind_eq_some_iff.mp h
          obtain ⟨q1, h1, h⟩ := h
          refine Vm.callV (Y := mX0_pointsWithSide) (n := 50) [.inl a1, .inl a2, .inl a3] dX7_box_47 rfl wv_RX7_94 omX0_pointsWithSide rfl (ink ik_0 (by decide)) rfl rfl rfl (Nat.le_of_ble_eq_true rfl) (by decide) (kX0_pointsWithSide 0 (by decide) a1 a2 a3 σ τ h1) ?_
          refine Vm.sipush (n := 53) (v := (4096 : Int32)) dX7_box_50 rfl (by decide) ?_
          refine Vm.icmp_le (n := 56) 62 dX7_box_53 rfl rfl (fun c9 => ?_) (fun c9 => ?_)
          · replace h := (if_pos c9).symm.trans h
            refine Vm.aload_n (n := 63) 0 dX7_box_62 rfl rfl ?_
            refine Vm.getR (n := 66) dX7_box_63 rfl wf_RX7_12 in_7 rfl (by decide) rfl ?_
            refine Vm.iload_n (n := 67) 1 dX7_box_66 rfl rfl ?_
            refine Vm.iload_n (n := 68) 2 dX7_box_67 rfl rfl ?_
            refine Vm.iload_n (n := 69) 3 dX7_box_68 rfl rfl ?_
            replace h := Option.bind_eq_some_iff.mp h
            obtain ⟨q2, h2, h⟩ := h
            refine Vm.callVv (Y := mX0_setSide) (n := 72) [.inl a1, .inl a2, .inl a3] dX7_box_69 rfl wv_RX7_98 omX0_setSide rfl (ink ik_0 (by decide)) rfl rfl rfl (Nat.le_of_ble_eq_true rfl) (by decide) (kX0_setSide 0 (by decide) a1 a2 a3 σ τ h2) ?_
            refine Vm.aload_n (n := 73) 0 dX7_box_72 rfl rfl ?_
            refine Vm.callVv (Y := mX7_bodyChanged) (n := 76) [] dX7_box_73 rfl wv_RX7_83 omX7_bodyChanged rfl in_7 rfl rfl rfl (Nat.le_of_ble_eq_true rfl) (by decide) (kX7_bodyChanged q2 τ rfl) ?_
            refine Vm.aload_n (n := 77) 0 dX7_box_76 rfl rfl ?_
            refine Vm.getR (n := 80) dX7_box_77 rfl wf_RX7_12 in_7 rfl (by decide) rfl ?_
            replace h := Option.bind_eq_some_iff.mp h
            obtain ⟨q3, h3, h⟩ := h
            refine Vm.callV (Y := mX0_points) (n := 83) [] dX7_box_80 rfl wv_RX7_102 omX0_points rfl (ink ik_0 (by decide)) rfl rfl rfl (Nat.le_of_ble_eq_true rfl) (by decide) (kX0_points 0 (by decide) (fX7_bodyChanged q2) τ h3) ?_
            obtain rfl := Option.some.inj h
            exact Vm.iret dX7_box_83 rfl hk.1 hk.2.symm
          · replace h := (if_neg c9).symm.trans h
            refine Vm.aload_n (n := 57) 0 dX7_box_56 rfl rfl ?_
            refine Vm.iconst (n := 58) (v := (1 : Int32)) dX7_box_57 rfl (by decide) ?_
            replace h := Option.bind_eq_some_iff.mp h
            obtain ⟨q4, h4, h⟩ := h
            refine Vm.callV (Y := mX7_finding) (n := 61) [.inl (1 : Int32)] dX7_box_58 rfl wv_RX7_68 omX7_finding rfl in_7 rfl rfl rfl (Nat.le_of_ble_eq_true rfl) (by decide) (kX7_finding (1 : Int32) σ τ h4) ?_
            obtain rfl := Option.some.inj h
            exact Vm.iret dX7_box_61 rfl hk.1 hk.2.symm
        · replace h := (if_neg c9).symm.trans h
          refine Vm.sub (lv' := [(0, .inr (.inr (7, 0)))]) [0] rfl ?_
          exact lX7_box_34 σ τ h hk
theorem kX7_box (a1 : Int32) (a2 : Int32) (a3 : Int32) (σ τ : mm) {q : Int32 × mm} (h : fX7_box a1 a2 a3 σ = some q) : Cx mX7_box 2 [.inr (.inr (7, 0)), .inl a1, .inl a2, .inl a3] (σ, τ) (some (.inl q.1)) (q.2, τ) :=
  Cx.of (lv := [(0, .inr (.inr (7, 0))), (1, .inl a1), (2, .inl a2), (3, .inl a3)]) (by decide) (fun ad => Nat.le_of_ble_eq_true rfl) (fun ad => rfl) (lX7_box_0 a1 a2 a3 σ τ h ⟨rfl, rfl⟩)
-- ThinBodies boxOf (II)I
def fX7_boxOf_20 (σ : mm) : Option (Int32 × mm) :=
  Option.bind (fX7_finding (0 : Int32) σ) fun q1 =>
  some ((q1.1, q1.2))
def fX7_boxOf_0 (a1 : Int32) (a2 : Int32) (σ : mm) : Option (Int32 × mm) :=
  if (bi (fX0_hasLetter 0 a1 σ)) = (0 : Int32) then
  fX7_boxOf_20 σ
  else
  if a2 < (0 : Int32) then
  fX7_boxOf_20 σ
  else
  if a2 ≤ (1 : Int32) then
  if a2 = (0 : Int32) then
  Option.bind (rdI σ 8 0 4 a1) fun x2 =>
  some ((x2, σ))
  else
  Option.bind (rdI σ 9 0 4 a1) fun x1 =>
  some ((x1, σ))
  else
  fX7_boxOf_20 σ
def fX7_boxOf (a1 : Int32) (a2 : Int32) (σ : mm) : Option (Int32 × mm) := fX7_boxOf_0 a1 a2 σ
set_option maxRecDepth 20000 in
theorem lX7_boxOf_20 (σ τ : mm) {r : Option mv} {M' : mm × mm} {v9 : Int32 × mm} (h : fX7_boxOf_20 σ = some v9) (hk : (fun q : Int32 × mm => r = some (.inl q.1) ∧ M' = (q.2, τ)) v9) : Vm mX7_boxOf 1 20 [(0, .inr (.inr (7, 0)))] [] (σ, τ) r M' := by
  unfold fX7_boxOf_20 at h
  refine Vm.aload_n (n := 21) 0 dX7_boxOf_20 rfl rfl ?_
  refine Vm.iconst (n := 22) (v := (0 : Int32)) dX7_boxOf_21 rfl (by decide) ?_
  replace h := Option.bind_eq_some_iff.mp h
  obtain ⟨q1, h1, h⟩ := h
  refine Vm.callV (Y := mX7_finding) (n := 25) [.inl (0 : Int32)] dX7_boxOf_22 rfl wv_RX7_68 omX7_finding rfl in_7 rfl rfl rfl (Nat.le_of_ble_eq_true rfl) (by decide) (kX7_finding (0 : Int32) σ τ h1) ?_
  obtain rfl := Option.some.inj h
  exact Vm.iret dX7_boxOf_25 rfl hk.1 hk.2.symm
set_option maxRecDepth 20000 in
theorem lX7_boxOf_0 (a1 : Int32) (a2 : Int32) (σ τ : mm) {r : Option mv} {M' : mm × mm} {v9 : Int32 × mm} (h : fX7_boxOf_0 a1 a2 σ = some v9) (hk : (fun q : Int32 × mm => r = some (.inl q.1) ∧ M' = (q.2, τ)) v9) : Vm mX7_boxOf 1 0 [(0, .inr (.inr (7, 0))), (1, .inl a1), (2, .inl a2)] [] (σ, τ) r M' := by
  unfold fX7_boxOf_0 at h
  refine Vm.aload_n (n := 1) 0 dX7_boxOf_0 rfl rfl ?_
  refine Vm.getR (n := 4) dX7_boxOf_1 rfl wf_RX7_12 in_7 rfl (by decide) rfl ?_
  refine Vm.iload_n (n := 5) 1 dX7_boxOf_4 rfl rfl ?_
  refine Vm.callV (Y := mX0_hasLetter) (n := 8) [.inl a1] dX7_boxOf_5 rfl wv_RX7_86 omX0_hasLetter rfl (ink ik_0 (by decide)) rfl rfl rfl (Nat.le_of_ble_eq_true rfl) (by decide) (kX0_hasLetter 0 (by decide) a1 σ τ rfl) ?_
  refine Vm.if_eq (n := 11) 20 dX7_boxOf_8 rfl rfl (fun c9 => ?_) (fun c9 => ?_)
  · replace h := (if_pos c9).symm.trans h
    refine Vm.sub (lv' := [(0, .inr (.inr (7, 0)))]) [0] rfl ?_
    exact lX7_boxOf_20 σ τ h hk
  · replace h := (if_neg c9).symm.trans h
    refine Vm.iload_n (n := 12) 2 dX7_boxOf_11 rfl rfl ?_
    refine Vm.if_lt (n := 15) 20 dX7_boxOf_12 rfl rfl (fun c9 => ?_) (fun c9 => ?_)
    · replace h := (if_pos c9).symm.trans h
      refine Vm.sub (lv' := [(0, .inr (.inr (7, 0)))]) [0] rfl ?_
      exact lX7_boxOf_20 σ τ h hk
    · replace h := (if_neg c9).symm.trans h
      refine Vm.iload_n (n := 16) 2 dX7_boxOf_15 rfl rfl ?_
      refine Vm.iconst (n := 17) (v := (1 : Int32)) dX7_boxOf_16 rfl (by decide) ?_
      refine Vm.icmp_le (n := 20) 26 dX7_boxOf_17 rfl rfl (fun c9 => ?_) (fun c9 => ?_)
      · replace h := (if_pos c9).symm.trans h
        refine Vm.iload_n (n := 27) 2 dX7_boxOf_26 rfl rfl ?_
        refine Vm.if_ne (n := 30) 42 dX7_boxOf_27 rfl rfl (fun c9 => ?_) (fun c9 => ?_)
        · replace h := (if_neg c9).symm.trans h
          refine Vm.aload_n (n := 43) 0 dX7_boxOf_42 rfl rfl ?_
          refine Vm.getR (n := 46) dX7_boxOf_43 rfl wf_RX7_12 in_7 rfl (by decide) rfl ?_
          refine Vm.getR (n := 49) dX7_boxOf_46 rfl wf_RX7_109 (ink ik_0 (by decide)) rfl (by decide) rfl ?_
          refine Vm.iload_n (n := 50) 1 dX7_boxOf_49 rfl rfl ?_
          replace h := Option.bind_eq_some_iff.mp h
          obtain ⟨x1, h1, h⟩ := h
          refine Vm.ialdx (n := 51) dX7_boxOf_50 rfl (ink ik_9 (by decide)) rfl rfl (by decide) h1 ?_
          obtain rfl := Option.some.inj h
          exact Vm.iret dX7_boxOf_51 rfl hk.1 hk.2.symm
        · replace h := (if_pos c9).symm.trans h
          refine Vm.aload_n (n := 31) 0 dX7_boxOf_30 rfl rfl ?_
          refine Vm.getR (n := 34) dX7_boxOf_31 rfl wf_RX7_12 in_7 rfl (by decide) rfl ?_
          refine Vm.getR (n := 37) dX7_boxOf_34 rfl wf_RX7_106 (ink ik_0 (by decide)) rfl (by decide) rfl ?_
          refine Vm.iload_n (n := 38) 1 dX7_boxOf_37 rfl rfl ?_
          replace h := Option.bind_eq_some_iff.mp h
          obtain ⟨x2, h2, h⟩ := h
          refine Vm.ialdx (n := 39) dX7_boxOf_38 rfl (ink ik_8 (by decide)) rfl rfl (by decide) h2 ?_
          refine Vm.goto 51 dX7_boxOf_39 rfl ?_
          obtain rfl := Option.some.inj h
          exact Vm.iret dX7_boxOf_51 rfl hk.1 hk.2.symm
      · replace h := (if_neg c9).symm.trans h
        refine Vm.sub (lv' := [(0, .inr (.inr (7, 0)))]) [0] rfl ?_
        exact lX7_boxOf_20 σ τ h hk
theorem kX7_boxOf (a1 : Int32) (a2 : Int32) (σ τ : mm) {q : Int32 × mm} (h : fX7_boxOf a1 a2 σ = some q) : Cx mX7_boxOf 1 [.inr (.inr (7, 0)), .inl a1, .inl a2] (σ, τ) (some (.inl q.1)) (q.2, τ) :=
  Cx.of (lv := [(0, .inr (.inr (7, 0))), (1, .inl a1), (2, .inl a2)]) (by decide) (fun ad => Nat.le_of_ble_eq_true rfl) (fun ad => rfl) (lX7_boxOf_0 a1 a2 σ τ h ⟨rfl, rfl⟩)
-- ThinBodies$Row takesPart (II)Z
def fX4_takesPart_97 (a1 : Int32) : Bool :=
  if a1 < (-9 : Int32) then
  false
  else
  if (9 : Int32) < a1 then
  false
  else
  true
def fX4_takesPart_0 (a0 : Int32) (a1 : Int32) : Bool :=
  if a0.toInt = (0 : Int) then
  if a1 < (0 : Int32) then
  false
  else
  if (6 : Int32) ≤ a1 then
  false
  else
  true
  else if a0.toInt = (1 : Int) then
  if a1 < (-999 : Int32) then
  false
  else
  if (999 : Int32) < a1 then
  false
  else
  true
  else if a0.toInt = (2 : Int) then
  if a1 < (1 : Int32) then
  false
  else
  if (99 : Int32) < a1 then
  false
  else
  true
  else if a0.toInt = (3 : Int) then
  fX4_takesPart_97 a1
  else if a0.toInt = (4 : Int) then
  fX4_takesPart_97 a1
  else if a0.toInt = (5 : Int) then
  fX4_takesPart_97 a1
  else if a0.toInt = (6 : Int) then
  fX4_takesPart_97 a1
  else 
  false
def fX4_takesPart (a0 : Int32) (a1 : Int32) : Bool := fX4_takesPart_0 a0 a1
set_option maxRecDepth 20000 in
theorem lX4_takesPart_97 (a1 : Int32) {M : mm × mm} {r : Option mv} {M' : mm × mm} {v9 : Bool} (h : fX4_takesPart_97 a1 = v9) (hk : (fun q : Bool => r = some (.inl (bi q)) ∧ M' = M) v9) : Vm mX4_takesPart 0 97 [(1, .inl a1)] [] M r M' := by
  unfold fX4_takesPart_97 at h
  refine Vm.iload_n (n := 98) 0 dX4_takesPart_97 rfl rfl ?_
  refine Vm.bipush (n := 100) (v := (-9 : Int32)) dX4_takesPart_98 rfl (by decide) ?_
  refine Vm.icmp_lt (n := 103) 113 dX4_takesPart_100 rfl rfl (fun c9 => ?_) (fun c9 => ?_)
  · replace h := (if_pos c9).symm.trans h
    refine Vm.iconst (n := 114) (v := (0 : Int32)) dX4_takesPart_113 rfl (by decide) ?_
    subst h
    exact Vm.zret (b := false) dX4_takesPart_114 rfl rfl hk.1 hk.2.symm
  · replace h := (if_neg c9).symm.trans h
    refine Vm.iload_n (n := 104) 0 dX4_takesPart_103 rfl rfl ?_
    refine Vm.bipush (n := 106) (v := (9 : Int32)) dX4_takesPart_104 rfl (by decide) ?_
    refine Vm.icmp_gt (n := 109) 113 dX4_takesPart_106 rfl rfl (fun c9 => ?_) (fun c9 => ?_)
    · replace h := (if_pos c9).symm.trans h
      refine Vm.iconst (n := 114) (v := (0 : Int32)) dX4_takesPart_113 rfl (by decide) ?_
      subst h
      exact Vm.zret (b := false) dX4_takesPart_114 rfl rfl hk.1 hk.2.symm
    · replace h := (if_neg c9).symm.trans h
      refine Vm.iconst (n := 110) (v := (1 : Int32)) dX4_takesPart_109 rfl (by decide) ?_
      refine Vm.goto 114 dX4_takesPart_110 rfl ?_
      subst h
      exact Vm.zret (b := true) dX4_takesPart_114 rfl rfl hk.1 hk.2.symm
set_option maxRecDepth 20000 in
theorem lX4_takesPart_0 (a0 : Int32) (a1 : Int32) {M : mm × mm} {r : Option mv} {M' : mm × mm} {v9 : Bool} (h : fX4_takesPart_0 a0 a1 = v9) (hk : (fun q : Bool => r = some (.inl (bi q)) ∧ M' = M) v9) : Vm mX4_takesPart 0 0 [(0, .inl a0), (1, .inl a1)] [] M r M' := by
  unfold fX4_takesPart_0 at h
  refine Vm.iload_n (n := 1) 0 dX4_takesPart_0 rfl rfl ?_
  by_cases c50 : a0.toInt = (0 : Int)
  · replace h := (if_pos c50).symm.trans h
    refine Vm.tswI (0) 44 dX4_takesPart_1 c50 (by decide) rfl rfl ?_
    refine Vm.iload_n (n := 45) 1 dX4_takesPart_44 rfl rfl ?_
    refine Vm.if_lt (n := 48) 58 dX4_takesPart_45 rfl rfl (fun c9 => ?_) (fun c9 => ?_)
    · replace h := (if_pos c9).symm.trans h
      refine Vm.iconst (n := 59) (v := (0 : Int32)) dX4_takesPart_58 rfl (by decide) ?_
      subst h
      exact Vm.zret (b := false) dX4_takesPart_59 rfl rfl hk.1 hk.2.symm
    · replace h := (if_neg c9).symm.trans h
      refine Vm.iload_n (n := 49) 1 dX4_takesPart_48 rfl rfl ?_
      refine Vm.bipush (n := 51) (v := (6 : Int32)) dX4_takesPart_49 rfl (by decide) ?_
      refine Vm.icmp_ge (n := 54) 58 dX4_takesPart_51 rfl rfl (fun c9 => ?_) (fun c9 => ?_)
      · replace h := (if_pos c9).symm.trans h
        refine Vm.iconst (n := 59) (v := (0 : Int32)) dX4_takesPart_58 rfl (by decide) ?_
        subst h
        exact Vm.zret (b := false) dX4_takesPart_59 rfl rfl hk.1 hk.2.symm
      · replace h := (if_neg c9).symm.trans h
        refine Vm.iconst (n := 55) (v := (1 : Int32)) dX4_takesPart_54 rfl (by decide) ?_
        refine Vm.goto 59 dX4_takesPart_55 rfl ?_
        subst h
        exact Vm.zret (b := true) dX4_takesPart_59 rfl rfl hk.1 hk.2.symm
  · replace h := (if_neg c50).symm.trans h
    by_cases c51 : a0.toInt = (1 : Int)
    · replace h := (if_pos c51).symm.trans h
      refine Vm.tswI (1) 60 dX4_takesPart_1 c51 (by decide) rfl rfl ?_
      refine Vm.iload_n (n := 61) 1 dX4_takesPart_60 rfl rfl ?_
      refine Vm.sipush (n := 64) (v := (-999 : Int32)) dX4_takesPart_61 rfl (by decide) ?_
      refine Vm.icmp_lt (n := 67) 78 dX4_takesPart_64 rfl rfl (fun c9 => ?_) (fun c9 => ?_)
      · replace h := (if_pos c9).symm.trans h
        refine Vm.iconst (n := 79) (v := (0 : Int32)) dX4_takesPart_78 rfl (by decide) ?_
        subst h
        exact Vm.zret (b := false) dX4_takesPart_79 rfl rfl hk.1 hk.2.symm
      · replace h := (if_neg c9).symm.trans h
        refine Vm.iload_n (n := 68) 1 dX4_takesPart_67 rfl rfl ?_
        refine Vm.sipush (n := 71) (v := (999 : Int32)) dX4_takesPart_68 rfl (by decide) ?_
        refine Vm.icmp_gt (n := 74) 78 dX4_takesPart_71 rfl rfl (fun c9 => ?_) (fun c9 => ?_)
        · replace h := (if_pos c9).symm.trans h
          refine Vm.iconst (n := 79) (v := (0 : Int32)) dX4_takesPart_78 rfl (by decide) ?_
          subst h
          exact Vm.zret (b := false) dX4_takesPart_79 rfl rfl hk.1 hk.2.symm
        · replace h := (if_neg c9).symm.trans h
          refine Vm.iconst (n := 75) (v := (1 : Int32)) dX4_takesPart_74 rfl (by decide) ?_
          refine Vm.goto 79 dX4_takesPart_75 rfl ?_
          subst h
          exact Vm.zret (b := true) dX4_takesPart_79 rfl rfl hk.1 hk.2.symm
    · replace h := (if_neg c51).symm.trans h
      by_cases c52 : a0.toInt = (2 : Int)
      · replace h := (if_pos c52).symm.trans h
        refine Vm.tswI (2) 80 dX4_takesPart_1 c52 (by decide) rfl rfl ?_
        refine Vm.iload_n (n := 81) 1 dX4_takesPart_80 rfl rfl ?_
        refine Vm.iconst (n := 82) (v := (1 : Int32)) dX4_takesPart_81 rfl (by decide) ?_
        refine Vm.icmp_lt (n := 85) 95 dX4_takesPart_82 rfl rfl (fun c9 => ?_) (fun c9 => ?_)
        · replace h := (if_pos c9).symm.trans h
          refine Vm.iconst (n := 96) (v := (0 : Int32)) dX4_takesPart_95 rfl (by decide) ?_
          subst h
          exact Vm.zret (b := false) dX4_takesPart_96 rfl rfl hk.1 hk.2.symm
        · replace h := (if_neg c9).symm.trans h
          refine Vm.iload_n (n := 86) 1 dX4_takesPart_85 rfl rfl ?_
          refine Vm.bipush (n := 88) (v := (99 : Int32)) dX4_takesPart_86 rfl (by decide) ?_
          refine Vm.icmp_gt (n := 91) 95 dX4_takesPart_88 rfl rfl (fun c9 => ?_) (fun c9 => ?_)
          · replace h := (if_pos c9).symm.trans h
            refine Vm.iconst (n := 96) (v := (0 : Int32)) dX4_takesPart_95 rfl (by decide) ?_
            subst h
            exact Vm.zret (b := false) dX4_takesPart_96 rfl rfl hk.1 hk.2.symm
          · replace h := (if_neg c9).symm.trans h
            refine Vm.iconst (n := 92) (v := (1 : Int32)) dX4_takesPart_91 rfl (by decide) ?_
            refine Vm.goto 96 dX4_takesPart_92 rfl ?_
            subst h
            exact Vm.zret (b := true) dX4_takesPart_96 rfl rfl hk.1 hk.2.symm
      · replace h := (if_neg c52).symm.trans h
        by_cases c53 : a0.toInt = (3 : Int)
        · replace h := (if_pos c53).symm.trans h
          refine Vm.tswI (3) 97 dX4_takesPart_1 c53 (by decide) rfl rfl ?_
          refine Vm.sub (lv' := [(1, .inl a1)]) [1] rfl ?_
          exact lX4_takesPart_97 a1 h hk
        · replace h := (if_neg c53).symm.trans h
          by_cases c54 : a0.toInt = (4 : Int)
          · replace h := (if_pos c54).symm.trans h
            refine Vm.tswI (4) 97 dX4_takesPart_1 c54 (by decide) rfl rfl ?_
            refine Vm.sub (lv' := [(1, .inl a1)]) [1] rfl ?_
            exact lX4_takesPart_97 a1 h hk
          · replace h := (if_neg c54).symm.trans h
            by_cases c55 : a0.toInt = (5 : Int)
            · replace h := (if_pos c55).symm.trans h
              refine Vm.tswI (5) 97 dX4_takesPart_1 c55 (by decide) rfl rfl ?_
              refine Vm.sub (lv' := [(1, .inl a1)]) [1] rfl ?_
              exact lX4_takesPart_97 a1 h hk
            · replace h := (if_neg c55).symm.trans h
              by_cases c56 : a0.toInt = (6 : Int)
              · replace h := (if_pos c56).symm.trans h
                refine Vm.tswI (6) 97 dX4_takesPart_1 c56 (by decide) rfl rfl ?_
                refine Vm.sub (lv' := [(1, .inl a1)]) [1] rfl ?_
                exact lX4_takesPart_97 a1 h hk
              · replace h := (if_neg c56).symm.trans h
                refine Vm.tswO 115 dX4_takesPart_1 (by omega) rfl ?_
                refine Vm.iconst (n := 116) (v := (0 : Int32)) dX4_takesPart_115 rfl (by decide) ?_
                subst h
                exact Vm.zret (b := false) dX4_takesPart_116 rfl rfl hk.1 hk.2.symm
theorem kX4_takesPart (a0 : Int32) (a1 : Int32) {M : mm × mm} {q : Bool} (h : fX4_takesPart a0 a1 = q) : Cx mX4_takesPart 0 [.inl a0, .inl a1] M (some (.inl (bi q))) M :=
  Cx.of (lv := [(0, .inl a0), (1, .inl a1)]) (by decide) (fun ad => Nat.le_of_ble_eq_true rfl) (fun ad => rfl) (lX4_takesPart_0 a0 a1 h ⟨rfl, rfl⟩)
-- ThinBodies$Row begin (III)V
noncomputable def fX4_begin_18 (a0 : Nat) (a4 : Int32) (σ : mm) : Option ((Int32 × mm) ⊕ (mm)) :=
  if (4 : Int32) ≤ a4 then
  some (.inr (σ))
  else
  Option.bind (wrI σ 10 a0 4 a4 (0 : Int32)) fun σ1 =>
  Option.bind (some (a4 + (1 : Int32))) fun x2 =>
  some (.inl (x2, σ1))
noncomputable def fX4_begin_18_L (a0 : Nat) : Int32 × mm → Option ((Int32 × mm) ⊕ (mm)) := fun z => fX4_begin_18 a0 z.1 z.2
noncomputable def fX4_begin_0 (a0 : Nat) (a1 : Int32) (a2 : Int32) (a3 : Int32) (σ : mm) : Option (mm) :=
  Option.bind (some (stI σ 4 a0 0 a1)) fun σ1 =>
  Option.bind (some (stI σ1 4 a0 1 a2)) fun σ2 =>
  Option.bind (some (stI σ2 4 a0 2 a3)) fun σ3 =>
  lp (fX4_begin_18_L a0) ((0 : Int32), σ3)
noncomputable def fX4_begin (a0 : Nat) (a1 : Int32) (a2 : Int32) (a3 : Int32) (σ : mm) : Option (mm) := fX4_begin_0 a0 a1 a2 a3 σ
set_option maxRecDepth 20000 in
theorem lX4_begin_18 (a0 : Nat) (ha0 : a0 < 24) (a4 : Int32) (σ τ : mm) {r : Option mv} {M' : mm × mm} {v9 : (Int32 × mm) ⊕ (mm)} (h : fX4_begin_18 a0 a4 σ = some v9) (hk : (Sum.elim (fun z : Int32 × mm => Vm mX4_begin 0 18 [(0, .inr (.inr (4, a0))), (4, .inl z.1)] [] (z.2, τ) r M') (fun q : mm => r = none ∧ M' = (q, τ))) v9) : Vm mX4_begin 0 18 [(0, .inr (.inr (4, a0))), (4, .inl a4)] [] (σ, τ) r M' := by
  unfold fX4_begin_18 at h
  refine Vm.iload (n := 20) 1 dX4_begin_18 rfl rfl ?_
  refine Vm.iconst (n := 21) (v := (4 : Int32)) dX4_begin_20 rfl (by decide) ?_
  refine Vm.icmp_ge (n := 24) 38 dX4_begin_21 rfl rfl (fun c9 => ?_) (fun c9 => ?_)
  · replace h := (if_pos c9).symm.trans h
    obtain rfl := Option.some.inj h
    exact Vm.vret dX4_begin_38 rfl hk.1 hk.2.symm
  · replace h := (if_neg c9).symm.trans h
    refine Vm.aload_n (n := 25) 0 dX4_begin_24 rfl rfl ?_
    refine Vm.getR (n := 28) dX4_begin_25 rfl wf_RX4_21 (ink ik_4 (by omega)) rfl (by decide) rfl ?_
    refine Vm.iload (n := 30) 1 dX4_begin_28 rfl rfl ?_
    refine Vm.iconst (n := 31) (v := (0 : Int32)) dX4_begin_30 rfl (by decide) ?_
    replace h := Option.bind_eq_some_iff.mp h
    obtain ⟨σ1, h1, h⟩ := h
    refine Vm.iastx (n := 32) dX4_begin_31 rfl (ink ik_10 (by omega)) rfl rfl (by decide) h1 ?_
    replace h := Option.bind_eq_some_iff.mp h
    obtain ⟨x2, e2, h⟩ := h
    replace e2 := Option.some.inj e2
    refine Vm.iinc (n := 35) (v := x2) (lv' := [(4, .inl x2), (0, .inr (.inr (4, a0)))]) 1 dX4_begin_32 rfl rfl e2 (Nat.le_of_ble_eq_true rfl) rfl ?_
    refine Vm.goto 18 dX4_begin_35 rfl ?_
    refine Vm.sub (lv' := [(0, .inr (.inr (4, a0))), (4, .inl x2)]) [1, 0] rfl ?_
    obtain rfl := Option.some.inj h
    exact hk
theorem lX4_begin_18_L (a0 : Nat) (ha0 : a0 < 24) (τ : mm) {r : Option mv} {M' : mm × mm} (z : Int32 × mm) (w9 : mm) (h : lp (fX4_begin_18_L a0) z = some w9) (hk : (fun q : mm => r = none ∧ M' = (q, τ)) w9) : Vm mX4_begin 0 18 [(0, .inr (.inr (4, a0))), (4, .inl z.1)] [] (z.2, τ) r M' :=
  lp_link (S := Int32 × mm) (R := mm) (body := fX4_begin_18_L a0) (A := fun z : Int32 × mm => Vm mX4_begin 0 18 [(0, .inr (.inr (4, a0))), (4, .inl z.1)] [] (z.2, τ) r M') (B := fun w : mm => (fun q : mm => r = none ∧ M' = (q, τ)) w) (fun z v hb hv => lX4_begin_18 a0 ha0 z.1 z.2 τ hb hv) z w9 h hk
set_option maxRecDepth 20000 in
theorem lX4_begin_0 (a0 : Nat) (ha0 : a0 < 24) (a1 : Int32) (a2 : Int32) (a3 : Int32) (σ τ : mm) {r : Option mv} {M' : mm × mm} {v9 : mm} (h : fX4_begin_0 a0 a1 a2 a3 σ = some v9) (hk : (fun q : mm => r = none ∧ M' = (q, τ)) v9) : Vm mX4_begin 0 0 [(0, .inr (.inr (4, a0))), (1, .inl a1), (2, .inl a2), (3, .inl a3)] [] (σ, τ) r M' := by
  unfold fX4_begin_0 at h
  refine Vm.aload_n (n := 1) 0 dX4_begin_0 rfl rfl ?_
  refine Vm.iload_n (n := 2) 1 dX4_begin_1 rfl rfl ?_
  refine Vm.pX (n := 5) (ty := .int) dX4_begin_2 rfl wf_RX4_9 (ink ik_4 (by omega)) rfl (by decide) rfl (by decide) rfl rfl rfl rfl ?_
  replace h := Option.bind_eq_some_iff.mp h
  obtain ⟨σ1, e1, h⟩ := h
  replace e1 := Option.some.inj e1
  refine Vm.mem (congrArg (fun z => (z, τ)) e1) ?_
  refine Vm.aload_n (n := 6) 0 dX4_begin_5 rfl rfl ?_
  refine Vm.iload_n (n := 7) 2 dX4_begin_6 rfl rfl ?_
  refine Vm.pX (n := 10) (ty := .int) dX4_begin_7 rfl wf_RX4_15 (ink ik_4 (by omega)) rfl (by decide) rfl (by decide) rfl rfl rfl rfl ?_
  replace h := Option.bind_eq_some_iff.mp h
  obtain ⟨σ2, e2, h⟩ := h
  replace e2 := Option.some.inj e2
  refine Vm.mem (congrArg (fun z => (z, τ)) e2) ?_
  refine Vm.aload_n (n := 11) 0 dX4_begin_10 rfl rfl ?_
  refine Vm.iload_n (n := 12) 3 dX4_begin_11 rfl rfl ?_
  refine Vm.pX (n := 15) (ty := .int) dX4_begin_12 rfl wf_RX4_18 (ink ik_4 (by omega)) rfl (by decide) rfl (by decide) rfl rfl rfl rfl ?_
  replace h := Option.bind_eq_some_iff.mp h
  obtain ⟨σ3, e3, h⟩ := h
  replace e3 := Option.some.inj e3
  refine Vm.mem (congrArg (fun z => (z, τ)) e3) ?_
  refine Vm.iconst (n := 16) (v := (0 : Int32)) dX4_begin_15 rfl (by decide) ?_
  refine Vm.istore (n := 18) (lv' := [(4, .inl (0 : Int32)), (0, .inr (.inr (4, a0))), (1, .inl a1), (2, .inl a2), (3, .inl a3)]) dX4_begin_16 rfl (Nat.le_of_ble_eq_true rfl) rfl ?_
  refine Vm.sub (lv' := [(0, .inr (.inr (4, a0))), (4, .inl (0 : Int32))]) [1, 0] rfl ?_
  exact lX4_begin_18_L a0 (by omega) τ ((0 : Int32), σ3) _ h hk
theorem kX4_begin (a0 : Nat) (ha0 : a0 < 24) (a1 : Int32) (a2 : Int32) (a3 : Int32) (σ τ : mm) {q : mm} (h : fX4_begin a0 a1 a2 a3 σ = some q) : Cx mX4_begin 0 [.inr (.inr (4, a0)), .inl a1, .inl a2, .inl a3] (σ, τ) (none) (q, τ) :=
  Cx.of (lv := [(0, .inr (.inr (4, a0))), (1, .inl a1), (2, .inl a2), (3, .inl a3)]) (by decide) (fun ad => Nat.le_of_ble_eq_true rfl) (fun ad => rfl) (lX4_begin_0 a0 ha0 a1 a2 a3 σ τ h ⟨rfl, rfl⟩)
-- ThinBodies$Body addRow (III)LThinBodies$Row;
noncomputable def fX0_addRow_0 (a0 : Nat) (a1 : Int32) (a2 : Int32) (a3 : Int32) (σ : mm) : Option (Nat × mm) :=
  Option.bind (rdR 8 (σ.1 0 a0 4)) fun k1 =>
  Option.bind (fX4_begin (8 * a0 + k1) a1 a2 a3 σ) fun q2 =>
  Option.bind (some ((q2.1 0 a0 4) + (1 : Int32))) fun x3 =>
  Option.bind (some (stI q2 0 a0 4 x3)) fun σ4 =>
  some (((8 * a0 + k1), σ4))
noncomputable def fX0_addRow (a0 : Nat) (a1 : Int32) (a2 : Int32) (a3 : Int32) (σ : mm) : Option (Nat × mm) := fX0_addRow_0 a0 a1 a2 a3 σ
set_option maxRecDepth 20000 in
theorem lX0_addRow_0 (a0 : Nat) (ha0 : a0 < 3) (a1 : Int32) (a2 : Int32) (a3 : Int32) (σ τ : mm) {r : Option mv} {M' : mm × mm} {v9 : Nat × mm} (h : fX0_addRow_0 a0 a1 a2 a3 σ = some v9) (hk : (fun q : Nat × mm => r = some (.inr (.inr (4, q.1))) ∧ M' = (q.2, τ)) v9) : Vm mX0_addRow 1 0 [(0, .inr (.inr (0, a0))), (1, .inl a1), (2, .inl a2), (3, .inl a3)] [] (σ, τ) r M' := by
  unfold fX0_addRow_0 at h
  refine Vm.aload_n (n := 1) 0 dX0_addRow_0 rfl rfl ?_
  refine Vm.getR (n := 4) dX0_addRow_1 rfl wf_RX0_24 (ink ik_0 (by omega)) rfl (by decide) rfl ?_
  refine Vm.aload_n (n := 5) 0 dX0_addRow_4 rfl rfl ?_
  refine Vm.gX (n := 8) dX0_addRow_5 rfl wf_RX0_28 (ink ik_0 (by omega)) rfl (by decide) rfl (by decide) ?_
  replace h := Option.bind_eq_some_iff.mp h
  obtain ⟨k1, h1, h⟩ := h
  refine Vm.aald (n := 9) dX0_addRow_8 rfl (ink ik_27 (by omega)) rfl rfl (by decide) (fun _ => rfl) rfl h1 ?_
  have g1 := rdR_lt h1
  refine Vm.astore (n := 11) (lv' := [(4, .inr (.inr (4, (8 * a0 + k1)))), (0, .inr (.inr (0, a0))), (1, .inl a1), (2, .inl a2), (3, .inl a3)]) dX0_addRow_9 rfl (Nat.le_of_ble_eq_true rfl) rfl ?_
  refine Vm.aload (n := 13) 0 dX0_addRow_11 rfl rfl ?_
  refine Vm.iload_n (n := 14) 2 dX0_addRow_13 rfl rfl ?_
  refine Vm.iload_n (n := 15) 3 dX0_addRow_14 rfl rfl ?_
  refine Vm.iload_n (n := 16) 4 dX0_addRow_15 rfl rfl ?_
  replace h := Option.bind_eq_some_iff.mp h
  obtain ⟨q2, h2, h⟩ := h
  refine Vm.callVv (Y := mX4_begin) (n := 19) [.inl a1, .inl a2, .inl a3] dX0_addRow_16 rfl wv_RX0_54 omX4_begin rfl (ink ik_4 (by omega)) rfl rfl rfl (Nat.le_of_ble_eq_true rfl) (by decide) (kX4_begin (8 * a0 + k1) (by omega) a1 a2 a3 σ τ h2) ?_
  refine Vm.aload_n (n := 20) 1 dX0_addRow_19 rfl rfl ?_
  refine Vm.dup (n := 21) dX0_addRow_20 rfl rfl ?_
  refine Vm.gX (n := 24) dX0_addRow_21 rfl wf_RX0_28 (ink ik_0 (by omega)) rfl (by decide) rfl (by decide) ?_
  refine Vm.iconst (n := 25) (v := (1 : Int32)) dX0_addRow_24 rfl (by decide) ?_
  refine Vm.iadd (n := 26) dX0_addRow_25 rfl ?_
  replace h := Option.bind_eq_some_iff.mp h
  obtain ⟨x3, e3, h⟩ := h
  replace e3 := Option.some.inj e3
  refine Vm.top e3 ?_
  refine Vm.pX (n := 29) (ty := .int) dX0_addRow_26 rfl wf_RX0_28 (ink ik_0 (by omega)) rfl (by decide) rfl (by decide) rfl rfl rfl rfl ?_
  replace h := Option.bind_eq_some_iff.mp h
  obtain ⟨σ4, e4, h⟩ := h
  replace e4 := Option.some.inj e4
  refine Vm.mem (congrArg (fun z => (z, τ)) e4) ?_
  refine Vm.aload (n := 31) 0 dX0_addRow_29 rfl rfl ?_
  obtain rfl := Option.some.inj h
  exact Vm.aret dX0_addRow_31 rfl hk.1 hk.2.symm
theorem kX0_addRow (a0 : Nat) (ha0 : a0 < 3) (a1 : Int32) (a2 : Int32) (a3 : Int32) (σ τ : mm) {q : Nat × mm} (h : fX0_addRow a0 a1 a2 a3 σ = some q) : Cx mX0_addRow 1 [.inr (.inr (0, a0)), .inl a1, .inl a2, .inl a3] (σ, τ) (some (.inr (.inr (4, q.1)))) (q.2, τ) :=
  Cx.of (lv := [(0, .inr (.inr (0, a0))), (1, .inl a1), (2, .inl a2), (3, .inl a3)]) (by decide) (fun ad => Nat.le_of_ble_eq_true rfl) (fun ad => rfl) (lX0_addRow_0 a0 ha0 a1 a2 a3 σ τ h ⟨rfl, rfl⟩)
theorem fX0_addRow_lt {a0 : Nat} {a1 a2 a3 : Int32} {σ : mm} {q : Nat × mm} (ha : a0 < 3) (h : fX0_addRow a0 a1 a2 a3 σ = some q) : q.1 < 24 := by
  unfold fX0_addRow fX0_addRow_0 at h
  obtain ⟨k1, h1, h⟩ := Option.bind_eq_some_iff.mp h
  have g := rdR_lt h1
  obtain ⟨q2, h2, h⟩ := Option.bind_eq_some_iff.mp h
  obtain ⟨s3, h3, h⟩ := Option.bind_eq_some_iff.mp h
  cases h
  show 8 * a0 + k1 < 24
  omega
-- ThinBodies row (III)I
noncomputable def fX7_row_24 (σ : mm) : Option (Int32 × mm) :=
  Option.bind (fX7_finding (0 : Int32) σ) fun q1 =>
  some ((q1.1, q1.2))
noncomputable def fX7_row_0 (a1 : Int32) (a2 : Int32) (a3 : Int32) (σ : mm) : Option (Int32 × mm) :=
  if (bi (fX4_takesPart (0 : Int32) a1)) = (0 : Int32) then
  fX7_row_24 σ
  else
  if (bi (fX4_takesPart (1 : Int32) a2)) = (0 : Int32) then
  fX7_row_24 σ
  else
  if (bi (fX4_takesPart (2 : Int32) a3)) = (0 : Int32) then
  fX7_row_24 σ
  else
  if (σ.1 0 0 4) < (8 : Int32) then
  Option.bind (fX0_addRow 0 a1 a2 a3 σ) fun q1 =>
  some ((((fX7_bodyChanged q1.2).1 0 0 4) - (1 : Int32), (fX7_bodyChanged q1.2)))
  else
  Option.bind (fX7_finding (1 : Int32) σ) fun q2 =>
  some ((q2.1, q2.2))
noncomputable def fX7_row (a1 : Int32) (a2 : Int32) (a3 : Int32) (σ : mm) : Option (Int32 × mm) := fX7_row_0 a1 a2 a3 σ
set_option maxRecDepth 20000 in
theorem lX7_row_24 (σ τ : mm) {r : Option mv} {M' : mm × mm} {v9 : Int32 × mm} (h : fX7_row_24 σ = some v9) (hk : (fun q : Int32 × mm => r = some (.inl q.1) ∧ M' = (q.2, τ)) v9) : Vm mX7_row 2 24 [(0, .inr (.inr (7, 0)))] [] (σ, τ) r M' := by
  unfold fX7_row_24 at h
  refine Vm.aload_n (n := 25) 0 dX7_row_24 rfl rfl ?_
  refine Vm.iconst (n := 26) (v := (0 : Int32)) dX7_row_25 rfl (by decide) ?_
  replace h := Option.bind_eq_some_iff.mp h
  obtain ⟨q1, h1, h⟩ := h
  refine Vm.callV (Y := mX7_finding) (n := 29) [.inl (0 : Int32)] dX7_row_26 rfl wv_RX7_68 omX7_finding rfl in_7 rfl rfl rfl (Nat.le_of_ble_eq_true rfl) (by decide) (kX7_finding (0 : Int32) σ τ h1) ?_
  obtain rfl := Option.some.inj h
  exact Vm.iret dX7_row_29 rfl hk.1 hk.2.symm
set_option maxRecDepth 20000 in
theorem lX7_row_0 (a1 : Int32) (a2 : Int32) (a3 : Int32) (σ τ : mm) {r : Option mv} {M' : mm × mm} {v9 : Int32 × mm} (h : fX7_row_0 a1 a2 a3 σ = some v9) (hk : (fun q : Int32 × mm => r = some (.inl q.1) ∧ M' = (q.2, τ)) v9) : Vm mX7_row 2 0 [(0, .inr (.inr (7, 0))), (1, .inl a1), (2, .inl a2), (3, .inl a3)] [] (σ, τ) r M' := by
  unfold fX7_row_0 at h
  refine Vm.iconst (n := 1) (v := (0 : Int32)) dX7_row_0 rfl (by decide) ?_
  refine Vm.iload_n (n := 2) 1 dX7_row_1 rfl rfl ?_
  refine Vm.callS (Y := mX4_takesPart) (n := 5) [.inl (0 : Int32), .inl a1] dX7_row_2 rfl wv_RX7_112 omX4_takesPart rfl rfl (Nat.le_of_ble_eq_true rfl) (by decide) (kX4_takesPart (0 : Int32) a1 rfl) ?_
  refine Vm.if_eq (n := 8) 24 dX7_row_5 rfl rfl (fun c9 => ?_) (fun c9 => ?_)
  · replace h := (if_pos c9).symm.trans h
    refine Vm.sub (lv' := [(0, .inr (.inr (7, 0)))]) [0] rfl ?_
    exact lX7_row_24 σ τ h hk
  · replace h := (if_neg c9).symm.trans h
    refine Vm.iconst (n := 9) (v := (1 : Int32)) dX7_row_8 rfl (by decide) ?_
    refine Vm.iload_n (n := 10) 2 dX7_row_9 rfl rfl ?_
    refine Vm.callS (Y := mX4_takesPart) (n := 13) [.inl (1 : Int32), .inl a2] dX7_row_10 rfl wv_RX7_112 omX4_takesPart rfl rfl (Nat.le_of_ble_eq_true rfl) (by decide) (kX4_takesPart (1 : Int32) a2 rfl) ?_
    refine Vm.if_eq (n := 16) 24 dX7_row_13 rfl rfl (fun c9 => ?_) (fun c9 => ?_)
    · replace h := (if_pos c9).symm.trans h
      refine Vm.sub (lv' := [(0, .inr (.inr (7, 0)))]) [0] rfl ?_
      exact lX7_row_24 σ τ h hk
    · replace h := (if_neg c9).symm.trans h
      refine Vm.iconst (n := 17) (v := (2 : Int32)) dX7_row_16 rfl (by decide) ?_
      refine Vm.iload_n (n := 18) 3 dX7_row_17 rfl rfl ?_
      refine Vm.callS (Y := mX4_takesPart) (n := 21) [.inl (2 : Int32), .inl a3] dX7_row_18 rfl wv_RX7_112 omX4_takesPart rfl rfl (Nat.le_of_ble_eq_true rfl) (by decide) (kX4_takesPart (2 : Int32) a3 rfl) ?_
      refine Vm.if_ne (n := 24) 30 dX7_row_21 rfl rfl (fun c9 => ?_) (fun c9 => ?_)
      · replace h := (if_neg c9).symm.trans h
        refine Vm.aload_n (n := 31) 0 dX7_row_30 rfl rfl ?_
        refine Vm.getR (n := 34) dX7_row_31 rfl wf_RX7_12 in_7 rfl (by decide) rfl ?_
        refine Vm.gX (n := 37) dX7_row_34 rfl wf_RX7_117 (ink ik_0 (by decide)) rfl (by decide) rfl (by decide) ?_
        refine Vm.bipush (n := 39) (v := (8 : Int32)) dX7_row_37 rfl (by decide) ?_
        refine Vm.icmp_lt (n := 42) 48 dX7_row_39 rfl rfl (fun c9 => ?_) (fun c9 => ?_)
        · replace h := (if_pos c9).symm.trans h
          refine Vm.aload_n (n := 49) 0 dX7_row_48 rfl rfl ?_
          refine Vm.getR (n := 52) dX7_row_49 rfl wf_RX7_12 in_7 rfl (by decide) rfl ?_
          refine Vm.iload_n (n := 53) 1 dX7_row_52 rfl rfl ?_
          refine Vm.iload_n (n := 54) 2 dX7_row_53 rfl rfl ?_
          refine Vm.iload_n (n := 55) 3 dX7_row_54 rfl rfl ?_
          replace h := Option.bind_eq_some_iff.mp h
          obtain ⟨q1, h1, h⟩ := h
          refine Vm.callV (Y := mX0_addRow) (n := 58) [.inl a1, .inl a2, .inl a3] dX7_row_55 rfl wv_RX7_120 omX0_addRow rfl (ink ik_0 (by decide)) rfl rfl rfl (Nat.le_of_ble_eq_true rfl) (by decide) (kX0_addRow 0 (by decide) a1 a2 a3 σ τ h1) ?_
          have g1 := fX0_addRow_lt (by omega) h1
          refine Vm.pop (n := 59) dX7_row_58 rfl rfl ?_
          refine Vm.aload_n (n := 60) 0 dX7_row_59 rfl rfl ?_
          refine Vm.callVv (Y := mX7_bodyChanged) (n := 63) [] dX7_row_60 rfl wv_RX7_83 omX7_bodyChanged rfl in_7 rfl rfl rfl (Nat.le_of_ble_eq_true rfl) (by decide) (kX7_bodyChanged q1.2 τ rfl) ?_
          refine Vm.aload_n (n := 64) 0 dX7_row_63 rfl rfl ?_
          refine Vm.getR (n := 67) dX7_row_64 rfl wf_RX7_12 in_7 rfl (by decide) rfl ?_
          refine Vm.gX (n := 70) dX7_row_67 rfl wf_RX7_117 (ink ik_0 (by decide)) rfl (by decide) rfl (by decide) ?_
          refine Vm.iconst (n := 71) (v := (1 : Int32)) dX7_row_70 rfl (by decide) ?_
          refine Vm.isub (n := 72) dX7_row_71 rfl ?_
          obtain rfl := Option.some.inj h
          exact Vm.iret dX7_row_72 rfl hk.1 hk.2.symm
        · replace h := (if_neg c9).symm.trans h
          refine Vm.aload_n (n := 43) 0 dX7_row_42 rfl rfl ?_
          refine Vm.iconst (n := 44) (v := (1 : Int32)) dX7_row_43 rfl (by decide) ?_
          replace h := Option.bind_eq_some_iff.mp h
          obtain ⟨q2, h2, h⟩ := h
          refine Vm.callV (Y := mX7_finding) (n := 47) [.inl (1 : Int32)] dX7_row_44 rfl wv_RX7_68 omX7_finding rfl in_7 rfl rfl rfl (Nat.le_of_ble_eq_true rfl) (by decide) (kX7_finding (1 : Int32) σ τ h2) ?_
          obtain rfl := Option.some.inj h
          exact Vm.iret dX7_row_47 rfl hk.1 hk.2.symm
      · replace h := (if_pos c9).symm.trans h
        refine Vm.sub (lv' := [(0, .inr (.inr (7, 0)))]) [0] rfl ?_
        exact lX7_row_24 σ τ h hk
theorem kX7_row (a1 : Int32) (a2 : Int32) (a3 : Int32) (σ τ : mm) {q : Int32 × mm} (h : fX7_row a1 a2 a3 σ = some q) : Cx mX7_row 2 [.inr (.inr (7, 0)), .inl a1, .inl a2, .inl a3] (σ, τ) (some (.inl q.1)) (q.2, τ) :=
  Cx.of (lv := [(0, .inr (.inr (7, 0))), (1, .inl a1), (2, .inl a2), (3, .inl a3)]) (by decide) (fun ad => Nat.le_of_ble_eq_true rfl) (fun ad => rfl) (lX7_row_0 a1 a2 a3 σ τ h ⟨rfl, rfl⟩)
-- ThinBodies$Body hasRow (I)Z
def fX0_hasRow_0 (a0 : Nat) (a1 : Int32) (σ : mm) : Bool :=
  if a1 < (0 : Int32) then
  false
  else
  if (σ.1 0 a0 4) ≤ a1 then
  false
  else
  true
def fX0_hasRow (a0 : Nat) (a1 : Int32) (σ : mm) : Bool := fX0_hasRow_0 a0 a1 σ
set_option maxRecDepth 20000 in
theorem lX0_hasRow_0 (a0 : Nat) (ha0 : a0 < 3) (a1 : Int32) (σ σ0 τ : mm) (hσ : σ = σ0) {r : Option mv} {M' : mm × mm} {v9 : Bool} (h : fX0_hasRow_0 a0 a1 σ = v9) (hk : (fun q : Bool => r = some (.inl (bi q)) ∧ M' = (σ0, τ)) v9) : Vm mX0_hasRow 0 0 [(0, .inr (.inr (0, a0))), (1, .inl a1)] [] (σ, τ) r M' := by
  unfold fX0_hasRow_0 at h
  refine Vm.iload_n (n := 1) 1 dX0_hasRow_0 rfl rfl ?_
  refine Vm.if_lt (n := 4) 16 dX0_hasRow_1 rfl rfl (fun c9 => ?_) (fun c9 => ?_)
  · replace h := (if_pos c9).symm.trans h
    refine Vm.iconst (n := 17) (v := (0 : Int32)) dX0_hasRow_16 rfl (by decide) ?_
    subst h
    exact Vm.zret (b := false) dX0_hasRow_17 rfl rfl hk.1 (by rw [hσ]; exact hk.2.symm)
  · replace h := (if_neg c9).symm.trans h
    refine Vm.iload_n (n := 5) 1 dX0_hasRow_4 rfl rfl ?_
    refine Vm.aload_n (n := 6) 0 dX0_hasRow_5 rfl rfl ?_
    refine Vm.gX (n := 9) dX0_hasRow_6 rfl wf_RX0_28 (ink ik_0 (by omega)) rfl (by decide) rfl (by decide) ?_
    refine Vm.icmp_ge (n := 12) 16 dX0_hasRow_9 rfl rfl (fun c9 => ?_) (fun c9 => ?_)
    · replace h := (if_pos c9).symm.trans h
      refine Vm.iconst (n := 17) (v := (0 : Int32)) dX0_hasRow_16 rfl (by decide) ?_
      subst h
      exact Vm.zret (b := false) dX0_hasRow_17 rfl rfl hk.1 (by rw [hσ]; exact hk.2.symm)
    · replace h := (if_neg c9).symm.trans h
      refine Vm.iconst (n := 13) (v := (1 : Int32)) dX0_hasRow_12 rfl (by decide) ?_
      refine Vm.goto 17 dX0_hasRow_13 rfl ?_
      subst h
      exact Vm.zret (b := true) dX0_hasRow_17 rfl rfl hk.1 (by rw [hσ]; exact hk.2.symm)
theorem kX0_hasRow (a0 : Nat) (ha0 : a0 < 3) (a1 : Int32) (σ τ : mm) {q : Bool} (h : fX0_hasRow a0 a1 σ = q) : Cx mX0_hasRow 0 [.inr (.inr (0, a0)), .inl a1] (σ, τ) (some (.inl (bi q))) (σ, τ) :=
  Cx.of (lv := [(0, .inr (.inr (0, a0))), (1, .inl a1)]) (by decide) (fun ad => Nat.le_of_ble_eq_true rfl) (fun ad => rfl) (lX0_hasRow_0 a0 ha0 a1 σ σ τ rfl h ⟨rfl, rfl⟩)
-- ThinBodies$Row leastIn ([I[II)I
noncomputable def fX4_leastIn_8_9_42 (a0 : Nat) (a1 : Nat) (a2 : Nat) (a3 : Int32) (a5 : Int32) (s0 : Int32) (s1 : Int32) (s2 : Int32) (σ : mm) : Option ((Int32 × Int32) ⊕ (Int32)) :=
  Option.bind (some (s0 + (s1 * s2))) fun x1 =>
  Option.bind (some (a5 + (1 : Int32))) fun x2 =>
  some (.inl (x1, x2))
noncomputable def fX4_leastIn_8_9_6 (a0 : Nat) (a1 : Nat) (a2 : Nat) (a3 : Int32) (a4 : Int32) (a5 : Int32) (σ : mm) : Option ((Int32 × Int32) ⊕ (Int32)) :=
  if a3 ≤ a5 then
  some (.inr (a4))
  else
  Option.bind (rdI σ 10 a0 4 a5) fun x1 =>
  Option.bind (rdI σ 10 a0 4 a5) fun x2 =>
  if x2 ≤ (0 : Int32) then
  Option.bind (rdI σ 9 a2 4 a5) fun x3 =>
  fX4_leastIn_8_9_42 a0 a1 a2 a3 a5 a4 x1 x3 σ
  else
  Option.bind (rdI σ 8 a1 4 a5) fun x4 =>
  fX4_leastIn_8_9_42 a0 a1 a2 a3 a5 a4 x1 x4 σ
noncomputable def fX4_leastIn_8_9_6_L (a0 : Nat) (a1 : Nat) (a2 : Nat) (a3 : Int32) (σ : mm) : Int32 × Int32 → Option ((Int32 × Int32) ⊕ (Int32)) := fun z => fX4_leastIn_8_9_6 a0 a1 a2 a3 z.1 z.2 σ
noncomputable def fX4_leastIn_8_9_0 (a0 : Nat) (a1 : Nat) (a2 : Nat) (a3 : Int32) (σ : mm) : Option (Int32) :=
  lp (fX4_leastIn_8_9_6_L a0 a1 a2 a3 σ) ((0 : Int32), (0 : Int32))
noncomputable def fX4_leastIn_8_9 (a0 : Nat) (a1 : Nat) (a2 : Nat) (a3 : Int32) (σ : mm) : Option (Int32) := fX4_leastIn_8_9_0 a0 a1 a2 a3 σ
set_option maxRecDepth 20000 in
theorem lX4_leastIn_8_9_42 (a0 : Nat) (ha0 : a0 < 24) (a1 : Nat) (ha1 : a1 < 3) (a2 : Nat) (ha2 : a2 < 3) (a3 : Int32) (a5 : Int32) (s0 : Int32) (s1 : Int32) (s2 : Int32) (σ σ0 τ : mm) (hσ : σ = σ0) {r : Option mv} {M' : mm × mm} {v9 : (Int32 × Int32) ⊕ (Int32)} (h : fX4_leastIn_8_9_42 a0 a1 a2 a3 a5 s0 s1 s2 σ = some v9) (hk : (Sum.elim (fun z : Int32 × Int32 => Vm mX4_leastIn 0 6 [(0, .inr (.inr (4, a0))), (1, .inr (.inr (8, a1))), (2, .inr (.inr (9, a2))), (3, .inl a3), (4, .inl z.1), (5, .inl z.2)] [] (σ, τ) r M') (fun q : Int32 => r = some (.inl q) ∧ M' = (σ0, τ))) v9) : Vm mX4_leastIn 0 42 [(0, .inr (.inr (4, a0))), (1, .inr (.inr (8, a1))), (2, .inr (.inr (9, a2))), (3, .inl a3), (5, .inl a5)] [.inl s2, .inl s1, .inl s0] (σ, τ) r M' := by
  unfold fX4_leastIn_8_9_42 at h
  refine Vm.imul (n := 43) dX4_leastIn_42 rfl ?_
  refine Vm.iadd (n := 44) dX4_leastIn_43 rfl ?_
  replace h := Option.bind_eq_some_iff.mp h
  obtain ⟨x1, e1, h⟩ := h
  replace e1 := Option.some.inj e1
  refine Vm.top e1 ?_
  refine Vm.istore (n := 46) (lv' := [(4, .inl x1), (0, .inr (.inr (4, a0))), (1, .inr (.inr (8, a1))), (2, .inr (.inr (9, a2))), (3, .inl a3), (5, .inl a5)]) dX4_leastIn_44 rfl (Nat.le_of_ble_eq_true rfl) rfl ?_
  replace h := Option.bind_eq_some_iff.mp h
  obtain ⟨x2, e2, h⟩ := h
  replace e2 := Option.some.inj e2
  refine Vm.iinc (n := 49) (v := x2) (lv' := [(5, .inl x2), (4, .inl x1), (0, .inr (.inr (4, a0))), (1, .inr (.inr (8, a1))), (2, .inr (.inr (9, a2))), (3, .inl a3)]) 5 dX4_leastIn_46 rfl rfl e2 (Nat.le_of_ble_eq_true rfl) rfl ?_
  refine Vm.goto 6 dX4_leastIn_49 rfl ?_
  refine Vm.sub (lv' := [(0, .inr (.inr (4, a0))), (1, .inr (.inr (8, a1))), (2, .inr (.inr (9, a2))), (3, .inl a3), (4, .inl x1), (5, .inl x2)]) [2, 3, 4, 5, 1, 0] rfl ?_
  obtain rfl := Option.some.inj h
  exact hk
set_option maxRecDepth 20000 in
theorem lX4_leastIn_8_9_6 (a0 : Nat) (ha0 : a0 < 24) (a1 : Nat) (ha1 : a1 < 3) (a2 : Nat) (ha2 : a2 < 3) (a3 : Int32) (a4 : Int32) (a5 : Int32) (σ σ0 τ : mm) (hσ : σ = σ0) {r : Option mv} {M' : mm × mm} {v9 : (Int32 × Int32) ⊕ (Int32)} (h : fX4_leastIn_8_9_6 a0 a1 a2 a3 a4 a5 σ = some v9) (hk : (Sum.elim (fun z : Int32 × Int32 => Vm mX4_leastIn 0 6 [(0, .inr (.inr (4, a0))), (1, .inr (.inr (8, a1))), (2, .inr (.inr (9, a2))), (3, .inl a3), (4, .inl z.1), (5, .inl z.2)] [] (σ, τ) r M') (fun q : Int32 => r = some (.inl q) ∧ M' = (σ0, τ))) v9) : Vm mX4_leastIn 0 6 [(0, .inr (.inr (4, a0))), (1, .inr (.inr (8, a1))), (2, .inr (.inr (9, a2))), (3, .inl a3), (4, .inl a4), (5, .inl a5)] [] (σ, τ) r M' := by
  unfold fX4_leastIn_8_9_6 at h
  refine Vm.iload (n := 8) 5 dX4_leastIn_6 rfl rfl ?_
  refine Vm.iload_n (n := 9) 3 dX4_leastIn_8 rfl rfl ?_
  refine Vm.icmp_ge (n := 12) 52 dX4_leastIn_9 rfl rfl (fun c9 => ?_) (fun c9 => ?_)
  · replace h := (if_pos c9).symm.trans h
    refine Vm.iload (n := 54) 4 dX4_leastIn_52 rfl rfl ?_
    obtain rfl := Option.some.inj h
    exact Vm.iret dX4_leastIn_54 rfl hk.1 (by rw [hσ]; exact hk.2.symm)
  · replace h := (if_neg c9).symm.trans h
    refine Vm.iload (n := 14) 4 dX4_leastIn_12 rfl rfl ?_
    refine Vm.aload_n (n := 15) 0 dX4_leastIn_14 rfl rfl ?_
    refine Vm.getR (n := 18) dX4_leastIn_15 rfl wf_RX4_21 (ink ik_4 (by omega)) rfl (by decide) rfl ?_
    refine Vm.iload (n := 20) 5 dX4_leastIn_18 rfl rfl ?_
    replace h := Option.bind_eq_some_iff.mp h
    obtain ⟨x1, h1, h⟩ := h
    refine Vm.ialdx (n := 21) dX4_leastIn_20 rfl (ink ik_10 (by omega)) rfl rfl (by decide) h1 ?_
    refine Vm.aload_n (n := 22) 0 dX4_leastIn_21 rfl rfl ?_
    refine Vm.getR (n := 25) dX4_leastIn_22 rfl wf_RX4_21 (ink ik_4 (by omega)) rfl (by decide) rfl ?_
    refine Vm.iload (n := 27) 5 dX4_leastIn_25 rfl rfl ?_
    replace h := Option.bind_eq_some_iff.mp h
    obtain ⟨x2, h2, h⟩ := h
    refine Vm.ialdx (n := 28) dX4_leastIn_27 rfl (ink ik_10 (by omega)) rfl rfl (by decide) h2 ?_
    refine Vm.if_le (n := 31) 38 dX4_leastIn_28 rfl rfl (fun c9 => ?_) (fun c9 => ?_)
    · replace h := (if_pos c9).symm.trans h
      refine Vm.aload_n (n := 39) 2 dX4_leastIn_38 rfl rfl ?_
      refine Vm.iload (n := 41) 5 dX4_leastIn_39 rfl rfl ?_
      replace h := Option.bind_eq_some_iff.mp h
      obtain ⟨x3, h3, h⟩ := h
      refine Vm.ialdx (n := 42) dX4_leastIn_41 rfl (ink ik_9 (by omega)) rfl rfl (by decide) h3 ?_
      refine Vm.sub (lv' := [(0, .inr (.inr (4, a0))), (1, .inr (.inr (8, a1))), (2, .inr (.inr (9, a2))), (3, .inl a3), (5, .inl a5)]) [0, 1, 2, 3, 5] rfl ?_
      exact lX4_leastIn_8_9_42 a0 (by omega) a1 (by omega) a2 (by omega) a3 a5 a4 x1 x3 σ σ0 τ hσ h hk
    · replace h := (if_neg c9).symm.trans h
      refine Vm.aload_n (n := 32) 1 dX4_leastIn_31 rfl rfl ?_
      refine Vm.iload (n := 34) 5 dX4_leastIn_32 rfl rfl ?_
      replace h := Option.bind_eq_some_iff.mp h
      obtain ⟨x4, h4, h⟩ := h
      refine Vm.ialdx (n := 35) dX4_leastIn_34 rfl (ink ik_8 (by omega)) rfl rfl (by decide) h4 ?_
      refine Vm.goto 42 dX4_leastIn_35 rfl ?_
      refine Vm.sub (lv' := [(0, .inr (.inr (4, a0))), (1, .inr (.inr (8, a1))), (2, .inr (.inr (9, a2))), (3, .inl a3), (5, .inl a5)]) [0, 1, 2, 3, 5] rfl ?_
      exact lX4_leastIn_8_9_42 a0 (by omega) a1 (by omega) a2 (by omega) a3 a5 a4 x1 x4 σ σ0 τ hσ h hk
theorem lX4_leastIn_8_9_6_L (a0 : Nat) (ha0 : a0 < 24) (a1 : Nat) (ha1 : a1 < 3) (a2 : Nat) (ha2 : a2 < 3) (a3 : Int32) (σ σ0 τ : mm) (hσ : σ = σ0) {r : Option mv} {M' : mm × mm} (z : Int32 × Int32) (w9 : Int32) (h : lp (fX4_leastIn_8_9_6_L a0 a1 a2 a3 σ) z = some w9) (hk : (fun q : Int32 => r = some (.inl q) ∧ M' = (σ0, τ)) w9) : Vm mX4_leastIn 0 6 [(0, .inr (.inr (4, a0))), (1, .inr (.inr (8, a1))), (2, .inr (.inr (9, a2))), (3, .inl a3), (4, .inl z.1), (5, .inl z.2)] [] (σ, τ) r M' :=
  lp_link (S := Int32 × Int32) (R := Int32) (body := fX4_leastIn_8_9_6_L a0 a1 a2 a3 σ) (A := fun z : Int32 × Int32 => Vm mX4_leastIn 0 6 [(0, .inr (.inr (4, a0))), (1, .inr (.inr (8, a1))), (2, .inr (.inr (9, a2))), (3, .inl a3), (4, .inl z.1), (5, .inl z.2)] [] (σ, τ) r M') (B := fun w : Int32 => (fun q : Int32 => r = some (.inl q) ∧ M' = (σ0, τ)) w) (fun z v hb hv => lX4_leastIn_8_9_6 a0 ha0 a1 ha1 a2 ha2 a3 z.1 z.2 σ σ0 τ hσ hb hv) z w9 h hk
set_option maxRecDepth 20000 in
theorem lX4_leastIn_8_9_0 (a0 : Nat) (ha0 : a0 < 24) (a1 : Nat) (ha1 : a1 < 3) (a2 : Nat) (ha2 : a2 < 3) (a3 : Int32) (σ σ0 τ : mm) (hσ : σ = σ0) {r : Option mv} {M' : mm × mm} {v9 : Int32} (h : fX4_leastIn_8_9_0 a0 a1 a2 a3 σ = some v9) (hk : (fun q : Int32 => r = some (.inl q) ∧ M' = (σ0, τ)) v9) : Vm mX4_leastIn 0 0 [(0, .inr (.inr (4, a0))), (1, .inr (.inr (8, a1))), (2, .inr (.inr (9, a2))), (3, .inl a3)] [] (σ, τ) r M' := by
  unfold fX4_leastIn_8_9_0 at h
  refine Vm.iconst (n := 1) (v := (0 : Int32)) dX4_leastIn_0 rfl (by decide) ?_
  refine Vm.istore (n := 3) (lv' := [(4, .inl (0 : Int32)), (0, .inr (.inr (4, a0))), (1, .inr (.inr (8, a1))), (2, .inr (.inr (9, a2))), (3, .inl a3)]) dX4_leastIn_1 rfl (Nat.le_of_ble_eq_true rfl) rfl ?_
  refine Vm.iconst (n := 4) (v := (0 : Int32)) dX4_leastIn_3 rfl (by decide) ?_
  refine Vm.istore (n := 6) (lv' := [(5, .inl (0 : Int32)), (4, .inl (0 : Int32)), (0, .inr (.inr (4, a0))), (1, .inr (.inr (8, a1))), (2, .inr (.inr (9, a2))), (3, .inl a3)]) dX4_leastIn_4 rfl (Nat.le_of_ble_eq_true rfl) rfl ?_
  refine Vm.sub (lv' := [(0, .inr (.inr (4, a0))), (1, .inr (.inr (8, a1))), (2, .inr (.inr (9, a2))), (3, .inl a3), (4, .inl (0 : Int32)), (5, .inl (0 : Int32))]) [2, 3, 4, 5, 1, 0] rfl ?_
  exact lX4_leastIn_8_9_6_L a0 (by omega) a1 (by omega) a2 (by omega) a3 σ σ0 τ hσ ((0 : Int32), (0 : Int32)) _ h hk
theorem kX4_leastIn_8_9 (a0 : Nat) (ha0 : a0 < 24) (a1 : Nat) (ha1 : a1 < 3) (a2 : Nat) (ha2 : a2 < 3) (a3 : Int32) (σ τ : mm) {q : Int32} (h : fX4_leastIn_8_9 a0 a1 a2 a3 σ = some q) : Cx mX4_leastIn 0 [.inr (.inr (4, a0)), .inr (.inr (8, a1)), .inr (.inr (9, a2)), .inl a3] (σ, τ) (some (.inl q)) (σ, τ) :=
  Cx.of (lv := [(0, .inr (.inr (4, a0))), (1, .inr (.inr (8, a1))), (2, .inr (.inr (9, a2))), (3, .inl a3)]) (by decide) (fun ad => Nat.le_of_ble_eq_true rfl) (fun ad => rfl) (lX4_leastIn_8_9_0 a0 ha0 a1 ha1 a2 ha2 a3 σ σ τ rfl h ⟨rfl, rfl⟩)
-- ThinBodies$Row mostIn ([I[II)I
noncomputable def fX4_mostIn_8_9_42 (a0 : Nat) (a1 : Nat) (a2 : Nat) (a3 : Int32) (a5 : Int32) (s0 : Int32) (s1 : Int32) (s2 : Int32) (σ : mm) : Option ((Int32 × Int32) ⊕ (Int32)) :=
  Option.bind (some (s0 + (s1 * s2))) fun x1 =>
  Option.bind (some (a5 + (1 : Int32))) fun x2 =>
  some (.inl (x1, x2))
noncomputable def fX4_mostIn_8_9_6 (a0 : Nat) (a1 : Nat) (a2 : Nat) (a3 : Int32) (a4 : Int32) (a5 : Int32) (σ : mm) : Option ((Int32 × Int32) ⊕ (Int32)) :=
  if a3 ≤ a5 then
  some (.inr (a4))
  else
  Option.bind (rdI σ 10 a0 4 a5) fun x1 =>
  Option.bind (rdI σ 10 a0 4 a5) fun x2 =>
  if x2 ≤ (0 : Int32) then
  Option.bind (rdI σ 8 a1 4 a5) fun x3 =>
  fX4_mostIn_8_9_42 a0 a1 a2 a3 a5 a4 x1 x3 σ
  else
  Option.bind (rdI σ 9 a2 4 a5) fun x4 =>
  fX4_mostIn_8_9_42 a0 a1 a2 a3 a5 a4 x1 x4 σ
noncomputable def fX4_mostIn_8_9_6_L (a0 : Nat) (a1 : Nat) (a2 : Nat) (a3 : Int32) (σ : mm) : Int32 × Int32 → Option ((Int32 × Int32) ⊕ (Int32)) := fun z => fX4_mostIn_8_9_6 a0 a1 a2 a3 z.1 z.2 σ
noncomputable def fX4_mostIn_8_9_0 (a0 : Nat) (a1 : Nat) (a2 : Nat) (a3 : Int32) (σ : mm) : Option (Int32) :=
  lp (fX4_mostIn_8_9_6_L a0 a1 a2 a3 σ) ((0 : Int32), (0 : Int32))
noncomputable def fX4_mostIn_8_9 (a0 : Nat) (a1 : Nat) (a2 : Nat) (a3 : Int32) (σ : mm) : Option (Int32) := fX4_mostIn_8_9_0 a0 a1 a2 a3 σ
set_option maxRecDepth 20000 in
theorem lX4_mostIn_8_9_42 (a0 : Nat) (ha0 : a0 < 24) (a1 : Nat) (ha1 : a1 < 3) (a2 : Nat) (ha2 : a2 < 3) (a3 : Int32) (a5 : Int32) (s0 : Int32) (s1 : Int32) (s2 : Int32) (σ σ0 τ : mm) (hσ : σ = σ0) {r : Option mv} {M' : mm × mm} {v9 : (Int32 × Int32) ⊕ (Int32)} (h : fX4_mostIn_8_9_42 a0 a1 a2 a3 a5 s0 s1 s2 σ = some v9) (hk : (Sum.elim (fun z : Int32 × Int32 => Vm mX4_mostIn 0 6 [(0, .inr (.inr (4, a0))), (1, .inr (.inr (8, a1))), (2, .inr (.inr (9, a2))), (3, .inl a3), (4, .inl z.1), (5, .inl z.2)] [] (σ, τ) r M') (fun q : Int32 => r = some (.inl q) ∧ M' = (σ0, τ))) v9) : Vm mX4_mostIn 0 42 [(0, .inr (.inr (4, a0))), (1, .inr (.inr (8, a1))), (2, .inr (.inr (9, a2))), (3, .inl a3), (5, .inl a5)] [.inl s2, .inl s1, .inl s0] (σ, τ) r M' := by
  unfold fX4_mostIn_8_9_42 at h
  refine Vm.imul (n := 43) dX4_mostIn_42 rfl ?_
  refine Vm.iadd (n := 44) dX4_mostIn_43 rfl ?_
  replace h := Option.bind_eq_some_iff.mp h
  obtain ⟨x1, e1, h⟩ := h
  replace e1 := Option.some.inj e1
  refine Vm.top e1 ?_
  refine Vm.istore (n := 46) (lv' := [(4, .inl x1), (0, .inr (.inr (4, a0))), (1, .inr (.inr (8, a1))), (2, .inr (.inr (9, a2))), (3, .inl a3), (5, .inl a5)]) dX4_mostIn_44 rfl (Nat.le_of_ble_eq_true rfl) rfl ?_
  replace h := Option.bind_eq_some_iff.mp h
  obtain ⟨x2, e2, h⟩ := h
  replace e2 := Option.some.inj e2
  refine Vm.iinc (n := 49) (v := x2) (lv' := [(5, .inl x2), (4, .inl x1), (0, .inr (.inr (4, a0))), (1, .inr (.inr (8, a1))), (2, .inr (.inr (9, a2))), (3, .inl a3)]) 5 dX4_mostIn_46 rfl rfl e2 (Nat.le_of_ble_eq_true rfl) rfl ?_
  refine Vm.goto 6 dX4_mostIn_49 rfl ?_
  refine Vm.sub (lv' := [(0, .inr (.inr (4, a0))), (1, .inr (.inr (8, a1))), (2, .inr (.inr (9, a2))), (3, .inl a3), (4, .inl x1), (5, .inl x2)]) [2, 3, 4, 5, 1, 0] rfl ?_
  obtain rfl := Option.some.inj h
  exact hk
set_option maxRecDepth 20000 in
theorem lX4_mostIn_8_9_6 (a0 : Nat) (ha0 : a0 < 24) (a1 : Nat) (ha1 : a1 < 3) (a2 : Nat) (ha2 : a2 < 3) (a3 : Int32) (a4 : Int32) (a5 : Int32) (σ σ0 τ : mm) (hσ : σ = σ0) {r : Option mv} {M' : mm × mm} {v9 : (Int32 × Int32) ⊕ (Int32)} (h : fX4_mostIn_8_9_6 a0 a1 a2 a3 a4 a5 σ = some v9) (hk : (Sum.elim (fun z : Int32 × Int32 => Vm mX4_mostIn 0 6 [(0, .inr (.inr (4, a0))), (1, .inr (.inr (8, a1))), (2, .inr (.inr (9, a2))), (3, .inl a3), (4, .inl z.1), (5, .inl z.2)] [] (σ, τ) r M') (fun q : Int32 => r = some (.inl q) ∧ M' = (σ0, τ))) v9) : Vm mX4_mostIn 0 6 [(0, .inr (.inr (4, a0))), (1, .inr (.inr (8, a1))), (2, .inr (.inr (9, a2))), (3, .inl a3), (4, .inl a4), (5, .inl a5)] [] (σ, τ) r M' := by
  unfold fX4_mostIn_8_9_6 at h
  refine Vm.iload (n := 8) 5 dX4_mostIn_6 rfl rfl ?_
  refine Vm.iload_n (n := 9) 3 dX4_mostIn_8 rfl rfl ?_
  refine Vm.icmp_ge (n := 12) 52 dX4_mostIn_9 rfl rfl (fun c9 => ?_) (fun c9 => ?_)
  · replace h := (if_pos c9).symm.trans h
    refine Vm.iload (n := 54) 4 dX4_mostIn_52 rfl rfl ?_
    obtain rfl := Option.some.inj h
    exact Vm.iret dX4_mostIn_54 rfl hk.1 (by rw [hσ]; exact hk.2.symm)
  · replace h := (if_neg c9).symm.trans h
    refine Vm.iload (n := 14) 4 dX4_mostIn_12 rfl rfl ?_
    refine Vm.aload_n (n := 15) 0 dX4_mostIn_14 rfl rfl ?_
    refine Vm.getR (n := 18) dX4_mostIn_15 rfl wf_RX4_21 (ink ik_4 (by omega)) rfl (by decide) rfl ?_
    refine Vm.iload (n := 20) 5 dX4_mostIn_18 rfl rfl ?_
    replace h := Option.bind_eq_some_iff.mp h
    obtain ⟨x1, h1, h⟩ := h
    refine Vm.ialdx (n := 21) dX4_mostIn_20 rfl (ink ik_10 (by omega)) rfl rfl (by decide) h1 ?_
    refine Vm.aload_n (n := 22) 0 dX4_mostIn_21 rfl rfl ?_
    refine Vm.getR (n := 25) dX4_mostIn_22 rfl wf_RX4_21 (ink ik_4 (by omega)) rfl (by decide) rfl ?_
    refine Vm.iload (n := 27) 5 dX4_mostIn_25 rfl rfl ?_
    replace h := Option.bind_eq_some_iff.mp h
    obtain ⟨x2, h2, h⟩ := h
    refine Vm.ialdx (n := 28) dX4_mostIn_27 rfl (ink ik_10 (by omega)) rfl rfl (by decide) h2 ?_
    refine Vm.if_le (n := 31) 38 dX4_mostIn_28 rfl rfl (fun c9 => ?_) (fun c9 => ?_)
    · replace h := (if_pos c9).symm.trans h
      refine Vm.aload_n (n := 39) 1 dX4_mostIn_38 rfl rfl ?_
      refine Vm.iload (n := 41) 5 dX4_mostIn_39 rfl rfl ?_
      replace h := Option.bind_eq_some_iff.mp h
      obtain ⟨x3, h3, h⟩ := h
      refine Vm.ialdx (n := 42) dX4_mostIn_41 rfl (ink ik_8 (by omega)) rfl rfl (by decide) h3 ?_
      refine Vm.sub (lv' := [(0, .inr (.inr (4, a0))), (1, .inr (.inr (8, a1))), (2, .inr (.inr (9, a2))), (3, .inl a3), (5, .inl a5)]) [0, 1, 2, 3, 5] rfl ?_
      exact lX4_mostIn_8_9_42 a0 (by omega) a1 (by omega) a2 (by omega) a3 a5 a4 x1 x3 σ σ0 τ hσ h hk
    · replace h := (if_neg c9).symm.trans h
      refine Vm.aload_n (n := 32) 2 dX4_mostIn_31 rfl rfl ?_
      refine Vm.iload (n := 34) 5 dX4_mostIn_32 rfl rfl ?_
      replace h := Option.bind_eq_some_iff.mp h
      obtain ⟨x4, h4, h⟩ := h
      refine Vm.ialdx (n := 35) dX4_mostIn_34 rfl (ink ik_9 (by omega)) rfl rfl (by decide) h4 ?_
      refine Vm.goto 42 dX4_mostIn_35 rfl ?_
      refine Vm.sub (lv' := [(0, .inr (.inr (4, a0))), (1, .inr (.inr (8, a1))), (2, .inr (.inr (9, a2))), (3, .inl a3), (5, .inl a5)]) [0, 1, 2, 3, 5] rfl ?_
      exact lX4_mostIn_8_9_42 a0 (by omega) a1 (by omega) a2 (by omega) a3 a5 a4 x1 x4 σ σ0 τ hσ h hk
theorem lX4_mostIn_8_9_6_L (a0 : Nat) (ha0 : a0 < 24) (a1 : Nat) (ha1 : a1 < 3) (a2 : Nat) (ha2 : a2 < 3) (a3 : Int32) (σ σ0 τ : mm) (hσ : σ = σ0) {r : Option mv} {M' : mm × mm} (z : Int32 × Int32) (w9 : Int32) (h : lp (fX4_mostIn_8_9_6_L a0 a1 a2 a3 σ) z = some w9) (hk : (fun q : Int32 => r = some (.inl q) ∧ M' = (σ0, τ)) w9) : Vm mX4_mostIn 0 6 [(0, .inr (.inr (4, a0))), (1, .inr (.inr (8, a1))), (2, .inr (.inr (9, a2))), (3, .inl a3), (4, .inl z.1), (5, .inl z.2)] [] (σ, τ) r M' :=
  lp_link (S := Int32 × Int32) (R := Int32) (body := fX4_mostIn_8_9_6_L a0 a1 a2 a3 σ) (A := fun z : Int32 × Int32 => Vm mX4_mostIn 0 6 [(0, .inr (.inr (4, a0))), (1, .inr (.inr (8, a1))), (2, .inr (.inr (9, a2))), (3, .inl a3), (4, .inl z.1), (5, .inl z.2)] [] (σ, τ) r M') (B := fun w : Int32 => (fun q : Int32 => r = some (.inl q) ∧ M' = (σ0, τ)) w) (fun z v hb hv => lX4_mostIn_8_9_6 a0 ha0 a1 ha1 a2 ha2 a3 z.1 z.2 σ σ0 τ hσ hb hv) z w9 h hk
set_option maxRecDepth 20000 in
theorem lX4_mostIn_8_9_0 (a0 : Nat) (ha0 : a0 < 24) (a1 : Nat) (ha1 : a1 < 3) (a2 : Nat) (ha2 : a2 < 3) (a3 : Int32) (σ σ0 τ : mm) (hσ : σ = σ0) {r : Option mv} {M' : mm × mm} {v9 : Int32} (h : fX4_mostIn_8_9_0 a0 a1 a2 a3 σ = some v9) (hk : (fun q : Int32 => r = some (.inl q) ∧ M' = (σ0, τ)) v9) : Vm mX4_mostIn 0 0 [(0, .inr (.inr (4, a0))), (1, .inr (.inr (8, a1))), (2, .inr (.inr (9, a2))), (3, .inl a3)] [] (σ, τ) r M' := by
  unfold fX4_mostIn_8_9_0 at h
  refine Vm.iconst (n := 1) (v := (0 : Int32)) dX4_mostIn_0 rfl (by decide) ?_
  refine Vm.istore (n := 3) (lv' := [(4, .inl (0 : Int32)), (0, .inr (.inr (4, a0))), (1, .inr (.inr (8, a1))), (2, .inr (.inr (9, a2))), (3, .inl a3)]) dX4_mostIn_1 rfl (Nat.le_of_ble_eq_true rfl) rfl ?_
  refine Vm.iconst (n := 4) (v := (0 : Int32)) dX4_mostIn_3 rfl (by decide) ?_
  refine Vm.istore (n := 6) (lv' := [(5, .inl (0 : Int32)), (4, .inl (0 : Int32)), (0, .inr (.inr (4, a0))), (1, .inr (.inr (8, a1))), (2, .inr (.inr (9, a2))), (3, .inl a3)]) dX4_mostIn_4 rfl (Nat.le_of_ble_eq_true rfl) rfl ?_
  refine Vm.sub (lv' := [(0, .inr (.inr (4, a0))), (1, .inr (.inr (8, a1))), (2, .inr (.inr (9, a2))), (3, .inl a3), (4, .inl (0 : Int32)), (5, .inl (0 : Int32))]) [2, 3, 4, 5, 1, 0] rfl ?_
  exact lX4_mostIn_8_9_6_L a0 (by omega) a1 (by omega) a2 (by omega) a3 σ σ0 τ hσ ((0 : Int32), (0 : Int32)) _ h hk
theorem kX4_mostIn_8_9 (a0 : Nat) (ha0 : a0 < 24) (a1 : Nat) (ha1 : a1 < 3) (a2 : Nat) (ha2 : a2 < 3) (a3 : Int32) (σ τ : mm) {q : Int32} (h : fX4_mostIn_8_9 a0 a1 a2 a3 σ = some q) : Cx mX4_mostIn 0 [.inr (.inr (4, a0)), .inr (.inr (8, a1)), .inr (.inr (9, a2)), .inl a3] (σ, τ) (some (.inl q)) (σ, τ) :=
  Cx.of (lv := [(0, .inr (.inr (4, a0))), (1, .inr (.inr (8, a1))), (2, .inr (.inr (9, a2))), (3, .inl a3)]) (by decide) (fun ad => Nat.le_of_ble_eq_true rfl) (fun ad => rfl) (lX4_mostIn_8_9_0 a0 ha0 a1 ha1 a2 ha2 a3 σ σ τ rfl h ⟨rfl, rfl⟩)
-- ThinBodies$Row part (I)I
def fX4_part_0 (a0 : Nat) (a1 : Int32) (σ : mm) : Option (Int32) :=
  if a1.toInt = (0 : Int) then
  some (σ.1 4 a0 0)
  else if a1.toInt = (1 : Int) then
  some (σ.1 4 a0 1)
  else if a1.toInt = (2 : Int) then
  some (σ.1 4 a0 2)
  else 
  if a1 < (3 : Int32) then
  some ((0 : Int32))
  else
  if (7 : Int32) ≤ a1 then
  some ((0 : Int32))
  else
  Option.bind (rdI σ 10 a0 4 (a1 - (3 : Int32))) fun x1 =>
  some (x1)
def fX4_part (a0 : Nat) (a1 : Int32) (σ : mm) : Option (Int32) := fX4_part_0 a0 a1 σ
set_option maxRecDepth 20000 in
theorem lX4_part_0 (a0 : Nat) (ha0 : a0 < 24) (a1 : Int32) (σ σ0 τ : mm) (hσ : σ = σ0) {r : Option mv} {M' : mm × mm} {v9 : Int32} (h : fX4_part_0 a0 a1 σ = some v9) (hk : (fun q : Int32 => r = some (.inl q) ∧ M' = (σ0, τ)) v9) : Vm mX4_part 0 0 [(0, .inr (.inr (4, a0))), (1, .inl a1)] [] (σ, τ) r M' := by
  unfold fX4_part_0 at h
  refine Vm.iload_n (n := 1) 1 dX4_part_0 rfl rfl ?_
  by_cases c50 : a1.toInt = (0 : Int)
  · replace h := (if_pos c50).symm.trans h
    refine Vm.tswI (0) 28 dX4_part_1 c50 (by decide) rfl rfl ?_
    refine Vm.aload_n (n := 29) 0 dX4_part_28 rfl rfl ?_
    refine Vm.gX (n := 32) dX4_part_29 rfl wf_RX4_9 (ink ik_4 (by omega)) rfl (by decide) rfl (by decide) ?_
    obtain rfl := Option.some.inj h
    exact Vm.iret dX4_part_32 rfl hk.1 (by rw [hσ]; exact hk.2.symm)
  · replace h := (if_neg c50).symm.trans h
    by_cases c51 : a1.toInt = (1 : Int)
    · replace h := (if_pos c51).symm.trans h
      refine Vm.tswI (1) 33 dX4_part_1 c51 (by decide) rfl rfl ?_
      refine Vm.aload_n (n := 34) 0 dX4_part_33 rfl rfl ?_
      refine Vm.gX (n := 37) dX4_part_34 rfl wf_RX4_15 (ink ik_4 (by omega)) rfl (by decide) rfl (by decide) ?_
      obtain rfl := Option.some.inj h
      exact Vm.iret dX4_part_37 rfl hk.1 (by rw [hσ]; exact hk.2.symm)
    · replace h := (if_neg c51).symm.trans h
      by_cases c52 : a1.toInt = (2 : Int)
      · replace h := (if_pos c52).symm.trans h
        refine Vm.tswI (2) 38 dX4_part_1 c52 (by decide) rfl rfl ?_
        refine Vm.aload_n (n := 39) 0 dX4_part_38 rfl rfl ?_
        refine Vm.gX (n := 42) dX4_part_39 rfl wf_RX4_18 (ink ik_4 (by omega)) rfl (by decide) rfl (by decide) ?_
        obtain rfl := Option.some.inj h
        exact Vm.iret dX4_part_42 rfl hk.1 (by rw [hσ]; exact hk.2.symm)
      · replace h := (if_neg c52).symm.trans h
        refine Vm.tswO 43 dX4_part_1 (by omega) rfl ?_
        refine Vm.iload_n (n := 44) 1 dX4_part_43 rfl rfl ?_
        refine Vm.iconst (n := 45) (v := (3 : Int32)) dX4_part_44 rfl (by decide) ?_
        refine Vm.icmp_lt (n := 48) 65 dX4_part_45 rfl rfl (fun c9 => ?_) (fun c9 => ?_)
        · replace h := (if_pos c9).symm.trans h
          refine Vm.iconst (n := 66) (v := (0 : Int32)) dX4_part_65 rfl (by decide) ?_
          obtain rfl := Option.some.inj h
          exact Vm.iret dX4_part_66 rfl hk.1 (by rw [hσ]; exact hk.2.symm)
        · replace h := (if_neg c9).symm.trans h
          refine Vm.iload_n (n := 49) 1 dX4_part_48 rfl rfl ?_
          refine Vm.bipush (n := 51) (v := (7 : Int32)) dX4_part_49 rfl (by decide) ?_
          refine Vm.icmp_ge (n := 54) 65 dX4_part_51 rfl rfl (fun c9 => ?_) (fun c9 => ?_)
          · replace h := (if_pos c9).symm.trans h
            refine Vm.iconst (n := 66) (v := (0 : Int32)) dX4_part_65 rfl (by decide) ?_
            obtain rfl := Option.some.inj h
            exact Vm.iret dX4_part_66 rfl hk.1 (by rw [hσ]; exact hk.2.symm)
          · replace h := (if_neg c9).symm.trans h
            refine Vm.aload_n (n := 55) 0 dX4_part_54 rfl rfl ?_
            refine Vm.getR (n := 58) dX4_part_55 rfl wf_RX4_21 (ink ik_4 (by omega)) rfl (by decide) rfl ?_
            refine Vm.iload_n (n := 59) 1 dX4_part_58 rfl rfl ?_
            refine Vm.iconst (n := 60) (v := (3 : Int32)) dX4_part_59 rfl (by decide) ?_
            refine Vm.isub (n := 61) dX4_part_60 rfl ?_
            replace h := Option.bind_eq_some_iff.mp h
            obtain ⟨x1, h1, h⟩ := h
            refine Vm.ialdx (n := 62) dX4_part_61 rfl (ink ik_10 (by omega)) rfl rfl (by decide) h1 ?_
            refine Vm.goto 66 dX4_part_62 rfl ?_
            obtain rfl := Option.some.inj h
            exact Vm.iret dX4_part_66 rfl hk.1 (by rw [hσ]; exact hk.2.symm)
theorem kX4_part (a0 : Nat) (ha0 : a0 < 24) (a1 : Int32) (σ τ : mm) {q : Int32} (h : fX4_part a0 a1 σ = some q) : Cx mX4_part 0 [.inr (.inr (4, a0)), .inl a1] (σ, τ) (some (.inl q)) (σ, τ) :=
  Cx.of (lv := [(0, .inr (.inr (4, a0))), (1, .inl a1)]) (by decide) (fun ad => Nat.le_of_ble_eq_true rfl) (fun ad => rfl) (lX4_part_0 a0 ha0 a1 σ σ τ rfl h ⟨rfl, rfl⟩)
-- ThinBodies of (II)I
noncomputable def fX7_of_21 (σ : mm) : Option (Int32 × mm) :=
  Option.bind (fX7_finding (0 : Int32) σ) fun q1 =>
  some ((q1.1, q1.2))
noncomputable def fX7_of_0 (a1 : Int32) (a2 : Int32) (σ : mm) : Option (Int32 × mm) :=
  if (bi (fX0_hasRow 0 a1 σ)) = (0 : Int32) then
  fX7_of_21 σ
  else
  if a2 < (0 : Int32) then
  fX7_of_21 σ
  else
  if a2 ≤ (8 : Int32) then
  Option.bind (rdR 8 a1) fun k1 =>
  if a2 = (7 : Int32) then
  Option.bind (fX4_leastIn_8_9 (8 * 0 + k1) 0 0 (σ.1 0 0 0) σ) fun q4 =>
  some ((q4, σ))
  else
  if a2 = (8 : Int32) then
  Option.bind (fX4_mostIn_8_9 (8 * 0 + k1) 0 0 (σ.1 0 0 0) σ) fun q3 =>
  some ((q3, σ))
  else
  Option.bind (fX4_part (8 * 0 + k1) a2 σ) fun q2 =>
  some ((q2, σ))
  else
  fX7_of_21 σ
noncomputable def fX7_of (a1 : Int32) (a2 : Int32) (σ : mm) : Option (Int32 × mm) := fX7_of_0 a1 a2 σ
set_option maxRecDepth 20000 in
theorem lX7_of_21 (σ τ : mm) {r : Option mv} {M' : mm × mm} {v9 : Int32 × mm} (h : fX7_of_21 σ = some v9) (hk : (fun q : Int32 × mm => r = some (.inl q.1) ∧ M' = (q.2, τ)) v9) : Vm mX7_of 1 21 [(0, .inr (.inr (7, 0)))] [] (σ, τ) r M' := by
  unfold fX7_of_21 at h
  refine Vm.aload_n (n := 22) 0 dX7_of_21 rfl rfl ?_
  refine Vm.iconst (n := 23) (v := (0 : Int32)) dX7_of_22 rfl (by decide) ?_
  replace h := Option.bind_eq_some_iff.mp h
  obtain ⟨q1, h1, h⟩ := h
  refine Vm.callV (Y := mX7_finding) (n := 26) [.inl (0 : Int32)] dX7_of_23 rfl wv_RX7_68 omX7_finding rfl in_7 rfl rfl rfl (Nat.le_of_ble_eq_true rfl) (by decide) (kX7_finding (0 : Int32) σ τ h1) ?_
  obtain rfl := Option.some.inj h
  exact Vm.iret dX7_of_26 rfl hk.1 hk.2.symm
set_option maxRecDepth 20000 in
theorem lX7_of_0 (a1 : Int32) (a2 : Int32) (σ τ : mm) {r : Option mv} {M' : mm × mm} {v9 : Int32 × mm} (h : fX7_of_0 a1 a2 σ = some v9) (hk : (fun q : Int32 × mm => r = some (.inl q.1) ∧ M' = (q.2, τ)) v9) : Vm mX7_of 1 0 [(0, .inr (.inr (7, 0))), (1, .inl a1), (2, .inl a2)] [] (σ, τ) r M' := by
  unfold fX7_of_0 at h
  refine Vm.aload_n (n := 1) 0 dX7_of_0 rfl rfl ?_
  refine Vm.getR (n := 4) dX7_of_1 rfl wf_RX7_12 in_7 rfl (by decide) rfl ?_
  refine Vm.iload_n (n := 5) 1 dX7_of_4 rfl rfl ?_
  refine Vm.callV (Y := mX0_hasRow) (n := 8) [.inl a1] dX7_of_5 rfl wv_RX7_124 omX0_hasRow rfl (ink ik_0 (by decide)) rfl rfl rfl (Nat.le_of_ble_eq_true rfl) (by decide) (kX0_hasRow 0 (by decide) a1 σ τ rfl) ?_
  refine Vm.if_eq (n := 11) 21 dX7_of_8 rfl rfl (fun c9 => ?_) (fun c9 => ?_)
  · replace h := (if_pos c9).symm.trans h
    refine Vm.sub (lv' := [(0, .inr (.inr (7, 0)))]) [0] rfl ?_
    exact lX7_of_21 σ τ h hk
  · replace h := (if_neg c9).symm.trans h
    refine Vm.iload_n (n := 12) 2 dX7_of_11 rfl rfl ?_
    refine Vm.if_lt (n := 15) 21 dX7_of_12 rfl rfl (fun c9 => ?_) (fun c9 => ?_)
    · replace h := (if_pos c9).symm.trans h
      refine Vm.sub (lv' := [(0, .inr (.inr (7, 0)))]) [0] rfl ?_
      exact lX7_of_21 σ τ h hk
    · replace h := (if_neg c9).symm.trans h
      refine Vm.iload_n (n := 16) 2 dX7_of_15 rfl rfl ?_
      refine Vm.bipush (n := 18) (v := (8 : Int32)) dX7_of_16 rfl (by decide) ?_
      refine Vm.icmp_le (n := 21) 27 dX7_of_18 rfl rfl (fun c9 => ?_) (fun c9 => ?_)
      · replace h := (if_pos c9).symm.trans h
        refine Vm.aload_n (n := 28) 0 dX7_of_27 rfl rfl ?_
        refine Vm.getR (n := 31) dX7_of_28 rfl wf_RX7_12 in_7 rfl (by decide) rfl ?_
        refine Vm.getR (n := 34) dX7_of_31 rfl wf_RX7_127 (ink ik_0 (by decide)) rfl (by decide) rfl ?_
        refine Vm.iload_n (n := 35) 1 dX7_of_34 rfl rfl ?_
        replace h := Option.bind_eq_some_iff.mp h
        obtain ⟨k1, h1, h⟩ := h
        refine Vm.aald (n := 36) dX7_of_35 rfl (ink ik_27 (by decide)) rfl rfl (by decide) (fun _ => rfl) rfl h1 ?_
        have g1 := rdR_lt h1
        refine Vm.astore_n (n := 37) (lv' := [(3, .inr (.inr (4, (8 * 0 + k1)))), (0, .inr (.inr (7, 0))), (1, .inl a1), (2, .inl a2)]) dX7_of_36 rfl (Nat.le_of_ble_eq_true rfl) rfl ?_
        refine Vm.iload_n (n := 38) 3 dX7_of_37 rfl rfl ?_
        refine Vm.bipush (n := 40) (v := (7 : Int32)) dX7_of_38 rfl (by decide) ?_
        refine Vm.icmp_ne (n := 43) 69 dX7_of_40 rfl rfl (fun c9 => ?_) (fun c9 => ?_)
        · replace h := (if_neg c9).symm.trans h
          refine Vm.iload_n (n := 70) 3 dX7_of_69 rfl rfl ?_
          refine Vm.bipush (n := 72) (v := (8 : Int32)) dX7_of_70 rfl (by decide) ?_
          refine Vm.icmp_ne (n := 75) 101 dX7_of_72 rfl rfl (fun c9 => ?_) (fun c9 => ?_)
          · replace h := (if_neg c9).symm.trans h
            refine Vm.aload_n (n := 102) 0 dX7_of_101 rfl rfl ?_
            refine Vm.iload_n (n := 103) 3 dX7_of_102 rfl rfl ?_
            replace h := Option.bind_eq_some_iff.mp h
            obtain ⟨q2, h2, h⟩ := h
            refine Vm.callV (Y := mX4_part) (n := 106) [.inl a2] dX7_of_103 rfl wv_RX7_138 omX4_part rfl (ink ik_4 (by omega)) rfl rfl rfl (Nat.le_of_ble_eq_true rfl) (by decide) (kX4_part (8 * 0 + k1) (by omega) a2 σ τ h2) ?_
            obtain rfl := Option.some.inj h
            exact Vm.iret dX7_of_106 rfl hk.1 hk.2.symm
          · replace h := (if_pos c9).symm.trans h
            refine Vm.aload_n (n := 76) 0 dX7_of_75 rfl rfl ?_
            refine Vm.aload_n (n := 77) 1 dX7_of_76 rfl rfl ?_
            refine Vm.getR (n := 80) dX7_of_77 rfl wf_RX7_12 in_7 rfl (by decide) rfl ?_
            refine Vm.getR (n := 83) dX7_of_80 rfl wf_RX7_106 (ink ik_0 (by decide)) rfl (by decide) rfl ?_
            refine Vm.aload_n (n := 84) 1 dX7_of_83 rfl rfl ?_
            refine Vm.getR (n := 87) dX7_of_84 rfl wf_RX7_12 in_7 rfl (by decide) rfl ?_
            refine Vm.getR (n := 90) dX7_of_87 rfl wf_RX7_109 (ink ik_0 (by decide)) rfl (by decide) rfl ?_
            refine Vm.aload_n (n := 91) 1 dX7_of_90 rfl rfl ?_
            refine Vm.getR (n := 94) dX7_of_91 rfl wf_RX7_12 in_7 rfl (by decide) rfl ?_
            refine Vm.gX (n := 97) dX7_of_94 rfl wf_RX7_75 (ink ik_0 (by decide)) rfl (by decide) rfl (by decide) ?_
            replace h := Option.bind_eq_some_iff.mp h
            obtain ⟨q3, h3, h⟩ := h
            refine Vm.callV (Y := mX4_mostIn) (n := 100) [.inr (.inr (8, 0)), .inr (.inr (9, 0)), .inl (σ.1 0 0 0)] dX7_of_97 rfl wv_RX7_135 omX4_mostIn rfl (ink ik_4 (by omega)) rfl rfl rfl (Nat.le_of_ble_eq_true rfl) (by decide) (kX4_mostIn_8_9 (8 * 0 + k1) (by omega) 0 (by decide) 0 (by decide) (σ.1 0 0 0) σ τ h3) ?_
            obtain rfl := Option.some.inj h
            exact Vm.iret dX7_of_100 rfl hk.1 hk.2.symm
        · replace h := (if_pos c9).symm.trans h
          refine Vm.aload_n (n := 44) 0 dX7_of_43 rfl rfl ?_
          refine Vm.aload_n (n := 45) 1 dX7_of_44 rfl rfl ?_
          refine Vm.getR (n := 48) dX7_of_45 rfl wf_RX7_12 in_7 rfl (by decide) rfl ?_
          refine Vm.getR (n := 51) dX7_of_48 rfl wf_RX7_106 (ink ik_0 (by decide)) rfl (by decide) rfl ?_
          refine Vm.aload_n (n := 52) 1 dX7_of_51 rfl rfl ?_
          refine Vm.getR (n := 55) dX7_of_52 rfl wf_RX7_12 in_7 rfl (by decide) rfl ?_
          refine Vm.getR (n := 58) dX7_of_55 rfl wf_RX7_109 (ink ik_0 (by decide)) rfl (by decide) rfl ?_
          refine Vm.aload_n (n := 59) 1 dX7_of_58 rfl rfl ?_
          refine Vm.getR (n := 62) dX7_of_59 rfl wf_RX7_12 in_7 rfl (by decide) rfl ?_
          refine Vm.gX (n := 65) dX7_of_62 rfl wf_RX7_75 (ink ik_0 (by decide)) rfl (by decide) rfl (by decide) ?_
          replace h := Option.bind_eq_some_iff.mp h
          obtain ⟨q4, h4, h⟩ := h
          refine Vm.callV (Y := mX4_leastIn) (n := 68) [.inr (.inr (8, 0)), .inr (.inr (9, 0)), .inl (σ.1 0 0 0)] dX7_of_65 rfl wv_RX7_131 omX4_leastIn rfl (ink ik_4 (by omega)) rfl rfl rfl (Nat.le_of_ble_eq_true rfl) (by decide) (kX4_leastIn_8_9 (8 * 0 + k1) (by omega) 0 (by decide) 0 (by decide) (σ.1 0 0 0) σ τ h4) ?_
          obtain rfl := Option.some.inj h
          exact Vm.iret dX7_of_68 rfl hk.1 hk.2.symm
      · replace h := (if_neg c9).symm.trans h
        refine Vm.sub (lv' := [(0, .inr (.inr (7, 0)))]) [0] rfl ?_
        exact lX7_of_21 σ τ h hk
theorem kX7_of (a1 : Int32) (a2 : Int32) (σ τ : mm) {q : Int32 × mm} (h : fX7_of a1 a2 σ = some q) : Cx mX7_of 1 [.inr (.inr (7, 0)), .inl a1, .inl a2] (σ, τ) (some (.inl q.1)) (q.2, τ) :=
  Cx.of (lv := [(0, .inr (.inr (7, 0))), (1, .inl a1), (2, .inl a2)]) (by decide) (fun ad => Nat.le_of_ble_eq_true rfl) (fun ad => rfl) (lX7_of_0 a1 a2 σ τ h ⟨rfl, rfl⟩)
-- ThinBodies$Row setPart (II)V
def fX4_setPart_0 (a0 : Nat) (a1 : Int32) (a2 : Int32) (σ : mm) : Option (mm) :=
  if a1.toInt = (0 : Int) then
  Option.bind (some (stI σ 4 a0 0 a2)) fun σ1 =>
  some (σ1)
  else if a1.toInt = (1 : Int) then
  Option.bind (some (stI σ 4 a0 1 a2)) fun σ2 =>
  some (σ2)
  else if a1.toInt = (2 : Int) then
  Option.bind (some (stI σ 4 a0 2 a2)) fun σ3 =>
  some (σ3)
  else 
  if a1 < (3 : Int32) then
  some (σ)
  else
  if (7 : Int32) ≤ a1 then
  some (σ)
  else
  Option.bind (wrI σ 10 a0 4 (a1 - (3 : Int32)) a2) fun σ4 =>
  some (σ4)
def fX4_setPart (a0 : Nat) (a1 : Int32) (a2 : Int32) (σ : mm) : Option (mm) := fX4_setPart_0 a0 a1 a2 σ
set_option maxRecDepth 20000 in
theorem lX4_setPart_0 (a0 : Nat) (ha0 : a0 < 24) (a1 : Int32) (a2 : Int32) (σ τ : mm) {r : Option mv} {M' : mm × mm} {v9 : mm} (h : fX4_setPart_0 a0 a1 a2 σ = some v9) (hk : (fun q : mm => r = none ∧ M' = (q, τ)) v9) : Vm mX4_setPart 0 0 [(0, .inr (.inr (4, a0))), (1, .inl a1), (2, .inl a2)] [] (σ, τ) r M' := by
  unfold fX4_setPart_0 at h
  refine Vm.iload_n (n := 1) 1 dX4_setPart_0 rfl rfl ?_
  by_cases c50 : a1.toInt = (0 : Int)
  · replace h := (if_pos c50).symm.trans h
    refine Vm.tswI (0) 28 dX4_setPart_1 c50 (by decide) rfl rfl ?_
    refine Vm.aload_n (n := 29) 0 dX4_setPart_28 rfl rfl ?_
    refine Vm.iload_n (n := 30) 2 dX4_setPart_29 rfl rfl ?_
    refine Vm.pX (n := 33) (ty := .int) dX4_setPart_30 rfl wf_RX4_9 (ink ik_4 (by omega)) rfl (by decide) rfl (by decide) rfl rfl rfl rfl ?_
    replace h := Option.bind_eq_some_iff.mp h
    obtain ⟨σ1, e1, h⟩ := h
    replace e1 := Option.some.inj e1
    refine Vm.mem (congrArg (fun z => (z, τ)) e1) ?_
    refine Vm.goto 72 dX4_setPart_33 rfl ?_
    obtain rfl := Option.some.inj h
    exact Vm.vret dX4_setPart_72 rfl hk.1 hk.2.symm
  · replace h := (if_neg c50).symm.trans h
    by_cases c51 : a1.toInt = (1 : Int)
    · replace h := (if_pos c51).symm.trans h
      refine Vm.tswI (1) 36 dX4_setPart_1 c51 (by decide) rfl rfl ?_
      refine Vm.aload_n (n := 37) 0 dX4_setPart_36 rfl rfl ?_
      refine Vm.iload_n (n := 38) 2 dX4_setPart_37 rfl rfl ?_
      refine Vm.pX (n := 41) (ty := .int) dX4_setPart_38 rfl wf_RX4_15 (ink ik_4 (by omega)) rfl (by decide) rfl (by decide) rfl rfl rfl rfl ?_
      replace h := Option.bind_eq_some_iff.mp h
      obtain ⟨σ2, e2, h⟩ := h
      replace e2 := Option.some.inj e2
      refine Vm.mem (congrArg (fun z => (z, τ)) e2) ?_
      refine Vm.goto 72 dX4_setPart_41 rfl ?_
      obtain rfl := Option.some.inj h
      exact Vm.vret dX4_setPart_72 rfl hk.1 hk.2.symm
    · replace h := (if_neg c51).symm.trans h
      by_cases c52 : a1.toInt = (2 : Int)
      · replace h := (if_pos c52).symm.trans h
        refine Vm.tswI (2) 44 dX4_setPart_1 c52 (by decide) rfl rfl ?_
        refine Vm.aload_n (n := 45) 0 dX4_setPart_44 rfl rfl ?_
        refine Vm.iload_n (n := 46) 2 dX4_setPart_45 rfl rfl ?_
        refine Vm.pX (n := 49) (ty := .int) dX4_setPart_46 rfl wf_RX4_18 (ink ik_4 (by omega)) rfl (by decide) rfl (by decide) rfl rfl rfl rfl ?_
        replace h := Option.bind_eq_some_iff.mp h
        obtain ⟨σ3, e3, h⟩ := h
        replace e3 := Option.some.inj e3
        refine Vm.mem (congrArg (fun z => (z, τ)) e3) ?_
        refine Vm.goto 72 dX4_setPart_49 rfl ?_
        obtain rfl := Option.some.inj h
        exact Vm.vret dX4_setPart_72 rfl hk.1 hk.2.symm
      · replace h := (if_neg c52).symm.trans h
        refine Vm.tswO 52 dX4_setPart_1 (by omega) rfl ?_
        refine Vm.iload_n (n := 53) 1 dX4_setPart_52 rfl rfl ?_
        refine Vm.iconst (n := 54) (v := (3 : Int32)) dX4_setPart_53 rfl (by decide) ?_
        refine Vm.icmp_lt (n := 57) 72 dX4_setPart_54 rfl rfl (fun c9 => ?_) (fun c9 => ?_)
        · replace h := (if_pos c9).symm.trans h
          obtain rfl := Option.some.inj h
          exact Vm.vret dX4_setPart_72 rfl hk.1 hk.2.symm
        · replace h := (if_neg c9).symm.trans h
          refine Vm.iload_n (n := 58) 1 dX4_setPart_57 rfl rfl ?_
          refine Vm.bipush (n := 60) (v := (7 : Int32)) dX4_setPart_58 rfl (by decide) ?_
          refine Vm.icmp_ge (n := 63) 72 dX4_setPart_60 rfl rfl (fun c9 => ?_) (fun c9 => ?_)
          · replace h := (if_pos c9).symm.trans h
            obtain rfl := Option.some.inj h
            exact Vm.vret dX4_setPart_72 rfl hk.1 hk.2.symm
          · replace h := (if_neg c9).symm.trans h
            refine Vm.aload_n (n := 64) 0 dX4_setPart_63 rfl rfl ?_
            refine Vm.getR (n := 67) dX4_setPart_64 rfl wf_RX4_21 (ink ik_4 (by omega)) rfl (by decide) rfl ?_
            refine Vm.iload_n (n := 68) 1 dX4_setPart_67 rfl rfl ?_
            refine Vm.iconst (n := 69) (v := (3 : Int32)) dX4_setPart_68 rfl (by decide) ?_
            refine Vm.isub (n := 70) dX4_setPart_69 rfl ?_
            refine Vm.iload_n (n := 71) 2 dX4_setPart_70 rfl rfl ?_
            replace h := Option.bind_eq_some_iff.mp h
            obtain ⟨σ4, h4, h⟩ := h
            refine Vm.iastx (n := 72) dX4_setPart_71 rfl (ink ik_10 (by omega)) rfl rfl (by decide) h4 ?_
            obtain rfl := Option.some.inj h
            exact Vm.vret dX4_setPart_72 rfl hk.1 hk.2.symm
theorem kX4_setPart (a0 : Nat) (ha0 : a0 < 24) (a1 : Int32) (a2 : Int32) (σ τ : mm) {q : mm} (h : fX4_setPart a0 a1 a2 σ = some q) : Cx mX4_setPart 0 [.inr (.inr (4, a0)), .inl a1, .inl a2] (σ, τ) (none) (q, τ) :=
  Cx.of (lv := [(0, .inr (.inr (4, a0))), (1, .inl a1), (2, .inl a2)]) (by decide) (fun ad => Nat.le_of_ble_eq_true rfl) (fun ad => rfl) (lX4_setPart_0 a0 ha0 a1 a2 σ τ h ⟨rfl, rfl⟩)
-- ThinBodies change (III)I
def fX7_change_19 (σ : mm) : Option (Int32 × mm) :=
  Option.bind (fX7_finding (0 : Int32) σ) fun q1 =>
  some ((q1.1, q1.2))
def fX7_change_0 (a1 : Int32) (a2 : Int32) (a3 : Int32) (σ : mm) : Option (Int32 × mm) :=
  if (bi (fX0_hasRow 0 a1 σ)) = (0 : Int32) then
  fX7_change_19 σ
  else
  if (bi (fX4_takesPart a2 a3)) = (0 : Int32) then
  fX7_change_19 σ
  else
  Option.bind (rdR 8 a1) fun k1 =>
  Option.bind (fX4_part (8 * 0 + k1) a2 σ) fun q2 =>
  Option.bind (fX4_setPart (8 * 0 + k1) a2 a3 σ) fun q3 =>
  some ((q2, (fX7_bodyChanged q3)))
def fX7_change (a1 : Int32) (a2 : Int32) (a3 : Int32) (σ : mm) : Option (Int32 × mm) := fX7_change_0 a1 a2 a3 σ
set_option maxRecDepth 20000 in
theorem lX7_change_19 (σ τ : mm) {r : Option mv} {M' : mm × mm} {v9 : Int32 × mm} (h : fX7_change_19 σ = some v9) (hk : (fun q : Int32 × mm => r = some (.inl q.1) ∧ M' = (q.2, τ)) v9) : Vm mX7_change 1 19 [(0, .inr (.inr (7, 0)))] [] (σ, τ) r M' := by
  unfold fX7_change_19 at h
  refine Vm.aload_n (n := 20) 0 dX7_change_19 rfl rfl ?_
  refine Vm.iconst (n := 21) (v := (0 : Int32)) dX7_change_20 rfl (by decide) ?_
  replace h := Option.bind_eq_some_iff.mp h
  obtain ⟨q1, h1, h⟩ := h
  refine Vm.callV (Y := mX7_finding) (n := 24) [.inl (0 : Int32)] dX7_change_21 rfl wv_RX7_68 omX7_finding rfl in_7 rfl rfl rfl (Nat.le_of_ble_eq_true rfl) (by decide) (kX7_finding (0 : Int32) σ τ h1) ?_
  obtain rfl := Option.some.inj h
  exact Vm.iret dX7_change_24 rfl hk.1 hk.2.symm
set_option maxRecDepth 20000 in
theorem lX7_change_0 (a1 : Int32) (a2 : Int32) (a3 : Int32) (σ τ : mm) {r : Option mv} {M' : mm × mm} {v9 : Int32 × mm} (h : fX7_change_0 a1 a2 a3 σ = some v9) (hk : (fun q : Int32 × mm => r = some (.inl q.1) ∧ M' = (q.2, τ)) v9) : Vm mX7_change 1 0 [(0, .inr (.inr (7, 0))), (1, .inl a1), (2, .inl a2), (3, .inl a3)] [] (σ, τ) r M' := by
  unfold fX7_change_0 at h
  refine Vm.aload_n (n := 1) 0 dX7_change_0 rfl rfl ?_
  refine Vm.getR (n := 4) dX7_change_1 rfl wf_RX7_12 in_7 rfl (by decide) rfl ?_
  refine Vm.iload_n (n := 5) 1 dX7_change_4 rfl rfl ?_
  refine Vm.callV (Y := mX0_hasRow) (n := 8) [.inl a1] dX7_change_5 rfl wv_RX7_124 omX0_hasRow rfl (ink ik_0 (by decide)) rfl rfl rfl (Nat.le_of_ble_eq_true rfl) (by decide) (kX0_hasRow 0 (by decide) a1 σ τ rfl) ?_
  refine Vm.if_eq (n := 11) 19 dX7_change_8 rfl rfl (fun c9 => ?_) (fun c9 => ?_)
  · replace h := (if_pos c9).symm.trans h
    refine Vm.sub (lv' := [(0, .inr (.inr (7, 0)))]) [0] rfl ?_
    exact lX7_change_19 σ τ h hk
  · replace h := (if_neg c9).symm.trans h
    refine Vm.iload_n (n := 12) 2 dX7_change_11 rfl rfl ?_
    refine Vm.iload_n (n := 13) 3 dX7_change_12 rfl rfl ?_
    refine Vm.callS (Y := mX4_takesPart) (n := 16) [.inl a2, .inl a3] dX7_change_13 rfl wv_RX7_112 omX4_takesPart rfl rfl (Nat.le_of_ble_eq_true rfl) (by decide) (kX4_takesPart a2 a3 rfl) ?_
    refine Vm.if_ne (n := 19) 25 dX7_change_16 rfl rfl (fun c9 => ?_) (fun c9 => ?_)
    · replace h := (if_neg c9).symm.trans h
      refine Vm.aload_n (n := 26) 0 dX7_change_25 rfl rfl ?_
      refine Vm.getR (n := 29) dX7_change_26 rfl wf_RX7_12 in_7 rfl (by decide) rfl ?_
      refine Vm.getR (n := 32) dX7_change_29 rfl wf_RX7_127 (ink ik_0 (by decide)) rfl (by decide) rfl ?_
      refine Vm.iload_n (n := 33) 1 dX7_change_32 rfl rfl ?_
      replace h := Option.bind_eq_some_iff.mp h
      obtain ⟨k1, h1, h⟩ := h
      refine Vm.aald (n := 34) dX7_change_33 rfl (ink ik_27 (by decide)) rfl rfl (by decide) (fun _ => rfl) rfl h1 ?_
      have g1 := rdR_lt h1
      refine Vm.astore (n := 36) (lv' := [(4, .inr (.inr (4, (8 * 0 + k1)))), (0, .inr (.inr (7, 0))), (1, .inl a1), (2, .inl a2), (3, .inl a3)]) dX7_change_34 rfl (Nat.le_of_ble_eq_true rfl) rfl ?_
      refine Vm.aload (n := 38) 0 dX7_change_36 rfl rfl ?_
      refine Vm.iload_n (n := 39) 3 dX7_change_38 rfl rfl ?_
      replace h := Option.bind_eq_some_iff.mp h
      obtain ⟨q2, h2, h⟩ := h
      refine Vm.callV (Y := mX4_part) (n := 42) [.inl a2] dX7_change_39 rfl wv_RX7_138 omX4_part rfl (ink ik_4 (by omega)) rfl rfl rfl (Nat.le_of_ble_eq_true rfl) (by decide) (kX4_part (8 * 0 + k1) (by omega) a2 σ τ h2) ?_
      refine Vm.istore (n := 44) (lv' := [(5, .inl q2), (4, .inr (.inr (4, (8 * 0 + k1)))), (0, .inr (.inr (7, 0))), (1, .inl a1), (2, .inl a2), (3, .inl a3)]) dX7_change_42 rfl (Nat.le_of_ble_eq_true rfl) rfl ?_
      refine Vm.aload (n := 46) 1 dX7_change_44 rfl rfl ?_
      refine Vm.iload_n (n := 47) 4 dX7_change_46 rfl rfl ?_
      refine Vm.iload_n (n := 48) 5 dX7_change_47 rfl rfl ?_
      replace h := Option.bind_eq_some_iff.mp h
      obtain ⟨q3, h3, h⟩ := h
      refine Vm.callVv (Y := mX4_setPart) (n := 51) [.inl a2, .inl a3] dX7_change_48 rfl wv_RX7_141 omX4_setPart rfl (ink ik_4 (by omega)) rfl rfl rfl (Nat.le_of_ble_eq_true rfl) (by decide) (kX4_setPart (8 * 0 + k1) (by omega) a2 a3 σ τ h3) ?_
      refine Vm.aload_n (n := 52) 2 dX7_change_51 rfl rfl ?_
      refine Vm.callVv (Y := mX7_bodyChanged) (n := 55) [] dX7_change_52 rfl wv_RX7_83 omX7_bodyChanged rfl in_7 rfl rfl rfl (Nat.le_of_ble_eq_true rfl) (by decide) (kX7_bodyChanged q3 τ rfl) ?_
      refine Vm.iload (n := 57) 0 dX7_change_55 rfl rfl ?_
      obtain rfl := Option.some.inj h
      exact Vm.iret dX7_change_57 rfl hk.1 hk.2.symm
    · replace h := (if_pos c9).symm.trans h
      refine Vm.sub (lv' := [(0, .inr (.inr (7, 0)))]) [0] rfl ?_
      exact lX7_change_19 σ τ h hk
theorem kX7_change (a1 : Int32) (a2 : Int32) (a3 : Int32) (σ τ : mm) {q : Int32 × mm} (h : fX7_change a1 a2 a3 σ = some q) : Cx mX7_change 1 [.inr (.inr (7, 0)), .inl a1, .inl a2, .inl a3] (σ, τ) (some (.inl q.1)) (q.2, τ) :=
  Cx.of (lv := [(0, .inr (.inr (7, 0))), (1, .inl a1), (2, .inl a2), (3, .inl a3)]) (by decide) (fun ad => Nat.le_of_ble_eq_true rfl) (fun ad => rfl) (lX7_change_0 a1 a2 a3 σ τ h ⟨rfl, rfl⟩)
-- ThinBodies$Row isUnder (II)Z
noncomputable def fX4_isUnder_4 (a1 : Int32) (a2 : Int32) (a3 : Int32) (σ : mm) : Option ((Int32 × Int32) ⊕ (Bool)) :=
  if (6 : Int32) ≤ a3 then
  some (.inr (false))
  else
  if a2 < (0 : Int32) then
  some (.inr (false))
  else
  if (6 : Int32) ≤ a2 then
  some (.inr (false))
  else
  if a2 = a1 then
  some (.inr (true))
  else
  Option.bind (rdU a2) fun x1 =>
  Option.bind (some (a3 + (1 : Int32))) fun x2 =>
  some (.inl (x1, x2))
noncomputable def fX4_isUnder_4_L (a1 : Int32) (σ : mm) : Int32 × Int32 → Option ((Int32 × Int32) ⊕ (Bool)) := fun z => fX4_isUnder_4 a1 z.1 z.2 σ
noncomputable def fX4_isUnder_0 (a0 : Int32) (a1 : Int32) (σ : mm) : Option (Bool) :=
  lp (fX4_isUnder_4_L a1 σ) (a0, (0 : Int32))
noncomputable def fX4_isUnder (a0 : Int32) (a1 : Int32) (σ : mm) : Option (Bool) := fX4_isUnder_0 a0 a1 σ
set_option maxRecDepth 20000 in
theorem lX4_isUnder_4 (a1 : Int32) (a2 : Int32) (a3 : Int32) (σ σ0 τ : mm) (hσ : σ = σ0) {r : Option mv} {M' : mm × mm} {v9 : (Int32 × Int32) ⊕ (Bool)} (h : fX4_isUnder_4 a1 a2 a3 σ = some v9) (hk : (Sum.elim (fun z : Int32 × Int32 => Vm mX4_isUnder 0 4 [(1, .inl a1), (2, .inl z.1), (3, .inl z.2)] [] (σ, τ) r M') (fun q : Bool => r = some (.inl (bi q)) ∧ M' = (σ0, τ))) v9) : Vm mX4_isUnder 0 4 [(1, .inl a1), (2, .inl a2), (3, .inl a3)] [] (σ, τ) r M' := by
  unfold fX4_isUnder_4 at h
  refine Vm.iload_n (n := 5) 2 dX4_isUnder_4 rfl rfl ?_
  refine Vm.bipush (n := 7) (v := (6 : Int32)) dX4_isUnder_5 rfl (by decide) ?_
  refine Vm.icmp_ge (n := 10) 39 dX4_isUnder_7 rfl rfl (fun c9 => ?_) (fun c9 => ?_)
  · replace h := (if_pos c9).symm.trans h
    refine Vm.iconst (n := 40) (v := (0 : Int32)) dX4_isUnder_39 rfl (by decide) ?_
    obtain rfl := Option.some.inj h
    exact Vm.zret (b := false) dX4_isUnder_40 rfl rfl hk.1 (by rw [hσ]; exact hk.2.symm)
  · replace h := (if_neg c9).symm.trans h
    refine Vm.iload_n (n := 11) 1 dX4_isUnder_10 rfl rfl ?_
    refine Vm.if_lt (n := 14) 39 dX4_isUnder_11 rfl rfl (fun c9 => ?_) (fun c9 => ?_)
    · replace h := (if_pos c9).symm.trans h
      refine Vm.iconst (n := 40) (v := (0 : Int32)) dX4_isUnder_39 rfl (by decide) ?_
      obtain rfl := Option.some.inj h
      exact Vm.zret (b := false) dX4_isUnder_40 rfl rfl hk.1 (by rw [hσ]; exact hk.2.symm)
    · replace h := (if_neg c9).symm.trans h
      refine Vm.iload_n (n := 15) 1 dX4_isUnder_14 rfl rfl ?_
      refine Vm.bipush (n := 17) (v := (6 : Int32)) dX4_isUnder_15 rfl (by decide) ?_
      refine Vm.icmp_ge (n := 20) 39 dX4_isUnder_17 rfl rfl (fun c9 => ?_) (fun c9 => ?_)
      · replace h := (if_pos c9).symm.trans h
        refine Vm.iconst (n := 40) (v := (0 : Int32)) dX4_isUnder_39 rfl (by decide) ?_
        obtain rfl := Option.some.inj h
        exact Vm.zret (b := false) dX4_isUnder_40 rfl rfl hk.1 (by rw [hσ]; exact hk.2.symm)
      · replace h := (if_neg c9).symm.trans h
        refine Vm.iload_n (n := 21) 1 dX4_isUnder_20 rfl rfl ?_
        refine Vm.iload_n (n := 22) 0 dX4_isUnder_21 rfl rfl ?_
        refine Vm.icmp_ne (n := 25) 27 dX4_isUnder_22 rfl rfl (fun c9 => ?_) (fun c9 => ?_)
        · replace h := (if_neg c9).symm.trans h
          refine Vm.under (n := 30) dX4_isUnder_27 rfl rfl ?_
          refine Vm.iload_n (n := 31) 1 dX4_isUnder_30 rfl rfl ?_
          replace h := Option.bind_eq_some_iff.mp h
          obtain ⟨x1, h1, h⟩ := h
          refine Vm.ialdU (n := 32) dX4_isUnder_31 rfl h1 ?_
          refine Vm.istore_n (n := 33) (lv' := [(2, .inl x1), (1, .inl a1), (3, .inl a3)]) dX4_isUnder_32 rfl (Nat.le_of_ble_eq_true rfl) rfl ?_
          replace h := Option.bind_eq_some_iff.mp h
          obtain ⟨x2, e2, h⟩ := h
          replace e2 := Option.some.inj e2
          refine Vm.iinc (n := 36) (v := x2) (lv' := [(3, .inl x2), (2, .inl x1), (1, .inl a1)]) 2 dX4_isUnder_33 rfl rfl e2 (Nat.le_of_ble_eq_true rfl) rfl ?_
          refine Vm.goto 4 dX4_isUnder_36 rfl ?_
          refine Vm.sub (lv' := [(1, .inl a1), (2, .inl x1), (3, .inl x2)]) [2, 1, 0] rfl ?_
          obtain rfl := Option.some.inj h
          exact hk
        · replace h := (if_pos c9).symm.trans h
          refine Vm.iconst (n := 26) (v := (1 : Int32)) dX4_isUnder_25 rfl (by decide) ?_
          obtain rfl := Option.some.inj h
          exact Vm.zret (b := true) dX4_isUnder_26 rfl rfl hk.1 (by rw [hσ]; exact hk.2.symm)
theorem lX4_isUnder_4_L (a1 : Int32) (σ σ0 τ : mm) (hσ : σ = σ0) {r : Option mv} {M' : mm × mm} (z : Int32 × Int32) (w9 : Bool) (h : lp (fX4_isUnder_4_L a1 σ) z = some w9) (hk : (fun q : Bool => r = some (.inl (bi q)) ∧ M' = (σ0, τ)) w9) : Vm mX4_isUnder 0 4 [(1, .inl a1), (2, .inl z.1), (3, .inl z.2)] [] (σ, τ) r M' :=
  lp_link (S := Int32 × Int32) (R := Bool) (body := fX4_isUnder_4_L a1 σ) (A := fun z : Int32 × Int32 => Vm mX4_isUnder 0 4 [(1, .inl a1), (2, .inl z.1), (3, .inl z.2)] [] (σ, τ) r M') (B := fun w : Bool => (fun q : Bool => r = some (.inl (bi q)) ∧ M' = (σ0, τ)) w) (fun z v hb hv => lX4_isUnder_4 a1 z.1 z.2 σ σ0 τ hσ hb hv) z w9 h hk
set_option maxRecDepth 20000 in
theorem lX4_isUnder_0 (a0 : Int32) (a1 : Int32) (σ σ0 τ : mm) (hσ : σ = σ0) {r : Option mv} {M' : mm × mm} {v9 : Bool} (h : fX4_isUnder_0 a0 a1 σ = some v9) (hk : (fun q : Bool => r = some (.inl (bi q)) ∧ M' = (σ0, τ)) v9) : Vm mX4_isUnder 0 0 [(0, .inl a0), (1, .inl a1)] [] (σ, τ) r M' := by
  unfold fX4_isUnder_0 at h
  refine Vm.iload_n (n := 1) 0 dX4_isUnder_0 rfl rfl ?_
  refine Vm.istore_n (n := 2) (lv' := [(2, .inl a0), (0, .inl a0), (1, .inl a1)]) dX4_isUnder_1 rfl (Nat.le_of_ble_eq_true rfl) rfl ?_
  refine Vm.iconst (n := 3) (v := (0 : Int32)) dX4_isUnder_2 rfl (by decide) ?_
  refine Vm.istore_n (n := 4) (lv' := [(3, .inl (0 : Int32)), (2, .inl a0), (0, .inl a0), (1, .inl a1)]) dX4_isUnder_3 rfl (Nat.le_of_ble_eq_true rfl) rfl ?_
  refine Vm.sub (lv' := [(1, .inl a1), (2, .inl a0), (3, .inl (0 : Int32))]) [3, 1, 0] rfl ?_
  exact lX4_isUnder_4_L a1 σ σ0 τ hσ (a0, (0 : Int32)) _ h hk
theorem kX4_isUnder (a0 : Int32) (a1 : Int32) (σ τ : mm) {q : Bool} (h : fX4_isUnder a0 a1 σ = some q) : Cx mX4_isUnder 0 [.inl a0, .inl a1] (σ, τ) (some (.inl (bi q))) (σ, τ) :=
  Cx.of (lv := [(0, .inl a0), (1, .inl a1)]) (by decide) (fun ad => Nat.le_of_ble_eq_true rfl) (fun ad => rfl) (lX4_isUnder_0 a0 a1 σ σ τ rfl h ⟨rfl, rfl⟩)
-- ThinBodies as (II)I
noncomputable def fX7_as_21 (σ : mm) : Option (Int32 × mm) :=
  Option.bind (fX7_finding (0 : Int32) σ) fun q1 =>
  some ((q1.1, q1.2))
noncomputable def fX7_as_0 (a1 : Int32) (a2 : Int32) (σ : mm) : Option (Int32 × mm) :=
  if (bi (fX0_hasRow 0 a1 σ)) = (0 : Int32) then
  fX7_as_21 σ
  else
  if a2 < (0 : Int32) then
  fX7_as_21 σ
  else
  if a2 < (6 : Int32) then
  Option.bind (rdR 8 a1) fun k1 =>
  Option.bind (fX4_isUnder (σ.1 4 (8 * 0 + k1) 0) a2 σ) fun q2 =>
  if (bi q2) = (0 : Int32) then
  Option.bind (fX7_finding (2 : Int32) σ) fun q3 =>
  some ((q3.1, q3.2))
  else
  some ((σ.1 4 (8 * 0 + k1) 1, σ))
  else
  fX7_as_21 σ
noncomputable def fX7_as (a1 : Int32) (a2 : Int32) (σ : mm) : Option (Int32 × mm) := fX7_as_0 a1 a2 σ
set_option maxRecDepth 20000 in
theorem lX7_as_21 (σ τ : mm) {r : Option mv} {M' : mm × mm} {v9 : Int32 × mm} (h : fX7_as_21 σ = some v9) (hk : (fun q : Int32 × mm => r = some (.inl q.1) ∧ M' = (q.2, τ)) v9) : Vm mX7_as 1 21 [(0, .inr (.inr (7, 0)))] [] (σ, τ) r M' := by
  unfold fX7_as_21 at h
  refine Vm.aload_n (n := 22) 0 dX7_as_21 rfl rfl ?_
  refine Vm.iconst (n := 23) (v := (0 : Int32)) dX7_as_22 rfl (by decide) ?_
  replace h := Option.bind_eq_some_iff.mp h
  obtain ⟨q1, h1, h⟩ := h
  refine Vm.callV (Y := mX7_finding) (n := 26) [.inl (0 : Int32)] dX7_as_23 rfl wv_RX7_68 omX7_finding rfl in_7 rfl rfl rfl (Nat.le_of_ble_eq_true rfl) (by decide) (kX7_finding (0 : Int32) σ τ h1) ?_
  obtain rfl := Option.some.inj h
  exact Vm.iret dX7_as_26 rfl hk.1 hk.2.symm
set_option maxRecDepth 20000 in
theorem lX7_as_0 (a1 : Int32) (a2 : Int32) (σ τ : mm) {r : Option mv} {M' : mm × mm} {v9 : Int32 × mm} (h : fX7_as_0 a1 a2 σ = some v9) (hk : (fun q : Int32 × mm => r = some (.inl q.1) ∧ M' = (q.2, τ)) v9) : Vm mX7_as 1 0 [(0, .inr (.inr (7, 0))), (1, .inl a1), (2, .inl a2)] [] (σ, τ) r M' := by
  unfold fX7_as_0 at h
  refine Vm.aload_n (n := 1) 0 dX7_as_0 rfl rfl ?_
  refine Vm.getR (n := 4) dX7_as_1 rfl wf_RX7_12 in_7 rfl (by decide) rfl ?_
  refine Vm.iload_n (n := 5) 1 dX7_as_4 rfl rfl ?_
  refine Vm.callV (Y := mX0_hasRow) (n := 8) [.inl a1] dX7_as_5 rfl wv_RX7_124 omX0_hasRow rfl (ink ik_0 (by decide)) rfl rfl rfl (Nat.le_of_ble_eq_true rfl) (by decide) (kX0_hasRow 0 (by decide) a1 σ τ rfl) ?_
  refine Vm.if_eq (n := 11) 21 dX7_as_8 rfl rfl (fun c9 => ?_) (fun c9 => ?_)
  · replace h := (if_pos c9).symm.trans h
    refine Vm.sub (lv' := [(0, .inr (.inr (7, 0)))]) [0] rfl ?_
    exact lX7_as_21 σ τ h hk
  · replace h := (if_neg c9).symm.trans h
    refine Vm.iload_n (n := 12) 2 dX7_as_11 rfl rfl ?_
    refine Vm.if_lt (n := 15) 21 dX7_as_12 rfl rfl (fun c9 => ?_) (fun c9 => ?_)
    · replace h := (if_pos c9).symm.trans h
      refine Vm.sub (lv' := [(0, .inr (.inr (7, 0)))]) [0] rfl ?_
      exact lX7_as_21 σ τ h hk
    · replace h := (if_neg c9).symm.trans h
      refine Vm.iload_n (n := 16) 2 dX7_as_15 rfl rfl ?_
      refine Vm.bipush (n := 18) (v := (6 : Int32)) dX7_as_16 rfl (by decide) ?_
      refine Vm.icmp_lt (n := 21) 27 dX7_as_18 rfl rfl (fun c9 => ?_) (fun c9 => ?_)
      · replace h := (if_pos c9).symm.trans h
        refine Vm.aload_n (n := 28) 0 dX7_as_27 rfl rfl ?_
        refine Vm.getR (n := 31) dX7_as_28 rfl wf_RX7_12 in_7 rfl (by decide) rfl ?_
        refine Vm.getR (n := 34) dX7_as_31 rfl wf_RX7_127 (ink ik_0 (by decide)) rfl (by decide) rfl ?_
        refine Vm.iload_n (n := 35) 1 dX7_as_34 rfl rfl ?_
        replace h := Option.bind_eq_some_iff.mp h
        obtain ⟨k1, h1, h⟩ := h
        refine Vm.aald (n := 36) dX7_as_35 rfl (ink ik_27 (by decide)) rfl rfl (by decide) (fun _ => rfl) rfl h1 ?_
        have g1 := rdR_lt h1
        refine Vm.astore_n (n := 37) (lv' := [(3, .inr (.inr (4, (8 * 0 + k1)))), (0, .inr (.inr (7, 0))), (1, .inl a1), (2, .inl a2)]) dX7_as_36 rfl (Nat.le_of_ble_eq_true rfl) rfl ?_
        refine Vm.aload_n (n := 38) 0 dX7_as_37 rfl rfl ?_
        refine Vm.gX (n := 41) dX7_as_38 rfl wf_RX7_145 (ink ik_4 (by omega)) rfl (by decide) rfl (by decide) ?_
        refine Vm.iload_n (n := 42) 3 dX7_as_41 rfl rfl ?_
        replace h := Option.bind_eq_some_iff.mp h
        obtain ⟨q2, h2, h⟩ := h
        refine Vm.callS (Y := mX4_isUnder) (n := 45) [.inl (σ.1 4 (8 * 0 + k1) 0), .inl a2] dX7_as_42 rfl wv_RX7_148 omX4_isUnder rfl rfl (Nat.le_of_ble_eq_true rfl) (by decide) (kX4_isUnder (σ.1 4 (8 * 0 + k1) 0) a2 σ τ h2) ?_
        refine Vm.if_ne (n := 48) 54 dX7_as_45 rfl rfl (fun c9 => ?_) (fun c9 => ?_)
        · replace h := (if_neg c9).symm.trans h
          refine Vm.aload_n (n := 55) 0 dX7_as_54 rfl rfl ?_
          refine Vm.gX (n := 58) dX7_as_55 rfl wf_RX7_151 (ink ik_4 (by omega)) rfl (by decide) rfl (by decide) ?_
          obtain rfl := Option.some.inj h
          exact Vm.iret dX7_as_58 rfl hk.1 hk.2.symm
        · replace h := (if_pos c9).symm.trans h
          refine Vm.aload_n (n := 49) 1 dX7_as_48 rfl rfl ?_
          refine Vm.iconst (n := 50) (v := (2 : Int32)) dX7_as_49 rfl (by decide) ?_
          replace h := Option.bind_eq_some_iff.mp h
          obtain ⟨q3, h3, h⟩ := h
          refine Vm.callV (Y := mX7_finding) (n := 53) [.inl (2 : Int32)] dX7_as_50 rfl wv_RX7_68 omX7_finding rfl in_7 rfl rfl rfl (Nat.le_of_ble_eq_true rfl) (by decide) (kX7_finding (2 : Int32) σ τ h3) ?_
          obtain rfl := Option.some.inj h
          exact Vm.iret dX7_as_53 rfl hk.1 hk.2.symm
      · replace h := (if_neg c9).symm.trans h
        refine Vm.sub (lv' := [(0, .inr (.inr (7, 0)))]) [0] rfl ?_
        exact lX7_as_21 σ τ h hk
theorem kX7_as (a1 : Int32) (a2 : Int32) (σ τ : mm) {q : Int32 × mm} (h : fX7_as a1 a2 σ = some q) : Cx mX7_as 1 [.inr (.inr (7, 0)), .inl a1, .inl a2] (σ, τ) (some (.inl q.1)) (q.2, τ) :=
  Cx.of (lv := [(0, .inr (.inr (7, 0))), (1, .inl a1), (2, .inl a2)]) (by decide) (fun ad => Nat.le_of_ble_eq_true rfl) (fun ad => rfl) (lX7_as_0 a1 a2 σ τ h ⟨rfl, rfl⟩)
-- ThinBodies drop ()I
def fX7_drop_0 (σ : mm) : Option (Int32 × mm) :=
  if (σ.1 0 0 4) = (0 : Int32) then
  Option.bind (fX7_finding (3 : Int32) σ) fun q3 =>
  some ((q3.1, q3.2))
  else
  Option.bind (some ((σ.1 0 0 4) - (1 : Int32))) fun x1 =>
  Option.bind (some (stI σ 0 0 4 x1)) fun σ2 =>
  some (((fX7_bodyChanged σ2).1 0 0 4, (fX7_bodyChanged σ2)))
def fX7_drop (σ : mm) : Option (Int32 × mm) := fX7_drop_0 σ
set_option maxRecDepth 20000 in
theorem lX7_drop_0 (σ τ : mm) {r : Option mv} {M' : mm × mm} {v9 : Int32 × mm} (h : fX7_drop_0 σ = some v9) (hk : (fun q : Int32 × mm => r = some (.inl q.1) ∧ M' = (q.2, τ)) v9) : Vm mX7_drop 1 0 [(0, .inr (.inr (7, 0)))] [] (σ, τ) r M' := by
  unfold fX7_drop_0 at h
  refine Vm.aload_n (n := 1) 0 dX7_drop_0 rfl rfl ?_
  refine Vm.getR (n := 4) dX7_drop_1 rfl wf_RX7_12 in_7 rfl (by decide) rfl ?_
  refine Vm.gX (n := 7) dX7_drop_4 rfl wf_RX7_117 (ink ik_0 (by decide)) rfl (by decide) rfl (by decide) ?_
  refine Vm.if_ne (n := 10) 16 dX7_drop_7 rfl rfl (fun c9 => ?_) (fun c9 => ?_)
  · replace h := (if_neg c9).symm.trans h
    refine Vm.aload_n (n := 17) 0 dX7_drop_16 rfl rfl ?_
    refine Vm.getR (n := 20) dX7_drop_17 rfl wf_RX7_12 in_7 rfl (by decide) rfl ?_
    refine Vm.dup (n := 21) dX7_drop_20 rfl rfl ?_
    refine Vm.gX (n := 24) dX7_drop_21 rfl wf_RX7_117 (ink ik_0 (by decide)) rfl (by decide) rfl (by decide) ?_
    refine Vm.iconst (n := 25) (v := (1 : Int32)) dX7_drop_24 rfl (by decide) ?_
    refine Vm.isub (n := 26) dX7_drop_25 rfl ?_
    replace h := Option.bind_eq_some_iff.mp h
    obtain ⟨x1, e1, h⟩ := h
    replace e1 := Option.some.inj e1
    refine Vm.top e1 ?_
    refine Vm.pX (n := 29) (ty := .int) dX7_drop_26 rfl wf_RX7_117 (ink ik_0 (by decide)) rfl (by decide) rfl (by decide) rfl rfl rfl rfl ?_
    replace h := Option.bind_eq_some_iff.mp h
    obtain ⟨σ2, e2, h⟩ := h
    replace e2 := Option.some.inj e2
    refine Vm.mem (congrArg (fun z => (z, τ)) e2) ?_
    refine Vm.aload_n (n := 30) 0 dX7_drop_29 rfl rfl ?_
    refine Vm.callVv (Y := mX7_bodyChanged) (n := 33) [] dX7_drop_30 rfl wv_RX7_83 omX7_bodyChanged rfl in_7 rfl rfl rfl (Nat.le_of_ble_eq_true rfl) (by decide) (kX7_bodyChanged σ2 τ rfl) ?_
    refine Vm.aload_n (n := 34) 0 dX7_drop_33 rfl rfl ?_
    refine Vm.getR (n := 37) dX7_drop_34 rfl wf_RX7_12 in_7 rfl (by decide) rfl ?_
    refine Vm.gX (n := 40) dX7_drop_37 rfl wf_RX7_117 (ink ik_0 (by decide)) rfl (by decide) rfl (by decide) ?_
    obtain rfl := Option.some.inj h
    exact Vm.iret dX7_drop_40 rfl hk.1 hk.2.symm
  · replace h := (if_pos c9).symm.trans h
    refine Vm.aload_n (n := 11) 0 dX7_drop_10 rfl rfl ?_
    refine Vm.iconst (n := 12) (v := (3 : Int32)) dX7_drop_11 rfl (by decide) ?_
    replace h := Option.bind_eq_some_iff.mp h
    obtain ⟨q3, h3, h⟩ := h
    refine Vm.callV (Y := mX7_finding) (n := 15) [.inl (3 : Int32)] dX7_drop_12 rfl wv_RX7_68 omX7_finding rfl in_7 rfl rfl rfl (Nat.le_of_ble_eq_true rfl) (by decide) (kX7_finding (3 : Int32) σ τ h3) ?_
    obtain rfl := Option.some.inj h
    exact Vm.iret dX7_drop_15 rfl hk.1 hk.2.symm
theorem kX7_drop (σ τ : mm) {q : Int32 × mm} (h : fX7_drop σ = some q) : Cx mX7_drop 1 [.inr (.inr (7, 0))] (σ, τ) (some (.inl q.1)) (q.2, τ) :=
  Cx.of (lv := [(0, .inr (.inr (7, 0)))]) (by decide) (fun ad => Nat.le_of_ble_eq_true rfl) (fun ad => rfl) (lX7_drop_0 σ τ h ⟨rfl, rfl⟩)
