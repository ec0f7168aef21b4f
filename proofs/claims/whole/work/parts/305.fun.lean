-- ThinBodies shortest (I)I
noncomputable def fX7_shortest_22 (a1 : Int32) (σ : mm) : Option (Int32 × mm) :=
  Option.bind (fX2_makeForm 0 σ) fun q1 =>
  if q1.1 = (0 : Int32) then
  Option.bind (fX7_finding (3 : Int32) q1.2) fun q4 =>
  some ((q4.1, q4.2))
  else
  Option.bind (fX2_findShort 0 q1.2) fun q2 =>
  if a1 = (-1 : Int32) then
  some ((q2.1 2 0 2, q2))
  else
  Option.bind (rdI q2 17 0 4 a1) fun x3 =>
  some ((x3, q2))
noncomputable def fX7_shortest_0 (a1 : Int32) (σ : mm) : Option (Int32 × mm) :=
  if a1 = (-1 : Int32) then
  fX7_shortest_22 a1 σ
  else
  if (bi (fX0_hasLetter 0 a1 σ)) = (0 : Int32) then
  Option.bind (fX7_finding (0 : Int32) σ) fun q1 =>
  some ((q1.1, q1.2))
  else
  fX7_shortest_22 a1 σ
noncomputable def fX7_shortest (a1 : Int32) (σ : mm) : Option (Int32 × mm) := fX7_shortest_0 a1 σ
set_option maxRecDepth 20000 in
theorem lX7_shortest_22 (a1 : Int32) (σ τ : mm) {r : Option mv} {M' : mm × mm} {v9 : Int32 × mm} (h : fX7_shortest_22 a1 σ = some v9) (hk : (fun q : Int32 × mm => r = some (.inl q.1) ∧ M' = (q.2, τ)) v9) : Vm mX7_shortest 9 22 [(0, .inr (.inr (7, 0))), (1, .inl a1)] [] (σ, τ) r M' := by
  unfold fX7_shortest_22 at h
  refine Vm.aload_n (n := 23) 0 dX7_shortest_22 rfl rfl ?_
  refine Vm.getR (n := 26) dX7_shortest_23 rfl wf_RX7_43 in_7 rfl (by decide) rfl ?_
  refine Vm.aload_n (n := 27) 0 dX7_shortest_26 rfl rfl ?_
  refine Vm.getR (n := 30) dX7_shortest_27 rfl wf_RX7_12 in_7 rfl (by decide) rfl ?_
  replace h := Option.bind_eq_some_iff.mp h
  obtain ⟨q1, h1, h⟩ := h
  refine Vm.callV (Y := mX2_makeForm) (n := 33) [.inr (.inr (0, 0))] dX7_shortest_30 rfl wv_RX7_297 omX2_makeForm rfl in_2 rfl rfl rfl (Nat.le_of_ble_eq_true rfl) (by decide) (kX2_makeForm 0 (by decide) σ τ h1) ?_
  refine Vm.if_ne (n := 36) 42 dX7_shortest_33 rfl rfl (fun c9 => ?_) (fun c9 => ?_)
  · replace h := (if_neg c9).symm.trans h
    refine Vm.aload_n (n := 43) 0 dX7_shortest_42 rfl rfl ?_
    refine Vm.getR (n := 46) dX7_shortest_43 rfl wf_RX7_43 in_7 rfl (by decide) rfl ?_
    refine Vm.aload_n (n := 47) 0 dX7_shortest_46 rfl rfl ?_
    refine Vm.getR (n := 50) dX7_shortest_47 rfl wf_RX7_12 in_7 rfl (by decide) rfl ?_
    replace h := Option.bind_eq_some_iff.mp h
    obtain ⟨q2, h2, h⟩ := h
    refine Vm.callVv (Y := mX2_findShort) (n := 53) [.inr (.inr (0, 0))] dX7_shortest_50 rfl wv_RX7_304 omX2_findShort rfl in_2 rfl rfl rfl (Nat.le_of_ble_eq_true rfl) (by decide) (kX2_findShort 0 (by decide) q1.2 τ h2) ?_
    refine Vm.iload_n (n := 54) 1 dX7_shortest_53 rfl rfl ?_
    refine Vm.iconst (n := 55) (v := (-1 : Int32)) dX7_shortest_54 rfl (by decide) ?_
    refine Vm.icmp_ne (n := 58) 68 dX7_shortest_55 rfl rfl (fun c9 => ?_) (fun c9 => ?_)
    · replace h := (if_neg c9).symm.trans h
      refine Vm.aload_n (n := 69) 0 dX7_shortest_68 rfl rfl ?_
      refine Vm.getR (n := 72) dX7_shortest_69 rfl wf_RX7_43 in_7 rfl (by decide) rfl ?_
      refine Vm.getR (n := 75) dX7_shortest_72 rfl wf_RX7_310 in_2 rfl (by decide) rfl ?_
      refine Vm.iload_n (n := 76) 1 dX7_shortest_75 rfl rfl ?_
      replace h := Option.bind_eq_some_iff.mp h
      obtain ⟨x3, h3, h⟩ := h
      refine Vm.ialdx (n := 77) dX7_shortest_76 rfl in_17 rfl rfl (by decide) h3 ?_
      obtain rfl := Option.some.inj h
      exact Vm.iret dX7_shortest_77 rfl hk.1 hk.2.symm
    · replace h := (if_pos c9).symm.trans h
      refine Vm.aload_n (n := 59) 0 dX7_shortest_58 rfl rfl ?_
      refine Vm.getR (n := 62) dX7_shortest_59 rfl wf_RX7_43 in_7 rfl (by decide) rfl ?_
      refine Vm.gX (n := 65) dX7_shortest_62 rfl wf_RX7_307 in_2 rfl (by decide) rfl (by decide) ?_
      refine Vm.goto 77 dX7_shortest_65 rfl ?_
      obtain rfl := Option.some.inj h
      exact Vm.iret dX7_shortest_77 rfl hk.1 hk.2.symm
  · replace h := (if_pos c9).symm.trans h
    refine Vm.aload_n (n := 37) 0 dX7_shortest_36 rfl rfl ?_
    refine Vm.iconst (n := 38) (v := (3 : Int32)) dX7_shortest_37 rfl (by decide) ?_
    replace h := Option.bind_eq_some_iff.mp h
    obtain ⟨q4, h4, h⟩ := h
    refine Vm.callV (Y := mX7_finding) (n := 41) [.inl (3 : Int32)] dX7_shortest_38 rfl wv_RX7_68 omX7_finding rfl in_7 rfl rfl rfl (Nat.le_of_ble_eq_true rfl) (by decide) (kX7_finding (3 : Int32) q1.2 τ h4) ?_
    obtain rfl := Option.some.inj h
    exact Vm.iret dX7_shortest_41 rfl hk.1 hk.2.symm
set_option maxRecDepth 20000 in
theorem lX7_shortest_0 (a1 : Int32) (σ τ : mm) {r : Option mv} {M' : mm × mm} {v9 : Int32 × mm} (h : fX7_shortest_0 a1 σ = some v9) (hk : (fun q : Int32 × mm => r = some (.inl q.1) ∧ M' = (q.2, τ)) v9) : Vm mX7_shortest 9 0 [(0, .inr (.inr (7, 0))), (1, .inl a1)] [] (σ, τ) r M' := by
  unfold fX7_shortest_0 at h
  refine Vm.iload_n (n := 1) 1 dX7_shortest_0 rfl rfl ?_
  refine Vm.iconst (n := 2) (v := (-1 : Int32)) dX7_shortest_1 rfl (by decide) ?_
  refine Vm.icmp_eq (n := 5) 22 dX7_shortest_2 rfl rfl (fun c9 => ?_) (fun c9 => ?_)
  · replace h := (if_pos c9).symm.trans h
    exact lX7_shortest_22 a1 σ τ h hk
  · replace h := (if_neg c9).symm.trans h
    refine Vm.aload_n (n := 6) 0 dX7_shortest_5 rfl rfl ?_
    refine Vm.getR (n := 9) dX7_shortest_6 rfl wf_RX7_12 in_7 rfl (by decide) rfl ?_
    refine Vm.iload_n (n := 10) 1 dX7_shortest_9 rfl rfl ?_
    refine Vm.callV (Y := mX0_hasLetter) (n := 13) [.inl a1] dX7_shortest_10 rfl wv_RX7_86 omX0_hasLetter rfl (ink ik_0 (by decide)) rfl rfl rfl (Nat.le_of_ble_eq_true rfl) (by decide) (kX0_hasLetter 0 (by decide) a1 σ τ rfl) ?_
    refine Vm.if_ne (n := 16) 22 dX7_shortest_13 rfl rfl (fun c9 => ?_) (fun c9 => ?_)
    · replace h := (if_neg c9).symm.trans h
      exact lX7_shortest_22 a1 σ τ h hk
    · replace h := (if_pos c9).symm.trans h
      refine Vm.aload_n (n := 17) 0 dX7_shortest_16 rfl rfl ?_
      refine Vm.iconst (n := 18) (v := (0 : Int32)) dX7_shortest_17 rfl (by decide) ?_
      replace h := Option.bind_eq_some_iff.mp h
      obtain ⟨q1, h1, h⟩ := h
      refine Vm.callV (Y := mX7_finding) (n := 21) [.inl (0 : Int32)] dX7_shortest_18 rfl wv_RX7_68 omX7_finding rfl in_7 rfl rfl rfl (Nat.le_of_ble_eq_true rfl) (by decide) (kX7_finding (0 : Int32) σ τ h1) ?_
      obtain rfl := Option.some.inj h
      exact Vm.iret dX7_shortest_21 rfl hk.1 hk.2.symm
theorem kX7_shortest (a1 : Int32) (σ τ : mm) {q : Int32 × mm} (h : fX7_shortest a1 σ = some q) : Cx mX7_shortest 9 [.inr (.inr (7, 0)), .inl a1] (σ, τ) (some (.inl q.1)) (q.2, τ) :=
  Cx.of (lv := [(0, .inr (.inr (7, 0))), (1, .inl a1)]) (by decide) (fun ad => Nat.le_of_ble_eq_true rfl) (fun ad => rfl) (lX7_shortest_0 a1 σ τ h ⟨rfl, rfl⟩)
-- ThinBodies$Cloud readInto (I[II)V
noncomputable def fX1_readInto_3 (a1 : Int32) (a3 : Int32) (a4 : Int32) (σ : mm) : Option ((Int32 × mm) ⊕ (mm)) :=
  if a3 ≤ a4 then
  some (.inr (σ))
  else
  Option.bind (fX1_letterAt a1 a4 σ) fun q1 =>
  Option.bind (wrI σ 20 0 4 a4 q1) fun σ2 =>
  Option.bind (some (a4 + (1 : Int32))) fun x3 =>
  some (.inl (x3, σ2))
noncomputable def fX1_readInto_3_L (a1 : Int32) (a3 : Int32) : Int32 × mm → Option ((Int32 × mm) ⊕ (mm)) := fun z => fX1_readInto_3 a1 a3 z.1 z.2
noncomputable def fX1_readInto_0 (a1 : Int32) (a3 : Int32) (σ : mm) : Option (mm) :=
  lp (fX1_readInto_3_L a1 a3) ((0 : Int32), σ)
noncomputable def fX1_readInto (a1 : Int32) (a3 : Int32) (σ : mm) : Option (mm) := fX1_readInto_0 a1 a3 σ
set_option maxRecDepth 20000 in
theorem lX1_readInto_3 (a1 : Int32) (a3 : Int32) (a4 : Int32) (σ τ : mm) {r : Option mv} {M' : mm × mm} {v9 : (Int32 × mm) ⊕ (mm)} (h : fX1_readInto_3 a1 a3 a4 σ = some v9) (hk : (Sum.elim (fun z : Int32 × mm => Vm mX1_readInto 2 3 [(0, .inr (.inr (1, 0))), (1, .inl a1), (2, .inr (.inr (20, 0))), (3, .inl a3), (4, .inl z.1)] [] (z.2, τ) r M') (fun q : mm => r = none ∧ M' = (q, τ))) v9) : Vm mX1_readInto 2 3 [(0, .inr (.inr (1, 0))), (1, .inl a1), (2, .inr (.inr (20, 0))), (3, .inl a3), (4, .inl a4)] [] (σ, τ) r M' := by
  unfold fX1_readInto_3 at h
  refine Vm.iload (n := 5) 4 dX1_readInto_3 rfl rfl ?_
  refine Vm.iload_n (n := 6) 3 dX1_readInto_5 rfl rfl ?_
  refine Vm.icmp_ge (n := 9) 26 dX1_readInto_6 rfl rfl (fun c9 => ?_) (fun c9 => ?_)
  · replace h := (if_pos c9).symm.trans h
    obtain rfl := Option.some.inj h
    exact Vm.vret dX1_readInto_26 rfl hk.1 hk.2.symm
  · replace h := (if_neg c9).symm.trans h
    refine Vm.aload_n (n := 10) 2 dX1_readInto_9 rfl rfl ?_
    refine Vm.iload (n := 12) 4 dX1_readInto_10 rfl rfl ?_
    refine Vm.aload_n (n := 13) 0 dX1_readInto_12 rfl rfl ?_
    refine Vm.iload_n (n := 14) 1 dX1_readInto_13 rfl rfl ?_
    refine Vm.iload (n := 16) 4 dX1_readInto_14 rfl rfl ?_
    replace h := Option.bind_eq_some_iff.mp h
    obtain ⟨q1, h1, h⟩ := h
    refine Vm.callV (Y := mX1_letterAt) (n := 19) [.inl a1, .inl a4] dX1_readInto_16 rfl wv_RX1_93 omX1_letterAt rfl in_1 rfl rfl rfl (Nat.le_of_ble_eq_true rfl) (by decide) (kX1_letterAt a1 a4 σ τ h1) ?_
    replace h := Option.bind_eq_some_iff.mp h
    obtain ⟨σ2, h2, h⟩ := h
    refine Vm.iastx (n := 20) dX1_readInto_19 rfl in_20 rfl rfl (by decide) h2 ?_
    replace h := Option.bind_eq_some_iff.mp h
    obtain ⟨x3, e3, h⟩ := h
    replace e3 := Option.some.inj e3
    refine Vm.iinc (n := 23) (v := x3) (lv' := [(4, .inl x3), (0, .inr (.inr (1, 0))), (1, .inl a1), (2, .inr (.inr (20, 0))), (3, .inl a3)]) 4 dX1_readInto_20 rfl rfl e3 (Nat.le_of_ble_eq_true rfl) rfl ?_
    refine Vm.goto 3 dX1_readInto_23 rfl ?_
    refine Vm.sub (lv' := [(0, .inr (.inr (1, 0))), (1, .inl a1), (2, .inr (.inr (20, 0))), (3, .inl a3), (4, .inl x3)]) [1, 2, 3, 4, 0] rfl ?_
    obtain rfl := Option.some.inj h
    exact hk
theorem lX1_readInto_3_L (a1 : Int32) (a3 : Int32) (τ : mm) {r : Option mv} {M' : mm × mm} (z : Int32 × mm) (w9 : mm) (h : lp (fX1_readInto_3_L a1 a3) z = some w9) (hk : (fun q : mm => r = none ∧ M' = (q, τ)) w9) : Vm mX1_readInto 2 3 [(0, .inr (.inr (1, 0))), (1, .inl a1), (2, .inr (.inr (20, 0))), (3, .inl a3), (4, .inl z.1)] [] (z.2, τ) r M' :=
  lp_link (S := Int32 × mm) (R := mm) (body := fX1_readInto_3_L a1 a3) (A := fun z : Int32 × mm => Vm mX1_readInto 2 3 [(0, .inr (.inr (1, 0))), (1, .inl a1), (2, .inr (.inr (20, 0))), (3, .inl a3), (4, .inl z.1)] [] (z.2, τ) r M') (B := fun w : mm => (fun q : mm => r = none ∧ M' = (q, τ)) w) (fun z v hb hv => lX1_readInto_3 a1 a3 z.1 z.2 τ hb hv) z w9 h hk
set_option maxRecDepth 20000 in
theorem lX1_readInto_0 (a1 : Int32) (a3 : Int32) (σ τ : mm) {r : Option mv} {M' : mm × mm} {v9 : mm} (h : fX1_readInto_0 a1 a3 σ = some v9) (hk : (fun q : mm => r = none ∧ M' = (q, τ)) v9) : Vm mX1_readInto 2 0 [(0, .inr (.inr (1, 0))), (1, .inl a1), (2, .inr (.inr (20, 0))), (3, .inl a3)] [] (σ, τ) r M' := by
  unfold fX1_readInto_0 at h
  refine Vm.iconst (n := 1) (v := (0 : Int32)) dX1_readInto_0 rfl (by decide) ?_
  refine Vm.istore (n := 3) (lv' := [(4, .inl (0 : Int32)), (0, .inr (.inr (1, 0))), (1, .inl a1), (2, .inr (.inr (20, 0))), (3, .inl a3)]) dX1_readInto_1 rfl (Nat.le_of_ble_eq_true rfl) rfl ?_
  refine Vm.sub (lv' := [(0, .inr (.inr (1, 0))), (1, .inl a1), (2, .inr (.inr (20, 0))), (3, .inl a3), (4, .inl (0 : Int32))]) [1, 2, 3, 4, 0] rfl ?_
  exact lX1_readInto_3_L a1 a3 τ ((0 : Int32), σ) _ h hk
theorem kX1_readInto (a1 : Int32) (a3 : Int32) (σ τ : mm) {q : mm} (h : fX1_readInto a1 a3 σ = some q) : Cx mX1_readInto 2 [.inr (.inr (1, 0)), .inl a1, .inr (.inr (20, 0)), .inl a3] (σ, τ) (none) (q, τ) :=
  Cx.of (lv := [(0, .inr (.inr (1, 0))), (1, .inl a1), (2, .inr (.inr (20, 0))), (3, .inl a3)]) (by decide) (fun ad => Nat.le_of_ble_eq_true rfl) (fun ad => rfl) (lX1_readInto_0 a1 a3 σ τ h ⟨rfl, rfl⟩)
-- ThinBodies$Lattice contains ([I)Z
noncomputable def fX2_contains_90 (a2 : Int32) (a3 : Int64) (a5 : Int32) (σ : mm) : Option ((Int32 × mm) ⊕ ((Int32 × mm) ⊕ (Bool × mm))) :=
  if (σ.1 2 0 3) ≤ a5 then
  Option.bind (some (a2 + (1 : Int32))) fun x1 =>
  some (.inr (.inl (x1, σ)))
  else
  Option.bind (rdL σ 24 0 4 a5) fun x2 =>
  Option.bind (rdR 4 a2) fun k3 =>
  Option.bind (rdL σ 23 k3 4 a5) fun x4 =>
  Option.bind (wrL σ 24 0 4 a5 (x2 - (a3 * x4))) fun σ5 =>
  Option.bind (some (a5 + (1 : Int32))) fun x6 =>
  some (.inl (x6, σ5))
noncomputable def fX2_contains_90_L (a2 : Int32) (a3 : Int64) : Int32 × mm → Option ((Int32 × mm) ⊕ ((Int32 × mm) ⊕ (Bool × mm))) := fun z => fX2_contains_90 a2 a3 z.1 z.2
noncomputable def fX2_contains_28 (a2 : Int32) (σ : mm) : Option ((Int32 × mm) ⊕ (Bool × mm)) :=
  if (σ.1 2 0 3) ≤ a2 then
  some (.inr ((true, σ)))
  else
  Option.bind (rdR 4 a2) fun k1 =>
  Option.bind (rdL σ 23 k1 4 a2) fun x2 =>
  if (lg_cmp x2 (0 : Int64)) ≤ (0 : Int32) then
  some (.inr ((false, σ)))
  else
  Option.bind (rdL σ 24 0 4 a2) fun x3 =>
  Option.bind (rdR 4 a2) fun k4 =>
  Option.bind (rdL σ 23 k4 4 a2) fun x5 =>
  Option.bind (rmL x3 x5) fun x6 =>
  if (lg_cmp x6 (0 : Int64)) = (0 : Int32) then
  Option.bind (rdL σ 24 0 4 a2) fun x7 =>
  Option.bind (rdR 4 a2) fun k8 =>
  Option.bind (rdL σ 23 k8 4 a2) fun x9 =>
  Option.bind (dvL x7 x9) fun x10 =>
  lp (fX2_contains_90_L a2 x10) (a2, σ)
  else
  some (.inr ((false, σ)))
noncomputable def fX2_contains_28_L : Int32 × mm → Option ((Int32 × mm) ⊕ (Bool × mm)) := fun z => fX2_contains_28 z.1 z.2
noncomputable def fX2_contains_2 (a2 : Int32) (σ : mm) : Option ((Int32 × mm) ⊕ (Bool × mm)) :=
  if (σ.1 2 0 3) ≤ a2 then
  Option.map Sum.inr (lp (fX2_contains_28_L) ((0 : Int32), σ))
  else
  Option.bind (rdI σ 20 0 4 a2) fun x1 =>
  Option.bind (wrL σ 24 0 4 a2 x1.toInt64) fun σ2 =>
  Option.bind (some (a2 + (1 : Int32))) fun x3 =>
  some (.inl (x3, σ2))
noncomputable def fX2_contains_2_L : Int32 × mm → Option ((Int32 × mm) ⊕ (Bool × mm)) := fun z => fX2_contains_2 z.1 z.2
noncomputable def fX2_contains_0 (σ : mm) : Option (Bool × mm) :=
  lp (fX2_contains_2_L) ((0 : Int32), σ)
noncomputable def fX2_contains (σ : mm) : Option (Bool × mm) := fX2_contains_0 σ
set_option maxRecDepth 20000 in
theorem lX2_contains_90 (a2 : Int32) (a3 : Int64) (a5 : Int32) (σ τ : mm) {r : Option mv} {M' : mm × mm} {v9 : (Int32 × mm) ⊕ ((Int32 × mm) ⊕ (Bool × mm))} (h : fX2_contains_90 a2 a3 a5 σ = some v9) (hk : (Sum.elim (fun z : Int32 × mm => Vm mX2_contains 0 90 [(0, .inr (.inr (2, 0))), (2, .inl a2), (3, .inr (.inl a3)), (5, .inl z.1)] [] (z.2, τ) r M') (Sum.elim (fun z : Int32 × mm => Vm mX2_contains 0 28 [(0, .inr (.inr (2, 0))), (2, .inl z.1)] [] (z.2, τ) r M') (fun q : Bool × mm => r = some (.inl (bi q.1)) ∧ M' = (q.2, τ)))) v9) : Vm mX2_contains 0 90 [(0, .inr (.inr (2, 0))), (2, .inl a2), (3, .inr (.inl a3)), (5, .inl a5)] [] (σ, τ) r M' := by
  unfold fX2_contains_90 at h
  refine Vm.iload (n := 92) 3 dX2_contains_90 rfl rfl ?_
  refine Vm.aload_n (n := 93) 0 dX2_contains_92 rfl rfl ?_
  refine Vm.gX (n := 96) dX2_contains_93 rfl wf_RX2_24 in_2 rfl (by decide) rfl (by decide) ?_
  refine Vm.icmp_ge (n := 99) 126 dX2_contains_96 rfl rfl (fun c9 => ?_) (fun c9 => ?_)
  · replace h := (if_pos c9).symm.trans h
    replace h := Option.bind_eq_some_iff.mp h
    obtain ⟨x1, e1, h⟩ := h
    replace e1 := Option.some.inj e1
    refine Vm.iinc (n := 129) (v := x1) (lv' := [(2, .inl x1), (0, .inr (.inr (2, 0))), (3, .inr (.inl a3)), (5, .inl a5)]) 1 dX2_contains_126 rfl rfl e1 (Nat.le_of_ble_eq_true rfl) rfl ?_
    refine Vm.goto 28 dX2_contains_129 rfl ?_
    refine Vm.sub (lv' := [(0, .inr (.inr (2, 0))), (2, .inl x1)]) [1, 0] rfl ?_
    obtain rfl := Option.some.inj h
    exact hk
  · replace h := (if_neg c9).symm.trans h
    refine Vm.aload_n (n := 100) 0 dX2_contains_99 rfl rfl ?_
    refine Vm.getR (n := 103) dX2_contains_100 rfl wf_RX2_27 in_2 rfl (by decide) rfl ?_
    refine Vm.iload (n := 105) 3 dX2_contains_103 rfl rfl ?_
    refine Vm.dup2 (n := 106) dX2_contains_105 rfl rfl rfl ?_
    replace h := Option.bind_eq_some_iff.mp h
    obtain ⟨x2, h2, h⟩ := h
    refine Vm.laldx (n := 107) dX2_contains_106 rfl in_24 rfl rfl (by decide) h2 ?_
    refine Vm.lload_n (n := 108) 2 dX2_contains_107 rfl rfl ?_
    refine Vm.aload_n (n := 109) 0 dX2_contains_108 rfl rfl ?_
    refine Vm.getR (n := 112) dX2_contains_109 rfl wf_RX2_11 in_2 rfl (by decide) rfl ?_
    refine Vm.iload_n (n := 113) 1 dX2_contains_112 rfl rfl ?_
    replace h := Option.bind_eq_some_iff.mp h
    obtain ⟨k3, h3, h⟩ := h
    refine Vm.aald (n := 114) dX2_contains_113 rfl in_29 rfl rfl (by decide) (fun _ => rfl) rfl h3 ?_
    have g3 := rdR_lt h3
    refine Vm.iload (n := 116) 3 dX2_contains_114 rfl rfl ?_
    replace h := Option.bind_eq_some_iff.mp h
    obtain ⟨x4, h4, h⟩ := h
    refine Vm.laldx (n := 117) dX2_contains_116 rfl (ink ik_23 (by omega)) rfl rfl (by decide) h4 ?_
    refine Vm.lmul (n := 118) dX2_contains_117 rfl ?_
    refine Vm.lsub (n := 119) dX2_contains_118 rfl ?_
    replace h := Option.bind_eq_some_iff.mp h
    obtain ⟨σ5, h5, h⟩ := h
    refine Vm.lastx (n := 120) dX2_contains_119 rfl in_24 rfl rfl (by decide) h5 ?_
    replace h := Option.bind_eq_some_iff.mp h
    obtain ⟨x6, e6, h⟩ := h
    replace e6 := Option.some.inj e6
    refine Vm.iinc (n := 123) (v := x6) (lv' := [(5, .inl x6), (0, .inr (.inr (2, 0))), (2, .inl a2), (3, .inr (.inl a3))]) 3 dX2_contains_120 rfl rfl e6 (Nat.le_of_ble_eq_true rfl) rfl ?_
    refine Vm.goto 90 dX2_contains_123 rfl ?_
    refine Vm.sub (lv' := [(0, .inr (.inr (2, 0))), (2, .inl a2), (3, .inr (.inl a3)), (5, .inl x6)]) [1, 2, 3, 0] rfl ?_
    obtain rfl := Option.some.inj h
    exact hk
theorem lX2_contains_90_L (a2 : Int32) (a3 : Int64) (τ : mm) {r : Option mv} {M' : mm × mm} (z : Int32 × mm) (w9 : (Int32 × mm) ⊕ (Bool × mm)) (h : lp (fX2_contains_90_L a2 a3) z = some w9) (hk : (Sum.elim (fun z : Int32 × mm => Vm mX2_contains 0 28 [(0, .inr (.inr (2, 0))), (2, .inl z.1)] [] (z.2, τ) r M') (fun q : Bool × mm => r = some (.inl (bi q.1)) ∧ M' = (q.2, τ))) w9) : Vm mX2_contains 0 90 [(0, .inr (.inr (2, 0))), (2, .inl a2), (3, .inr (.inl a3)), (5, .inl z.1)] [] (z.2, τ) r M' :=
  lp_link (S := Int32 × mm) (R := (Int32 × mm) ⊕ (Bool × mm)) (body := fX2_contains_90_L a2 a3) (A := fun z : Int32 × mm => Vm mX2_contains 0 90 [(0, .inr (.inr (2, 0))), (2, .inl a2), (3, .inr (.inl a3)), (5, .inl z.1)] [] (z.2, τ) r M') (B := fun w : (Int32 × mm) ⊕ (Bool × mm) => (Sum.elim (fun z : Int32 × mm => Vm mX2_contains 0 28 [(0, .inr (.inr (2, 0))), (2, .inl z.1)] [] (z.2, τ) r M') (fun q : Bool × mm => r = some (.inl (bi q.1)) ∧ M' = (q.2, τ))) w) (fun z v hb hv => lX2_contains_90 a2 a3 z.1 z.2 τ hb hv) z w9 h hk
set_option maxRecDepth 20000 in
theorem lX2_contains_28 (a2 : Int32) (σ τ : mm) {r : Option mv} {M' : mm × mm} {v9 : (Int32 × mm) ⊕ (Bool × mm)} (h : fX2_contains_28 a2 σ = some v9) (hk : (Sum.elim (fun z : Int32 × mm => Vm mX2_contains 0 28 [(0, .inr (.inr (2, 0))), (2, .inl z.1)] [] (z.2, τ) r M') (fun q : Bool × mm => r = some (.inl (bi q.1)) ∧ M' = (q.2, τ))) v9) : Vm mX2_contains 0 28 [(0, .inr (.inr (2, 0))), (2, .inl a2)] [] (σ, τ) r M' := by
  unfold fX2_contains_28 at h
  refine Vm.iload_n (n := 29) 1 dX2_contains_28 rfl rfl ?_
  refine Vm.aload_n (n := 30) 0 dX2_contains_29 rfl rfl ?_
  refine Vm.gX (n := 33) dX2_contains_30 rfl wf_RX2_24 in_2 rfl (by decide) rfl (by decide) ?_
  refine Vm.icmp_ge (n := 36) 132 dX2_contains_33 rfl rfl (fun c9 => ?_) (fun c9 => ?_)
  · replace h := (if_pos c9).symm.trans h
    refine Vm.iconst (n := 133) (v := (1 : Int32)) dX2_contains_132 rfl (by decide) ?_
    obtain rfl := Option.some.inj h
    exact Vm.zret (b := true) dX2_contains_133 rfl rfl hk.1 hk.2.symm
  · replace h := (if_neg c9).symm.trans h
    refine Vm.aload_n (n := 37) 0 dX2_contains_36 rfl rfl ?_
    refine Vm.getR (n := 40) dX2_contains_37 rfl wf_RX2_11 in_2 rfl (by decide) rfl ?_
    refine Vm.iload_n (n := 41) 1 dX2_contains_40 rfl rfl ?_
    replace h := Option.bind_eq_some_iff.mp h
    obtain ⟨k1, h1, h⟩ := h
    refine Vm.aald (n := 42) dX2_contains_41 rfl in_29 rfl rfl (by decide) (fun _ => rfl) rfl h1 ?_
    have g1 := rdR_lt h1
    refine Vm.iload_n (n := 43) 1 dX2_contains_42 rfl rfl ?_
    replace h := Option.bind_eq_some_iff.mp h
    obtain ⟨x2, h2, h⟩ := h
    refine Vm.laldx (n := 44) dX2_contains_43 rfl (ink ik_23 (by omega)) rfl rfl (by decide) h2 ?_
    refine Vm.lconst (n := 45) (v := (0 : Int64)) dX2_contains_44 rfl (by decide) ?_
    refine Vm.lcmp (n := 46) dX2_contains_45 rfl ?_
    refine Vm.if_le (n := 49) 69 dX2_contains_46 rfl rfl (fun c9 => ?_) (fun c9 => ?_)
    · replace h := (if_pos c9).symm.trans h
      refine Vm.iconst (n := 70) (v := (0 : Int32)) dX2_contains_69 rfl (by decide) ?_
      obtain rfl := Option.some.inj h
      exact Vm.zret (b := false) dX2_contains_70 rfl rfl hk.1 hk.2.symm
    · replace h := (if_neg c9).symm.trans h
      refine Vm.aload_n (n := 50) 0 dX2_contains_49 rfl rfl ?_
      refine Vm.getR (n := 53) dX2_contains_50 rfl wf_RX2_27 in_2 rfl (by decide) rfl ?_
      refine Vm.iload_n (n := 54) 1 dX2_contains_53 rfl rfl ?_
      replace h := Option.bind_eq_some_iff.mp h
      obtain ⟨x3, h3, h⟩ := h
      refine Vm.laldx (n := 55) dX2_contains_54 rfl in_24 rfl rfl (by decide) h3 ?_
      refine Vm.aload_n (n := 56) 0 dX2_contains_55 rfl rfl ?_
      refine Vm.getR (n := 59) dX2_contains_56 rfl wf_RX2_11 in_2 rfl (by decide) rfl ?_
      refine Vm.iload_n (n := 60) 1 dX2_contains_59 rfl rfl ?_
      replace h := Option.bind_eq_some_iff.mp h
      obtain ⟨k4, h4, h⟩ := h
      refine Vm.aald (n := 61) dX2_contains_60 rfl in_29 rfl rfl (by decide) (fun _ => rfl) rfl h4 ?_
      have g4 := rdR_lt h4
      refine Vm.iload_n (n := 62) 1 dX2_contains_61 rfl rfl ?_
      replace h := Option.bind_eq_some_iff.mp h
      obtain ⟨x5, h5, h⟩ := h
      refine Vm.laldx (n := 63) dX2_contains_62 rfl (ink ik_23 (by omega)) rfl rfl (by decide) h5 ?_
      replace h := Option.bind_eq_some_iff.mp h
      obtain ⟨x6, h6, h⟩ := h
      refine Vm.lrem (n := 64) dX2_contains_63 rfl h6 ?_
      refine Vm.lconst (n := 65) (v := (0 : Int64)) dX2_contains_64 rfl (by decide) ?_
      refine Vm.lcmp (n := 66) dX2_contains_65 rfl ?_
      refine Vm.if_eq (n := 69) 71 dX2_contains_66 rfl rfl (fun c9 => ?_) (fun c9 => ?_)
      · replace h := (if_pos c9).symm.trans h
        refine Vm.aload_n (n := 72) 0 dX2_contains_71 rfl rfl ?_
        refine Vm.getR (n := 75) dX2_contains_72 rfl wf_RX2_27 in_2 rfl (by decide) rfl ?_
        refine Vm.iload_n (n := 76) 1 dX2_contains_75 rfl rfl ?_
        replace h := Option.bind_eq_some_iff.mp h
        obtain ⟨x7, h7, h⟩ := h
        refine Vm.laldx (n := 77) dX2_contains_76 rfl in_24 rfl rfl (by decide) h7 ?_
        refine Vm.aload_n (n := 78) 0 dX2_contains_77 rfl rfl ?_
        refine Vm.getR (n := 81) dX2_contains_78 rfl wf_RX2_11 in_2 rfl (by decide) rfl ?_
        refine Vm.iload_n (n := 82) 1 dX2_contains_81 rfl rfl ?_
        replace h := Option.bind_eq_some_iff.mp h
        obtain ⟨k8, h8, h⟩ := h
        refine Vm.aald (n := 83) dX2_contains_82 rfl in_29 rfl rfl (by decide) (fun _ => rfl) rfl h8 ?_
        have g8 := rdR_lt h8
        refine Vm.iload_n (n := 84) 1 dX2_contains_83 rfl rfl ?_
        replace h := Option.bind_eq_some_iff.mp h
        obtain ⟨x9, h9, h⟩ := h
        refine Vm.laldx (n := 85) dX2_contains_84 rfl (ink ik_23 (by omega)) rfl rfl (by decide) h9 ?_
        replace h := Option.bind_eq_some_iff.mp h
        obtain ⟨x10, h10, h⟩ := h
        refine Vm.ldiv (n := 86) dX2_contains_85 rfl h10 ?_
        refine Vm.lstore_n (n := 87) (lv' := [(3, .inr (.inl x10)), (0, .inr (.inr (2, 0))), (2, .inl a2)]) dX2_contains_86 rfl (Nat.le_of_ble_eq_true rfl) rfl ?_
        refine Vm.iload_n (n := 88) 2 dX2_contains_87 rfl rfl ?_
        refine Vm.istore (n := 90) (lv' := [(5, .inl a2), (3, .inr (.inl x10)), (0, .inr (.inr (2, 0))), (2, .inl a2)]) dX2_contains_88 rfl (Nat.le_of_ble_eq_true rfl) rfl ?_
        refine Vm.sub (lv' := [(0, .inr (.inr (2, 0))), (2, .inl a2), (3, .inr (.inl x10)), (5, .inl a2)]) [2, 3, 1, 0] rfl ?_
        exact lX2_contains_90_L a2 x10 τ (a2, σ) _ h hk
      · replace h := (if_neg c9).symm.trans h
        refine Vm.iconst (n := 70) (v := (0 : Int32)) dX2_contains_69 rfl (by decide) ?_
        obtain rfl := Option.some.inj h
        exact Vm.zret (b := false) dX2_contains_70 rfl rfl hk.1 hk.2.symm
theorem lX2_contains_28_L (τ : mm) {r : Option mv} {M' : mm × mm} (z : Int32 × mm) (w9 : Bool × mm) (h : lp (fX2_contains_28_L) z = some w9) (hk : (fun q : Bool × mm => r = some (.inl (bi q.1)) ∧ M' = (q.2, τ)) w9) : Vm mX2_contains 0 28 [(0, .inr (.inr (2, 0))), (2, .inl z.1)] [] (z.2, τ) r M' :=
  lp_link (S := Int32 × mm) (R := Bool × mm) (body := fX2_contains_28_L) (A := fun z : Int32 × mm => Vm mX2_contains 0 28 [(0, .inr (.inr (2, 0))), (2, .inl z.1)] [] (z.2, τ) r M') (B := fun w : Bool × mm => (fun q : Bool × mm => r = some (.inl (bi q.1)) ∧ M' = (q.2, τ)) w) (fun z v hb hv => lX2_contains_28 z.1 z.2 τ hb hv) z w9 h hk
set_option maxRecDepth 20000 in
theorem lX2_contains_2 (a2 : Int32) (σ τ : mm) {r : Option mv} {M' : mm × mm} {v9 : (Int32 × mm) ⊕ (Bool × mm)} (h : fX2_contains_2 a2 σ = some v9) (hk : (Sum.elim (fun z : Int32 × mm => Vm mX2_contains 0 2 [(0, .inr (.inr (2, 0))), (1, .inr (.inr (20, 0))), (2, .inl z.1)] [] (z.2, τ) r M') (fun q : Bool × mm => r = some (.inl (bi q.1)) ∧ M' = (q.2, τ))) v9) : Vm mX2_contains 0 2 [(0, .inr (.inr (2, 0))), (1, .inr (.inr (20, 0))), (2, .inl a2)] [] (σ, τ) r M' := by
  unfold fX2_contains_2 at h
  refine Vm.iload_n (n := 3) 2 dX2_contains_2 rfl rfl ?_
  refine Vm.aload_n (n := 4) 0 dX2_contains_3 rfl rfl ?_
  refine Vm.gX (n := 7) dX2_contains_4 rfl wf_RX2_24 in_2 rfl (by decide) rfl (by decide) ?_
  refine Vm.icmp_ge (n := 10) 26 dX2_contains_7 rfl rfl (fun c9 => ?_) (fun c9 => ?_)
  · replace h := (if_pos c9).symm.trans h
    refine Vm.iconst (n := 27) (v := (0 : Int32)) dX2_contains_26 rfl (by decide) ?_
    refine Vm.istore_n (n := 28) (lv' := [(2, .inl (0 : Int32)), (0, .inr (.inr (2, 0))), (1, .inr (.inr (20, 0)))]) dX2_contains_27 rfl (Nat.le_of_ble_eq_true rfl) rfl ?_
    refine Vm.sub (lv' := [(0, .inr (.inr (2, 0))), (2, .inl (0 : Int32))]) [1, 0] rfl ?_
    replace h := Option.map_eq_some_iff.mp h
    obtain ⟨w9, h, e8⟩ := h
    subst e8
    exact lX2_contains_28_L τ ((0 : Int32), σ) _ h hk
  · replace h := (if_neg c9).symm.trans h
    refine Vm.aload_n (n := 11) 0 dX2_contains_10 rfl rfl ?_
    refine Vm.getR (n := 14) dX2_contains_11 rfl wf_RX2_27 in_2 rfl (by decide) rfl ?_
    refine Vm.iload_n (n := 15) 2 dX2_contains_14 rfl rfl ?_
    refine Vm.aload_n (n := 16) 1 dX2_contains_15 rfl rfl ?_
    refine Vm.iload_n (n := 17) 2 dX2_contains_16 rfl rfl ?_
    replace h := Option.bind_eq_some_iff.mp h
    obtain ⟨x1, h1, h⟩ := h
    refine Vm.ialdx (n := 18) dX2_contains_17 rfl in_20 rfl rfl (by decide) h1 ?_
    refine Vm.i2l (n := 19) dX2_contains_18 rfl ?_
    replace h := Option.bind_eq_some_iff.mp h
    obtain ⟨σ2, h2, h⟩ := h
    refine Vm.lastx (n := 20) dX2_contains_19 rfl in_24 rfl rfl (by decide) h2 ?_
    replace h := Option.bind_eq_some_iff.mp h
    obtain ⟨x3, e3, h⟩ := h
    replace e3 := Option.some.inj e3
    refine Vm.iinc (n := 23) (v := x3) (lv' := [(2, .inl x3), (0, .inr (.inr (2, 0))), (1, .inr (.inr (20, 0)))]) 2 dX2_contains_20 rfl rfl e3 (Nat.le_of_ble_eq_true rfl) rfl ?_
    refine Vm.goto 2 dX2_contains_23 rfl ?_
    refine Vm.sub (lv' := [(0, .inr (.inr (2, 0))), (1, .inr (.inr (20, 0))), (2, .inl x3)]) [1, 2, 0] rfl ?_
    obtain rfl := Option.some.inj h
    exact hk
theorem lX2_contains_2_L (τ : mm) {r : Option mv} {M' : mm × mm} (z : Int32 × mm) (w9 : Bool × mm) (h : lp (fX2_contains_2_L) z = some w9) (hk : (fun q : Bool × mm => r = some (.inl (bi q.1)) ∧ M' = (q.2, τ)) w9) : Vm mX2_contains 0 2 [(0, .inr (.inr (2, 0))), (1, .inr (.inr (20, 0))), (2, .inl z.1)] [] (z.2, τ) r M' :=
  lp_link (S := Int32 × mm) (R := Bool × mm) (body := fX2_contains_2_L) (A := fun z : Int32 × mm => Vm mX2_contains 0 2 [(0, .inr (.inr (2, 0))), (1, .inr (.inr (20, 0))), (2, .inl z.1)] [] (z.2, τ) r M') (B := fun w : Bool × mm => (fun q : Bool × mm => r = some (.inl (bi q.1)) ∧ M' = (q.2, τ)) w) (fun z v hb hv => lX2_contains_2 z.1 z.2 τ hb hv) z w9 h hk
set_option maxRecDepth 20000 in
theorem lX2_contains_0 (σ τ : mm) {r : Option mv} {M' : mm × mm} {v9 : Bool × mm} (h : fX2_contains_0 σ = some v9) (hk : (fun q : Bool × mm => r = some (.inl (bi q.1)) ∧ M' = (q.2, τ)) v9) : Vm mX2_contains 0 0 [(0, .inr (.inr (2, 0))), (1, .inr (.inr (20, 0)))] [] (σ, τ) r M' := by
  unfold fX2_contains_0 at h
  refine Vm.iconst (n := 1) (v := (0 : Int32)) dX2_contains_0 rfl (by decide) ?_
  refine Vm.istore_n (n := 2) (lv' := [(2, .inl (0 : Int32)), (0, .inr (.inr (2, 0))), (1, .inr (.inr (20, 0)))]) dX2_contains_1 rfl (Nat.le_of_ble_eq_true rfl) rfl ?_
  refine Vm.sub (lv' := [(0, .inr (.inr (2, 0))), (1, .inr (.inr (20, 0))), (2, .inl (0 : Int32))]) [1, 2, 0] rfl ?_
  exact lX2_contains_2_L τ ((0 : Int32), σ) _ h hk
theorem kX2_contains (σ τ : mm) {q : Bool × mm} (h : fX2_contains σ = some q) : Cx mX2_contains 0 [.inr (.inr (2, 0)), .inr (.inr (20, 0))] (σ, τ) (some (.inl (bi q.1))) (q.2, τ) :=
  Cx.of (lv := [(0, .inr (.inr (2, 0))), (1, .inr (.inr (20, 0)))]) (by decide) (fun ad => Nat.le_of_ble_eq_true rfl) (fun ad => rfl) (lX2_contains_0 σ τ h ⟨rfl, rfl⟩)
-- ThinBodies common ()I
noncomputable def fX7_common_98 (a1 : Int32) (a2 : Int32) (σ : mm) : Option ((Int32 × Int32 × mm) ⊕ (Int32 × mm)) :=
  Option.bind (some (a2 + (1 : Int32))) fun x1 =>
  some (.inl (a1, x1, σ))
noncomputable def fX7_common_96 (a2 : Int32) (s0 : Int32) (s1 : Int32) (σ : mm) : Option ((Int32 × Int32 × mm) ⊕ (Int32 × mm)) :=
  Option.bind (some (s0 + s1)) fun x1 =>
  fX7_common_98 x1 a2 σ
noncomputable def fX7_common_35 (a1 : Int32) (a2 : Int32) (σ : mm) : Option ((Int32 × Int32 × mm) ⊕ (Int32 × mm)) :=
  if (σ.1 1 0 1) ≤ a2 then
  some (.inr ((a1, σ)))
  else
  Option.bind (fX1_isIn a2 σ) fun q1 =>
  if (bi q1) = (0 : Int32) then
  fX7_common_98 a1 a2 σ
  else
  Option.bind (fX1_readInto a2 (σ.1 0 0 0) σ) fun q2 =>
  Option.bind (fX2_contains q2) fun q3 =>
  if (bi q3.1) = (0 : Int32) then
  fX7_common_96 a2 a1 (0 : Int32) q3.2
  else
  fX7_common_96 a2 a1 (1 : Int32) q3.2
noncomputable def fX7_common_35_L : Int32 × Int32 × mm → Option ((Int32 × Int32 × mm) ⊕ (Int32 × mm)) := fun z => fX7_common_35 z.1 z.2.1 z.2.2
noncomputable def fX7_common_0 (σ : mm) : Option (Int32 × mm) :=
  Option.bind (fX2_makeForm 0 σ) fun q1 =>
  if q1.1 = (0 : Int32) then
  Option.bind (fX7_finding (3 : Int32) q1.2) fun q3 =>
  some ((q3.1, q3.2))
  else
  Option.bind (fX1_refresh 0 q1.2) fun q2 =>
  lp (fX7_common_35_L) ((0 : Int32), (0 : Int32), q2)
noncomputable def fX7_common (σ : mm) : Option (Int32 × mm) := fX7_common_0 σ
set_option maxRecDepth 20000 in
theorem lX7_common_98 (a1 : Int32) (a2 : Int32) (σ τ : mm) {r : Option mv} {M' : mm × mm} {v9 : (Int32 × Int32 × mm) ⊕ (Int32 × mm)} (h : fX7_common_98 a1 a2 σ = some v9) (hk : (Sum.elim (fun z : Int32 × Int32 × mm => Vm mX7_common 5 35 [(0, .inr (.inr (7, 0))), (1, .inl z.1), (2, .inl z.2.1)] [] (z.2.2, τ) r M') (fun q : Int32 × mm => r = some (.inl q.1) ∧ M' = (q.2, τ))) v9) : Vm mX7_common 5 98 [(0, .inr (.inr (7, 0))), (1, .inl a1), (2, .inl a2)] [] (σ, τ) r M' := by
  unfold fX7_common_98 at h
  replace h := Option.bind_eq_some_iff.mp h
  obtain ⟨x1, e1, h⟩ := h
  replace e1 := Option.some.inj e1
  refine Vm.iinc (n := 101) (v := x1) (lv' := [(2, .inl x1), (0, .inr (.inr (7, 0))), (1, .inl a1)]) 2 dX7_common_98 rfl rfl e1 (Nat.le_of_ble_eq_true rfl) rfl ?_
  refine Vm.goto 35 dX7_common_101 rfl ?_
  refine Vm.sub (lv' := [(0, .inr (.inr (7, 0))), (1, .inl a1), (2, .inl x1)]) [1, 2, 0] rfl ?_
  obtain rfl := Option.some.inj h
  exact hk
set_option maxRecDepth 20000 in
theorem lX7_common_96 (a2 : Int32) (s0 : Int32) (s1 : Int32) (σ τ : mm) {r : Option mv} {M' : mm × mm} {v9 : (Int32 × Int32 × mm) ⊕ (Int32 × mm)} (h : fX7_common_96 a2 s0 s1 σ = some v9) (hk : (Sum.elim (fun z : Int32 × Int32 × mm => Vm mX7_common 5 35 [(0, .inr (.inr (7, 0))), (1, .inl z.1), (2, .inl z.2.1)] [] (z.2.2, τ) r M') (fun q : Int32 × mm => r = some (.inl q.1) ∧ M' = (q.2, τ))) v9) : Vm mX7_common 5 96 [(0, .inr (.inr (7, 0))), (2, .inl a2)] [.inl s1, .inl s0] (σ, τ) r M' := by
  unfold fX7_common_96 at h
  refine Vm.iadd (n := 97) dX7_common_96 rfl ?_
  replace h := Option.bind_eq_some_iff.mp h
  obtain ⟨x1, e1, h⟩ := h
  replace e1 := Option.some.inj e1
  refine Vm.top e1 ?_
  refine Vm.istore_n (n := 98) (lv' := [(1, .inl x1), (0, .inr (.inr (7, 0))), (2, .inl a2)]) dX7_common_97 rfl (Nat.le_of_ble_eq_true rfl) rfl ?_
  refine Vm.sub (lv' := [(0, .inr (.inr (7, 0))), (1, .inl x1), (2, .inl a2)]) [1, 0, 2] rfl ?_
  exact lX7_common_98 x1 a2 σ τ h hk
set_option maxRecDepth 20000 in
theorem lX7_common_35 (a1 : Int32) (a2 : Int32) (σ τ : mm) {r : Option mv} {M' : mm × mm} {v9 : (Int32 × Int32 × mm) ⊕ (Int32 × mm)} (h : fX7_common_35 a1 a2 σ = some v9) (hk : (Sum.elim (fun z : Int32 × Int32 × mm => Vm mX7_common 5 35 [(0, .inr (.inr (7, 0))), (1, .inl z.1), (2, .inl z.2.1)] [] (z.2.2, τ) r M') (fun q : Int32 × mm => r = some (.inl q.1) ∧ M' = (q.2, τ))) v9) : Vm mX7_common 5 35 [(0, .inr (.inr (7, 0))), (1, .inl a1), (2, .inl a2)] [] (σ, τ) r M' := by
  unfold fX7_common_35 at h
  refine Vm.iload_n (n := 36) 2 dX7_common_35 rfl rfl ?_
  refine Vm.aload_n (n := 37) 0 dX7_common_36 rfl rfl ?_
  refine Vm.getR (n := 40) dX7_common_37 rfl wf_RX7_29 in_7 rfl (by decide) rfl ?_
  refine Vm.gX (n := 43) dX7_common_40 rfl wf_RX7_313 in_1 rfl (by decide) rfl (by decide) ?_
  refine Vm.icmp_ge (n := 46) 104 dX7_common_43 rfl rfl (fun c9 => ?_) (fun c9 => ?_)
  · replace h := (if_pos c9).symm.trans h
    refine Vm.iload_n (n := 105) 1 dX7_common_104 rfl rfl ?_
    obtain rfl := Option.some.inj h
    exact Vm.iret dX7_common_105 rfl hk.1 hk.2.symm
  · replace h := (if_neg c9).symm.trans h
    refine Vm.aload_n (n := 47) 0 dX7_common_46 rfl rfl ?_
    refine Vm.getR (n := 50) dX7_common_47 rfl wf_RX7_29 in_7 rfl (by decide) rfl ?_
    refine Vm.iload_n (n := 51) 2 dX7_common_50 rfl rfl ?_
    replace h := Option.bind_eq_some_iff.mp h
    obtain ⟨q1, h1, h⟩ := h
    refine Vm.callV (Y := mX1_isIn) (n := 54) [.inl a2] dX7_common_51 rfl wv_RX7_314 omX1_isIn rfl in_1 rfl rfl rfl (Nat.le_of_ble_eq_true rfl) (by decide) (kX1_isIn a2 σ τ h1) ?_
    refine Vm.if_eq (n := 57) 98 dX7_common_54 rfl rfl (fun c9 => ?_) (fun c9 => ?_)
    · replace h := (if_pos c9).symm.trans h
      exact lX7_common_98 a1 a2 σ τ h hk
    · replace h := (if_neg c9).symm.trans h
      refine Vm.aload_n (n := 58) 0 dX7_common_57 rfl rfl ?_
      refine Vm.getR (n := 61) dX7_common_58 rfl wf_RX7_29 in_7 rfl (by decide) rfl ?_
      refine Vm.iload_n (n := 62) 2 dX7_common_61 rfl rfl ?_
      refine Vm.aload_n (n := 63) 0 dX7_common_62 rfl rfl ?_
      refine Vm.getR (n := 66) dX7_common_63 rfl wf_RX7_64 in_7 rfl (by decide) rfl ?_
      refine Vm.aload_n (n := 67) 0 dX7_common_66 rfl rfl ?_
      refine Vm.getR (n := 70) dX7_common_67 rfl wf_RX7_12 in_7 rfl (by decide) rfl ?_
      refine Vm.gX (n := 73) dX7_common_70 rfl wf_RX7_75 (ink ik_0 (by decide)) rfl (by decide) rfl (by decide) ?_
      replace h := Option.bind_eq_some_iff.mp h
      obtain ⟨q2, h2, h⟩ := h
      refine Vm.callVv (Y := mX1_readInto) (n := 76) [.inl a2, .inr (.inr (20, 0)), .inl (σ.1 0 0 0)] dX7_common_73 rfl wv_RX7_317 omX1_readInto rfl in_1 rfl rfl rfl (Nat.le_of_ble_eq_true rfl) (by decide) (kX1_readInto a2 (σ.1 0 0 0) σ τ h2) ?_
      refine Vm.iload_n (n := 77) 1 dX7_common_76 rfl rfl ?_
      refine Vm.aload_n (n := 78) 0 dX7_common_77 rfl rfl ?_
      refine Vm.getR (n := 81) dX7_common_78 rfl wf_RX7_43 in_7 rfl (by decide) rfl ?_
      refine Vm.aload_n (n := 82) 0 dX7_common_81 rfl rfl ?_
      refine Vm.getR (n := 85) dX7_common_82 rfl wf_RX7_64 in_7 rfl (by decide) rfl ?_
      replace h := Option.bind_eq_some_iff.mp h
      obtain ⟨q3, h3, h⟩ := h
      refine Vm.callV (Y := mX2_contains) (n := 88) [.inr (.inr (20, 0))] dX7_common_85 rfl wv_RX7_321 omX2_contains rfl in_2 rfl rfl rfl (Nat.le_of_ble_eq_true rfl) (by decide) (kX2_contains q2 τ h3) ?_
      refine Vm.if_eq (n := 91) 95 dX7_common_88 rfl rfl (fun c9 => ?_) (fun c9 => ?_)
      · replace h := (if_pos c9).symm.trans h
        refine Vm.iconst (n := 96) (v := (0 : Int32)) dX7_common_95 rfl (by decide) ?_
        refine Vm.sub (lv' := [(0, .inr (.inr (7, 0))), (2, .inl a2)]) [0, 2] rfl ?_
        exact lX7_common_96 a2 a1 (0 : Int32) q3.2 τ h hk
      · replace h := (if_neg c9).symm.trans h
        refine Vm.iconst (n := 92) (v := (1 : Int32)) dX7_common_91 rfl (by decide) ?_
        refine Vm.goto 96 dX7_common_92 rfl ?_
        refine Vm.sub (lv' := [(0, .inr (.inr (7, 0))), (2, .inl a2)]) [0, 2] rfl ?_
        exact lX7_common_96 a2 a1 (1 : Int32) q3.2 τ h hk
theorem lX7_common_35_L (τ : mm) {r : Option mv} {M' : mm × mm} (z : Int32 × Int32 × mm) (w9 : Int32 × mm) (h : lp (fX7_common_35_L) z = some w9) (hk : (fun q : Int32 × mm => r = some (.inl q.1) ∧ M' = (q.2, τ)) w9) : Vm mX7_common 5 35 [(0, .inr (.inr (7, 0))), (1, .inl z.1), (2, .inl z.2.1)] [] (z.2.2, τ) r M' :=
  lp_link (S := Int32 × Int32 × mm) (R := Int32 × mm) (body := fX7_common_35_L) (A := fun z : Int32 × Int32 × mm => Vm mX7_common 5 35 [(0, .inr (.inr (7, 0))), (1, .inl z.1), (2, .inl z.2.1)] [] (z.2.2, τ) r M') (B := fun w : Int32 × mm => (fun q : Int32 × mm => r = some (.inl q.1) ∧ M' = (q.2, τ)) w) (fun z v hb hv => lX7_common_35 z.1 z.2.1 z.2.2 τ hb hv) z w9 h hk
set_option maxRecDepth 20000 in
theorem lX7_common_0 (σ τ : mm) {r : Option mv} {M' : mm × mm} {v9 : Int32 × mm} (h : fX7_common_0 σ = some v9) (hk : (fun q : Int32 × mm => r = some (.inl q.1) ∧ M' = (q.2, τ)) v9) : Vm mX7_common 5 0 [(0, .inr (.inr (7, 0)))] [] (σ, τ) r M' := by
  unfold fX7_common_0 at h
  refine Vm.aload_n (n := 1) 0 dX7_common_0 rfl rfl ?_
  refine Vm.getR (n := 4) dX7_common_1 rfl wf_RX7_43 in_7 rfl (by decide) rfl ?_
  refine Vm.aload_n (n := 5) 0 dX7_common_4 rfl rfl ?_
  refine Vm.getR (n := 8) dX7_common_5 rfl wf_RX7_12 in_7 rfl (by decide) rfl ?_
  replace h := Option.bind_eq_some_iff.mp h
  obtain ⟨q1, h1, h⟩ := h
  refine Vm.callV (Y := mX2_makeForm) (n := 11) [.inr (.inr (0, 0))] dX7_common_8 rfl wv_RX7_297 omX2_makeForm rfl in_2 rfl rfl rfl (Nat.le_of_ble_eq_true rfl) (by decide) (kX2_makeForm 0 (by decide) σ τ h1) ?_
  refine Vm.if_ne (n := 14) 20 dX7_common_11 rfl rfl (fun c9 => ?_) (fun c9 => ?_)
  · replace h := (if_neg c9).symm.trans h
    refine Vm.aload_n (n := 21) 0 dX7_common_20 rfl rfl ?_
    refine Vm.getR (n := 24) dX7_common_21 rfl wf_RX7_29 in_7 rfl (by decide) rfl ?_
    refine Vm.aload_n (n := 25) 0 dX7_common_24 rfl rfl ?_
    refine Vm.getR (n := 28) dX7_common_25 rfl wf_RX7_12 in_7 rfl (by decide) rfl ?_
    replace h := Option.bind_eq_some_iff.mp h
    obtain ⟨q2, h2, h⟩ := h
    refine Vm.callVv (Y := mX1_refresh) (n := 31) [.inr (.inr (0, 0))] dX7_common_28 rfl wv_RX7_154 omX1_refresh rfl in_1 rfl rfl rfl (Nat.le_of_ble_eq_true rfl) (by decide) (kX1_refresh 0 (by decide) q1.2 τ h2) ?_
    refine Vm.iconst (n := 32) (v := (0 : Int32)) dX7_common_31 rfl (by decide) ?_
    refine Vm.istore_n (n := 33) (lv' := [(1, .inl (0 : Int32)), (0, .inr (.inr (7, 0)))]) dX7_common_32 rfl (Nat.le_of_ble_eq_true rfl) rfl ?_
    refine Vm.iconst (n := 34) (v := (0 : Int32)) dX7_common_33 rfl (by decide) ?_
    refine Vm.istore_n (n := 35) (lv' := [(2, .inl (0 : Int32)), (1, .inl (0 : Int32)), (0, .inr (.inr (7, 0)))]) dX7_common_34 rfl (Nat.le_of_ble_eq_true rfl) rfl ?_
    refine Vm.sub (lv' := [(0, .inr (.inr (7, 0))), (1, .inl (0 : Int32)), (2, .inl (0 : Int32))]) [2, 1, 0] rfl ?_
    exact lX7_common_35_L τ ((0 : Int32), (0 : Int32), q2) _ h hk
  · replace h := (if_pos c9).symm.trans h
    refine Vm.aload_n (n := 15) 0 dX7_common_14 rfl rfl ?_
    refine Vm.iconst (n := 16) (v := (3 : Int32)) dX7_common_15 rfl (by decide) ?_
    replace h := Option.bind_eq_some_iff.mp h
    obtain ⟨q3, h3, h⟩ := h
    refine Vm.callV (Y := mX7_finding) (n := 19) [.inl (3 : Int32)] dX7_common_16 rfl wv_RX7_68 omX7_finding rfl in_7 rfl rfl rfl (Nat.le_of_ble_eq_true rfl) (by decide) (kX7_finding (3 : Int32) q1.2 τ h3) ?_
    obtain rfl := Option.some.inj h
    exact Vm.iret dX7_common_19 rfl hk.1 hk.2.symm
theorem kX7_common (σ τ : mm) {q : Int32 × mm} (h : fX7_common σ = some q) : Cx mX7_common 5 [.inr (.inr (7, 0))] (σ, τ) (some (.inl q.1)) (q.2, τ) :=
  Cx.of (lv := [(0, .inr (.inr (7, 0)))]) (by decide) (fun ad => Nat.le_of_ble_eq_true rfl) (fun ad => rfl) (lX7_common_0 σ τ h ⟨rfl, rfl⟩)
-- ThinBodies lies (I)I
noncomputable def fX7_lies_0 (a1 : Int32) (σ : mm) : Option (Int32 × mm) :=
  Option.bind (fX7_smallPointTrouble a1 σ) fun q1 =>
  if q1 = (-1 : Int32) then
  Option.bind (fX2_makeForm 0 σ) fun q2 =>
  if q2.1 = (0 : Int32) then
  Option.bind (fX7_finding (3 : Int32) q2.2) fun q6 =>
  some ((q6.1, q6.2))
  else
  Option.bind (rdR 4 a1) fun k3 =>
  Option.bind (fX7_readSpot k3 q2.2) fun q4 =>
  Option.bind (fX2_contains q4) fun q5 =>
  if (bi q5.1) = (0 : Int32) then
  some (((0 : Int32), q5.2))
  else
  some (((1 : Int32), q5.2))
  else
  Option.bind (fX7_finding q1 σ) fun q7 =>
  some ((q7.1, q7.2))
noncomputable def fX7_lies (a1 : Int32) (σ : mm) : Option (Int32 × mm) := fX7_lies_0 a1 σ
set_option maxRecDepth 20000 in
theorem lX7_lies_0 (a1 : Int32) (σ τ : mm) {r : Option mv} {M' : mm × mm} {v9 : Int32 × mm} (h : fX7_lies_0 a1 σ = some v9) (hk : (fun q : Int32 × mm => r = some (.inl q.1) ∧ M' = (q.2, τ)) v9) : Vm mX7_lies 4 0 [(0, .inr (.inr (7, 0))), (1, .inl a1)] [] (σ, τ) r M' := by
  unfold fX7_lies_0 at h
  refine Vm.aload_n (n := 1) 0 dX7_lies_0 rfl rfl ?_
  refine Vm.iload_n (n := 2) 1 dX7_lies_1 rfl rfl ?_
  replace h := Option.bind_eq_some_iff.mp h
  obtain ⟨q1, h1, h⟩ := h
  refine Vm.callV (Y := mX7_smallPointTrouble) (n := 5) [.inl a1] dX7_lies_2 rfl wv_RX7_168 omX7_smallPointTrouble rfl in_7 rfl rfl rfl (Nat.le_of_ble_eq_true rfl) (by decide) (kX7_smallPointTrouble a1 σ τ h1) ?_
  refine Vm.istore_n (n := 6) (lv' := [(2, .inl q1), (0, .inr (.inr (7, 0))), (1, .inl a1)]) dX7_lies_5 rfl (Nat.le_of_ble_eq_true rfl) rfl ?_
  refine Vm.iload_n (n := 7) 0 dX7_lies_6 rfl rfl ?_
  refine Vm.iconst (n := 8) (v := (-1 : Int32)) dX7_lies_7 rfl (by decide) ?_
  refine Vm.icmp_eq (n := 11) 17 dX7_lies_8 rfl rfl (fun c9 => ?_) (fun c9 => ?_)
  · replace h := (if_pos c9).symm.trans h
    refine Vm.aload_n (n := 18) 1 dX7_lies_17 rfl rfl ?_
    refine Vm.getR (n := 21) dX7_lies_18 rfl wf_RX7_43 in_7 rfl (by decide) rfl ?_
    refine Vm.aload_n (n := 22) 1 dX7_lies_21 rfl rfl ?_
    refine Vm.getR (n := 25) dX7_lies_22 rfl wf_RX7_12 in_7 rfl (by decide) rfl ?_
    replace h := Option.bind_eq_some_iff.mp h
    obtain ⟨q2, h2, h⟩ := h
    refine Vm.callV (Y := mX2_makeForm) (n := 28) [.inr (.inr (0, 0))] dX7_lies_25 rfl wv_RX7_297 omX2_makeForm rfl in_2 rfl rfl rfl (Nat.le_of_ble_eq_true rfl) (by decide) (kX2_makeForm 0 (by decide) σ τ h2) ?_
    refine Vm.if_ne (n := 31) 37 dX7_lies_28 rfl rfl (fun c9 => ?_) (fun c9 => ?_)
    · replace h := (if_neg c9).symm.trans h
      refine Vm.aload_n (n := 38) 1 dX7_lies_37 rfl rfl ?_
      refine Vm.aload_n (n := 39) 1 dX7_lies_38 rfl rfl ?_
      refine Vm.getR (n := 42) dX7_lies_39 rfl wf_RX7_56 in_7 rfl (by decide) rfl ?_
      refine Vm.iload_n (n := 43) 2 dX7_lies_42 rfl rfl ?_
      replace h := Option.bind_eq_some_iff.mp h
      obtain ⟨k3, h3, h⟩ := h
      refine Vm.aald (n := 44) dX7_lies_43 rfl in_30 rfl rfl (by decide) (fun _ => rfl) rfl h3 ?_
      have g3 := rdR_lt h3
      replace h := Option.bind_eq_some_iff.mp h
      obtain ⟨q4, h4, h⟩ := h
      refine Vm.callVv (Y := mX7_readSpot) (n := 47) [.inr (.inr (5, k3))] dX7_lies_44 rfl wv_RX7_171 omX7_readSpot rfl in_7 rfl rfl rfl (Nat.le_of_ble_eq_true rfl) (by decide) (kX7_readSpot k3 (by omega) q2.2 τ h4) ?_
      refine Vm.aload_n (n := 48) 1 dX7_lies_47 rfl rfl ?_
      refine Vm.getR (n := 51) dX7_lies_48 rfl wf_RX7_43 in_7 rfl (by decide) rfl ?_
      refine Vm.aload_n (n := 52) 1 dX7_lies_51 rfl rfl ?_
      refine Vm.getR (n := 55) dX7_lies_52 rfl wf_RX7_64 in_7 rfl (by decide) rfl ?_
      replace h := Option.bind_eq_some_iff.mp h
      obtain ⟨q5, h5, h⟩ := h
      refine Vm.callV (Y := mX2_contains) (n := 58) [.inr (.inr (20, 0))] dX7_lies_55 rfl wv_RX7_321 omX2_contains rfl in_2 rfl rfl rfl (Nat.le_of_ble_eq_true rfl) (by decide) (kX2_contains q4 τ h5) ?_
      refine Vm.if_eq (n := 61) 65 dX7_lies_58 rfl rfl (fun c9 => ?_) (fun c9 => ?_)
      · replace h := (if_pos c9).symm.trans h
        refine Vm.iconst (n := 66) (v := (0 : Int32)) dX7_lies_65 rfl (by decide) ?_
        obtain rfl := Option.some.inj h
        exact Vm.iret dX7_lies_66 rfl hk.1 hk.2.symm
      · replace h := (if_neg c9).symm.trans h
        refine Vm.iconst (n := 62) (v := (1 : Int32)) dX7_lies_61 rfl (by decide) ?_
        refine Vm.goto 66 dX7_lies_62 rfl ?_
        obtain rfl := Option.some.inj h
        exact Vm.iret dX7_lies_66 rfl hk.1 hk.2.symm
    · replace h := (if_pos c9).symm.trans h
      refine Vm.aload_n (n := 32) 1 dX7_lies_31 rfl rfl ?_
      refine Vm.iconst (n := 33) (v := (3 : Int32)) dX7_lies_32 rfl (by decide) ?_
      replace h := Option.bind_eq_some_iff.mp h
      obtain ⟨q6, h6, h⟩ := h
      refine Vm.callV (Y := mX7_finding) (n := 36) [.inl (3 : Int32)] dX7_lies_33 rfl wv_RX7_68 omX7_finding rfl in_7 rfl rfl rfl (Nat.le_of_ble_eq_true rfl) (by decide) (kX7_finding (3 : Int32) q2.2 τ h6) ?_
      obtain rfl := Option.some.inj h
      exact Vm.iret dX7_lies_36 rfl hk.1 hk.2.symm
  · replace h := (if_neg c9).symm.trans h
    refine Vm.aload_n (n := 12) 1 dX7_lies_11 rfl rfl ?_
    refine Vm.iload_n (n := 13) 0 dX7_lies_12 rfl rfl ?_
    replace h := Option.bind_eq_some_iff.mp h
    obtain ⟨q7, h7, h⟩ := h
    refine Vm.callV (Y := mX7_finding) (n := 16) [.inl q1] dX7_lies_13 rfl wv_RX7_68 omX7_finding rfl in_7 rfl rfl rfl (Nat.le_of_ble_eq_true rfl) (by decide) (kX7_finding q1 σ τ h7) ?_
    obtain rfl := Option.some.inj h
    exact Vm.iret dX7_lies_16 rfl hk.1 hk.2.symm
theorem kX7_lies (a1 : Int32) (σ τ : mm) {q : Int32 × mm} (h : fX7_lies a1 σ = some q) : Cx mX7_lies 4 [.inr (.inr (7, 0)), .inl a1] (σ, τ) (some (.inl q.1)) (q.2, τ) :=
  Cx.of (lv := [(0, .inr (.inr (7, 0))), (1, .inl a1)]) (by decide) (fun ad => Nat.le_of_ble_eq_true rfl) (fun ad => rfl) (lX7_lies_0 a1 σ τ h ⟨rfl, rfl⟩)
-- ThinBodies$Reader add (B)V
def fX3_add_0 (a1 : Int32) (σ : mm) : Option (mm) :=
  if (120 : Int32) ≤ (σ.1 3 0 0) then
  some (σ)
  else
  Option.bind (wrI σ 21 0 120 (σ.1 3 0 0) (vp_nar .byte a1)) fun σ1 =>
  Option.bind (some ((σ1.1 3 0 0) + (1 : Int32))) fun x2 =>
  Option.bind (some (stI σ1 3 0 0 x2)) fun σ3 =>
  some (σ3)
def fX3_add (a1 : Int32) (σ : mm) : Option (mm) := fX3_add_0 a1 σ
set_option maxRecDepth 20000 in
theorem lX3_add_0 (a1 : Int32) (σ τ : mm) {r : Option mv} {M' : mm × mm} {v9 : mm} (h : fX3_add_0 a1 σ = some v9) (hk : (fun q : mm => r = none ∧ M' = (q, τ)) v9) : Vm mX3_add 0 0 [(0, .inr (.inr (3, 0))), (1, .inl a1)] [] (σ, τ) r M' := by
  unfold fX3_add_0 at h
  refine Vm.aload_n (n := 1) 0 dX3_add_0 rfl rfl ?_
  refine Vm.gX (n := 4) dX3_add_1 rfl wf_RX3_9 in_3 rfl (by decide) rfl (by decide) ?_
  refine Vm.bipush (n := 6) (v := (120 : Int32)) dX3_add_4 rfl (by decide) ?_
  refine Vm.icmp_ge (n := 9) 29 dX3_add_6 rfl rfl (fun c9 => ?_) (fun c9 => ?_)
  · replace h := (if_pos c9).symm.trans h
    obtain rfl := Option.some.inj h
    exact Vm.vret dX3_add_29 rfl hk.1 hk.2.symm
  · replace h := (if_neg c9).symm.trans h
    refine Vm.aload_n (n := 10) 0 dX3_add_9 rfl rfl ?_
    refine Vm.getR (n := 13) dX3_add_10 rfl wf_RX3_15 in_3 rfl (by decide) rfl ?_
    refine Vm.aload_n (n := 14) 0 dX3_add_13 rfl rfl ?_
    refine Vm.gX (n := 17) dX3_add_14 rfl wf_RX3_9 in_3 rfl (by decide) rfl (by decide) ?_
    refine Vm.iload_n (n := 18) 1 dX3_add_17 rfl rfl ?_
    replace h := Option.bind_eq_some_iff.mp h
    obtain ⟨σ1, h1, h⟩ := h
    refine Vm.bastx (n := 19) dX3_add_18 rfl in_21 rfl rfl (by decide) h1 ?_
    refine Vm.aload_n (n := 20) 0 dX3_add_19 rfl rfl ?_
    refine Vm.dup (n := 21) dX3_add_20 rfl rfl ?_
    refine Vm.gX (n := 24) dX3_add_21 rfl wf_RX3_9 in_3 rfl (by decide) rfl (by decide) ?_
    refine Vm.iconst (n := 25) (v := (1 : Int32)) dX3_add_24 rfl (by decide) ?_
    refine Vm.iadd (n := 26) dX3_add_25 rfl ?_
    replace h := Option.bind_eq_some_iff.mp h
    obtain ⟨x2, e2, h⟩ := h
    replace e2 := Option.some.inj e2
    refine Vm.top e2 ?_
    refine Vm.pX (n := 29) (ty := .int) dX3_add_26 rfl wf_RX3_9 in_3 rfl (by decide) rfl (by decide) rfl rfl rfl rfl ?_
    replace h := Option.bind_eq_some_iff.mp h
    obtain ⟨σ3, e3, h⟩ := h
    replace e3 := Option.some.inj e3
    refine Vm.mem (congrArg (fun z => (z, τ)) e3) ?_
    obtain rfl := Option.some.inj h
    exact Vm.vret dX3_add_29 rfl hk.1 hk.2.symm
theorem kX3_add (a1 : Int32) (σ τ : mm) {q : mm} (h : fX3_add a1 σ = some q) : Cx mX3_add 0 [.inr (.inr (3, 0)), .inl a1] (σ, τ) (none) (q, τ) :=
  Cx.of (lv := [(0, .inr (.inr (3, 0))), (1, .inl a1)]) (by decide) (fun ad => Nat.le_of_ble_eq_true rfl) (fun ad => rfl) (lX3_add_0 a1 σ τ h ⟨rfl, rfl⟩)
-- ThinBodies feed (II)I
noncomputable def fX7_feed_40 (a1 : Int32) (a3 : Int32) (σ : mm) : Option ((Int32 × mm) ⊕ (Int32 × mm)) :=
  if a3 < (0 : Int32) then
  some (.inr ((σ.1 3 0 0, σ)))
  else
  Option.bind (fX3_add ((a1 >>> (((8 : Int32) * a3) &&& 31)).toInt8.toInt32) σ) fun q1 =>
  Option.bind (some (a3 + (-1 : Int32))) fun x2 =>
  some (.inl (x2, q1))
noncomputable def fX7_feed_40_L (a1 : Int32) : Int32 × mm → Option ((Int32 × mm) ⊕ (Int32 × mm)) := fun z => fX7_feed_40 a1 z.1 z.2
noncomputable def fX7_feed_10 (σ : mm) : Option (Int32 × mm) :=
  Option.bind (fX7_finding (0 : Int32) σ) fun q1 =>
  some ((q1.1, q1.2))
noncomputable def fX7_feed_0 (a1 : Int32) (a2 : Int32) (σ : mm) : Option (Int32 × mm) :=
  if a2 < (1 : Int32) then
  fX7_feed_10 σ
  else
  if a2 ≤ (4 : Int32) then
  if ((σ.1 3 0 0) + a2) ≤ (120 : Int32) then
  Option.bind (some (a2 - (1 : Int32))) fun x1 =>
  lp (fX7_feed_40_L a1) (x1, σ)
  else
  Option.bind (fX7_finding (1 : Int32) σ) fun q2 =>
  some ((q2.1, q2.2))
  else
  fX7_feed_10 σ
noncomputable def fX7_feed (a1 : Int32) (a2 : Int32) (σ : mm) : Option (Int32 × mm) := fX7_feed_0 a1 a2 σ
set_option maxRecDepth 20000 in
theorem lX7_feed_40 (a1 : Int32) (a3 : Int32) (σ τ : mm) {r : Option mv} {M' : mm × mm} {v9 : (Int32 × mm) ⊕ (Int32 × mm)} (h : fX7_feed_40 a1 a3 σ = some v9) (hk : (Sum.elim (fun z : Int32 × mm => Vm mX7_feed 1 40 [(0, .inr (.inr (7, 0))), (1, .inl a1), (3, .inl z.1)] [] (z.2, τ) r M') (fun q : Int32 × mm => r = some (.inl q.1) ∧ M' = (q.2, τ))) v9) : Vm mX7_feed 1 40 [(0, .inr (.inr (7, 0))), (1, .inl a1), (3, .inl a3)] [] (σ, τ) r M' := by
  unfold fX7_feed_40 at h
  refine Vm.iload_n (n := 41) 2 dX7_feed_40 rfl rfl ?_
  refine Vm.if_lt (n := 44) 64 dX7_feed_41 rfl rfl (fun c9 => ?_) (fun c9 => ?_)
  · replace h := (if_pos c9).symm.trans h
    refine Vm.aload_n (n := 65) 0 dX7_feed_64 rfl rfl ?_
    refine Vm.getR (n := 68) dX7_feed_65 rfl wf_RX7_50 in_7 rfl (by decide) rfl ?_
    refine Vm.gX (n := 71) dX7_feed_68 rfl wf_RX7_325 in_3 rfl (by decide) rfl (by decide) ?_
    obtain rfl := Option.some.inj h
    exact Vm.iret dX7_feed_71 rfl hk.1 hk.2.symm
  · replace h := (if_neg c9).symm.trans h
    refine Vm.aload_n (n := 45) 0 dX7_feed_44 rfl rfl ?_
    refine Vm.getR (n := 48) dX7_feed_45 rfl wf_RX7_50 in_7 rfl (by decide) rfl ?_
    refine Vm.iload_n (n := 49) 1 dX7_feed_48 rfl rfl ?_
    refine Vm.bipush (n := 51) (v := (8 : Int32)) dX7_feed_49 rfl (by decide) ?_
    refine Vm.iload_n (n := 52) 2 dX7_feed_51 rfl rfl ?_
    refine Vm.imul (n := 53) dX7_feed_52 rfl ?_
    refine Vm.ishr (n := 54) dX7_feed_53 rfl ?_
    refine Vm.i2b (n := 55) dX7_feed_54 rfl ?_
    replace h := Option.bind_eq_some_iff.mp h
    obtain ⟨q1, h1, h⟩ := h
    refine Vm.callVv (Y := mX3_add) (n := 58) [.inl ((a1 >>> (((8 : Int32) * a3) &&& 31)).toInt8.toInt32)] dX7_feed_55 rfl wv_RX7_328 omX3_add rfl in_3 rfl rfl rfl (Nat.le_of_ble_eq_true rfl) (by decide) (kX3_add ((a1 >>> (((8 : Int32) * a3) &&& 31)).toInt8.toInt32) σ τ h1) ?_
    replace h := Option.bind_eq_some_iff.mp h
    obtain ⟨x2, e2, h⟩ := h
    replace e2 := Option.some.inj e2
    refine Vm.iinc (n := 61) (v := x2) (lv' := [(3, .inl x2), (0, .inr (.inr (7, 0))), (1, .inl a1)]) 2 dX7_feed_58 rfl rfl e2 (Nat.le_of_ble_eq_true rfl) rfl ?_
    refine Vm.goto 40 dX7_feed_61 rfl ?_
    refine Vm.sub (lv' := [(0, .inr (.inr (7, 0))), (1, .inl a1), (3, .inl x2)]) [1, 2, 0] rfl ?_
    obtain rfl := Option.some.inj h
    exact hk
theorem lX7_feed_40_L (a1 : Int32) (τ : mm) {r : Option mv} {M' : mm × mm} (z : Int32 × mm) (w9 : Int32 × mm) (h : lp (fX7_feed_40_L a1) z = some w9) (hk : (fun q : Int32 × mm => r = some (.inl q.1) ∧ M' = (q.2, τ)) w9) : Vm mX7_feed 1 40 [(0, .inr (.inr (7, 0))), (1, .inl a1), (3, .inl z.1)] [] (z.2, τ) r M' :=
  lp_link (S := Int32 × mm) (R := Int32 × mm) (body := fX7_feed_40_L a1) (A := fun z : Int32 × mm => Vm mX7_feed 1 40 [(0, .inr (.inr (7, 0))), (1, .inl a1), (3, .inl z.1)] [] (z.2, τ) r M') (B := fun w : Int32 × mm => (fun q : Int32 × mm => r = some (.inl q.1) ∧ M' = (q.2, τ)) w) (fun z v hb hv => lX7_feed_40 a1 z.1 z.2 τ hb hv) z w9 h hk
set_option maxRecDepth 20000 in
theorem lX7_feed_10 (σ τ : mm) {r : Option mv} {M' : mm × mm} {v9 : Int32 × mm} (h : fX7_feed_10 σ = some v9) (hk : (fun q : Int32 × mm => r = some (.inl q.1) ∧ M' = (q.2, τ)) v9) : Vm mX7_feed 1 10 [(0, .inr (.inr (7, 0)))] [] (σ, τ) r M' := by
  unfold fX7_feed_10 at h
  refine Vm.aload_n (n := 11) 0 dX7_feed_10 rfl rfl ?_
  refine Vm.iconst (n := 12) (v := (0 : Int32)) dX7_feed_11 rfl (by decide) ?_
  replace h := Option.bind_eq_some_iff.mp h
  obtain ⟨q1, h1, h⟩ := h
  refine Vm.callV (Y := mX7_finding) (n := 15) [.inl (0 : Int32)] dX7_feed_12 rfl wv_RX7_68 omX7_finding rfl in_7 rfl rfl rfl (Nat.le_of_ble_eq_true rfl) (by decide) (kX7_finding (0 : Int32) σ τ h1) ?_
  obtain rfl := Option.some.inj h
  exact Vm.iret dX7_feed_15 rfl hk.1 hk.2.symm
set_option maxRecDepth 20000 in
theorem lX7_feed_0 (a1 : Int32) (a2 : Int32) (σ τ : mm) {r : Option mv} {M' : mm × mm} {v9 : Int32 × mm} (h : fX7_feed_0 a1 a2 σ = some v9) (hk : (fun q : Int32 × mm => r = some (.inl q.1) ∧ M' = (q.2, τ)) v9) : Vm mX7_feed 1 0 [(0, .inr (.inr (7, 0))), (1, .inl a1), (2, .inl a2)] [] (σ, τ) r M' := by
  unfold fX7_feed_0 at h
  refine Vm.iload_n (n := 1) 2 dX7_feed_0 rfl rfl ?_
  refine Vm.iconst (n := 2) (v := (1 : Int32)) dX7_feed_1 rfl (by decide) ?_
  refine Vm.icmp_lt (n := 5) 10 dX7_feed_2 rfl rfl (fun c9 => ?_) (fun c9 => ?_)
  · replace h := (if_pos c9).symm.trans h
    refine Vm.sub (lv' := [(0, .inr (.inr (7, 0)))]) [0] rfl ?_
    exact lX7_feed_10 σ τ h hk
  · replace h := (if_neg c9).symm.trans h
    refine Vm.iload_n (n := 6) 2 dX7_feed_5 rfl rfl ?_
    refine Vm.iconst (n := 7) (v := (4 : Int32)) dX7_feed_6 rfl (by decide) ?_
    refine Vm.icmp_le (n := 10) 16 dX7_feed_7 rfl rfl (fun c9 => ?_) (fun c9 => ?_)
    · replace h := (if_pos c9).symm.trans h
      refine Vm.aload_n (n := 17) 0 dX7_feed_16 rfl rfl ?_
      refine Vm.getR (n := 20) dX7_feed_17 rfl wf_RX7_50 in_7 rfl (by decide) rfl ?_
      refine Vm.gX (n := 23) dX7_feed_20 rfl wf_RX7_325 in_3 rfl (by decide) rfl (by decide) ?_
      refine Vm.iload_n (n := 24) 2 dX7_feed_23 rfl rfl ?_
      refine Vm.iadd (n := 25) dX7_feed_24 rfl ?_
      refine Vm.bipush (n := 27) (v := (120 : Int32)) dX7_feed_25 rfl (by decide) ?_
      refine Vm.icmp_le (n := 30) 36 dX7_feed_27 rfl rfl (fun c9 => ?_) (fun c9 => ?_)
      · replace h := (if_pos c9).symm.trans h
        refine Vm.iload_n (n := 37) 2 dX7_feed_36 rfl rfl ?_
        refine Vm.iconst (n := 38) (v := (1 : Int32)) dX7_feed_37 rfl (by decide) ?_
        refine Vm.isub (n := 39) dX7_feed_38 rfl ?_
        replace h := Option.bind_eq_some_iff.mp h
        obtain ⟨x1, e1, h⟩ := h
        replace e1 := Option.some.inj e1
        refine Vm.top e1 ?_
        refine Vm.istore_n (n := 40) (lv' := [(3, .inl x1), (0, .inr (.inr (7, 0))), (1, .inl a1), (2, .inl a2)]) dX7_feed_39 rfl (Nat.le_of_ble_eq_true rfl) rfl ?_
        refine Vm.sub (lv' := [(0, .inr (.inr (7, 0))), (1, .inl a1), (3, .inl x1)]) [1, 2, 0] rfl ?_
        exact lX7_feed_40_L a1 τ (x1, σ) _ h hk
      · replace h := (if_neg c9).symm.trans h
        refine Vm.aload_n (n := 31) 0 dX7_feed_30 rfl rfl ?_
        refine Vm.iconst (n := 32) (v := (1 : Int32)) dX7_feed_31 rfl (by decide) ?_
        replace h := Option.bind_eq_some_iff.mp h
        obtain ⟨q2, h2, h⟩ := h
        refine Vm.callV (Y := mX7_finding) (n := 35) [.inl (1 : Int32)] dX7_feed_32 rfl wv_RX7_68 omX7_finding rfl in_7 rfl rfl rfl (Nat.le_of_ble_eq_true rfl) (by decide) (kX7_finding (1 : Int32) σ τ h2) ?_
        obtain rfl := Option.some.inj h
        exact Vm.iret dX7_feed_35 rfl hk.1 hk.2.symm
    · replace h := (if_neg c9).symm.trans h
      refine Vm.sub (lv' := [(0, .inr (.inr (7, 0)))]) [0] rfl ?_
      exact lX7_feed_10 σ τ h hk
theorem kX7_feed (a1 : Int32) (a2 : Int32) (σ τ : mm) {q : Int32 × mm} (h : fX7_feed a1 a2 σ = some q) : Cx mX7_feed 1 [.inr (.inr (7, 0)), .inl a1, .inl a2] (σ, τ) (some (.inl q.1)) (q.2, τ) :=
  Cx.of (lv := [(0, .inr (.inr (7, 0))), (1, .inl a1), (2, .inl a2)]) (by decide) (fun ad => Nat.le_of_ble_eq_true rfl) (fun ad => rfl) (lX7_feed_0 a1 a2 σ τ h ⟨rfl, rfl⟩)
-- ThinBodies wipe ()I
def fX7_wipe_0 (σ : mm) : Int32 × mm :=
  (σ.1 3 0 0, (stI σ 3 0 0 (0 : Int32)))
def fX7_wipe (σ : mm) : Int32 × mm := fX7_wipe_0 σ
set_option maxRecDepth 20000 in
theorem lX7_wipe_0 (σ τ : mm) {r : Option mv} {M' : mm × mm} {v9 : Int32 × mm} (h : fX7_wipe_0 σ = v9) (hk : (fun q : Int32 × mm => r = some (.inl q.1) ∧ M' = (q.2, τ)) v9) : Vm mX7_wipe 0 0 [(0, .inr (.inr (7, 0)))] [] (σ, τ) r M' := by
  unfold fX7_wipe_0 at h
  refine Vm.aload_n (n := 1) 0 dX7_wipe_0 rfl rfl ?_
  refine Vm.getR (n := 4) dX7_wipe_1 rfl wf_RX7_50 in_7 rfl (by decide) rfl ?_
  refine Vm.gX (n := 7) dX7_wipe_4 rfl wf_RX7_325 in_3 rfl (by decide) rfl (by decide) ?_
  refine Vm.istore_n (n := 8) (lv' := [(1, .inl (σ.1 3 0 0)), (0, .inr (.inr (7, 0)))]) dX7_wipe_7 rfl (Nat.le_of_ble_eq_true rfl) rfl ?_
  refine Vm.aload_n (n := 9) 1 dX7_wipe_8 rfl rfl ?_
  refine Vm.getR (n := 12) dX7_wipe_9 rfl wf_RX7_50 in_7 rfl (by decide) rfl ?_
  refine Vm.iconst (n := 13) (v := (0 : Int32)) dX7_wipe_12 rfl (by decide) ?_
  refine Vm.pX (n := 16) (ty := .int) dX7_wipe_13 rfl wf_RX7_325 in_3 rfl (by decide) rfl (by decide) rfl rfl rfl rfl ?_
  refine Vm.iload_n (n := 17) 0 dX7_wipe_16 rfl rfl ?_
  subst h
  exact Vm.iret dX7_wipe_17 rfl hk.1 hk.2.symm
theorem kX7_wipe (σ τ : mm) {q : Int32 × mm} (h : fX7_wipe σ = q) : Cx mX7_wipe 0 [.inr (.inr (7, 0))] (σ, τ) (some (.inl q.1)) (q.2, τ) :=
  Cx.of (lv := [(0, .inr (.inr (7, 0)))]) (by decide) (fun ad => Nat.le_of_ble_eq_true rfl) (fun ad => rfl) (lX7_wipe_0 σ τ h ⟨rfl, rfl⟩)
-- ThinBodies$Row take (LThinBodies$Row;)V
def fX4_take_0 (a0 : Nat) (a1 : Nat) (σ : mm) : Option (mm) :=
  Option.bind (some (σ.1 4 a1 0)) fun x1 =>
  Option.bind (some (stI σ 4 a0 0 x1)) fun σ2 =>
  Option.bind (some (σ2.1 4 a1 1)) fun x3 =>
  Option.bind (some (stI σ2 4 a0 1 x3)) fun σ4 =>
  Option.bind (some (σ4.1 4 a1 2)) fun x5 =>
  Option.bind (some (stI σ4 4 a0 2 x5)) fun σ6 =>
  Option.bind (cpI σ6 10 a1 4 10 a0 4 (0 : Int32) (0 : Int32) (4 : Int32)) fun σ7 =>
  some (σ7)
def fX4_take (a0 : Nat) (a1 : Nat) (σ : mm) : Option (mm) := fX4_take_0 a0 a1 σ
set_option maxRecDepth 20000 in
theorem lX4_take_0 (a0 : Nat) (ha0 : a0 < 24) (a1 : Nat) (ha1 : a1 < 24) (σ τ : mm) {r : Option mv} {M' : mm × mm} {v9 : mm} (h : fX4_take_0 a0 a1 σ = some v9) (hk : (fun q : mm => r = none ∧ M' = (q, τ)) v9) : Vm mX4_take 1 0 [(0, .inr (.inr (4, a0))), (1, .inr (.inr (4, a1)))] [] (σ, τ) r M' := by
  unfold fX4_take_0 at h
  refine Vm.aload_n (n := 1) 0 dX4_take_0 rfl rfl ?_
  refine Vm.aload_n (n := 2) 1 dX4_take_1 rfl rfl ?_
  refine Vm.gX (n := 5) dX4_take_2 rfl wf_RX4_9 (ink ik_4 (by omega)) rfl (by decide) rfl (by decide) ?_
  replace h := Option.bind_eq_some_iff.mp h
  obtain ⟨x1, e1, h⟩ := h
  replace e1 := Option.some.inj e1
  refine Vm.top e1 ?_
  refine Vm.pX (n := 8) (ty := .int) dX4_take_5 rfl wf_RX4_9 (ink ik_4 (by omega)) rfl (by decide) rfl (by decide) rfl rfl rfl rfl ?_
  replace h := Option.bind_eq_some_iff.mp h
  obtain ⟨σ2, e2, h⟩ := h
  replace e2 := Option.some.inj e2
  refine Vm.mem (congrArg (fun z => (z, τ)) e2) ?_
  refine Vm.aload_n (n := 9) 0 dX4_take_8 rfl rfl ?_
  refine Vm.aload_n (n := 10) 1 dX4_take_9 rfl rfl ?_
  refine Vm.gX (n := 13) dX4_take_10 rfl wf_RX4_15 (ink ik_4 (by omega)) rfl (by decide) rfl (by decide) ?_
  replace h := Option.bind_eq_some_iff.mp h
  obtain ⟨x3, e3, h⟩ := h
  replace e3 := Option.some.inj e3
  refine Vm.top e3 ?_
  refine Vm.pX (n := 16) (ty := .int) dX4_take_13 rfl wf_RX4_15 (ink ik_4 (by omega)) rfl (by decide) rfl (by decide) rfl rfl rfl rfl ?_
  replace h := Option.bind_eq_some_iff.mp h
  obtain ⟨σ4, e4, h⟩ := h
  replace e4 := Option.some.inj e4
  refine Vm.mem (congrArg (fun z => (z, τ)) e4) ?_
  refine Vm.aload_n (n := 17) 0 dX4_take_16 rfl rfl ?_
  refine Vm.aload_n (n := 18) 1 dX4_take_17 rfl rfl ?_
  refine Vm.gX (n := 21) dX4_take_18 rfl wf_RX4_18 (ink ik_4 (by omega)) rfl (by decide) rfl (by decide) ?_
  replace h := Option.bind_eq_some_iff.mp h
  obtain ⟨x5, e5, h⟩ := h
  replace e5 := Option.some.inj e5
  refine Vm.top e5 ?_
  refine Vm.pX (n := 24) (ty := .int) dX4_take_21 rfl wf_RX4_18 (ink ik_4 (by omega)) rfl (by decide) rfl (by decide) rfl rfl rfl rfl ?_
  replace h := Option.bind_eq_some_iff.mp h
  obtain ⟨σ6, e6, h⟩ := h
  replace e6 := Option.some.inj e6
  refine Vm.mem (congrArg (fun z => (z, τ)) e6) ?_
  refine Vm.aload_n (n := 25) 1 dX4_take_24 rfl rfl ?_
  refine Vm.getR (n := 28) dX4_take_25 rfl wf_RX4_21 (ink ik_4 (by omega)) rfl (by decide) rfl ?_
  refine Vm.iconst (n := 29) (v := (0 : Int32)) dX4_take_28 rfl (by decide) ?_
  refine Vm.aload_n (n := 30) 0 dX4_take_29 rfl rfl ?_
  refine Vm.getR (n := 33) dX4_take_30 rfl wf_RX4_21 (ink ik_4 (by omega)) rfl (by decide) rfl ?_
  refine Vm.iconst (n := 34) (v := (0 : Int32)) dX4_take_33 rfl (by decide) ?_
  refine Vm.iconst (n := 35) (v := (4 : Int32)) dX4_take_34 rfl (by decide) ?_
  replace h := Option.bind_eq_some_iff.mp h
  obtain ⟨σ7, h7, h⟩ := h
  refine Vm.aci (n := 38) dX4_take_35 rfl wy_RX4_25 (ink ik_10 (by omega)) rfl rfl (by decide) (ink ik_10 (by omega)) rfl rfl (by decide) (Nat.le_of_ble_eq_true rfl) (by decide) h7 ?_
  obtain rfl := Option.some.inj h
  exact Vm.vret dX4_take_38 rfl hk.1 hk.2.symm
theorem kX4_take (a0 : Nat) (ha0 : a0 < 24) (a1 : Nat) (ha1 : a1 < 24) (σ τ : mm) {q : mm} (h : fX4_take a0 a1 σ = some q) : Cx mX4_take 1 [.inr (.inr (4, a0)), .inr (.inr (4, a1))] (σ, τ) (none) (q, τ) :=
  Cx.of (lv := [(0, .inr (.inr (4, a0))), (1, .inr (.inr (4, a1)))]) (by decide) (fun ad => Nat.le_of_ble_eq_true rfl) (fun ad => rfl) (lX4_take_0 a0 ha0 a1 ha1 σ τ h ⟨rfl, rfl⟩)
-- ThinBodies$Body take (LThinBodies$Body;)V
noncomputable def fX0_take_75 (a0 : Nat) (a1 : Nat) (a2 : Int32) (σ : mm) : Option ((Int32 × mm) ⊕ (mm)) :=
  if (4 : Int32) ≤ a2 then
  some (.inr (σ))
  else
  Option.bind (rdR 4 a2) fun k1 =>
  Option.bind (rdR 4 a2) fun k2 =>
  Option.bind (cpI σ 11 (4 * a1 + k1) 4 11 (4 * a0 + k2) 4 (0 : Int32) (0 : Int32) (4 : Int32)) fun σ3 =>
  Option.bind (some (a2 + (1 : Int32))) fun x4 =>
  some (.inl (x4, σ3))
noncomputable def fX0_take_75_L (a0 : Nat) (a1 : Nat) : Int32 × mm → Option ((Int32 × mm) ⊕ (mm)) := fun z => fX0_take_75 a0 a1 z.1 z.2
noncomputable def fX0_take_46 (a0 : Nat) (a1 : Nat) (a2 : Int32) (σ : mm) : Option ((Int32 × mm) ⊕ (mm)) :=
  if (8 : Int32) ≤ a2 then
  Option.map Sum.inr (lp (fX0_take_75_L a0 a1) ((0 : Int32), σ))
  else
  Option.bind (rdR 8 a2) fun k1 =>
  Option.bind (rdR 8 a2) fun k2 =>
  Option.bind (fX4_take (8 * a0 + k1) (8 * a1 + k2) σ) fun q3 =>
  Option.bind (some (a2 + (1 : Int32))) fun x4 =>
  some (.inl (x4, q3))
noncomputable def fX0_take_46_L (a0 : Nat) (a1 : Nat) : Int32 × mm → Option ((Int32 × mm) ⊕ (mm)) := fun z => fX0_take_46 a0 a1 z.1 z.2
noncomputable def fX0_take_0 (a0 : Nat) (a1 : Nat) (σ : mm) : Option (mm) :=
  Option.bind (some (σ.1 0 a1 0)) fun x1 =>
  Option.bind (some (stI σ 0 a0 0 x1)) fun σ2 =>
  Option.bind (some (σ2.1 0 a1 4)) fun x3 =>
  Option.bind (some (stI σ2 0 a0 4 x3)) fun σ4 =>
  Option.bind (cpI σ4 8 a1 4 8 a0 4 (0 : Int32) (0 : Int32) (4 : Int32)) fun σ5 =>
  Option.bind (cpI σ5 9 a1 4 9 a0 4 (0 : Int32) (0 : Int32) (4 : Int32)) fun σ6 =>
  lp (fX0_take_46_L a0 a1) ((0 : Int32), σ6)
noncomputable def fX0_take (a0 : Nat) (a1 : Nat) (σ : mm) : Option (mm) := fX0_take_0 a0 a1 σ
set_option maxRecDepth 20000 in
theorem lX0_take_75 (a0 : Nat) (ha0 : a0 < 3) (a1 : Nat) (ha1 : a1 < 3) (a2 : Int32) (σ τ : mm) {r : Option mv} {M' : mm × mm} {v9 : (Int32 × mm) ⊕ (mm)} (h : fX0_take_75 a0 a1 a2 σ = some v9) (hk : (Sum.elim (fun z : Int32 × mm => Vm mX0_take 2 75 [(0, .inr (.inr (0, a0))), (1, .inr (.inr (0, a1))), (2, .inl z.1)] [] (z.2, τ) r M') (fun q : mm => r = none ∧ M' = (q, τ))) v9) : Vm mX0_take 2 75 [(0, .inr (.inr (0, a0))), (1, .inr (.inr (0, a1))), (2, .inl a2)] [] (σ, τ) r M' := by
  unfold fX0_take_75 at h
  refine Vm.iload_n (n := 76) 2 dX0_take_75 rfl rfl ?_
  refine Vm.iconst (n := 77) (v := (4 : Int32)) dX0_take_76 rfl (by decide) ?_
  refine Vm.icmp_ge (n := 80) 104 dX0_take_77 rfl rfl (fun c9 => ?_) (fun c9 => ?_)
  · replace h := (if_pos c9).symm.trans h
    obtain rfl := Option.some.inj h
    exact Vm.vret dX0_take_104 rfl hk.1 hk.2.symm
  · replace h := (if_neg c9).symm.trans h
    refine Vm.aload_n (n := 81) 1 dX0_take_80 rfl rfl ?_
    refine Vm.getR (n := 84) dX0_take_81 rfl wf_RX0_33 (ink ik_0 (by omega)) rfl (by decide) rfl ?_
    refine Vm.iload_n (n := 85) 2 dX0_take_84 rfl rfl ?_
    replace h := Option.bind_eq_some_iff.mp h
    obtain ⟨k1, h1, h⟩ := h
    refine Vm.aald (n := 86) dX0_take_85 rfl (ink ik_28 (by omega)) rfl rfl (by decide) (fun _ => rfl) rfl h1 ?_
    have g1 := rdR_lt h1
    refine Vm.iconst (n := 87) (v := (0 : Int32)) dX0_take_86 rfl (by decide) ?_
    refine Vm.aload_n (n := 88) 0 dX0_take_87 rfl rfl ?_
    refine Vm.getR (n := 91) dX0_take_88 rfl wf_RX0_33 (ink ik_0 (by omega)) rfl (by decide) rfl ?_
    refine Vm.iload_n (n := 92) 2 dX0_take_91 rfl rfl ?_
    replace h := Option.bind_eq_some_iff.mp h
    obtain ⟨k2, h2, h⟩ := h
    refine Vm.aald (n := 93) dX0_take_92 rfl (ink ik_28 (by omega)) rfl rfl (by decide) (fun _ => rfl) rfl h2 ?_
    have g2 := rdR_lt h2
    refine Vm.iconst (n := 94) (v := (0 : Int32)) dX0_take_93 rfl (by decide) ?_
    refine Vm.iconst (n := 95) (v := (4 : Int32)) dX0_take_94 rfl (by decide) ?_
    replace h := Option.bind_eq_some_iff.mp h
    obtain ⟨σ3, h3, h⟩ := h
    refine Vm.aci (n := 98) dX0_take_95 rfl wy_RX0_40 (ink ik_11 (by omega)) rfl rfl (by decide) (ink ik_11 (by omega)) rfl rfl (by decide) (Nat.le_of_ble_eq_true rfl) (by decide) h3 ?_
    replace h := Option.bind_eq_some_iff.mp h
    obtain ⟨x4, e4, h⟩ := h
    replace e4 := Option.some.inj e4
    refine Vm.iinc (n := 101) (v := x4) (lv' := [(2, .inl x4), (0, .inr (.inr (0, a0))), (1, .inr (.inr (0, a1)))]) 2 dX0_take_98 rfl rfl e4 (Nat.le_of_ble_eq_true rfl) rfl ?_
    refine Vm.goto 75 dX0_take_101 rfl ?_
    refine Vm.sub (lv' := [(0, .inr (.inr (0, a0))), (1, .inr (.inr (0, a1))), (2, .inl x4)]) [1, 2, 0] rfl ?_
    obtain rfl := Option.some.inj h
    exact hk
theorem lX0_take_75_L (a0 : Nat) (ha0 : a0 < 3) (a1 : Nat) (ha1 : a1 < 3) (τ : mm) {r : Option mv} {M' : mm × mm} (z : Int32 × mm) (w9 : mm) (h : lp (fX0_take_75_L a0 a1) z = some w9) (hk : (fun q : mm => r = none ∧ M' = (q, τ)) w9) : Vm mX0_take 2 75 [(0, .inr (.inr (0, a0))), (1, .inr (.inr (0, a1))), (2, .inl z.1)] [] (z.2, τ) r M' :=
  lp_link (S := Int32 × mm) (R := mm) (body := fX0_take_75_L a0 a1) (A := fun z : Int32 × mm => Vm mX0_take 2 75 [(0, .inr (.inr (0, a0))), (1, .inr (.inr (0, a1))), (2, .inl z.1)] [] (z.2, τ) r M') (B := fun w : mm => (fun q : mm => r = none ∧ M' = (q, τ)) w) (fun z v hb hv => lX0_take_75 a0 ha0 a1 ha1 z.1 z.2 τ hb hv) z w9 h hk
set_option maxRecDepth 20000 in
theorem lX0_take_46 (a0 : Nat) (ha0 : a0 < 3) (a1 : Nat) (ha1 : a1 < 3) (a2 : Int32) (σ τ : mm) {r : Option mv} {M' : mm × mm} {v9 : (Int32 × mm) ⊕ (mm)} (h : fX0_take_46 a0 a1 a2 σ = some v9) (hk : (Sum.elim (fun z : Int32 × mm => Vm mX0_take 2 46 [(0, .inr (.inr (0, a0))), (1, .inr (.inr (0, a1))), (2, .inl z.1)] [] (z.2, τ) r M') (fun q : mm => r = none ∧ M' = (q, τ))) v9) : Vm mX0_take 2 46 [(0, .inr (.inr (0, a0))), (1, .inr (.inr (0, a1))), (2, .inl a2)] [] (σ, τ) r M' := by
  unfold fX0_take_46 at h
  refine Vm.iload_n (n := 47) 2 dX0_take_46 rfl rfl ?_
  refine Vm.bipush (n := 49) (v := (8 : Int32)) dX0_take_47 rfl (by decide) ?_
  refine Vm.icmp_ge (n := 52) 73 dX0_take_49 rfl rfl (fun c9 => ?_) (fun c9 => ?_)
  · replace h := (if_pos c9).symm.trans h
    refine Vm.iconst (n := 74) (v := (0 : Int32)) dX0_take_73 rfl (by decide) ?_
    refine Vm.istore_n (n := 75) (lv' := [(2, .inl (0 : Int32)), (0, .inr (.inr (0, a0))), (1, .inr (.inr (0, a1)))]) dX0_take_74 rfl (Nat.le_of_ble_eq_true rfl) rfl ?_
    refine Vm.sub (lv' := [(0, .inr (.inr (0, a0))), (1, .inr (.inr (0, a1))), (2, .inl (0 : Int32))]) [1, 2, 0] rfl ?_
    replace h := Option.map_eq_some_iff.mp h
    obtain ⟨w9, h, e8⟩ := h
    subst e8
    exact lX0_take_75_L a0 (by omega) a1 (by omega) τ ((0 : Int32), σ) _ h hk
  · replace h := (if_neg c9).symm.trans h
    refine Vm.aload_n (n := 53) 0 dX0_take_52 rfl rfl ?_
    refine Vm.getR (n := 56) dX0_take_53 rfl wf_RX0_24 (ink ik_0 (by omega)) rfl (by decide) rfl ?_
    refine Vm.iload_n (n := 57) 2 dX0_take_56 rfl rfl ?_
    replace h := Option.bind_eq_some_iff.mp h
    obtain ⟨k1, h1, h⟩ := h
    refine Vm.aald (n := 58) dX0_take_57 rfl (ink ik_27 (by omega)) rfl rfl (by decide) (fun _ => rfl) rfl h1 ?_
    have g1 := rdR_lt h1
    refine Vm.aload_n (n := 59) 1 dX0_take_58 rfl rfl ?_
    refine Vm.getR (n := 62) dX0_take_59 rfl wf_RX0_24 (ink ik_0 (by omega)) rfl (by decide) rfl ?_
    refine Vm.iload_n (n := 63) 2 dX0_take_62 rfl rfl ?_
    replace h := Option.bind_eq_some_iff.mp h
    obtain ⟨k2, h2, h⟩ := h
    refine Vm.aald (n := 64) dX0_take_63 rfl (ink ik_27 (by omega)) rfl rfl (by decide) (fun _ => rfl) rfl h2 ?_
    have g2 := rdR_lt h2
    replace h := Option.bind_eq_some_iff.mp h
    obtain ⟨q3, h3, h⟩ := h
    refine Vm.callVv (Y := mX4_take) (n := 67) [.inr (.inr (4, (8 * a1 + k2)))] dX0_take_64 rfl wv_RX0_46 omX4_take rfl (ink ik_4 (by omega)) rfl rfl rfl (Nat.le_of_ble_eq_true rfl) (by decide) (kX4_take (8 * a0 + k1) (by omega) (8 * a1 + k2) (by omega) σ τ h3) ?_
    replace h := Option.bind_eq_some_iff.mp h
    obtain ⟨x4, e4, h⟩ := h
    replace e4 := Option.some.inj e4
    refine Vm.iinc (n := 70) (v := x4) (lv' := [(2, .inl x4), (0, .inr (.inr (0, a0))), (1, .inr (.inr (0, a1)))]) 2 dX0_take_67 rfl rfl e4 (Nat.le_of_ble_eq_true rfl) rfl ?_
    refine Vm.goto 46 dX0_take_70 rfl ?_
    refine Vm.sub (lv' := [(0, .inr (.inr (0, a0))), (1, .inr (.inr (0, a1))), (2, .inl x4)]) [1, 2, 0] rfl ?_
    obtain rfl := Option.some.inj h
    exact hk
theorem lX0_take_46_L (a0 : Nat) (ha0 : a0 < 3) (a1 : Nat) (ha1 : a1 < 3) (τ : mm) {r : Option mv} {M' : mm × mm} (z : Int32 × mm) (w9 : mm) (h : lp (fX0_take_46_L a0 a1) z = some w9) (hk : (fun q : mm => r = none ∧ M' = (q, τ)) w9) : Vm mX0_take 2 46 [(0, .inr (.inr (0, a0))), (1, .inr (.inr (0, a1))), (2, .inl z.1)] [] (z.2, τ) r M' :=
  lp_link (S := Int32 × mm) (R := mm) (body := fX0_take_46_L a0 a1) (A := fun z : Int32 × mm => Vm mX0_take 2 46 [(0, .inr (.inr (0, a0))), (1, .inr (.inr (0, a1))), (2, .inl z.1)] [] (z.2, τ) r M') (B := fun w : mm => (fun q : mm => r = none ∧ M' = (q, τ)) w) (fun z v hb hv => lX0_take_46 a0 ha0 a1 ha1 z.1 z.2 τ hb hv) z w9 h hk
set_option maxRecDepth 20000 in
theorem lX0_take_0 (a0 : Nat) (ha0 : a0 < 3) (a1 : Nat) (ha1 : a1 < 3) (σ τ : mm) {r : Option mv} {M' : mm × mm} {v9 : mm} (h : fX0_take_0 a0 a1 σ = some v9) (hk : (fun q : mm => r = none ∧ M' = (q, τ)) v9) : Vm mX0_take 2 0 [(0, .inr (.inr (0, a0))), (1, .inr (.inr (0, a1)))] [] (σ, τ) r M' := by
  unfold fX0_take_0 at h
  refine Vm.aload_n (n := 1) 0 dX0_take_0 rfl rfl ?_
  refine Vm.aload_n (n := 2) 1 dX0_take_1 rfl rfl ?_
  refine Vm.gX (n := 5) dX0_take_2 rfl wf_RX0_9 (ink ik_0 (by omega)) rfl (by decide) rfl (by decide) ?_
  replace h := Option.bind_eq_some_iff.mp h
  obtain ⟨x1, e1, h⟩ := h
  replace e1 := Option.some.inj e1
  refine Vm.top e1 ?_
  refine Vm.pX (n := 8) (ty := .int) dX0_take_5 rfl wf_RX0_9 (ink ik_0 (by omega)) rfl (by decide) rfl (by decide) rfl rfl rfl rfl ?_
  replace h := Option.bind_eq_some_iff.mp h
  obtain ⟨σ2, e2, h⟩ := h
  replace e2 := Option.some.inj e2
  refine Vm.mem (congrArg (fun z => (z, τ)) e2) ?_
  refine Vm.aload_n (n := 9) 0 dX0_take_8 rfl rfl ?_
  refine Vm.aload_n (n := 10) 1 dX0_take_9 rfl rfl ?_
  refine Vm.gX (n := 13) dX0_take_10 rfl wf_RX0_28 (ink ik_0 (by omega)) rfl (by decide) rfl (by decide) ?_
  replace h := Option.bind_eq_some_iff.mp h
  obtain ⟨x3, e3, h⟩ := h
  replace e3 := Option.some.inj e3
  refine Vm.top e3 ?_
  refine Vm.pX (n := 16) (ty := .int) dX0_take_13 rfl wf_RX0_28 (ink ik_0 (by omega)) rfl (by decide) rfl (by decide) rfl rfl rfl rfl ?_
  replace h := Option.bind_eq_some_iff.mp h
  obtain ⟨σ4, e4, h⟩ := h
  replace e4 := Option.some.inj e4
  refine Vm.mem (congrArg (fun z => (z, τ)) e4) ?_
  refine Vm.aload_n (n := 17) 1 dX0_take_16 rfl rfl ?_
  refine Vm.getR (n := 20) dX0_take_17 rfl wf_RX0_15 (ink ik_0 (by omega)) rfl (by decide) rfl ?_
  refine Vm.iconst (n := 21) (v := (0 : Int32)) dX0_take_20 rfl (by decide) ?_
  refine Vm.aload_n (n := 22) 0 dX0_take_21 rfl rfl ?_
  refine Vm.getR (n := 25) dX0_take_22 rfl wf_RX0_15 (ink ik_0 (by omega)) rfl (by decide) rfl ?_
  refine Vm.iconst (n := 26) (v := (0 : Int32)) dX0_take_25 rfl (by decide) ?_
  refine Vm.iconst (n := 27) (v := (4 : Int32)) dX0_take_26 rfl (by decide) ?_
  replace h := Option.bind_eq_some_iff.mp h
  obtain ⟨σ5, h5, h⟩ := h
  refine Vm.aci (n := 30) dX0_take_27 rfl wy_RX0_40 (ink ik_8 (by omega)) rfl rfl (by decide) (ink ik_8 (by omega)) rfl rfl (by decide) (Nat.le_of_ble_eq_true rfl) (by decide) h5 ?_
  refine Vm.aload_n (n := 31) 1 dX0_take_30 rfl rfl ?_
  refine Vm.getR (n := 34) dX0_take_31 rfl wf_RX0_19 (ink ik_0 (by omega)) rfl (by decide) rfl ?_
  refine Vm.iconst (n := 35) (v := (0 : Int32)) dX0_take_34 rfl (by decide) ?_
  refine Vm.aload_n (n := 36) 0 dX0_take_35 rfl rfl ?_
  refine Vm.getR (n := 39) dX0_take_36 rfl wf_RX0_19 (ink ik_0 (by omega)) rfl (by decide) rfl ?_
  refine Vm.iconst (n := 40) (v := (0 : Int32)) dX0_take_39 rfl (by decide) ?_
  refine Vm.iconst (n := 41) (v := (4 : Int32)) dX0_take_40 rfl (by decide) ?_
  replace h := Option.bind_eq_some_iff.mp h
  obtain ⟨σ6, h6, h⟩ := h
  refine Vm.aci (n := 44) dX0_take_41 rfl wy_RX0_40 (ink ik_9 (by omega)) rfl rfl (by decide) (ink ik_9 (by omega)) rfl rfl (by decide) (Nat.le_of_ble_eq_true rfl) (by decide) h6 ?_
  refine Vm.iconst (n := 45) (v := (0 : Int32)) dX0_take_44 rfl (by decide) ?_
  refine Vm.istore_n (n := 46) (lv' := [(2, .inl (0 : Int32)), (0, .inr (.inr (0, a0))), (1, .inr (.inr (0, a1)))]) dX0_take_45 rfl (Nat.le_of_ble_eq_true rfl) rfl ?_
  refine Vm.sub (lv' := [(0, .inr (.inr (0, a0))), (1, .inr (.inr (0, a1))), (2, .inl (0 : Int32))]) [1, 2, 0] rfl ?_
  exact lX0_take_46_L a0 (by omega) a1 (by omega) τ ((0 : Int32), σ6) _ h hk
theorem kX0_take (a0 : Nat) (ha0 : a0 < 3) (a1 : Nat) (ha1 : a1 < 3) (σ τ : mm) {q : mm} (h : fX0_take a0 a1 σ = some q) : Cx mX0_take 2 [.inr (.inr (0, a0)), .inr (.inr (0, a1))] (σ, τ) (none) (q, τ) :=
  Cx.of (lv := [(0, .inr (.inr (0, a0))), (1, .inr (.inr (0, a1)))]) (by decide) (fun ad => Nat.le_of_ble_eq_true rfl) (fun ad => rfl) (lX0_take_0 a0 ha0 a1 ha1 σ τ h ⟨rfl, rfl⟩)
-- ThinBodies$Reader sortAt (I)I
def fX3_sortAt_49 (a2 : Int32) (σ : mm) : Option (Int32) :=
  if a2 = (59 : Int32) then
  some ((3 : Int32))
  else
  if a2 = (45 : Int32) then
  some ((4 : Int32))
  else
  some ((5 : Int32))
def fX3_sortAt_35 (a2 : Int32) (σ : mm) : Option (Int32) :=
  if a2 < (48 : Int32) then
  fX3_sortAt_49 a2 σ
  else
  if (57 : Int32) < a2 then
  fX3_sortAt_49 a2 σ
  else
  some ((2 : Int32))
def fX3_sortAt_0 (a1 : Int32) (σ : mm) : Option (Int32) :=
  if a1 < (0 : Int32) then
  some ((0 : Int32))
  else
  if a1 < (σ.1 3 0 0) then
  Option.bind (rdI σ 21 0 120 a1) fun x1 =>
  if x1 < (97 : Int32) then
  fX3_sortAt_35 x1 σ
  else
  if (122 : Int32) < x1 then
  fX3_sortAt_35 x1 σ
  else
  some ((1 : Int32))
  else
  some ((0 : Int32))
def fX3_sortAt (a1 : Int32) (σ : mm) : Option (Int32) := fX3_sortAt_0 a1 σ
set_option maxRecDepth 20000 in
theorem lX3_sortAt_49 (a2 : Int32) (σ σ0 τ : mm) (hσ : σ = σ0) {r : Option mv} {M' : mm × mm} {v9 : Int32} (h : fX3_sortAt_49 a2 σ = some v9) (hk : (fun q : Int32 => r = some (.inl q) ∧ M' = (σ0, τ)) v9) : Vm mX3_sortAt 0 49 [(2, .inl a2)] [] (σ, τ) r M' := by
  unfold fX3_sortAt_49 at h
  refine Vm.iload_n (n := 50) 0 dX3_sortAt_49 rfl rfl ?_
  refine Vm.bipush (n := 52) (v := (59 : Int32)) dX3_sortAt_50 rfl (by decide) ?_
  refine Vm.icmp_ne (n := 55) 57 dX3_sortAt_52 rfl rfl (fun c9 => ?_) (fun c9 => ?_)
  · replace h := (if_neg c9).symm.trans h
    refine Vm.iload_n (n := 58) 0 dX3_sortAt_57 rfl rfl ?_
    refine Vm.bipush (n := 60) (v := (45 : Int32)) dX3_sortAt_58 rfl (by decide) ?_
    refine Vm.icmp_ne (n := 63) 67 dX3_sortAt_60 rfl rfl (fun c9 => ?_) (fun c9 => ?_)
    · replace h := (if_neg c9).symm.trans h
      refine Vm.iconst (n := 68) (v := (5 : Int32)) dX3_sortAt_67 rfl (by decide) ?_
      obtain rfl := Option.some.inj h
      exact Vm.iret dX3_sortAt_68 rfl hk.1 (by rw [hσ]; exact hk.2.symm)
    · replace h := (if_pos c9).symm.trans h
      refine Vm.iconst (n := 64) (v := (4 : Int32)) dX3_sortAt_63 rfl (by decide) ?_
      refine Vm.goto 68 dX3_sortAt_64 rfl ?_
      obtain rfl := Option.some.inj h
      exact Vm.iret dX3_sortAt_68 rfl hk.1 (by rw [hσ]; exact hk.2.symm)
  · replace h := (if_pos c9).symm.trans h
    refine Vm.iconst (n := 56) (v := (3 : Int32)) dX3_sortAt_55 rfl (by decide) ?_
    obtain rfl := Option.some.inj h
    exact Vm.iret dX3_sortAt_56 rfl hk.1 (by rw [hσ]; exact hk.2.symm)
set_option maxRecDepth 20000 in
theorem lX3_sortAt_35 (a2 : Int32) (σ σ0 τ : mm) (hσ : σ = σ0) {r : Option mv} {M' : mm × mm} {v9 : Int32} (h : fX3_sortAt_35 a2 σ = some v9) (hk : (fun q : Int32 => r = some (.inl q) ∧ M' = (σ0, τ)) v9) : Vm mX3_sortAt 0 35 [(2, .inl a2)] [] (σ, τ) r M' := by
  unfold fX3_sortAt_35 at h
  refine Vm.iload_n (n := 36) 0 dX3_sortAt_35 rfl rfl ?_
  refine Vm.bipush (n := 38) (v := (48 : Int32)) dX3_sortAt_36 rfl (by decide) ?_
  refine Vm.icmp_lt (n := 41) 49 dX3_sortAt_38 rfl rfl (fun c9 => ?_) (fun c9 => ?_)
  · replace h := (if_pos c9).symm.trans h
    exact lX3_sortAt_49 a2 σ σ0 τ hσ h hk
  · replace h := (if_neg c9).symm.trans h
    refine Vm.iload_n (n := 42) 0 dX3_sortAt_41 rfl rfl ?_
    refine Vm.bipush (n := 44) (v := (57 : Int32)) dX3_sortAt_42 rfl (by decide) ?_
    refine Vm.icmp_gt (n := 47) 49 dX3_sortAt_44 rfl rfl (fun c9 => ?_) (fun c9 => ?_)
    · replace h := (if_pos c9).symm.trans h
      exact lX3_sortAt_49 a2 σ σ0 τ hσ h hk
    · replace h := (if_neg c9).symm.trans h
      refine Vm.iconst (n := 48) (v := (2 : Int32)) dX3_sortAt_47 rfl (by decide) ?_
      obtain rfl := Option.some.inj h
      exact Vm.iret dX3_sortAt_48 rfl hk.1 (by rw [hσ]; exact hk.2.symm)
set_option maxRecDepth 20000 in
theorem lX3_sortAt_0 (a1 : Int32) (σ σ0 τ : mm) (hσ : σ = σ0) {r : Option mv} {M' : mm × mm} {v9 : Int32} (h : fX3_sortAt_0 a1 σ = some v9) (hk : (fun q : Int32 => r = some (.inl q) ∧ M' = (σ0, τ)) v9) : Vm mX3_sortAt 0 0 [(0, .inr (.inr (3, 0))), (1, .inl a1)] [] (σ, τ) r M' := by
  unfold fX3_sortAt_0 at h
  refine Vm.iload_n (n := 1) 1 dX3_sortAt_0 rfl rfl ?_
  refine Vm.if_lt (n := 4) 12 dX3_sortAt_1 rfl rfl (fun c9 => ?_) (fun c9 => ?_)
  · replace h := (if_pos c9).symm.trans h
    refine Vm.iconst (n := 13) (v := (0 : Int32)) dX3_sortAt_12 rfl (by decide) ?_
    obtain rfl := Option.some.inj h
    exact Vm.iret dX3_sortAt_13 rfl hk.1 (by rw [hσ]; exact hk.2.symm)
  · replace h := (if_neg c9).symm.trans h
    refine Vm.iload_n (n := 5) 1 dX3_sortAt_4 rfl rfl ?_
    refine Vm.aload_n (n := 6) 0 dX3_sortAt_5 rfl rfl ?_
    refine Vm.gX (n := 9) dX3_sortAt_6 rfl wf_RX3_9 in_3 rfl (by decide) rfl (by decide) ?_
    refine Vm.icmp_lt (n := 12) 14 dX3_sortAt_9 rfl rfl (fun c9 => ?_) (fun c9 => ?_)
    · replace h := (if_pos c9).symm.trans h
      refine Vm.aload_n (n := 15) 0 dX3_sortAt_14 rfl rfl ?_
      refine Vm.getR (n := 18) dX3_sortAt_15 rfl wf_RX3_15 in_3 rfl (by decide) rfl ?_
      refine Vm.iload_n (n := 19) 1 dX3_sortAt_18 rfl rfl ?_
      replace h := Option.bind_eq_some_iff.mp h
      obtain ⟨x1, h1, h⟩ := h
      refine Vm.baldx (n := 20) dX3_sortAt_19 rfl in_21 rfl rfl (by decide) h1 ?_
      refine Vm.istore_n (n := 21) (lv' := [(2, .inl x1), (0, .inr (.inr (3, 0))), (1, .inl a1)]) dX3_sortAt_20 rfl (Nat.le_of_ble_eq_true rfl) rfl ?_
      refine Vm.iload_n (n := 22) 0 dX3_sortAt_21 rfl rfl ?_
      refine Vm.bipush (n := 24) (v := (97 : Int32)) dX3_sortAt_22 rfl (by decide) ?_
      refine Vm.icmp_lt (n := 27) 35 dX3_sortAt_24 rfl rfl (fun c9 => ?_) (fun c9 => ?_)
      · replace h := (if_pos c9).symm.trans h
        refine Vm.sub (lv' := [(2, .inl x1)]) [0] rfl ?_
        exact lX3_sortAt_35 x1 σ σ0 τ hσ h hk
      · replace h := (if_neg c9).symm.trans h
        refine Vm.iload_n (n := 28) 0 dX3_sortAt_27 rfl rfl ?_
        refine Vm.bipush (n := 30) (v := (122 : Int32)) dX3_sortAt_28 rfl (by decide) ?_
        refine Vm.icmp_gt (n := 33) 35 dX3_sortAt_30 rfl rfl (fun c9 => ?_) (fun c9 => ?_)
        · replace h := (if_pos c9).symm.trans h
          refine Vm.sub (lv' := [(2, .inl x1)]) [0] rfl ?_
          exact lX3_sortAt_35 x1 σ σ0 τ hσ h hk
        · replace h := (if_neg c9).symm.trans h
          refine Vm.iconst (n := 34) (v := (1 : Int32)) dX3_sortAt_33 rfl (by decide) ?_
          obtain rfl := Option.some.inj h
          exact Vm.iret dX3_sortAt_34 rfl hk.1 (by rw [hσ]; exact hk.2.symm)
    · replace h := (if_neg c9).symm.trans h
      refine Vm.iconst (n := 13) (v := (0 : Int32)) dX3_sortAt_12 rfl (by decide) ?_
      obtain rfl := Option.some.inj h
      exact Vm.iret dX3_sortAt_13 rfl hk.1 (by rw [hσ]; exact hk.2.symm)
theorem kX3_sortAt (a1 : Int32) (σ τ : mm) {q : Int32} (h : fX3_sortAt a1 σ = some q) : Cx mX3_sortAt 0 [.inr (.inr (3, 0)), .inl a1] (σ, τ) (some (.inl q)) (σ, τ) :=
  Cx.of (lv := [(0, .inr (.inr (3, 0))), (1, .inl a1)]) (by decide) (fun ad => Nat.le_of_ble_eq_true rfl) (fun ad => rfl) (lX3_sortAt_0 a1 σ σ τ rfl h ⟨rfl, rfl⟩)
-- ThinBodies$Reader nextToken ()V
noncomputable def fX3_nextToken_169 (a1 : Int32) (σ : mm) : Option ((mm) ⊕ (mm)) :=
  Option.bind (some ((σ.1 3 0 4) + (1 : Int32))) fun x1 =>
  Option.bind (some (stI σ 3 0 4 x1)) fun σ2 =>
  some (.inl (σ2))
noncomputable def fX3_nextToken_108 (a1 : Int32) (σ : mm) : Option ((mm) ⊕ (mm)) :=
  if a1 ≤ (σ.1 3 0 4) then
  some (.inr (σ))
  else
  Option.bind (fX3_sortAt (σ.1 3 0 4) σ) fun q1 =>
  if q1 = (σ.1 3 0 2) then
  if (σ.1 3 0 2) = (2 : Int32) then
  Option.bind (rdI σ 21 0 120 (σ.1 3 0 4)) fun x2 =>
  Option.bind (some ((fJ9_min_7cf53 ((((σ.1 3 0 5) * (10 : Int32)) + x2) - (48 : Int32)) (1000 : Int32)))) fun x3 =>
  Option.bind (some (stI σ 3 0 5 x3)) fun σ4 =>
  fX3_nextToken_169 a1 σ4
  else
  fX3_nextToken_169 a1 σ
  else
  some (.inr (σ))
noncomputable def fX3_nextToken_108_L (a1 : Int32) : mm → Option ((mm) ⊕ (mm)) := fun z => fX3_nextToken_108 a1 z
noncomputable def fX3_nextToken_107 (s0 : Int32) (σ : mm) : Option (mm) :=
  lp (fX3_nextToken_108_L s0) (σ)
noncomputable def fX3_nextToken_87 (σ : mm) : Option (mm) :=
  fX3_nextToken_107 (σ.1 3 0 0) σ
noncomputable def fX3_nextToken_46 (σ : mm) : Option (mm) :=
  Option.bind (fX3_sortAt (σ.1 3 0 3) σ) fun q1 =>
  Option.bind (some (stI σ 3 0 2 q1)) fun σ2 =>
  Option.bind (some (stI σ2 3 0 5 (0 : Int32))) fun σ3 =>
  Option.bind (some (σ3.1 3 0 3)) fun x4 =>
  Option.bind (some (stI σ3 3 0 4 x4)) fun σ5 =>
  if (σ5.1 3 0 2) = (1 : Int32) then
  fX3_nextToken_87 σ5
  else
  if (σ5.1 3 0 2) = (2 : Int32) then
  fX3_nextToken_87 σ5
  else
  fX3_nextToken_107 (fJ9_min_7cf53 ((σ5.1 3 0 3) + (1 : Int32)) (σ5.1 3 0 0)) σ5
noncomputable def fX3_nextToken_8 (σ : mm) : Option ((mm) ⊕ (mm)) :=
  if (σ.1 3 0 0) ≤ (σ.1 3 0 3) then
  Option.map Sum.inr (fX3_nextToken_46 σ)
  else
  Option.bind (rdI σ 21 0 120 (σ.1 3 0 3)) fun x1 =>
  if x1 = (32 : Int32) then
  Option.bind (some ((σ.1 3 0 3) + (1 : Int32))) fun x2 =>
  Option.bind (some (stI σ 3 0 3 x2)) fun σ3 =>
  some (.inl (σ3))
  else
  Option.map Sum.inr (fX3_nextToken_46 σ)
noncomputable def fX3_nextToken_8_L : mm → Option ((mm) ⊕ (mm)) := fun z => fX3_nextToken_8 z
noncomputable def fX3_nextToken_0 (σ : mm) : Option (mm) :=
  Option.bind (some (σ.1 3 0 4)) fun x1 =>
  Option.bind (some (stI σ 3 0 3 x1)) fun σ2 =>
  lp (fX3_nextToken_8_L) (σ2)
noncomputable def fX3_nextToken (σ : mm) : Option (mm) := fX3_nextToken_0 σ
set_option maxRecDepth 20000 in
theorem lX3_nextToken_169 (a1 : Int32) (σ τ : mm) {r : Option mv} {M' : mm × mm} {v9 : (mm) ⊕ (mm)} (h : fX3_nextToken_169 a1 σ = some v9) (hk : (Sum.elim (fun z : mm => Vm mX3_nextToken 1 108 [(0, .inr (.inr (3, 0))), (1, .inl a1)] [] (z, τ) r M') (fun q : mm => r = none ∧ M' = (q, τ))) v9) : Vm mX3_nextToken 1 169 [(0, .inr (.inr (3, 0))), (1, .inl a1)] [] (σ, τ) r M' := by
  unfold fX3_nextToken_169 at h
  refine Vm.aload_n (n := 170) 0 dX3_nextToken_169 rfl rfl ?_
  refine Vm.dup (n := 171) dX3_nextToken_170 rfl rfl ?_
  refine Vm.gX (n := 174) dX3_nextToken_171 rfl wf_RX3_25 in_3 rfl (by decide) rfl (by decide) ?_
  refine Vm.iconst (n := 175) (v := (1 : Int32)) dX3_nextToken_174 rfl (by decide) ?_
  refine Vm.iadd (n := 176) dX3_nextToken_175 rfl ?_
  replace h := Option.bind_eq_some_iff.mp h
  obtain ⟨x1, e1, h⟩ := h
  replace e1 := Option.some.inj e1
  refine Vm.top e1 ?_
  refine Vm.pX (n := 179) (ty := .int) dX3_nextToken_176 rfl wf_RX3_25 in_3 rfl (by decide) rfl (by decide) rfl rfl rfl rfl ?_
  replace h := Option.bind_eq_some_iff.mp h
  obtain ⟨σ2, e2, h⟩ := h
  replace e2 := Option.some.inj e2
  refine Vm.mem (congrArg (fun z => (z, τ)) e2) ?_
  refine Vm.goto 108 dX3_nextToken_179 rfl ?_
  obtain rfl := Option.some.inj h
  exact hk
set_option maxRecDepth 20000 in
theorem lX3_nextToken_108 (a1 : Int32) (σ τ : mm) {r : Option mv} {M' : mm × mm} {v9 : (mm) ⊕ (mm)} (h : fX3_nextToken_108 a1 σ = some v9) (hk : (Sum.elim (fun z : mm => Vm mX3_nextToken 1 108 [(0, .inr (.inr (3, 0))), (1, .inl a1)] [] (z, τ) r M') (fun q : mm => r = none ∧ M' = (q, τ))) v9) : Vm mX3_nextToken 1 108 [(0, .inr (.inr (3, 0))), (1, .inl a1)] [] (σ, τ) r M' := by
  unfold fX3_nextToken_108 at h
  refine Vm.aload_n (n := 109) 0 dX3_nextToken_108 rfl rfl ?_
  refine Vm.gX (n := 112) dX3_nextToken_109 rfl wf_RX3_25 in_3 rfl (by decide) rfl (by decide) ?_
  refine Vm.iload_n (n := 113) 1 dX3_nextToken_112 rfl rfl ?_
  refine Vm.icmp_ge (n := 116) 182 dX3_nextToken_113 rfl rfl (fun c9 => ?_) (fun c9 => ?_)
  · replace h := (if_pos c9).symm.trans h
    obtain rfl := Option.some.inj h
    exact Vm.vret dX3_nextToken_182 rfl hk.1 hk.2.symm
  · replace h := (if_neg c9).symm.trans h
    refine Vm.aload_n (n := 117) 0 dX3_nextToken_116 rfl rfl ?_
    refine Vm.aload_n (n := 118) 0 dX3_nextToken_117 rfl rfl ?_
    refine Vm.gX (n := 121) dX3_nextToken_118 rfl wf_RX3_25 in_3 rfl (by decide) rfl (by decide) ?_
    replace h := Option.bind_eq_some_iff.mp h
    obtain ⟨q1, h1, h⟩ := h
    refine Vm.callV (Y := mX3_sortAt) (n := 124) [.inl (σ.1 3 0 4)] dX3_nextToken_121 rfl wv_RX3_38 omX3_sortAt rfl in_3 rfl rfl rfl (Nat.le_of_ble_eq_true rfl) (by decide) (kX3_sortAt (σ.1 3 0 4) σ τ h1) ?_
    refine Vm.aload_n (n := 125) 0 dX3_nextToken_124 rfl rfl ?_
    refine Vm.gX (n := 128) dX3_nextToken_125 rfl wf_RX3_19 in_3 rfl (by decide) rfl (by decide) ?_
    refine Vm.icmp_ne (n := 131) 182 dX3_nextToken_128 rfl rfl (fun c9 => ?_) (fun c9 => ?_)
    · replace h := (if_neg c9).symm.trans h
      obtain rfl := Option.some.inj h
      exact Vm.vret dX3_nextToken_182 rfl hk.1 hk.2.symm
    · replace h := (if_pos c9).symm.trans h
      refine Vm.aload_n (n := 132) 0 dX3_nextToken_131 rfl rfl ?_
      refine Vm.gX (n := 135) dX3_nextToken_132 rfl wf_RX3_19 in_3 rfl (by decide) rfl (by decide) ?_
      refine Vm.iconst (n := 136) (v := (2 : Int32)) dX3_nextToken_135 rfl (by decide) ?_
      refine Vm.icmp_ne (n := 139) 169 dX3_nextToken_136 rfl rfl (fun c9 => ?_) (fun c9 => ?_)
      · replace h := (if_neg c9).symm.trans h
        exact lX3_nextToken_169 a1 σ τ h hk
      · replace h := (if_pos c9).symm.trans h
        refine Vm.aload_n (n := 140) 0 dX3_nextToken_139 rfl rfl ?_
        refine Vm.aload_n (n := 141) 0 dX3_nextToken_140 rfl rfl ?_
        refine Vm.gX (n := 144) dX3_nextToken_141 rfl wf_RX3_28 in_3 rfl (by decide) rfl (by decide) ?_
        refine Vm.bipush (n := 146) (v := (10 : Int32)) dX3_nextToken_144 rfl (by decide) ?_
        refine Vm.imul (n := 147) dX3_nextToken_146 rfl ?_
        refine Vm.aload_n (n := 148) 0 dX3_nextToken_147 rfl rfl ?_
        refine Vm.getR (n := 151) dX3_nextToken_148 rfl wf_RX3_15 in_3 rfl (by decide) rfl ?_
        refine Vm.aload_n (n := 152) 0 dX3_nextToken_151 rfl rfl ?_
        refine Vm.gX (n := 155) dX3_nextToken_152 rfl wf_RX3_25 in_3 rfl (by decide) rfl (by decide) ?_
        replace h := Option.bind_eq_some_iff.mp h
        obtain ⟨x2, h2, h⟩ := h
        refine Vm.baldx (n := 156) dX3_nextToken_155 rfl in_21 rfl rfl (by decide) h2 ?_
        refine Vm.iadd (n := 157) dX3_nextToken_156 rfl ?_
        refine Vm.bipush (n := 159) (v := (48 : Int32)) dX3_nextToken_157 rfl (by decide) ?_
        refine Vm.isub (n := 160) dX3_nextToken_159 rfl ?_
        refine Vm.sipush (n := 163) (v := (1000 : Int32)) dX3_nextToken_160 rfl (by decide) ?_
        refine Vm.callS (Y := mJ9_min_7cf53) (n := 166) [.inl ((((σ.1 3 0 5) * (10 : Int32)) + x2) - (48 : Int32)), .inl (1000 : Int32)] dX3_nextToken_163 rfl wv_RX3_42 omJ9_min_7cf53 rfl rfl (Nat.le_of_ble_eq_true rfl) (by decide) (kJ9_min_7cf53 ((((σ.1 3 0 5) * (10 : Int32)) + x2) - (48 : Int32)) (1000 : Int32) rfl) ?_
        replace h := Option.bind_eq_some_iff.mp h
        obtain ⟨x3, e3, h⟩ := h
        replace e3 := Option.some.inj e3
        refine Vm.top e3 ?_
        refine Vm.pX (n := 169) (ty := .int) dX3_nextToken_166 rfl wf_RX3_28 in_3 rfl (by decide) rfl (by decide) rfl rfl rfl rfl ?_
        replace h := Option.bind_eq_some_iff.mp h
        obtain ⟨σ4, e4, h⟩ := h
        replace e4 := Option.some.inj e4
        refine Vm.mem (congrArg (fun z => (z, τ)) e4) ?_
        exact lX3_nextToken_169 a1 σ4 τ h hk
theorem lX3_nextToken_108_L (a1 : Int32) (τ : mm) {r : Option mv} {M' : mm × mm} (z : mm) (w9 : mm) (h : lp (fX3_nextToken_108_L a1) z = some w9) (hk : (fun q : mm => r = none ∧ M' = (q, τ)) w9) : Vm mX3_nextToken 1 108 [(0, .inr (.inr (3, 0))), (1, .inl a1)] [] (z, τ) r M' :=
  lp_link (S := mm) (R := mm) (body := fX3_nextToken_108_L a1) (A := fun z : mm => Vm mX3_nextToken 1 108 [(0, .inr (.inr (3, 0))), (1, .inl a1)] [] (z, τ) r M') (B := fun w : mm => (fun q : mm => r = none ∧ M' = (q, τ)) w) (fun z v hb hv => lX3_nextToken_108 a1 z τ hb hv) z w9 h hk
set_option maxRecDepth 20000 in
theorem lX3_nextToken_107 (s0 : Int32) (σ τ : mm) {r : Option mv} {M' : mm × mm} {v9 : mm} (h : fX3_nextToken_107 s0 σ = some v9) (hk : (fun q : mm => r = none ∧ M' = (q, τ)) v9) : Vm mX3_nextToken 1 107 [(0, .inr (.inr (3, 0)))] [.inl s0] (σ, τ) r M' := by
  unfold fX3_nextToken_107 at h
  refine Vm.istore_n (n := 108) (lv' := [(1, .inl s0), (0, .inr (.inr (3, 0)))]) dX3_nextToken_107 rfl (Nat.le_of_ble_eq_true rfl) rfl ?_
  refine Vm.sub (lv' := [(0, .inr (.inr (3, 0))), (1, .inl s0)]) [1, 0] rfl ?_
  exact lX3_nextToken_108_L s0 τ (σ) _ h hk
set_option maxRecDepth 20000 in
theorem lX3_nextToken_87 (σ τ : mm) {r : Option mv} {M' : mm × mm} {v9 : mm} (h : fX3_nextToken_87 σ = some v9) (hk : (fun q : mm => r = none ∧ M' = (q, τ)) v9) : Vm mX3_nextToken 1 87 [(0, .inr (.inr (3, 0)))] [] (σ, τ) r M' := by
  unfold fX3_nextToken_87 at h
  refine Vm.aload_n (n := 88) 0 dX3_nextToken_87 rfl rfl ?_
  refine Vm.gX (n := 91) dX3_nextToken_88 rfl wf_RX3_9 in_3 rfl (by decide) rfl (by decide) ?_
  refine Vm.goto 107 dX3_nextToken_91 rfl ?_
  exact lX3_nextToken_107 (σ.1 3 0 0) σ τ h hk
set_option maxRecDepth 20000 in
theorem lX3_nextToken_46 (σ τ : mm) {r : Option mv} {M' : mm × mm} {v9 : mm} (h : fX3_nextToken_46 σ = some v9) (hk : (fun q : mm => r = none ∧ M' = (q, τ)) v9) : Vm mX3_nextToken 1 46 [(0, .inr (.inr (3, 0)))] [] (σ, τ) r M' := by
  unfold fX3_nextToken_46 at h
  refine Vm.aload_n (n := 47) 0 dX3_nextToken_46 rfl rfl ?_
  refine Vm.aload_n (n := 48) 0 dX3_nextToken_47 rfl rfl ?_
  refine Vm.aload_n (n := 49) 0 dX3_nextToken_48 rfl rfl ?_
  refine Vm.gX (n := 52) dX3_nextToken_49 rfl wf_RX3_22 in_3 rfl (by decide) rfl (by decide) ?_
  replace h := Option.bind_eq_some_iff.mp h
  obtain ⟨q1, h1, h⟩ := h
  refine Vm.callV (Y := mX3_sortAt) (n := 55) [.inl (σ.1 3 0 3)] dX3_nextToken_52 rfl wv_RX3_38 omX3_sortAt rfl in_3 rfl rfl rfl (Nat.le_of_ble_eq_true rfl) (by decide) (kX3_sortAt (σ.1 3 0 3) σ τ h1) ?_
  refine Vm.pX (n := 58) (ty := .int) dX3_nextToken_55 rfl wf_RX3_19 in_3 rfl (by decide) rfl (by decide) rfl rfl rfl rfl ?_
  replace h := Option.bind_eq_some_iff.mp h
  obtain ⟨σ2, e2, h⟩ := h
  replace e2 := Option.some.inj e2
  refine Vm.mem (congrArg (fun z => (z, τ)) e2) ?_
  refine Vm.aload_n (n := 59) 0 dX3_nextToken_58 rfl rfl ?_
  refine Vm.iconst (n := 60) (v := (0 : Int32)) dX3_nextToken_59 rfl (by decide) ?_
  refine Vm.pX (n := 63) (ty := .int) dX3_nextToken_60 rfl wf_RX3_28 in_3 rfl (by decide) rfl (by decide) rfl rfl rfl rfl ?_
  replace h := Option.bind_eq_some_iff.mp h
  obtain ⟨σ3, e3, h⟩ := h
  replace e3 := Option.some.inj e3
  refine Vm.mem (congrArg (fun z => (z, τ)) e3) ?_
  refine Vm.aload_n (n := 64) 0 dX3_nextToken_63 rfl rfl ?_
  refine Vm.aload_n (n := 65) 0 dX3_nextToken_64 rfl rfl ?_
  refine Vm.gX (n := 68) dX3_nextToken_65 rfl wf_RX3_22 in_3 rfl (by decide) rfl (by decide) ?_
  replace h := Option.bind_eq_some_iff.mp h
  obtain ⟨x4, e4, h⟩ := h
  replace e4 := Option.some.inj e4
  refine Vm.top e4 ?_
  refine Vm.pX (n := 71) (ty := .int) dX3_nextToken_68 rfl wf_RX3_25 in_3 rfl (by decide) rfl (by decide) rfl rfl rfl rfl ?_
  replace h := Option.bind_eq_some_iff.mp h
  obtain ⟨σ5, e5, h⟩ := h
  replace e5 := Option.some.inj e5
  refine Vm.mem (congrArg (fun z => (z, τ)) e5) ?_
  refine Vm.aload_n (n := 72) 0 dX3_nextToken_71 rfl rfl ?_
  refine Vm.gX (n := 75) dX3_nextToken_72 rfl wf_RX3_19 in_3 rfl (by decide) rfl (by decide) ?_
  refine Vm.iconst (n := 76) (v := (1 : Int32)) dX3_nextToken_75 rfl (by decide) ?_
  refine Vm.icmp_eq (n := 79) 87 dX3_nextToken_76 rfl rfl (fun c9 => ?_) (fun c9 => ?_)
  · replace h := (if_pos c9).symm.trans h
    exact lX3_nextToken_87 σ5 τ h hk
  · replace h := (if_neg c9).symm.trans h
    refine Vm.aload_n (n := 80) 0 dX3_nextToken_79 rfl rfl ?_
    refine Vm.gX (n := 83) dX3_nextToken_80 rfl wf_RX3_19 in_3 rfl (by decide) rfl (by decide) ?_
    refine Vm.iconst (n := 84) (v := (2 : Int32)) dX3_nextToken_83 rfl (by decide) ?_
    refine Vm.icmp_ne (n := 87) 94 dX3_nextToken_84 rfl rfl (fun c9 => ?_) (fun c9 => ?_)
    · replace h := (if_neg c9).symm.trans h
      refine Vm.aload_n (n := 95) 0 dX3_nextToken_94 rfl rfl ?_
      refine Vm.gX (n := 98) dX3_nextToken_95 rfl wf_RX3_22 in_3 rfl (by decide) rfl (by decide) ?_
      refine Vm.iconst (n := 99) (v := (1 : Int32)) dX3_nextToken_98 rfl (by decide) ?_
      refine Vm.iadd (n := 100) dX3_nextToken_99 rfl ?_
      refine Vm.aload_n (n := 101) 0 dX3_nextToken_100 rfl rfl ?_
      refine Vm.gX (n := 104) dX3_nextToken_101 rfl wf_RX3_9 in_3 rfl (by decide) rfl (by decide) ?_
      refine Vm.callS (Y := mJ9_min_7cf53) (n := 107) [.inl ((σ5.1 3 0 3) + (1 : Int32)), .inl (σ5.1 3 0 0)] dX3_nextToken_104 rfl wv_RX3_42 omJ9_min_7cf53 rfl rfl (Nat.le_of_ble_eq_true rfl) (by decide) (kJ9_min_7cf53 ((σ5.1 3 0 3) + (1 : Int32)) (σ5.1 3 0 0) rfl) ?_
      exact lX3_nextToken_107 (fJ9_min_7cf53 ((σ5.1 3 0 3) + (1 : Int32)) (σ5.1 3 0 0)) σ5 τ h hk
    · replace h := (if_pos c9).symm.trans h
      exact lX3_nextToken_87 σ5 τ h hk
set_option maxRecDepth 20000 in
theorem lX3_nextToken_8 (σ τ : mm) {r : Option mv} {M' : mm × mm} {v9 : (mm) ⊕ (mm)} (h : fX3_nextToken_8 σ = some v9) (hk : (Sum.elim (fun z : mm => Vm mX3_nextToken 1 8 [(0, .inr (.inr (3, 0)))] [] (z, τ) r M') (fun q : mm => r = none ∧ M' = (q, τ))) v9) : Vm mX3_nextToken 1 8 [(0, .inr (.inr (3, 0)))] [] (σ, τ) r M' := by
  unfold fX3_nextToken_8 at h
  refine Vm.aload_n (n := 9) 0 dX3_nextToken_8 rfl rfl ?_
  refine Vm.gX (n := 12) dX3_nextToken_9 rfl wf_RX3_22 in_3 rfl (by decide) rfl (by decide) ?_
  refine Vm.aload_n (n := 13) 0 dX3_nextToken_12 rfl rfl ?_
  refine Vm.gX (n := 16) dX3_nextToken_13 rfl wf_RX3_9 in_3 rfl (by decide) rfl (by decide) ?_
  refine Vm.icmp_ge (n := 19) 46 dX3_nextToken_16 rfl rfl (fun c9 => ?_) (fun c9 => ?_)
  · replace h := (if_pos c9).symm.trans h
    replace h := Option.map_eq_some_iff.mp h
    obtain ⟨w9, h, e8⟩ := h
    subst e8
    exact lX3_nextToken_46 σ τ h hk
  · replace h := (if_neg c9).symm.trans h
    refine Vm.aload_n (n := 20) 0 dX3_nextToken_19 rfl rfl ?_
    refine Vm.getR (n := 23) dX3_nextToken_20 rfl wf_RX3_15 in_3 rfl (by decide) rfl ?_
    refine Vm.aload_n (n := 24) 0 dX3_nextToken_23 rfl rfl ?_
    refine Vm.gX (n := 27) dX3_nextToken_24 rfl wf_RX3_22 in_3 rfl (by decide) rfl (by decide) ?_
    replace h := Option.bind_eq_some_iff.mp h
    obtain ⟨x1, h1, h⟩ := h
    refine Vm.baldx (n := 28) dX3_nextToken_27 rfl in_21 rfl rfl (by decide) h1 ?_
    refine Vm.bipush (n := 30) (v := (32 : Int32)) dX3_nextToken_28 rfl (by decide) ?_
    refine Vm.icmp_ne (n := 33) 46 dX3_nextToken_30 rfl rfl (fun c9 => ?_) (fun c9 => ?_)
    · replace h := (if_neg c9).symm.trans h
      replace h := Option.map_eq_some_iff.mp h
      obtain ⟨w9, h, e8⟩ := h
      subst e8
      exact lX3_nextToken_46 σ τ h hk
    · replace h := (if_pos c9).symm.trans h
      refine Vm.aload_n (n := 34) 0 dX3_nextToken_33 rfl rfl ?_
      refine Vm.dup (n := 35) dX3_nextToken_34 rfl rfl ?_
      refine Vm.gX (n := 38) dX3_nextToken_35 rfl wf_RX3_22 in_3 rfl (by decide) rfl (by decide) ?_
      refine Vm.iconst (n := 39) (v := (1 : Int32)) dX3_nextToken_38 rfl (by decide) ?_
      refine Vm.iadd (n := 40) dX3_nextToken_39 rfl ?_
      replace h := Option.bind_eq_some_iff.mp h
      obtain ⟨x2, e2, h⟩ := h
      replace e2 := Option.some.inj e2
      refine Vm.top e2 ?_
      refine Vm.pX (n := 43) (ty := .int) dX3_nextToken_40 rfl wf_RX3_22 in_3 rfl (by decide) rfl (by decide) rfl rfl rfl rfl ?_
      replace h := Option.bind_eq_some_iff.mp h
      obtain ⟨σ3, e3, h⟩ := h
      replace e3 := Option.some.inj e3
      refine Vm.mem (congrArg (fun z => (z, τ)) e3) ?_
      refine Vm.goto 8 dX3_nextToken_43 rfl ?_
      obtain rfl := Option.some.inj h
      exact hk
theorem lX3_nextToken_8_L (τ : mm) {r : Option mv} {M' : mm × mm} (z : mm) (w9 : mm) (h : lp (fX3_nextToken_8_L) z = some w9) (hk : (fun q : mm => r = none ∧ M' = (q, τ)) w9) : Vm mX3_nextToken 1 8 [(0, .inr (.inr (3, 0)))] [] (z, τ) r M' :=
  lp_link (S := mm) (R := mm) (body := fX3_nextToken_8_L) (A := fun z : mm => Vm mX3_nextToken 1 8 [(0, .inr (.inr (3, 0)))] [] (z, τ) r M') (B := fun w : mm => (fun q : mm => r = none ∧ M' = (q, τ)) w) (fun z v hb hv => lX3_nextToken_8 z τ hb hv) z w9 h hk
set_option maxRecDepth 20000 in
theorem lX3_nextToken_0 (σ τ : mm) {r : Option mv} {M' : mm × mm} {v9 : mm} (h : fX3_nextToken_0 σ = some v9) (hk : (fun q : mm => r = none ∧ M' = (q, τ)) v9) : Vm mX3_nextToken 1 0 [(0, .inr (.inr (3, 0)))] [] (σ, τ) r M' := by
  unfold fX3_nextToken_0 at h
  refine Vm.aload_n (n := 1) 0 dX3_nextToken_0 rfl rfl ?_
  refine Vm.aload_n (n := 2) 0 dX3_nextToken_1 rfl rfl ?_
  refine Vm.gX (n := 5) dX3_nextToken_2 rfl wf_RX3_25 in_3 rfl (by decide) rfl (by decide) ?_
  replace h := Option.bind_eq_some_iff.mp h
  obtain ⟨x1, e1, h⟩ := h
  replace e1 := Option.some.inj e1
  refine Vm.top e1 ?_
  refine Vm.pX (n := 8) (ty := .int) dX3_nextToken_5 rfl wf_RX3_22 in_3 rfl (by decide) rfl (by decide) rfl rfl rfl rfl ?_
  replace h := Option.bind_eq_some_iff.mp h
  obtain ⟨σ2, e2, h⟩ := h
  replace e2 := Option.some.inj e2
  refine Vm.mem (congrArg (fun z => (z, τ)) e2) ?_
  exact lX3_nextToken_8_L τ (σ2) _ h hk
theorem kX3_nextToken (σ τ : mm) {q : mm} (h : fX3_nextToken σ = some q) : Cx mX3_nextToken 1 [.inr (.inr (3, 0))] (σ, τ) (none) (q, τ) :=
  Cx.of (lv := [(0, .inr (.inr (3, 0)))]) (by decide) (fun ad => Nat.le_of_ble_eq_true rfl) (fun ad => rfl) (lX3_nextToken_0 σ τ h ⟨rfl, rfl⟩)
-- ThinBodies$Reader isWord (Ljava/lang/String;)Z
noncomputable def fX3_isWord_28 (a1 : Nat) (a2 : Int32) (σ : mm) : Option ((Int32) ⊕ (Bool)) :=
  if (xln a1) ≤ a2 then
  some (.inr (true))
  else
  Option.bind (rdI σ 21 0 120 ((σ.1 3 0 3) + a2)) fun x1 =>
  Option.bind (xch a1 a2) fun x2 =>
  if x1 = x2 then
  Option.bind (some (a2 + (1 : Int32))) fun x3 =>
  some (.inl (x3))
  else
  some (.inr (false))
noncomputable def fX3_isWord_28_L (a1 : Nat) (σ : mm) : Int32 → Option ((Int32) ⊕ (Bool)) := fun z => fX3_isWord_28 a1 z σ
noncomputable def fX3_isWord_0 (a1 : Nat) (σ : mm) : Option (Bool) :=
  if (σ.1 3 0 2) = (1 : Int32) then
  if ((σ.1 3 0 4) - (σ.1 3 0 3)) = (xln a1) then
  lp (fX3_isWord_28_L a1 σ) ((0 : Int32))
  else
  some (false)
  else
  some (false)
noncomputable def fX3_isWord (a1 : Nat) (σ : mm) : Option (Bool) := fX3_isWord_0 a1 σ
set_option maxRecDepth 20000 in
theorem lX3_isWord_28 (a1 : Nat) (ha1 : a1 < 10) (a2 : Int32) (σ σ0 τ : mm) (hσ : σ = σ0) {r : Option mv} {M' : mm × mm} {v9 : (Int32) ⊕ (Bool)} (h : fX3_isWord_28 a1 a2 σ = some v9) (hk : (Sum.elim (fun z : Int32 => Vm mX3_isWord 6 28 [(0, .inr (.inr (3, 0))), (1, .inr (.inr (92, a1))), (2, .inl z)] [] (σ, τ) r M') (fun q : Bool => r = some (.inl (bi q)) ∧ M' = (σ0, τ))) v9) : Vm mX3_isWord 6 28 [(0, .inr (.inr (3, 0))), (1, .inr (.inr (92, a1))), (2, .inl a2)] [] (σ, τ) r M' := by
  unfold fX3_isWord_28 at h
  refine Vm.iload_n (n := 29) 2 dX3_isWord_28 rfl rfl ?_
  refine Vm.aload_n (n := 30) 1 dX3_isWord_29 rfl rfl ?_
  refine Vm.strlen (n := 33) dX3_isWord_30 rfl wv_RX3_48 (by omega) (by decide) (Nat.le_of_ble_eq_true rfl) ?_
  refine Vm.icmp_ge (n := 36) 63 dX3_isWord_33 rfl rfl (fun c9 => ?_) (fun c9 => ?_)
  · replace h := (if_pos c9).symm.trans h
    refine Vm.iconst (n := 64) (v := (1 : Int32)) dX3_isWord_63 rfl (by decide) ?_
    obtain rfl := Option.some.inj h
    exact Vm.zret (b := true) dX3_isWord_64 rfl rfl hk.1 (by rw [hσ]; exact hk.2.symm)
  · replace h := (if_neg c9).symm.trans h
    refine Vm.aload_n (n := 37) 0 dX3_isWord_36 rfl rfl ?_
    refine Vm.getR (n := 40) dX3_isWord_37 rfl wf_RX3_15 in_3 rfl (by decide) rfl ?_
    refine Vm.aload_n (n := 41) 0 dX3_isWord_40 rfl rfl ?_
    refine Vm.gX (n := 44) dX3_isWord_41 rfl wf_RX3_22 in_3 rfl (by decide) rfl (by decide) ?_
    refine Vm.iload_n (n := 45) 2 dX3_isWord_44 rfl rfl ?_
    refine Vm.iadd (n := 46) dX3_isWord_45 rfl ?_
    replace h := Option.bind_eq_some_iff.mp h
    obtain ⟨x1, h1, h⟩ := h
    refine Vm.baldx (n := 47) dX3_isWord_46 rfl in_21 rfl rfl (by decide) h1 ?_
    refine Vm.aload_n (n := 48) 1 dX3_isWord_47 rfl rfl ?_
    refine Vm.iload_n (n := 49) 2 dX3_isWord_48 rfl rfl ?_
    replace h := Option.bind_eq_some_iff.mp h
    obtain ⟨x2, h2, h⟩ := h
    refine Vm.strch (n := 52) dX3_isWord_49 rfl wv_RX3_53 (by omega) (by decide) (Nat.le_of_ble_eq_true rfl) h2 ?_
    refine Vm.icmp_eq (n := 55) 57 dX3_isWord_52 rfl rfl (fun c9 => ?_) (fun c9 => ?_)
    · replace h := (if_pos c9).symm.trans h
      replace h := Option.bind_eq_some_iff.mp h
      obtain ⟨x3, e3, h⟩ := h
      replace e3 := Option.some.inj e3
      refine Vm.iinc (n := 60) (v := x3) (lv' := [(2, .inl x3), (0, .inr (.inr (3, 0))), (1, .inr (.inr (92, a1)))]) 2 dX3_isWord_57 rfl rfl e3 (Nat.le_of_ble_eq_true rfl) rfl ?_
      refine Vm.goto 28 dX3_isWord_60 rfl ?_
      refine Vm.sub (lv' := [(0, .inr (.inr (3, 0))), (1, .inr (.inr (92, a1))), (2, .inl x3)]) [1, 2, 0] rfl ?_
      obtain rfl := Option.some.inj h
      exact hk
    · replace h := (if_neg c9).symm.trans h
      refine Vm.iconst (n := 56) (v := (0 : Int32)) dX3_isWord_55 rfl (by decide) ?_
      obtain rfl := Option.some.inj h
      exact Vm.zret (b := false) dX3_isWord_56 rfl rfl hk.1 (by rw [hσ]; exact hk.2.symm)
theorem lX3_isWord_28_L (a1 : Nat) (ha1 : a1 < 10) (σ σ0 τ : mm) (hσ : σ = σ0) {r : Option mv} {M' : mm × mm} (z : Int32) (w9 : Bool) (h : lp (fX3_isWord_28_L a1 σ) z = some w9) (hk : (fun q : Bool => r = some (.inl (bi q)) ∧ M' = (σ0, τ)) w9) : Vm mX3_isWord 6 28 [(0, .inr (.inr (3, 0))), (1, .inr (.inr (92, a1))), (2, .inl z)] [] (σ, τ) r M' :=
  lp_link (S := Int32) (R := Bool) (body := fX3_isWord_28_L a1 σ) (A := fun z : Int32 => Vm mX3_isWord 6 28 [(0, .inr (.inr (3, 0))), (1, .inr (.inr (92, a1))), (2, .inl z)] [] (σ, τ) r M') (B := fun w : Bool => (fun q : Bool => r = some (.inl (bi q)) ∧ M' = (σ0, τ)) w) (fun z v hb hv => lX3_isWord_28 a1 ha1 z σ σ0 τ hσ hb hv) z w9 h hk
set_option maxRecDepth 20000 in
theorem lX3_isWord_0 (a1 : Nat) (ha1 : a1 < 10) (σ σ0 τ : mm) (hσ : σ = σ0) {r : Option mv} {M' : mm × mm} {v9 : Bool} (h : fX3_isWord_0 a1 σ = some v9) (hk : (fun q : Bool => r = some (.inl (bi q)) ∧ M' = (σ0, τ)) v9) : Vm mX3_isWord 6 0 [(0, .inr (.inr (3, 0))), (1, .inr (.inr (92, a1)))] [] (σ, τ) r M' := by
  unfold fX3_isWord_0 at h
  refine Vm.aload_n (n := 1) 0 dX3_isWord_0 rfl rfl ?_
  refine Vm.gX (n := 4) dX3_isWord_1 rfl wf_RX3_19 in_3 rfl (by decide) rfl (by decide) ?_
  refine Vm.iconst (n := 5) (v := (1 : Int32)) dX3_isWord_4 rfl (by decide) ?_
  refine Vm.icmp_ne (n := 8) 24 dX3_isWord_5 rfl rfl (fun c9 => ?_) (fun c9 => ?_)
  · replace h := (if_neg c9).symm.trans h
    refine Vm.iconst (n := 25) (v := (0 : Int32)) dX3_isWord_24 rfl (by decide) ?_
    obtain rfl := Option.some.inj h
    exact Vm.zret (b := false) dX3_isWord_25 rfl rfl hk.1 (by rw [hσ]; exact hk.2.symm)
  · replace h := (if_pos c9).symm.trans h
    refine Vm.aload_n (n := 9) 0 dX3_isWord_8 rfl rfl ?_
    refine Vm.gX (n := 12) dX3_isWord_9 rfl wf_RX3_25 in_3 rfl (by decide) rfl (by decide) ?_
    refine Vm.aload_n (n := 13) 0 dX3_isWord_12 rfl rfl ?_
    refine Vm.gX (n := 16) dX3_isWord_13 rfl wf_RX3_22 in_3 rfl (by decide) rfl (by decide) ?_
    refine Vm.isub (n := 17) dX3_isWord_16 rfl ?_
    refine Vm.aload_n (n := 18) 1 dX3_isWord_17 rfl rfl ?_
    refine Vm.strlen (n := 21) dX3_isWord_18 rfl wv_RX3_48 (by omega) (by decide) (Nat.le_of_ble_eq_true rfl) ?_
    refine Vm.icmp_eq (n := 24) 26 dX3_isWord_21 rfl rfl (fun c9 => ?_) (fun c9 => ?_)
    · replace h := (if_pos c9).symm.trans h
      refine Vm.iconst (n := 27) (v := (0 : Int32)) dX3_isWord_26 rfl (by decide) ?_
      refine Vm.istore_n (n := 28) (lv' := [(2, .inl (0 : Int32)), (0, .inr (.inr (3, 0))), (1, .inr (.inr (92, a1)))]) dX3_isWord_27 rfl (Nat.le_of_ble_eq_true rfl) rfl ?_
      refine Vm.sub (lv' := [(0, .inr (.inr (3, 0))), (1, .inr (.inr (92, a1))), (2, .inl (0 : Int32))]) [1, 2, 0] rfl ?_
      exact lX3_isWord_28_L a1 (by omega) σ σ0 τ hσ ((0 : Int32)) _ h hk
    · replace h := (if_neg c9).symm.trans h
      refine Vm.iconst (n := 25) (v := (0 : Int32)) dX3_isWord_24 rfl (by decide) ?_
      obtain rfl := Option.some.inj h
      exact Vm.zret (b := false) dX3_isWord_25 rfl rfl hk.1 (by rw [hσ]; exact hk.2.symm)
theorem kX3_isWord (a1 : Nat) (ha1 : a1 < 10) (σ τ : mm) {q : Bool} (h : fX3_isWord a1 σ = some q) : Cx mX3_isWord 6 [.inr (.inr (3, 0)), .inr (.inr (92, a1))] (σ, τ) (some (.inl (bi q))) (σ, τ) :=
  Cx.of (lv := [(0, .inr (.inr (3, 0))), (1, .inr (.inr (92, a1)))]) (by decide) (fun ad => Nat.le_of_ble_eq_true rfl) (fun ad => rfl) (lX3_isWord_0 a1 ha1 σ σ τ rfl h ⟨rfl, rfl⟩)
-- ThinBodies$Reader seesNumber (II)Z
def fX3_seesNumber_0 (a1 : Int32) (a2 : Int32) (σ : mm) : Bool :=
  if (σ.1 3 0 2) = (2 : Int32) then
  if (σ.1 3 0 5) < a1 then
  false
  else
  if a2 < (σ.1 3 0 5) then
  false
  else
  true
  else
  false
def fX3_seesNumber (a1 : Int32) (a2 : Int32) (σ : mm) : Bool := fX3_seesNumber_0 a1 a2 σ
set_option maxRecDepth 20000 in
theorem lX3_seesNumber_0 (a1 : Int32) (a2 : Int32) (σ σ0 τ : mm) (hσ : σ = σ0) {r : Option mv} {M' : mm × mm} {v9 : Bool} (h : fX3_seesNumber_0 a1 a2 σ = v9) (hk : (fun q : Bool => r = some (.inl (bi q)) ∧ M' = (σ0, τ)) v9) : Vm mX3_seesNumber 0 0 [(0, .inr (.inr (3, 0))), (1, .inl a1), (2, .inl a2)] [] (σ, τ) r M' := by
  unfold fX3_seesNumber_0 at h
  refine Vm.aload_n (n := 1) 0 dX3_seesNumber_0 rfl rfl ?_
  refine Vm.gX (n := 4) dX3_seesNumber_1 rfl wf_RX3_19 in_3 rfl (by decide) rfl (by decide) ?_
  refine Vm.iconst (n := 5) (v := (2 : Int32)) dX3_seesNumber_4 rfl (by decide) ?_
  refine Vm.icmp_ne (n := 8) 28 dX3_seesNumber_5 rfl rfl (fun c9 => ?_) (fun c9 => ?_)
  · replace h := (if_neg c9).symm.trans h
    refine Vm.iconst (n := 29) (v := (0 : Int32)) dX3_seesNumber_28 rfl (by decide) ?_
    subst h
    exact Vm.zret (b := false) dX3_seesNumber_29 rfl rfl hk.1 (by rw [hσ]; exact hk.2.symm)
  · replace h := (if_pos c9).symm.trans h
    refine Vm.aload_n (n := 9) 0 dX3_seesNumber_8 rfl rfl ?_
    refine Vm.gX (n := 12) dX3_seesNumber_9 rfl wf_RX3_28 in_3 rfl (by decide) rfl (by decide) ?_
    refine Vm.iload_n (n := 13) 1 dX3_seesNumber_12 rfl rfl ?_
    refine Vm.icmp_lt (n := 16) 28 dX3_seesNumber_13 rfl rfl (fun c9 => ?_) (fun c9 => ?_)
    · replace h := (if_pos c9).symm.trans h
      refine Vm.iconst (n := 29) (v := (0 : Int32)) dX3_seesNumber_28 rfl (by decide) ?_
      subst h
      exact Vm.zret (b := false) dX3_seesNumber_29 rfl rfl hk.1 (by rw [hσ]; exact hk.2.symm)
    · replace h := (if_neg c9).symm.trans h
      refine Vm.aload_n (n := 17) 0 dX3_seesNumber_16 rfl rfl ?_
      refine Vm.gX (n := 20) dX3_seesNumber_17 rfl wf_RX3_28 in_3 rfl (by decide) rfl (by decide) ?_
      refine Vm.iload_n (n := 21) 2 dX3_seesNumber_20 rfl rfl ?_
      refine Vm.icmp_gt (n := 24) 28 dX3_seesNumber_21 rfl rfl (fun c9 => ?_) (fun c9 => ?_)
      · replace h := (if_pos c9).symm.trans h
        refine Vm.iconst (n := 29) (v := (0 : Int32)) dX3_seesNumber_28 rfl (by decide) ?_
        subst h
        exact Vm.zret (b := false) dX3_seesNumber_29 rfl rfl hk.1 (by rw [hσ]; exact hk.2.symm)
      · replace h := (if_neg c9).symm.trans h
        refine Vm.iconst (n := 25) (v := (1 : Int32)) dX3_seesNumber_24 rfl (by decide) ?_
        refine Vm.goto 29 dX3_seesNumber_25 rfl ?_
        subst h
        exact Vm.zret (b := true) dX3_seesNumber_29 rfl rfl hk.1 (by rw [hσ]; exact hk.2.symm)
theorem kX3_seesNumber (a1 : Int32) (a2 : Int32) (σ τ : mm) {q : Bool} (h : fX3_seesNumber a1 a2 σ = q) : Cx mX3_seesNumber 0 [.inr (.inr (3, 0)), .inl a1, .inl a2] (σ, τ) (some (.inl (bi q))) (σ, τ) :=
  Cx.of (lv := [(0, .inr (.inr (3, 0))), (1, .inl a1), (2, .inl a2)]) (by decide) (fun ad => Nat.le_of_ble_eq_true rfl) (fun ad => rfl) (lX3_seesNumber_0 a1 a2 σ σ τ rfl h ⟨rfl, rfl⟩)
-- ThinBodies$Reader readLetters (LThinBodies$Body;)Z
noncomputable def fX3_readLetters_0 (a1 : Nat) (σ : mm) : Option (Bool × mm) :=
  Option.bind (fX3_nextToken σ) fun q1 =>
  if (bi (fX3_seesNumber (1 : Int32) (4 : Int32) q1)) = (0 : Int32) then
  some ((false, q1))
  else
  Option.bind (fX0_pointsWithLetters a1 (q1.1 3 0 5) q1) fun q2 =>
  if q2 ≤ (4096 : Int32) then
  Option.bind (fX0_setLetters a1 (q1.1 3 0 5) q1) fun q3 =>
  Option.bind (fX3_nextToken q3) fun q4 =>
  some ((true, q4))
  else
  some ((false, q1))
noncomputable def fX3_readLetters (a1 : Nat) (σ : mm) : Option (Bool × mm) := fX3_readLetters_0 a1 σ
set_option maxRecDepth 20000 in
theorem lX3_readLetters_0 (a1 : Nat) (ha1 : a1 < 3) (σ τ : mm) {r : Option mv} {M' : mm × mm} {v9 : Bool × mm} (h : fX3_readLetters_0 a1 σ = some v9) (hk : (fun q : Bool × mm => r = some (.inl (bi q.1)) ∧ M' = (q.2, τ)) v9) : Vm mX3_readLetters 2 0 [(0, .inr (.inr (3, 0))), (1, .inr (.inr (0, a1)))] [] (σ, τ) r M' := by
  unfold fX3_readLetters_0 at h
  refine Vm.aload_n (n := 1) 0 dX3_readLetters_0 rfl rfl ?_
  replace h := Option.bind_eq_some_iff.mp h
  obtain ⟨q1, h1, h⟩ := h
  refine Vm.callVv (Y := mX3_nextToken) (n := 4) [] dX3_readLetters_1 rfl wv_RX3_31 omX3_nextToken rfl in_3 rfl rfl rfl (Nat.le_of_ble_eq_true rfl) (by decide) (kX3_nextToken σ τ h1) ?_
  refine Vm.aload_n (n := 5) 0 dX3_readLetters_4 rfl rfl ?_
  refine Vm.iconst (n := 6) (v := (1 : Int32)) dX3_readLetters_5 rfl (by decide) ?_
  refine Vm.iconst (n := 7) (v := (4 : Int32)) dX3_readLetters_6 rfl (by decide) ?_
  refine Vm.callV (Y := mX3_seesNumber) (n := 10) [.inl (1 : Int32), .inl (4 : Int32)] dX3_readLetters_7 rfl wv_RX3_90 omX3_seesNumber rfl in_3 rfl rfl rfl (Nat.le_of_ble_eq_true rfl) (by decide) (kX3_seesNumber (1 : Int32) (4 : Int32) q1 τ rfl) ?_
  refine Vm.if_eq (n := 13) 27 dX3_readLetters_10 rfl rfl (fun c9 => ?_) (fun c9 => ?_)
  · replace h := (if_pos c9).symm.trans h
    refine Vm.iconst (n := 28) (v := (0 : Int32)) dX3_readLetters_27 rfl (by decide) ?_
    obtain rfl := Option.some.inj h
    exact Vm.zret (b := false) dX3_readLetters_28 rfl rfl hk.1 hk.2.symm
  · replace h := (if_neg c9).symm.trans h
    refine Vm.aload_n (n := 14) 1 dX3_readLetters_13 rfl rfl ?_
    refine Vm.aload_n (n := 15) 0 dX3_readLetters_14 rfl rfl ?_
    refine Vm.gX (n := 18) dX3_readLetters_15 rfl wf_RX3_28 in_3 rfl (by decide) rfl (by decide) ?_
    replace h := Option.bind_eq_some_iff.mp h
    obtain ⟨q2, h2, h⟩ := h
    refine Vm.callV (Y := mX0_pointsWithLetters) (n := 21) [.inl (q1.1 3 0 5)] dX3_readLetters_18 rfl wv_RX3_94 omX0_pointsWithLetters rfl (ink ik_0 (by omega)) rfl rfl rfl (Nat.le_of_ble_eq_true rfl) (by decide) (kX0_pointsWithLetters a1 (by omega) (q1.1 3 0 5) q1 τ h2) ?_
    refine Vm.sipush (n := 24) (v := (4096 : Int32)) dX3_readLetters_21 rfl (by decide) ?_
    refine Vm.icmp_le (n := 27) 29 dX3_readLetters_24 rfl rfl (fun c9 => ?_) (fun c9 => ?_)
    · replace h := (if_pos c9).symm.trans h
      refine Vm.aload_n (n := 30) 1 dX3_readLetters_29 rfl rfl ?_
      refine Vm.aload_n (n := 31) 0 dX3_readLetters_30 rfl rfl ?_
      refine Vm.gX (n := 34) dX3_readLetters_31 rfl wf_RX3_28 in_3 rfl (by decide) rfl (by decide) ?_
      replace h := Option.bind_eq_some_iff.mp h
      obtain ⟨q3, h3, h⟩ := h
      refine Vm.callVv (Y := mX0_setLetters) (n := 37) [.inl (q1.1 3 0 5)] dX3_readLetters_34 rfl wv_RX3_99 omX0_setLetters rfl (ink ik_0 (by omega)) rfl rfl rfl (Nat.le_of_ble_eq_true rfl) (by decide) (kX0_setLetters a1 (by omega) (q1.1 3 0 5) q1 τ h3) ?_
      refine Vm.aload_n (n := 38) 0 dX3_readLetters_37 rfl rfl ?_
      replace h := Option.bind_eq_some_iff.mp h
      obtain ⟨q4, h4, h⟩ := h
      refine Vm.callVv (Y := mX3_nextToken) (n := 41) [] dX3_readLetters_38 rfl wv_RX3_31 omX3_nextToken rfl in_3 rfl rfl rfl (Nat.le_of_ble_eq_true rfl) (by decide) (kX3_nextToken q3 τ h4) ?_
      refine Vm.iconst (n := 42) (v := (1 : Int32)) dX3_readLetters_41 rfl (by decide) ?_
      obtain rfl := Option.some.inj h
      exact Vm.zret (b := true) dX3_readLetters_42 rfl rfl hk.1 hk.2.symm
    · replace h := (if_neg c9).symm.trans h
      refine Vm.iconst (n := 28) (v := (0 : Int32)) dX3_readLetters_27 rfl (by decide) ?_
      obtain rfl := Option.some.inj h
      exact Vm.zret (b := false) dX3_readLetters_28 rfl rfl hk.1 hk.2.symm
theorem kX3_readLetters (a1 : Nat) (ha1 : a1 < 3) (σ τ : mm) {q : Bool × mm} (h : fX3_readLetters a1 σ = some q) : Cx mX3_readLetters 2 [.inr (.inr (3, 0)), .inr (.inr (0, a1))] (σ, τ) (some (.inl (bi q.1))) (q.2, τ) :=
  Cx.of (lv := [(0, .inr (.inr (3, 0))), (1, .inr (.inr (0, a1)))]) (by decide) (fun ad => Nat.le_of_ble_eq_true rfl) (fun ad => rfl) (lX3_readLetters_0 a1 ha1 σ τ h ⟨rfl, rfl⟩)
-- ThinBodies$Reader seesSigned (II)Z
noncomputable def fX3_seesSigned_49 (a1 : Int32) (a2 : Int32) (s1 : Int32) (σ : mm) : Option (Bool × mm) :=
  Option.bind (some (stI σ 3 0 5 s1)) fun σ1 =>
  if (σ1.1 3 0 5) < a1 then
  some ((false, σ1))
  else
  if a2 < (σ1.1 3 0 5) then
  some ((false, σ1))
  else
  some ((true, σ1))
noncomputable def fX3_seesSigned_22 (a1 : Int32) (a2 : Int32) (a3 : Int32) (σ : mm) : Option (Bool × mm) :=
  if (σ.1 3 0 2) = (2 : Int32) then
  if a3 = (0 : Int32) then
  fX3_seesSigned_49 a1 a2 (σ.1 3 0 5) σ
  else
  fX3_seesSigned_49 a1 a2 (-(σ.1 3 0 5)) σ
  else
  some ((false, σ))
noncomputable def fX3_seesSigned_13 (a1 : Int32) (a2 : Int32) (s0 : Int32) (σ : mm) : Option (Bool × mm) :=
  if s0 = (0 : Int32) then
  fX3_seesSigned_22 a1 a2 s0 σ
  else
  Option.bind (fX3_nextToken σ) fun q1 =>
  fX3_seesSigned_22 a1 a2 s0 q1
noncomputable def fX3_seesSigned_0 (a1 : Int32) (a2 : Int32) (σ : mm) : Option (Bool × mm) :=
  if (σ.1 3 0 2) = (4 : Int32) then
  fX3_seesSigned_13 a1 a2 (1 : Int32) σ
  else
  fX3_seesSigned_13 a1 a2 (0 : Int32) σ
noncomputable def fX3_seesSigned (a1 : Int32) (a2 : Int32) (σ : mm) : Option (Bool × mm) := fX3_seesSigned_0 a1 a2 σ
set_option maxRecDepth 20000 in
theorem lX3_seesSigned_49 (a1 : Int32) (a2 : Int32) (s1 : Int32) (σ τ : mm) {r : Option mv} {M' : mm × mm} {v9 : Bool × mm} (h : fX3_seesSigned_49 a1 a2 s1 σ = some v9) (hk : (fun q : Bool × mm => r = some (.inl (bi q.1)) ∧ M' = (q.2, τ)) v9) : Vm mX3_seesSigned 2 49 [(0, .inr (.inr (3, 0))), (1, .inl a1), (2, .inl a2)] [.inl s1, .inr (.inr (3, 0))] (σ, τ) r M' := by
  unfold fX3_seesSigned_49 at h
  refine Vm.pX (n := 52) (ty := .int) dX3_seesSigned_49 rfl wf_RX3_28 in_3 rfl (by decide) rfl (by decide) rfl rfl rfl rfl ?_
  replace h := Option.bind_eq_some_iff.mp h
  obtain ⟨σ1, e1, h⟩ := h
  replace e1 := Option.some.inj e1
  refine Vm.mem (congrArg (fun z => (z, τ)) e1) ?_
  refine Vm.aload_n (n := 53) 0 dX3_seesSigned_52 rfl rfl ?_
  refine Vm.gX (n := 56) dX3_seesSigned_53 rfl wf_RX3_28 in_3 rfl (by decide) rfl (by decide) ?_
  refine Vm.iload_n (n := 57) 1 dX3_seesSigned_56 rfl rfl ?_
  refine Vm.icmp_lt (n := 60) 72 dX3_seesSigned_57 rfl rfl (fun c9 => ?_) (fun c9 => ?_)
  · replace h := (if_pos c9).symm.trans h
    refine Vm.iconst (n := 73) (v := (0 : Int32)) dX3_seesSigned_72 rfl (by decide) ?_
    obtain rfl := Option.some.inj h
    exact Vm.zret (b := false) dX3_seesSigned_73 rfl rfl hk.1 hk.2.symm
  · replace h := (if_neg c9).symm.trans h
    refine Vm.aload_n (n := 61) 0 dX3_seesSigned_60 rfl rfl ?_
    refine Vm.gX (n := 64) dX3_seesSigned_61 rfl wf_RX3_28 in_3 rfl (by decide) rfl (by decide) ?_
    refine Vm.iload_n (n := 65) 2 dX3_seesSigned_64 rfl rfl ?_
    refine Vm.icmp_gt (n := 68) 72 dX3_seesSigned_65 rfl rfl (fun c9 => ?_) (fun c9 => ?_)
    · replace h := (if_pos c9).symm.trans h
      refine Vm.iconst (n := 73) (v := (0 : Int32)) dX3_seesSigned_72 rfl (by decide) ?_
      obtain rfl := Option.some.inj h
      exact Vm.zret (b := false) dX3_seesSigned_73 rfl rfl hk.1 hk.2.symm
    · replace h := (if_neg c9).symm.trans h
      refine Vm.iconst (n := 69) (v := (1 : Int32)) dX3_seesSigned_68 rfl (by decide) ?_
      refine Vm.goto 73 dX3_seesSigned_69 rfl ?_
      obtain rfl := Option.some.inj h
      exact Vm.zret (b := true) dX3_seesSigned_73 rfl rfl hk.1 hk.2.symm
set_option maxRecDepth 20000 in
theorem lX3_seesSigned_22 (a1 : Int32) (a2 : Int32) (a3 : Int32) (σ τ : mm) {r : Option mv} {M' : mm × mm} {v9 : Bool × mm} (h : fX3_seesSigned_22 a1 a2 a3 σ = some v9) (hk : (fun q : Bool × mm => r = some (.inl (bi q.1)) ∧ M' = (q.2, τ)) v9) : Vm mX3_seesSigned 2 22 [(0, .inr (.inr (3, 0))), (1, .inl a1), (2, .inl a2), (3, .inl a3)] [] (σ, τ) r M' := by
  unfold fX3_seesSigned_22 at h
  refine Vm.aload_n (n := 23) 0 dX3_seesSigned_22 rfl rfl ?_
  refine Vm.gX (n := 26) dX3_seesSigned_23 rfl wf_RX3_19 in_3 rfl (by decide) rfl (by decide) ?_
  refine Vm.iconst (n := 27) (v := (2 : Int32)) dX3_seesSigned_26 rfl (by decide) ?_
  refine Vm.icmp_eq (n := 30) 32 dX3_seesSigned_27 rfl rfl (fun c9 => ?_) (fun c9 => ?_)
  · replace h := (if_pos c9).symm.trans h
    refine Vm.aload_n (n := 33) 0 dX3_seesSigned_32 rfl rfl ?_
    refine Vm.iload_n (n := 34) 3 dX3_seesSigned_33 rfl rfl ?_
    refine Vm.if_eq (n := 37) 45 dX3_seesSigned_34 rfl rfl (fun c9 => ?_) (fun c9 => ?_)
    · replace h := (if_pos c9).symm.trans h
      refine Vm.aload_n (n := 46) 0 dX3_seesSigned_45 rfl rfl ?_
      refine Vm.gX (n := 49) dX3_seesSigned_46 rfl wf_RX3_28 in_3 rfl (by decide) rfl (by decide) ?_
      refine Vm.sub (lv' := [(0, .inr (.inr (3, 0))), (1, .inl a1), (2, .inl a2)]) [0, 1, 2] rfl ?_
      exact lX3_seesSigned_49 a1 a2 (σ.1 3 0 5) σ τ h hk
    · replace h := (if_neg c9).symm.trans h
      refine Vm.aload_n (n := 38) 0 dX3_seesSigned_37 rfl rfl ?_
      refine Vm.gX (n := 41) dX3_seesSigned_38 rfl wf_RX3_28 in_3 rfl (by decide) rfl (by decide) ?_
      refine Vm.ineg (n := 42) dX3_seesSigned_41 rfl ?_
      refine Vm.goto 49 dX3_seesSigned_42 rfl ?_
      refine Vm.sub (lv' := [(0, .inr (.inr (3, 0))), (1, .inl a1), (2, .inl a2)]) [0, 1, 2] rfl ?_
      exact lX3_seesSigned_49 a1 a2 (-(σ.1 3 0 5)) σ τ h hk
  · replace h := (if_neg c9).symm.trans h
    refine Vm.iconst (n := 31) (v := (0 : Int32)) dX3_seesSigned_30 rfl (by decide) ?_
    obtain rfl := Option.some.inj h
    exact Vm.zret (b := false) dX3_seesSigned_31 rfl rfl hk.1 hk.2.symm
set_option maxRecDepth 20000 in
theorem lX3_seesSigned_13 (a1 : Int32) (a2 : Int32) (s0 : Int32) (σ τ : mm) {r : Option mv} {M' : mm × mm} {v9 : Bool × mm} (h : fX3_seesSigned_13 a1 a2 s0 σ = some v9) (hk : (fun q : Bool × mm => r = some (.inl (bi q.1)) ∧ M' = (q.2, τ)) v9) : Vm mX3_seesSigned 2 13 [(0, .inr (.inr (3, 0))), (1, .inl a1), (2, .inl a2)] [.inl s0] (σ, τ) r M' := by
  unfold fX3_seesSigned_13 at h
  refine Vm.istore_n (n := 14) (lv' := [(3, .inl s0), (0, .inr (.inr (3, 0))), (1, .inl a1), (2, .inl a2)]) dX3_seesSigned_13 rfl (Nat.le_of_ble_eq_true rfl) rfl ?_
  refine Vm.iload_n (n := 15) 0 dX3_seesSigned_14 rfl rfl ?_
  refine Vm.if_eq (n := 18) 22 dX3_seesSigned_15 rfl rfl (fun c9 => ?_) (fun c9 => ?_)
  · replace h := (if_pos c9).symm.trans h
    refine Vm.sub (lv' := [(0, .inr (.inr (3, 0))), (1, .inl a1), (2, .inl a2), (3, .inl s0)]) [1, 2, 3, 0] rfl ?_
    exact lX3_seesSigned_22 a1 a2 s0 σ τ h hk
  · replace h := (if_neg c9).symm.trans h
    refine Vm.aload_n (n := 19) 1 dX3_seesSigned_18 rfl rfl ?_
    replace h := Option.bind_eq_some_iff.mp h
    obtain ⟨q1, h1, h⟩ := h
    refine Vm.callVv (Y := mX3_nextToken) (n := 22) [] dX3_seesSigned_19 rfl wv_RX3_31 omX3_nextToken rfl in_3 rfl rfl rfl (Nat.le_of_ble_eq_true rfl) (by decide) (kX3_nextToken σ τ h1) ?_
    refine Vm.sub (lv' := [(0, .inr (.inr (3, 0))), (1, .inl a1), (2, .inl a2), (3, .inl s0)]) [1, 2, 3, 0] rfl ?_
    exact lX3_seesSigned_22 a1 a2 s0 q1 τ h hk
set_option maxRecDepth 20000 in
theorem lX3_seesSigned_0 (a1 : Int32) (a2 : Int32) (σ τ : mm) {r : Option mv} {M' : mm × mm} {v9 : Bool × mm} (h : fX3_seesSigned_0 a1 a2 σ = some v9) (hk : (fun q : Bool × mm => r = some (.inl (bi q.1)) ∧ M' = (q.2, τ)) v9) : Vm mX3_seesSigned 2 0 [(0, .inr (.inr (3, 0))), (1, .inl a1), (2, .inl a2)] [] (σ, τ) r M' := by
  unfold fX3_seesSigned_0 at h
  refine Vm.aload_n (n := 1) 0 dX3_seesSigned_0 rfl rfl ?_
  refine Vm.gX (n := 4) dX3_seesSigned_1 rfl wf_RX3_19 in_3 rfl (by decide) rfl (by decide) ?_
  refine Vm.iconst (n := 5) (v := (4 : Int32)) dX3_seesSigned_4 rfl (by decide) ?_
  refine Vm.icmp_ne (n := 8) 12 dX3_seesSigned_5 rfl rfl (fun c9 => ?_) (fun c9 => ?_)
  · replace h := (if_neg c9).symm.trans h
    refine Vm.iconst (n := 13) (v := (0 : Int32)) dX3_seesSigned_12 rfl (by decide) ?_
    exact lX3_seesSigned_13 a1 a2 (0 : Int32) σ τ h hk
  · replace h := (if_pos c9).symm.trans h
    refine Vm.iconst (n := 9) (v := (1 : Int32)) dX3_seesSigned_8 rfl (by decide) ?_
    refine Vm.goto 13 dX3_seesSigned_9 rfl ?_
    exact lX3_seesSigned_13 a1 a2 (1 : Int32) σ τ h hk
theorem kX3_seesSigned (a1 : Int32) (a2 : Int32) (σ τ : mm) {q : Bool × mm} (h : fX3_seesSigned a1 a2 σ = some q) : Cx mX3_seesSigned 2 [.inr (.inr (3, 0)), .inl a1, .inl a2] (σ, τ) (some (.inl (bi q.1))) (q.2, τ) :=
  Cx.of (lv := [(0, .inr (.inr (3, 0))), (1, .inl a1), (2, .inl a2)]) (by decide) (fun ad => Nat.le_of_ble_eq_true rfl) (fun ad => rfl) (lX3_seesSigned_0 a1 a2 σ τ h ⟨rfl, rfl⟩)
-- ThinBodies$Reader readBox (LThinBodies$Body;)Z
noncomputable def fX3_readBox_0 (a1 : Nat) (σ : mm) : Option (Bool × mm) :=
  Option.bind (fX3_nextToken σ) fun q1 =>
  if (bi (fX3_seesNumber (0 : Int32) ((q1.1 0 a1 0) - (1 : Int32)) q1)) = (0 : Int32) then
  some ((false, q1))
  else
  Option.bind (some (q1.1 3 0 5)) fun x2 =>
  Option.bind (fX3_nextToken q1) fun q3 =>
  Option.bind (fX3_seesSigned (-9 : Int32) (9 : Int32) q3) fun q4 =>
  if (bi q4.1) = (0 : Int32) then
  some ((false, q4.2))
  else
  Option.bind (some (q4.2.1 3 0 5)) fun x5 =>
  Option.bind (fX3_nextToken q4.2) fun q6 =>
  Option.bind (fX3_seesSigned x5 (9 : Int32) q6) fun q7 =>
  if (bi q7.1) = (0 : Int32) then
  some ((false, q7.2))
  else
  Option.bind (fX0_pointsWithSide a1 x2 x5 (q7.2.1 3 0 5) q7.2) fun q8 =>
  if q8 ≤ (4096 : Int32) then
  Option.bind (fX0_setSide a1 x2 x5 (q7.2.1 3 0 5) q7.2) fun q9 =>
  Option.bind (fX3_nextToken q9) fun q10 =>
  some ((true, q10))
  else
  some ((false, q7.2))
noncomputable def fX3_readBox (a1 : Nat) (σ : mm) : Option (Bool × mm) := fX3_readBox_0 a1 σ
set_option maxRecDepth 20000 in
theorem lX3_readBox_0 (a1 : Nat) (ha1 : a1 < 3) (σ τ : mm) {r : Option mv} {M' : mm × mm} {v9 : Bool × mm} (h : fX3_readBox_0 a1 σ = some v9) (hk : (fun q : Bool × mm => r = some (.inl (bi q.1)) ∧ M' = (q.2, τ)) v9) : Vm mX3_readBox 3 0 [(0, .inr (.inr (3, 0))), (1, .inr (.inr (0, a1)))] [] (σ, τ) r M' := by
  unfold fX3_readBox_0 at h
  refine Vm.aload_n (n := 1) 0 dX3_readBox_0 rfl rfl ?_
  replace h := Option.bind_eq_some_iff.mp h
  obtain ⟨q1, h1, h⟩ := h
  refine Vm.callVv (Y := mX3_nextToken) (n := 4) [] dX3_readBox_1 rfl wv_RX3_31 omX3_nextToken rfl in_3 rfl rfl rfl (Nat.le_of_ble_eq_true rfl) (by decide) (kX3_nextToken σ τ h1) ?_
  refine Vm.aload_n (n := 5) 0 dX3_readBox_4 rfl rfl ?_
  refine Vm.iconst (n := 6) (v := (0 : Int32)) dX3_readBox_5 rfl (by decide) ?_
  refine Vm.aload_n (n := 7) 1 dX3_readBox_6 rfl rfl ?_
  refine Vm.gX (n := 10) dX3_readBox_7 rfl wf_RX3_103 (ink ik_0 (by omega)) rfl (by decide) rfl (by decide) ?_
  refine Vm.iconst (n := 11) (v := (1 : Int32)) dX3_readBox_10 rfl (by decide) ?_
  refine Vm.isub (n := 12) dX3_readBox_11 rfl ?_
  refine Vm.callV (Y := mX3_seesNumber) (n := 15) [.inl (0 : Int32), .inl ((q1.1 0 a1 0) - (1 : Int32))] dX3_readBox_12 rfl wv_RX3_90 omX3_seesNumber rfl in_3 rfl rfl rfl (Nat.le_of_ble_eq_true rfl) (by decide) (kX3_seesNumber (0 : Int32) ((q1.1 0 a1 0) - (1 : Int32)) q1 τ rfl) ?_
  refine Vm.if_ne (n := 18) 20 dX3_readBox_15 rfl rfl (fun c9 => ?_) (fun c9 => ?_)
  · replace h := (if_neg c9).symm.trans h
    refine Vm.aload_n (n := 21) 0 dX3_readBox_20 rfl rfl ?_
    refine Vm.gX (n := 24) dX3_readBox_21 rfl wf_RX3_28 in_3 rfl (by decide) rfl (by decide) ?_
    replace h := Option.bind_eq_some_iff.mp h
    obtain ⟨x2, e2, h⟩ := h
    replace e2 := Option.some.inj e2
    refine Vm.top e2 ?_
    refine Vm.istore_n (n := 25) (lv' := [(2, .inl x2), (0, .inr (.inr (3, 0))), (1, .inr (.inr (0, a1)))]) dX3_readBox_24 rfl (Nat.le_of_ble_eq_true rfl) rfl ?_
    refine Vm.aload_n (n := 26) 1 dX3_readBox_25 rfl rfl ?_
    replace h := Option.bind_eq_some_iff.mp h
    obtain ⟨q3, h3, h⟩ := h
    refine Vm.callVv (Y := mX3_nextToken) (n := 29) [] dX3_readBox_26 rfl wv_RX3_31 omX3_nextToken rfl in_3 rfl rfl rfl (Nat.le_of_ble_eq_true rfl) (by decide) (kX3_nextToken q1 τ h3) ?_
    refine Vm.aload_n (n := 30) 1 dX3_readBox_29 rfl rfl ?_
    refine Vm.bipush (n := 32) (v := (-9 : Int32)) dX3_readBox_30 rfl (by decide) ?_
    refine Vm.bipush (n := 34) (v := (9 : Int32)) dX3_readBox_32 rfl (by decide) ?_
    replace h := Option.bind_eq_some_iff.mp h
    obtain ⟨q4, h4, h⟩ := h
    refine Vm.callV (Y := mX3_seesSigned) (n := 37) [.inl (-9 : Int32), .inl (9 : Int32)] dX3_readBox_34 rfl wv_RX3_106 omX3_seesSigned rfl in_3 rfl rfl rfl (Nat.le_of_ble_eq_true rfl) (by decide) (kX3_seesSigned (-9 : Int32) (9 : Int32) q3 τ h4) ?_
    refine Vm.if_ne (n := 40) 42 dX3_readBox_37 rfl rfl (fun c9 => ?_) (fun c9 => ?_)
    · replace h := (if_neg c9).symm.trans h
      refine Vm.aload_n (n := 43) 1 dX3_readBox_42 rfl rfl ?_
      refine Vm.gX (n := 46) dX3_readBox_43 rfl wf_RX3_28 in_3 rfl (by decide) rfl (by decide) ?_
      replace h := Option.bind_eq_some_iff.mp h
      obtain ⟨x5, e5, h⟩ := h
      replace e5 := Option.some.inj e5
      refine Vm.top e5 ?_
      refine Vm.istore_n (n := 47) (lv' := [(3, .inl x5), (2, .inl x2), (0, .inr (.inr (3, 0))), (1, .inr (.inr (0, a1)))]) dX3_readBox_46 rfl (Nat.le_of_ble_eq_true rfl) rfl ?_
      refine Vm.aload_n (n := 48) 2 dX3_readBox_47 rfl rfl ?_
      replace h := Option.bind_eq_some_iff.mp h
      obtain ⟨q6, h6, h⟩ := h
      refine Vm.callVv (Y := mX3_nextToken) (n := 51) [] dX3_readBox_48 rfl wv_RX3_31 omX3_nextToken rfl in_3 rfl rfl rfl (Nat.le_of_ble_eq_true rfl) (by decide) (kX3_nextToken q4.2 τ h6) ?_
      refine Vm.aload_n (n := 52) 2 dX3_readBox_51 rfl rfl ?_
      refine Vm.iload_n (n := 53) 0 dX3_readBox_52 rfl rfl ?_
      refine Vm.bipush (n := 55) (v := (9 : Int32)) dX3_readBox_53 rfl (by decide) ?_
      replace h := Option.bind_eq_some_iff.mp h
      obtain ⟨q7, h7, h⟩ := h
      refine Vm.callV (Y := mX3_seesSigned) (n := 58) [.inl x5, .inl (9 : Int32)] dX3_readBox_55 rfl wv_RX3_106 omX3_seesSigned rfl in_3 rfl rfl rfl (Nat.le_of_ble_eq_true rfl) (by decide) (kX3_seesSigned x5 (9 : Int32) q6 τ h7) ?_
      refine Vm.if_eq (n := 61) 77 dX3_readBox_58 rfl rfl (fun c9 => ?_) (fun c9 => ?_)
      · replace h := (if_pos c9).symm.trans h
        refine Vm.iconst (n := 78) (v := (0 : Int32)) dX3_readBox_77 rfl (by decide) ?_
        obtain rfl := Option.some.inj h
        exact Vm.zret (b := false) dX3_readBox_78 rfl rfl hk.1 hk.2.symm
      · replace h := (if_neg c9).symm.trans h
        refine Vm.aload_n (n := 62) 3 dX3_readBox_61 rfl rfl ?_
        refine Vm.iload_n (n := 63) 1 dX3_readBox_62 rfl rfl ?_
        refine Vm.iload_n (n := 64) 0 dX3_readBox_63 rfl rfl ?_
        refine Vm.aload_n (n := 65) 2 dX3_readBox_64 rfl rfl ?_
        refine Vm.gX (n := 68) dX3_readBox_65 rfl wf_RX3_28 in_3 rfl (by decide) rfl (by decide) ?_
        replace h := Option.bind_eq_some_iff.mp h
        obtain ⟨q8, h8, h⟩ := h
        refine Vm.callV (Y := mX0_pointsWithSide) (n := 71) [.inl x2, .inl x5, .inl (q7.2.1 3 0 5)] dX3_readBox_68 rfl wv_RX3_109 omX0_pointsWithSide rfl (ink ik_0 (by omega)) rfl rfl rfl (Nat.le_of_ble_eq_true rfl) (by decide) (kX0_pointsWithSide a1 (by omega) x2 x5 (q7.2.1 3 0 5) q7.2 τ h8) ?_
        refine Vm.sipush (n := 74) (v := (4096 : Int32)) dX3_readBox_71 rfl (by decide) ?_
        refine Vm.icmp_le (n := 77) 79 dX3_readBox_74 rfl rfl (fun c9 => ?_) (fun c9 => ?_)
        · replace h := (if_pos c9).symm.trans h
          refine Vm.aload_n (n := 80) 3 dX3_readBox_79 rfl rfl ?_
          refine Vm.iload_n (n := 81) 1 dX3_readBox_80 rfl rfl ?_
          refine Vm.iload_n (n := 82) 0 dX3_readBox_81 rfl rfl ?_
          refine Vm.aload_n (n := 83) 2 dX3_readBox_82 rfl rfl ?_
          refine Vm.gX (n := 86) dX3_readBox_83 rfl wf_RX3_28 in_3 rfl (by decide) rfl (by decide) ?_
          replace h := Option.bind_eq_some_iff.mp h
          obtain ⟨q9, h9, h⟩ := h
          refine Vm.callVv (Y := mX0_setSide) (n := 89) [.inl x2, .inl x5, .inl (q7.2.1 3 0 5)] dX3_readBox_86 rfl wv_RX3_113 omX0_setSide rfl (ink ik_0 (by omega)) rfl rfl rfl (Nat.le_of_ble_eq_true rfl) (by decide) (kX0_setSide a1 (by omega) x2 x5 (q7.2.1 3 0 5) q7.2 τ h9) ?_
          refine Vm.aload_n (n := 90) 2 dX3_readBox_89 rfl rfl ?_
          replace h := Option.bind_eq_some_iff.mp h
          obtain ⟨q10, h10, h⟩ := h
          refine Vm.callVv (Y := mX3_nextToken) (n := 93) [] dX3_readBox_90 rfl wv_RX3_31 omX3_nextToken rfl in_3 rfl rfl rfl (Nat.le_of_ble_eq_true rfl) (by decide) (kX3_nextToken q9 τ h10) ?_
          refine Vm.iconst (n := 94) (v := (1 : Int32)) dX3_readBox_93 rfl (by decide) ?_
          obtain rfl := Option.some.inj h
          exact Vm.zret (b := true) dX3_readBox_94 rfl rfl hk.1 hk.2.symm
        · replace h := (if_neg c9).symm.trans h
          refine Vm.iconst (n := 78) (v := (0 : Int32)) dX3_readBox_77 rfl (by decide) ?_
          obtain rfl := Option.some.inj h
          exact Vm.zret (b := false) dX3_readBox_78 rfl rfl hk.1 hk.2.symm
    · replace h := (if_pos c9).symm.trans h
      refine Vm.iconst (n := 41) (v := (0 : Int32)) dX3_readBox_40 rfl (by decide) ?_
      obtain rfl := Option.some.inj h
      exact Vm.zret (b := false) dX3_readBox_41 rfl rfl hk.1 hk.2.symm
  · replace h := (if_pos c9).symm.trans h
    refine Vm.iconst (n := 19) (v := (0 : Int32)) dX3_readBox_18 rfl (by decide) ?_
    obtain rfl := Option.some.inj h
    exact Vm.zret (b := false) dX3_readBox_19 rfl rfl hk.1 hk.2.symm
theorem kX3_readBox (a1 : Nat) (ha1 : a1 < 3) (σ τ : mm) {q : Bool × mm} (h : fX3_readBox a1 σ = some q) : Cx mX3_readBox 3 [.inr (.inr (3, 0)), .inr (.inr (0, a1))] (σ, τ) (some (.inl (bi q.1))) (q.2, τ) :=
  Cx.of (lv := [(0, .inr (.inr (3, 0))), (1, .inr (.inr (0, a1)))]) (by decide) (fun ad => Nat.le_of_ble_eq_true rfl) (fun ad => rfl) (lX3_readBox_0 a1 ha1 σ τ h ⟨rfl, rfl⟩)
-- ThinBodies$Reader kindOfWord ()I
noncomputable def fX3_kindOfWord_0 (σ : mm) : Option (Int32) :=
  Option.bind (fX3_isWord 4 σ) fun q1 =>
  if (bi q1) = (0 : Int32) then
  Option.bind (fX3_isWord 5 σ) fun q2 =>
  if (bi q2) = (0 : Int32) then
  Option.bind (fX3_isWord 6 σ) fun q3 =>
  if (bi q3) = (0 : Int32) then
  Option.bind (fX3_isWord 7 σ) fun q4 =>
  if (bi q4) = (0 : Int32) then
  Option.bind (fX3_isWord 8 σ) fun q5 =>
  if (bi q5) = (0 : Int32) then
  Option.bind (fX3_isWord 9 σ) fun q6 =>
  if (bi q6) = (0 : Int32) then
  some ((-1 : Int32))
  else
  some ((5 : Int32))
  else
  some ((4 : Int32))
  else
  some ((3 : Int32))
  else
  some ((2 : Int32))
  else
  some ((1 : Int32))
  else
  some ((0 : Int32))
noncomputable def fX3_kindOfWord (σ : mm) : Option (Int32) := fX3_kindOfWord_0 σ
set_option maxRecDepth 20000 in
theorem lX3_kindOfWord_0 (σ σ0 τ : mm) (hσ : σ = σ0) {r : Option mv} {M' : mm × mm} {v9 : Int32} (h : fX3_kindOfWord_0 σ = some v9) (hk : (fun q : Int32 => r = some (.inl q) ∧ M' = (σ0, τ)) v9) : Vm mX3_kindOfWord 7 0 [(0, .inr (.inr (3, 0)))] [] (σ, τ) r M' := by
  unfold fX3_kindOfWord_0 at h
  refine Vm.aload_n (n := 1) 0 dX3_kindOfWord_0 rfl rfl ?_
  refine Vm.ldcs (n := 3)  4 dX3_kindOfWord_1 rfl (by decide) rfl ?_
  replace h := Option.bind_eq_some_iff.mp h
  obtain ⟨q1, h1, h⟩ := h
  refine Vm.callV (Y := mX3_isWord) (n := 6) [.inr (.inr (92, 4))] dX3_kindOfWord_3 rfl wv_RX3_59 omX3_isWord rfl in_3 rfl rfl rfl (Nat.le_of_ble_eq_true rfl) (by decide) (kX3_isWord 4 (by decide) σ τ h1) ?_
  refine Vm.if_eq (n := 9) 11 dX3_kindOfWord_6 rfl rfl (fun c9 => ?_) (fun c9 => ?_)
  · replace h := (if_pos c9).symm.trans h
    refine Vm.aload_n (n := 12) 0 dX3_kindOfWord_11 rfl rfl ?_
    refine Vm.ldcs (n := 14)  5 dX3_kindOfWord_12 rfl (by decide) rfl ?_
    replace h := Option.bind_eq_some_iff.mp h
    obtain ⟨q2, h2, h⟩ := h
    refine Vm.callV (Y := mX3_isWord) (n := 17) [.inr (.inr (92, 5))] dX3_kindOfWord_14 rfl wv_RX3_59 omX3_isWord rfl in_3 rfl rfl rfl (Nat.le_of_ble_eq_true rfl) (by decide) (kX3_isWord 5 (by decide) σ τ h2) ?_
    refine Vm.if_eq (n := 20) 22 dX3_kindOfWord_17 rfl rfl (fun c9 => ?_) (fun c9 => ?_)
    · replace h := (if_pos c9).symm.trans h
      refine Vm.aload_n (n := 23) 0 dX3_kindOfWord_22 rfl rfl ?_
      refine Vm.ldcs (n := 25)  6 dX3_kindOfWord_23 rfl (by decide) rfl ?_
      replace h := Option.bind_eq_some_iff.mp h
      obtain ⟨q3, h3, h⟩ := h
      refine Vm.callV (Y := mX3_isWord) (n := 28) [.inr (.inr (92, 6))] dX3_kindOfWord_25 rfl wv_RX3_59 omX3_isWord rfl in_3 rfl rfl rfl (Nat.le_of_ble_eq_true rfl) (by decide) (kX3_isWord 6 (by decide) σ τ h3) ?_
      refine Vm.if_eq (n := 31) 33 dX3_kindOfWord_28 rfl rfl (fun c9 => ?_) (fun c9 => ?_)
      · replace h := (if_pos c9).symm.trans h
        refine Vm.aload_n (n := 34) 0 dX3_kindOfWord_33 rfl rfl ?_
        refine Vm.ldcs (n := 36)  7 dX3_kindOfWord_34 rfl (by decide) rfl ?_
        replace h := Option.bind_eq_some_iff.mp h
        obtain ⟨q4, h4, h⟩ := h
        refine Vm.callV (Y := mX3_isWord) (n := 39) [.inr (.inr (92, 7))] dX3_kindOfWord_36 rfl wv_RX3_59 omX3_isWord rfl in_3 rfl rfl rfl (Nat.le_of_ble_eq_true rfl) (by decide) (kX3_isWord 7 (by decide) σ τ h4) ?_
        refine Vm.if_eq (n := 42) 44 dX3_kindOfWord_39 rfl rfl (fun c9 => ?_) (fun c9 => ?_)
        · replace h := (if_pos c9).symm.trans h
          refine Vm.aload_n (n := 45) 0 dX3_kindOfWord_44 rfl rfl ?_
          refine Vm.ldcs (n := 47)  8 dX3_kindOfWord_45 rfl (by decide) rfl ?_
          replace h := Option.bind_eq_some_iff.mp h
          obtain ⟨q5, h5, h⟩ := h
          refine Vm.callV (Y := mX3_isWord) (n := 50) [.inr (.inr (92, 8))] dX3_kindOfWord_47 rfl wv_RX3_59 omX3_isWord rfl in_3 rfl rfl rfl (Nat.le_of_ble_eq_true rfl) (by decide) (kX3_isWord 8 (by decide) σ τ h5) ?_
          refine Vm.if_eq (n := 53) 55 dX3_kindOfWord_50 rfl rfl (fun c9 => ?_) (fun c9 => ?_)
          · replace h := (if_pos c9).symm.trans h
            refine Vm.aload_n (n := 56) 0 dX3_kindOfWord_55 rfl rfl ?_
            refine Vm.ldcs (n := 58)  9 dX3_kindOfWord_56 rfl (by decide) rfl ?_
            replace h := Option.bind_eq_some_iff.mp h
            obtain ⟨q6, h6, h⟩ := h
            refine Vm.callV (Y := mX3_isWord) (n := 61) [.inr (.inr (92, 9))] dX3_kindOfWord_58 rfl wv_RX3_59 omX3_isWord rfl in_3 rfl rfl rfl (Nat.le_of_ble_eq_true rfl) (by decide) (kX3_isWord 9 (by decide) σ τ h6) ?_
            refine Vm.if_eq (n := 64) 68 dX3_kindOfWord_61 rfl rfl (fun c9 => ?_) (fun c9 => ?_)
            · replace h := (if_pos c9).symm.trans h
              refine Vm.iconst (n := 69) (v := (-1 : Int32)) dX3_kindOfWord_68 rfl (by decide) ?_
              obtain rfl := Option.some.inj h
              exact Vm.iret dX3_kindOfWord_69 rfl hk.1 (by rw [hσ]; exact hk.2.symm)
            · replace h := (if_neg c9).symm.trans h
              refine Vm.iconst (n := 65) (v := (5 : Int32)) dX3_kindOfWord_64 rfl (by decide) ?_
              refine Vm.goto 69 dX3_kindOfWord_65 rfl ?_
              obtain rfl := Option.some.inj h
              exact Vm.iret dX3_kindOfWord_69 rfl hk.1 (by rw [hσ]; exact hk.2.symm)
          · replace h := (if_neg c9).symm.trans h
            refine Vm.iconst (n := 54) (v := (4 : Int32)) dX3_kindOfWord_53 rfl (by decide) ?_
            obtain rfl := Option.some.inj h
            exact Vm.iret dX3_kindOfWord_54 rfl hk.1 (by rw [hσ]; exact hk.2.symm)
        · replace h := (if_neg c9).symm.trans h
          refine Vm.iconst (n := 43) (v := (3 : Int32)) dX3_kindOfWord_42 rfl (by decide) ?_
          obtain rfl := Option.some.inj h
          exact Vm.iret dX3_kindOfWord_43 rfl hk.1 (by rw [hσ]; exact hk.2.symm)
      · replace h := (if_neg c9).symm.trans h
        refine Vm.iconst (n := 32) (v := (2 : Int32)) dX3_kindOfWord_31 rfl (by decide) ?_
        obtain rfl := Option.some.inj h
        exact Vm.iret dX3_kindOfWord_32 rfl hk.1 (by rw [hσ]; exact hk.2.symm)
    · replace h := (if_neg c9).symm.trans h
      refine Vm.iconst (n := 21) (v := (1 : Int32)) dX3_kindOfWord_20 rfl (by decide) ?_
      obtain rfl := Option.some.inj h
      exact Vm.iret dX3_kindOfWord_21 rfl hk.1 (by rw [hσ]; exact hk.2.symm)
  · replace h := (if_neg c9).symm.trans h
    refine Vm.iconst (n := 10) (v := (0 : Int32)) dX3_kindOfWord_9 rfl (by decide) ?_
    obtain rfl := Option.some.inj h
    exact Vm.iret dX3_kindOfWord_10 rfl hk.1 (by rw [hσ]; exact hk.2.symm)
theorem kX3_kindOfWord (σ τ : mm) {q : Int32} (h : fX3_kindOfWord σ = some q) : Cx mX3_kindOfWord 7 [.inr (.inr (3, 0))] (σ, τ) (some (.inl q)) (σ, τ) :=
  Cx.of (lv := [(0, .inr (.inr (3, 0)))]) (by decide) (fun ad => Nat.le_of_ble_eq_true rfl) (fun ad => rfl) (lX3_kindOfWord_0 σ σ τ rfl h ⟨rfl, rfl⟩)
-- ThinBodies$Reader readRow (LThinBodies$Body;I)Z
noncomputable def fX3_readRow_109 (a3 : Nat) (σ : mm) : Option (Bool × mm) :=
  Option.bind (fX3_isWord 3 σ) fun q1 =>
  if (bi q1) = (0 : Int32) then
  some ((true, σ))
  else
  Option.bind (fX3_nextToken σ) fun q2 =>
  if (bi (fX3_seesNumber (1 : Int32) (99 : Int32) q2)) = (0 : Int32) then
  some ((false, q2))
  else
  Option.bind (some (q2.1 3 0 5)) fun x3 =>
  Option.bind (some (stI q2 4 a3 2 x3)) fun σ4 =>
  Option.bind (fX3_nextToken σ4) fun q5 =>
  some ((true, q5))
noncomputable def fX3_readRow_26 (a1 : Nat) (a3 : Nat) (a4 : Int32) (σ : mm) : Option ((Int32 × mm) ⊕ (Bool × mm)) :=
  if (σ.1 0 a1 0) ≤ a4 then
  Option.bind (fX3_isWord 2 σ) fun q1 =>
  if (bi q1) = (0 : Int32) then
  Option.map Sum.inr (fX3_readRow_109 a3 σ)
  else
  Option.bind (fX3_nextToken σ) fun q2 =>
  Option.bind (fX3_seesSigned (-999 : Int32) (999 : Int32) q2) fun q3 =>
  if (bi q3.1) = (0 : Int32) then
  some (.inr ((false, q3.2)))
  else
  Option.bind (some (q3.2.1 3 0 5)) fun x4 =>
  Option.bind (some (stI q3.2 4 a3 1 x4)) fun σ5 =>
  Option.bind (fX3_nextToken σ5) fun q6 =>
  Option.map Sum.inr (fX3_readRow_109 a3 q6)
  else
  Option.bind (fX3_seesSigned (-9 : Int32) (9 : Int32) σ) fun q7 =>
  if (bi q7.1) = (0 : Int32) then
  some (.inr ((false, q7.2)))
  else
  Option.bind (wrI q7.2 10 a3 4 a4 (q7.2.1 3 0 5)) fun σ8 =>
  Option.bind (fX3_nextToken σ8) fun q9 =>
  Option.bind (some (a4 + (1 : Int32))) fun x10 =>
  some (.inl (x10, q9))
noncomputable def fX3_readRow_26_L (a1 : Nat) (a3 : Nat) : Int32 × mm → Option ((Int32 × mm) ⊕ (Bool × mm)) := fun z => fX3_readRow_26 a1 a3 z.1 z.2
noncomputable def fX3_readRow_0 (a1 : Nat) (a2 : Int32) (σ : mm) : Option (Bool × mm) :=
  if (σ.1 0 a1 4) < (8 : Int32) then
  Option.bind (fX0_addRow a1 a2 (0 : Int32) (1 : Int32) σ) fun q1 =>
  Option.bind (fX3_nextToken q1.2) fun q2 =>
  lp (fX3_readRow_26_L a1 q1.1) ((0 : Int32), q2)
  else
  some ((false, σ))
noncomputable def fX3_readRow (a1 : Nat) (a2 : Int32) (σ : mm) : Option (Bool × mm) := fX3_readRow_0 a1 a2 σ
set_option maxRecDepth 20000 in
theorem lX3_readRow_109 (a3 : Nat) (ha3 : a3 < 24) (σ τ : mm) {r : Option mv} {M' : mm × mm} {v9 : Bool × mm} (h : fX3_readRow_109 a3 σ = some v9) (hk : (fun q : Bool × mm => r = some (.inl (bi q.1)) ∧ M' = (q.2, τ)) v9) : Vm mX3_readRow 7 109 [(0, .inr (.inr (3, 0))), (3, .inr (.inr (4, a3)))] [] (σ, τ) r M' := by
  unfold fX3_readRow_109 at h
  refine Vm.aload_n (n := 110) 0 dX3_readRow_109 rfl rfl ?_
  refine Vm.ldcs (n := 112)  3 dX3_readRow_110 rfl (by decide) rfl ?_
  replace h := Option.bind_eq_some_iff.mp h
  obtain ⟨q1, h1, h⟩ := h
  refine Vm.callV (Y := mX3_isWord) (n := 115) [.inr (.inr (92, 3))] dX3_readRow_112 rfl wv_RX3_59 omX3_isWord rfl in_3 rfl rfl rfl (Nat.le_of_ble_eq_true rfl) (by decide) (kX3_isWord 3 (by decide) σ τ h1) ?_
  refine Vm.if_eq (n := 118) 146 dX3_readRow_115 rfl rfl (fun c9 => ?_) (fun c9 => ?_)
  · replace h := (if_pos c9).symm.trans h
    refine Vm.iconst (n := 147) (v := (1 : Int32)) dX3_readRow_146 rfl (by decide) ?_
    obtain rfl := Option.some.inj h
    exact Vm.zret (b := true) dX3_readRow_147 rfl rfl hk.1 hk.2.symm
  · replace h := (if_neg c9).symm.trans h
    refine Vm.aload_n (n := 119) 0 dX3_readRow_118 rfl rfl ?_
    replace h := Option.bind_eq_some_iff.mp h
    obtain ⟨q2, h2, h⟩ := h
    refine Vm.callVv (Y := mX3_nextToken) (n := 122) [] dX3_readRow_119 rfl wv_RX3_31 omX3_nextToken rfl in_3 rfl rfl rfl (Nat.le_of_ble_eq_true rfl) (by decide) (kX3_nextToken σ τ h2) ?_
    refine Vm.aload_n (n := 123) 0 dX3_readRow_122 rfl rfl ?_
    refine Vm.iconst (n := 124) (v := (1 : Int32)) dX3_readRow_123 rfl (by decide) ?_
    refine Vm.bipush (n := 126) (v := (99 : Int32)) dX3_readRow_124 rfl (by decide) ?_
    refine Vm.callV (Y := mX3_seesNumber) (n := 129) [.inl (1 : Int32), .inl (99 : Int32)] dX3_readRow_126 rfl wv_RX3_90 omX3_seesNumber rfl in_3 rfl rfl rfl (Nat.le_of_ble_eq_true rfl) (by decide) (kX3_seesNumber (1 : Int32) (99 : Int32) q2 τ rfl) ?_
    refine Vm.if_ne (n := 132) 134 dX3_readRow_129 rfl rfl (fun c9 => ?_) (fun c9 => ?_)
    · replace h := (if_neg c9).symm.trans h
      refine Vm.aload_n (n := 135) 1 dX3_readRow_134 rfl rfl ?_
      refine Vm.aload_n (n := 136) 0 dX3_readRow_135 rfl rfl ?_
      refine Vm.gX (n := 139) dX3_readRow_136 rfl wf_RX3_28 in_3 rfl (by decide) rfl (by decide) ?_
      replace h := Option.bind_eq_some_iff.mp h
      obtain ⟨x3, e3, h⟩ := h
      replace e3 := Option.some.inj e3
      refine Vm.top e3 ?_
      refine Vm.pX (n := 142) (ty := .int) dX3_readRow_139 rfl wf_RX3_136 (ink ik_4 (by omega)) rfl (by decide) rfl (by decide) rfl rfl rfl rfl ?_
      replace h := Option.bind_eq_some_iff.mp h
      obtain ⟨σ4, e4, h⟩ := h
      replace e4 := Option.some.inj e4
      refine Vm.mem (congrArg (fun z => (z, τ)) e4) ?_
      refine Vm.aload_n (n := 143) 0 dX3_readRow_142 rfl rfl ?_
      replace h := Option.bind_eq_some_iff.mp h
      obtain ⟨q5, h5, h⟩ := h
      refine Vm.callVv (Y := mX3_nextToken) (n := 146) [] dX3_readRow_143 rfl wv_RX3_31 omX3_nextToken rfl in_3 rfl rfl rfl (Nat.le_of_ble_eq_true rfl) (by decide) (kX3_nextToken σ4 τ h5) ?_
      refine Vm.iconst (n := 147) (v := (1 : Int32)) dX3_readRow_146 rfl (by decide) ?_
      obtain rfl := Option.some.inj h
      exact Vm.zret (b := true) dX3_readRow_147 rfl rfl hk.1 hk.2.symm
    · replace h := (if_pos c9).symm.trans h
      refine Vm.iconst (n := 133) (v := (0 : Int32)) dX3_readRow_132 rfl (by decide) ?_
      obtain rfl := Option.some.inj h
      exact Vm.zret (b := false) dX3_readRow_133 rfl rfl hk.1 hk.2.symm
set_option maxRecDepth 20000 in
theorem lX3_readRow_26 (a1 : Nat) (ha1 : a1 < 3) (a3 : Nat) (ha3 : a3 < 24) (a4 : Int32) (σ τ : mm) {r : Option mv} {M' : mm × mm} {v9 : (Int32 × mm) ⊕ (Bool × mm)} (h : fX3_readRow_26 a1 a3 a4 σ = some v9) (hk : (Sum.elim (fun z : Int32 × mm => Vm mX3_readRow 7 26 [(0, .inr (.inr (3, 0))), (1, .inr (.inr (0, a1))), (3, .inr (.inr (4, a3))), (4, .inl z.1)] [] (z.2, τ) r M') (fun q : Bool × mm => r = some (.inl (bi q.1)) ∧ M' = (q.2, τ))) v9) : Vm mX3_readRow 7 26 [(0, .inr (.inr (3, 0))), (1, .inr (.inr (0, a1))), (3, .inr (.inr (4, a3))), (4, .inl a4)] [] (σ, τ) r M' := by
  unfold fX3_readRow_26 at h
  refine Vm.iload (n := 28) 3 dX3_readRow_26 rfl rfl ?_
  refine Vm.aload_n (n := 29) 1 dX3_readRow_28 rfl rfl ?_
  refine Vm.gX (n := 32) dX3_readRow_29 rfl wf_RX3_103 (ink ik_0 (by omega)) rfl (by decide) rfl (by decide) ?_
  refine Vm.icmp_ge (n := 35) 69 dX3_readRow_32 rfl rfl (fun c9 => ?_) (fun c9 => ?_)
  · replace h := (if_pos c9).symm.trans h
    refine Vm.aload_n (n := 70) 0 dX3_readRow_69 rfl rfl ?_
    refine Vm.ldcs (n := 72)  2 dX3_readRow_70 rfl (by decide) rfl ?_
    replace h := Option.bind_eq_some_iff.mp h
    obtain ⟨q1, h1, h⟩ := h
    refine Vm.callV (Y := mX3_isWord) (n := 75) [.inr (.inr (92, 2))] dX3_readRow_72 rfl wv_RX3_59 omX3_isWord rfl in_3 rfl rfl rfl (Nat.le_of_ble_eq_true rfl) (by decide) (kX3_isWord 2 (by decide) σ τ h1) ?_
    refine Vm.if_eq (n := 78) 109 dX3_readRow_75 rfl rfl (fun c9 => ?_) (fun c9 => ?_)
    · replace h := (if_pos c9).symm.trans h
      refine Vm.sub (lv' := [(0, .inr (.inr (3, 0))), (3, .inr (.inr (4, a3)))]) [0, 2] rfl ?_
      replace h := Option.map_eq_some_iff.mp h
      obtain ⟨w9, h, e8⟩ := h
      subst e8
      exact lX3_readRow_109 a3 (by omega) σ τ h hk
    · replace h := (if_neg c9).symm.trans h
      refine Vm.aload_n (n := 79) 0 dX3_readRow_78 rfl rfl ?_
      replace h := Option.bind_eq_some_iff.mp h
      obtain ⟨q2, h2, h⟩ := h
      refine Vm.callVv (Y := mX3_nextToken) (n := 82) [] dX3_readRow_79 rfl wv_RX3_31 omX3_nextToken rfl in_3 rfl rfl rfl (Nat.le_of_ble_eq_true rfl) (by decide) (kX3_nextToken σ τ h2) ?_
      refine Vm.aload_n (n := 83) 0 dX3_readRow_82 rfl rfl ?_
      refine Vm.sipush (n := 86) (v := (-999 : Int32)) dX3_readRow_83 rfl (by decide) ?_
      refine Vm.sipush (n := 89) (v := (999 : Int32)) dX3_readRow_86 rfl (by decide) ?_
      replace h := Option.bind_eq_some_iff.mp h
      obtain ⟨q3, h3, h⟩ := h
      refine Vm.callV (Y := mX3_seesSigned) (n := 92) [.inl (-999 : Int32), .inl (999 : Int32)] dX3_readRow_89 rfl wv_RX3_106 omX3_seesSigned rfl in_3 rfl rfl rfl (Nat.le_of_ble_eq_true rfl) (by decide) (kX3_seesSigned (-999 : Int32) (999 : Int32) q2 τ h3) ?_
      refine Vm.if_ne (n := 95) 97 dX3_readRow_92 rfl rfl (fun c9 => ?_) (fun c9 => ?_)
      · replace h := (if_neg c9).symm.trans h
        refine Vm.aload_n (n := 98) 2 dX3_readRow_97 rfl rfl ?_
        refine Vm.aload_n (n := 99) 0 dX3_readRow_98 rfl rfl ?_
        refine Vm.gX (n := 102) dX3_readRow_99 rfl wf_RX3_28 in_3 rfl (by decide) rfl (by decide) ?_
        replace h := Option.bind_eq_some_iff.mp h
        obtain ⟨x4, e4, h⟩ := h
        replace e4 := Option.some.inj e4
        refine Vm.top e4 ?_
        refine Vm.pX (n := 105) (ty := .int) dX3_readRow_102 rfl wf_RX3_132 (ink ik_4 (by omega)) rfl (by decide) rfl (by decide) rfl rfl rfl rfl ?_
        replace h := Option.bind_eq_some_iff.mp h
        obtain ⟨σ5, e5, h⟩ := h
        replace e5 := Option.some.inj e5
        refine Vm.mem (congrArg (fun z => (z, τ)) e5) ?_
        refine Vm.aload_n (n := 106) 0 dX3_readRow_105 rfl rfl ?_
        replace h := Option.bind_eq_some_iff.mp h
        obtain ⟨q6, h6, h⟩ := h
        refine Vm.callVv (Y := mX3_nextToken) (n := 109) [] dX3_readRow_106 rfl wv_RX3_31 omX3_nextToken rfl in_3 rfl rfl rfl (Nat.le_of_ble_eq_true rfl) (by decide) (kX3_nextToken σ5 τ h6) ?_
        refine Vm.sub (lv' := [(0, .inr (.inr (3, 0))), (3, .inr (.inr (4, a3)))]) [0, 2] rfl ?_
        replace h := Option.map_eq_some_iff.mp h
        obtain ⟨w9, h, e8⟩ := h
        subst e8
        exact lX3_readRow_109 a3 (by omega) q6 τ h hk
      · replace h := (if_pos c9).symm.trans h
        refine Vm.iconst (n := 96) (v := (0 : Int32)) dX3_readRow_95 rfl (by decide) ?_
        obtain rfl := Option.some.inj h
        exact Vm.zret (b := false) dX3_readRow_96 rfl rfl hk.1 hk.2.symm
  · replace h := (if_neg c9).symm.trans h
    refine Vm.aload_n (n := 36) 0 dX3_readRow_35 rfl rfl ?_
    refine Vm.bipush (n := 38) (v := (-9 : Int32)) dX3_readRow_36 rfl (by decide) ?_
    refine Vm.bipush (n := 40) (v := (9 : Int32)) dX3_readRow_38 rfl (by decide) ?_
    replace h := Option.bind_eq_some_iff.mp h
    obtain ⟨q7, h7, h⟩ := h
    refine Vm.callV (Y := mX3_seesSigned) (n := 43) [.inl (-9 : Int32), .inl (9 : Int32)] dX3_readRow_40 rfl wv_RX3_106 omX3_seesSigned rfl in_3 rfl rfl rfl (Nat.le_of_ble_eq_true rfl) (by decide) (kX3_seesSigned (-9 : Int32) (9 : Int32) σ τ h7) ?_
    refine Vm.if_ne (n := 46) 48 dX3_readRow_43 rfl rfl (fun c9 => ?_) (fun c9 => ?_)
    · replace h := (if_neg c9).symm.trans h
      refine Vm.aload_n (n := 49) 2 dX3_readRow_48 rfl rfl ?_
      refine Vm.getR (n := 52) dX3_readRow_49 rfl wf_RX3_124 (ink ik_4 (by omega)) rfl (by decide) rfl ?_
      refine Vm.iload (n := 54) 3 dX3_readRow_52 rfl rfl ?_
      refine Vm.aload_n (n := 55) 0 dX3_readRow_54 rfl rfl ?_
      refine Vm.gX (n := 58) dX3_readRow_55 rfl wf_RX3_28 in_3 rfl (by decide) rfl (by decide) ?_
      replace h := Option.bind_eq_some_iff.mp h
      obtain ⟨σ8, h8, h⟩ := h
      refine Vm.iastx (n := 59) dX3_readRow_58 rfl (ink ik_10 (by omega)) rfl rfl (by decide) h8 ?_
      refine Vm.aload_n (n := 60) 0 dX3_readRow_59 rfl rfl ?_
      replace h := Option.bind_eq_some_iff.mp h
      obtain ⟨q9, h9, h⟩ := h
      refine Vm.callVv (Y := mX3_nextToken) (n := 63) [] dX3_readRow_60 rfl wv_RX3_31 omX3_nextToken rfl in_3 rfl rfl rfl (Nat.le_of_ble_eq_true rfl) (by decide) (kX3_nextToken σ8 τ h9) ?_
      replace h := Option.bind_eq_some_iff.mp h
      obtain ⟨x10, e10, h⟩ := h
      replace e10 := Option.some.inj e10
      refine Vm.iinc (n := 66) (v := x10) (lv' := [(4, .inl x10), (0, .inr (.inr (3, 0))), (1, .inr (.inr (0, a1))), (3, .inr (.inr (4, a3)))]) 3 dX3_readRow_63 rfl rfl e10 (Nat.le_of_ble_eq_true rfl) rfl ?_
      refine Vm.goto 26 dX3_readRow_66 rfl ?_
      refine Vm.sub (lv' := [(0, .inr (.inr (3, 0))), (1, .inr (.inr (0, a1))), (3, .inr (.inr (4, a3))), (4, .inl x10)]) [1, 2, 3, 0] rfl ?_
      obtain rfl := Option.some.inj h
      exact hk
    · replace h := (if_pos c9).symm.trans h
      refine Vm.iconst (n := 47) (v := (0 : Int32)) dX3_readRow_46 rfl (by decide) ?_
      obtain rfl := Option.some.inj h
      exact Vm.zret (b := false) dX3_readRow_47 rfl rfl hk.1 hk.2.symm
theorem lX3_readRow_26_L (a1 : Nat) (ha1 : a1 < 3) (a3 : Nat) (ha3 : a3 < 24) (τ : mm) {r : Option mv} {M' : mm × mm} (z : Int32 × mm) (w9 : Bool × mm) (h : lp (fX3_readRow_26_L a1 a3) z = some w9) (hk : (fun q : Bool × mm => r = some (.inl (bi q.1)) ∧ M' = (q.2, τ)) w9) : Vm mX3_readRow 7 26 [(0, .inr (.inr (3, 0))), (1, .inr (.inr (0, a1))), (3, .inr (.inr (4, a3))), (4, .inl z.1)] [] (z.2, τ) r M' :=
  lp_link (S := Int32 × mm) (R := Bool × mm) (body := fX3_readRow_26_L a1 a3) (A := fun z : Int32 × mm => Vm mX3_readRow 7 26 [(0, .inr (.inr (3, 0))), (1, .inr (.inr (0, a1))), (3, .inr (.inr (4, a3))), (4, .inl z.1)] [] (z.2, τ) r M') (B := fun w : Bool × mm => (fun q : Bool × mm => r = some (.inl (bi q.1)) ∧ M' = (q.2, τ)) w) (fun z v hb hv => lX3_readRow_26 a1 ha1 a3 ha3 z.1 z.2 τ hb hv) z w9 h hk
set_option maxRecDepth 20000 in
theorem lX3_readRow_0 (a1 : Nat) (ha1 : a1 < 3) (a2 : Int32) (σ τ : mm) {r : Option mv} {M' : mm × mm} {v9 : Bool × mm} (h : fX3_readRow_0 a1 a2 σ = some v9) (hk : (fun q : Bool × mm => r = some (.inl (bi q.1)) ∧ M' = (q.2, τ)) v9) : Vm mX3_readRow 7 0 [(0, .inr (.inr (3, 0))), (1, .inr (.inr (0, a1))), (2, .inl a2)] [] (σ, τ) r M' := by
  unfold fX3_readRow_0 at h
  refine Vm.aload_n (n := 1) 1 dX3_readRow_0 rfl rfl ?_
  refine Vm.gX (n := 4) dX3_readRow_1 rfl wf_RX3_117 (ink ik_0 (by omega)) rfl (by decide) rfl (by decide) ?_
  refine Vm.bipush (n := 6) (v := (8 : Int32)) dX3_readRow_4 rfl (by decide) ?_
  refine Vm.icmp_lt (n := 9) 11 dX3_readRow_6 rfl rfl (fun c9 => ?_) (fun c9 => ?_)
  · replace h := (if_pos c9).symm.trans h
    refine Vm.aload_n (n := 12) 1 dX3_readRow_11 rfl rfl ?_
    refine Vm.iload_n (n := 13) 2 dX3_readRow_12 rfl rfl ?_
    refine Vm.iconst (n := 14) (v := (0 : Int32)) dX3_readRow_13 rfl (by decide) ?_
    refine Vm.iconst (n := 15) (v := (1 : Int32)) dX3_readRow_14 rfl (by decide) ?_
    replace h := Option.bind_eq_some_iff.mp h
    obtain ⟨q1, h1, h⟩ := h
    refine Vm.callV (Y := mX0_addRow) (n := 18) [.inl a2, .inl (0 : Int32), .inl (1 : Int32)] dX3_readRow_15 rfl wv_RX3_120 omX0_addRow rfl (ink ik_0 (by omega)) rfl rfl rfl (Nat.le_of_ble_eq_true rfl) (by decide) (kX0_addRow a1 (by omega) a2 (0 : Int32) (1 : Int32) σ τ h1) ?_
    have g1 := fX0_addRow_lt (by omega) h1
    refine Vm.astore_n (n := 19) (lv' := [(3, .inr (.inr (4, q1.1))), (0, .inr (.inr (3, 0))), (1, .inr (.inr (0, a1))), (2, .inl a2)]) dX3_readRow_18 rfl (Nat.le_of_ble_eq_true rfl) rfl ?_
    refine Vm.aload_n (n := 20) 1 dX3_readRow_19 rfl rfl ?_
    replace h := Option.bind_eq_some_iff.mp h
    obtain ⟨q2, h2, h⟩ := h
    refine Vm.callVv (Y := mX3_nextToken) (n := 23) [] dX3_readRow_20 rfl wv_RX3_31 omX3_nextToken rfl in_3 rfl rfl rfl (Nat.le_of_ble_eq_true rfl) (by decide) (kX3_nextToken q1.2 τ h2) ?_
    refine Vm.iconst (n := 24) (v := (0 : Int32)) dX3_readRow_23 rfl (by decide) ?_
    refine Vm.istore (n := 26) (lv' := [(4, .inl (0 : Int32)), (3, .inr (.inr (4, q1.1))), (0, .inr (.inr (3, 0))), (1, .inr (.inr (0, a1))), (2, .inl a2)]) dX3_readRow_24 rfl (Nat.le_of_ble_eq_true rfl) rfl ?_
    refine Vm.sub (lv' := [(0, .inr (.inr (3, 0))), (1, .inr (.inr (0, a1))), (3, .inr (.inr (4, q1.1))), (4, .inl (0 : Int32))]) [2, 3, 1, 0] rfl ?_
    exact lX3_readRow_26_L a1 (by omega) q1.1 (by omega) τ ((0 : Int32), q2) _ h hk
  · replace h := (if_neg c9).symm.trans h
    refine Vm.iconst (n := 10) (v := (0 : Int32)) dX3_readRow_9 rfl (by decide) ?_
    obtain rfl := Option.some.inj h
    exact Vm.zret (b := false) dX3_readRow_10 rfl rfl hk.1 hk.2.symm
theorem kX3_readRow (a1 : Nat) (ha1 : a1 < 3) (a2 : Int32) (σ τ : mm) {q : Bool × mm} (h : fX3_readRow a1 a2 σ = some q) : Cx mX3_readRow 7 [.inr (.inr (3, 0)), .inr (.inr (0, a1)), .inl a2] (σ, τ) (some (.inl (bi q.1))) (q.2, τ) :=
  Cx.of (lv := [(0, .inr (.inr (3, 0))), (1, .inr (.inr (0, a1))), (2, .inl a2)]) (by decide) (fun ad => Nat.le_of_ble_eq_true rfl) (fun ad => rfl) (lX3_readRow_0 a1 ha1 a2 σ τ h ⟨rfl, rfl⟩)
