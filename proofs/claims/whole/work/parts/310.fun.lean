-- ThinBodiesModel swap (II)I
noncomputable def fX8_swap_18 (a1 : Int32) (a2 : Int32) (a3 : Int32) (σ : mm) : Option ((Int32 × mm) ⊕ (Int32 × mm)) :=
  if (σ.1 32 0 1) ≤ a3 then
  some (.inr (((1 : Int32), σ)))
  else
  Option.bind (rdI σ 46 0 16 (((4 : Int32) * a1) + a3)) fun x1 =>
  Option.bind (rdI σ 46 0 16 (((4 : Int32) * a2) + a3)) fun x2 =>
  Option.bind (wrI σ 46 0 16 (((4 : Int32) * a1) + a3) x2) fun σ3 =>
  Option.bind (wrI σ3 46 0 16 (((4 : Int32) * a2) + a3) x1) fun σ4 =>
  Option.bind (some (a3 + (1 : Int32))) fun x5 =>
  some (.inl (x5, σ4))
noncomputable def fX8_swap_18_L (a1 : Int32) (a2 : Int32) : Int32 × mm → Option ((Int32 × mm) ⊕ (Int32 × mm)) := fun z => fX8_swap_18 a1 a2 z.1 z.2
noncomputable def fX8_swap_0 (a1 : Int32) (a2 : Int32) (σ : mm) : Option (Int32 × mm) :=
  if (bi (fX8_areTwo a1 a2 σ)) = (0 : Int32) then
  Option.bind (fX8_finds (-1000000001 : Int32) σ) fun q1 =>
  some ((q1.1, q1.2))
  else
  lp (fX8_swap_18_L a1 a2) ((0 : Int32), σ)
noncomputable def fX8_swap (a1 : Int32) (a2 : Int32) (σ : mm) : Option (Int32 × mm) := fX8_swap_0 a1 a2 σ
set_option maxRecDepth 20000 in
theorem lX8_swap_18 (a1 : Int32) (a2 : Int32) (a3 : Int32) (σ τ : mm) {r : Option mv} {M' : mm × mm} {v9 : (Int32 × mm) ⊕ (Int32 × mm)} (h : fX8_swap_18 a1 a2 a3 σ = some v9) (hk : (Sum.elim (fun z : Int32 × mm => Vm mX8_swap 3 18 [(0, .inr (.inr (32, 0))), (1, .inl a1), (2, .inl a2), (3, .inl z.1)] [] (τ, z.2) r M') (fun q : Int32 × mm => r = some (.inl q.1) ∧ M' = (τ, q.2))) v9) : Vm mX8_swap 3 18 [(0, .inr (.inr (32, 0))), (1, .inl a1), (2, .inl a2), (3, .inl a3)] [] (τ, σ) r M' := by
  unfold fX8_swap_18 at h
  refine Vm.iload_n (n := 19) 3 dX8_swap_18 rfl rfl ?_
  refine Vm.aload_n (n := 20) 0 dX8_swap_19 rfl rfl ?_
  refine Vm.gM (n := 23) dX8_swap_20 rfl wf_RX8_13 in_32 rfl (by decide) rfl (by decide) ?_
  refine Vm.icmp_ge (n := 26) 76 dX8_swap_23 rfl rfl (fun c9 => ?_) (fun c9 => ?_)
  · replace h := (if_pos c9).symm.trans h
    refine Vm.iconst (n := 77) (v := (1 : Int32)) dX8_swap_76 rfl (by decide) ?_
    obtain rfl := Option.some.inj h
    exact Vm.iret dX8_swap_77 rfl hk.1 hk.2.symm
  · replace h := (if_neg c9).symm.trans h
    refine Vm.aload_n (n := 27) 0 dX8_swap_26 rfl rfl ?_
    refine Vm.getR (n := 30) dX8_swap_27 rfl wf_RX8_26 in_32 rfl (by decide) rfl ?_
    refine Vm.iconst (n := 31) (v := (4 : Int32)) dX8_swap_30 rfl (by decide) ?_
    refine Vm.iload_n (n := 32) 1 dX8_swap_31 rfl rfl ?_
    refine Vm.imul (n := 33) dX8_swap_32 rfl ?_
    refine Vm.iload_n (n := 34) 3 dX8_swap_33 rfl rfl ?_
    refine Vm.iadd (n := 35) dX8_swap_34 rfl ?_
    replace h := Option.bind_eq_some_iff.mp h
    obtain ⟨x1, h1, h⟩ := h
    refine Vm.ialdm (n := 36) dX8_swap_35 rfl in_46 rfl rfl (by decide) h1 ?_
    refine Vm.istore (n := 38) (lv' := [(4, .inl x1), (0, .inr (.inr (32, 0))), (1, .inl a1), (2, .inl a2), (3, .inl a3)]) dX8_swap_36 rfl (Nat.le_of_ble_eq_true rfl) rfl ?_
    refine Vm.aload_n (n := 39) 1 dX8_swap_38 rfl rfl ?_
    refine Vm.getR (n := 42) dX8_swap_39 rfl wf_RX8_26 in_32 rfl (by decide) rfl ?_
    refine Vm.iconst (n := 43) (v := (4 : Int32)) dX8_swap_42 rfl (by decide) ?_
    refine Vm.iload_n (n := 44) 2 dX8_swap_43 rfl rfl ?_
    refine Vm.imul (n := 45) dX8_swap_44 rfl ?_
    refine Vm.iload_n (n := 46) 4 dX8_swap_45 rfl rfl ?_
    refine Vm.iadd (n := 47) dX8_swap_46 rfl ?_
    refine Vm.aload_n (n := 48) 1 dX8_swap_47 rfl rfl ?_
    refine Vm.getR (n := 51) dX8_swap_48 rfl wf_RX8_26 in_32 rfl (by decide) rfl ?_
    refine Vm.iconst (n := 52) (v := (4 : Int32)) dX8_swap_51 rfl (by decide) ?_
    refine Vm.iload_n (n := 53) 3 dX8_swap_52 rfl rfl ?_
    refine Vm.imul (n := 54) dX8_swap_53 rfl ?_
    refine Vm.iload_n (n := 55) 4 dX8_swap_54 rfl rfl ?_
    refine Vm.iadd (n := 56) dX8_swap_55 rfl ?_
    replace h := Option.bind_eq_some_iff.mp h
    obtain ⟨x2, h2, h⟩ := h
    refine Vm.ialdm (n := 57) dX8_swap_56 rfl in_46 rfl rfl (by decide) h2 ?_
    replace h := Option.bind_eq_some_iff.mp h
    obtain ⟨σ3, h3, h⟩ := h
    refine Vm.iastm (n := 58) dX8_swap_57 rfl in_46 rfl rfl (by decide) h3 ?_
    refine Vm.aload_n (n := 59) 1 dX8_swap_58 rfl rfl ?_
    refine Vm.getR (n := 62) dX8_swap_59 rfl wf_RX8_26 in_32 rfl (by decide) rfl ?_
    refine Vm.iconst (n := 63) (v := (4 : Int32)) dX8_swap_62 rfl (by decide) ?_
    refine Vm.iload_n (n := 64) 3 dX8_swap_63 rfl rfl ?_
    refine Vm.imul (n := 65) dX8_swap_64 rfl ?_
    refine Vm.iload_n (n := 66) 4 dX8_swap_65 rfl rfl ?_
    refine Vm.iadd (n := 67) dX8_swap_66 rfl ?_
    refine Vm.iload (n := 69) 0 dX8_swap_67 rfl rfl ?_
    replace h := Option.bind_eq_some_iff.mp h
    obtain ⟨σ4, h4, h⟩ := h
    refine Vm.iastm (n := 70) dX8_swap_69 rfl in_46 rfl rfl (by decide) h4 ?_
    replace h := Option.bind_eq_some_iff.mp h
    obtain ⟨x5, e5, h⟩ := h
    replace e5 := Option.some.inj e5
    refine Vm.iinc (n := 73) (v := x5) (lv' := [(3, .inl x5), (4, .inl x1), (0, .inr (.inr (32, 0))), (1, .inl a1), (2, .inl a2)]) 4 dX8_swap_70 rfl rfl e5 (Nat.le_of_ble_eq_true rfl) rfl ?_
    refine Vm.goto 18 dX8_swap_73 rfl ?_
    refine Vm.sub (lv' := [(0, .inr (.inr (32, 0))), (1, .inl a1), (2, .inl a2), (3, .inl x5)]) [2, 3, 4, 0] rfl ?_
    obtain rfl := Option.some.inj h
    exact hk
theorem lX8_swap_18_L (a1 : Int32) (a2 : Int32) (τ : mm) {r : Option mv} {M' : mm × mm} (z : Int32 × mm) (w9 : Int32 × mm) (h : lp (fX8_swap_18_L a1 a2) z = some w9) (hk : (fun q : Int32 × mm => r = some (.inl q.1) ∧ M' = (τ, q.2)) w9) : Vm mX8_swap 3 18 [(0, .inr (.inr (32, 0))), (1, .inl a1), (2, .inl a2), (3, .inl z.1)] [] (τ, z.2) r M' :=
  lp_link (S := Int32 × mm) (R := Int32 × mm) (body := fX8_swap_18_L a1 a2) (A := fun z : Int32 × mm => Vm mX8_swap 3 18 [(0, .inr (.inr (32, 0))), (1, .inl a1), (2, .inl a2), (3, .inl z.1)] [] (τ, z.2) r M') (B := fun w : Int32 × mm => (fun q : Int32 × mm => r = some (.inl q.1) ∧ M' = (τ, q.2)) w) (fun z v hb hv => lX8_swap_18 a1 a2 z.1 z.2 τ hb hv) z w9 h hk
set_option maxRecDepth 20000 in
theorem lX8_swap_0 (a1 : Int32) (a2 : Int32) (σ τ : mm) {r : Option mv} {M' : mm × mm} {v9 : Int32 × mm} (h : fX8_swap_0 a1 a2 σ = some v9) (hk : (fun q : Int32 × mm => r = some (.inl q.1) ∧ M' = (τ, q.2)) v9) : Vm mX8_swap 3 0 [(0, .inr (.inr (32, 0))), (1, .inl a1), (2, .inl a2)] [] (τ, σ) r M' := by
  unfold fX8_swap_0 at h
  refine Vm.aload_n (n := 1) 0 dX8_swap_0 rfl rfl ?_
  refine Vm.iload_n (n := 2) 1 dX8_swap_1 rfl rfl ?_
  refine Vm.iload_n (n := 3) 2 dX8_swap_2 rfl rfl ?_
  refine Vm.callV (Y := mX8_areTwo) (n := 6) [.inl a1, .inl a2] dX8_swap_3 rfl wv_RX8_275 omX8_areTwo rfl in_32 rfl rfl rfl (Nat.le_of_ble_eq_true rfl) (by decide) (kX8_areTwo a1 a2 σ τ rfl) ?_
  refine Vm.if_ne (n := 9) 16 dX8_swap_6 rfl rfl (fun c9 => ?_) (fun c9 => ?_)
  · replace h := (if_neg c9).symm.trans h
    refine Vm.iconst (n := 17) (v := (0 : Int32)) dX8_swap_16 rfl (by decide) ?_
    refine Vm.istore_n (n := 18) (lv' := [(3, .inl (0 : Int32)), (0, .inr (.inr (32, 0))), (1, .inl a1), (2, .inl a2)]) dX8_swap_17 rfl (Nat.le_of_ble_eq_true rfl) rfl ?_
    refine Vm.sub (lv' := [(0, .inr (.inr (32, 0))), (1, .inl a1), (2, .inl a2), (3, .inl (0 : Int32))]) [1, 2, 3, 0] rfl ?_
    exact lX8_swap_18_L a1 a2 τ ((0 : Int32), σ) _ h hk
  · replace h := (if_pos c9).symm.trans h
    refine Vm.aload_n (n := 10) 0 dX8_swap_9 rfl rfl ?_
    refine Vm.ldc (n := 12) dX8_swap_10 rfl wc_RX8_92 ?_
    replace h := Option.bind_eq_some_iff.mp h
    obtain ⟨q1, h1, h⟩ := h
    refine Vm.callV (Y := mX8_finds) (n := 15) [.inl (-1000000001 : Int32)] dX8_swap_12 rfl wv_RX8_102 omX8_finds rfl in_32 rfl rfl rfl (Nat.le_of_ble_eq_true rfl) (by decide) (kX8_finds (-1000000001 : Int32) σ τ h1) ?_
    obtain rfl := Option.some.inj h
    exact Vm.iret dX8_swap_15 rfl hk.1 hk.2.symm
theorem kX8_swap (a1 : Int32) (a2 : Int32) (σ τ : mm) {q : Int32 × mm} (h : fX8_swap a1 a2 σ = some q) : Cx mX8_swap 3 [.inr (.inr (32, 0)), .inl a1, .inl a2] (τ, σ) (some (.inl q.1)) (τ, q.2) :=
  Cx.of (lv := [(0, .inr (.inr (32, 0))), (1, .inl a1), (2, .inl a2)]) (by decide) (fun ad => Nat.le_of_ble_eq_true rfl) (fun ad => rfl) (lX8_swap_0 a1 a2 σ τ h ⟨rfl, rfl⟩)
-- ThinBodiesModel changesRows (II)V
noncomputable def fX8_changesRows_2 (a1 : Int32) (a2 : Int32) (a3 : Int32) (σ : mm) : Option ((Int32 × mm) ⊕ (mm)) :=
  if (σ.1 32 0 1) ≤ a3 then
  Option.bind (some (-(σ.1 32 0 24))) fun x1 =>
  Option.bind (some (stI σ 32 0 24 x1)) fun σ2 =>
  some (.inr (σ2))
  else
  Option.bind (rdI σ 63 0 16 (((4 : Int32) * a1) + a3)) fun x3 =>
  Option.bind (rdI σ 63 0 16 (((4 : Int32) * a2) + a3)) fun x4 =>
  Option.bind (wrI σ 63 0 16 (((4 : Int32) * a1) + a3) x4) fun σ5 =>
  Option.bind (wrI σ5 63 0 16 (((4 : Int32) * a2) + a3) x3) fun σ6 =>
  Option.bind (some (a3 + (1 : Int32))) fun x7 =>
  some (.inl (x7, σ6))
noncomputable def fX8_changesRows_2_L (a1 : Int32) (a2 : Int32) : Int32 × mm → Option ((Int32 × mm) ⊕ (mm)) := fun z => fX8_changesRows_2 a1 a2 z.1 z.2
noncomputable def fX8_changesRows_0 (a1 : Int32) (a2 : Int32) (σ : mm) : Option (mm) :=
  lp (fX8_changesRows_2_L a1 a2) ((0 : Int32), σ)
noncomputable def fX8_changesRows (a1 : Int32) (a2 : Int32) (σ : mm) : Option (mm) := fX8_changesRows_0 a1 a2 σ
set_option maxRecDepth 20000 in
theorem lX8_changesRows_2 (a1 : Int32) (a2 : Int32) (a3 : Int32) (σ τ : mm) {r : Option mv} {M' : mm × mm} {v9 : (Int32 × mm) ⊕ (mm)} (h : fX8_changesRows_2 a1 a2 a3 σ = some v9) (hk : (Sum.elim (fun z : Int32 × mm => Vm mX8_changesRows 0 2 [(0, .inr (.inr (32, 0))), (1, .inl a1), (2, .inl a2), (3, .inl z.1)] [] (τ, z.2) r M') (fun q : mm => r = none ∧ M' = (τ, q))) v9) : Vm mX8_changesRows 0 2 [(0, .inr (.inr (32, 0))), (1, .inl a1), (2, .inl a2), (3, .inl a3)] [] (τ, σ) r M' := by
  unfold fX8_changesRows_2 at h
  refine Vm.iload_n (n := 3) 3 dX8_changesRows_2 rfl rfl ?_
  refine Vm.aload_n (n := 4) 0 dX8_changesRows_3 rfl rfl ?_
  refine Vm.gM (n := 7) dX8_changesRows_4 rfl wf_RX8_13 in_32 rfl (by decide) rfl (by decide) ?_
  refine Vm.icmp_ge (n := 10) 60 dX8_changesRows_7 rfl rfl (fun c9 => ?_) (fun c9 => ?_)
  · replace h := (if_pos c9).symm.trans h
    refine Vm.aload_n (n := 61) 0 dX8_changesRows_60 rfl rfl ?_
    refine Vm.aload_n (n := 62) 0 dX8_changesRows_61 rfl rfl ?_
    refine Vm.gM (n := 65) dX8_changesRows_62 rfl wf_RX8_280 in_32 rfl (by decide) rfl (by decide) ?_
    refine Vm.ineg (n := 66) dX8_changesRows_65 rfl ?_
    replace h := Option.bind_eq_some_iff.mp h
    obtain ⟨x1, e1, h⟩ := h
    replace e1 := Option.some.inj e1
    refine Vm.top e1 ?_
    refine Vm.pM (n := 69) (ty := .int) dX8_changesRows_66 rfl wf_RX8_280 in_32 rfl (by decide) rfl (by decide) rfl rfl rfl rfl ?_
    replace h := Option.bind_eq_some_iff.mp h
    obtain ⟨σ2, e2, h⟩ := h
    replace e2 := Option.some.inj e2
    refine Vm.mem (congrArg (fun z => (τ, z)) e2) ?_
    obtain rfl := Option.some.inj h
    exact Vm.vret dX8_changesRows_69 rfl hk.1 hk.2.symm
  · replace h := (if_neg c9).symm.trans h
    refine Vm.aload_n (n := 11) 0 dX8_changesRows_10 rfl rfl ?_
    refine Vm.getR (n := 14) dX8_changesRows_11 rfl wf_RX8_55 in_32 rfl (by decide) rfl ?_
    refine Vm.iconst (n := 15) (v := (4 : Int32)) dX8_changesRows_14 rfl (by decide) ?_
    refine Vm.iload_n (n := 16) 1 dX8_changesRows_15 rfl rfl ?_
    refine Vm.imul (n := 17) dX8_changesRows_16 rfl ?_
    refine Vm.iload_n (n := 18) 3 dX8_changesRows_17 rfl rfl ?_
    refine Vm.iadd (n := 19) dX8_changesRows_18 rfl ?_
    replace h := Option.bind_eq_some_iff.mp h
    obtain ⟨x3, h3, h⟩ := h
    refine Vm.ialdm (n := 20) dX8_changesRows_19 rfl in_63 rfl rfl (by decide) h3 ?_
    refine Vm.istore (n := 22) (lv' := [(4, .inl x3), (0, .inr (.inr (32, 0))), (1, .inl a1), (2, .inl a2), (3, .inl a3)]) dX8_changesRows_20 rfl (Nat.le_of_ble_eq_true rfl) rfl ?_
    refine Vm.aload_n (n := 23) 1 dX8_changesRows_22 rfl rfl ?_
    refine Vm.getR (n := 26) dX8_changesRows_23 rfl wf_RX8_55 in_32 rfl (by decide) rfl ?_
    refine Vm.iconst (n := 27) (v := (4 : Int32)) dX8_changesRows_26 rfl (by decide) ?_
    refine Vm.iload_n (n := 28) 2 dX8_changesRows_27 rfl rfl ?_
    refine Vm.imul (n := 29) dX8_changesRows_28 rfl ?_
    refine Vm.iload_n (n := 30) 4 dX8_changesRows_29 rfl rfl ?_
    refine Vm.iadd (n := 31) dX8_changesRows_30 rfl ?_
    refine Vm.aload_n (n := 32) 1 dX8_changesRows_31 rfl rfl ?_
    refine Vm.getR (n := 35) dX8_changesRows_32 rfl wf_RX8_55 in_32 rfl (by decide) rfl ?_
    refine Vm.iconst (n := 36) (v := (4 : Int32)) dX8_changesRows_35 rfl (by decide) ?_
    refine Vm.iload_n (n := 37) 3 dX8_changesRows_36 rfl rfl ?_
    refine Vm.imul (n := 38) dX8_changesRows_37 rfl ?_
    refine Vm.iload_n (n := 39) 4 dX8_changesRows_38 rfl rfl ?_
    refine Vm.iadd (n := 40) dX8_changesRows_39 rfl ?_
    replace h := Option.bind_eq_some_iff.mp h
    obtain ⟨x4, h4, h⟩ := h
    refine Vm.ialdm (n := 41) dX8_changesRows_40 rfl in_63 rfl rfl (by decide) h4 ?_
    replace h := Option.bind_eq_some_iff.mp h
    obtain ⟨σ5, h5, h⟩ := h
    refine Vm.iastm (n := 42) dX8_changesRows_41 rfl in_63 rfl rfl (by decide) h5 ?_
    refine Vm.aload_n (n := 43) 1 dX8_changesRows_42 rfl rfl ?_
    refine Vm.getR (n := 46) dX8_changesRows_43 rfl wf_RX8_55 in_32 rfl (by decide) rfl ?_
    refine Vm.iconst (n := 47) (v := (4 : Int32)) dX8_changesRows_46 rfl (by decide) ?_
    refine Vm.iload_n (n := 48) 3 dX8_changesRows_47 rfl rfl ?_
    refine Vm.imul (n := 49) dX8_changesRows_48 rfl ?_
    refine Vm.iload_n (n := 50) 4 dX8_changesRows_49 rfl rfl ?_
    refine Vm.iadd (n := 51) dX8_changesRows_50 rfl ?_
    refine Vm.iload (n := 53) 0 dX8_changesRows_51 rfl rfl ?_
    replace h := Option.bind_eq_some_iff.mp h
    obtain ⟨σ6, h6, h⟩ := h
    refine Vm.iastm (n := 54) dX8_changesRows_53 rfl in_63 rfl rfl (by decide) h6 ?_
    replace h := Option.bind_eq_some_iff.mp h
    obtain ⟨x7, e7, h⟩ := h
    replace e7 := Option.some.inj e7
    refine Vm.iinc (n := 57) (v := x7) (lv' := [(3, .inl x7), (4, .inl x3), (0, .inr (.inr (32, 0))), (1, .inl a1), (2, .inl a2)]) 4 dX8_changesRows_54 rfl rfl e7 (Nat.le_of_ble_eq_true rfl) rfl ?_
    refine Vm.goto 2 dX8_changesRows_57 rfl ?_
    refine Vm.sub (lv' := [(0, .inr (.inr (32, 0))), (1, .inl a1), (2, .inl a2), (3, .inl x7)]) [2, 3, 4, 0] rfl ?_
    obtain rfl := Option.some.inj h
    exact hk
theorem lX8_changesRows_2_L (a1 : Int32) (a2 : Int32) (τ : mm) {r : Option mv} {M' : mm × mm} (z : Int32 × mm) (w9 : mm) (h : lp (fX8_changesRows_2_L a1 a2) z = some w9) (hk : (fun q : mm => r = none ∧ M' = (τ, q)) w9) : Vm mX8_changesRows 0 2 [(0, .inr (.inr (32, 0))), (1, .inl a1), (2, .inl a2), (3, .inl z.1)] [] (τ, z.2) r M' :=
  lp_link (S := Int32 × mm) (R := mm) (body := fX8_changesRows_2_L a1 a2) (A := fun z : Int32 × mm => Vm mX8_changesRows 0 2 [(0, .inr (.inr (32, 0))), (1, .inl a1), (2, .inl a2), (3, .inl z.1)] [] (τ, z.2) r M') (B := fun w : mm => (fun q : mm => r = none ∧ M' = (τ, q)) w) (fun z v hb hv => lX8_changesRows_2 a1 a2 z.1 z.2 τ hb hv) z w9 h hk
set_option maxRecDepth 20000 in
theorem lX8_changesRows_0 (a1 : Int32) (a2 : Int32) (σ τ : mm) {r : Option mv} {M' : mm × mm} {v9 : mm} (h : fX8_changesRows_0 a1 a2 σ = some v9) (hk : (fun q : mm => r = none ∧ M' = (τ, q)) v9) : Vm mX8_changesRows 0 0 [(0, .inr (.inr (32, 0))), (1, .inl a1), (2, .inl a2)] [] (τ, σ) r M' := by
  unfold fX8_changesRows_0 at h
  refine Vm.iconst (n := 1) (v := (0 : Int32)) dX8_changesRows_0 rfl (by decide) ?_
  refine Vm.istore_n (n := 2) (lv' := [(3, .inl (0 : Int32)), (0, .inr (.inr (32, 0))), (1, .inl a1), (2, .inl a2)]) dX8_changesRows_1 rfl (Nat.le_of_ble_eq_true rfl) rfl ?_
  refine Vm.sub (lv' := [(0, .inr (.inr (32, 0))), (1, .inl a1), (2, .inl a2), (3, .inl (0 : Int32))]) [1, 2, 3, 0] rfl ?_
  exact lX8_changesRows_2_L a1 a2 τ ((0 : Int32), σ) _ h hk
theorem kX8_changesRows (a1 : Int32) (a2 : Int32) (σ τ : mm) {q : mm} (h : fX8_changesRows a1 a2 σ = some q) : Cx mX8_changesRows 0 [.inr (.inr (32, 0)), .inl a1, .inl a2] (τ, σ) (none) (τ, q) :=
  Cx.of (lv := [(0, .inr (.inr (32, 0))), (1, .inl a1), (2, .inl a2)]) (by decide) (fun ad => Nat.le_of_ble_eq_true rfl) (fun ad => rfl) (lX8_changesRows_0 a1 a2 σ τ h ⟨rfl, rfl⟩)
-- ThinBodiesModel takesOff (III)V
noncomputable def fX8_takesOff_3 (a1 : Int32) (a2 : Int32) (a3 : Int32) (a4 : Int32) (σ : mm) : Option ((Int32 × mm) ⊕ (mm)) :=
  if (σ.1 32 0 1) ≤ a4 then
  some (.inr (σ))
  else
  Option.bind (rdI σ 63 0 16 (((4 : Int32) * a1) + a4)) fun x1 =>
  Option.bind (rdI σ 63 0 16 (((4 : Int32) * a2) + a4)) fun x2 =>
  Option.bind (wrI σ 63 0 16 (((4 : Int32) * a1) + a4) (x1 - (a3 * x2))) fun σ3 =>
  Option.bind (some (a4 + (1 : Int32))) fun x4 =>
  some (.inl (x4, σ3))
noncomputable def fX8_takesOff_3_L (a1 : Int32) (a2 : Int32) (a3 : Int32) : Int32 × mm → Option ((Int32 × mm) ⊕ (mm)) := fun z => fX8_takesOff_3 a1 a2 a3 z.1 z.2
noncomputable def fX8_takesOff_0 (a1 : Int32) (a2 : Int32) (a3 : Int32) (σ : mm) : Option (mm) :=
  lp (fX8_takesOff_3_L a1 a2 a3) ((0 : Int32), σ)
noncomputable def fX8_takesOff (a1 : Int32) (a2 : Int32) (a3 : Int32) (σ : mm) : Option (mm) := fX8_takesOff_0 a1 a2 a3 σ
set_option maxRecDepth 20000 in
theorem lX8_takesOff_3 (a1 : Int32) (a2 : Int32) (a3 : Int32) (a4 : Int32) (σ τ : mm) {r : Option mv} {M' : mm × mm} {v9 : (Int32 × mm) ⊕ (mm)} (h : fX8_takesOff_3 a1 a2 a3 a4 σ = some v9) (hk : (Sum.elim (fun z : Int32 × mm => Vm mX8_takesOff 0 3 [(0, .inr (.inr (32, 0))), (1, .inl a1), (2, .inl a2), (3, .inl a3), (4, .inl z.1)] [] (τ, z.2) r M') (fun q : mm => r = none ∧ M' = (τ, q))) v9) : Vm mX8_takesOff 0 3 [(0, .inr (.inr (32, 0))), (1, .inl a1), (2, .inl a2), (3, .inl a3), (4, .inl a4)] [] (τ, σ) r M' := by
  unfold fX8_takesOff_3 at h
  refine Vm.iload (n := 5) 4 dX8_takesOff_3 rfl rfl ?_
  refine Vm.aload_n (n := 6) 0 dX8_takesOff_5 rfl rfl ?_
  refine Vm.gM (n := 9) dX8_takesOff_6 rfl wf_RX8_13 in_32 rfl (by decide) rfl (by decide) ?_
  refine Vm.icmp_ge (n := 12) 45 dX8_takesOff_9 rfl rfl (fun c9 => ?_) (fun c9 => ?_)
  · replace h := (if_pos c9).symm.trans h
    obtain rfl := Option.some.inj h
    exact Vm.vret dX8_takesOff_45 rfl hk.1 hk.2.symm
  · replace h := (if_neg c9).symm.trans h
    refine Vm.aload_n (n := 13) 0 dX8_takesOff_12 rfl rfl ?_
    refine Vm.getR (n := 16) dX8_takesOff_13 rfl wf_RX8_55 in_32 rfl (by decide) rfl ?_
    refine Vm.iconst (n := 17) (v := (4 : Int32)) dX8_takesOff_16 rfl (by decide) ?_
    refine Vm.iload_n (n := 18) 1 dX8_takesOff_17 rfl rfl ?_
    refine Vm.imul (n := 19) dX8_takesOff_18 rfl ?_
    refine Vm.iload (n := 21) 4 dX8_takesOff_19 rfl rfl ?_
    refine Vm.iadd (n := 22) dX8_takesOff_21 rfl ?_
    refine Vm.dup2 (n := 23) dX8_takesOff_22 rfl rfl rfl ?_
    replace h := Option.bind_eq_some_iff.mp h
    obtain ⟨x1, h1, h⟩ := h
    refine Vm.ialdm (n := 24) dX8_takesOff_23 rfl in_63 rfl rfl (by decide) h1 ?_
    refine Vm.iload_n (n := 25) 3 dX8_takesOff_24 rfl rfl ?_
    refine Vm.aload_n (n := 26) 0 dX8_takesOff_25 rfl rfl ?_
    refine Vm.getR (n := 29) dX8_takesOff_26 rfl wf_RX8_55 in_32 rfl (by decide) rfl ?_
    refine Vm.iconst (n := 30) (v := (4 : Int32)) dX8_takesOff_29 rfl (by decide) ?_
    refine Vm.iload_n (n := 31) 2 dX8_takesOff_30 rfl rfl ?_
    refine Vm.imul (n := 32) dX8_takesOff_31 rfl ?_
    refine Vm.iload (n := 34) 4 dX8_takesOff_32 rfl rfl ?_
    refine Vm.iadd (n := 35) dX8_takesOff_34 rfl ?_
    replace h := Option.bind_eq_some_iff.mp h
    obtain ⟨x2, h2, h⟩ := h
    refine Vm.ialdm (n := 36) dX8_takesOff_35 rfl in_63 rfl rfl (by decide) h2 ?_
    refine Vm.imul (n := 37) dX8_takesOff_36 rfl ?_
    refine Vm.isub (n := 38) dX8_takesOff_37 rfl ?_
    replace h := Option.bind_eq_some_iff.mp h
    obtain ⟨σ3, h3, h⟩ := h
    refine Vm.iastm (n := 39) dX8_takesOff_38 rfl in_63 rfl rfl (by decide) h3 ?_
    replace h := Option.bind_eq_some_iff.mp h
    obtain ⟨x4, e4, h⟩ := h
    replace e4 := Option.some.inj e4
    refine Vm.iinc (n := 42) (v := x4) (lv' := [(4, .inl x4), (0, .inr (.inr (32, 0))), (1, .inl a1), (2, .inl a2), (3, .inl a3)]) 4 dX8_takesOff_39 rfl rfl e4 (Nat.le_of_ble_eq_true rfl) rfl ?_
    refine Vm.goto 3 dX8_takesOff_42 rfl ?_
    refine Vm.sub (lv' := [(0, .inr (.inr (32, 0))), (1, .inl a1), (2, .inl a2), (3, .inl a3), (4, .inl x4)]) [1, 2, 3, 4, 0] rfl ?_
    obtain rfl := Option.some.inj h
    exact hk
theorem lX8_takesOff_3_L (a1 : Int32) (a2 : Int32) (a3 : Int32) (τ : mm) {r : Option mv} {M' : mm × mm} (z : Int32 × mm) (w9 : mm) (h : lp (fX8_takesOff_3_L a1 a2 a3) z = some w9) (hk : (fun q : mm => r = none ∧ M' = (τ, q)) w9) : Vm mX8_takesOff 0 3 [(0, .inr (.inr (32, 0))), (1, .inl a1), (2, .inl a2), (3, .inl a3), (4, .inl z.1)] [] (τ, z.2) r M' :=
  lp_link (S := Int32 × mm) (R := mm) (body := fX8_takesOff_3_L a1 a2 a3) (A := fun z : Int32 × mm => Vm mX8_takesOff 0 3 [(0, .inr (.inr (32, 0))), (1, .inl a1), (2, .inl a2), (3, .inl a3), (4, .inl z.1)] [] (τ, z.2) r M') (B := fun w : mm => (fun q : mm => r = none ∧ M' = (τ, q)) w) (fun z v hb hv => lX8_takesOff_3 a1 a2 a3 z.1 z.2 τ hb hv) z w9 h hk
set_option maxRecDepth 20000 in
theorem lX8_takesOff_0 (a1 : Int32) (a2 : Int32) (a3 : Int32) (σ τ : mm) {r : Option mv} {M' : mm × mm} {v9 : mm} (h : fX8_takesOff_0 a1 a2 a3 σ = some v9) (hk : (fun q : mm => r = none ∧ M' = (τ, q)) v9) : Vm mX8_takesOff 0 0 [(0, .inr (.inr (32, 0))), (1, .inl a1), (2, .inl a2), (3, .inl a3)] [] (τ, σ) r M' := by
  unfold fX8_takesOff_0 at h
  refine Vm.iconst (n := 1) (v := (0 : Int32)) dX8_takesOff_0 rfl (by decide) ?_
  refine Vm.istore (n := 3) (lv' := [(4, .inl (0 : Int32)), (0, .inr (.inr (32, 0))), (1, .inl a1), (2, .inl a2), (3, .inl a3)]) dX8_takesOff_1 rfl (Nat.le_of_ble_eq_true rfl) rfl ?_
  refine Vm.sub (lv' := [(0, .inr (.inr (32, 0))), (1, .inl a1), (2, .inl a2), (3, .inl a3), (4, .inl (0 : Int32))]) [1, 2, 3, 4, 0] rfl ?_
  exact lX8_takesOff_3_L a1 a2 a3 τ ((0 : Int32), σ) _ h hk
theorem kX8_takesOff (a1 : Int32) (a2 : Int32) (a3 : Int32) (σ τ : mm) {q : mm} (h : fX8_takesOff a1 a2 a3 σ = some q) : Cx mX8_takesOff 0 [.inr (.inr (32, 0)), .inl a1, .inl a2, .inl a3] (τ, σ) (none) (τ, q) :=
  Cx.of (lv := [(0, .inr (.inr (32, 0))), (1, .inl a1), (2, .inl a2), (3, .inl a3)]) (by decide) (fun ad => Nat.le_of_ble_eq_true rfl) (fun ad => rfl) (lX8_takesOff_0 a1 a2 a3 σ τ h ⟨rfl, rfl⟩)
-- ThinBodiesModel clears (I)Z
noncomputable def fX8_clears_73 (a1 : Int32) (a2 : Int32) (σ : mm) : Option ((mm) ⊕ ((Int32 × mm) ⊕ (Bool × mm))) :=
  Option.bind (rdI σ 63 0 16 (((4 : Int32) * a2) + a1)) fun x1 =>
  if x1 = (0 : Int32) then
  Option.bind (some (a2 + (1 : Int32))) fun x2 =>
  some (.inr (.inl (x2, σ)))
  else
  Option.bind (rdI σ 63 0 16 (((4 : Int32) * a1) + a1)) fun x3 =>
  Option.bind (rdI σ 63 0 16 (((4 : Int32) * a2) + a1)) fun x4 =>
  Option.bind (dvI x3 x4) fun x5 =>
  Option.bind (fX8_takesOff a1 a2 x5 σ) fun q6 =>
  Option.bind (fX8_changesRows a1 a2 q6) fun q7 =>
  some (.inl (q7))
noncomputable def fX8_clears_73_L (a1 : Int32) (a2 : Int32) : mm → Option ((mm) ⊕ ((Int32 × mm) ⊕ (Bool × mm))) := fun z => fX8_clears_73 a1 a2 z
noncomputable def fX8_clears_65 (a1 : Int32) (a2 : Int32) (σ : mm) : Option ((Int32 × mm) ⊕ (Bool × mm)) :=
  if (σ.1 32 0 1) ≤ a2 then
  some (.inr ((true, σ)))
  else
  lp (fX8_clears_73_L a1 a2) (σ)
noncomputable def fX8_clears_65_L (a1 : Int32) : Int32 × mm → Option ((Int32 × mm) ⊕ (Bool × mm)) := fun z => fX8_clears_65 a1 z.1 z.2
noncomputable def fX8_clears_42 (a1 : Int32) (a2 : Int32) (σ : mm) : Option ((Int32 × mm) ⊕ (Bool × mm)) :=
  Option.bind (some (a2 + (1 : Int32))) fun x1 =>
  some (.inl (x1, σ))
noncomputable def fX8_clears_2 (a1 : Int32) (a2 : Int32) (σ : mm) : Option ((Int32 × mm) ⊕ (Bool × mm)) :=
  if (σ.1 32 0 1) ≤ a2 then
  Option.bind (rdI σ 63 0 16 ((5 : Int32) * a1)) fun x1 =>
  if x1 = (0 : Int32) then
  some (.inr ((false, σ)))
  else
  Option.bind (some (a1 + (1 : Int32))) fun x2 =>
  Option.map Sum.inr (lp (fX8_clears_65_L a1) (x2, σ))
  else
  Option.bind (rdI σ 63 0 16 (((4 : Int32) * a2) + a1)) fun x3 =>
  if x3 = (0 : Int32) then
  fX8_clears_42 a1 a2 σ
  else
  Option.bind (rdI σ 63 0 16 (((4 : Int32) * a1) + a1)) fun x4 =>
  if x4 = (0 : Int32) then
  Option.bind (fX8_changesRows a1 a2 σ) fun q5 =>
  fX8_clears_42 a1 a2 q5
  else
  fX8_clears_42 a1 a2 σ
noncomputable def fX8_clears_2_L (a1 : Int32) : Int32 × mm → Option ((Int32 × mm) ⊕ (Bool × mm)) := fun z => fX8_clears_2 a1 z.1 z.2
noncomputable def fX8_clears_0 (a1 : Int32) (σ : mm) : Option (Bool × mm) :=
  lp (fX8_clears_2_L a1) (a1, σ)
noncomputable def fX8_clears (a1 : Int32) (σ : mm) : Option (Bool × mm) := fX8_clears_0 a1 σ
set_option maxRecDepth 20000 in
theorem lX8_clears_73 (a1 : Int32) (a2 : Int32) (σ τ : mm) {r : Option mv} {M' : mm × mm} {v9 : (mm) ⊕ ((Int32 × mm) ⊕ (Bool × mm))} (h : fX8_clears_73 a1 a2 σ = some v9) (hk : (Sum.elim (fun z : mm => Vm mX8_clears 1 73 [(0, .inr (.inr (32, 0))), (1, .inl a1), (2, .inl a2)] [] (τ, z) r M') (Sum.elim (fun z : Int32 × mm => Vm mX8_clears 1 65 [(0, .inr (.inr (32, 0))), (1, .inl a1), (2, .inl z.1)] [] (τ, z.2) r M') (fun q : Bool × mm => r = some (.inl (bi q.1)) ∧ M' = (τ, q.2)))) v9) : Vm mX8_clears 1 73 [(0, .inr (.inr (32, 0))), (1, .inl a1), (2, .inl a2)] [] (τ, σ) r M' := by
  unfold fX8_clears_73 at h
  refine Vm.aload_n (n := 74) 0 dX8_clears_73 rfl rfl ?_
  refine Vm.getR (n := 77) dX8_clears_74 rfl wf_RX8_55 in_32 rfl (by decide) rfl ?_
  refine Vm.iconst (n := 78) (v := (4 : Int32)) dX8_clears_77 rfl (by decide) ?_
  refine Vm.iload_n (n := 79) 2 dX8_clears_78 rfl rfl ?_
  refine Vm.imul (n := 80) dX8_clears_79 rfl ?_
  refine Vm.iload_n (n := 81) 1 dX8_clears_80 rfl rfl ?_
  refine Vm.iadd (n := 82) dX8_clears_81 rfl ?_
  replace h := Option.bind_eq_some_iff.mp h
  obtain ⟨x1, h1, h⟩ := h
  refine Vm.ialdm (n := 83) dX8_clears_82 rfl in_63 rfl rfl (by decide) h1 ?_
  refine Vm.if_eq (n := 86) 122 dX8_clears_83 rfl rfl (fun c9 => ?_) (fun c9 => ?_)
  · replace h := (if_pos c9).symm.trans h
    replace h := Option.bind_eq_some_iff.mp h
    obtain ⟨x2, e2, h⟩ := h
    replace e2 := Option.some.inj e2
    refine Vm.iinc (n := 125) (v := x2) (lv' := [(2, .inl x2), (0, .inr (.inr (32, 0))), (1, .inl a1)]) 2 dX8_clears_122 rfl rfl e2 (Nat.le_of_ble_eq_true rfl) rfl ?_
    refine Vm.goto 65 dX8_clears_125 rfl ?_
    refine Vm.sub (lv' := [(0, .inr (.inr (32, 0))), (1, .inl a1), (2, .inl x2)]) [1, 2, 0] rfl ?_
    obtain rfl := Option.some.inj h
    exact hk
  · replace h := (if_neg c9).symm.trans h
    refine Vm.aload_n (n := 87) 0 dX8_clears_86 rfl rfl ?_
    refine Vm.iload_n (n := 88) 1 dX8_clears_87 rfl rfl ?_
    refine Vm.iload_n (n := 89) 2 dX8_clears_88 rfl rfl ?_
    refine Vm.aload_n (n := 90) 0 dX8_clears_89 rfl rfl ?_
    refine Vm.getR (n := 93) dX8_clears_90 rfl wf_RX8_55 in_32 rfl (by decide) rfl ?_
    refine Vm.iconst (n := 94) (v := (4 : Int32)) dX8_clears_93 rfl (by decide) ?_
    refine Vm.iload_n (n := 95) 1 dX8_clears_94 rfl rfl ?_
    refine Vm.imul (n := 96) dX8_clears_95 rfl ?_
    refine Vm.iload_n (n := 97) 1 dX8_clears_96 rfl rfl ?_
    refine Vm.iadd (n := 98) dX8_clears_97 rfl ?_
    replace h := Option.bind_eq_some_iff.mp h
    obtain ⟨x3, h3, h⟩ := h
    refine Vm.ialdm (n := 99) dX8_clears_98 rfl in_63 rfl rfl (by decide) h3 ?_
    refine Vm.aload_n (n := 100) 0 dX8_clears_99 rfl rfl ?_
    refine Vm.getR (n := 103) dX8_clears_100 rfl wf_RX8_55 in_32 rfl (by decide) rfl ?_
    refine Vm.iconst (n := 104) (v := (4 : Int32)) dX8_clears_103 rfl (by decide) ?_
    refine Vm.iload_n (n := 105) 2 dX8_clears_104 rfl rfl ?_
    refine Vm.imul (n := 106) dX8_clears_105 rfl ?_
    refine Vm.iload_n (n := 107) 1 dX8_clears_106 rfl rfl ?_
    refine Vm.iadd (n := 108) dX8_clears_107 rfl ?_
    replace h := Option.bind_eq_some_iff.mp h
    obtain ⟨x4, h4, h⟩ := h
    refine Vm.ialdm (n := 109) dX8_clears_108 rfl in_63 rfl rfl (by decide) h4 ?_
    replace h := Option.bind_eq_some_iff.mp h
    obtain ⟨x5, h5, h⟩ := h
    refine Vm.idiv (n := 110) dX8_clears_109 rfl h5 ?_
    replace h := Option.bind_eq_some_iff.mp h
    obtain ⟨q6, h6, h⟩ := h
    refine Vm.callVv (Y := mX8_takesOff) (n := 113) [.inl a1, .inl a2, .inl x5] dX8_clears_110 rfl wv_RX8_286 omX8_takesOff rfl in_32 rfl rfl rfl (Nat.le_of_ble_eq_true rfl) (by decide) (kX8_takesOff a1 a2 x5 σ τ h6) ?_
    refine Vm.aload_n (n := 114) 0 dX8_clears_113 rfl rfl ?_
    refine Vm.iload_n (n := 115) 1 dX8_clears_114 rfl rfl ?_
    refine Vm.iload_n (n := 116) 2 dX8_clears_115 rfl rfl ?_
    replace h := Option.bind_eq_some_iff.mp h
    obtain ⟨q7, h7, h⟩ := h
    refine Vm.callVv (Y := mX8_changesRows) (n := 119) [.inl a1, .inl a2] dX8_clears_116 rfl wv_RX8_283 omX8_changesRows rfl in_32 rfl rfl rfl (Nat.le_of_ble_eq_true rfl) (by decide) (kX8_changesRows a1 a2 q6 τ h7) ?_
    refine Vm.goto 73 dX8_clears_119 rfl ?_
    obtain rfl := Option.some.inj h
    exact hk
theorem lX8_clears_73_L (a1 : Int32) (a2 : Int32) (τ : mm) {r : Option mv} {M' : mm × mm} (z : mm) (w9 : (Int32 × mm) ⊕ (Bool × mm)) (h : lp (fX8_clears_73_L a1 a2) z = some w9) (hk : (Sum.elim (fun z : Int32 × mm => Vm mX8_clears 1 65 [(0, .inr (.inr (32, 0))), (1, .inl a1), (2, .inl z.1)] [] (τ, z.2) r M') (fun q : Bool × mm => r = some (.inl (bi q.1)) ∧ M' = (τ, q.2))) w9) : Vm mX8_clears 1 73 [(0, .inr (.inr (32, 0))), (1, .inl a1), (2, .inl a2)] [] (τ, z) r M' :=
  lp_link (S := mm) (R := (Int32 × mm) ⊕ (Bool × mm)) (body := fX8_clears_73_L a1 a2) (A := fun z : mm => Vm mX8_clears 1 73 [(0, .inr (.inr (32, 0))), (1, .inl a1), (2, .inl a2)] [] (τ, z) r M') (B := fun w : (Int32 × mm) ⊕ (Bool × mm) => (Sum.elim (fun z : Int32 × mm => Vm mX8_clears 1 65 [(0, .inr (.inr (32, 0))), (1, .inl a1), (2, .inl z.1)] [] (τ, z.2) r M') (fun q : Bool × mm => r = some (.inl (bi q.1)) ∧ M' = (τ, q.2))) w) (fun z v hb hv => lX8_clears_73 a1 a2 z τ hb hv) z w9 h hk
set_option maxRecDepth 20000 in
theorem lX8_clears_65 (a1 : Int32) (a2 : Int32) (σ τ : mm) {r : Option mv} {M' : mm × mm} {v9 : (Int32 × mm) ⊕ (Bool × mm)} (h : fX8_clears_65 a1 a2 σ = some v9) (hk : (Sum.elim (fun z : Int32 × mm => Vm mX8_clears 1 65 [(0, .inr (.inr (32, 0))), (1, .inl a1), (2, .inl z.1)] [] (τ, z.2) r M') (fun q : Bool × mm => r = some (.inl (bi q.1)) ∧ M' = (τ, q.2))) v9) : Vm mX8_clears 1 65 [(0, .inr (.inr (32, 0))), (1, .inl a1), (2, .inl a2)] [] (τ, σ) r M' := by
  unfold fX8_clears_65 at h
  refine Vm.iload_n (n := 66) 2 dX8_clears_65 rfl rfl ?_
  refine Vm.aload_n (n := 67) 0 dX8_clears_66 rfl rfl ?_
  refine Vm.gM (n := 70) dX8_clears_67 rfl wf_RX8_13 in_32 rfl (by decide) rfl (by decide) ?_
  refine Vm.icmp_ge (n := 73) 128 dX8_clears_70 rfl rfl (fun c9 => ?_) (fun c9 => ?_)
  · replace h := (if_pos c9).symm.trans h
    refine Vm.iconst (n := 129) (v := (1 : Int32)) dX8_clears_128 rfl (by decide) ?_
    obtain rfl := Option.some.inj h
    exact Vm.zret (b := true) dX8_clears_129 rfl rfl hk.1 hk.2.symm
  · replace h := (if_neg c9).symm.trans h
    exact lX8_clears_73_L a1 a2 τ (σ) _ h hk
theorem lX8_clears_65_L (a1 : Int32) (τ : mm) {r : Option mv} {M' : mm × mm} (z : Int32 × mm) (w9 : Bool × mm) (h : lp (fX8_clears_65_L a1) z = some w9) (hk : (fun q : Bool × mm => r = some (.inl (bi q.1)) ∧ M' = (τ, q.2)) w9) : Vm mX8_clears 1 65 [(0, .inr (.inr (32, 0))), (1, .inl a1), (2, .inl z.1)] [] (τ, z.2) r M' :=
  lp_link (S := Int32 × mm) (R := Bool × mm) (body := fX8_clears_65_L a1) (A := fun z : Int32 × mm => Vm mX8_clears 1 65 [(0, .inr (.inr (32, 0))), (1, .inl a1), (2, .inl z.1)] [] (τ, z.2) r M') (B := fun w : Bool × mm => (fun q : Bool × mm => r = some (.inl (bi q.1)) ∧ M' = (τ, q.2)) w) (fun z v hb hv => lX8_clears_65 a1 z.1 z.2 τ hb hv) z w9 h hk
set_option maxRecDepth 20000 in
theorem lX8_clears_42 (a1 : Int32) (a2 : Int32) (σ τ : mm) {r : Option mv} {M' : mm × mm} {v9 : (Int32 × mm) ⊕ (Bool × mm)} (h : fX8_clears_42 a1 a2 σ = some v9) (hk : (Sum.elim (fun z : Int32 × mm => Vm mX8_clears 1 2 [(0, .inr (.inr (32, 0))), (1, .inl a1), (2, .inl z.1)] [] (τ, z.2) r M') (fun q : Bool × mm => r = some (.inl (bi q.1)) ∧ M' = (τ, q.2))) v9) : Vm mX8_clears 1 42 [(0, .inr (.inr (32, 0))), (1, .inl a1), (2, .inl a2)] [] (τ, σ) r M' := by
  unfold fX8_clears_42 at h
  replace h := Option.bind_eq_some_iff.mp h
  obtain ⟨x1, e1, h⟩ := h
  replace e1 := Option.some.inj e1
  refine Vm.iinc (n := 45) (v := x1) (lv' := [(2, .inl x1), (0, .inr (.inr (32, 0))), (1, .inl a1)]) 2 dX8_clears_42 rfl rfl e1 (Nat.le_of_ble_eq_true rfl) rfl ?_
  refine Vm.goto 2 dX8_clears_45 rfl ?_
  refine Vm.sub (lv' := [(0, .inr (.inr (32, 0))), (1, .inl a1), (2, .inl x1)]) [1, 2, 0] rfl ?_
  obtain rfl := Option.some.inj h
  exact hk
set_option maxRecDepth 20000 in
theorem lX8_clears_2 (a1 : Int32) (a2 : Int32) (σ τ : mm) {r : Option mv} {M' : mm × mm} {v9 : (Int32 × mm) ⊕ (Bool × mm)} (h : fX8_clears_2 a1 a2 σ = some v9) (hk : (Sum.elim (fun z : Int32 × mm => Vm mX8_clears 1 2 [(0, .inr (.inr (32, 0))), (1, .inl a1), (2, .inl z.1)] [] (τ, z.2) r M') (fun q : Bool × mm => r = some (.inl (bi q.1)) ∧ M' = (τ, q.2))) v9) : Vm mX8_clears 1 2 [(0, .inr (.inr (32, 0))), (1, .inl a1), (2, .inl a2)] [] (τ, σ) r M' := by
  unfold fX8_clears_2 at h
  refine Vm.iload_n (n := 3) 2 dX8_clears_2 rfl rfl ?_
  refine Vm.aload_n (n := 4) 0 dX8_clears_3 rfl rfl ?_
  refine Vm.gM (n := 7) dX8_clears_4 rfl wf_RX8_13 in_32 rfl (by decide) rfl (by decide) ?_
  refine Vm.icmp_ge (n := 10) 48 dX8_clears_7 rfl rfl (fun c9 => ?_) (fun c9 => ?_)
  · replace h := (if_pos c9).symm.trans h
    refine Vm.aload_n (n := 49) 0 dX8_clears_48 rfl rfl ?_
    refine Vm.getR (n := 52) dX8_clears_49 rfl wf_RX8_55 in_32 rfl (by decide) rfl ?_
    refine Vm.iconst (n := 53) (v := (5 : Int32)) dX8_clears_52 rfl (by decide) ?_
    refine Vm.iload_n (n := 54) 1 dX8_clears_53 rfl rfl ?_
    refine Vm.imul (n := 55) dX8_clears_54 rfl ?_
    replace h := Option.bind_eq_some_iff.mp h
    obtain ⟨x1, h1, h⟩ := h
    refine Vm.ialdm (n := 56) dX8_clears_55 rfl in_63 rfl rfl (by decide) h1 ?_
    refine Vm.if_ne (n := 59) 61 dX8_clears_56 rfl rfl (fun c9 => ?_) (fun c9 => ?_)
    · replace h := (if_neg c9).symm.trans h
      refine Vm.iload_n (n := 62) 1 dX8_clears_61 rfl rfl ?_
      refine Vm.iconst (n := 63) (v := (1 : Int32)) dX8_clears_62 rfl (by decide) ?_
      refine Vm.iadd (n := 64) dX8_clears_63 rfl ?_
      replace h := Option.bind_eq_some_iff.mp h
      obtain ⟨x2, e2, h⟩ := h
      replace e2 := Option.some.inj e2
      refine Vm.top e2 ?_
      refine Vm.istore_n (n := 65) (lv' := [(2, .inl x2), (0, .inr (.inr (32, 0))), (1, .inl a1)]) dX8_clears_64 rfl (Nat.le_of_ble_eq_true rfl) rfl ?_
      refine Vm.sub (lv' := [(0, .inr (.inr (32, 0))), (1, .inl a1), (2, .inl x2)]) [1, 2, 0] rfl ?_
      replace h := Option.map_eq_some_iff.mp h
      obtain ⟨w9, h, e8⟩ := h
      subst e8
      exact lX8_clears_65_L a1 τ (x2, σ) _ h hk
    · replace h := (if_pos c9).symm.trans h
      refine Vm.iconst (n := 60) (v := (0 : Int32)) dX8_clears_59 rfl (by decide) ?_
      obtain rfl := Option.some.inj h
      exact Vm.zret (b := false) dX8_clears_60 rfl rfl hk.1 hk.2.symm
  · replace h := (if_neg c9).symm.trans h
    refine Vm.aload_n (n := 11) 0 dX8_clears_10 rfl rfl ?_
    refine Vm.getR (n := 14) dX8_clears_11 rfl wf_RX8_55 in_32 rfl (by decide) rfl ?_
    refine Vm.iconst (n := 15) (v := (4 : Int32)) dX8_clears_14 rfl (by decide) ?_
    refine Vm.iload_n (n := 16) 2 dX8_clears_15 rfl rfl ?_
    refine Vm.imul (n := 17) dX8_clears_16 rfl ?_
    refine Vm.iload_n (n := 18) 1 dX8_clears_17 rfl rfl ?_
    refine Vm.iadd (n := 19) dX8_clears_18 rfl ?_
    replace h := Option.bind_eq_some_iff.mp h
    obtain ⟨x3, h3, h⟩ := h
    refine Vm.ialdm (n := 20) dX8_clears_19 rfl in_63 rfl rfl (by decide) h3 ?_
    refine Vm.if_eq (n := 23) 42 dX8_clears_20 rfl rfl (fun c9 => ?_) (fun c9 => ?_)
    · replace h := (if_pos c9).symm.trans h
      exact lX8_clears_42 a1 a2 σ τ h hk
    · replace h := (if_neg c9).symm.trans h
      refine Vm.aload_n (n := 24) 0 dX8_clears_23 rfl rfl ?_
      refine Vm.getR (n := 27) dX8_clears_24 rfl wf_RX8_55 in_32 rfl (by decide) rfl ?_
      refine Vm.iconst (n := 28) (v := (4 : Int32)) dX8_clears_27 rfl (by decide) ?_
      refine Vm.iload_n (n := 29) 1 dX8_clears_28 rfl rfl ?_
      refine Vm.imul (n := 30) dX8_clears_29 rfl ?_
      refine Vm.iload_n (n := 31) 1 dX8_clears_30 rfl rfl ?_
      refine Vm.iadd (n := 32) dX8_clears_31 rfl ?_
      replace h := Option.bind_eq_some_iff.mp h
      obtain ⟨x4, h4, h⟩ := h
      refine Vm.ialdm (n := 33) dX8_clears_32 rfl in_63 rfl rfl (by decide) h4 ?_
      refine Vm.if_ne (n := 36) 42 dX8_clears_33 rfl rfl (fun c9 => ?_) (fun c9 => ?_)
      · replace h := (if_neg c9).symm.trans h
        exact lX8_clears_42 a1 a2 σ τ h hk
      · replace h := (if_pos c9).symm.trans h
        refine Vm.aload_n (n := 37) 0 dX8_clears_36 rfl rfl ?_
        refine Vm.iload_n (n := 38) 1 dX8_clears_37 rfl rfl ?_
        refine Vm.iload_n (n := 39) 2 dX8_clears_38 rfl rfl ?_
        replace h := Option.bind_eq_some_iff.mp h
        obtain ⟨q5, h5, h⟩ := h
        refine Vm.callVv (Y := mX8_changesRows) (n := 42) [.inl a1, .inl a2] dX8_clears_39 rfl wv_RX8_283 omX8_changesRows rfl in_32 rfl rfl rfl (Nat.le_of_ble_eq_true rfl) (by decide) (kX8_changesRows a1 a2 σ τ h5) ?_
        exact lX8_clears_42 a1 a2 q5 τ h hk
theorem lX8_clears_2_L (a1 : Int32) (τ : mm) {r : Option mv} {M' : mm × mm} (z : Int32 × mm) (w9 : Bool × mm) (h : lp (fX8_clears_2_L a1) z = some w9) (hk : (fun q : Bool × mm => r = some (.inl (bi q.1)) ∧ M' = (τ, q.2)) w9) : Vm mX8_clears 1 2 [(0, .inr (.inr (32, 0))), (1, .inl a1), (2, .inl z.1)] [] (τ, z.2) r M' :=
  lp_link (S := Int32 × mm) (R := Bool × mm) (body := fX8_clears_2_L a1) (A := fun z : Int32 × mm => Vm mX8_clears 1 2 [(0, .inr (.inr (32, 0))), (1, .inl a1), (2, .inl z.1)] [] (τ, z.2) r M') (B := fun w : Bool × mm => (fun q : Bool × mm => r = some (.inl (bi q.1)) ∧ M' = (τ, q.2)) w) (fun z v hb hv => lX8_clears_2 a1 z.1 z.2 τ hb hv) z w9 h hk
set_option maxRecDepth 20000 in
theorem lX8_clears_0 (a1 : Int32) (σ τ : mm) {r : Option mv} {M' : mm × mm} {v9 : Bool × mm} (h : fX8_clears_0 a1 σ = some v9) (hk : (fun q : Bool × mm => r = some (.inl (bi q.1)) ∧ M' = (τ, q.2)) v9) : Vm mX8_clears 1 0 [(0, .inr (.inr (32, 0))), (1, .inl a1)] [] (τ, σ) r M' := by
  unfold fX8_clears_0 at h
  refine Vm.iload_n (n := 1) 1 dX8_clears_0 rfl rfl ?_
  refine Vm.istore_n (n := 2) (lv' := [(2, .inl a1), (0, .inr (.inr (32, 0))), (1, .inl a1)]) dX8_clears_1 rfl (Nat.le_of_ble_eq_true rfl) rfl ?_
  refine Vm.sub (lv' := [(0, .inr (.inr (32, 0))), (1, .inl a1), (2, .inl a1)]) [1, 2, 0] rfl ?_
  exact lX8_clears_2_L a1 τ (a1, σ) _ h hk
theorem kX8_clears (a1 : Int32) (σ τ : mm) {q : Bool × mm} (h : fX8_clears a1 σ = some q) : Cx mX8_clears 1 [.inr (.inr (32, 0)), .inl a1] (τ, σ) (some (.inl (bi q.1))) (τ, q.2) :=
  Cx.of (lv := [(0, .inr (.inr (32, 0))), (1, .inl a1)]) (by decide) (fun ad => Nat.le_of_ble_eq_true rfl) (fun ad => rfl) (lX8_clears_0 a1 σ τ h ⟨rfl, rfl⟩)
-- ThinBodiesModel forms ()I
noncomputable def fX8_forms_153 (a1 : Int32) (a2 : Int32) (a3 : Int32) (s1 : Int32) (s2 : Int32) (s3 : Int32) (σ : mm) : Option ((Int32 × mm) ⊕ ((Int32 × Int32 × mm) ⊕ (Int32 × mm))) :=
  Option.bind (fX8_takesOff s1 s2 s3 σ) fun q1 =>
  Option.bind (some (a3 + (1 : Int32))) fun x2 =>
  some (.inl (x2, q1))
noncomputable def fX8_forms_93 (a1 : Int32) (a2 : Int32) (a3 : Int32) (σ : mm) : Option ((Int32 × mm) ⊕ ((Int32 × Int32 × mm) ⊕ (Int32 × mm))) :=
  if a2 ≤ a3 then
  Option.bind (some (a2 + (1 : Int32))) fun x1 =>
  some (.inr (.inl (a1, x1, σ)))
  else
  Option.bind (rdI σ 63 0 16 (((4 : Int32) * a3) + a2)) fun x2 =>
  Option.bind (rdI σ 63 0 16 ((5 : Int32) * a2)) fun x3 =>
  Option.bind (dvI x2 x3) fun x4 =>
  Option.bind (rdI σ 63 0 16 (((4 : Int32) * a3) + a2)) fun x5 =>
  Option.bind (rdI σ 63 0 16 ((5 : Int32) * a2)) fun x6 =>
  Option.bind (rmI x5 x6) fun x7 =>
  if (0 : Int32) ≤ x7 then
  fX8_forms_153 a1 a2 a3 a3 a2 x4 σ
  else
  fX8_forms_153 a1 a2 a3 a3 a2 (x4 - (1 : Int32)) σ
noncomputable def fX8_forms_93_L (a1 : Int32) (a2 : Int32) : Int32 × mm → Option ((Int32 × mm) ⊕ ((Int32 × Int32 × mm) ⊕ (Int32 × mm))) := fun z => fX8_forms_93 a1 a2 z.1 z.2
noncomputable def fX8_forms_80 (a1 : Int32) (a2 : Int32) (σ : mm) : Option ((Int32 × Int32 × mm) ⊕ (Int32 × mm)) :=
  Option.bind (rdI σ 63 0 16 ((5 : Int32) * a2)) fun x1 =>
  Option.bind (some (a1 * x1)) fun x2 =>
  lp (fX8_forms_93_L x2 a2) ((0 : Int32), σ)
noncomputable def fX8_forms_35 (a1 : Int32) (a2 : Int32) (σ : mm) : Option ((Int32 × Int32 × mm) ⊕ (Int32 × mm)) :=
  if (σ.1 32 0 1) ≤ a2 then
  some (.inr (((σ.1 32 0 24) * a1, σ)))
  else
  Option.bind (fX8_clears a2 σ) fun q1 =>
  if (bi q1.1) = (0 : Int32) then
  some (.inr (((0 : Int32), q1.2)))
  else
  Option.bind (rdI q1.2 63 0 16 ((5 : Int32) * a2)) fun x2 =>
  if (0 : Int32) ≤ x2 then
  fX8_forms_80 a1 a2 q1.2
  else
  Option.bind (fX8_takesOff a2 a2 (2 : Int32) q1.2) fun q3 =>
  Option.bind (some (-(q3.1 32 0 24))) fun x4 =>
  Option.bind (some (stI q3 32 0 24 x4)) fun σ5 =>
  fX8_forms_80 a1 a2 σ5
noncomputable def fX8_forms_35_L : Int32 × Int32 × mm → Option ((Int32 × Int32 × mm) ⊕ (Int32 × mm)) := fun z => fX8_forms_35 z.1 z.2.1 z.2.2
noncomputable def fX8_forms_2 (a1 : Int32) (σ : mm) : Option ((Int32 × mm) ⊕ (Int32 × mm)) :=
  if (16 : Int32) ≤ a1 then
  Option.bind (some (stI σ 32 0 24 (1 : Int32))) fun σ1 =>
  Option.map Sum.inr (lp (fX8_forms_35_L) ((1 : Int32), (0 : Int32), σ1))
  else
  Option.bind (rdI σ 46 0 16 a1) fun x2 =>
  Option.bind (wrI σ 63 0 16 a1 x2) fun σ3 =>
  Option.bind (some (a1 + (1 : Int32))) fun x4 =>
  some (.inl (x4, σ3))
noncomputable def fX8_forms_2_L : Int32 × mm → Option ((Int32 × mm) ⊕ (Int32 × mm)) := fun z => fX8_forms_2 z.1 z.2
noncomputable def fX8_forms_0 (σ : mm) : Option (Int32 × mm) :=
  lp (fX8_forms_2_L) ((0 : Int32), σ)
noncomputable def fX8_forms (σ : mm) : Option (Int32 × mm) := fX8_forms_0 σ
set_option maxRecDepth 20000 in
theorem lX8_forms_153 (a1 : Int32) (a2 : Int32) (a3 : Int32) (s1 : Int32) (s2 : Int32) (s3 : Int32) (σ τ : mm) {r : Option mv} {M' : mm × mm} {v9 : (Int32 × mm) ⊕ ((Int32 × Int32 × mm) ⊕ (Int32 × mm))} (h : fX8_forms_153 a1 a2 a3 s1 s2 s3 σ = some v9) (hk : (Sum.elim (fun z : Int32 × mm => Vm mX8_forms 2 93 [(0, .inr (.inr (32, 0))), (1, .inl a1), (2, .inl a2), (3, .inl z.1)] [] (τ, z.2) r M') (Sum.elim (fun z : Int32 × Int32 × mm => Vm mX8_forms 2 35 [(0, .inr (.inr (32, 0))), (1, .inl z.1), (2, .inl z.2.1)] [] (τ, z.2.2) r M') (fun q : Int32 × mm => r = some (.inl q.1) ∧ M' = (τ, q.2)))) v9) : Vm mX8_forms 2 153 [(0, .inr (.inr (32, 0))), (1, .inl a1), (2, .inl a2), (3, .inl a3)] [.inl s3, .inl s2, .inl s1, .inr (.inr (32, 0))] (τ, σ) r M' := by
  unfold fX8_forms_153 at h
  replace h := Option.bind_eq_some_iff.mp h
  obtain ⟨q1, h1, h⟩ := h
  refine Vm.callVv (Y := mX8_takesOff) (n := 156) [.inl s1, .inl s2, .inl s3] dX8_forms_153 rfl wv_RX8_286 omX8_takesOff rfl in_32 rfl rfl rfl (Nat.le_of_ble_eq_true rfl) (by decide) (kX8_takesOff s1 s2 s3 σ τ h1) ?_
  replace h := Option.bind_eq_some_iff.mp h
  obtain ⟨x2, e2, h⟩ := h
  replace e2 := Option.some.inj e2
  refine Vm.iinc (n := 159) (v := x2) (lv' := [(3, .inl x2), (0, .inr (.inr (32, 0))), (1, .inl a1), (2, .inl a2)]) 3 dX8_forms_156 rfl rfl e2 (Nat.le_of_ble_eq_true rfl) rfl ?_
  refine Vm.goto 93 dX8_forms_159 rfl ?_
  refine Vm.sub (lv' := [(0, .inr (.inr (32, 0))), (1, .inl a1), (2, .inl a2), (3, .inl x2)]) [1, 2, 3, 0] rfl ?_
  obtain rfl := Option.some.inj h
  exact hk
set_option maxRecDepth 20000 in
theorem lX8_forms_93 (a1 : Int32) (a2 : Int32) (a3 : Int32) (σ τ : mm) {r : Option mv} {M' : mm × mm} {v9 : (Int32 × mm) ⊕ ((Int32 × Int32 × mm) ⊕ (Int32 × mm))} (h : fX8_forms_93 a1 a2 a3 σ = some v9) (hk : (Sum.elim (fun z : Int32 × mm => Vm mX8_forms 2 93 [(0, .inr (.inr (32, 0))), (1, .inl a1), (2, .inl a2), (3, .inl z.1)] [] (τ, z.2) r M') (Sum.elim (fun z : Int32 × Int32 × mm => Vm mX8_forms 2 35 [(0, .inr (.inr (32, 0))), (1, .inl z.1), (2, .inl z.2.1)] [] (τ, z.2.2) r M') (fun q : Int32 × mm => r = some (.inl q.1) ∧ M' = (τ, q.2)))) v9) : Vm mX8_forms 2 93 [(0, .inr (.inr (32, 0))), (1, .inl a1), (2, .inl a2), (3, .inl a3)] [] (τ, σ) r M' := by
  unfold fX8_forms_93 at h
  refine Vm.iload_n (n := 94) 3 dX8_forms_93 rfl rfl ?_
  refine Vm.iload_n (n := 95) 2 dX8_forms_94 rfl rfl ?_
  refine Vm.icmp_ge (n := 98) 162 dX8_forms_95 rfl rfl (fun c9 => ?_) (fun c9 => ?_)
  · replace h := (if_pos c9).symm.trans h
    replace h := Option.bind_eq_some_iff.mp h
    obtain ⟨x1, e1, h⟩ := h
    replace e1 := Option.some.inj e1
    refine Vm.iinc (n := 165) (v := x1) (lv' := [(2, .inl x1), (0, .inr (.inr (32, 0))), (1, .inl a1), (3, .inl a3)]) 2 dX8_forms_162 rfl rfl e1 (Nat.le_of_ble_eq_true rfl) rfl ?_
    refine Vm.goto 35 dX8_forms_165 rfl ?_
    refine Vm.sub (lv' := [(0, .inr (.inr (32, 0))), (1, .inl a1), (2, .inl x1)]) [1, 2, 0] rfl ?_
    obtain rfl := Option.some.inj h
    exact hk
  · replace h := (if_neg c9).symm.trans h
    refine Vm.aload_n (n := 99) 0 dX8_forms_98 rfl rfl ?_
    refine Vm.getR (n := 102) dX8_forms_99 rfl wf_RX8_55 in_32 rfl (by decide) rfl ?_
    refine Vm.iconst (n := 103) (v := (4 : Int32)) dX8_forms_102 rfl (by decide) ?_
    refine Vm.iload_n (n := 104) 3 dX8_forms_103 rfl rfl ?_
    refine Vm.imul (n := 105) dX8_forms_104 rfl ?_
    refine Vm.iload_n (n := 106) 2 dX8_forms_105 rfl rfl ?_
    refine Vm.iadd (n := 107) dX8_forms_106 rfl ?_
    replace h := Option.bind_eq_some_iff.mp h
    obtain ⟨x2, h2, h⟩ := h
    refine Vm.ialdm (n := 108) dX8_forms_107 rfl in_63 rfl rfl (by decide) h2 ?_
    refine Vm.aload_n (n := 109) 0 dX8_forms_108 rfl rfl ?_
    refine Vm.getR (n := 112) dX8_forms_109 rfl wf_RX8_55 in_32 rfl (by decide) rfl ?_
    refine Vm.iconst (n := 113) (v := (5 : Int32)) dX8_forms_112 rfl (by decide) ?_
    refine Vm.iload_n (n := 114) 2 dX8_forms_113 rfl rfl ?_
    refine Vm.imul (n := 115) dX8_forms_114 rfl ?_
    replace h := Option.bind_eq_some_iff.mp h
    obtain ⟨x3, h3, h⟩ := h
    refine Vm.ialdm (n := 116) dX8_forms_115 rfl in_63 rfl rfl (by decide) h3 ?_
    replace h := Option.bind_eq_some_iff.mp h
    obtain ⟨x4, h4, h⟩ := h
    refine Vm.idiv (n := 117) dX8_forms_116 rfl h4 ?_
    refine Vm.istore (n := 119) (lv' := [(4, .inl x4), (0, .inr (.inr (32, 0))), (1, .inl a1), (2, .inl a2), (3, .inl a3)]) dX8_forms_117 rfl (Nat.le_of_ble_eq_true rfl) rfl ?_
    refine Vm.aload_n (n := 120) 1 dX8_forms_119 rfl rfl ?_
    refine Vm.iload_n (n := 121) 4 dX8_forms_120 rfl rfl ?_
    refine Vm.iload_n (n := 122) 3 dX8_forms_121 rfl rfl ?_
    refine Vm.aload_n (n := 123) 1 dX8_forms_122 rfl rfl ?_
    refine Vm.getR (n := 126) dX8_forms_123 rfl wf_RX8_55 in_32 rfl (by decide) rfl ?_
    refine Vm.iconst (n := 127) (v := (4 : Int32)) dX8_forms_126 rfl (by decide) ?_
    refine Vm.iload_n (n := 128) 4 dX8_forms_127 rfl rfl ?_
    refine Vm.imul (n := 129) dX8_forms_128 rfl ?_
    refine Vm.iload_n (n := 130) 3 dX8_forms_129 rfl rfl ?_
    refine Vm.iadd (n := 131) dX8_forms_130 rfl ?_
    replace h := Option.bind_eq_some_iff.mp h
    obtain ⟨x5, h5, h⟩ := h
    refine Vm.ialdm (n := 132) dX8_forms_131 rfl in_63 rfl rfl (by decide) h5 ?_
    refine Vm.aload_n (n := 133) 1 dX8_forms_132 rfl rfl ?_
    refine Vm.getR (n := 136) dX8_forms_133 rfl wf_RX8_55 in_32 rfl (by decide) rfl ?_
    refine Vm.iconst (n := 137) (v := (5 : Int32)) dX8_forms_136 rfl (by decide) ?_
    refine Vm.iload_n (n := 138) 3 dX8_forms_137 rfl rfl ?_
    refine Vm.imul (n := 139) dX8_forms_138 rfl ?_
    replace h := Option.bind_eq_some_iff.mp h
    obtain ⟨x6, h6, h⟩ := h
    refine Vm.ialdm (n := 140) dX8_forms_139 rfl in_63 rfl rfl (by decide) h6 ?_
    replace h := Option.bind_eq_some_iff.mp h
    obtain ⟨x7, h7, h⟩ := h
    refine Vm.irem (n := 141) dX8_forms_140 rfl h7 ?_
    refine Vm.if_ge (n := 144) 151 dX8_forms_141 rfl rfl (fun c9 => ?_) (fun c9 => ?_)
    · replace h := (if_pos c9).symm.trans h
      refine Vm.iload (n := 153) 0 dX8_forms_151 rfl rfl ?_
      refine Vm.sub (lv' := [(0, .inr (.inr (32, 0))), (1, .inl a1), (2, .inl a2), (3, .inl a3)]) [1, 2, 3, 4] rfl ?_
      exact lX8_forms_153 a1 a2 a3 a3 a2 x4 σ τ h hk
    · replace h := (if_neg c9).symm.trans h
      refine Vm.iload (n := 146) 0 dX8_forms_144 rfl rfl ?_
      refine Vm.iconst (n := 147) (v := (1 : Int32)) dX8_forms_146 rfl (by decide) ?_
      refine Vm.isub (n := 148) dX8_forms_147 rfl ?_
      refine Vm.goto 153 dX8_forms_148 rfl ?_
      refine Vm.sub (lv' := [(0, .inr (.inr (32, 0))), (1, .inl a1), (2, .inl a2), (3, .inl a3)]) [1, 2, 3, 4] rfl ?_
      exact lX8_forms_153 a1 a2 a3 a3 a2 (x4 - (1 : Int32)) σ τ h hk
theorem lX8_forms_93_L (a1 : Int32) (a2 : Int32) (τ : mm) {r : Option mv} {M' : mm × mm} (z : Int32 × mm) (w9 : (Int32 × Int32 × mm) ⊕ (Int32 × mm)) (h : lp (fX8_forms_93_L a1 a2) z = some w9) (hk : (Sum.elim (fun z : Int32 × Int32 × mm => Vm mX8_forms 2 35 [(0, .inr (.inr (32, 0))), (1, .inl z.1), (2, .inl z.2.1)] [] (τ, z.2.2) r M') (fun q : Int32 × mm => r = some (.inl q.1) ∧ M' = (τ, q.2))) w9) : Vm mX8_forms 2 93 [(0, .inr (.inr (32, 0))), (1, .inl a1), (2, .inl a2), (3, .inl z.1)] [] (τ, z.2) r M' :=
  lp_link (S := Int32 × mm) (R := (Int32 × Int32 × mm) ⊕ (Int32 × mm)) (body := fX8_forms_93_L a1 a2) (A := fun z : Int32 × mm => Vm mX8_forms 2 93 [(0, .inr (.inr (32, 0))), (1, .inl a1), (2, .inl a2), (3, .inl z.1)] [] (τ, z.2) r M') (B := fun w : (Int32 × Int32 × mm) ⊕ (Int32 × mm) => (Sum.elim (fun z : Int32 × Int32 × mm => Vm mX8_forms 2 35 [(0, .inr (.inr (32, 0))), (1, .inl z.1), (2, .inl z.2.1)] [] (τ, z.2.2) r M') (fun q : Int32 × mm => r = some (.inl q.1) ∧ M' = (τ, q.2))) w) (fun z v hb hv => lX8_forms_93 a1 a2 z.1 z.2 τ hb hv) z w9 h hk
set_option maxRecDepth 20000 in
theorem lX8_forms_80 (a1 : Int32) (a2 : Int32) (σ τ : mm) {r : Option mv} {M' : mm × mm} {v9 : (Int32 × Int32 × mm) ⊕ (Int32 × mm)} (h : fX8_forms_80 a1 a2 σ = some v9) (hk : (Sum.elim (fun z : Int32 × Int32 × mm => Vm mX8_forms 2 35 [(0, .inr (.inr (32, 0))), (1, .inl z.1), (2, .inl z.2.1)] [] (τ, z.2.2) r M') (fun q : Int32 × mm => r = some (.inl q.1) ∧ M' = (τ, q.2))) v9) : Vm mX8_forms 2 80 [(0, .inr (.inr (32, 0))), (1, .inl a1), (2, .inl a2)] [] (τ, σ) r M' := by
  unfold fX8_forms_80 at h
  refine Vm.iload_n (n := 81) 1 dX8_forms_80 rfl rfl ?_
  refine Vm.aload_n (n := 82) 0 dX8_forms_81 rfl rfl ?_
  refine Vm.getR (n := 85) dX8_forms_82 rfl wf_RX8_55 in_32 rfl (by decide) rfl ?_
  refine Vm.iconst (n := 86) (v := (5 : Int32)) dX8_forms_85 rfl (by decide) ?_
  refine Vm.iload_n (n := 87) 2 dX8_forms_86 rfl rfl ?_
  refine Vm.imul (n := 88) dX8_forms_87 rfl ?_
  replace h := Option.bind_eq_some_iff.mp h
  obtain ⟨x1, h1, h⟩ := h
  refine Vm.ialdm (n := 89) dX8_forms_88 rfl in_63 rfl rfl (by decide) h1 ?_
  refine Vm.imul (n := 90) dX8_forms_89 rfl ?_
  replace h := Option.bind_eq_some_iff.mp h
  obtain ⟨x2, e2, h⟩ := h
  replace e2 := Option.some.inj e2
  refine Vm.top e2 ?_
  refine Vm.istore_n (n := 91) (lv' := [(1, .inl x2), (0, .inr (.inr (32, 0))), (2, .inl a2)]) dX8_forms_90 rfl (Nat.le_of_ble_eq_true rfl) rfl ?_
  refine Vm.iconst (n := 92) (v := (0 : Int32)) dX8_forms_91 rfl (by decide) ?_
  refine Vm.istore_n (n := 93) (lv' := [(3, .inl (0 : Int32)), (1, .inl x2), (0, .inr (.inr (32, 0))), (2, .inl a2)]) dX8_forms_92 rfl (Nat.le_of_ble_eq_true rfl) rfl ?_
  refine Vm.sub (lv' := [(0, .inr (.inr (32, 0))), (1, .inl x2), (2, .inl a2), (3, .inl (0 : Int32))]) [2, 1, 3, 0] rfl ?_
  exact lX8_forms_93_L x2 a2 τ ((0 : Int32), σ) _ h hk
set_option maxRecDepth 20000 in
theorem lX8_forms_35 (a1 : Int32) (a2 : Int32) (σ τ : mm) {r : Option mv} {M' : mm × mm} {v9 : (Int32 × Int32 × mm) ⊕ (Int32 × mm)} (h : fX8_forms_35 a1 a2 σ = some v9) (hk : (Sum.elim (fun z : Int32 × Int32 × mm => Vm mX8_forms 2 35 [(0, .inr (.inr (32, 0))), (1, .inl z.1), (2, .inl z.2.1)] [] (τ, z.2.2) r M') (fun q : Int32 × mm => r = some (.inl q.1) ∧ M' = (τ, q.2))) v9) : Vm mX8_forms 2 35 [(0, .inr (.inr (32, 0))), (1, .inl a1), (2, .inl a2)] [] (τ, σ) r M' := by
  unfold fX8_forms_35 at h
  refine Vm.iload_n (n := 36) 2 dX8_forms_35 rfl rfl ?_
  refine Vm.aload_n (n := 37) 0 dX8_forms_36 rfl rfl ?_
  refine Vm.gM (n := 40) dX8_forms_37 rfl wf_RX8_13 in_32 rfl (by decide) rfl (by decide) ?_
  refine Vm.icmp_ge (n := 43) 168 dX8_forms_40 rfl rfl (fun c9 => ?_) (fun c9 => ?_)
  · replace h := (if_pos c9).symm.trans h
    refine Vm.aload_n (n := 169) 0 dX8_forms_168 rfl rfl ?_
    refine Vm.gM (n := 172) dX8_forms_169 rfl wf_RX8_280 in_32 rfl (by decide) rfl (by decide) ?_
    refine Vm.iload_n (n := 173) 1 dX8_forms_172 rfl rfl ?_
    refine Vm.imul (n := 174) dX8_forms_173 rfl ?_
    obtain rfl := Option.some.inj h
    exact Vm.iret dX8_forms_174 rfl hk.1 hk.2.symm
  · replace h := (if_neg c9).symm.trans h
    refine Vm.aload_n (n := 44) 0 dX8_forms_43 rfl rfl ?_
    refine Vm.iload_n (n := 45) 2 dX8_forms_44 rfl rfl ?_
    replace h := Option.bind_eq_some_iff.mp h
    obtain ⟨q1, h1, h⟩ := h
    refine Vm.callV (Y := mX8_clears) (n := 48) [.inl a2] dX8_forms_45 rfl wv_RX8_289 omX8_clears rfl in_32 rfl rfl rfl (Nat.le_of_ble_eq_true rfl) (by decide) (kX8_clears a2 σ τ h1) ?_
    refine Vm.if_ne (n := 51) 53 dX8_forms_48 rfl rfl (fun c9 => ?_) (fun c9 => ?_)
    · replace h := (if_neg c9).symm.trans h
      refine Vm.aload_n (n := 54) 0 dX8_forms_53 rfl rfl ?_
      refine Vm.getR (n := 57) dX8_forms_54 rfl wf_RX8_55 in_32 rfl (by decide) rfl ?_
      refine Vm.iconst (n := 58) (v := (5 : Int32)) dX8_forms_57 rfl (by decide) ?_
      refine Vm.iload_n (n := 59) 2 dX8_forms_58 rfl rfl ?_
      refine Vm.imul (n := 60) dX8_forms_59 rfl ?_
      replace h := Option.bind_eq_some_iff.mp h
      obtain ⟨x2, h2, h⟩ := h
      refine Vm.ialdm (n := 61) dX8_forms_60 rfl in_63 rfl rfl (by decide) h2 ?_
      refine Vm.if_ge (n := 64) 80 dX8_forms_61 rfl rfl (fun c9 => ?_) (fun c9 => ?_)
      · replace h := (if_pos c9).symm.trans h
        exact lX8_forms_80 a1 a2 q1.2 τ h hk
      · replace h := (if_neg c9).symm.trans h
        refine Vm.aload_n (n := 65) 0 dX8_forms_64 rfl rfl ?_
        refine Vm.iload_n (n := 66) 2 dX8_forms_65 rfl rfl ?_
        refine Vm.iload_n (n := 67) 2 dX8_forms_66 rfl rfl ?_
        refine Vm.iconst (n := 68) (v := (2 : Int32)) dX8_forms_67 rfl (by decide) ?_
        replace h := Option.bind_eq_some_iff.mp h
        obtain ⟨q3, h3, h⟩ := h
        refine Vm.callVv (Y := mX8_takesOff) (n := 71) [.inl a2, .inl a2, .inl (2 : Int32)] dX8_forms_68 rfl wv_RX8_286 omX8_takesOff rfl in_32 rfl rfl rfl (Nat.le_of_ble_eq_true rfl) (by decide) (kX8_takesOff a2 a2 (2 : Int32) q1.2 τ h3) ?_
        refine Vm.aload_n (n := 72) 0 dX8_forms_71 rfl rfl ?_
        refine Vm.aload_n (n := 73) 0 dX8_forms_72 rfl rfl ?_
        refine Vm.gM (n := 76) dX8_forms_73 rfl wf_RX8_280 in_32 rfl (by decide) rfl (by decide) ?_
        refine Vm.ineg (n := 77) dX8_forms_76 rfl ?_
        replace h := Option.bind_eq_some_iff.mp h
        obtain ⟨x4, e4, h⟩ := h
        replace e4 := Option.some.inj e4
        refine Vm.top e4 ?_
        refine Vm.pM (n := 80) (ty := .int) dX8_forms_77 rfl wf_RX8_280 in_32 rfl (by decide) rfl (by decide) rfl rfl rfl rfl ?_
        replace h := Option.bind_eq_some_iff.mp h
        obtain ⟨σ5, e5, h⟩ := h
        replace e5 := Option.some.inj e5
        refine Vm.mem (congrArg (fun z => (τ, z)) e5) ?_
        exact lX8_forms_80 a1 a2 σ5 τ h hk
    · replace h := (if_pos c9).symm.trans h
      refine Vm.iconst (n := 52) (v := (0 : Int32)) dX8_forms_51 rfl (by decide) ?_
      obtain rfl := Option.some.inj h
      exact Vm.iret dX8_forms_52 rfl hk.1 hk.2.symm
theorem lX8_forms_35_L (τ : mm) {r : Option mv} {M' : mm × mm} (z : Int32 × Int32 × mm) (w9 : Int32 × mm) (h : lp (fX8_forms_35_L) z = some w9) (hk : (fun q : Int32 × mm => r = some (.inl q.1) ∧ M' = (τ, q.2)) w9) : Vm mX8_forms 2 35 [(0, .inr (.inr (32, 0))), (1, .inl z.1), (2, .inl z.2.1)] [] (τ, z.2.2) r M' :=
  lp_link (S := Int32 × Int32 × mm) (R := Int32 × mm) (body := fX8_forms_35_L) (A := fun z : Int32 × Int32 × mm => Vm mX8_forms 2 35 [(0, .inr (.inr (32, 0))), (1, .inl z.1), (2, .inl z.2.1)] [] (τ, z.2.2) r M') (B := fun w : Int32 × mm => (fun q : Int32 × mm => r = some (.inl q.1) ∧ M' = (τ, q.2)) w) (fun z v hb hv => lX8_forms_35 z.1 z.2.1 z.2.2 τ hb hv) z w9 h hk
set_option maxRecDepth 20000 in
theorem lX8_forms_2 (a1 : Int32) (σ τ : mm) {r : Option mv} {M' : mm × mm} {v9 : (Int32 × mm) ⊕ (Int32 × mm)} (h : fX8_forms_2 a1 σ = some v9) (hk : (Sum.elim (fun z : Int32 × mm => Vm mX8_forms 2 2 [(0, .inr (.inr (32, 0))), (1, .inl z.1)] [] (τ, z.2) r M') (fun q : Int32 × mm => r = some (.inl q.1) ∧ M' = (τ, q.2))) v9) : Vm mX8_forms 2 2 [(0, .inr (.inr (32, 0))), (1, .inl a1)] [] (τ, σ) r M' := by
  unfold fX8_forms_2 at h
  refine Vm.iload_n (n := 3) 1 dX8_forms_2 rfl rfl ?_
  refine Vm.bipush (n := 5) (v := (16 : Int32)) dX8_forms_3 rfl (by decide) ?_
  refine Vm.icmp_ge (n := 8) 26 dX8_forms_5 rfl rfl (fun c9 => ?_) (fun c9 => ?_)
  · replace h := (if_pos c9).symm.trans h
    refine Vm.aload_n (n := 27) 0 dX8_forms_26 rfl rfl ?_
    refine Vm.iconst (n := 28) (v := (1 : Int32)) dX8_forms_27 rfl (by decide) ?_
    refine Vm.pM (n := 31) (ty := .int) dX8_forms_28 rfl wf_RX8_280 in_32 rfl (by decide) rfl (by decide) rfl rfl rfl rfl ?_
    replace h := Option.bind_eq_some_iff.mp h
    obtain ⟨σ1, e1, h⟩ := h
    replace e1 := Option.some.inj e1
    refine Vm.mem (congrArg (fun z => (τ, z)) e1) ?_
    refine Vm.iconst (n := 32) (v := (1 : Int32)) dX8_forms_31 rfl (by decide) ?_
    refine Vm.istore_n (n := 33) (lv' := [(1, .inl (1 : Int32)), (0, .inr (.inr (32, 0)))]) dX8_forms_32 rfl (Nat.le_of_ble_eq_true rfl) rfl ?_
    refine Vm.iconst (n := 34) (v := (0 : Int32)) dX8_forms_33 rfl (by decide) ?_
    refine Vm.istore_n (n := 35) (lv' := [(2, .inl (0 : Int32)), (1, .inl (1 : Int32)), (0, .inr (.inr (32, 0)))]) dX8_forms_34 rfl (Nat.le_of_ble_eq_true rfl) rfl ?_
    refine Vm.sub (lv' := [(0, .inr (.inr (32, 0))), (1, .inl (1 : Int32)), (2, .inl (0 : Int32))]) [2, 1, 0] rfl ?_
    replace h := Option.map_eq_some_iff.mp h
    obtain ⟨w9, h, e8⟩ := h
    subst e8
    exact lX8_forms_35_L τ ((1 : Int32), (0 : Int32), σ1) _ h hk
  · replace h := (if_neg c9).symm.trans h
    refine Vm.aload_n (n := 9) 0 dX8_forms_8 rfl rfl ?_
    refine Vm.getR (n := 12) dX8_forms_9 rfl wf_RX8_55 in_32 rfl (by decide) rfl ?_
    refine Vm.iload_n (n := 13) 1 dX8_forms_12 rfl rfl ?_
    refine Vm.aload_n (n := 14) 0 dX8_forms_13 rfl rfl ?_
    refine Vm.getR (n := 17) dX8_forms_14 rfl wf_RX8_26 in_32 rfl (by decide) rfl ?_
    refine Vm.iload_n (n := 18) 1 dX8_forms_17 rfl rfl ?_
    replace h := Option.bind_eq_some_iff.mp h
    obtain ⟨x2, h2, h⟩ := h
    refine Vm.ialdm (n := 19) dX8_forms_18 rfl in_46 rfl rfl (by decide) h2 ?_
    replace h := Option.bind_eq_some_iff.mp h
    obtain ⟨σ3, h3, h⟩ := h
    refine Vm.iastm (n := 20) dX8_forms_19 rfl in_63 rfl rfl (by decide) h3 ?_
    replace h := Option.bind_eq_some_iff.mp h
    obtain ⟨x4, e4, h⟩ := h
    replace e4 := Option.some.inj e4
    refine Vm.iinc (n := 23) (v := x4) (lv' := [(1, .inl x4), (0, .inr (.inr (32, 0)))]) 1 dX8_forms_20 rfl rfl e4 (Nat.le_of_ble_eq_true rfl) rfl ?_
    refine Vm.goto 2 dX8_forms_23 rfl ?_
    refine Vm.sub (lv' := [(0, .inr (.inr (32, 0))), (1, .inl x4)]) [1, 0] rfl ?_
    obtain rfl := Option.some.inj h
    exact hk
theorem lX8_forms_2_L (τ : mm) {r : Option mv} {M' : mm × mm} (z : Int32 × mm) (w9 : Int32 × mm) (h : lp (fX8_forms_2_L) z = some w9) (hk : (fun q : Int32 × mm => r = some (.inl q.1) ∧ M' = (τ, q.2)) w9) : Vm mX8_forms 2 2 [(0, .inr (.inr (32, 0))), (1, .inl z.1)] [] (τ, z.2) r M' :=
  lp_link (S := Int32 × mm) (R := Int32 × mm) (body := fX8_forms_2_L) (A := fun z : Int32 × mm => Vm mX8_forms 2 2 [(0, .inr (.inr (32, 0))), (1, .inl z.1)] [] (τ, z.2) r M') (B := fun w : Int32 × mm => (fun q : Int32 × mm => r = some (.inl q.1) ∧ M' = (τ, q.2)) w) (fun z v hb hv => lX8_forms_2 z.1 z.2 τ hb hv) z w9 h hk
set_option maxRecDepth 20000 in
theorem lX8_forms_0 (σ τ : mm) {r : Option mv} {M' : mm × mm} {v9 : Int32 × mm} (h : fX8_forms_0 σ = some v9) (hk : (fun q : Int32 × mm => r = some (.inl q.1) ∧ M' = (τ, q.2)) v9) : Vm mX8_forms 2 0 [(0, .inr (.inr (32, 0)))] [] (τ, σ) r M' := by
  unfold fX8_forms_0 at h
  refine Vm.iconst (n := 1) (v := (0 : Int32)) dX8_forms_0 rfl (by decide) ?_
  refine Vm.istore_n (n := 2) (lv' := [(1, .inl (0 : Int32)), (0, .inr (.inr (32, 0)))]) dX8_forms_1 rfl (Nat.le_of_ble_eq_true rfl) rfl ?_
  refine Vm.sub (lv' := [(0, .inr (.inr (32, 0))), (1, .inl (0 : Int32))]) [1, 0] rfl ?_
  exact lX8_forms_2_L τ ((0 : Int32), σ) _ h hk
theorem kX8_forms (σ τ : mm) {q : Int32 × mm} (h : fX8_forms σ = some q) : Cx mX8_forms 2 [.inr (.inr (32, 0))] (τ, σ) (some (.inl q.1)) (τ, q.2) :=
  Cx.of (lv := [(0, .inr (.inr (32, 0)))]) (by decide) (fun ad => Nat.le_of_ble_eq_true rfl) (fun ad => rfl) (lX8_forms_0 σ τ h ⟨rfl, rfl⟩)
-- ThinBodiesModel det ()I
noncomputable def fX8_det_0 (σ : mm) : Option (Int32 × mm) :=
  Option.bind (fX8_forms σ) fun q1 =>
  some ((q1.1, q1.2))
noncomputable def fX8_det (σ : mm) : Option (Int32 × mm) := fX8_det_0 σ
set_option maxRecDepth 20000 in
theorem lX8_det_0 (σ τ : mm) {r : Option mv} {M' : mm × mm} {v9 : Int32 × mm} (h : fX8_det_0 σ = some v9) (hk : (fun q : Int32 × mm => r = some (.inl q.1) ∧ M' = (τ, q.2)) v9) : Vm mX8_det 3 0 [(0, .inr (.inr (32, 0)))] [] (τ, σ) r M' := by
  unfold fX8_det_0 at h
  refine Vm.aload_n (n := 1) 0 dX8_det_0 rfl rfl ?_
  replace h := Option.bind_eq_some_iff.mp h
  obtain ⟨q1, h1, h⟩ := h
  refine Vm.callV (Y := mX8_forms) (n := 4) [] dX8_det_1 rfl wv_RX8_292 omX8_forms rfl in_32 rfl rfl rfl (Nat.le_of_ble_eq_true rfl) (by decide) (kX8_forms σ τ h1) ?_
  obtain rfl := Option.some.inj h
  exact Vm.iret dX8_det_4 rfl hk.1 hk.2.symm
theorem kX8_det (σ τ : mm) {q : Int32 × mm} (h : fX8_det σ = some q) : Cx mX8_det 3 [.inr (.inr (32, 0))] (τ, σ) (some (.inl q.1)) (τ, q.2) :=
  Cx.of (lv := [(0, .inr (.inr (32, 0)))]) (by decide) (fun ad => Nat.le_of_ble_eq_true rfl) (fun ad => rfl) (lX8_det_0 σ τ h ⟨rfl, rfl⟩)
-- ThinBodiesModel form (II)I
noncomputable def fX8_form_16 (σ : mm) : Option (Int32 × mm) :=
  Option.bind (fX8_finds (-1000000001 : Int32) σ) fun q1 =>
  some ((q1.1, q1.2))
noncomputable def fX8_form_0 (a1 : Int32) (a2 : Int32) (σ : mm) : Option (Int32 × mm) :=
  if (bi (fX8_isLetter a1 σ)) = (0 : Int32) then
  fX8_form_16 σ
  else
  if (bi (fX8_isLetter a2 σ)) = (0 : Int32) then
  fX8_form_16 σ
  else
  Option.bind (fX8_forms σ) fun q1 =>
  if q1.1 = (0 : Int32) then
  Option.bind (fX8_finds (-1000000004 : Int32) q1.2) fun q3 =>
  some ((q3.1, q3.2))
  else
  Option.bind (rdI q1.2 63 0 16 (((4 : Int32) * a1) + a2)) fun x2 =>
  some ((x2, q1.2))
noncomputable def fX8_form (a1 : Int32) (a2 : Int32) (σ : mm) : Option (Int32 × mm) := fX8_form_0 a1 a2 σ
set_option maxRecDepth 20000 in
theorem lX8_form_16 (σ τ : mm) {r : Option mv} {M' : mm × mm} {v9 : Int32 × mm} (h : fX8_form_16 σ = some v9) (hk : (fun q : Int32 × mm => r = some (.inl q.1) ∧ M' = (τ, q.2)) v9) : Vm mX8_form 3 16 [(0, .inr (.inr (32, 0)))] [] (τ, σ) r M' := by
  unfold fX8_form_16 at h
  refine Vm.aload_n (n := 17) 0 dX8_form_16 rfl rfl ?_
  refine Vm.ldc (n := 19) dX8_form_17 rfl wc_RX8_92 ?_
  replace h := Option.bind_eq_some_iff.mp h
  obtain ⟨q1, h1, h⟩ := h
  refine Vm.callV (Y := mX8_finds) (n := 22) [.inl (-1000000001 : Int32)] dX8_form_19 rfl wv_RX8_102 omX8_finds rfl in_32 rfl rfl rfl (Nat.le_of_ble_eq_true rfl) (by decide) (kX8_finds (-1000000001 : Int32) σ τ h1) ?_
  obtain rfl := Option.some.inj h
  exact Vm.iret dX8_form_22 rfl hk.1 hk.2.symm
set_option maxRecDepth 20000 in
theorem lX8_form_0 (a1 : Int32) (a2 : Int32) (σ τ : mm) {r : Option mv} {M' : mm × mm} {v9 : Int32 × mm} (h : fX8_form_0 a1 a2 σ = some v9) (hk : (fun q : Int32 × mm => r = some (.inl q.1) ∧ M' = (τ, q.2)) v9) : Vm mX8_form 3 0 [(0, .inr (.inr (32, 0))), (1, .inl a1), (2, .inl a2)] [] (τ, σ) r M' := by
  unfold fX8_form_0 at h
  refine Vm.aload_n (n := 1) 0 dX8_form_0 rfl rfl ?_
  refine Vm.iload_n (n := 2) 1 dX8_form_1 rfl rfl ?_
  refine Vm.callV (Y := mX8_isLetter) (n := 5) [.inl a1] dX8_form_2 rfl wv_RX8_115 omX8_isLetter rfl in_32 rfl rfl rfl (Nat.le_of_ble_eq_true rfl) (by decide) (kX8_isLetter a1 σ τ rfl) ?_
  refine Vm.if_eq (n := 8) 16 dX8_form_5 rfl rfl (fun c9 => ?_) (fun c9 => ?_)
  · replace h := (if_pos c9).symm.trans h
    refine Vm.sub (lv' := [(0, .inr (.inr (32, 0)))]) [0] rfl ?_
    exact lX8_form_16 σ τ h hk
  · replace h := (if_neg c9).symm.trans h
    refine Vm.aload_n (n := 9) 0 dX8_form_8 rfl rfl ?_
    refine Vm.iload_n (n := 10) 2 dX8_form_9 rfl rfl ?_
    refine Vm.callV (Y := mX8_isLetter) (n := 13) [.inl a2] dX8_form_10 rfl wv_RX8_115 omX8_isLetter rfl in_32 rfl rfl rfl (Nat.le_of_ble_eq_true rfl) (by decide) (kX8_isLetter a2 σ τ rfl) ?_
    refine Vm.if_ne (n := 16) 23 dX8_form_13 rfl rfl (fun c9 => ?_) (fun c9 => ?_)
    · replace h := (if_neg c9).symm.trans h
      refine Vm.aload_n (n := 24) 0 dX8_form_23 rfl rfl ?_
      replace h := Option.bind_eq_some_iff.mp h
      obtain ⟨q1, h1, h⟩ := h
      refine Vm.callV (Y := mX8_forms) (n := 27) [] dX8_form_24 rfl wv_RX8_292 omX8_forms rfl in_32 rfl rfl rfl (Nat.le_of_ble_eq_true rfl) (by decide) (kX8_forms σ τ h1) ?_
      refine Vm.if_ne (n := 30) 39 dX8_form_27 rfl rfl (fun c9 => ?_) (fun c9 => ?_)
      · replace h := (if_neg c9).symm.trans h
        refine Vm.aload_n (n := 40) 0 dX8_form_39 rfl rfl ?_
        refine Vm.getR (n := 43) dX8_form_40 rfl wf_RX8_55 in_32 rfl (by decide) rfl ?_
        refine Vm.iconst (n := 44) (v := (4 : Int32)) dX8_form_43 rfl (by decide) ?_
        refine Vm.iload_n (n := 45) 1 dX8_form_44 rfl rfl ?_
        refine Vm.imul (n := 46) dX8_form_45 rfl ?_
        refine Vm.iload_n (n := 47) 2 dX8_form_46 rfl rfl ?_
        refine Vm.iadd (n := 48) dX8_form_47 rfl ?_
        replace h := Option.bind_eq_some_iff.mp h
        obtain ⟨x2, h2, h⟩ := h
        refine Vm.ialdm (n := 49) dX8_form_48 rfl in_63 rfl rfl (by decide) h2 ?_
        obtain rfl := Option.some.inj h
        exact Vm.iret dX8_form_49 rfl hk.1 hk.2.symm
      · replace h := (if_pos c9).symm.trans h
        refine Vm.aload_n (n := 31) 0 dX8_form_30 rfl rfl ?_
        refine Vm.ldc (n := 33) dX8_form_31 rfl wc_RX8_167 ?_
        replace h := Option.bind_eq_some_iff.mp h
        obtain ⟨q3, h3, h⟩ := h
        refine Vm.callV (Y := mX8_finds) (n := 36) [.inl (-1000000004 : Int32)] dX8_form_33 rfl wv_RX8_102 omX8_finds rfl in_32 rfl rfl rfl (Nat.le_of_ble_eq_true rfl) (by decide) (kX8_finds (-1000000004 : Int32) q1.2 τ h3) ?_
        refine Vm.goto 49 dX8_form_36 rfl ?_
        obtain rfl := Option.some.inj h
        exact Vm.iret dX8_form_49 rfl hk.1 hk.2.symm
    · replace h := (if_pos c9).symm.trans h
      refine Vm.sub (lv' := [(0, .inr (.inr (32, 0)))]) [0] rfl ?_
      exact lX8_form_16 σ τ h hk
theorem kX8_form (a1 : Int32) (a2 : Int32) (σ τ : mm) {q : Int32 × mm} (h : fX8_form a1 a2 σ = some q) : Cx mX8_form 3 [.inr (.inr (32, 0)), .inl a1, .inl a2] (τ, σ) (some (.inl q.1)) (τ, q.2) :=
  Cx.of (lv := [(0, .inr (.inr (32, 0))), (1, .inl a1), (2, .inl a2)]) (by decide) (fun ad => Nat.le_of_ble_eq_true rfl) (fun ad => rfl) (lX8_form_0 a1 a2 σ τ h ⟨rfl, rfl⟩)
-- ThinBodiesModel isInLattice ()Z
noncomputable def fX8_isInLattice_81 (a1 : Int32) (a2 : Int64) (a4 : Int32) (σ : mm) : Option ((Int32 × mm) ⊕ ((Int32 × mm) ⊕ (Bool × mm))) :=
  if (σ.1 32 0 1) ≤ a4 then
  Option.bind (some (a1 + (1 : Int32))) fun x1 =>
  some (.inr (.inl (x1, σ)))
  else
  Option.bind (rdL σ 65 0 4 a4) fun x2 =>
  Option.bind (rdI σ 63 0 16 (((4 : Int32) * a1) + a4)) fun x3 =>
  Option.bind (wrL σ 65 0 4 a4 (x2 - (a2 * x3.toInt64))) fun σ4 =>
  Option.bind (some (a4 + (1 : Int32))) fun x5 =>
  some (.inl (x5, σ4))
noncomputable def fX8_isInLattice_81_L (a1 : Int32) (a2 : Int64) : Int32 × mm → Option ((Int32 × mm) ⊕ ((Int32 × mm) ⊕ (Bool × mm))) := fun z => fX8_isInLattice_81 a1 a2 z.1 z.2
noncomputable def fX8_isInLattice_30 (a1 : Int32) (σ : mm) : Option ((Int32 × mm) ⊕ (Bool × mm)) :=
  if (σ.1 32 0 1) ≤ a1 then
  some (.inr ((true, σ)))
  else
  Option.bind (rdL σ 65 0 4 a1) fun x1 =>
  Option.bind (rdI σ 63 0 16 ((5 : Int32) * a1)) fun x2 =>
  Option.bind (rmL x1 x2.toInt64) fun x3 =>
  if (lg_cmp x3 (0 : Int64)) = (0 : Int32) then
  Option.bind (rdL σ 65 0 4 a1) fun x4 =>
  Option.bind (rdI σ 63 0 16 ((5 : Int32) * a1)) fun x5 =>
  Option.bind (dvL x4 x5.toInt64) fun x6 =>
  lp (fX8_isInLattice_81_L a1 x6) (a1, σ)
  else
  some (.inr ((false, σ)))
noncomputable def fX8_isInLattice_30_L : Int32 × mm → Option ((Int32 × mm) ⊕ (Bool × mm)) := fun z => fX8_isInLattice_30 z.1 z.2
noncomputable def fX8_isInLattice_2 (a1 : Int32) (σ : mm) : Option ((Int32 × mm) ⊕ (Bool × mm)) :=
  if (σ.1 32 0 1) ≤ a1 then
  Option.map Sum.inr (lp (fX8_isInLattice_30_L) ((0 : Int32), σ))
  else
  Option.bind (rdL σ 48 0 4 a1) fun x1 =>
  Option.bind (wrL σ 65 0 4 a1 x1) fun σ2 =>
  Option.bind (some (a1 + (1 : Int32))) fun x3 =>
  some (.inl (x3, σ2))
noncomputable def fX8_isInLattice_2_L : Int32 × mm → Option ((Int32 × mm) ⊕ (Bool × mm)) := fun z => fX8_isInLattice_2 z.1 z.2
noncomputable def fX8_isInLattice_0 (σ : mm) : Option (Bool × mm) :=
  lp (fX8_isInLattice_2_L) ((0 : Int32), σ)
noncomputable def fX8_isInLattice (σ : mm) : Option (Bool × mm) := fX8_isInLattice_0 σ
set_option maxRecDepth 20000 in
theorem lX8_isInLattice_81 (a1 : Int32) (a2 : Int64) (a4 : Int32) (σ τ : mm) {r : Option mv} {M' : mm × mm} {v9 : (Int32 × mm) ⊕ ((Int32 × mm) ⊕ (Bool × mm))} (h : fX8_isInLattice_81 a1 a2 a4 σ = some v9) (hk : (Sum.elim (fun z : Int32 × mm => Vm mX8_isInLattice 0 81 [(0, .inr (.inr (32, 0))), (1, .inl a1), (2, .inr (.inl a2)), (4, .inl z.1)] [] (τ, z.2) r M') (Sum.elim (fun z : Int32 × mm => Vm mX8_isInLattice 0 30 [(0, .inr (.inr (32, 0))), (1, .inl z.1)] [] (τ, z.2) r M') (fun q : Bool × mm => r = some (.inl (bi q.1)) ∧ M' = (τ, q.2)))) v9) : Vm mX8_isInLattice 0 81 [(0, .inr (.inr (32, 0))), (1, .inl a1), (2, .inr (.inl a2)), (4, .inl a4)] [] (τ, σ) r M' := by
  unfold fX8_isInLattice_81 at h
  refine Vm.iload (n := 83) 3 dX8_isInLattice_81 rfl rfl ?_
  refine Vm.aload_n (n := 84) 0 dX8_isInLattice_83 rfl rfl ?_
  refine Vm.gM (n := 87) dX8_isInLattice_84 rfl wf_RX8_13 in_32 rfl (by decide) rfl (by decide) ?_
  refine Vm.icmp_ge (n := 90) 120 dX8_isInLattice_87 rfl rfl (fun c9 => ?_) (fun c9 => ?_)
  · replace h := (if_pos c9).symm.trans h
    replace h := Option.bind_eq_some_iff.mp h
    obtain ⟨x1, e1, h⟩ := h
    replace e1 := Option.some.inj e1
    refine Vm.iinc (n := 123) (v := x1) (lv' := [(1, .inl x1), (0, .inr (.inr (32, 0))), (2, .inr (.inl a2)), (4, .inl a4)]) 1 dX8_isInLattice_120 rfl rfl e1 (Nat.le_of_ble_eq_true rfl) rfl ?_
    refine Vm.goto 30 dX8_isInLattice_123 rfl ?_
    refine Vm.sub (lv' := [(0, .inr (.inr (32, 0))), (1, .inl x1)]) [1, 0] rfl ?_
    obtain rfl := Option.some.inj h
    exact hk
  · replace h := (if_neg c9).symm.trans h
    refine Vm.aload_n (n := 91) 0 dX8_isInLattice_90 rfl rfl ?_
    refine Vm.getR (n := 94) dX8_isInLattice_91 rfl wf_RX8_58 in_32 rfl (by decide) rfl ?_
    refine Vm.iload (n := 96) 3 dX8_isInLattice_94 rfl rfl ?_
    refine Vm.dup2 (n := 97) dX8_isInLattice_96 rfl rfl rfl ?_
    replace h := Option.bind_eq_some_iff.mp h
    obtain ⟨x2, h2, h⟩ := h
    refine Vm.laldm (n := 98) dX8_isInLattice_97 rfl in_65 rfl rfl (by decide) h2 ?_
    refine Vm.lload_n (n := 99) 2 dX8_isInLattice_98 rfl rfl ?_
    refine Vm.aload_n (n := 100) 0 dX8_isInLattice_99 rfl rfl ?_
    refine Vm.getR (n := 103) dX8_isInLattice_100 rfl wf_RX8_55 in_32 rfl (by decide) rfl ?_
    refine Vm.iconst (n := 104) (v := (4 : Int32)) dX8_isInLattice_103 rfl (by decide) ?_
    refine Vm.iload_n (n := 105) 1 dX8_isInLattice_104 rfl rfl ?_
    refine Vm.imul (n := 106) dX8_isInLattice_105 rfl ?_
    refine Vm.iload (n := 108) 3 dX8_isInLattice_106 rfl rfl ?_
    refine Vm.iadd (n := 109) dX8_isInLattice_108 rfl ?_
    replace h := Option.bind_eq_some_iff.mp h
    obtain ⟨x3, h3, h⟩ := h
    refine Vm.ialdm (n := 110) dX8_isInLattice_109 rfl in_63 rfl rfl (by decide) h3 ?_
    refine Vm.i2l (n := 111) dX8_isInLattice_110 rfl ?_
    refine Vm.lmul (n := 112) dX8_isInLattice_111 rfl ?_
    refine Vm.lsub (n := 113) dX8_isInLattice_112 rfl ?_
    replace h := Option.bind_eq_some_iff.mp h
    obtain ⟨σ4, h4, h⟩ := h
    refine Vm.lastm (n := 114) dX8_isInLattice_113 rfl in_65 rfl rfl (by decide) h4 ?_
    replace h := Option.bind_eq_some_iff.mp h
    obtain ⟨x5, e5, h⟩ := h
    replace e5 := Option.some.inj e5
    refine Vm.iinc (n := 117) (v := x5) (lv' := [(4, .inl x5), (0, .inr (.inr (32, 0))), (1, .inl a1), (2, .inr (.inl a2))]) 3 dX8_isInLattice_114 rfl rfl e5 (Nat.le_of_ble_eq_true rfl) rfl ?_
    refine Vm.goto 81 dX8_isInLattice_117 rfl ?_
    refine Vm.sub (lv' := [(0, .inr (.inr (32, 0))), (1, .inl a1), (2, .inr (.inl a2)), (4, .inl x5)]) [1, 2, 3, 0] rfl ?_
    obtain rfl := Option.some.inj h
    exact hk
theorem lX8_isInLattice_81_L (a1 : Int32) (a2 : Int64) (τ : mm) {r : Option mv} {M' : mm × mm} (z : Int32 × mm) (w9 : (Int32 × mm) ⊕ (Bool × mm)) (h : lp (fX8_isInLattice_81_L a1 a2) z = some w9) (hk : (Sum.elim (fun z : Int32 × mm => Vm mX8_isInLattice 0 30 [(0, .inr (.inr (32, 0))), (1, .inl z.1)] [] (τ, z.2) r M') (fun q : Bool × mm => r = some (.inl (bi q.1)) ∧ M' = (τ, q.2))) w9) : Vm mX8_isInLattice 0 81 [(0, .inr (.inr (32, 0))), (1, .inl a1), (2, .inr (.inl a2)), (4, .inl z.1)] [] (τ, z.2) r M' :=
  lp_link (S := Int32 × mm) (R := (Int32 × mm) ⊕ (Bool × mm)) (body := fX8_isInLattice_81_L a1 a2) (A := fun z : Int32 × mm => Vm mX8_isInLattice 0 81 [(0, .inr (.inr (32, 0))), (1, .inl a1), (2, .inr (.inl a2)), (4, .inl z.1)] [] (τ, z.2) r M') (B := fun w : (Int32 × mm) ⊕ (Bool × mm) => (Sum.elim (fun z : Int32 × mm => Vm mX8_isInLattice 0 30 [(0, .inr (.inr (32, 0))), (1, .inl z.1)] [] (τ, z.2) r M') (fun q : Bool × mm => r = some (.inl (bi q.1)) ∧ M' = (τ, q.2))) w) (fun z v hb hv => lX8_isInLattice_81 a1 a2 z.1 z.2 τ hb hv) z w9 h hk
set_option maxRecDepth 20000 in
theorem lX8_isInLattice_30 (a1 : Int32) (σ τ : mm) {r : Option mv} {M' : mm × mm} {v9 : (Int32 × mm) ⊕ (Bool × mm)} (h : fX8_isInLattice_30 a1 σ = some v9) (hk : (Sum.elim (fun z : Int32 × mm => Vm mX8_isInLattice 0 30 [(0, .inr (.inr (32, 0))), (1, .inl z.1)] [] (τ, z.2) r M') (fun q : Bool × mm => r = some (.inl (bi q.1)) ∧ M' = (τ, q.2))) v9) : Vm mX8_isInLattice 0 30 [(0, .inr (.inr (32, 0))), (1, .inl a1)] [] (τ, σ) r M' := by
  unfold fX8_isInLattice_30 at h
  refine Vm.iload_n (n := 31) 1 dX8_isInLattice_30 rfl rfl ?_
  refine Vm.aload_n (n := 32) 0 dX8_isInLattice_31 rfl rfl ?_
  refine Vm.gM (n := 35) dX8_isInLattice_32 rfl wf_RX8_13 in_32 rfl (by decide) rfl (by decide) ?_
  refine Vm.icmp_ge (n := 38) 126 dX8_isInLattice_35 rfl rfl (fun c9 => ?_) (fun c9 => ?_)
  · replace h := (if_pos c9).symm.trans h
    refine Vm.iconst (n := 127) (v := (1 : Int32)) dX8_isInLattice_126 rfl (by decide) ?_
    obtain rfl := Option.some.inj h
    exact Vm.zret (b := true) dX8_isInLattice_127 rfl rfl hk.1 hk.2.symm
  · replace h := (if_neg c9).symm.trans h
    refine Vm.aload_n (n := 39) 0 dX8_isInLattice_38 rfl rfl ?_
    refine Vm.getR (n := 42) dX8_isInLattice_39 rfl wf_RX8_58 in_32 rfl (by decide) rfl ?_
    refine Vm.iload_n (n := 43) 1 dX8_isInLattice_42 rfl rfl ?_
    replace h := Option.bind_eq_some_iff.mp h
    obtain ⟨x1, h1, h⟩ := h
    refine Vm.laldm (n := 44) dX8_isInLattice_43 rfl in_65 rfl rfl (by decide) h1 ?_
    refine Vm.aload_n (n := 45) 0 dX8_isInLattice_44 rfl rfl ?_
    refine Vm.getR (n := 48) dX8_isInLattice_45 rfl wf_RX8_55 in_32 rfl (by decide) rfl ?_
    refine Vm.iconst (n := 49) (v := (5 : Int32)) dX8_isInLattice_48 rfl (by decide) ?_
    refine Vm.iload_n (n := 50) 1 dX8_isInLattice_49 rfl rfl ?_
    refine Vm.imul (n := 51) dX8_isInLattice_50 rfl ?_
    replace h := Option.bind_eq_some_iff.mp h
    obtain ⟨x2, h2, h⟩ := h
    refine Vm.ialdm (n := 52) dX8_isInLattice_51 rfl in_63 rfl rfl (by decide) h2 ?_
    refine Vm.i2l (n := 53) dX8_isInLattice_52 rfl ?_
    replace h := Option.bind_eq_some_iff.mp h
    obtain ⟨x3, h3, h⟩ := h
    refine Vm.lrem (n := 54) dX8_isInLattice_53 rfl h3 ?_
    refine Vm.lconst (n := 55) (v := (0 : Int64)) dX8_isInLattice_54 rfl (by decide) ?_
    refine Vm.lcmp (n := 56) dX8_isInLattice_55 rfl ?_
    refine Vm.if_eq (n := 59) 61 dX8_isInLattice_56 rfl rfl (fun c9 => ?_) (fun c9 => ?_)
    · replace h := (if_pos c9).symm.trans h
      refine Vm.aload_n (n := 62) 0 dX8_isInLattice_61 rfl rfl ?_
      refine Vm.getR (n := 65) dX8_isInLattice_62 rfl wf_RX8_58 in_32 rfl (by decide) rfl ?_
      refine Vm.iload_n (n := 66) 1 dX8_isInLattice_65 rfl rfl ?_
      replace h := Option.bind_eq_some_iff.mp h
      obtain ⟨x4, h4, h⟩ := h
      refine Vm.laldm (n := 67) dX8_isInLattice_66 rfl in_65 rfl rfl (by decide) h4 ?_
      refine Vm.aload_n (n := 68) 0 dX8_isInLattice_67 rfl rfl ?_
      refine Vm.getR (n := 71) dX8_isInLattice_68 rfl wf_RX8_55 in_32 rfl (by decide) rfl ?_
      refine Vm.iconst (n := 72) (v := (5 : Int32)) dX8_isInLattice_71 rfl (by decide) ?_
      refine Vm.iload_n (n := 73) 1 dX8_isInLattice_72 rfl rfl ?_
      refine Vm.imul (n := 74) dX8_isInLattice_73 rfl ?_
      replace h := Option.bind_eq_some_iff.mp h
      obtain ⟨x5, h5, h⟩ := h
      refine Vm.ialdm (n := 75) dX8_isInLattice_74 rfl in_63 rfl rfl (by decide) h5 ?_
      refine Vm.i2l (n := 76) dX8_isInLattice_75 rfl ?_
      replace h := Option.bind_eq_some_iff.mp h
      obtain ⟨x6, h6, h⟩ := h
      refine Vm.ldiv (n := 77) dX8_isInLattice_76 rfl h6 ?_
      refine Vm.lstore_n (n := 78) (lv' := [(2, .inr (.inl x6)), (0, .inr (.inr (32, 0))), (1, .inl a1)]) dX8_isInLattice_77 rfl (Nat.le_of_ble_eq_true rfl) rfl ?_
      refine Vm.iload_n (n := 79) 2 dX8_isInLattice_78 rfl rfl ?_
      refine Vm.istore (n := 81) (lv' := [(4, .inl a1), (2, .inr (.inl x6)), (0, .inr (.inr (32, 0))), (1, .inl a1)]) dX8_isInLattice_79 rfl (Nat.le_of_ble_eq_true rfl) rfl ?_
      refine Vm.sub (lv' := [(0, .inr (.inr (32, 0))), (1, .inl a1), (2, .inr (.inl x6)), (4, .inl a1)]) [2, 3, 1, 0] rfl ?_
      exact lX8_isInLattice_81_L a1 x6 τ (a1, σ) _ h hk
    · replace h := (if_neg c9).symm.trans h
      refine Vm.iconst (n := 60) (v := (0 : Int32)) dX8_isInLattice_59 rfl (by decide) ?_
      obtain rfl := Option.some.inj h
      exact Vm.zret (b := false) dX8_isInLattice_60 rfl rfl hk.1 hk.2.symm
theorem lX8_isInLattice_30_L (τ : mm) {r : Option mv} {M' : mm × mm} (z : Int32 × mm) (w9 : Bool × mm) (h : lp (fX8_isInLattice_30_L) z = some w9) (hk : (fun q : Bool × mm => r = some (.inl (bi q.1)) ∧ M' = (τ, q.2)) w9) : Vm mX8_isInLattice 0 30 [(0, .inr (.inr (32, 0))), (1, .inl z.1)] [] (τ, z.2) r M' :=
  lp_link (S := Int32 × mm) (R := Bool × mm) (body := fX8_isInLattice_30_L) (A := fun z : Int32 × mm => Vm mX8_isInLattice 0 30 [(0, .inr (.inr (32, 0))), (1, .inl z.1)] [] (τ, z.2) r M') (B := fun w : Bool × mm => (fun q : Bool × mm => r = some (.inl (bi q.1)) ∧ M' = (τ, q.2)) w) (fun z v hb hv => lX8_isInLattice_30 z.1 z.2 τ hb hv) z w9 h hk
set_option maxRecDepth 20000 in
theorem lX8_isInLattice_2 (a1 : Int32) (σ τ : mm) {r : Option mv} {M' : mm × mm} {v9 : (Int32 × mm) ⊕ (Bool × mm)} (h : fX8_isInLattice_2 a1 σ = some v9) (hk : (Sum.elim (fun z : Int32 × mm => Vm mX8_isInLattice 0 2 [(0, .inr (.inr (32, 0))), (1, .inl z.1)] [] (τ, z.2) r M') (fun q : Bool × mm => r = some (.inl (bi q.1)) ∧ M' = (τ, q.2))) v9) : Vm mX8_isInLattice 0 2 [(0, .inr (.inr (32, 0))), (1, .inl a1)] [] (τ, σ) r M' := by
  unfold fX8_isInLattice_2 at h
  refine Vm.iload_n (n := 3) 1 dX8_isInLattice_2 rfl rfl ?_
  refine Vm.aload_n (n := 4) 0 dX8_isInLattice_3 rfl rfl ?_
  refine Vm.gM (n := 7) dX8_isInLattice_4 rfl wf_RX8_13 in_32 rfl (by decide) rfl (by decide) ?_
  refine Vm.icmp_ge (n := 10) 28 dX8_isInLattice_7 rfl rfl (fun c9 => ?_) (fun c9 => ?_)
  · replace h := (if_pos c9).symm.trans h
    refine Vm.iconst (n := 29) (v := (0 : Int32)) dX8_isInLattice_28 rfl (by decide) ?_
    refine Vm.istore_n (n := 30) (lv' := [(1, .inl (0 : Int32)), (0, .inr (.inr (32, 0)))]) dX8_isInLattice_29 rfl (Nat.le_of_ble_eq_true rfl) rfl ?_
    refine Vm.sub (lv' := [(0, .inr (.inr (32, 0))), (1, .inl (0 : Int32))]) [1, 0] rfl ?_
    replace h := Option.map_eq_some_iff.mp h
    obtain ⟨w9, h, e8⟩ := h
    subst e8
    exact lX8_isInLattice_30_L τ ((0 : Int32), σ) _ h hk
  · replace h := (if_neg c9).symm.trans h
    refine Vm.aload_n (n := 11) 0 dX8_isInLattice_10 rfl rfl ?_
    refine Vm.getR (n := 14) dX8_isInLattice_11 rfl wf_RX8_58 in_32 rfl (by decide) rfl ?_
    refine Vm.iload_n (n := 15) 1 dX8_isInLattice_14 rfl rfl ?_
    refine Vm.aload_n (n := 16) 0 dX8_isInLattice_15 rfl rfl ?_
    refine Vm.getR (n := 19) dX8_isInLattice_16 rfl wf_RX8_32 in_32 rfl (by decide) rfl ?_
    refine Vm.iload_n (n := 20) 1 dX8_isInLattice_19 rfl rfl ?_
    replace h := Option.bind_eq_some_iff.mp h
    obtain ⟨x1, h1, h⟩ := h
    refine Vm.laldm (n := 21) dX8_isInLattice_20 rfl in_48 rfl rfl (by decide) h1 ?_
    replace h := Option.bind_eq_some_iff.mp h
    obtain ⟨σ2, h2, h⟩ := h
    refine Vm.lastm (n := 22) dX8_isInLattice_21 rfl in_65 rfl rfl (by decide) h2 ?_
    replace h := Option.bind_eq_some_iff.mp h
    obtain ⟨x3, e3, h⟩ := h
    replace e3 := Option.some.inj e3
    refine Vm.iinc (n := 25) (v := x3) (lv' := [(1, .inl x3), (0, .inr (.inr (32, 0)))]) 1 dX8_isInLattice_22 rfl rfl e3 (Nat.le_of_ble_eq_true rfl) rfl ?_
    refine Vm.goto 2 dX8_isInLattice_25 rfl ?_
    refine Vm.sub (lv' := [(0, .inr (.inr (32, 0))), (1, .inl x3)]) [1, 0] rfl ?_
    obtain rfl := Option.some.inj h
    exact hk
theorem lX8_isInLattice_2_L (τ : mm) {r : Option mv} {M' : mm × mm} (z : Int32 × mm) (w9 : Bool × mm) (h : lp (fX8_isInLattice_2_L) z = some w9) (hk : (fun q : Bool × mm => r = some (.inl (bi q.1)) ∧ M' = (τ, q.2)) w9) : Vm mX8_isInLattice 0 2 [(0, .inr (.inr (32, 0))), (1, .inl z.1)] [] (τ, z.2) r M' :=
  lp_link (S := Int32 × mm) (R := Bool × mm) (body := fX8_isInLattice_2_L) (A := fun z : Int32 × mm => Vm mX8_isInLattice 0 2 [(0, .inr (.inr (32, 0))), (1, .inl z.1)] [] (τ, z.2) r M') (B := fun w : Bool × mm => (fun q : Bool × mm => r = some (.inl (bi q.1)) ∧ M' = (τ, q.2)) w) (fun z v hb hv => lX8_isInLattice_2 z.1 z.2 τ hb hv) z w9 h hk
set_option maxRecDepth 20000 in
theorem lX8_isInLattice_0 (σ τ : mm) {r : Option mv} {M' : mm × mm} {v9 : Bool × mm} (h : fX8_isInLattice_0 σ = some v9) (hk : (fun q : Bool × mm => r = some (.inl (bi q.1)) ∧ M' = (τ, q.2)) v9) : Vm mX8_isInLattice 0 0 [(0, .inr (.inr (32, 0)))] [] (τ, σ) r M' := by
  unfold fX8_isInLattice_0 at h
  refine Vm.iconst (n := 1) (v := (0 : Int32)) dX8_isInLattice_0 rfl (by decide) ?_
  refine Vm.istore_n (n := 2) (lv' := [(1, .inl (0 : Int32)), (0, .inr (.inr (32, 0)))]) dX8_isInLattice_1 rfl (Nat.le_of_ble_eq_true rfl) rfl ?_
  refine Vm.sub (lv' := [(0, .inr (.inr (32, 0))), (1, .inl (0 : Int32))]) [1, 0] rfl ?_
  exact lX8_isInLattice_2_L τ ((0 : Int32), σ) _ h hk
theorem kX8_isInLattice (σ τ : mm) {q : Bool × mm} (h : fX8_isInLattice σ = some q) : Cx mX8_isInLattice 0 [.inr (.inr (32, 0))] (τ, σ) (some (.inl (bi q.1))) (τ, q.2) :=
  Cx.of (lv := [(0, .inr (.inr (32, 0)))]) (by decide) (fun ad => Nat.le_of_ble_eq_true rfl) (fun ad => rfl) (lX8_isInLattice_0 σ τ h ⟨rfl, rfl⟩)
-- ThinBodiesModel shortSquares ()I
noncomputable def fX8_shortSquares_157 (a1 : Int32) (a2 : Int32) (a3 : Int32) (σ : mm) : Option ((Int32 × Int32 × mm) ⊕ (Int32 × mm)) :=
  Option.bind (some (a3 + (1 : Int32))) fun x1 =>
  some (.inl (a1, x1, σ))
noncomputable def fX8_shortSquares_127 (a1 : Int32) (a2 : Int32) (a3 : Int32) (a6 : Int32) (σ : mm) : Option ((Int32 × mm) ⊕ ((Int32 × Int32 × mm) ⊕ (Int32 × mm))) :=
  if (σ.1 32 0 1) ≤ a6 then
  Option.map Sum.inr (fX8_shortSquares_157 a1 a2 a3 σ)
  else
  Option.bind (rdL σ 48 0 4 a6) fun x1 =>
  Option.bind (wrI σ 66 0 4 a6 x1.toInt32) fun σ2 =>
  Option.bind (some (a6 + (1 : Int32))) fun x3 =>
  some (.inl (x3, σ2))
noncomputable def fX8_shortSquares_127_L (a1 : Int32) (a2 : Int32) (a3 : Int32) : Int32 × mm → Option ((Int32 × mm) ⊕ ((Int32 × Int32 × mm) ⊕ (Int32 × mm))) := fun z => fX8_shortSquares_127 a1 a2 a3 z.1 z.2
noncomputable def fX8_shortSquares_48 (a1 : Int32) (a2 : Int32) (a3 : Int32) (a4 : Int32) (a5 : Int32) (a6 : Int32) (σ : mm) : Option ((Int32 × Int32 × Int32 × mm) ⊕ ((Int32 × Int32 × mm) ⊕ (Int32 × mm))) :=
  if a6 < (0 : Int32) then
  if a5 ≤ (0 : Int32) then
  Option.map Sum.inr (fX8_shortSquares_157 a1 a2 a3 σ)
  else
  if a1 ≤ a5 then
  Option.map Sum.inr (fX8_shortSquares_157 a1 a2 a3 σ)
  else
  Option.bind (fX8_isInLattice σ) fun q1 =>
  if (bi q1.1) = (0 : Int32) then
  Option.map Sum.inr (fX8_shortSquares_157 a1 a2 a3 q1.2)
  else
  Option.map Sum.inr (lp (fX8_shortSquares_127_L a5 a2 a3) ((0 : Int32), q1.2))
  else
  Option.bind (rmI a4 (17 : Int32)) fun x2 =>
  Option.bind (wrL σ 48 0 4 a6 (((8 : Int32) - x2).toInt64)) fun σ3 =>
  Option.bind (dvI a4 (17 : Int32)) fun x4 =>
  Option.bind (rdL σ3 48 0 4 a6) fun x5 =>
  Option.bind (rdL σ3 48 0 4 a6) fun x6 =>
  Option.bind (some (a5 + ((x5 * x6).toInt32))) fun x7 =>
  Option.bind (some (a6 + (-1 : Int32))) fun x8 =>
  some (.inl (x4, x7, x8, σ3))
noncomputable def fX8_shortSquares_48_L (a1 : Int32) (a2 : Int32) (a3 : Int32) : Int32 × Int32 × Int32 × mm → Option ((Int32 × Int32 × Int32 × mm) ⊕ ((Int32 × Int32 × mm) ⊕ (Int32 × mm))) := fun z => fX8_shortSquares_48 a1 a2 a3 z.1 z.2.1 z.2.2.1 z.2.2.2
noncomputable def fX8_shortSquares_29 (a1 : Int32) (a2 : Int32) (a3 : Int32) (σ : mm) : Option ((Int32 × Int32 × mm) ⊕ (Int32 × mm)) :=
  if a2 ≤ a3 then
  some (.inr ((a1, σ)))
  else
  Option.bind (some ((σ.1 32 0 1) - (1 : Int32))) fun x1 =>
  lp (fX8_shortSquares_48_L a1 a2 a3) (a3, (0 : Int32), x1, σ)
noncomputable def fX8_shortSquares_29_L (a2 : Int32) : Int32 × Int32 × mm → Option ((Int32 × Int32 × mm) ⊕ (Int32 × mm)) := fun z => fX8_shortSquares_29 z.1 a2 z.2.1 z.2.2
noncomputable def fX8_shortSquares_8 (a1 : Int32) (a2 : Int32) (a3 : Int32) (σ : mm) : Option ((Int32 × Int32) ⊕ (Int32 × mm)) :=
  if (σ.1 32 0 1) ≤ a3 then
  Option.map Sum.inr (lp (fX8_shortSquares_29_L a2) (a1, (0 : Int32), σ))
  else
  Option.bind (some (a2 * (17 : Int32))) fun x1 =>
  Option.bind (some (a3 + (1 : Int32))) fun x2 =>
  some (.inl (x1, x2))
noncomputable def fX8_shortSquares_8_L (a1 : Int32) (σ : mm) : Int32 × Int32 → Option ((Int32 × Int32) ⊕ (Int32 × mm)) := fun z => fX8_shortSquares_8 a1 z.1 z.2 σ
noncomputable def fX8_shortSquares_0 (σ : mm) : Option (Int32 × mm) :=
  lp (fX8_shortSquares_8_L (1000 : Int32) σ) ((1 : Int32), (0 : Int32))
noncomputable def fX8_shortSquares (σ : mm) : Option (Int32 × mm) := fX8_shortSquares_0 σ
set_option maxRecDepth 20000 in
theorem lX8_shortSquares_157 (a1 : Int32) (a2 : Int32) (a3 : Int32) (σ τ : mm) {r : Option mv} {M' : mm × mm} {v9 : (Int32 × Int32 × mm) ⊕ (Int32 × mm)} (h : fX8_shortSquares_157 a1 a2 a3 σ = some v9) (hk : (Sum.elim (fun z : Int32 × Int32 × mm => Vm mX8_shortSquares 1 29 [(0, .inr (.inr (32, 0))), (1, .inl z.1), (2, .inl a2), (3, .inl z.2.1)] [] (τ, z.2.2) r M') (fun q : Int32 × mm => r = some (.inl q.1) ∧ M' = (τ, q.2))) v9) : Vm mX8_shortSquares 1 157 [(0, .inr (.inr (32, 0))), (1, .inl a1), (2, .inl a2), (3, .inl a3)] [] (τ, σ) r M' := by
  unfold fX8_shortSquares_157 at h
  replace h := Option.bind_eq_some_iff.mp h
  obtain ⟨x1, e1, h⟩ := h
  replace e1 := Option.some.inj e1
  refine Vm.iinc (n := 160) (v := x1) (lv' := [(3, .inl x1), (0, .inr (.inr (32, 0))), (1, .inl a1), (2, .inl a2)]) 3 dX8_shortSquares_157 rfl rfl e1 (Nat.le_of_ble_eq_true rfl) rfl ?_
  refine Vm.goto 29 dX8_shortSquares_160 rfl ?_
  refine Vm.sub (lv' := [(0, .inr (.inr (32, 0))), (1, .inl a1), (2, .inl a2), (3, .inl x1)]) [1, 2, 3, 0] rfl ?_
  obtain rfl := Option.some.inj h
  exact hk
set_option maxRecDepth 20000 in
theorem lX8_shortSquares_127 (a1 : Int32) (a2 : Int32) (a3 : Int32) (a6 : Int32) (σ τ : mm) {r : Option mv} {M' : mm × mm} {v9 : (Int32 × mm) ⊕ ((Int32 × Int32 × mm) ⊕ (Int32 × mm))} (h : fX8_shortSquares_127 a1 a2 a3 a6 σ = some v9) (hk : (Sum.elim (fun z : Int32 × mm => Vm mX8_shortSquares 1 127 [(0, .inr (.inr (32, 0))), (1, .inl a1), (2, .inl a2), (3, .inl a3), (6, .inl z.1)] [] (τ, z.2) r M') (Sum.elim (fun z : Int32 × Int32 × mm => Vm mX8_shortSquares 1 29 [(0, .inr (.inr (32, 0))), (1, .inl z.1), (2, .inl a2), (3, .inl z.2.1)] [] (τ, z.2.2) r M') (fun q : Int32 × mm => r = some (.inl q.1) ∧ M' = (τ, q.2)))) v9) : Vm mX8_shortSquares 1 127 [(0, .inr (.inr (32, 0))), (1, .inl a1), (2, .inl a2), (3, .inl a3), (6, .inl a6)] [] (τ, σ) r M' := by
  unfold fX8_shortSquares_127 at h
  refine Vm.iload (n := 129) 4 dX8_shortSquares_127 rfl rfl ?_
  refine Vm.aload_n (n := 130) 0 dX8_shortSquares_129 rfl rfl ?_
  refine Vm.gM (n := 133) dX8_shortSquares_130 rfl wf_RX8_13 in_32 rfl (by decide) rfl (by decide) ?_
  refine Vm.icmp_ge (n := 136) 157 dX8_shortSquares_133 rfl rfl (fun c9 => ?_) (fun c9 => ?_)
  · replace h := (if_pos c9).symm.trans h
    refine Vm.sub (lv' := [(0, .inr (.inr (32, 0))), (1, .inl a1), (2, .inl a2), (3, .inl a3)]) [0, 1, 2, 3] rfl ?_
    replace h := Option.map_eq_some_iff.mp h
    obtain ⟨w9, h, e8⟩ := h
    subst e8
    exact lX8_shortSquares_157 a1 a2 a3 σ τ h hk
  · replace h := (if_neg c9).symm.trans h
    refine Vm.aload_n (n := 137) 0 dX8_shortSquares_136 rfl rfl ?_
    refine Vm.getR (n := 140) dX8_shortSquares_137 rfl wf_RX8_61 in_32 rfl (by decide) rfl ?_
    refine Vm.iload (n := 142) 4 dX8_shortSquares_140 rfl rfl ?_
    refine Vm.aload_n (n := 143) 0 dX8_shortSquares_142 rfl rfl ?_
    refine Vm.getR (n := 146) dX8_shortSquares_143 rfl wf_RX8_32 in_32 rfl (by decide) rfl ?_
    refine Vm.iload (n := 148) 4 dX8_shortSquares_146 rfl rfl ?_
    replace h := Option.bind_eq_some_iff.mp h
    obtain ⟨x1, h1, h⟩ := h
    refine Vm.laldm (n := 149) dX8_shortSquares_148 rfl in_48 rfl rfl (by decide) h1 ?_
    refine Vm.l2i (n := 150) dX8_shortSquares_149 rfl ?_
    replace h := Option.bind_eq_some_iff.mp h
    obtain ⟨σ2, h2, h⟩ := h
    refine Vm.iastm (n := 151) dX8_shortSquares_150 rfl in_66 rfl rfl (by decide) h2 ?_
    replace h := Option.bind_eq_some_iff.mp h
    obtain ⟨x3, e3, h⟩ := h
    replace e3 := Option.some.inj e3
    refine Vm.iinc (n := 154) (v := x3) (lv' := [(6, .inl x3), (0, .inr (.inr (32, 0))), (1, .inl a1), (2, .inl a2), (3, .inl a3)]) 4 dX8_shortSquares_151 rfl rfl e3 (Nat.le_of_ble_eq_true rfl) rfl ?_
    refine Vm.goto 127 dX8_shortSquares_154 rfl ?_
    refine Vm.sub (lv' := [(0, .inr (.inr (32, 0))), (1, .inl a1), (2, .inl a2), (3, .inl a3), (6, .inl x3)]) [1, 2, 3, 4, 0] rfl ?_
    obtain rfl := Option.some.inj h
    exact hk
theorem lX8_shortSquares_127_L (a1 : Int32) (a2 : Int32) (a3 : Int32) (τ : mm) {r : Option mv} {M' : mm × mm} (z : Int32 × mm) (w9 : (Int32 × Int32 × mm) ⊕ (Int32 × mm)) (h : lp (fX8_shortSquares_127_L a1 a2 a3) z = some w9) (hk : (Sum.elim (fun z : Int32 × Int32 × mm => Vm mX8_shortSquares 1 29 [(0, .inr (.inr (32, 0))), (1, .inl z.1), (2, .inl a2), (3, .inl z.2.1)] [] (τ, z.2.2) r M') (fun q : Int32 × mm => r = some (.inl q.1) ∧ M' = (τ, q.2))) w9) : Vm mX8_shortSquares 1 127 [(0, .inr (.inr (32, 0))), (1, .inl a1), (2, .inl a2), (3, .inl a3), (6, .inl z.1)] [] (τ, z.2) r M' :=
  lp_link (S := Int32 × mm) (R := (Int32 × Int32 × mm) ⊕ (Int32 × mm)) (body := fX8_shortSquares_127_L a1 a2 a3) (A := fun z : Int32 × mm => Vm mX8_shortSquares 1 127 [(0, .inr (.inr (32, 0))), (1, .inl a1), (2, .inl a2), (3, .inl a3), (6, .inl z.1)] [] (τ, z.2) r M') (B := fun w : (Int32 × Int32 × mm) ⊕ (Int32 × mm) => (Sum.elim (fun z : Int32 × Int32 × mm => Vm mX8_shortSquares 1 29 [(0, .inr (.inr (32, 0))), (1, .inl z.1), (2, .inl a2), (3, .inl z.2.1)] [] (τ, z.2.2) r M') (fun q : Int32 × mm => r = some (.inl q.1) ∧ M' = (τ, q.2))) w) (fun z v hb hv => lX8_shortSquares_127 a1 a2 a3 z.1 z.2 τ hb hv) z w9 h hk
set_option maxRecDepth 20000 in
theorem lX8_shortSquares_48 (a1 : Int32) (a2 : Int32) (a3 : Int32) (a4 : Int32) (a5 : Int32) (a6 : Int32) (σ τ : mm) {r : Option mv} {M' : mm × mm} {v9 : (Int32 × Int32 × Int32 × mm) ⊕ ((Int32 × Int32 × mm) ⊕ (Int32 × mm))} (h : fX8_shortSquares_48 a1 a2 a3 a4 a5 a6 σ = some v9) (hk : (Sum.elim (fun z : Int32 × Int32 × Int32 × mm => Vm mX8_shortSquares 1 48 [(0, .inr (.inr (32, 0))), (1, .inl a1), (2, .inl a2), (3, .inl a3), (4, .inl z.1), (5, .inl z.2.1), (6, .inl z.2.2.1)] [] (τ, z.2.2.2) r M') (Sum.elim (fun z : Int32 × Int32 × mm => Vm mX8_shortSquares 1 29 [(0, .inr (.inr (32, 0))), (1, .inl z.1), (2, .inl a2), (3, .inl z.2.1)] [] (τ, z.2.2) r M') (fun q : Int32 × mm => r = some (.inl q.1) ∧ M' = (τ, q.2)))) v9) : Vm mX8_shortSquares 1 48 [(0, .inr (.inr (32, 0))), (1, .inl a1), (2, .inl a2), (3, .inl a3), (4, .inl a4), (5, .inl a5), (6, .inl a6)] [] (τ, σ) r M' := by
  unfold fX8_shortSquares_48 at h
  refine Vm.iload (n := 50) 6 dX8_shortSquares_48 rfl rfl ?_
  refine Vm.if_lt (n := 53) 103 dX8_shortSquares_50 rfl rfl (fun c9 => ?_) (fun c9 => ?_)
  · replace h := (if_pos c9).symm.trans h
    refine Vm.iload (n := 105) 5 dX8_shortSquares_103 rfl rfl ?_
    refine Vm.if_le (n := 108) 157 dX8_shortSquares_105 rfl rfl (fun c9 => ?_) (fun c9 => ?_)
    · replace h := (if_pos c9).symm.trans h
      refine Vm.sub (lv' := [(0, .inr (.inr (32, 0))), (1, .inl a1), (2, .inl a2), (3, .inl a3)]) [0, 1, 2, 3] rfl ?_
      replace h := Option.map_eq_some_iff.mp h
      obtain ⟨w9, h, e8⟩ := h
      subst e8
      exact lX8_shortSquares_157 a1 a2 a3 σ τ h hk
    · replace h := (if_neg c9).symm.trans h
      refine Vm.iload (n := 110) 5 dX8_shortSquares_108 rfl rfl ?_
      refine Vm.iload_n (n := 111) 1 dX8_shortSquares_110 rfl rfl ?_
      refine Vm.icmp_ge (n := 114) 157 dX8_shortSquares_111 rfl rfl (fun c9 => ?_) (fun c9 => ?_)
      · replace h := (if_pos c9).symm.trans h
        refine Vm.sub (lv' := [(0, .inr (.inr (32, 0))), (1, .inl a1), (2, .inl a2), (3, .inl a3)]) [0, 1, 2, 3] rfl ?_
        replace h := Option.map_eq_some_iff.mp h
        obtain ⟨w9, h, e8⟩ := h
        subst e8
        exact lX8_shortSquares_157 a1 a2 a3 σ τ h hk
      · replace h := (if_neg c9).symm.trans h
        refine Vm.aload_n (n := 115) 0 dX8_shortSquares_114 rfl rfl ?_
        replace h := Option.bind_eq_some_iff.mp h
        obtain ⟨q1, h1, h⟩ := h
        refine Vm.callV (Y := mX8_isInLattice) (n := 118) [] dX8_shortSquares_115 rfl wv_RX8_295 omX8_isInLattice rfl in_32 rfl rfl rfl (Nat.le_of_ble_eq_true rfl) (by decide) (kX8_isInLattice σ τ h1) ?_
        refine Vm.if_eq (n := 121) 157 dX8_shortSquares_118 rfl rfl (fun c9 => ?_) (fun c9 => ?_)
        · replace h := (if_pos c9).symm.trans h
          refine Vm.sub (lv' := [(0, .inr (.inr (32, 0))), (1, .inl a1), (2, .inl a2), (3, .inl a3)]) [0, 1, 2, 3] rfl ?_
          replace h := Option.map_eq_some_iff.mp h
          obtain ⟨w9, h, e8⟩ := h
          subst e8
          exact lX8_shortSquares_157 a1 a2 a3 q1.2 τ h hk
        · replace h := (if_neg c9).symm.trans h
          refine Vm.iload (n := 123) 5 dX8_shortSquares_121 rfl rfl ?_
          refine Vm.istore_n (n := 124) (lv' := [(1, .inl a5), (0, .inr (.inr (32, 0))), (2, .inl a2), (3, .inl a3), (4, .inl a4), (5, .inl a5), (6, .inl a6)]) dX8_shortSquares_123 rfl (Nat.le_of_ble_eq_true rfl) rfl ?_
          refine Vm.iconst (n := 125) (v := (0 : Int32)) dX8_shortSquares_124 rfl (by decide) ?_
          refine Vm.istore (n := 127) (lv' := [(6, .inl (0 : Int32)), (1, .inl a5), (0, .inr (.inr (32, 0))), (2, .inl a2), (3, .inl a3), (4, .inl a4), (5, .inl a5)]) dX8_shortSquares_125 rfl (Nat.le_of_ble_eq_true rfl) rfl ?_
          refine Vm.sub (lv' := [(0, .inr (.inr (32, 0))), (1, .inl a5), (2, .inl a2), (3, .inl a3), (6, .inl (0 : Int32))]) [2, 1, 3, 4, 0] rfl ?_
          replace h := Option.map_eq_some_iff.mp h
          obtain ⟨w9, h, e8⟩ := h
          subst e8
          exact lX8_shortSquares_127_L a5 a2 a3 τ ((0 : Int32), q1.2) _ h hk
  · replace h := (if_neg c9).symm.trans h
    refine Vm.aload_n (n := 54) 0 dX8_shortSquares_53 rfl rfl ?_
    refine Vm.getR (n := 57) dX8_shortSquares_54 rfl wf_RX8_32 in_32 rfl (by decide) rfl ?_
    refine Vm.iload (n := 59) 6 dX8_shortSquares_57 rfl rfl ?_
    refine Vm.bipush (n := 61) (v := (8 : Int32)) dX8_shortSquares_59 rfl (by decide) ?_
    refine Vm.iload (n := 63) 4 dX8_shortSquares_61 rfl rfl ?_
    refine Vm.bipush (n := 65) (v := (17 : Int32)) dX8_shortSquares_63 rfl (by decide) ?_
    replace h := Option.bind_eq_some_iff.mp h
    obtain ⟨x2, h2, h⟩ := h
    refine Vm.irem (n := 66) dX8_shortSquares_65 rfl h2 ?_
    refine Vm.isub (n := 67) dX8_shortSquares_66 rfl ?_
    refine Vm.i2l (n := 68) dX8_shortSquares_67 rfl ?_
    replace h := Option.bind_eq_some_iff.mp h
    obtain ⟨σ3, h3, h⟩ := h
    refine Vm.lastm (n := 69) dX8_shortSquares_68 rfl in_48 rfl rfl (by decide) h3 ?_
    refine Vm.iload (n := 71) 4 dX8_shortSquares_69 rfl rfl ?_
    refine Vm.bipush (n := 73) (v := (17 : Int32)) dX8_shortSquares_71 rfl (by decide) ?_
    replace h := Option.bind_eq_some_iff.mp h
    obtain ⟨x4, h4, h⟩ := h
    refine Vm.idiv (n := 74) dX8_shortSquares_73 rfl h4 ?_
    refine Vm.istore (n := 76) (lv' := [(4, .inl x4), (0, .inr (.inr (32, 0))), (1, .inl a1), (2, .inl a2), (3, .inl a3), (5, .inl a5), (6, .inl a6)]) dX8_shortSquares_74 rfl (Nat.le_of_ble_eq_true rfl) rfl ?_
    refine Vm.iload (n := 78) 5 dX8_shortSquares_76 rfl rfl ?_
    refine Vm.aload_n (n := 79) 1 dX8_shortSquares_78 rfl rfl ?_
    refine Vm.getR (n := 82) dX8_shortSquares_79 rfl wf_RX8_32 in_32 rfl (by decide) rfl ?_
    refine Vm.iload (n := 84) 6 dX8_shortSquares_82 rfl rfl ?_
    replace h := Option.bind_eq_some_iff.mp h
    obtain ⟨x5, h5, h⟩ := h
    refine Vm.laldm (n := 85) dX8_shortSquares_84 rfl in_48 rfl rfl (by decide) h5 ?_
    refine Vm.aload_n (n := 86) 1 dX8_shortSquares_85 rfl rfl ?_
    refine Vm.getR (n := 89) dX8_shortSquares_86 rfl wf_RX8_32 in_32 rfl (by decide) rfl ?_
    refine Vm.iload (n := 91) 6 dX8_shortSquares_89 rfl rfl ?_
    replace h := Option.bind_eq_some_iff.mp h
    obtain ⟨x6, h6, h⟩ := h
    refine Vm.laldm (n := 92) dX8_shortSquares_91 rfl in_48 rfl rfl (by decide) h6 ?_
    refine Vm.lmul (n := 93) dX8_shortSquares_92 rfl ?_
    refine Vm.l2i (n := 94) dX8_shortSquares_93 rfl ?_
    refine Vm.iadd (n := 95) dX8_shortSquares_94 rfl ?_
    replace h := Option.bind_eq_some_iff.mp h
    obtain ⟨x7, e7, h⟩ := h
    replace e7 := Option.some.inj e7
    refine Vm.top e7 ?_
    refine Vm.istore (n := 97) (lv' := [(5, .inl x7), (4, .inl x4), (0, .inr (.inr (32, 0))), (1, .inl a1), (2, .inl a2), (3, .inl a3), (6, .inl a6)]) dX8_shortSquares_95 rfl (Nat.le_of_ble_eq_true rfl) rfl ?_
    replace h := Option.bind_eq_some_iff.mp h
    obtain ⟨x8, e8, h⟩ := h
    replace e8 := Option.some.inj e8
    refine Vm.iinc (n := 100) (v := x8) (lv' := [(6, .inl x8), (5, .inl x7), (4, .inl x4), (0, .inr (.inr (32, 0))), (1, .inl a1), (2, .inl a2), (3, .inl a3)]) 6 dX8_shortSquares_97 rfl rfl e8 (Nat.le_of_ble_eq_true rfl) rfl ?_
    refine Vm.goto 48 dX8_shortSquares_100 rfl ?_
    refine Vm.sub (lv' := [(0, .inr (.inr (32, 0))), (1, .inl a1), (2, .inl a2), (3, .inl a3), (4, .inl x4), (5, .inl x7), (6, .inl x8)]) [3, 4, 5, 6, 2, 1, 0] rfl ?_
    obtain rfl := Option.some.inj h
    exact hk
theorem lX8_shortSquares_48_L (a1 : Int32) (a2 : Int32) (a3 : Int32) (τ : mm) {r : Option mv} {M' : mm × mm} (z : Int32 × Int32 × Int32 × mm) (w9 : (Int32 × Int32 × mm) ⊕ (Int32 × mm)) (h : lp (fX8_shortSquares_48_L a1 a2 a3) z = some w9) (hk : (Sum.elim (fun z : Int32 × Int32 × mm => Vm mX8_shortSquares 1 29 [(0, .inr (.inr (32, 0))), (1, .inl z.1), (2, .inl a2), (3, .inl z.2.1)] [] (τ, z.2.2) r M') (fun q : Int32 × mm => r = some (.inl q.1) ∧ M' = (τ, q.2))) w9) : Vm mX8_shortSquares 1 48 [(0, .inr (.inr (32, 0))), (1, .inl a1), (2, .inl a2), (3, .inl a3), (4, .inl z.1), (5, .inl z.2.1), (6, .inl z.2.2.1)] [] (τ, z.2.2.2) r M' :=
  lp_link (S := Int32 × Int32 × Int32 × mm) (R := (Int32 × Int32 × mm) ⊕ (Int32 × mm)) (body := fX8_shortSquares_48_L a1 a2 a3) (A := fun z : Int32 × Int32 × Int32 × mm => Vm mX8_shortSquares 1 48 [(0, .inr (.inr (32, 0))), (1, .inl a1), (2, .inl a2), (3, .inl a3), (4, .inl z.1), (5, .inl z.2.1), (6, .inl z.2.2.1)] [] (τ, z.2.2.2) r M') (B := fun w : (Int32 × Int32 × mm) ⊕ (Int32 × mm) => (Sum.elim (fun z : Int32 × Int32 × mm => Vm mX8_shortSquares 1 29 [(0, .inr (.inr (32, 0))), (1, .inl z.1), (2, .inl a2), (3, .inl z.2.1)] [] (τ, z.2.2) r M') (fun q : Int32 × mm => r = some (.inl q.1) ∧ M' = (τ, q.2))) w) (fun z v hb hv => lX8_shortSquares_48 a1 a2 a3 z.1 z.2.1 z.2.2.1 z.2.2.2 τ hb hv) z w9 h hk
set_option maxRecDepth 20000 in
theorem lX8_shortSquares_29 (a1 : Int32) (a2 : Int32) (a3 : Int32) (σ τ : mm) {r : Option mv} {M' : mm × mm} {v9 : (Int32 × Int32 × mm) ⊕ (Int32 × mm)} (h : fX8_shortSquares_29 a1 a2 a3 σ = some v9) (hk : (Sum.elim (fun z : Int32 × Int32 × mm => Vm mX8_shortSquares 1 29 [(0, .inr (.inr (32, 0))), (1, .inl z.1), (2, .inl a2), (3, .inl z.2.1)] [] (τ, z.2.2) r M') (fun q : Int32 × mm => r = some (.inl q.1) ∧ M' = (τ, q.2))) v9) : Vm mX8_shortSquares 1 29 [(0, .inr (.inr (32, 0))), (1, .inl a1), (2, .inl a2), (3, .inl a3)] [] (τ, σ) r M' := by
  unfold fX8_shortSquares_29 at h
  refine Vm.iload_n (n := 30) 3 dX8_shortSquares_29 rfl rfl ?_
  refine Vm.iload_n (n := 31) 2 dX8_shortSquares_30 rfl rfl ?_
  refine Vm.icmp_ge (n := 34) 163 dX8_shortSquares_31 rfl rfl (fun c9 => ?_) (fun c9 => ?_)
  · replace h := (if_pos c9).symm.trans h
    refine Vm.iload_n (n := 164) 1 dX8_shortSquares_163 rfl rfl ?_
    obtain rfl := Option.some.inj h
    exact Vm.iret dX8_shortSquares_164 rfl hk.1 hk.2.symm
  · replace h := (if_neg c9).symm.trans h
    refine Vm.iload_n (n := 35) 3 dX8_shortSquares_34 rfl rfl ?_
    refine Vm.istore (n := 37) (lv' := [(4, .inl a3), (0, .inr (.inr (32, 0))), (1, .inl a1), (2, .inl a2), (3, .inl a3)]) dX8_shortSquares_35 rfl (Nat.le_of_ble_eq_true rfl) rfl ?_
    refine Vm.iconst (n := 38) (v := (0 : Int32)) dX8_shortSquares_37 rfl (by decide) ?_
    refine Vm.istore (n := 40) (lv' := [(5, .inl (0 : Int32)), (4, .inl a3), (0, .inr (.inr (32, 0))), (1, .inl a1), (2, .inl a2), (3, .inl a3)]) dX8_shortSquares_38 rfl (Nat.le_of_ble_eq_true rfl) rfl ?_
    refine Vm.aload_n (n := 41) 2 dX8_shortSquares_40 rfl rfl ?_
    refine Vm.gM (n := 44) dX8_shortSquares_41 rfl wf_RX8_13 in_32 rfl (by decide) rfl (by decide) ?_
    refine Vm.iconst (n := 45) (v := (1 : Int32)) dX8_shortSquares_44 rfl (by decide) ?_
    refine Vm.isub (n := 46) dX8_shortSquares_45 rfl ?_
    replace h := Option.bind_eq_some_iff.mp h
    obtain ⟨x1, e1, h⟩ := h
    replace e1 := Option.some.inj e1
    refine Vm.top e1 ?_
    refine Vm.istore (n := 48) (lv' := [(6, .inl x1), (5, .inl (0 : Int32)), (4, .inl a3), (0, .inr (.inr (32, 0))), (1, .inl a1), (2, .inl a2), (3, .inl a3)]) dX8_shortSquares_46 rfl (Nat.le_of_ble_eq_true rfl) rfl ?_
    refine Vm.sub (lv' := [(0, .inr (.inr (32, 0))), (1, .inl a1), (2, .inl a2), (3, .inl a3), (4, .inl a3), (5, .inl (0 : Int32)), (6, .inl x1)]) [3, 4, 5, 6, 2, 1, 0] rfl ?_
    exact lX8_shortSquares_48_L a1 a2 a3 τ (a3, (0 : Int32), x1, σ) _ h hk
theorem lX8_shortSquares_29_L (a2 : Int32) (τ : mm) {r : Option mv} {M' : mm × mm} (z : Int32 × Int32 × mm) (w9 : Int32 × mm) (h : lp (fX8_shortSquares_29_L a2) z = some w9) (hk : (fun q : Int32 × mm => r = some (.inl q.1) ∧ M' = (τ, q.2)) w9) : Vm mX8_shortSquares 1 29 [(0, .inr (.inr (32, 0))), (1, .inl z.1), (2, .inl a2), (3, .inl z.2.1)] [] (τ, z.2.2) r M' :=
  lp_link (S := Int32 × Int32 × mm) (R := Int32 × mm) (body := fX8_shortSquares_29_L a2) (A := fun z : Int32 × Int32 × mm => Vm mX8_shortSquares 1 29 [(0, .inr (.inr (32, 0))), (1, .inl z.1), (2, .inl a2), (3, .inl z.2.1)] [] (τ, z.2.2) r M') (B := fun w : Int32 × mm => (fun q : Int32 × mm => r = some (.inl q.1) ∧ M' = (τ, q.2)) w) (fun z v hb hv => lX8_shortSquares_29 z.1 a2 z.2.1 z.2.2 τ hb hv) z w9 h hk
set_option maxRecDepth 20000 in
theorem lX8_shortSquares_8 (a1 : Int32) (a2 : Int32) (a3 : Int32) (σ τ : mm) {r : Option mv} {M' : mm × mm} {v9 : (Int32 × Int32) ⊕ (Int32 × mm)} (h : fX8_shortSquares_8 a1 a2 a3 σ = some v9) (hk : (Sum.elim (fun z : Int32 × Int32 => Vm mX8_shortSquares 1 8 [(0, .inr (.inr (32, 0))), (1, .inl a1), (2, .inl z.1), (3, .inl z.2)] [] (τ, σ) r M') (fun q : Int32 × mm => r = some (.inl q.1) ∧ M' = (τ, q.2))) v9) : Vm mX8_shortSquares 1 8 [(0, .inr (.inr (32, 0))), (1, .inl a1), (2, .inl a2), (3, .inl a3)] [] (τ, σ) r M' := by
  unfold fX8_shortSquares_8 at h
  refine Vm.iload_n (n := 9) 3 dX8_shortSquares_8 rfl rfl ?_
  refine Vm.aload_n (n := 10) 0 dX8_shortSquares_9 rfl rfl ?_
  refine Vm.gM (n := 13) dX8_shortSquares_10 rfl wf_RX8_13 in_32 rfl (by decide) rfl (by decide) ?_
  refine Vm.icmp_ge (n := 16) 27 dX8_shortSquares_13 rfl rfl (fun c9 => ?_) (fun c9 => ?_)
  · replace h := (if_pos c9).symm.trans h
    refine Vm.iconst (n := 28) (v := (0 : Int32)) dX8_shortSquares_27 rfl (by decide) ?_
    refine Vm.istore_n (n := 29) (lv' := [(3, .inl (0 : Int32)), (0, .inr (.inr (32, 0))), (1, .inl a1), (2, .inl a2)]) dX8_shortSquares_28 rfl (Nat.le_of_ble_eq_true rfl) rfl ?_
    refine Vm.sub (lv' := [(0, .inr (.inr (32, 0))), (1, .inl a1), (2, .inl a2), (3, .inl (0 : Int32))]) [1, 2, 3, 0] rfl ?_
    replace h := Option.map_eq_some_iff.mp h
    obtain ⟨w9, h, e8⟩ := h
    subst e8
    exact lX8_shortSquares_29_L a2 τ (a1, (0 : Int32), σ) _ h hk
  · replace h := (if_neg c9).symm.trans h
    refine Vm.iload_n (n := 17) 2 dX8_shortSquares_16 rfl rfl ?_
    refine Vm.bipush (n := 19) (v := (17 : Int32)) dX8_shortSquares_17 rfl (by decide) ?_
    refine Vm.imul (n := 20) dX8_shortSquares_19 rfl ?_
    replace h := Option.bind_eq_some_iff.mp h
    obtain ⟨x1, e1, h⟩ := h
    replace e1 := Option.some.inj e1
    refine Vm.top e1 ?_
    refine Vm.istore_n (n := 21) (lv' := [(2, .inl x1), (0, .inr (.inr (32, 0))), (1, .inl a1), (3, .inl a3)]) dX8_shortSquares_20 rfl (Nat.le_of_ble_eq_true rfl) rfl ?_
    replace h := Option.bind_eq_some_iff.mp h
    obtain ⟨x2, e2, h⟩ := h
    replace e2 := Option.some.inj e2
    refine Vm.iinc (n := 24) (v := x2) (lv' := [(3, .inl x2), (2, .inl x1), (0, .inr (.inr (32, 0))), (1, .inl a1)]) 3 dX8_shortSquares_21 rfl rfl e2 (Nat.le_of_ble_eq_true rfl) rfl ?_
    refine Vm.goto 8 dX8_shortSquares_24 rfl ?_
    refine Vm.sub (lv' := [(0, .inr (.inr (32, 0))), (1, .inl a1), (2, .inl x1), (3, .inl x2)]) [2, 3, 1, 0] rfl ?_
    obtain rfl := Option.some.inj h
    exact hk
theorem lX8_shortSquares_8_L (a1 : Int32) (σ τ : mm) {r : Option mv} {M' : mm × mm} (z : Int32 × Int32) (w9 : Int32 × mm) (h : lp (fX8_shortSquares_8_L a1 σ) z = some w9) (hk : (fun q : Int32 × mm => r = some (.inl q.1) ∧ M' = (τ, q.2)) w9) : Vm mX8_shortSquares 1 8 [(0, .inr (.inr (32, 0))), (1, .inl a1), (2, .inl z.1), (3, .inl z.2)] [] (τ, σ) r M' :=
  lp_link (S := Int32 × Int32) (R := Int32 × mm) (body := fX8_shortSquares_8_L a1 σ) (A := fun z : Int32 × Int32 => Vm mX8_shortSquares 1 8 [(0, .inr (.inr (32, 0))), (1, .inl a1), (2, .inl z.1), (3, .inl z.2)] [] (τ, σ) r M') (B := fun w : Int32 × mm => (fun q : Int32 × mm => r = some (.inl q.1) ∧ M' = (τ, q.2)) w) (fun z v hb hv => lX8_shortSquares_8 a1 z.1 z.2 σ τ hb hv) z w9 h hk
set_option maxRecDepth 20000 in
theorem lX8_shortSquares_0 (σ τ : mm) {r : Option mv} {M' : mm × mm} {v9 : Int32 × mm} (h : fX8_shortSquares_0 σ = some v9) (hk : (fun q : Int32 × mm => r = some (.inl q.1) ∧ M' = (τ, q.2)) v9) : Vm mX8_shortSquares 1 0 [(0, .inr (.inr (32, 0)))] [] (τ, σ) r M' := by
  unfold fX8_shortSquares_0 at h
  refine Vm.sipush (n := 3) (v := (1000 : Int32)) dX8_shortSquares_0 rfl (by decide) ?_
  refine Vm.istore_n (n := 4) (lv' := [(1, .inl (1000 : Int32)), (0, .inr (.inr (32, 0)))]) dX8_shortSquares_3 rfl (Nat.le_of_ble_eq_true rfl) rfl ?_
  refine Vm.iconst (n := 5) (v := (1 : Int32)) dX8_shortSquares_4 rfl (by decide) ?_
  refine Vm.istore_n (n := 6) (lv' := [(2, .inl (1 : Int32)), (1, .inl (1000 : Int32)), (0, .inr (.inr (32, 0)))]) dX8_shortSquares_5 rfl (Nat.le_of_ble_eq_true rfl) rfl ?_
  refine Vm.iconst (n := 7) (v := (0 : Int32)) dX8_shortSquares_6 rfl (by decide) ?_
  refine Vm.istore_n (n := 8) (lv' := [(3, .inl (0 : Int32)), (2, .inl (1 : Int32)), (1, .inl (1000 : Int32)), (0, .inr (.inr (32, 0)))]) dX8_shortSquares_7 rfl (Nat.le_of_ble_eq_true rfl) rfl ?_
  refine Vm.sub (lv' := [(0, .inr (.inr (32, 0))), (1, .inl (1000 : Int32)), (2, .inl (1 : Int32)), (3, .inl (0 : Int32))]) [3, 2, 1, 0] rfl ?_
  exact lX8_shortSquares_8_L (1000 : Int32) σ τ ((1 : Int32), (0 : Int32)) _ h hk
theorem kX8_shortSquares (σ τ : mm) {q : Int32 × mm} (h : fX8_shortSquares σ = some q) : Cx mX8_shortSquares 1 [.inr (.inr (32, 0))] (τ, σ) (some (.inl q.1)) (τ, q.2) :=
  Cx.of (lv := [(0, .inr (.inr (32, 0)))]) (by decide) (fun ad => Nat.le_of_ble_eq_true rfl) (fun ad => rfl) (lX8_shortSquares_0 σ τ h ⟨rfl, rfl⟩)
-- ThinBodiesModel shortest (I)I
noncomputable def fX8_shortest_20 (a1 : Int32) (σ : mm) : Option (Int32 × mm) :=
  Option.bind (fX8_forms σ) fun q1 =>
  if q1.1 = (0 : Int32) then
  Option.bind (fX8_finds (-1000000004 : Int32) q1.2) fun q4 =>
  some ((q4.1, q4.2))
  else
  Option.bind (fX8_shortSquares q1.2) fun q2 =>
  if (0 : Int32) ≤ a1 then
  Option.bind (rdI q2.2 66 0 4 a1) fun x3 =>
  some ((x3, q2.2))
  else
  some ((q2.1, q2.2))
noncomputable def fX8_shortest_0 (a1 : Int32) (σ : mm) : Option (Int32 × mm) :=
  if a1 = (-1 : Int32) then
  fX8_shortest_20 a1 σ
  else
  if (bi (fX8_isLetter a1 σ)) = (0 : Int32) then
  Option.bind (fX8_finds (-1000000001 : Int32) σ) fun q1 =>
  some ((q1.1, q1.2))
  else
  fX8_shortest_20 a1 σ
noncomputable def fX8_shortest (a1 : Int32) (σ : mm) : Option (Int32 × mm) := fX8_shortest_0 a1 σ
set_option maxRecDepth 20000 in
theorem lX8_shortest_20 (a1 : Int32) (σ τ : mm) {r : Option mv} {M' : mm × mm} {v9 : Int32 × mm} (h : fX8_shortest_20 a1 σ = some v9) (hk : (fun q : Int32 × mm => r = some (.inl q.1) ∧ M' = (τ, q.2)) v9) : Vm mX8_shortest 3 20 [(0, .inr (.inr (32, 0))), (1, .inl a1)] [] (τ, σ) r M' := by
  unfold fX8_shortest_20 at h
  refine Vm.aload_n (n := 21) 0 dX8_shortest_20 rfl rfl ?_
  replace h := Option.bind_eq_some_iff.mp h
  obtain ⟨q1, h1, h⟩ := h
  refine Vm.callV (Y := mX8_forms) (n := 24) [] dX8_shortest_21 rfl wv_RX8_292 omX8_forms rfl in_32 rfl rfl rfl (Nat.le_of_ble_eq_true rfl) (by decide) (kX8_forms σ τ h1) ?_
  refine Vm.if_ne (n := 27) 34 dX8_shortest_24 rfl rfl (fun c9 => ?_) (fun c9 => ?_)
  · replace h := (if_neg c9).symm.trans h
    refine Vm.aload_n (n := 35) 0 dX8_shortest_34 rfl rfl ?_
    replace h := Option.bind_eq_some_iff.mp h
    obtain ⟨q2, h2, h⟩ := h
    refine Vm.callV (Y := mX8_shortSquares) (n := 38) [] dX8_shortest_35 rfl wv_RX8_298 omX8_shortSquares rfl in_32 rfl rfl rfl (Nat.le_of_ble_eq_true rfl) (by decide) (kX8_shortSquares q1.2 τ h2) ?_
    refine Vm.istore_n (n := 39) (lv' := [(2, .inl q2.1), (0, .inr (.inr (32, 0))), (1, .inl a1)]) dX8_shortest_38 rfl (Nat.le_of_ble_eq_true rfl) rfl ?_
    refine Vm.iload_n (n := 40) 2 dX8_shortest_39 rfl rfl ?_
    refine Vm.if_ge (n := 43) 47 dX8_shortest_40 rfl rfl (fun c9 => ?_) (fun c9 => ?_)
    · replace h := (if_pos c9).symm.trans h
      refine Vm.aload_n (n := 48) 1 dX8_shortest_47 rfl rfl ?_
      refine Vm.getR (n := 51) dX8_shortest_48 rfl wf_RX8_61 in_32 rfl (by decide) rfl ?_
      refine Vm.iload_n (n := 52) 2 dX8_shortest_51 rfl rfl ?_
      replace h := Option.bind_eq_some_iff.mp h
      obtain ⟨x3, h3, h⟩ := h
      refine Vm.ialdm (n := 53) dX8_shortest_52 rfl in_66 rfl rfl (by decide) h3 ?_
      obtain rfl := Option.some.inj h
      exact Vm.iret dX8_shortest_53 rfl hk.1 hk.2.symm
    · replace h := (if_neg c9).symm.trans h
      refine Vm.iload_n (n := 44) 0 dX8_shortest_43 rfl rfl ?_
      refine Vm.goto 53 dX8_shortest_44 rfl ?_
      obtain rfl := Option.some.inj h
      exact Vm.iret dX8_shortest_53 rfl hk.1 hk.2.symm
  · replace h := (if_pos c9).symm.trans h
    refine Vm.aload_n (n := 28) 0 dX8_shortest_27 rfl rfl ?_
    refine Vm.ldc (n := 30) dX8_shortest_28 rfl wc_RX8_167 ?_
    replace h := Option.bind_eq_some_iff.mp h
    obtain ⟨q4, h4, h⟩ := h
    refine Vm.callV (Y := mX8_finds) (n := 33) [.inl (-1000000004 : Int32)] dX8_shortest_30 rfl wv_RX8_102 omX8_finds rfl in_32 rfl rfl rfl (Nat.le_of_ble_eq_true rfl) (by decide) (kX8_finds (-1000000004 : Int32) q1.2 τ h4) ?_
    obtain rfl := Option.some.inj h
    exact Vm.iret dX8_shortest_33 rfl hk.1 hk.2.symm
set_option maxRecDepth 20000 in
theorem lX8_shortest_0 (a1 : Int32) (σ τ : mm) {r : Option mv} {M' : mm × mm} {v9 : Int32 × mm} (h : fX8_shortest_0 a1 σ = some v9) (hk : (fun q : Int32 × mm => r = some (.inl q.1) ∧ M' = (τ, q.2)) v9) : Vm mX8_shortest 3 0 [(0, .inr (.inr (32, 0))), (1, .inl a1)] [] (τ, σ) r M' := by
  unfold fX8_shortest_0 at h
  refine Vm.iload_n (n := 1) 1 dX8_shortest_0 rfl rfl ?_
  refine Vm.iconst (n := 2) (v := (-1 : Int32)) dX8_shortest_1 rfl (by decide) ?_
  refine Vm.icmp_eq (n := 5) 20 dX8_shortest_2 rfl rfl (fun c9 => ?_) (fun c9 => ?_)
  · replace h := (if_pos c9).symm.trans h
    exact lX8_shortest_20 a1 σ τ h hk
  · replace h := (if_neg c9).symm.trans h
    refine Vm.aload_n (n := 6) 0 dX8_shortest_5 rfl rfl ?_
    refine Vm.iload_n (n := 7) 1 dX8_shortest_6 rfl rfl ?_
    refine Vm.callV (Y := mX8_isLetter) (n := 10) [.inl a1] dX8_shortest_7 rfl wv_RX8_115 omX8_isLetter rfl in_32 rfl rfl rfl (Nat.le_of_ble_eq_true rfl) (by decide) (kX8_isLetter a1 σ τ rfl) ?_
    refine Vm.if_ne (n := 13) 20 dX8_shortest_10 rfl rfl (fun c9 => ?_) (fun c9 => ?_)
    · replace h := (if_neg c9).symm.trans h
      exact lX8_shortest_20 a1 σ τ h hk
    · replace h := (if_pos c9).symm.trans h
      refine Vm.aload_n (n := 14) 0 dX8_shortest_13 rfl rfl ?_
      refine Vm.ldc (n := 16) dX8_shortest_14 rfl wc_RX8_92 ?_
      replace h := Option.bind_eq_some_iff.mp h
      obtain ⟨q1, h1, h⟩ := h
      refine Vm.callV (Y := mX8_finds) (n := 19) [.inl (-1000000001 : Int32)] dX8_shortest_16 rfl wv_RX8_102 omX8_finds rfl in_32 rfl rfl rfl (Nat.le_of_ble_eq_true rfl) (by decide) (kX8_finds (-1000000001 : Int32) σ τ h1) ?_
      obtain rfl := Option.some.inj h
      exact Vm.iret dX8_shortest_19 rfl hk.1 hk.2.symm
theorem kX8_shortest (a1 : Int32) (σ τ : mm) {q : Int32 × mm} (h : fX8_shortest a1 σ = some q) : Cx mX8_shortest 3 [.inr (.inr (32, 0)), .inl a1] (τ, σ) (some (.inl q.1)) (τ, q.2) :=
  Cx.of (lv := [(0, .inr (.inr (32, 0))), (1, .inl a1)]) (by decide) (fun ad => Nat.le_of_ble_eq_true rfl) (fun ad => rfl) (lX8_shortest_0 a1 σ τ h ⟨rfl, rfl⟩)
-- ThinBodiesModel common ()I
noncomputable def fX8_common__53 (a2 : Int32) (s0 : Int32) (s1 : Int32) (σ : mm) : Option ((Int32 × Int32 × mm) ⊕ (Int32 × mm)) :=
  Option.bind (some (s0 + s1)) fun x1 =>
  Option.bind (some (a2 + (1 : Int32))) fun x2 =>
  some (.inl (x1, x2, σ))
noncomputable def fX8_common__22 (a1 : Int32) (a2 : Int32) (σ : mm) : Option ((Int32 × Int32 × mm) ⊕ (Int32 × mm)) :=
  if (σ.1 32 0 11) ≤ a2 then
  some (.inr ((a1, σ)))
  else
  Option.bind (rdI σ 50 0 4096 a2) fun x1 =>
  Option.bind (fX8_goesTo x1 σ) fun q2 =>
  Option.bind (fX8_isInLattice q2) fun q3 =>
  if (bi q3.1) = (0 : Int32) then
  fX8_common__53 a2 a1 (0 : Int32) q3.2
  else
  fX8_common__53 a2 a1 (1 : Int32) q3.2
noncomputable def fX8_common__22_L : Int32 × Int32 × mm → Option ((Int32 × Int32 × mm) ⊕ (Int32 × mm)) := fun z => fX8_common__22 z.1 z.2.1 z.2.2
noncomputable def fX8_common__0 (σ : mm) : Option (Int32 × mm) :=
  Option.bind (fX8_forms σ) fun q1 =>
  if q1.1 = (0 : Int32) then
  Option.bind (fX8_finds (-1000000004 : Int32) q1.2) fun q3 =>
  some ((q3.1, q3.2))
  else
  Option.bind (fX8_looks q1.2) fun q2 =>
  lp (fX8_common__22_L) ((0 : Int32), (0 : Int32), q2)
noncomputable def fX8_common_ (σ : mm) : Option (Int32 × mm) := fX8_common__0 σ
set_option maxRecDepth 20000 in
theorem lX8_common__53 (a2 : Int32) (s0 : Int32) (s1 : Int32) (σ τ : mm) {r : Option mv} {M' : mm × mm} {v9 : (Int32 × Int32 × mm) ⊕ (Int32 × mm)} (h : fX8_common__53 a2 s0 s1 σ = some v9) (hk : (Sum.elim (fun z : Int32 × Int32 × mm => Vm mX8_common_ 4 22 [(0, .inr (.inr (32, 0))), (1, .inl z.1), (2, .inl z.2.1)] [] (τ, z.2.2) r M') (fun q : Int32 × mm => r = some (.inl q.1) ∧ M' = (τ, q.2))) v9) : Vm mX8_common_ 4 53 [(0, .inr (.inr (32, 0))), (2, .inl a2)] [.inl s1, .inl s0] (τ, σ) r M' := by
  unfold fX8_common__53 at h
  refine Vm.iadd (n := 54) dX8_common__53 rfl ?_
  replace h := Option.bind_eq_some_iff.mp h
  obtain ⟨x1, e1, h⟩ := h
  replace e1 := Option.some.inj e1
  refine Vm.top e1 ?_
  refine Vm.istore_n (n := 55) (lv' := [(1, .inl x1), (0, .inr (.inr (32, 0))), (2, .inl a2)]) dX8_common__54 rfl (Nat.le_of_ble_eq_true rfl) rfl ?_
  replace h := Option.bind_eq_some_iff.mp h
  obtain ⟨x2, e2, h⟩ := h
  replace e2 := Option.some.inj e2
  refine Vm.iinc (n := 58) (v := x2) (lv' := [(2, .inl x2), (1, .inl x1), (0, .inr (.inr (32, 0)))]) 2 dX8_common__55 rfl rfl e2 (Nat.le_of_ble_eq_true rfl) rfl ?_
  refine Vm.goto 22 dX8_common__58 rfl ?_
  refine Vm.sub (lv' := [(0, .inr (.inr (32, 0))), (1, .inl x1), (2, .inl x2)]) [2, 1, 0] rfl ?_
  obtain rfl := Option.some.inj h
  exact hk
set_option maxRecDepth 20000 in
theorem lX8_common__22 (a1 : Int32) (a2 : Int32) (σ τ : mm) {r : Option mv} {M' : mm × mm} {v9 : (Int32 × Int32 × mm) ⊕ (Int32 × mm)} (h : fX8_common__22 a1 a2 σ = some v9) (hk : (Sum.elim (fun z : Int32 × Int32 × mm => Vm mX8_common_ 4 22 [(0, .inr (.inr (32, 0))), (1, .inl z.1), (2, .inl z.2.1)] [] (τ, z.2.2) r M') (fun q : Int32 × mm => r = some (.inl q.1) ∧ M' = (τ, q.2))) v9) : Vm mX8_common_ 4 22 [(0, .inr (.inr (32, 0))), (1, .inl a1), (2, .inl a2)] [] (τ, σ) r M' := by
  unfold fX8_common__22 at h
  refine Vm.iload_n (n := 23) 2 dX8_common__22 rfl rfl ?_
  refine Vm.aload_n (n := 24) 0 dX8_common__23 rfl rfl ?_
  refine Vm.gM (n := 27) dX8_common__24 rfl wf_RX8_176 in_32 rfl (by decide) rfl (by decide) ?_
  refine Vm.icmp_ge (n := 30) 61 dX8_common__27 rfl rfl (fun c9 => ?_) (fun c9 => ?_)
  · replace h := (if_pos c9).symm.trans h
    refine Vm.iload_n (n := 62) 1 dX8_common__61 rfl rfl ?_
    obtain rfl := Option.some.inj h
    exact Vm.iret dX8_common__62 rfl hk.1 hk.2.symm
  · replace h := (if_neg c9).symm.trans h
    refine Vm.aload_n (n := 31) 0 dX8_common__30 rfl rfl ?_
    refine Vm.aload_n (n := 32) 0 dX8_common__31 rfl rfl ?_
    refine Vm.getR (n := 35) dX8_common__32 rfl wf_RX8_39 in_32 rfl (by decide) rfl ?_
    refine Vm.iload_n (n := 36) 2 dX8_common__35 rfl rfl ?_
    replace h := Option.bind_eq_some_iff.mp h
    obtain ⟨x1, h1, h⟩ := h
    refine Vm.ialdm (n := 37) dX8_common__36 rfl in_50 rfl rfl (by decide) h1 ?_
    replace h := Option.bind_eq_some_iff.mp h
    obtain ⟨q2, h2, h⟩ := h
    refine Vm.callVv (Y := mX8_goesTo) (n := 40) [.inl x1] dX8_common__37 rfl wv_RX8_179 omX8_goesTo rfl in_32 rfl rfl rfl (Nat.le_of_ble_eq_true rfl) (by decide) (kX8_goesTo x1 σ τ h2) ?_
    refine Vm.iload_n (n := 41) 1 dX8_common__40 rfl rfl ?_
    refine Vm.aload_n (n := 42) 0 dX8_common__41 rfl rfl ?_
    replace h := Option.bind_eq_some_iff.mp h
    obtain ⟨q3, h3, h⟩ := h
    refine Vm.callV (Y := mX8_isInLattice) (n := 45) [] dX8_common__42 rfl wv_RX8_295 omX8_isInLattice rfl in_32 rfl rfl rfl (Nat.le_of_ble_eq_true rfl) (by decide) (kX8_isInLattice q2 τ h3) ?_
    refine Vm.if_eq (n := 48) 52 dX8_common__45 rfl rfl (fun c9 => ?_) (fun c9 => ?_)
    · replace h := (if_pos c9).symm.trans h
      refine Vm.iconst (n := 53) (v := (0 : Int32)) dX8_common__52 rfl (by decide) ?_
      refine Vm.sub (lv' := [(0, .inr (.inr (32, 0))), (2, .inl a2)]) [0, 2] rfl ?_
      exact lX8_common__53 a2 a1 (0 : Int32) q3.2 τ h hk
    · replace h := (if_neg c9).symm.trans h
      refine Vm.iconst (n := 49) (v := (1 : Int32)) dX8_common__48 rfl (by decide) ?_
      refine Vm.goto 53 dX8_common__49 rfl ?_
      refine Vm.sub (lv' := [(0, .inr (.inr (32, 0))), (2, .inl a2)]) [0, 2] rfl ?_
      exact lX8_common__53 a2 a1 (1 : Int32) q3.2 τ h hk
theorem lX8_common__22_L (τ : mm) {r : Option mv} {M' : mm × mm} (z : Int32 × Int32 × mm) (w9 : Int32 × mm) (h : lp (fX8_common__22_L) z = some w9) (hk : (fun q : Int32 × mm => r = some (.inl q.1) ∧ M' = (τ, q.2)) w9) : Vm mX8_common_ 4 22 [(0, .inr (.inr (32, 0))), (1, .inl z.1), (2, .inl z.2.1)] [] (τ, z.2.2) r M' :=
  lp_link (S := Int32 × Int32 × mm) (R := Int32 × mm) (body := fX8_common__22_L) (A := fun z : Int32 × Int32 × mm => Vm mX8_common_ 4 22 [(0, .inr (.inr (32, 0))), (1, .inl z.1), (2, .inl z.2.1)] [] (τ, z.2.2) r M') (B := fun w : Int32 × mm => (fun q : Int32 × mm => r = some (.inl q.1) ∧ M' = (τ, q.2)) w) (fun z v hb hv => lX8_common__22 z.1 z.2.1 z.2.2 τ hb hv) z w9 h hk
set_option maxRecDepth 20000 in
theorem lX8_common__0 (σ τ : mm) {r : Option mv} {M' : mm × mm} {v9 : Int32 × mm} (h : fX8_common__0 σ = some v9) (hk : (fun q : Int32 × mm => r = some (.inl q.1) ∧ M' = (τ, q.2)) v9) : Vm mX8_common_ 4 0 [(0, .inr (.inr (32, 0)))] [] (τ, σ) r M' := by
  unfold fX8_common__0 at h
  refine Vm.aload_n (n := 1) 0 dX8_common__0 rfl rfl ?_
  replace h := Option.bind_eq_some_iff.mp h
  obtain ⟨q1, h1, h⟩ := h
  refine Vm.callV (Y := mX8_forms) (n := 4) [] dX8_common__1 rfl wv_RX8_292 omX8_forms rfl in_32 rfl rfl rfl (Nat.le_of_ble_eq_true rfl) (by decide) (kX8_forms σ τ h1) ?_
  refine Vm.if_ne (n := 7) 14 dX8_common__4 rfl rfl (fun c9 => ?_) (fun c9 => ?_)
  · replace h := (if_neg c9).symm.trans h
    refine Vm.aload_n (n := 15) 0 dX8_common__14 rfl rfl ?_
    replace h := Option.bind_eq_some_iff.mp h
    obtain ⟨q2, h2, h⟩ := h
    refine Vm.callVv (Y := mX8_looks) (n := 18) [] dX8_common__15 rfl wv_RX8_189 omX8_looks rfl in_32 rfl rfl rfl (Nat.le_of_ble_eq_true rfl) (by decide) (kX8_looks q1.2 τ h2) ?_
    refine Vm.iconst (n := 19) (v := (0 : Int32)) dX8_common__18 rfl (by decide) ?_
    refine Vm.istore_n (n := 20) (lv' := [(1, .inl (0 : Int32)), (0, .inr (.inr (32, 0)))]) dX8_common__19 rfl (Nat.le_of_ble_eq_true rfl) rfl ?_
    refine Vm.iconst (n := 21) (v := (0 : Int32)) dX8_common__20 rfl (by decide) ?_
    refine Vm.istore_n (n := 22) (lv' := [(2, .inl (0 : Int32)), (1, .inl (0 : Int32)), (0, .inr (.inr (32, 0)))]) dX8_common__21 rfl (Nat.le_of_ble_eq_true rfl) rfl ?_
    refine Vm.sub (lv' := [(0, .inr (.inr (32, 0))), (1, .inl (0 : Int32)), (2, .inl (0 : Int32))]) [2, 1, 0] rfl ?_
    exact lX8_common__22_L τ ((0 : Int32), (0 : Int32), q2) _ h hk
  · replace h := (if_pos c9).symm.trans h
    refine Vm.aload_n (n := 8) 0 dX8_common__7 rfl rfl ?_
    refine Vm.ldc (n := 10) dX8_common__8 rfl wc_RX8_167 ?_
    replace h := Option.bind_eq_some_iff.mp h
    obtain ⟨q3, h3, h⟩ := h
    refine Vm.callV (Y := mX8_finds) (n := 13) [.inl (-1000000004 : Int32)] dX8_common__10 rfl wv_RX8_102 omX8_finds rfl in_32 rfl rfl rfl (Nat.le_of_ble_eq_true rfl) (by decide) (kX8_finds (-1000000004 : Int32) q1.2 τ h3) ?_
    obtain rfl := Option.some.inj h
    exact Vm.iret dX8_common__13 rfl hk.1 hk.2.symm
theorem kX8_common_ (σ τ : mm) {q : Int32 × mm} (h : fX8_common_ σ = some q) : Cx mX8_common_ 4 [.inr (.inr (32, 0))] (τ, σ) (some (.inl q.1)) (τ, q.2) :=
  Cx.of (lv := [(0, .inr (.inr (32, 0)))]) (by decide) (fun ad => Nat.le_of_ble_eq_true rfl) (fun ad => rfl) (lX8_common__0 σ τ h ⟨rfl, rfl⟩)
-- ThinBodiesModel lies (I)I
noncomputable def fX8_lies_0 (a1 : Int32) (σ : mm) : Option (Int32 × mm) :=
  Option.bind (fX8_takes a1 σ) fun q1 =>
  if q1.1 = (0 : Int32) then
  Option.bind (fX8_isNear q1.2) fun q2 =>
  if (bi q2) = (0 : Int32) then
  Option.bind (fX8_finds (-1000000005 : Int32) q1.2) fun q6 =>
  some ((q6.1, q6.2))
  else
  Option.bind (fX8_forms q1.2) fun q3 =>
  if q3.1 = (0 : Int32) then
  Option.bind (fX8_finds (-1000000004 : Int32) q3.2) fun q5 =>
  some ((q5.1, q5.2))
  else
  Option.bind (fX8_isInLattice q3.2) fun q4 =>
  if (bi q4.1) = (0 : Int32) then
  some (((0 : Int32), q4.2))
  else
  some (((1 : Int32), q4.2))
  else
  Option.bind (fX8_finds q1.1 q1.2) fun q7 =>
  some ((q7.1, q7.2))
noncomputable def fX8_lies (a1 : Int32) (σ : mm) : Option (Int32 × mm) := fX8_lies_0 a1 σ
set_option maxRecDepth 20000 in
theorem lX8_lies_0 (a1 : Int32) (σ τ : mm) {r : Option mv} {M' : mm × mm} {v9 : Int32 × mm} (h : fX8_lies_0 a1 σ = some v9) (hk : (fun q : Int32 × mm => r = some (.inl q.1) ∧ M' = (τ, q.2)) v9) : Vm mX8_lies 3 0 [(0, .inr (.inr (32, 0))), (1, .inl a1)] [] (τ, σ) r M' := by
  unfold fX8_lies_0 at h
  refine Vm.aload_n (n := 1) 0 dX8_lies_0 rfl rfl ?_
  refine Vm.iload_n (n := 2) 1 dX8_lies_1 rfl rfl ?_
  replace h := Option.bind_eq_some_iff.mp h
  obtain ⟨q1, h1, h⟩ := h
  refine Vm.callV (Y := mX8_takes) (n := 5) [.inl a1] dX8_lies_2 rfl wv_RX8_200 omX8_takes rfl in_32 rfl rfl rfl (Nat.le_of_ble_eq_true rfl) (by decide) (kX8_takes a1 σ τ h1) ?_
  refine Vm.istore_n (n := 6) (lv' := [(2, .inl q1.1), (0, .inr (.inr (32, 0))), (1, .inl a1)]) dX8_lies_5 rfl (Nat.le_of_ble_eq_true rfl) rfl ?_
  refine Vm.iload_n (n := 7) 0 dX8_lies_6 rfl rfl ?_
  refine Vm.if_eq (n := 10) 16 dX8_lies_7 rfl rfl (fun c9 => ?_) (fun c9 => ?_)
  · replace h := (if_pos c9).symm.trans h
    refine Vm.aload_n (n := 17) 1 dX8_lies_16 rfl rfl ?_
    replace h := Option.bind_eq_some_iff.mp h
    obtain ⟨q2, h2, h⟩ := h
    refine Vm.callV (Y := mX8_isNear) (n := 20) [] dX8_lies_17 rfl wv_RX8_203 omX8_isNear rfl in_32 rfl rfl rfl (Nat.le_of_ble_eq_true rfl) (by decide) (kX8_isNear q1.2 τ h2) ?_
    refine Vm.if_ne (n := 23) 30 dX8_lies_20 rfl rfl (fun c9 => ?_) (fun c9 => ?_)
    · replace h := (if_neg c9).symm.trans h
      refine Vm.aload_n (n := 31) 1 dX8_lies_30 rfl rfl ?_
      replace h := Option.bind_eq_some_iff.mp h
      obtain ⟨q3, h3, h⟩ := h
      refine Vm.callV (Y := mX8_forms) (n := 34) [] dX8_lies_31 rfl wv_RX8_292 omX8_forms rfl in_32 rfl rfl rfl (Nat.le_of_ble_eq_true rfl) (by decide) (kX8_forms q1.2 τ h3) ?_
      refine Vm.if_ne (n := 37) 46 dX8_lies_34 rfl rfl (fun c9 => ?_) (fun c9 => ?_)
      · replace h := (if_neg c9).symm.trans h
        refine Vm.aload_n (n := 47) 1 dX8_lies_46 rfl rfl ?_
        replace h := Option.bind_eq_some_iff.mp h
        obtain ⟨q4, h4, h⟩ := h
        refine Vm.callV (Y := mX8_isInLattice) (n := 50) [] dX8_lies_47 rfl wv_RX8_295 omX8_isInLattice rfl in_32 rfl rfl rfl (Nat.le_of_ble_eq_true rfl) (by decide) (kX8_isInLattice q3.2 τ h4) ?_
        refine Vm.if_eq (n := 53) 57 dX8_lies_50 rfl rfl (fun c9 => ?_) (fun c9 => ?_)
        · replace h := (if_pos c9).symm.trans h
          refine Vm.iconst (n := 58) (v := (0 : Int32)) dX8_lies_57 rfl (by decide) ?_
          obtain rfl := Option.some.inj h
          exact Vm.iret dX8_lies_58 rfl hk.1 hk.2.symm
        · replace h := (if_neg c9).symm.trans h
          refine Vm.iconst (n := 54) (v := (1 : Int32)) dX8_lies_53 rfl (by decide) ?_
          refine Vm.goto 58 dX8_lies_54 rfl ?_
          obtain rfl := Option.some.inj h
          exact Vm.iret dX8_lies_58 rfl hk.1 hk.2.symm
      · replace h := (if_pos c9).symm.trans h
        refine Vm.aload_n (n := 38) 1 dX8_lies_37 rfl rfl ?_
        refine Vm.ldc (n := 40) dX8_lies_38 rfl wc_RX8_167 ?_
        replace h := Option.bind_eq_some_iff.mp h
        obtain ⟨q5, h5, h⟩ := h
        refine Vm.callV (Y := mX8_finds) (n := 43) [.inl (-1000000004 : Int32)] dX8_lies_40 rfl wv_RX8_102 omX8_finds rfl in_32 rfl rfl rfl (Nat.le_of_ble_eq_true rfl) (by decide) (kX8_finds (-1000000004 : Int32) q3.2 τ h5) ?_
        refine Vm.goto 58 dX8_lies_43 rfl ?_
        obtain rfl := Option.some.inj h
        exact Vm.iret dX8_lies_58 rfl hk.1 hk.2.symm
    · replace h := (if_pos c9).symm.trans h
      refine Vm.aload_n (n := 24) 1 dX8_lies_23 rfl rfl ?_
      refine Vm.ldc (n := 26) dX8_lies_24 rfl wc_RX8_207 ?_
      replace h := Option.bind_eq_some_iff.mp h
      obtain ⟨q6, h6, h⟩ := h
      refine Vm.callV (Y := mX8_finds) (n := 29) [.inl (-1000000005 : Int32)] dX8_lies_26 rfl wv_RX8_102 omX8_finds rfl in_32 rfl rfl rfl (Nat.le_of_ble_eq_true rfl) (by decide) (kX8_finds (-1000000005 : Int32) q1.2 τ h6) ?_
      obtain rfl := Option.some.inj h
      exact Vm.iret dX8_lies_29 rfl hk.1 hk.2.symm
  · replace h := (if_neg c9).symm.trans h
    refine Vm.aload_n (n := 11) 1 dX8_lies_10 rfl rfl ?_
    refine Vm.iload_n (n := 12) 0 dX8_lies_11 rfl rfl ?_
    replace h := Option.bind_eq_some_iff.mp h
    obtain ⟨q7, h7, h⟩ := h
    refine Vm.callV (Y := mX8_finds) (n := 15) [.inl q1.1] dX8_lies_12 rfl wv_RX8_102 omX8_finds rfl in_32 rfl rfl rfl (Nat.le_of_ble_eq_true rfl) (by decide) (kX8_finds q1.1 q1.2 τ h7) ?_
    obtain rfl := Option.some.inj h
    exact Vm.iret dX8_lies_15 rfl hk.1 hk.2.symm
theorem kX8_lies (a1 : Int32) (σ τ : mm) {q : Int32 × mm} (h : fX8_lies a1 σ = some q) : Cx mX8_lies 3 [.inr (.inr (32, 0)), .inl a1] (τ, σ) (some (.inl q.1)) (τ, q.2) :=
  Cx.of (lv := [(0, .inr (.inr (32, 0))), (1, .inl a1)]) (by decide) (fun ad => Nat.le_of_ble_eq_true rfl) (fun ad => rfl) (lX8_lies_0 a1 σ τ h ⟨rfl, rfl⟩)
-- ThinBodiesModel feed (II)I
noncomputable def fX8_feed_41 (a1 : Int32) (a3 : Int32) (σ : mm) : Option ((Int32 × mm) ⊕ (Int32 × mm)) :=
  if a3 < (0 : Int32) then
  some (.inr ((σ.1 32 0 28, σ)))
  else
  Option.bind (wrI σ 67 0 120 (σ.1 32 0 28) ((a1 >>> (((8 : Int32) * a3) &&& 31)) &&& (255 : Int32))) fun σ1 =>
  Option.bind (some ((σ1.1 32 0 28) + (1 : Int32))) fun x2 =>
  Option.bind (some (stI σ1 32 0 28 x2)) fun σ3 =>
  Option.bind (some (a3 + (-1 : Int32))) fun x4 =>
  some (.inl (x4, σ3))
noncomputable def fX8_feed_41_L (a1 : Int32) : Int32 × mm → Option ((Int32 × mm) ⊕ (Int32 × mm)) := fun z => fX8_feed_41 a1 z.1 z.2
noncomputable def fX8_feed_0 (a1 : Int32) (a2 : Int32) (σ : mm) : Option (Int32 × mm) :=
  if (bi (fX8_in a2.toInt64 (1 : Int64) (4 : Int64))) = (0 : Int32) then
  Option.bind (fX8_finds (-1000000001 : Int32) σ) fun q3 =>
  some ((q3.1, q3.2))
  else
  if ((σ.1 32 0 28) + a2) ≤ (120 : Int32) then
  Option.bind (some (a2 - (1 : Int32))) fun x1 =>
  lp (fX8_feed_41_L a1) (x1, σ)
  else
  Option.bind (fX8_finds (-1000000002 : Int32) σ) fun q2 =>
  some ((q2.1, q2.2))
noncomputable def fX8_feed (a1 : Int32) (a2 : Int32) (σ : mm) : Option (Int32 × mm) := fX8_feed_0 a1 a2 σ
set_option maxRecDepth 20000 in
theorem lX8_feed_41 (a1 : Int32) (a3 : Int32) (σ τ : mm) {r : Option mv} {M' : mm × mm} {v9 : (Int32 × mm) ⊕ (Int32 × mm)} (h : fX8_feed_41 a1 a3 σ = some v9) (hk : (Sum.elim (fun z : Int32 × mm => Vm mX8_feed 1 41 [(0, .inr (.inr (32, 0))), (1, .inl a1), (3, .inl z.1)] [] (τ, z.2) r M') (fun q : Int32 × mm => r = some (.inl q.1) ∧ M' = (τ, q.2))) v9) : Vm mX8_feed 1 41 [(0, .inr (.inr (32, 0))), (1, .inl a1), (3, .inl a3)] [] (τ, σ) r M' := by
  unfold fX8_feed_41 at h
  refine Vm.iload_n (n := 42) 2 dX8_feed_41 rfl rfl ?_
  refine Vm.if_lt (n := 45) 80 dX8_feed_42 rfl rfl (fun c9 => ?_) (fun c9 => ?_)
  · replace h := (if_pos c9).symm.trans h
    refine Vm.aload_n (n := 81) 0 dX8_feed_80 rfl rfl ?_
    refine Vm.gM (n := 84) dX8_feed_81 rfl wf_RX8_301 in_32 rfl (by decide) rfl (by decide) ?_
    obtain rfl := Option.some.inj h
    exact Vm.iret dX8_feed_84 rfl hk.1 hk.2.symm
  · replace h := (if_neg c9).symm.trans h
    refine Vm.aload_n (n := 46) 0 dX8_feed_45 rfl rfl ?_
    refine Vm.getR (n := 49) dX8_feed_46 rfl wf_RX8_64 in_32 rfl (by decide) rfl ?_
    refine Vm.aload_n (n := 50) 0 dX8_feed_49 rfl rfl ?_
    refine Vm.gM (n := 53) dX8_feed_50 rfl wf_RX8_301 in_32 rfl (by decide) rfl (by decide) ?_
    refine Vm.iload_n (n := 54) 1 dX8_feed_53 rfl rfl ?_
    refine Vm.bipush (n := 56) (v := (8 : Int32)) dX8_feed_54 rfl (by decide) ?_
    refine Vm.iload_n (n := 57) 2 dX8_feed_56 rfl rfl ?_
    refine Vm.imul (n := 58) dX8_feed_57 rfl ?_
    refine Vm.ishr (n := 59) dX8_feed_58 rfl ?_
    refine Vm.sipush (n := 62) (v := (255 : Int32)) dX8_feed_59 rfl (by decide) ?_
    refine Vm.iand (n := 63) dX8_feed_62 rfl ?_
    replace h := Option.bind_eq_some_iff.mp h
    obtain ⟨σ1, h1, h⟩ := h
    refine Vm.iastm (n := 64) dX8_feed_63 rfl in_67 rfl rfl (by decide) h1 ?_
    refine Vm.aload_n (n := 65) 0 dX8_feed_64 rfl rfl ?_
    refine Vm.dup (n := 66) dX8_feed_65 rfl rfl ?_
    refine Vm.gM (n := 69) dX8_feed_66 rfl wf_RX8_301 in_32 rfl (by decide) rfl (by decide) ?_
    refine Vm.iconst (n := 70) (v := (1 : Int32)) dX8_feed_69 rfl (by decide) ?_
    refine Vm.iadd (n := 71) dX8_feed_70 rfl ?_
    replace h := Option.bind_eq_some_iff.mp h
    obtain ⟨x2, e2, h⟩ := h
    replace e2 := Option.some.inj e2
    refine Vm.top e2 ?_
    refine Vm.pM (n := 74) (ty := .int) dX8_feed_71 rfl wf_RX8_301 in_32 rfl (by decide) rfl (by decide) rfl rfl rfl rfl ?_
    replace h := Option.bind_eq_some_iff.mp h
    obtain ⟨σ3, e3, h⟩ := h
    replace e3 := Option.some.inj e3
    refine Vm.mem (congrArg (fun z => (τ, z)) e3) ?_
    replace h := Option.bind_eq_some_iff.mp h
    obtain ⟨x4, e4, h⟩ := h
    replace e4 := Option.some.inj e4
    refine Vm.iinc (n := 77) (v := x4) (lv' := [(3, .inl x4), (0, .inr (.inr (32, 0))), (1, .inl a1)]) 2 dX8_feed_74 rfl rfl e4 (Nat.le_of_ble_eq_true rfl) rfl ?_
    refine Vm.goto 41 dX8_feed_77 rfl ?_
    refine Vm.sub (lv' := [(0, .inr (.inr (32, 0))), (1, .inl a1), (3, .inl x4)]) [1, 2, 0] rfl ?_
    obtain rfl := Option.some.inj h
    exact hk
theorem lX8_feed_41_L (a1 : Int32) (τ : mm) {r : Option mv} {M' : mm × mm} (z : Int32 × mm) (w9 : Int32 × mm) (h : lp (fX8_feed_41_L a1) z = some w9) (hk : (fun q : Int32 × mm => r = some (.inl q.1) ∧ M' = (τ, q.2)) w9) : Vm mX8_feed 1 41 [(0, .inr (.inr (32, 0))), (1, .inl a1), (3, .inl z.1)] [] (τ, z.2) r M' :=
  lp_link (S := Int32 × mm) (R := Int32 × mm) (body := fX8_feed_41_L a1) (A := fun z : Int32 × mm => Vm mX8_feed 1 41 [(0, .inr (.inr (32, 0))), (1, .inl a1), (3, .inl z.1)] [] (τ, z.2) r M') (B := fun w : Int32 × mm => (fun q : Int32 × mm => r = some (.inl q.1) ∧ M' = (τ, q.2)) w) (fun z v hb hv => lX8_feed_41 a1 z.1 z.2 τ hb hv) z w9 h hk
set_option maxRecDepth 20000 in
theorem lX8_feed_0 (a1 : Int32) (a2 : Int32) (σ τ : mm) {r : Option mv} {M' : mm × mm} {v9 : Int32 × mm} (h : fX8_feed_0 a1 a2 σ = some v9) (hk : (fun q : Int32 × mm => r = some (.inl q.1) ∧ M' = (τ, q.2)) v9) : Vm mX8_feed 1 0 [(0, .inr (.inr (32, 0))), (1, .inl a1), (2, .inl a2)] [] (τ, σ) r M' := by
  unfold fX8_feed_0 at h
  refine Vm.iload_n (n := 1) 2 dX8_feed_0 rfl rfl ?_
  refine Vm.i2l (n := 2) dX8_feed_1 rfl ?_
  refine Vm.lconst (n := 3) (v := (1 : Int64)) dX8_feed_2 rfl (by decide) ?_
  refine Vm.ldc2 (n := 6) dX8_feed_3 rfl wl_RX8_100 ?_
  refine Vm.callS (Y := mX8_in) (n := 9) [.inr (.inl a2.toInt64), .inr (.inl (1 : Int64)), .inr (.inl (4 : Int64))] dX8_feed_6 rfl wv_RX8_93 omX8_in rfl rfl (Nat.le_of_ble_eq_true rfl) (by decide) (kX8_in a2.toInt64 (1 : Int64) (4 : Int64) rfl) ?_
  refine Vm.if_ne (n := 12) 19 dX8_feed_9 rfl rfl (fun c9 => ?_) (fun c9 => ?_)
  · replace h := (if_neg c9).symm.trans h
    refine Vm.aload_n (n := 20) 0 dX8_feed_19 rfl rfl ?_
    refine Vm.gM (n := 23) dX8_feed_20 rfl wf_RX8_301 in_32 rfl (by decide) rfl (by decide) ?_
    refine Vm.iload_n (n := 24) 2 dX8_feed_23 rfl rfl ?_
    refine Vm.iadd (n := 25) dX8_feed_24 rfl ?_
    refine Vm.bipush (n := 27) (v := (120 : Int32)) dX8_feed_25 rfl (by decide) ?_
    refine Vm.icmp_le (n := 30) 37 dX8_feed_27 rfl rfl (fun c9 => ?_) (fun c9 => ?_)
    · replace h := (if_pos c9).symm.trans h
      refine Vm.iload_n (n := 38) 2 dX8_feed_37 rfl rfl ?_
      refine Vm.iconst (n := 39) (v := (1 : Int32)) dX8_feed_38 rfl (by decide) ?_
      refine Vm.isub (n := 40) dX8_feed_39 rfl ?_
      replace h := Option.bind_eq_some_iff.mp h
      obtain ⟨x1, e1, h⟩ := h
      replace e1 := Option.some.inj e1
      refine Vm.top e1 ?_
      refine Vm.istore_n (n := 41) (lv' := [(3, .inl x1), (0, .inr (.inr (32, 0))), (1, .inl a1), (2, .inl a2)]) dX8_feed_40 rfl (Nat.le_of_ble_eq_true rfl) rfl ?_
      refine Vm.sub (lv' := [(0, .inr (.inr (32, 0))), (1, .inl a1), (3, .inl x1)]) [1, 2, 0] rfl ?_
      exact lX8_feed_41_L a1 τ (x1, σ) _ h hk
    · replace h := (if_neg c9).symm.trans h
      refine Vm.aload_n (n := 31) 0 dX8_feed_30 rfl rfl ?_
      refine Vm.ldc (n := 33) dX8_feed_31 rfl wc_RX8_110 ?_
      replace h := Option.bind_eq_some_iff.mp h
      obtain ⟨q2, h2, h⟩ := h
      refine Vm.callV (Y := mX8_finds) (n := 36) [.inl (-1000000002 : Int32)] dX8_feed_33 rfl wv_RX8_102 omX8_finds rfl in_32 rfl rfl rfl (Nat.le_of_ble_eq_true rfl) (by decide) (kX8_finds (-1000000002 : Int32) σ τ h2) ?_
      obtain rfl := Option.some.inj h
      exact Vm.iret dX8_feed_36 rfl hk.1 hk.2.symm
  · replace h := (if_pos c9).symm.trans h
    refine Vm.aload_n (n := 13) 0 dX8_feed_12 rfl rfl ?_
    refine Vm.ldc (n := 15) dX8_feed_13 rfl wc_RX8_92 ?_
    replace h := Option.bind_eq_some_iff.mp h
    obtain ⟨q3, h3, h⟩ := h
    refine Vm.callV (Y := mX8_finds) (n := 18) [.inl (-1000000001 : Int32)] dX8_feed_15 rfl wv_RX8_102 omX8_finds rfl in_32 rfl rfl rfl (Nat.le_of_ble_eq_true rfl) (by decide) (kX8_finds (-1000000001 : Int32) σ τ h3) ?_
    obtain rfl := Option.some.inj h
    exact Vm.iret dX8_feed_18 rfl hk.1 hk.2.symm
theorem kX8_feed (a1 : Int32) (a2 : Int32) (σ τ : mm) {q : Int32 × mm} (h : fX8_feed a1 a2 σ = some q) : Cx mX8_feed 1 [.inr (.inr (32, 0)), .inl a1, .inl a2] (τ, σ) (some (.inl q.1)) (τ, q.2) :=
  Cx.of (lv := [(0, .inr (.inr (32, 0))), (1, .inl a1), (2, .inl a2)]) (by decide) (fun ad => Nat.le_of_ble_eq_true rfl) (fun ad => rfl) (lX8_feed_0 a1 a2 σ τ h ⟨rfl, rfl⟩)
-- ThinBodiesModel wipe ()I
def fX8_wipe_0 (σ : mm) : Int32 × mm :=
  (σ.1 32 0 28, (stI σ 32 0 28 (0 : Int32)))
def fX8_wipe (σ : mm) : Int32 × mm := fX8_wipe_0 σ
set_option maxRecDepth 20000 in
theorem lX8_wipe_0 (σ τ : mm) {r : Option mv} {M' : mm × mm} {v9 : Int32 × mm} (h : fX8_wipe_0 σ = v9) (hk : (fun q : Int32 × mm => r = some (.inl q.1) ∧ M' = (τ, q.2)) v9) : Vm mX8_wipe 0 0 [(0, .inr (.inr (32, 0)))] [] (τ, σ) r M' := by
  unfold fX8_wipe_0 at h
  refine Vm.aload_n (n := 1) 0 dX8_wipe_0 rfl rfl ?_
  refine Vm.gM (n := 4) dX8_wipe_1 rfl wf_RX8_301 in_32 rfl (by decide) rfl (by decide) ?_
  refine Vm.istore_n (n := 5) (lv' := [(1, .inl (σ.1 32 0 28)), (0, .inr (.inr (32, 0)))]) dX8_wipe_4 rfl (Nat.le_of_ble_eq_true rfl) rfl ?_
  refine Vm.aload_n (n := 6) 1 dX8_wipe_5 rfl rfl ?_
  refine Vm.iconst (n := 7) (v := (0 : Int32)) dX8_wipe_6 rfl (by decide) ?_
  refine Vm.pM (n := 10) (ty := .int) dX8_wipe_7 rfl wf_RX8_301 in_32 rfl (by decide) rfl (by decide) rfl rfl rfl rfl ?_
  refine Vm.iload_n (n := 11) 0 dX8_wipe_10 rfl rfl ?_
  subst h
  exact Vm.iret dX8_wipe_11 rfl hk.1 hk.2.symm
theorem kX8_wipe (σ τ : mm) {q : Int32 × mm} (h : fX8_wipe σ = q) : Cx mX8_wipe 0 [.inr (.inr (32, 0))] (τ, σ) (some (.inl q.1)) (τ, q.2) :=
  Cx.of (lv := [(0, .inr (.inr (32, 0)))]) (by decide) (fun ad => Nat.le_of_ble_eq_true rfl) (fun ad => rfl) (lX8_wipe_0 σ τ h ⟨rfl, rfl⟩)
-- ThinBodiesModel keeps ([I)V
noncomputable def fX8_keeps_80_78 (a2 : Int32) (σ : mm) : Option ((Int32 × mm) ⊕ (mm)) :=
  if (16 : Int32) ≤ a2 then
  some (.inr (σ))
  else
  Option.bind (rdI σ 46 0 16 a2) fun x1 =>
  Option.bind (wrI σ 80 0 82 ((66 : Int32) + a2) x1) fun σ2 =>
  Option.bind (some (a2 + (1 : Int32))) fun x3 =>
  some (.inl (x3, σ2))
noncomputable def fX8_keeps_80_78_L : Int32 × mm → Option ((Int32 × mm) ⊕ (mm)) := fun z => fX8_keeps_80_78 z.1 z.2
noncomputable def fX8_keeps_80_52 (a2 : Int32) (σ : mm) : Option ((Int32 × mm) ⊕ (mm)) :=
  if (56 : Int32) ≤ a2 then
  Option.map Sum.inr (lp (fX8_keeps_80_78_L) ((0 : Int32), σ))
  else
  Option.bind (rdI σ 45 0 56 a2) fun x1 =>
  Option.bind (wrI σ 80 0 82 ((10 : Int32) + a2) x1) fun σ2 =>
  Option.bind (some (a2 + (1 : Int32))) fun x3 =>
  some (.inl (x3, σ2))
noncomputable def fX8_keeps_80_52_L : Int32 × mm → Option ((Int32 × mm) ⊕ (mm)) := fun z => fX8_keeps_80_52 z.1 z.2
noncomputable def fX8_keeps_80_16 (a2 : Int32) (σ : mm) : Option ((Int32 × mm) ⊕ (mm)) :=
  if (4 : Int32) ≤ a2 then
  Option.map Sum.inr (lp (fX8_keeps_80_52_L) ((0 : Int32), σ))
  else
  Option.bind (rdI σ 42 0 4 a2) fun x1 =>
  Option.bind (wrI σ 80 0 82 ((2 : Int32) + a2) x1) fun σ2 =>
  Option.bind (rdI σ2 43 0 4 a2) fun x3 =>
  Option.bind (wrI σ2 80 0 82 ((6 : Int32) + a2) x3) fun σ4 =>
  Option.bind (some (a2 + (1 : Int32))) fun x5 =>
  some (.inl (x5, σ4))
noncomputable def fX8_keeps_80_16_L : Int32 × mm → Option ((Int32 × mm) ⊕ (mm)) := fun z => fX8_keeps_80_16 z.1 z.2
noncomputable def fX8_keeps_80_0 (σ : mm) : Option (mm) :=
  Option.bind (wrI σ 80 0 82 (0 : Int32) (σ.1 32 0 1)) fun σ1 =>
  Option.bind (wrI σ1 80 0 82 (1 : Int32) (σ1.1 32 0 4)) fun σ2 =>
  lp (fX8_keeps_80_16_L) ((0 : Int32), σ2)
noncomputable def fX8_keeps_80 (σ : mm) : Option (mm) := fX8_keeps_80_0 σ
set_option maxRecDepth 20000 in
theorem lX8_keeps_80_78 (a2 : Int32) (σ τ : mm) {r : Option mv} {M' : mm × mm} {v9 : (Int32 × mm) ⊕ (mm)} (h : fX8_keeps_80_78 a2 σ = some v9) (hk : (Sum.elim (fun z : Int32 × mm => Vm mX8_keeps 0 78 [(0, .inr (.inr (32, 0))), (1, .inr (.inr (80, 0))), (2, .inl z.1)] [] (τ, z.2) r M') (fun q : mm => r = none ∧ M' = (τ, q))) v9) : Vm mX8_keeps 0 78 [(0, .inr (.inr (32, 0))), (1, .inr (.inr (80, 0))), (2, .inl a2)] [] (τ, σ) r M' := by
  unfold fX8_keeps_80_78 at h
  refine Vm.iload_n (n := 79) 2 dX8_keeps_78 rfl rfl ?_
  refine Vm.bipush (n := 81) (v := (16 : Int32)) dX8_keeps_79 rfl (by decide) ?_
  refine Vm.icmp_ge (n := 84) 102 dX8_keeps_81 rfl rfl (fun c9 => ?_) (fun c9 => ?_)
  · replace h := (if_pos c9).symm.trans h
    obtain rfl := Option.some.inj h
    exact Vm.vret dX8_keeps_102 rfl hk.1 hk.2.symm
  · replace h := (if_neg c9).symm.trans h
    refine Vm.aload_n (n := 85) 1 dX8_keeps_84 rfl rfl ?_
    refine Vm.bipush (n := 87) (v := (66 : Int32)) dX8_keeps_85 rfl (by decide) ?_
    refine Vm.iload_n (n := 88) 2 dX8_keeps_87 rfl rfl ?_
    refine Vm.iadd (n := 89) dX8_keeps_88 rfl ?_
    refine Vm.aload_n (n := 90) 0 dX8_keeps_89 rfl rfl ?_
    refine Vm.getR (n := 93) dX8_keeps_90 rfl wf_RX8_26 in_32 rfl (by decide) rfl ?_
    refine Vm.iload_n (n := 94) 2 dX8_keeps_93 rfl rfl ?_
    replace h := Option.bind_eq_some_iff.mp h
    obtain ⟨x1, h1, h⟩ := h
    refine Vm.ialdm (n := 95) dX8_keeps_94 rfl in_46 rfl rfl (by decide) h1 ?_
    replace h := Option.bind_eq_some_iff.mp h
    obtain ⟨σ2, h2, h⟩ := h
    refine Vm.iastm (n := 96) dX8_keeps_95 rfl in_80 rfl rfl (by decide) h2 ?_
    replace h := Option.bind_eq_some_iff.mp h
    obtain ⟨x3, e3, h⟩ := h
    replace e3 := Option.some.inj e3
    refine Vm.iinc (n := 99) (v := x3) (lv' := [(2, .inl x3), (0, .inr (.inr (32, 0))), (1, .inr (.inr (80, 0)))]) 2 dX8_keeps_96 rfl rfl e3 (Nat.le_of_ble_eq_true rfl) rfl ?_
    refine Vm.goto 78 dX8_keeps_99 rfl ?_
    refine Vm.sub (lv' := [(0, .inr (.inr (32, 0))), (1, .inr (.inr (80, 0))), (2, .inl x3)]) [1, 2, 0] rfl ?_
    obtain rfl := Option.some.inj h
    exact hk
theorem lX8_keeps_80_78_L (τ : mm) {r : Option mv} {M' : mm × mm} (z : Int32 × mm) (w9 : mm) (h : lp (fX8_keeps_80_78_L) z = some w9) (hk : (fun q : mm => r = none ∧ M' = (τ, q)) w9) : Vm mX8_keeps 0 78 [(0, .inr (.inr (32, 0))), (1, .inr (.inr (80, 0))), (2, .inl z.1)] [] (τ, z.2) r M' :=
  lp_link (S := Int32 × mm) (R := mm) (body := fX8_keeps_80_78_L) (A := fun z : Int32 × mm => Vm mX8_keeps 0 78 [(0, .inr (.inr (32, 0))), (1, .inr (.inr (80, 0))), (2, .inl z.1)] [] (τ, z.2) r M') (B := fun w : mm => (fun q : mm => r = none ∧ M' = (τ, q)) w) (fun z v hb hv => lX8_keeps_80_78 z.1 z.2 τ hb hv) z w9 h hk
set_option maxRecDepth 20000 in
theorem lX8_keeps_80_52 (a2 : Int32) (σ τ : mm) {r : Option mv} {M' : mm × mm} {v9 : (Int32 × mm) ⊕ (mm)} (h : fX8_keeps_80_52 a2 σ = some v9) (hk : (Sum.elim (fun z : Int32 × mm => Vm mX8_keeps 0 52 [(0, .inr (.inr (32, 0))), (1, .inr (.inr (80, 0))), (2, .inl z.1)] [] (τ, z.2) r M') (fun q : mm => r = none ∧ M' = (τ, q))) v9) : Vm mX8_keeps 0 52 [(0, .inr (.inr (32, 0))), (1, .inr (.inr (80, 0))), (2, .inl a2)] [] (τ, σ) r M' := by
  unfold fX8_keeps_80_52 at h
  refine Vm.iload_n (n := 53) 2 dX8_keeps_52 rfl rfl ?_
  refine Vm.bipush (n := 55) (v := (56 : Int32)) dX8_keeps_53 rfl (by decide) ?_
  refine Vm.icmp_ge (n := 58) 76 dX8_keeps_55 rfl rfl (fun c9 => ?_) (fun c9 => ?_)
  · replace h := (if_pos c9).symm.trans h
    refine Vm.iconst (n := 77) (v := (0 : Int32)) dX8_keeps_76 rfl (by decide) ?_
    refine Vm.istore_n (n := 78) (lv' := [(2, .inl (0 : Int32)), (0, .inr (.inr (32, 0))), (1, .inr (.inr (80, 0)))]) dX8_keeps_77 rfl (Nat.le_of_ble_eq_true rfl) rfl ?_
    refine Vm.sub (lv' := [(0, .inr (.inr (32, 0))), (1, .inr (.inr (80, 0))), (2, .inl (0 : Int32))]) [1, 2, 0] rfl ?_
    replace h := Option.map_eq_some_iff.mp h
    obtain ⟨w9, h, e8⟩ := h
    subst e8
    exact lX8_keeps_80_78_L τ ((0 : Int32), σ) _ h hk
  · replace h := (if_neg c9).symm.trans h
    refine Vm.aload_n (n := 59) 1 dX8_keeps_58 rfl rfl ?_
    refine Vm.bipush (n := 61) (v := (10 : Int32)) dX8_keeps_59 rfl (by decide) ?_
    refine Vm.iload_n (n := 62) 2 dX8_keeps_61 rfl rfl ?_
    refine Vm.iadd (n := 63) dX8_keeps_62 rfl ?_
    refine Vm.aload_n (n := 64) 0 dX8_keeps_63 rfl rfl ?_
    refine Vm.getR (n := 67) dX8_keeps_64 rfl wf_RX8_23 in_32 rfl (by decide) rfl ?_
    refine Vm.iload_n (n := 68) 2 dX8_keeps_67 rfl rfl ?_
    replace h := Option.bind_eq_some_iff.mp h
    obtain ⟨x1, h1, h⟩ := h
    refine Vm.ialdm (n := 69) dX8_keeps_68 rfl in_45 rfl rfl (by decide) h1 ?_
    replace h := Option.bind_eq_some_iff.mp h
    obtain ⟨σ2, h2, h⟩ := h
    refine Vm.iastm (n := 70) dX8_keeps_69 rfl in_80 rfl rfl (by decide) h2 ?_
    replace h := Option.bind_eq_some_iff.mp h
    obtain ⟨x3, e3, h⟩ := h
    replace e3 := Option.some.inj e3
    refine Vm.iinc (n := 73) (v := x3) (lv' := [(2, .inl x3), (0, .inr (.inr (32, 0))), (1, .inr (.inr (80, 0)))]) 2 dX8_keeps_70 rfl rfl e3 (Nat.le_of_ble_eq_true rfl) rfl ?_
    refine Vm.goto 52 dX8_keeps_73 rfl ?_
    refine Vm.sub (lv' := [(0, .inr (.inr (32, 0))), (1, .inr (.inr (80, 0))), (2, .inl x3)]) [1, 2, 0] rfl ?_
    obtain rfl := Option.some.inj h
    exact hk
theorem lX8_keeps_80_52_L (τ : mm) {r : Option mv} {M' : mm × mm} (z : Int32 × mm) (w9 : mm) (h : lp (fX8_keeps_80_52_L) z = some w9) (hk : (fun q : mm => r = none ∧ M' = (τ, q)) w9) : Vm mX8_keeps 0 52 [(0, .inr (.inr (32, 0))), (1, .inr (.inr (80, 0))), (2, .inl z.1)] [] (τ, z.2) r M' :=
  lp_link (S := Int32 × mm) (R := mm) (body := fX8_keeps_80_52_L) (A := fun z : Int32 × mm => Vm mX8_keeps 0 52 [(0, .inr (.inr (32, 0))), (1, .inr (.inr (80, 0))), (2, .inl z.1)] [] (τ, z.2) r M') (B := fun w : mm => (fun q : mm => r = none ∧ M' = (τ, q)) w) (fun z v hb hv => lX8_keeps_80_52 z.1 z.2 τ hb hv) z w9 h hk
set_option maxRecDepth 20000 in
theorem lX8_keeps_80_16 (a2 : Int32) (σ τ : mm) {r : Option mv} {M' : mm × mm} {v9 : (Int32 × mm) ⊕ (mm)} (h : fX8_keeps_80_16 a2 σ = some v9) (hk : (Sum.elim (fun z : Int32 × mm => Vm mX8_keeps 0 16 [(0, .inr (.inr (32, 0))), (1, .inr (.inr (80, 0))), (2, .inl z.1)] [] (τ, z.2) r M') (fun q : mm => r = none ∧ M' = (τ, q))) v9) : Vm mX8_keeps 0 16 [(0, .inr (.inr (32, 0))), (1, .inr (.inr (80, 0))), (2, .inl a2)] [] (τ, σ) r M' := by
  unfold fX8_keeps_80_16 at h
  refine Vm.iload_n (n := 17) 2 dX8_keeps_16 rfl rfl ?_
  refine Vm.iconst (n := 18) (v := (4 : Int32)) dX8_keeps_17 rfl (by decide) ?_
  refine Vm.icmp_ge (n := 21) 50 dX8_keeps_18 rfl rfl (fun c9 => ?_) (fun c9 => ?_)
  · replace h := (if_pos c9).symm.trans h
    refine Vm.iconst (n := 51) (v := (0 : Int32)) dX8_keeps_50 rfl (by decide) ?_
    refine Vm.istore_n (n := 52) (lv' := [(2, .inl (0 : Int32)), (0, .inr (.inr (32, 0))), (1, .inr (.inr (80, 0)))]) dX8_keeps_51 rfl (Nat.le_of_ble_eq_true rfl) rfl ?_
    refine Vm.sub (lv' := [(0, .inr (.inr (32, 0))), (1, .inr (.inr (80, 0))), (2, .inl (0 : Int32))]) [1, 2, 0] rfl ?_
    replace h := Option.map_eq_some_iff.mp h
    obtain ⟨w9, h, e8⟩ := h
    subst e8
    exact lX8_keeps_80_52_L τ ((0 : Int32), σ) _ h hk
  · replace h := (if_neg c9).symm.trans h
    refine Vm.aload_n (n := 22) 1 dX8_keeps_21 rfl rfl ?_
    refine Vm.iconst (n := 23) (v := (2 : Int32)) dX8_keeps_22 rfl (by decide) ?_
    refine Vm.iload_n (n := 24) 2 dX8_keeps_23 rfl rfl ?_
    refine Vm.iadd (n := 25) dX8_keeps_24 rfl ?_
    refine Vm.aload_n (n := 26) 0 dX8_keeps_25 rfl rfl ?_
    refine Vm.getR (n := 29) dX8_keeps_26 rfl wf_RX8_17 in_32 rfl (by decide) rfl ?_
    refine Vm.iload_n (n := 30) 2 dX8_keeps_29 rfl rfl ?_
    replace h := Option.bind_eq_some_iff.mp h
    obtain ⟨x1, h1, h⟩ := h
    refine Vm.ialdm (n := 31) dX8_keeps_30 rfl in_42 rfl rfl (by decide) h1 ?_
    replace h := Option.bind_eq_some_iff.mp h
    obtain ⟨σ2, h2, h⟩ := h
    refine Vm.iastm (n := 32) dX8_keeps_31 rfl in_80 rfl rfl (by decide) h2 ?_
    refine Vm.aload_n (n := 33) 1 dX8_keeps_32 rfl rfl ?_
    refine Vm.bipush (n := 35) (v := (6 : Int32)) dX8_keeps_33 rfl (by decide) ?_
    refine Vm.iload_n (n := 36) 2 dX8_keeps_35 rfl rfl ?_
    refine Vm.iadd (n := 37) dX8_keeps_36 rfl ?_
    refine Vm.aload_n (n := 38) 0 dX8_keeps_37 rfl rfl ?_
    refine Vm.getR (n := 41) dX8_keeps_38 rfl wf_RX8_20 in_32 rfl (by decide) rfl ?_
    refine Vm.iload_n (n := 42) 2 dX8_keeps_41 rfl rfl ?_
    replace h := Option.bind_eq_some_iff.mp h
    obtain ⟨x3, h3, h⟩ := h
    refine Vm.ialdm (n := 43) dX8_keeps_42 rfl in_43 rfl rfl (by decide) h3 ?_
    replace h := Option.bind_eq_some_iff.mp h
    obtain ⟨σ4, h4, h⟩ := h
    refine Vm.iastm (n := 44) dX8_keeps_43 rfl in_80 rfl rfl (by decide) h4 ?_
    replace h := Option.bind_eq_some_iff.mp h
    obtain ⟨x5, e5, h⟩ := h
    replace e5 := Option.some.inj e5
    refine Vm.iinc (n := 47) (v := x5) (lv' := [(2, .inl x5), (0, .inr (.inr (32, 0))), (1, .inr (.inr (80, 0)))]) 2 dX8_keeps_44 rfl rfl e5 (Nat.le_of_ble_eq_true rfl) rfl ?_
    refine Vm.goto 16 dX8_keeps_47 rfl ?_
    refine Vm.sub (lv' := [(0, .inr (.inr (32, 0))), (1, .inr (.inr (80, 0))), (2, .inl x5)]) [1, 2, 0] rfl ?_
    obtain rfl := Option.some.inj h
    exact hk
theorem lX8_keeps_80_16_L (τ : mm) {r : Option mv} {M' : mm × mm} (z : Int32 × mm) (w9 : mm) (h : lp (fX8_keeps_80_16_L) z = some w9) (hk : (fun q : mm => r = none ∧ M' = (τ, q)) w9) : Vm mX8_keeps 0 16 [(0, .inr (.inr (32, 0))), (1, .inr (.inr (80, 0))), (2, .inl z.1)] [] (τ, z.2) r M' :=
  lp_link (S := Int32 × mm) (R := mm) (body := fX8_keeps_80_16_L) (A := fun z : Int32 × mm => Vm mX8_keeps 0 16 [(0, .inr (.inr (32, 0))), (1, .inr (.inr (80, 0))), (2, .inl z.1)] [] (τ, z.2) r M') (B := fun w : mm => (fun q : mm => r = none ∧ M' = (τ, q)) w) (fun z v hb hv => lX8_keeps_80_16 z.1 z.2 τ hb hv) z w9 h hk
set_option maxRecDepth 20000 in
theorem lX8_keeps_80_0 (σ τ : mm) {r : Option mv} {M' : mm × mm} {v9 : mm} (h : fX8_keeps_80_0 σ = some v9) (hk : (fun q : mm => r = none ∧ M' = (τ, q)) v9) : Vm mX8_keeps 0 0 [(0, .inr (.inr (32, 0))), (1, .inr (.inr (80, 0)))] [] (τ, σ) r M' := by
  unfold fX8_keeps_80_0 at h
  refine Vm.aload_n (n := 1) 1 dX8_keeps_0 rfl rfl ?_
  refine Vm.iconst (n := 2) (v := (0 : Int32)) dX8_keeps_1 rfl (by decide) ?_
  refine Vm.aload_n (n := 3) 0 dX8_keeps_2 rfl rfl ?_
  refine Vm.gM (n := 6) dX8_keeps_3 rfl wf_RX8_13 in_32 rfl (by decide) rfl (by decide) ?_
  replace h := Option.bind_eq_some_iff.mp h
  obtain ⟨σ1, h1, h⟩ := h
  refine Vm.iastm (n := 7) dX8_keeps_6 rfl in_80 rfl rfl (by decide) h1 ?_
  refine Vm.aload_n (n := 8) 1 dX8_keeps_7 rfl rfl ?_
  refine Vm.iconst (n := 9) (v := (1 : Int32)) dX8_keeps_8 rfl (by decide) ?_
  refine Vm.aload_n (n := 10) 0 dX8_keeps_9 rfl rfl ?_
  refine Vm.gM (n := 13) dX8_keeps_10 rfl wf_RX8_97 in_32 rfl (by decide) rfl (by decide) ?_
  replace h := Option.bind_eq_some_iff.mp h
  obtain ⟨σ2, h2, h⟩ := h
  refine Vm.iastm (n := 14) dX8_keeps_13 rfl in_80 rfl rfl (by decide) h2 ?_
  refine Vm.iconst (n := 15) (v := (0 : Int32)) dX8_keeps_14 rfl (by decide) ?_
  refine Vm.istore_n (n := 16) (lv' := [(2, .inl (0 : Int32)), (0, .inr (.inr (32, 0))), (1, .inr (.inr (80, 0)))]) dX8_keeps_15 rfl (Nat.le_of_ble_eq_true rfl) rfl ?_
  refine Vm.sub (lv' := [(0, .inr (.inr (32, 0))), (1, .inr (.inr (80, 0))), (2, .inl (0 : Int32))]) [1, 2, 0] rfl ?_
  exact lX8_keeps_80_16_L τ ((0 : Int32), σ2) _ h hk
theorem kX8_keeps_80 (σ τ : mm) {q : mm} (h : fX8_keeps_80 σ = some q) : Cx mX8_keeps 0 [.inr (.inr (32, 0)), .inr (.inr (80, 0))] (τ, σ) (none) (τ, q) :=
  Cx.of (lv := [(0, .inr (.inr (32, 0))), (1, .inr (.inr (80, 0)))]) (by decide) (fun ad => Nat.le_of_ble_eq_true rfl) (fun ad => rfl) (lX8_keeps_80_0 σ τ h ⟨rfl, rfl⟩)
