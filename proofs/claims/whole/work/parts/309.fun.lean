-- ThinBodiesModel grows ()V
noncomputable def fX8_grows_0 (σ : mm) : Option (mm) :=
  Option.bind (some (stI σ 32 0 18 (0 : Int32))) fun σ1 =>
  Option.bind (some (stI σ1 32 0 19 (0 : Int32))) fun σ2 =>
  Option.bind (some (stI σ2 32 0 20 (0 : Int32))) fun σ3 =>
  Option.bind (some (stI σ3 32 0 21 (0 : Int32))) fun σ4 =>
  Option.bind (fX8_whole σ4) fun q5 =>
  Option.bind (fX8_parts 50 (0 : Int32) q5) fun q6 =>
  some (q6)
noncomputable def fX8_grows (σ : mm) : Option (mm) := fX8_grows_0 σ
set_option maxRecDepth 20000 in
theorem lX8_grows_0 (σ τ : mm) {r : Option mv} {M' : mm × mm} {v9 : mm} (h : fX8_grows_0 σ = some v9) (hk : (fun q : mm => r = none ∧ M' = (τ, q)) v9) : Vm mX8_grows 55 0 [(0, .inr (.inr (32, 0)))] [] (τ, σ) r M' := by
  unfold fX8_grows_0 at h
  refine Vm.aload_n (n := 1) 0 dX8_grows_0 rfl rfl ?_
  refine Vm.iconst (n := 2) (v := (0 : Int32)) dX8_grows_1 rfl (by decide) ?_
  refine Vm.pM (n := 5) (ty := .int) dX8_grows_2 rfl wf_RX8_237 in_32 rfl (by decide) rfl (by decide) rfl rfl rfl rfl ?_
  replace h := Option.bind_eq_some_iff.mp h
  obtain ⟨σ1, e1, h⟩ := h
  replace e1 := Option.some.inj e1
  refine Vm.mem (congrArg (fun z => (τ, z)) e1) ?_
  refine Vm.aload_n (n := 6) 0 dX8_grows_5 rfl rfl ?_
  refine Vm.iconst (n := 7) (v := (0 : Int32)) dX8_grows_6 rfl (by decide) ?_
  refine Vm.pM (n := 10) (ty := .int) dX8_grows_7 rfl wf_RX8_243 in_32 rfl (by decide) rfl (by decide) rfl rfl rfl rfl ?_
  replace h := Option.bind_eq_some_iff.mp h
  obtain ⟨σ2, e2, h⟩ := h
  replace e2 := Option.some.inj e2
  refine Vm.mem (congrArg (fun z => (τ, z)) e2) ?_
  refine Vm.aload_n (n := 11) 0 dX8_grows_10 rfl rfl ?_
  refine Vm.iconst (n := 12) (v := (0 : Int32)) dX8_grows_11 rfl (by decide) ?_
  refine Vm.pM (n := 15) (ty := .int) dX8_grows_12 rfl wf_RX8_246 in_32 rfl (by decide) rfl (by decide) rfl rfl rfl rfl ?_
  replace h := Option.bind_eq_some_iff.mp h
  obtain ⟨σ3, e3, h⟩ := h
  replace e3 := Option.some.inj e3
  refine Vm.mem (congrArg (fun z => (τ, z)) e3) ?_
  refine Vm.aload_n (n := 16) 0 dX8_grows_15 rfl rfl ?_
  refine Vm.iconst (n := 17) (v := (0 : Int32)) dX8_grows_16 rfl (by decide) ?_
  refine Vm.pM (n := 20) (ty := .int) dX8_grows_17 rfl wf_RX8_240 in_32 rfl (by decide) rfl (by decide) rfl rfl rfl rfl ?_
  replace h := Option.bind_eq_some_iff.mp h
  obtain ⟨σ4, e4, h⟩ := h
  replace e4 := Option.some.inj e4
  refine Vm.mem (congrArg (fun z => (τ, z)) e4) ?_
  refine Vm.aload_n (n := 21) 0 dX8_grows_20 rfl rfl ?_
  replace h := Option.bind_eq_some_iff.mp h
  obtain ⟨q5, h5, h⟩ := h
  refine Vm.callVv (Y := mX8_whole) (n := 24) [] dX8_grows_21 rfl wv_RX8_155 omX8_whole rfl in_32 rfl rfl rfl (Nat.le_of_ble_eq_true rfl) (by decide) (kX8_whole σ4 τ h5) ?_
  refine Vm.aload_n (n := 25) 0 dX8_grows_24 rfl rfl ?_
  refine Vm.iconst (n := 26) (v := (0 : Int32)) dX8_grows_25 rfl (by decide) ?_
  replace h := Option.bind_eq_some_iff.mp h
  obtain ⟨q6, h6, h⟩ := h
  refine Vm.callVv (Y := mX8_parts) (n := 29) [.inl (0 : Int32)] dX8_grows_26 rfl wv_RX8_262 omX8_parts rfl in_32 rfl rfl rfl (Nat.le_of_ble_eq_true rfl) (by decide) (kX8_parts 50 (0 : Int32) q5 τ h6) ?_
  obtain rfl := Option.some.inj h
  exact Vm.vret dX8_grows_29 rfl hk.1 hk.2.symm
theorem kX8_grows (σ τ : mm) {q : mm} (h : fX8_grows σ = some q) : Cx mX8_grows 55 [.inr (.inr (32, 0))] (τ, σ) (none) (τ, q) :=
  Cx.of (lv := [(0, .inr (.inr (32, 0)))]) (by decide) (fun ad => Nat.le_of_ble_eq_true rfl) (fun ad => rfl) (lX8_grows_0 σ τ h ⟨rfl, rfl⟩)
-- ThinBodiesModel tree (I)I
noncomputable def fX8_tree_0 (a1 : Int32) (σ : mm) : Option (Int32 × mm) :=
  if (bi (fX8_in a1.toInt64 (0 : Int64) (3 : Int64))) = (0 : Int32) then
  Option.bind (fX8_finds (-1000000001 : Int32) σ) fun q2 =>
  some ((q2.1, q2.2))
  else
  Option.bind (fX8_grows σ) fun q1 =>
  if a1 = (0 : Int32) then
  some ((q1.1 32 0 19, q1))
  else
  if a1 = (1 : Int32) then
  some ((q1.1 32 0 20, q1))
  else
  if a1 = (2 : Int32) then
  some ((q1.1 32 0 21, q1))
  else
  some (((q1.1 32 0 18) - (q1.1 32 0 21), q1))
noncomputable def fX8_tree (a1 : Int32) (σ : mm) : Option (Int32 × mm) := fX8_tree_0 a1 σ
set_option maxRecDepth 20000 in
theorem lX8_tree_0 (a1 : Int32) (σ τ : mm) {r : Option mv} {M' : mm × mm} {v9 : Int32 × mm} (h : fX8_tree_0 a1 σ = some v9) (hk : (fun q : Int32 × mm => r = some (.inl q.1) ∧ M' = (τ, q.2)) v9) : Vm mX8_tree 56 0 [(0, .inr (.inr (32, 0))), (1, .inl a1)] [] (τ, σ) r M' := by
  unfold fX8_tree_0 at h
  refine Vm.iload_n (n := 1) 1 dX8_tree_0 rfl rfl ?_
  refine Vm.i2l (n := 2) dX8_tree_1 rfl ?_
  refine Vm.lconst (n := 3) (v := (0 : Int64)) dX8_tree_2 rfl (by decide) ?_
  refine Vm.ldc2 (n := 6) dX8_tree_3 rfl wl_RX8_265 ?_
  refine Vm.callS (Y := mX8_in) (n := 9) [.inr (.inl a1.toInt64), .inr (.inl (0 : Int64)), .inr (.inl (3 : Int64))] dX8_tree_6 rfl wv_RX8_93 omX8_in rfl rfl (Nat.le_of_ble_eq_true rfl) (by decide) (kX8_in a1.toInt64 (0 : Int64) (3 : Int64) rfl) ?_
  refine Vm.if_ne (n := 12) 19 dX8_tree_9 rfl rfl (fun c9 => ?_) (fun c9 => ?_)
  · replace h := (if_neg c9).symm.trans h
    refine Vm.aload_n (n := 20) 0 dX8_tree_19 rfl rfl ?_
    replace h := Option.bind_eq_some_iff.mp h
    obtain ⟨q1, h1, h⟩ := h
    refine Vm.callVv (Y := mX8_grows) (n := 23) [] dX8_tree_20 rfl wv_RX8_267 omX8_grows rfl in_32 rfl rfl rfl (Nat.le_of_ble_eq_true rfl) (by decide) (kX8_grows σ τ h1) ?_
    refine Vm.iload_n (n := 24) 1 dX8_tree_23 rfl rfl ?_
    refine Vm.if_ne (n := 27) 34 dX8_tree_24 rfl rfl (fun c9 => ?_) (fun c9 => ?_)
    · replace h := (if_neg c9).symm.trans h
      refine Vm.iload_n (n := 35) 1 dX8_tree_34 rfl rfl ?_
      refine Vm.iconst (n := 36) (v := (1 : Int32)) dX8_tree_35 rfl (by decide) ?_
      refine Vm.icmp_ne (n := 39) 46 dX8_tree_36 rfl rfl (fun c9 => ?_) (fun c9 => ?_)
      · replace h := (if_neg c9).symm.trans h
        refine Vm.iload_n (n := 47) 1 dX8_tree_46 rfl rfl ?_
        refine Vm.iconst (n := 48) (v := (2 : Int32)) dX8_tree_47 rfl (by decide) ?_
        refine Vm.icmp_ne (n := 51) 58 dX8_tree_48 rfl rfl (fun c9 => ?_) (fun c9 => ?_)
        · replace h := (if_neg c9).symm.trans h
          refine Vm.aload_n (n := 59) 0 dX8_tree_58 rfl rfl ?_
          refine Vm.gM (n := 62) dX8_tree_59 rfl wf_RX8_237 in_32 rfl (by decide) rfl (by decide) ?_
          refine Vm.aload_n (n := 63) 0 dX8_tree_62 rfl rfl ?_
          refine Vm.gM (n := 66) dX8_tree_63 rfl wf_RX8_240 in_32 rfl (by decide) rfl (by decide) ?_
          refine Vm.isub (n := 67) dX8_tree_66 rfl ?_
          obtain rfl := Option.some.inj h
          exact Vm.iret dX8_tree_67 rfl hk.1 hk.2.symm
        · replace h := (if_pos c9).symm.trans h
          refine Vm.aload_n (n := 52) 0 dX8_tree_51 rfl rfl ?_
          refine Vm.gM (n := 55) dX8_tree_52 rfl wf_RX8_240 in_32 rfl (by decide) rfl (by decide) ?_
          refine Vm.goto 67 dX8_tree_55 rfl ?_
          obtain rfl := Option.some.inj h
          exact Vm.iret dX8_tree_67 rfl hk.1 hk.2.symm
      · replace h := (if_pos c9).symm.trans h
        refine Vm.aload_n (n := 40) 0 dX8_tree_39 rfl rfl ?_
        refine Vm.gM (n := 43) dX8_tree_40 rfl wf_RX8_246 in_32 rfl (by decide) rfl (by decide) ?_
        refine Vm.goto 67 dX8_tree_43 rfl ?_
        obtain rfl := Option.some.inj h
        exact Vm.iret dX8_tree_67 rfl hk.1 hk.2.symm
    · replace h := (if_pos c9).symm.trans h
      refine Vm.aload_n (n := 28) 0 dX8_tree_27 rfl rfl ?_
      refine Vm.gM (n := 31) dX8_tree_28 rfl wf_RX8_243 in_32 rfl (by decide) rfl (by decide) ?_
      refine Vm.goto 67 dX8_tree_31 rfl ?_
      obtain rfl := Option.some.inj h
      exact Vm.iret dX8_tree_67 rfl hk.1 hk.2.symm
  · replace h := (if_pos c9).symm.trans h
    refine Vm.aload_n (n := 13) 0 dX8_tree_12 rfl rfl ?_
    refine Vm.ldc (n := 15) dX8_tree_13 rfl wc_RX8_92 ?_
    replace h := Option.bind_eq_some_iff.mp h
    obtain ⟨q2, h2, h⟩ := h
    refine Vm.callV (Y := mX8_finds) (n := 18) [.inl (-1000000001 : Int32)] dX8_tree_15 rfl wv_RX8_102 omX8_finds rfl in_32 rfl rfl rfl (Nat.le_of_ble_eq_true rfl) (by decide) (kX8_finds (-1000000001 : Int32) σ τ h2) ?_
    obtain rfl := Option.some.inj h
    exact Vm.iret dX8_tree_18 rfl hk.1 hk.2.symm
theorem kX8_tree (a1 : Int32) (σ τ : mm) {q : Int32 × mm} (h : fX8_tree a1 σ = some q) : Cx mX8_tree 56 [.inr (.inr (32, 0)), .inl a1] (τ, σ) (some (.inl q.1)) (τ, q.2) :=
  Cx.of (lv := [(0, .inr (.inr (32, 0))), (1, .inl a1)]) (by decide) (fun ad => Nat.le_of_ble_eq_true rfl) (fun ad => rfl) (lX8_tree_0 a1 σ τ h ⟨rfl, rfl⟩)
-- ThinBodiesModel leaf (II)I
noncomputable def fX8_leaf_0 (a1 : Int32) (a2 : Int32) (σ : mm) : Option (Int32 × mm) :=
  if (bi (fX8_in a2.toInt64 (0 : Int64) (2 : Int64))) = (0 : Int32) then
  Option.bind (fX8_finds (-1000000001 : Int32) σ) fun q4 =>
  some ((q4.1, q4.2))
  else
  Option.bind (fX8_grows σ) fun q1 =>
  if (bi (fX8_in a1.toInt64 (0 : Int64) (((q1.1 32 0 18) - (1 : Int32)).toInt64))) = (0 : Int32) then
  Option.bind (fX8_finds (-1000000004 : Int32) q1) fun q2 =>
  some ((q2.1, q2.2))
  else
  Option.bind (rdI q1 57 0 45056 (((11 : Int32) * a1) + a2)) fun x3 =>
  some ((x3, q1))
noncomputable def fX8_leaf (a1 : Int32) (a2 : Int32) (σ : mm) : Option (Int32 × mm) := fX8_leaf_0 a1 a2 σ
set_option maxRecDepth 20000 in
theorem lX8_leaf_0 (a1 : Int32) (a2 : Int32) (σ τ : mm) {r : Option mv} {M' : mm × mm} {v9 : Int32 × mm} (h : fX8_leaf_0 a1 a2 σ = some v9) (hk : (fun q : Int32 × mm => r = some (.inl q.1) ∧ M' = (τ, q.2)) v9) : Vm mX8_leaf 56 0 [(0, .inr (.inr (32, 0))), (1, .inl a1), (2, .inl a2)] [] (τ, σ) r M' := by
  unfold fX8_leaf_0 at h
  refine Vm.iload_n (n := 1) 2 dX8_leaf_0 rfl rfl ?_
  refine Vm.i2l (n := 2) dX8_leaf_1 rfl ?_
  refine Vm.lconst (n := 3) (v := (0 : Int64)) dX8_leaf_2 rfl (by decide) ?_
  refine Vm.ldc2 (n := 6) dX8_leaf_3 rfl wl_RX8_220 ?_
  refine Vm.callS (Y := mX8_in) (n := 9) [.inr (.inl a2.toInt64), .inr (.inl (0 : Int64)), .inr (.inl (2 : Int64))] dX8_leaf_6 rfl wv_RX8_93 omX8_in rfl rfl (Nat.le_of_ble_eq_true rfl) (by decide) (kX8_in a2.toInt64 (0 : Int64) (2 : Int64) rfl) ?_
  refine Vm.if_ne (n := 12) 19 dX8_leaf_9 rfl rfl (fun c9 => ?_) (fun c9 => ?_)
  · replace h := (if_neg c9).symm.trans h
    refine Vm.aload_n (n := 20) 0 dX8_leaf_19 rfl rfl ?_
    replace h := Option.bind_eq_some_iff.mp h
    obtain ⟨q1, h1, h⟩ := h
    refine Vm.callVv (Y := mX8_grows) (n := 23) [] dX8_leaf_20 rfl wv_RX8_267 omX8_grows rfl in_32 rfl rfl rfl (Nat.le_of_ble_eq_true rfl) (by decide) (kX8_grows σ τ h1) ?_
    refine Vm.iload_n (n := 24) 1 dX8_leaf_23 rfl rfl ?_
    refine Vm.i2l (n := 25) dX8_leaf_24 rfl ?_
    refine Vm.lconst (n := 26) (v := (0 : Int64)) dX8_leaf_25 rfl (by decide) ?_
    refine Vm.aload_n (n := 27) 0 dX8_leaf_26 rfl rfl ?_
    refine Vm.gM (n := 30) dX8_leaf_27 rfl wf_RX8_237 in_32 rfl (by decide) rfl (by decide) ?_
    refine Vm.iconst (n := 31) (v := (1 : Int32)) dX8_leaf_30 rfl (by decide) ?_
    refine Vm.isub (n := 32) dX8_leaf_31 rfl ?_
    refine Vm.i2l (n := 33) dX8_leaf_32 rfl ?_
    refine Vm.callS (Y := mX8_in) (n := 36) [.inr (.inl a1.toInt64), .inr (.inl (0 : Int64)), .inr (.inl (((q1.1 32 0 18) - (1 : Int32)).toInt64))] dX8_leaf_33 rfl wv_RX8_93 omX8_in rfl rfl (Nat.le_of_ble_eq_true rfl) (by decide) (kX8_in a1.toInt64 (0 : Int64) (((q1.1 32 0 18) - (1 : Int32)).toInt64) rfl) ?_
    refine Vm.if_eq (n := 39) 53 dX8_leaf_36 rfl rfl (fun c9 => ?_) (fun c9 => ?_)
    · replace h := (if_pos c9).symm.trans h
      refine Vm.aload_n (n := 54) 0 dX8_leaf_53 rfl rfl ?_
      refine Vm.ldc (n := 56) dX8_leaf_54 rfl wc_RX8_167 ?_
      replace h := Option.bind_eq_some_iff.mp h
      obtain ⟨q2, h2, h⟩ := h
      refine Vm.callV (Y := mX8_finds) (n := 59) [.inl (-1000000004 : Int32)] dX8_leaf_56 rfl wv_RX8_102 omX8_finds rfl in_32 rfl rfl rfl (Nat.le_of_ble_eq_true rfl) (by decide) (kX8_finds (-1000000004 : Int32) q1 τ h2) ?_
      obtain rfl := Option.some.inj h
      exact Vm.iret dX8_leaf_59 rfl hk.1 hk.2.symm
    · replace h := (if_neg c9).symm.trans h
      refine Vm.aload_n (n := 40) 0 dX8_leaf_39 rfl rfl ?_
      refine Vm.getR (n := 43) dX8_leaf_40 rfl wf_RX8_49 in_32 rfl (by decide) rfl ?_
      refine Vm.bipush (n := 45) (v := (11 : Int32)) dX8_leaf_43 rfl (by decide) ?_
      refine Vm.iload_n (n := 46) 1 dX8_leaf_45 rfl rfl ?_
      refine Vm.imul (n := 47) dX8_leaf_46 rfl ?_
      refine Vm.iload_n (n := 48) 2 dX8_leaf_47 rfl rfl ?_
      refine Vm.iadd (n := 49) dX8_leaf_48 rfl ?_
      replace h := Option.bind_eq_some_iff.mp h
      obtain ⟨x3, h3, h⟩ := h
      refine Vm.ialdm (n := 50) dX8_leaf_49 rfl in_57 rfl rfl (by decide) h3 ?_
      refine Vm.goto 59 dX8_leaf_50 rfl ?_
      obtain rfl := Option.some.inj h
      exact Vm.iret dX8_leaf_59 rfl hk.1 hk.2.symm
  · replace h := (if_pos c9).symm.trans h
    refine Vm.aload_n (n := 13) 0 dX8_leaf_12 rfl rfl ?_
    refine Vm.ldc (n := 15) dX8_leaf_13 rfl wc_RX8_92 ?_
    replace h := Option.bind_eq_some_iff.mp h
    obtain ⟨q4, h4, h⟩ := h
    refine Vm.callV (Y := mX8_finds) (n := 18) [.inl (-1000000001 : Int32)] dX8_leaf_15 rfl wv_RX8_102 omX8_finds rfl in_32 rfl rfl rfl (Nat.le_of_ble_eq_true rfl) (by decide) (kX8_finds (-1000000001 : Int32) σ τ h4) ?_
    obtain rfl := Option.some.inj h
    exact Vm.iret dX8_leaf_18 rfl hk.1 hk.2.symm
theorem kX8_leaf (a1 : Int32) (a2 : Int32) (σ τ : mm) {q : Int32 × mm} (h : fX8_leaf a1 a2 σ = some q) : Cx mX8_leaf 56 [.inr (.inr (32, 0)), .inl a1, .inl a2] (τ, σ) (some (.inl q.1)) (τ, q.2) :=
  Cx.of (lv := [(0, .inr (.inr (32, 0))), (1, .inl a1), (2, .inl a2)]) (by decide) (fun ad => Nat.le_of_ble_eq_true rfl) (fun ad => rfl) (lX8_leaf_0 a1 a2 σ τ h ⟨rfl, rfl⟩)
-- ThinBodiesModel side (III)I
noncomputable def fX8_side_18 (σ : mm) : Option (Int32 × mm) :=
  Option.bind (fX8_finds (-1000000001 : Int32) σ) fun q1 =>
  some ((q1.1, q1.2))
noncomputable def fX8_side_0 (a1 : Int32) (a2 : Int32) (a3 : Int32) (σ : mm) : Option (Int32 × mm) :=
  if (bi (fX8_isLetter a2 σ)) = (0 : Int32) then
  fX8_side_18 σ
  else
  if (bi (fX8_in a3.toInt64 (0 : Int64) (1 : Int64))) = (0 : Int32) then
  fX8_side_18 σ
  else
  Option.bind (fX8_grows σ) fun q1 =>
  if (bi (fX8_in a1.toInt64 (0 : Int64) (((q1.1 32 0 18) - (1 : Int32)).toInt64))) = (0 : Int32) then
  Option.bind (fX8_finds (-1000000004 : Int32) q1) fun q2 =>
  some ((q2.1, q2.2))
  else
  Option.bind (rdI q1 57 0 45056 (((((11 : Int32) * a1) + (3 : Int32)) + ((2 : Int32) * a2)) + a3)) fun x3 =>
  some ((x3, q1))
noncomputable def fX8_side (a1 : Int32) (a2 : Int32) (a3 : Int32) (σ : mm) : Option (Int32 × mm) := fX8_side_0 a1 a2 a3 σ
set_option maxRecDepth 20000 in
theorem lX8_side_18 (σ τ : mm) {r : Option mv} {M' : mm × mm} {v9 : Int32 × mm} (h : fX8_side_18 σ = some v9) (hk : (fun q : Int32 × mm => r = some (.inl q.1) ∧ M' = (τ, q.2)) v9) : Vm mX8_side 56 18 [(0, .inr (.inr (32, 0)))] [] (τ, σ) r M' := by
  unfold fX8_side_18 at h
  refine Vm.aload_n (n := 19) 0 dX8_side_18 rfl rfl ?_
  refine Vm.ldc (n := 21) dX8_side_19 rfl wc_RX8_92 ?_
  replace h := Option.bind_eq_some_iff.mp h
  obtain ⟨q1, h1, h⟩ := h
  refine Vm.callV (Y := mX8_finds) (n := 24) [.inl (-1000000001 : Int32)] dX8_side_21 rfl wv_RX8_102 omX8_finds rfl in_32 rfl rfl rfl (Nat.le_of_ble_eq_true rfl) (by decide) (kX8_finds (-1000000001 : Int32) σ τ h1) ?_
  obtain rfl := Option.some.inj h
  exact Vm.iret dX8_side_24 rfl hk.1 hk.2.symm
set_option maxRecDepth 20000 in
theorem lX8_side_0 (a1 : Int32) (a2 : Int32) (a3 : Int32) (σ τ : mm) {r : Option mv} {M' : mm × mm} {v9 : Int32 × mm} (h : fX8_side_0 a1 a2 a3 σ = some v9) (hk : (fun q : Int32 × mm => r = some (.inl q.1) ∧ M' = (τ, q.2)) v9) : Vm mX8_side 56 0 [(0, .inr (.inr (32, 0))), (1, .inl a1), (2, .inl a2), (3, .inl a3)] [] (τ, σ) r M' := by
  unfold fX8_side_0 at h
  refine Vm.aload_n (n := 1) 0 dX8_side_0 rfl rfl ?_
  refine Vm.iload_n (n := 2) 2 dX8_side_1 rfl rfl ?_
  refine Vm.callV (Y := mX8_isLetter) (n := 5) [.inl a2] dX8_side_2 rfl wv_RX8_115 omX8_isLetter rfl in_32 rfl rfl rfl (Nat.le_of_ble_eq_true rfl) (by decide) (kX8_isLetter a2 σ τ rfl) ?_
  refine Vm.if_eq (n := 8) 18 dX8_side_5 rfl rfl (fun c9 => ?_) (fun c9 => ?_)
  · replace h := (if_pos c9).symm.trans h
    refine Vm.sub (lv' := [(0, .inr (.inr (32, 0)))]) [0] rfl ?_
    exact lX8_side_18 σ τ h hk
  · replace h := (if_neg c9).symm.trans h
    refine Vm.iload_n (n := 9) 3 dX8_side_8 rfl rfl ?_
    refine Vm.i2l (n := 10) dX8_side_9 rfl ?_
    refine Vm.lconst (n := 11) (v := (0 : Int64)) dX8_side_10 rfl (by decide) ?_
    refine Vm.lconst (n := 12) (v := (1 : Int64)) dX8_side_11 rfl (by decide) ?_
    refine Vm.callS (Y := mX8_in) (n := 15) [.inr (.inl a3.toInt64), .inr (.inl (0 : Int64)), .inr (.inl (1 : Int64))] dX8_side_12 rfl wv_RX8_93 omX8_in rfl rfl (Nat.le_of_ble_eq_true rfl) (by decide) (kX8_in a3.toInt64 (0 : Int64) (1 : Int64) rfl) ?_
    refine Vm.if_ne (n := 18) 25 dX8_side_15 rfl rfl (fun c9 => ?_) (fun c9 => ?_)
    · replace h := (if_neg c9).symm.trans h
      refine Vm.aload_n (n := 26) 0 dX8_side_25 rfl rfl ?_
      replace h := Option.bind_eq_some_iff.mp h
      obtain ⟨q1, h1, h⟩ := h
      refine Vm.callVv (Y := mX8_grows) (n := 29) [] dX8_side_26 rfl wv_RX8_267 omX8_grows rfl in_32 rfl rfl rfl (Nat.le_of_ble_eq_true rfl) (by decide) (kX8_grows σ τ h1) ?_
      refine Vm.iload_n (n := 30) 1 dX8_side_29 rfl rfl ?_
      refine Vm.i2l (n := 31) dX8_side_30 rfl ?_
      refine Vm.lconst (n := 32) (v := (0 : Int64)) dX8_side_31 rfl (by decide) ?_
      refine Vm.aload_n (n := 33) 0 dX8_side_32 rfl rfl ?_
      refine Vm.gM (n := 36) dX8_side_33 rfl wf_RX8_237 in_32 rfl (by decide) rfl (by decide) ?_
      refine Vm.iconst (n := 37) (v := (1 : Int32)) dX8_side_36 rfl (by decide) ?_
      refine Vm.isub (n := 38) dX8_side_37 rfl ?_
      refine Vm.i2l (n := 39) dX8_side_38 rfl ?_
      refine Vm.callS (Y := mX8_in) (n := 42) [.inr (.inl a1.toInt64), .inr (.inl (0 : Int64)), .inr (.inl (((q1.1 32 0 18) - (1 : Int32)).toInt64))] dX8_side_39 rfl wv_RX8_93 omX8_in rfl rfl (Nat.le_of_ble_eq_true rfl) (by decide) (kX8_in a1.toInt64 (0 : Int64) (((q1.1 32 0 18) - (1 : Int32)).toInt64) rfl) ?_
      refine Vm.if_eq (n := 45) 65 dX8_side_42 rfl rfl (fun c9 => ?_) (fun c9 => ?_)
      · replace h := (if_pos c9).symm.trans h
        refine Vm.aload_n (n := 66) 0 dX8_side_65 rfl rfl ?_
        refine Vm.ldc (n := 68) dX8_side_66 rfl wc_RX8_167 ?_
        replace h := Option.bind_eq_some_iff.mp h
        obtain ⟨q2, h2, h⟩ := h
        refine Vm.callV (Y := mX8_finds) (n := 71) [.inl (-1000000004 : Int32)] dX8_side_68 rfl wv_RX8_102 omX8_finds rfl in_32 rfl rfl rfl (Nat.le_of_ble_eq_true rfl) (by decide) (kX8_finds (-1000000004 : Int32) q1 τ h2) ?_
        obtain rfl := Option.some.inj h
        exact Vm.iret dX8_side_71 rfl hk.1 hk.2.symm
      · replace h := (if_neg c9).symm.trans h
        refine Vm.aload_n (n := 46) 0 dX8_side_45 rfl rfl ?_
        refine Vm.getR (n := 49) dX8_side_46 rfl wf_RX8_49 in_32 rfl (by decide) rfl ?_
        refine Vm.bipush (n := 51) (v := (11 : Int32)) dX8_side_49 rfl (by decide) ?_
        refine Vm.iload_n (n := 52) 1 dX8_side_51 rfl rfl ?_
        refine Vm.imul (n := 53) dX8_side_52 rfl ?_
        refine Vm.iconst (n := 54) (v := (3 : Int32)) dX8_side_53 rfl (by decide) ?_
        refine Vm.iadd (n := 55) dX8_side_54 rfl ?_
        refine Vm.iconst (n := 56) (v := (2 : Int32)) dX8_side_55 rfl (by decide) ?_
        refine Vm.iload_n (n := 57) 2 dX8_side_56 rfl rfl ?_
        refine Vm.imul (n := 58) dX8_side_57 rfl ?_
        refine Vm.iadd (n := 59) dX8_side_58 rfl ?_
        refine Vm.iload_n (n := 60) 3 dX8_side_59 rfl rfl ?_
        refine Vm.iadd (n := 61) dX8_side_60 rfl ?_
        replace h := Option.bind_eq_some_iff.mp h
        obtain ⟨x3, h3, h⟩ := h
        refine Vm.ialdm (n := 62) dX8_side_61 rfl in_57 rfl rfl (by decide) h3 ?_
        refine Vm.goto 71 dX8_side_62 rfl ?_
        obtain rfl := Option.some.inj h
        exact Vm.iret dX8_side_71 rfl hk.1 hk.2.symm
    · replace h := (if_pos c9).symm.trans h
      refine Vm.sub (lv' := [(0, .inr (.inr (32, 0)))]) [0] rfl ?_
      exact lX8_side_18 σ τ h hk
theorem kX8_side (a1 : Int32) (a2 : Int32) (a3 : Int32) (σ τ : mm) {q : Int32 × mm} (h : fX8_side a1 a2 a3 σ = some q) : Cx mX8_side 56 [.inr (.inr (32, 0)), .inl a1, .inl a2, .inl a3] (τ, σ) (some (.inl q.1)) (τ, q.2) :=
  Cx.of (lv := [(0, .inr (.inr (32, 0))), (1, .inl a1), (2, .inl a2), (3, .inl a3)]) (by decide) (fun ad => Nat.le_of_ble_eq_true rfl) (fun ad => rfl) (lX8_side_0 a1 a2 a3 σ τ h ⟨rfl, rfl⟩)
-- ThinBodiesModel where (I)I
noncomputable def fX8_where_102 (a3 : Int32) (a5 : Int32) (s0 : Int32) (σ : mm) : Option ((Int32 × Int32) ⊕ ((Int32) ⊕ (Int32 × mm))) :=
  Option.bind (some (a5 + (1 : Int32))) fun x1 =>
  some (.inl (s0, x1))
noncomputable def fX8_where_101 (a3 : Int32) (a5 : Int32) (σ : mm) : Option ((Int32 × Int32) ⊕ ((Int32) ⊕ (Int32 × mm))) :=
  fX8_where_102 a3 a5 (0 : Int32) σ
noncomputable def fX8_where_36 (a3 : Int32) (a4 : Int32) (a5 : Int32) (σ : mm) : Option ((Int32 × Int32) ⊕ ((Int32) ⊕ (Int32 × mm))) :=
  if (σ.1 32 0 1) ≤ a5 then
  if a4 = (0 : Int32) then
  Option.bind (some (a3 + (1 : Int32))) fun x1 =>
  some (.inr (.inl (x1)))
  else
  some (.inr (.inr ((a3, σ))))
  else
  if a4 = (0 : Int32) then
  fX8_where_101 a3 a5 σ
  else
  Option.bind (rdL σ 48 0 4 a5) fun x2 =>
  Option.bind (rdI σ 57 0 45056 ((((11 : Int32) * a3) + (3 : Int32)) + ((2 : Int32) * a5))) fun x3 =>
  Option.bind (rdI σ 57 0 45056 ((((11 : Int32) * a3) + (4 : Int32)) + ((2 : Int32) * a5))) fun x4 =>
  if (bi (fX8_in x2 x3.toInt64 x4.toInt64)) = (0 : Int32) then
  fX8_where_101 a3 a5 σ
  else
  fX8_where_102 a3 a5 (1 : Int32) σ
noncomputable def fX8_where_36_L (a3 : Int32) (σ : mm) : Int32 × Int32 → Option ((Int32 × Int32) ⊕ ((Int32) ⊕ (Int32 × mm))) := fun z => fX8_where_36 a3 z.1 z.2 σ
noncomputable def fX8_where_22 (a3 : Int32) (σ : mm) : Option ((Int32) ⊕ (Int32 × mm)) :=
  if (σ.1 32 0 18) ≤ a3 then
  Option.bind (fX8_finds (-1000000004 : Int32) σ) fun q1 =>
  some (.inr ((q1.1, q1.2)))
  else
  lp (fX8_where_36_L a3 σ) ((1 : Int32), (0 : Int32))
noncomputable def fX8_where_22_L (σ : mm) : Int32 → Option ((Int32) ⊕ (Int32 × mm)) := fun z => fX8_where_22 z σ
noncomputable def fX8_where_0 (a1 : Int32) (σ : mm) : Option (Int32 × mm) :=
  Option.bind (fX8_takes a1 σ) fun q1 =>
  if q1.1 = (0 : Int32) then
  Option.bind (fX8_grows q1.2) fun q2 =>
  lp (fX8_where_22_L q2) ((0 : Int32))
  else
  Option.bind (fX8_finds q1.1 q1.2) fun q3 =>
  some ((q3.1, q3.2))
noncomputable def fX8_where (a1 : Int32) (σ : mm) : Option (Int32 × mm) := fX8_where_0 a1 σ
set_option maxRecDepth 20000 in
theorem lX8_where_102 (a3 : Int32) (a5 : Int32) (s0 : Int32) (σ τ : mm) {r : Option mv} {M' : mm × mm} {v9 : (Int32 × Int32) ⊕ ((Int32) ⊕ (Int32 × mm))} (h : fX8_where_102 a3 a5 s0 σ = some v9) (hk : (Sum.elim (fun z : Int32 × Int32 => Vm mX8_where 56 36 [(0, .inr (.inr (32, 0))), (3, .inl a3), (4, .inl z.1), (5, .inl z.2)] [] (τ, σ) r M') (Sum.elim (fun z : Int32 => Vm mX8_where 56 22 [(0, .inr (.inr (32, 0))), (3, .inl z)] [] (τ, σ) r M') (fun q : Int32 × mm => r = some (.inl q.1) ∧ M' = (τ, q.2)))) v9) : Vm mX8_where 56 102 [(0, .inr (.inr (32, 0))), (3, .inl a3), (5, .inl a5)] [.inl s0] (τ, σ) r M' := by
  unfold fX8_where_102 at h
  refine Vm.istore (n := 104) (lv' := [(4, .inl s0), (0, .inr (.inr (32, 0))), (3, .inl a3), (5, .inl a5)]) dX8_where_102 rfl (Nat.le_of_ble_eq_true rfl) rfl ?_
  replace h := Option.bind_eq_some_iff.mp h
  obtain ⟨x1, e1, h⟩ := h
  replace e1 := Option.some.inj e1
  refine Vm.iinc (n := 107) (v := x1) (lv' := [(5, .inl x1), (4, .inl s0), (0, .inr (.inr (32, 0))), (3, .inl a3)]) 3 dX8_where_104 rfl rfl e1 (Nat.le_of_ble_eq_true rfl) rfl ?_
  refine Vm.goto 36 dX8_where_107 rfl ?_
  refine Vm.sub (lv' := [(0, .inr (.inr (32, 0))), (3, .inl a3), (4, .inl s0), (5, .inl x1)]) [2, 3, 1, 0] rfl ?_
  obtain rfl := Option.some.inj h
  exact hk
set_option maxRecDepth 20000 in
theorem lX8_where_101 (a3 : Int32) (a5 : Int32) (σ τ : mm) {r : Option mv} {M' : mm × mm} {v9 : (Int32 × Int32) ⊕ ((Int32) ⊕ (Int32 × mm))} (h : fX8_where_101 a3 a5 σ = some v9) (hk : (Sum.elim (fun z : Int32 × Int32 => Vm mX8_where 56 36 [(0, .inr (.inr (32, 0))), (3, .inl a3), (4, .inl z.1), (5, .inl z.2)] [] (τ, σ) r M') (Sum.elim (fun z : Int32 => Vm mX8_where 56 22 [(0, .inr (.inr (32, 0))), (3, .inl z)] [] (τ, σ) r M') (fun q : Int32 × mm => r = some (.inl q.1) ∧ M' = (τ, q.2)))) v9) : Vm mX8_where 56 101 [(0, .inr (.inr (32, 0))), (3, .inl a3), (5, .inl a5)] [] (τ, σ) r M' := by
  unfold fX8_where_101 at h
  refine Vm.iconst (n := 102) (v := (0 : Int32)) dX8_where_101 rfl (by decide) ?_
  exact lX8_where_102 a3 a5 (0 : Int32) σ τ h hk
set_option maxRecDepth 20000 in
theorem lX8_where_36 (a3 : Int32) (a4 : Int32) (a5 : Int32) (σ τ : mm) {r : Option mv} {M' : mm × mm} {v9 : (Int32 × Int32) ⊕ ((Int32) ⊕ (Int32 × mm))} (h : fX8_where_36 a3 a4 a5 σ = some v9) (hk : (Sum.elim (fun z : Int32 × Int32 => Vm mX8_where 56 36 [(0, .inr (.inr (32, 0))), (3, .inl a3), (4, .inl z.1), (5, .inl z.2)] [] (τ, σ) r M') (Sum.elim (fun z : Int32 => Vm mX8_where 56 22 [(0, .inr (.inr (32, 0))), (3, .inl z)] [] (τ, σ) r M') (fun q : Int32 × mm => r = some (.inl q.1) ∧ M' = (τ, q.2)))) v9) : Vm mX8_where 56 36 [(0, .inr (.inr (32, 0))), (3, .inl a3), (4, .inl a4), (5, .inl a5)] [] (τ, σ) r M' := by
  unfold fX8_where_36 at h
  refine Vm.iload (n := 38) 3 dX8_where_36 rfl rfl ?_
  refine Vm.aload_n (n := 39) 0 dX8_where_38 rfl rfl ?_
  refine Vm.gM (n := 42) dX8_where_39 rfl wf_RX8_13 in_32 rfl (by decide) rfl (by decide) ?_
  refine Vm.icmp_ge (n := 45) 110 dX8_where_42 rfl rfl (fun c9 => ?_) (fun c9 => ?_)
  · replace h := (if_pos c9).symm.trans h
    refine Vm.iload (n := 112) 2 dX8_where_110 rfl rfl ?_
    refine Vm.if_eq (n := 115) 117 dX8_where_112 rfl rfl (fun c9 => ?_) (fun c9 => ?_)
    · replace h := (if_pos c9).symm.trans h
      replace h := Option.bind_eq_some_iff.mp h
      obtain ⟨x1, e1, h⟩ := h
      replace e1 := Option.some.inj e1
      refine Vm.iinc (n := 120) (v := x1) (lv' := [(3, .inl x1), (0, .inr (.inr (32, 0))), (4, .inl a4), (5, .inl a5)]) 1 dX8_where_117 rfl rfl e1 (Nat.le_of_ble_eq_true rfl) rfl ?_
      refine Vm.goto 22 dX8_where_120 rfl ?_
      refine Vm.sub (lv' := [(0, .inr (.inr (32, 0))), (3, .inl x1)]) [1, 0] rfl ?_
      obtain rfl := Option.some.inj h
      exact hk
    · replace h := (if_neg c9).symm.trans h
      refine Vm.iload_n (n := 116) 1 dX8_where_115 rfl rfl ?_
      obtain rfl := Option.some.inj h
      exact Vm.iret dX8_where_116 rfl hk.1 hk.2.symm
  · replace h := (if_neg c9).symm.trans h
    refine Vm.iload (n := 47) 2 dX8_where_45 rfl rfl ?_
    refine Vm.if_eq (n := 50) 101 dX8_where_47 rfl rfl (fun c9 => ?_) (fun c9 => ?_)
    · replace h := (if_pos c9).symm.trans h
      refine Vm.sub (lv' := [(0, .inr (.inr (32, 0))), (3, .inl a3), (5, .inl a5)]) [0, 1, 3] rfl ?_
      exact lX8_where_101 a3 a5 σ τ h hk
    · replace h := (if_neg c9).symm.trans h
      refine Vm.aload_n (n := 51) 0 dX8_where_50 rfl rfl ?_
      refine Vm.getR (n := 54) dX8_where_51 rfl wf_RX8_32 in_32 rfl (by decide) rfl ?_
      refine Vm.iload (n := 56) 3 dX8_where_54 rfl rfl ?_
      replace h := Option.bind_eq_some_iff.mp h
      obtain ⟨x2, h2, h⟩ := h
      refine Vm.laldm (n := 57) dX8_where_56 rfl in_48 rfl rfl (by decide) h2 ?_
      refine Vm.aload_n (n := 58) 0 dX8_where_57 rfl rfl ?_
      refine Vm.getR (n := 61) dX8_where_58 rfl wf_RX8_49 in_32 rfl (by decide) rfl ?_
      refine Vm.bipush (n := 63) (v := (11 : Int32)) dX8_where_61 rfl (by decide) ?_
      refine Vm.iload_n (n := 64) 1 dX8_where_63 rfl rfl ?_
      refine Vm.imul (n := 65) dX8_where_64 rfl ?_
      refine Vm.iconst (n := 66) (v := (3 : Int32)) dX8_where_65 rfl (by decide) ?_
      refine Vm.iadd (n := 67) dX8_where_66 rfl ?_
      refine Vm.iconst (n := 68) (v := (2 : Int32)) dX8_where_67 rfl (by decide) ?_
      refine Vm.iload (n := 70) 3 dX8_where_68 rfl rfl ?_
      refine Vm.imul (n := 71) dX8_where_70 rfl ?_
      refine Vm.iadd (n := 72) dX8_where_71 rfl ?_
      replace h := Option.bind_eq_some_iff.mp h
      obtain ⟨x3, h3, h⟩ := h
      refine Vm.ialdm (n := 73) dX8_where_72 rfl in_57 rfl rfl (by decide) h3 ?_
      refine Vm.i2l (n := 74) dX8_where_73 rfl ?_
      refine Vm.aload_n (n := 75) 0 dX8_where_74 rfl rfl ?_
      refine Vm.getR (n := 78) dX8_where_75 rfl wf_RX8_49 in_32 rfl (by decide) rfl ?_
      refine Vm.bipush (n := 80) (v := (11 : Int32)) dX8_where_78 rfl (by decide) ?_
      refine Vm.iload_n (n := 81) 1 dX8_where_80 rfl rfl ?_
      refine Vm.imul (n := 82) dX8_where_81 rfl ?_
      refine Vm.iconst (n := 83) (v := (4 : Int32)) dX8_where_82 rfl (by decide) ?_
      refine Vm.iadd (n := 84) dX8_where_83 rfl ?_
      refine Vm.iconst (n := 85) (v := (2 : Int32)) dX8_where_84 rfl (by decide) ?_
      refine Vm.iload (n := 87) 3 dX8_where_85 rfl rfl ?_
      refine Vm.imul (n := 88) dX8_where_87 rfl ?_
      refine Vm.iadd (n := 89) dX8_where_88 rfl ?_
      replace h := Option.bind_eq_some_iff.mp h
      obtain ⟨x4, h4, h⟩ := h
      refine Vm.ialdm (n := 90) dX8_where_89 rfl in_57 rfl rfl (by decide) h4 ?_
      refine Vm.i2l (n := 91) dX8_where_90 rfl ?_
      refine Vm.callS (Y := mX8_in) (n := 94) [.inr (.inl x2), .inr (.inl x3.toInt64), .inr (.inl x4.toInt64)] dX8_where_91 rfl wv_RX8_93 omX8_in rfl rfl (Nat.le_of_ble_eq_true rfl) (by decide) (kX8_in x2 x3.toInt64 x4.toInt64 rfl) ?_
      refine Vm.if_eq (n := 97) 101 dX8_where_94 rfl rfl (fun c9 => ?_) (fun c9 => ?_)
      · replace h := (if_pos c9).symm.trans h
        refine Vm.sub (lv' := [(0, .inr (.inr (32, 0))), (3, .inl a3), (5, .inl a5)]) [0, 1, 3] rfl ?_
        exact lX8_where_101 a3 a5 σ τ h hk
      · replace h := (if_neg c9).symm.trans h
        refine Vm.iconst (n := 98) (v := (1 : Int32)) dX8_where_97 rfl (by decide) ?_
        refine Vm.goto 102 dX8_where_98 rfl ?_
        refine Vm.sub (lv' := [(0, .inr (.inr (32, 0))), (3, .inl a3), (5, .inl a5)]) [0, 1, 3] rfl ?_
        exact lX8_where_102 a3 a5 (1 : Int32) σ τ h hk
theorem lX8_where_36_L (a3 : Int32) (σ τ : mm) {r : Option mv} {M' : mm × mm} (z : Int32 × Int32) (w9 : (Int32) ⊕ (Int32 × mm)) (h : lp (fX8_where_36_L a3 σ) z = some w9) (hk : (Sum.elim (fun z : Int32 => Vm mX8_where 56 22 [(0, .inr (.inr (32, 0))), (3, .inl z)] [] (τ, σ) r M') (fun q : Int32 × mm => r = some (.inl q.1) ∧ M' = (τ, q.2))) w9) : Vm mX8_where 56 36 [(0, .inr (.inr (32, 0))), (3, .inl a3), (4, .inl z.1), (5, .inl z.2)] [] (τ, σ) r M' :=
  lp_link (S := Int32 × Int32) (R := (Int32) ⊕ (Int32 × mm)) (body := fX8_where_36_L a3 σ) (A := fun z : Int32 × Int32 => Vm mX8_where 56 36 [(0, .inr (.inr (32, 0))), (3, .inl a3), (4, .inl z.1), (5, .inl z.2)] [] (τ, σ) r M') (B := fun w : (Int32) ⊕ (Int32 × mm) => (Sum.elim (fun z : Int32 => Vm mX8_where 56 22 [(0, .inr (.inr (32, 0))), (3, .inl z)] [] (τ, σ) r M') (fun q : Int32 × mm => r = some (.inl q.1) ∧ M' = (τ, q.2))) w) (fun z v hb hv => lX8_where_36 a3 z.1 z.2 σ τ hb hv) z w9 h hk
set_option maxRecDepth 20000 in
theorem lX8_where_22 (a3 : Int32) (σ τ : mm) {r : Option mv} {M' : mm × mm} {v9 : (Int32) ⊕ (Int32 × mm)} (h : fX8_where_22 a3 σ = some v9) (hk : (Sum.elim (fun z : Int32 => Vm mX8_where 56 22 [(0, .inr (.inr (32, 0))), (3, .inl z)] [] (τ, σ) r M') (fun q : Int32 × mm => r = some (.inl q.1) ∧ M' = (τ, q.2))) v9) : Vm mX8_where 56 22 [(0, .inr (.inr (32, 0))), (3, .inl a3)] [] (τ, σ) r M' := by
  unfold fX8_where_22 at h
  refine Vm.iload_n (n := 23) 1 dX8_where_22 rfl rfl ?_
  refine Vm.aload_n (n := 24) 0 dX8_where_23 rfl rfl ?_
  refine Vm.gM (n := 27) dX8_where_24 rfl wf_RX8_237 in_32 rfl (by decide) rfl (by decide) ?_
  refine Vm.icmp_ge (n := 30) 123 dX8_where_27 rfl rfl (fun c9 => ?_) (fun c9 => ?_)
  · replace h := (if_pos c9).symm.trans h
    refine Vm.aload_n (n := 124) 0 dX8_where_123 rfl rfl ?_
    refine Vm.ldc (n := 126) dX8_where_124 rfl wc_RX8_167 ?_
    replace h := Option.bind_eq_some_iff.mp h
    obtain ⟨q1, h1, h⟩ := h
    refine Vm.callV (Y := mX8_finds) (n := 129) [.inl (-1000000004 : Int32)] dX8_where_126 rfl wv_RX8_102 omX8_finds rfl in_32 rfl rfl rfl (Nat.le_of_ble_eq_true rfl) (by decide) (kX8_finds (-1000000004 : Int32) σ τ h1) ?_
    obtain rfl := Option.some.inj h
    exact Vm.iret dX8_where_129 rfl hk.1 hk.2.symm
  · replace h := (if_neg c9).symm.trans h
    refine Vm.iconst (n := 31) (v := (1 : Int32)) dX8_where_30 rfl (by decide) ?_
    refine Vm.istore (n := 33) (lv' := [(4, .inl (1 : Int32)), (0, .inr (.inr (32, 0))), (3, .inl a3)]) dX8_where_31 rfl (Nat.le_of_ble_eq_true rfl) rfl ?_
    refine Vm.iconst (n := 34) (v := (0 : Int32)) dX8_where_33 rfl (by decide) ?_
    refine Vm.istore (n := 36) (lv' := [(5, .inl (0 : Int32)), (4, .inl (1 : Int32)), (0, .inr (.inr (32, 0))), (3, .inl a3)]) dX8_where_34 rfl (Nat.le_of_ble_eq_true rfl) rfl ?_
    refine Vm.sub (lv' := [(0, .inr (.inr (32, 0))), (3, .inl a3), (4, .inl (1 : Int32)), (5, .inl (0 : Int32))]) [2, 3, 1, 0] rfl ?_
    exact lX8_where_36_L a3 σ τ ((1 : Int32), (0 : Int32)) _ h hk
theorem lX8_where_22_L (σ τ : mm) {r : Option mv} {M' : mm × mm} (z : Int32) (w9 : Int32 × mm) (h : lp (fX8_where_22_L σ) z = some w9) (hk : (fun q : Int32 × mm => r = some (.inl q.1) ∧ M' = (τ, q.2)) w9) : Vm mX8_where 56 22 [(0, .inr (.inr (32, 0))), (3, .inl z)] [] (τ, σ) r M' :=
  lp_link (S := Int32) (R := Int32 × mm) (body := fX8_where_22_L σ) (A := fun z : Int32 => Vm mX8_where 56 22 [(0, .inr (.inr (32, 0))), (3, .inl z)] [] (τ, σ) r M') (B := fun w : Int32 × mm => (fun q : Int32 × mm => r = some (.inl q.1) ∧ M' = (τ, q.2)) w) (fun z v hb hv => lX8_where_22 z σ τ hb hv) z w9 h hk
set_option maxRecDepth 20000 in
theorem lX8_where_0 (a1 : Int32) (σ τ : mm) {r : Option mv} {M' : mm × mm} {v9 : Int32 × mm} (h : fX8_where_0 a1 σ = some v9) (hk : (fun q : Int32 × mm => r = some (.inl q.1) ∧ M' = (τ, q.2)) v9) : Vm mX8_where 56 0 [(0, .inr (.inr (32, 0))), (1, .inl a1)] [] (τ, σ) r M' := by
  unfold fX8_where_0 at h
  refine Vm.aload_n (n := 1) 0 dX8_where_0 rfl rfl ?_
  refine Vm.iload_n (n := 2) 1 dX8_where_1 rfl rfl ?_
  replace h := Option.bind_eq_some_iff.mp h
  obtain ⟨q1, h1, h⟩ := h
  refine Vm.callV (Y := mX8_takes) (n := 5) [.inl a1] dX8_where_2 rfl wv_RX8_200 omX8_takes rfl in_32 rfl rfl rfl (Nat.le_of_ble_eq_true rfl) (by decide) (kX8_takes a1 σ τ h1) ?_
  refine Vm.istore_n (n := 6) (lv' := [(2, .inl q1.1), (0, .inr (.inr (32, 0))), (1, .inl a1)]) dX8_where_5 rfl (Nat.le_of_ble_eq_true rfl) rfl ?_
  refine Vm.iload_n (n := 7) 0 dX8_where_6 rfl rfl ?_
  refine Vm.if_eq (n := 10) 16 dX8_where_7 rfl rfl (fun c9 => ?_) (fun c9 => ?_)
  · replace h := (if_pos c9).symm.trans h
    refine Vm.aload_n (n := 17) 1 dX8_where_16 rfl rfl ?_
    replace h := Option.bind_eq_some_iff.mp h
    obtain ⟨q2, h2, h⟩ := h
    refine Vm.callVv (Y := mX8_grows) (n := 20) [] dX8_where_17 rfl wv_RX8_267 omX8_grows rfl in_32 rfl rfl rfl (Nat.le_of_ble_eq_true rfl) (by decide) (kX8_grows q1.2 τ h2) ?_
    refine Vm.iconst (n := 21) (v := (0 : Int32)) dX8_where_20 rfl (by decide) ?_
    refine Vm.istore_n (n := 22) (lv' := [(3, .inl (0 : Int32)), (2, .inl q1.1), (0, .inr (.inr (32, 0))), (1, .inl a1)]) dX8_where_21 rfl (Nat.le_of_ble_eq_true rfl) rfl ?_
    refine Vm.sub (lv' := [(0, .inr (.inr (32, 0))), (3, .inl (0 : Int32))]) [2, 0] rfl ?_
    exact lX8_where_22_L q2 τ ((0 : Int32)) _ h hk
  · replace h := (if_neg c9).symm.trans h
    refine Vm.aload_n (n := 11) 1 dX8_where_10 rfl rfl ?_
    refine Vm.iload_n (n := 12) 0 dX8_where_11 rfl rfl ?_
    replace h := Option.bind_eq_some_iff.mp h
    obtain ⟨q3, h3, h⟩ := h
    refine Vm.callV (Y := mX8_finds) (n := 15) [.inl q1.1] dX8_where_12 rfl wv_RX8_102 omX8_finds rfl in_32 rfl rfl rfl (Nat.le_of_ble_eq_true rfl) (by decide) (kX8_finds q1.1 q1.2 τ h3) ?_
    obtain rfl := Option.some.inj h
    exact Vm.iret dX8_where_15 rfl hk.1 hk.2.symm
theorem kX8_where (a1 : Int32) (σ τ : mm) {q : Int32 × mm} (h : fX8_where a1 σ = some q) : Cx mX8_where 56 [.inr (.inr (32, 0)), .inl a1] (τ, σ) (some (.inl q.1)) (τ, q.2) :=
  Cx.of (lv := [(0, .inr (.inr (32, 0))), (1, .inl a1)]) (by decide) (fun ad => Nat.le_of_ble_eq_true rfl) (fun ad => rfl) (lX8_where_0 a1 σ τ h ⟨rfl, rfl⟩)
-- ThinBodiesModel judge (I)I
noncomputable def fX8_judge_137 (a2 : Int32) (σ : mm) : Option (Int32 × mm) :=
  some (((1 : Int32) + a2, σ))
noncomputable def fX8_judge_115 (a1 : Int32) (a2 : Int32) (σ : mm) : Option (Int32 × mm) :=
  if a2 = (σ.1 32 0 18) then
  Option.bind (rdI σ 76 0 4 a1) fun x1 =>
  if a2 = x1 then
  some (((0 : Int32), σ))
  else
  fX8_judge_137 a2 σ
  else
  fX8_judge_137 a2 σ
noncomputable def fX8_judge_104 (a1 : Int32) (a2 : Int32) (s0 : Int64) (s1 : Int32) (σ : mm) : Option ((Int32) ⊕ (Int32 × mm)) :=
  if (lg_cmp s0 s1.toInt64) = (0 : Int32) then
  Option.bind (some (a2 + (1 : Int32))) fun x1 =>
  some (.inl (x1))
  else
  Option.map Sum.inr (fX8_judge_115 a1 a2 σ)
noncomputable def fX8_judge_36 (a1 : Int32) (a2 : Int32) (σ : mm) : Option ((Int32) ⊕ (Int32 × mm)) :=
  if (σ.1 32 0 18) ≤ a2 then
  Option.map Sum.inr (fX8_judge_115 a1 a2 σ)
  else
  Option.bind (rdI σ 76 0 4 a1) fun x1 =>
  if x1 ≤ a2 then
  Option.map Sum.inr (fX8_judge_115 a1 a2 σ)
  else
  Option.bind (rdL σ 77 0 160 (((40 : Int32) * a1) + a2)) fun x2 =>
  Option.bind (rdI σ 57 0 45056 ((11 : Int32) * a2)) fun x3 =>
  if x3 = (1 : Int32) then
  Option.bind (rdI σ 57 0 45056 (((11 : Int32) * a2) + (1 : Int32))) fun x5 =>
  fX8_judge_104 a1 a2 x2 x5 σ
  else
  Option.bind (rdI σ 57 0 45056 (((11 : Int32) * a2) + (1 : Int32))) fun x4 =>
  fX8_judge_104 a1 a2 x2 (-x4) σ
noncomputable def fX8_judge_36_L (a1 : Int32) (σ : mm) : Int32 → Option ((Int32) ⊕ (Int32 × mm)) := fun z => fX8_judge_36 a1 z σ
noncomputable def fX8_judge_0 (a1 : Int32) (σ : mm) : Option (Int32 × mm) :=
  if (bi (fX8_isSheet a1)) = (0 : Int32) then
  Option.bind (fX8_finds (-1000000001 : Int32) σ) fun q4 =>
  some ((q4.1, q4.2))
  else
  Option.bind (rdI σ 75 0 4 a1) fun x1 =>
  if x1 = (0 : Int32) then
  Option.bind (fX8_finds (-1000000006 : Int32) σ) fun q3 =>
  some ((q3.1, q3.2))
  else
  Option.bind (fX8_grows σ) fun q2 =>
  lp (fX8_judge_36_L a1 q2) ((0 : Int32))
noncomputable def fX8_judge (a1 : Int32) (σ : mm) : Option (Int32 × mm) := fX8_judge_0 a1 σ
set_option maxRecDepth 20000 in
theorem lX8_judge_137 (a2 : Int32) (σ τ : mm) {r : Option mv} {M' : mm × mm} {v9 : Int32 × mm} (h : fX8_judge_137 a2 σ = some v9) (hk : (fun q : Int32 × mm => r = some (.inl q.1) ∧ M' = (τ, q.2)) v9) : Vm mX8_judge 56 137 [(2, .inl a2)] [] (τ, σ) r M' := by
  unfold fX8_judge_137 at h
  refine Vm.iconst (n := 138) (v := (1 : Int32)) dX8_judge_137 rfl (by decide) ?_
  refine Vm.iload_n (n := 139) 0 dX8_judge_138 rfl rfl ?_
  refine Vm.iadd (n := 140) dX8_judge_139 rfl ?_
  obtain rfl := Option.some.inj h
  exact Vm.iret dX8_judge_140 rfl hk.1 hk.2.symm
set_option maxRecDepth 20000 in
theorem lX8_judge_115 (a1 : Int32) (a2 : Int32) (σ τ : mm) {r : Option mv} {M' : mm × mm} {v9 : Int32 × mm} (h : fX8_judge_115 a1 a2 σ = some v9) (hk : (fun q : Int32 × mm => r = some (.inl q.1) ∧ M' = (τ, q.2)) v9) : Vm mX8_judge 56 115 [(0, .inr (.inr (32, 0))), (1, .inl a1), (2, .inl a2)] [] (τ, σ) r M' := by
  unfold fX8_judge_115 at h
  refine Vm.iload_n (n := 116) 2 dX8_judge_115 rfl rfl ?_
  refine Vm.aload_n (n := 117) 0 dX8_judge_116 rfl rfl ?_
  refine Vm.gM (n := 120) dX8_judge_117 rfl wf_RX8_237 in_32 rfl (by decide) rfl (by decide) ?_
  refine Vm.icmp_ne (n := 123) 137 dX8_judge_120 rfl rfl (fun c9 => ?_) (fun c9 => ?_)
  · replace h := (if_neg c9).symm.trans h
    refine Vm.sub (lv' := [(2, .inl a2)]) [2] rfl ?_
    exact lX8_judge_137 a2 σ τ h hk
  · replace h := (if_pos c9).symm.trans h
    refine Vm.iload_n (n := 124) 2 dX8_judge_123 rfl rfl ?_
    refine Vm.aload_n (n := 125) 0 dX8_judge_124 rfl rfl ?_
    refine Vm.getR (n := 128) dX8_judge_125 rfl wf_RX8_74 in_32 rfl (by decide) rfl ?_
    refine Vm.iload_n (n := 129) 1 dX8_judge_128 rfl rfl ?_
    replace h := Option.bind_eq_some_iff.mp h
    obtain ⟨x1, h1, h⟩ := h
    refine Vm.ialdm (n := 130) dX8_judge_129 rfl in_76 rfl rfl (by decide) h1 ?_
    refine Vm.icmp_ne (n := 133) 137 dX8_judge_130 rfl rfl (fun c9 => ?_) (fun c9 => ?_)
    · replace h := (if_neg c9).symm.trans h
      refine Vm.sub (lv' := [(2, .inl a2)]) [2] rfl ?_
      exact lX8_judge_137 a2 σ τ h hk
    · replace h := (if_pos c9).symm.trans h
      refine Vm.iconst (n := 134) (v := (0 : Int32)) dX8_judge_133 rfl (by decide) ?_
      refine Vm.goto 140 dX8_judge_134 rfl ?_
      obtain rfl := Option.some.inj h
      exact Vm.iret dX8_judge_140 rfl hk.1 hk.2.symm
set_option maxRecDepth 20000 in
theorem lX8_judge_104 (a1 : Int32) (a2 : Int32) (s0 : Int64) (s1 : Int32) (σ τ : mm) {r : Option mv} {M' : mm × mm} {v9 : (Int32) ⊕ (Int32 × mm)} (h : fX8_judge_104 a1 a2 s0 s1 σ = some v9) (hk : (Sum.elim (fun z : Int32 => Vm mX8_judge 56 36 [(0, .inr (.inr (32, 0))), (1, .inl a1), (2, .inl z)] [] (τ, σ) r M') (fun q : Int32 × mm => r = some (.inl q.1) ∧ M' = (τ, q.2))) v9) : Vm mX8_judge 56 104 [(0, .inr (.inr (32, 0))), (1, .inl a1), (2, .inl a2)] [.inl s1, .inr (.inl s0)] (τ, σ) r M' := by
  unfold fX8_judge_104 at h
  refine Vm.i2l (n := 105) dX8_judge_104 rfl ?_
  refine Vm.lcmp (n := 106) dX8_judge_105 rfl ?_
  refine Vm.if_ne (n := 109) 115 dX8_judge_106 rfl rfl (fun c9 => ?_) (fun c9 => ?_)
  · replace h := (if_neg c9).symm.trans h
    replace h := Option.map_eq_some_iff.mp h
    obtain ⟨w9, h, e8⟩ := h
    subst e8
    exact lX8_judge_115 a1 a2 σ τ h hk
  · replace h := (if_pos c9).symm.trans h
    replace h := Option.bind_eq_some_iff.mp h
    obtain ⟨x1, e1, h⟩ := h
    replace e1 := Option.some.inj e1
    refine Vm.iinc (n := 112) (v := x1) (lv' := [(2, .inl x1), (0, .inr (.inr (32, 0))), (1, .inl a1)]) 2 dX8_judge_109 rfl rfl e1 (Nat.le_of_ble_eq_true rfl) rfl ?_
    refine Vm.goto 36 dX8_judge_112 rfl ?_
    refine Vm.sub (lv' := [(0, .inr (.inr (32, 0))), (1, .inl a1), (2, .inl x1)]) [1, 2, 0] rfl ?_
    obtain rfl := Option.some.inj h
    exact hk
set_option maxRecDepth 20000 in
theorem lX8_judge_36 (a1 : Int32) (a2 : Int32) (σ τ : mm) {r : Option mv} {M' : mm × mm} {v9 : (Int32) ⊕ (Int32 × mm)} (h : fX8_judge_36 a1 a2 σ = some v9) (hk : (Sum.elim (fun z : Int32 => Vm mX8_judge 56 36 [(0, .inr (.inr (32, 0))), (1, .inl a1), (2, .inl z)] [] (τ, σ) r M') (fun q : Int32 × mm => r = some (.inl q.1) ∧ M' = (τ, q.2))) v9) : Vm mX8_judge 56 36 [(0, .inr (.inr (32, 0))), (1, .inl a1), (2, .inl a2)] [] (τ, σ) r M' := by
  unfold fX8_judge_36 at h
  refine Vm.iload_n (n := 37) 2 dX8_judge_36 rfl rfl ?_
  refine Vm.aload_n (n := 38) 0 dX8_judge_37 rfl rfl ?_
  refine Vm.gM (n := 41) dX8_judge_38 rfl wf_RX8_237 in_32 rfl (by decide) rfl (by decide) ?_
  refine Vm.icmp_ge (n := 44) 115 dX8_judge_41 rfl rfl (fun c9 => ?_) (fun c9 => ?_)
  · replace h := (if_pos c9).symm.trans h
    replace h := Option.map_eq_some_iff.mp h
    obtain ⟨w9, h, e8⟩ := h
    subst e8
    exact lX8_judge_115 a1 a2 σ τ h hk
  · replace h := (if_neg c9).symm.trans h
    refine Vm.iload_n (n := 45) 2 dX8_judge_44 rfl rfl ?_
    refine Vm.aload_n (n := 46) 0 dX8_judge_45 rfl rfl ?_
    refine Vm.getR (n := 49) dX8_judge_46 rfl wf_RX8_74 in_32 rfl (by decide) rfl ?_
    refine Vm.iload_n (n := 50) 1 dX8_judge_49 rfl rfl ?_
    replace h := Option.bind_eq_some_iff.mp h
    obtain ⟨x1, h1, h⟩ := h
    refine Vm.ialdm (n := 51) dX8_judge_50 rfl in_76 rfl rfl (by decide) h1 ?_
    refine Vm.icmp_ge (n := 54) 115 dX8_judge_51 rfl rfl (fun c9 => ?_) (fun c9 => ?_)
    · replace h := (if_pos c9).symm.trans h
      replace h := Option.map_eq_some_iff.mp h
      obtain ⟨w9, h, e8⟩ := h
      subst e8
      exact lX8_judge_115 a1 a2 σ τ h hk
    · replace h := (if_neg c9).symm.trans h
      refine Vm.aload_n (n := 55) 0 dX8_judge_54 rfl rfl ?_
      refine Vm.getR (n := 58) dX8_judge_55 rfl wf_RX8_77 in_32 rfl (by decide) rfl ?_
      refine Vm.bipush (n := 60) (v := (40 : Int32)) dX8_judge_58 rfl (by decide) ?_
      refine Vm.iload_n (n := 61) 1 dX8_judge_60 rfl rfl ?_
      refine Vm.imul (n := 62) dX8_judge_61 rfl ?_
      refine Vm.iload_n (n := 63) 2 dX8_judge_62 rfl rfl ?_
      refine Vm.iadd (n := 64) dX8_judge_63 rfl ?_
      replace h := Option.bind_eq_some_iff.mp h
      obtain ⟨x2, h2, h⟩ := h
      refine Vm.laldm (n := 65) dX8_judge_64 rfl in_77 rfl rfl (by decide) h2 ?_
      refine Vm.aload_n (n := 66) 0 dX8_judge_65 rfl rfl ?_
      refine Vm.getR (n := 69) dX8_judge_66 rfl wf_RX8_49 in_32 rfl (by decide) rfl ?_
      refine Vm.bipush (n := 71) (v := (11 : Int32)) dX8_judge_69 rfl (by decide) ?_
      refine Vm.iload_n (n := 72) 2 dX8_judge_71 rfl rfl ?_
      refine Vm.imul (n := 73) dX8_judge_72 rfl ?_
      replace h := Option.bind_eq_some_iff.mp h
      obtain ⟨x3, h3, h⟩ := h
      refine Vm.ialdm (n := 74) dX8_judge_73 rfl in_57 rfl rfl (by decide) h3 ?_
      refine Vm.iconst (n := 75) (v := (1 : Int32)) dX8_judge_74 rfl (by decide) ?_
      refine Vm.icmp_ne (n := 78) 92 dX8_judge_75 rfl rfl (fun c9 => ?_) (fun c9 => ?_)
      · replace h := (if_neg c9).symm.trans h
        refine Vm.aload_n (n := 93) 0 dX8_judge_92 rfl rfl ?_
        refine Vm.getR (n := 96) dX8_judge_93 rfl wf_RX8_49 in_32 rfl (by decide) rfl ?_
        refine Vm.bipush (n := 98) (v := (11 : Int32)) dX8_judge_96 rfl (by decide) ?_
        refine Vm.iload_n (n := 99) 2 dX8_judge_98 rfl rfl ?_
        refine Vm.imul (n := 100) dX8_judge_99 rfl ?_
        refine Vm.iconst (n := 101) (v := (1 : Int32)) dX8_judge_100 rfl (by decide) ?_
        refine Vm.iadd (n := 102) dX8_judge_101 rfl ?_
        replace h := Option.bind_eq_some_iff.mp h
        obtain ⟨x4, h4, h⟩ := h
        refine Vm.ialdm (n := 103) dX8_judge_102 rfl in_57 rfl rfl (by decide) h4 ?_
        refine Vm.ineg (n := 104) dX8_judge_103 rfl ?_
        exact lX8_judge_104 a1 a2 x2 (-x4) σ τ h hk
      · replace h := (if_pos c9).symm.trans h
        refine Vm.aload_n (n := 79) 0 dX8_judge_78 rfl rfl ?_
        refine Vm.getR (n := 82) dX8_judge_79 rfl wf_RX8_49 in_32 rfl (by decide) rfl ?_
        refine Vm.bipush (n := 84) (v := (11 : Int32)) dX8_judge_82 rfl (by decide) ?_
        refine Vm.iload_n (n := 85) 2 dX8_judge_84 rfl rfl ?_
        refine Vm.imul (n := 86) dX8_judge_85 rfl ?_
        refine Vm.iconst (n := 87) (v := (1 : Int32)) dX8_judge_86 rfl (by decide) ?_
        refine Vm.iadd (n := 88) dX8_judge_87 rfl ?_
        replace h := Option.bind_eq_some_iff.mp h
        obtain ⟨x5, h5, h⟩ := h
        refine Vm.ialdm (n := 89) dX8_judge_88 rfl in_57 rfl rfl (by decide) h5 ?_
        refine Vm.goto 104 dX8_judge_89 rfl ?_
        exact lX8_judge_104 a1 a2 x2 x5 σ τ h hk
theorem lX8_judge_36_L (a1 : Int32) (σ τ : mm) {r : Option mv} {M' : mm × mm} (z : Int32) (w9 : Int32 × mm) (h : lp (fX8_judge_36_L a1 σ) z = some w9) (hk : (fun q : Int32 × mm => r = some (.inl q.1) ∧ M' = (τ, q.2)) w9) : Vm mX8_judge 56 36 [(0, .inr (.inr (32, 0))), (1, .inl a1), (2, .inl z)] [] (τ, σ) r M' :=
  lp_link (S := Int32) (R := Int32 × mm) (body := fX8_judge_36_L a1 σ) (A := fun z : Int32 => Vm mX8_judge 56 36 [(0, .inr (.inr (32, 0))), (1, .inl a1), (2, .inl z)] [] (τ, σ) r M') (B := fun w : Int32 × mm => (fun q : Int32 × mm => r = some (.inl q.1) ∧ M' = (τ, q.2)) w) (fun z v hb hv => lX8_judge_36 a1 z σ τ hb hv) z w9 h hk
set_option maxRecDepth 20000 in
theorem lX8_judge_0 (a1 : Int32) (σ τ : mm) {r : Option mv} {M' : mm × mm} {v9 : Int32 × mm} (h : fX8_judge_0 a1 σ = some v9) (hk : (fun q : Int32 × mm => r = some (.inl q.1) ∧ M' = (τ, q.2)) v9) : Vm mX8_judge 56 0 [(0, .inr (.inr (32, 0))), (1, .inl a1)] [] (τ, σ) r M' := by
  unfold fX8_judge_0 at h
  refine Vm.iload_n (n := 1) 1 dX8_judge_0 rfl rfl ?_
  refine Vm.callS (Y := mX8_isSheet) (n := 4) [.inl a1] dX8_judge_1 rfl wv_RX8_195 omX8_isSheet rfl rfl (Nat.le_of_ble_eq_true rfl) (by decide) (kX8_isSheet a1 rfl) ?_
  refine Vm.if_ne (n := 7) 14 dX8_judge_4 rfl rfl (fun c9 => ?_) (fun c9 => ?_)
  · replace h := (if_neg c9).symm.trans h
    refine Vm.aload_n (n := 15) 0 dX8_judge_14 rfl rfl ?_
    refine Vm.getR (n := 18) dX8_judge_15 rfl wf_RX8_71 in_32 rfl (by decide) rfl ?_
    refine Vm.iload_n (n := 19) 1 dX8_judge_18 rfl rfl ?_
    replace h := Option.bind_eq_some_iff.mp h
    obtain ⟨x1, h1, h⟩ := h
    refine Vm.ialdm (n := 20) dX8_judge_19 rfl in_75 rfl rfl (by decide) h1 ?_
    refine Vm.if_ne (n := 23) 30 dX8_judge_20 rfl rfl (fun c9 => ?_) (fun c9 => ?_)
    · replace h := (if_neg c9).symm.trans h
      refine Vm.aload_n (n := 31) 0 dX8_judge_30 rfl rfl ?_
      replace h := Option.bind_eq_some_iff.mp h
      obtain ⟨q2, h2, h⟩ := h
      refine Vm.callVv (Y := mX8_grows) (n := 34) [] dX8_judge_31 rfl wv_RX8_267 omX8_grows rfl in_32 rfl rfl rfl (Nat.le_of_ble_eq_true rfl) (by decide) (kX8_grows σ τ h2) ?_
      refine Vm.iconst (n := 35) (v := (0 : Int32)) dX8_judge_34 rfl (by decide) ?_
      refine Vm.istore_n (n := 36) (lv' := [(2, .inl (0 : Int32)), (0, .inr (.inr (32, 0))), (1, .inl a1)]) dX8_judge_35 rfl (Nat.le_of_ble_eq_true rfl) rfl ?_
      refine Vm.sub (lv' := [(0, .inr (.inr (32, 0))), (1, .inl a1), (2, .inl (0 : Int32))]) [1, 2, 0] rfl ?_
      exact lX8_judge_36_L a1 q2 τ ((0 : Int32)) _ h hk
    · replace h := (if_pos c9).symm.trans h
      refine Vm.aload_n (n := 24) 0 dX8_judge_23 rfl rfl ?_
      refine Vm.ldc (n := 26) dX8_judge_24 rfl wc_RX8_198 ?_
      replace h := Option.bind_eq_some_iff.mp h
      obtain ⟨q3, h3, h⟩ := h
      refine Vm.callV (Y := mX8_finds) (n := 29) [.inl (-1000000006 : Int32)] dX8_judge_26 rfl wv_RX8_102 omX8_finds rfl in_32 rfl rfl rfl (Nat.le_of_ble_eq_true rfl) (by decide) (kX8_finds (-1000000006 : Int32) σ τ h3) ?_
      obtain rfl := Option.some.inj h
      exact Vm.iret dX8_judge_29 rfl hk.1 hk.2.symm
  · replace h := (if_pos c9).symm.trans h
    refine Vm.aload_n (n := 8) 0 dX8_judge_7 rfl rfl ?_
    refine Vm.ldc (n := 10) dX8_judge_8 rfl wc_RX8_92 ?_
    replace h := Option.bind_eq_some_iff.mp h
    obtain ⟨q4, h4, h⟩ := h
    refine Vm.callV (Y := mX8_finds) (n := 13) [.inl (-1000000001 : Int32)] dX8_judge_10 rfl wv_RX8_102 omX8_finds rfl in_32 rfl rfl rfl (Nat.le_of_ble_eq_true rfl) (by decide) (kX8_finds (-1000000001 : Int32) σ τ h4) ?_
    obtain rfl := Option.some.inj h
    exact Vm.iret dX8_judge_13 rfl hk.1 hk.2.symm
theorem kX8_judge (a1 : Int32) (σ τ : mm) {q : Int32 × mm} (h : fX8_judge a1 σ = some q) : Cx mX8_judge 56 [.inr (.inr (32, 0)), .inl a1] (τ, σ) (some (.inl q.1)) (τ, q.2) :=
  Cx.of (lv := [(0, .inr (.inr (32, 0))), (1, .inl a1)]) (by decide) (fun ad => Nat.le_of_ble_eq_true rfl) (fun ad => rfl) (lX8_judge_0 a1 σ τ h ⟨rfl, rfl⟩)
-- ThinBodiesModel ones (I)I
noncomputable def fX8_ones_4 (a1 : Int32) (a2 : Int32) : Option ((Int32 × Int32) ⊕ (Int32)) :=
  if a2 = (0 : Int32) then
  some (.inr (a1))
  else
  Option.bind (some (a1 + (1 : Int32))) fun x1 =>
  Option.bind (some (a2 &&& (a2 - (1 : Int32)))) fun x2 =>
  some (.inl (x1, x2))
noncomputable def fX8_ones_4_L : Int32 × Int32 → Option ((Int32 × Int32) ⊕ (Int32)) := fun z => fX8_ones_4 z.1 z.2
noncomputable def fX8_ones_0 (a0 : Int32) : Option (Int32) :=
  lp (fX8_ones_4_L) ((0 : Int32), a0)
noncomputable def fX8_ones (a0 : Int32) : Option (Int32) := fX8_ones_0 a0
set_option maxRecDepth 20000 in
theorem lX8_ones_4 (a1 : Int32) (a2 : Int32) {M : mm × mm} {r : Option mv} {M' : mm × mm} {v9 : (Int32 × Int32) ⊕ (Int32)} (h : fX8_ones_4 a1 a2 = some v9) (hk : (Sum.elim (fun z : Int32 × Int32 => Vm mX8_ones 0 4 [(1, .inl z.1), (2, .inl z.2)] [] M r M') (fun q : Int32 => r = some (.inl q) ∧ M' = M)) v9) : Vm mX8_ones 0 4 [(1, .inl a1), (2, .inl a2)] [] M r M' := by
  unfold fX8_ones_4 at h
  refine Vm.iload_n (n := 5) 1 dX8_ones_4 rfl rfl ?_
  refine Vm.if_eq (n := 8) 20 dX8_ones_5 rfl rfl (fun c9 => ?_) (fun c9 => ?_)
  · replace h := (if_pos c9).symm.trans h
    refine Vm.iload_n (n := 21) 0 dX8_ones_20 rfl rfl ?_
    obtain rfl := Option.some.inj h
    exact Vm.iret dX8_ones_21 rfl hk.1 hk.2.symm
  · replace h := (if_neg c9).symm.trans h
    replace h := Option.bind_eq_some_iff.mp h
    obtain ⟨x1, e1, h⟩ := h
    replace e1 := Option.some.inj e1
    refine Vm.iinc (n := 11) (v := x1) (lv' := [(1, .inl x1), (2, .inl a2)]) 0 dX8_ones_8 rfl rfl e1 (Nat.le_of_ble_eq_true rfl) rfl ?_
    refine Vm.iload_n (n := 12) 1 dX8_ones_11 rfl rfl ?_
    refine Vm.iload_n (n := 13) 1 dX8_ones_12 rfl rfl ?_
    refine Vm.iconst (n := 14) (v := (1 : Int32)) dX8_ones_13 rfl (by decide) ?_
    refine Vm.isub (n := 15) dX8_ones_14 rfl ?_
    refine Vm.iand (n := 16) dX8_ones_15 rfl ?_
    replace h := Option.bind_eq_some_iff.mp h
    obtain ⟨x2, e2, h⟩ := h
    replace e2 := Option.some.inj e2
    refine Vm.top e2 ?_
    refine Vm.istore_n (n := 17) (lv' := [(2, .inl x2), (1, .inl x1)]) dX8_ones_16 rfl (Nat.le_of_ble_eq_true rfl) rfl ?_
    refine Vm.goto 4 dX8_ones_17 rfl ?_
    refine Vm.sub (lv' := [(1, .inl x1), (2, .inl x2)]) [1, 0] rfl ?_
    obtain rfl := Option.some.inj h
    exact hk
theorem lX8_ones_4_L {M : mm × mm} {r : Option mv} {M' : mm × mm} (z : Int32 × Int32) (w9 : Int32) (h : lp (fX8_ones_4_L) z = some w9) (hk : (fun q : Int32 => r = some (.inl q) ∧ M' = M) w9) : Vm mX8_ones 0 4 [(1, .inl z.1), (2, .inl z.2)] [] M r M' :=
  lp_link (S := Int32 × Int32) (R := Int32) (body := fX8_ones_4_L) (A := fun z : Int32 × Int32 => Vm mX8_ones 0 4 [(1, .inl z.1), (2, .inl z.2)] [] M r M') (B := fun w : Int32 => (fun q : Int32 => r = some (.inl q) ∧ M' = M) w) (fun z v hb hv => lX8_ones_4 z.1 z.2 hb hv) z w9 h hk
set_option maxRecDepth 20000 in
theorem lX8_ones_0 (a0 : Int32) {M : mm × mm} {r : Option mv} {M' : mm × mm} {v9 : Int32} (h : fX8_ones_0 a0 = some v9) (hk : (fun q : Int32 => r = some (.inl q) ∧ M' = M) v9) : Vm mX8_ones 0 0 [(0, .inl a0)] [] M r M' := by
  unfold fX8_ones_0 at h
  refine Vm.iconst (n := 1) (v := (0 : Int32)) dX8_ones_0 rfl (by decide) ?_
  refine Vm.istore_n (n := 2) (lv' := [(1, .inl (0 : Int32)), (0, .inl a0)]) dX8_ones_1 rfl (Nat.le_of_ble_eq_true rfl) rfl ?_
  refine Vm.iload_n (n := 3) 1 dX8_ones_2 rfl rfl ?_
  refine Vm.istore_n (n := 4) (lv' := [(2, .inl a0), (1, .inl (0 : Int32)), (0, .inl a0)]) dX8_ones_3 rfl (Nat.le_of_ble_eq_true rfl) rfl ?_
  refine Vm.sub (lv' := [(1, .inl (0 : Int32)), (2, .inl a0)]) [1, 0] rfl ?_
  exact lX8_ones_4_L  ((0 : Int32), a0) _ h hk
theorem kX8_ones (a0 : Int32) {M : mm × mm} {q : Int32} (h : fX8_ones a0 = some q) : Cx mX8_ones 0 [.inl a0] M (some (.inl q)) M :=
  Cx.of (lv := [(0, .inl a0)]) (by decide) (fun ad => Nat.le_of_ble_eq_true rfl) (fun ad => rfl) (lX8_ones_0 a0 h ⟨rfl, rfl⟩)
-- ThinBodiesModel needs ()I
noncomputable def fX8_needs_94 (a1 : Int32) (a2 : Int32) (a3 : Int32) (σ : mm) : Option ((Int32 × Int32) ⊕ (Int32 × mm)) :=
  Option.bind (some (a3 + (1 : Int32))) fun x1 =>
  some (.inl (a2, x1))
noncomputable def fX8_needs_93 (a1 : Int32) (a3 : Int32) (s0 : Int32) (σ : mm) : Option ((Int32 × Int32) ⊕ (Int32 × mm)) :=
  fX8_needs_94 a1 s0 a3 σ
noncomputable def fX8_needs_83 (a1 : Int32) (a2 : Int32) (a3 : Int32) (a4 : Int32) (σ : mm) : Option ((Int32 × Int32) ⊕ (Int32 × mm)) :=
  if a4 = (0 : Int32) then
  fX8_needs_93 a1 a3 a2 σ
  else
  fX8_needs_93 a1 a3 a3 σ
noncomputable def fX8_needs_75 (a1 : Int32) (a2 : Int32) (a3 : Int32) (a5 : Int32) (s0 : Int32) (σ : mm) : Option ((Int32 × Int32) ⊕ ((Int32 × Int32) ⊕ (Int32 × mm))) :=
  Option.bind (some (a5 + (1 : Int32))) fun x1 =>
  some (.inl (s0, x1))
noncomputable def fX8_needs_43 (a1 : Int32) (a2 : Int32) (a3 : Int32) (a4 : Int32) (a5 : Int32) (σ : mm) : Option ((Int32 × Int32) ⊕ ((Int32 × Int32) ⊕ (Int32 × mm))) :=
  if a1 ≤ a5 then
  Option.map Sum.inr (fX8_needs_83 a1 a2 a3 a4 σ)
  else
  if a4 = (0 : Int32) then
  Option.bind (rdI σ 49 0 4096 a5) fun x1 =>
  if (x1 ||| a3) = (fX8_allRows σ) then
  fX8_needs_75 a1 a2 a3 a5 (1 : Int32) σ
  else
  fX8_needs_75 a1 a2 a3 a5 (0 : Int32) σ
  else
  Option.map Sum.inr (fX8_needs_83 a1 a2 a3 a4 σ)
noncomputable def fX8_needs_43_L (a1 : Int32) (a2 : Int32) (a3 : Int32) (σ : mm) : Int32 × Int32 → Option ((Int32 × Int32) ⊕ ((Int32 × Int32) ⊕ (Int32 × mm))) := fun z => fX8_needs_43 a1 a2 a3 z.1 z.2 σ
noncomputable def fX8_needs_16 (a1 : Int32) (a2 : Int32) (a3 : Int32) (σ : mm) : Option ((Int32 × Int32) ⊕ (Int32 × mm)) :=
  if ((1 : Int32) <<< ((σ.1 32 0 4) &&& 31)) ≤ a3 then
  some (.inr ((a2, σ)))
  else
  Option.bind (fX8_ones a3) fun q1 =>
  Option.bind (fX8_ones a2) fun q2 =>
  if q2 ≤ q1 then
  fX8_needs_94 a1 a2 a3 σ
  else
  lp (fX8_needs_43_L a1 a2 a3 σ) ((0 : Int32), (0 : Int32))
noncomputable def fX8_needs_16_L (a1 : Int32) (σ : mm) : Int32 × Int32 → Option ((Int32 × Int32) ⊕ (Int32 × mm)) := fun z => fX8_needs_16 a1 z.1 z.2 σ
noncomputable def fX8_needs_0 (σ : mm) : Option (Int32 × mm) :=
  Option.bind (fX8_looks σ) fun q1 =>
  Option.bind (fX8_points q1) fun q2 =>
  Option.bind (some ((fX8_allRows q1))) fun x3 =>
  lp (fX8_needs_16_L q2 q1) (x3, (0 : Int32))
noncomputable def fX8_needs (σ : mm) : Option (Int32 × mm) := fX8_needs_0 σ
set_option maxRecDepth 20000 in
theorem lX8_needs_94 (a1 : Int32) (a2 : Int32) (a3 : Int32) (σ τ : mm) {r : Option mv} {M' : mm × mm} {v9 : (Int32 × Int32) ⊕ (Int32 × mm)} (h : fX8_needs_94 a1 a2 a3 σ = some v9) (hk : (Sum.elim (fun z : Int32 × Int32 => Vm mX8_needs 4 16 [(0, .inr (.inr (32, 0))), (1, .inl a1), (2, .inl z.1), (3, .inl z.2)] [] (τ, σ) r M') (fun q : Int32 × mm => r = some (.inl q.1) ∧ M' = (τ, q.2))) v9) : Vm mX8_needs 4 94 [(0, .inr (.inr (32, 0))), (1, .inl a1), (2, .inl a2), (3, .inl a3)] [] (τ, σ) r M' := by
  unfold fX8_needs_94 at h
  replace h := Option.bind_eq_some_iff.mp h
  obtain ⟨x1, e1, h⟩ := h
  replace e1 := Option.some.inj e1
  refine Vm.iinc (n := 97) (v := x1) (lv' := [(3, .inl x1), (0, .inr (.inr (32, 0))), (1, .inl a1), (2, .inl a2)]) 3 dX8_needs_94 rfl rfl e1 (Nat.le_of_ble_eq_true rfl) rfl ?_
  refine Vm.goto 16 dX8_needs_97 rfl ?_
  refine Vm.sub (lv' := [(0, .inr (.inr (32, 0))), (1, .inl a1), (2, .inl a2), (3, .inl x1)]) [1, 2, 3, 0] rfl ?_
  obtain rfl := Option.some.inj h
  exact hk
set_option maxRecDepth 20000 in
theorem lX8_needs_93 (a1 : Int32) (a3 : Int32) (s0 : Int32) (σ τ : mm) {r : Option mv} {M' : mm × mm} {v9 : (Int32 × Int32) ⊕ (Int32 × mm)} (h : fX8_needs_93 a1 a3 s0 σ = some v9) (hk : (Sum.elim (fun z : Int32 × Int32 => Vm mX8_needs 4 16 [(0, .inr (.inr (32, 0))), (1, .inl a1), (2, .inl z.1), (3, .inl z.2)] [] (τ, σ) r M') (fun q : Int32 × mm => r = some (.inl q.1) ∧ M' = (τ, q.2))) v9) : Vm mX8_needs 4 93 [(0, .inr (.inr (32, 0))), (1, .inl a1), (3, .inl a3)] [.inl s0] (τ, σ) r M' := by
  unfold fX8_needs_93 at h
  refine Vm.istore_n (n := 94) (lv' := [(2, .inl s0), (0, .inr (.inr (32, 0))), (1, .inl a1), (3, .inl a3)]) dX8_needs_93 rfl (Nat.le_of_ble_eq_true rfl) rfl ?_
  refine Vm.sub (lv' := [(0, .inr (.inr (32, 0))), (1, .inl a1), (2, .inl s0), (3, .inl a3)]) [1, 2, 0, 3] rfl ?_
  exact lX8_needs_94 a1 s0 a3 σ τ h hk
set_option maxRecDepth 20000 in
theorem lX8_needs_83 (a1 : Int32) (a2 : Int32) (a3 : Int32) (a4 : Int32) (σ τ : mm) {r : Option mv} {M' : mm × mm} {v9 : (Int32 × Int32) ⊕ (Int32 × mm)} (h : fX8_needs_83 a1 a2 a3 a4 σ = some v9) (hk : (Sum.elim (fun z : Int32 × Int32 => Vm mX8_needs 4 16 [(0, .inr (.inr (32, 0))), (1, .inl a1), (2, .inl z.1), (3, .inl z.2)] [] (τ, σ) r M') (fun q : Int32 × mm => r = some (.inl q.1) ∧ M' = (τ, q.2))) v9) : Vm mX8_needs 4 83 [(0, .inr (.inr (32, 0))), (1, .inl a1), (2, .inl a2), (3, .inl a3), (4, .inl a4)] [] (τ, σ) r M' := by
  unfold fX8_needs_83 at h
  refine Vm.iload (n := 85) 4 dX8_needs_83 rfl rfl ?_
  refine Vm.if_eq (n := 88) 92 dX8_needs_85 rfl rfl (fun c9 => ?_) (fun c9 => ?_)
  · replace h := (if_pos c9).symm.trans h
    refine Vm.iload_n (n := 93) 2 dX8_needs_92 rfl rfl ?_
    refine Vm.sub (lv' := [(0, .inr (.inr (32, 0))), (1, .inl a1), (3, .inl a3)]) [0, 1, 3] rfl ?_
    exact lX8_needs_93 a1 a3 a2 σ τ h hk
  · replace h := (if_neg c9).symm.trans h
    refine Vm.iload_n (n := 89) 3 dX8_needs_88 rfl rfl ?_
    refine Vm.goto 93 dX8_needs_89 rfl ?_
    refine Vm.sub (lv' := [(0, .inr (.inr (32, 0))), (1, .inl a1), (3, .inl a3)]) [0, 1, 3] rfl ?_
    exact lX8_needs_93 a1 a3 a3 σ τ h hk
set_option maxRecDepth 20000 in
theorem lX8_needs_75 (a1 : Int32) (a2 : Int32) (a3 : Int32) (a5 : Int32) (s0 : Int32) (σ τ : mm) {r : Option mv} {M' : mm × mm} {v9 : (Int32 × Int32) ⊕ ((Int32 × Int32) ⊕ (Int32 × mm))} (h : fX8_needs_75 a1 a2 a3 a5 s0 σ = some v9) (hk : (Sum.elim (fun z : Int32 × Int32 => Vm mX8_needs 4 43 [(0, .inr (.inr (32, 0))), (1, .inl a1), (2, .inl a2), (3, .inl a3), (4, .inl z.1), (5, .inl z.2)] [] (τ, σ) r M') (Sum.elim (fun z : Int32 × Int32 => Vm mX8_needs 4 16 [(0, .inr (.inr (32, 0))), (1, .inl a1), (2, .inl z.1), (3, .inl z.2)] [] (τ, σ) r M') (fun q : Int32 × mm => r = some (.inl q.1) ∧ M' = (τ, q.2)))) v9) : Vm mX8_needs 4 75 [(0, .inr (.inr (32, 0))), (1, .inl a1), (2, .inl a2), (3, .inl a3), (5, .inl a5)] [.inl s0] (τ, σ) r M' := by
  unfold fX8_needs_75 at h
  refine Vm.istore (n := 77) (lv' := [(4, .inl s0), (0, .inr (.inr (32, 0))), (1, .inl a1), (2, .inl a2), (3, .inl a3), (5, .inl a5)]) dX8_needs_75 rfl (Nat.le_of_ble_eq_true rfl) rfl ?_
  replace h := Option.bind_eq_some_iff.mp h
  obtain ⟨x1, e1, h⟩ := h
  replace e1 := Option.some.inj e1
  refine Vm.iinc (n := 80) (v := x1) (lv' := [(5, .inl x1), (4, .inl s0), (0, .inr (.inr (32, 0))), (1, .inl a1), (2, .inl a2), (3, .inl a3)]) 5 dX8_needs_77 rfl rfl e1 (Nat.le_of_ble_eq_true rfl) rfl ?_
  refine Vm.goto 43 dX8_needs_80 rfl ?_
  refine Vm.sub (lv' := [(0, .inr (.inr (32, 0))), (1, .inl a1), (2, .inl a2), (3, .inl a3), (4, .inl s0), (5, .inl x1)]) [2, 3, 4, 5, 1, 0] rfl ?_
  obtain rfl := Option.some.inj h
  exact hk
set_option maxRecDepth 20000 in
theorem lX8_needs_43 (a1 : Int32) (a2 : Int32) (a3 : Int32) (a4 : Int32) (a5 : Int32) (σ τ : mm) {r : Option mv} {M' : mm × mm} {v9 : (Int32 × Int32) ⊕ ((Int32 × Int32) ⊕ (Int32 × mm))} (h : fX8_needs_43 a1 a2 a3 a4 a5 σ = some v9) (hk : (Sum.elim (fun z : Int32 × Int32 => Vm mX8_needs 4 43 [(0, .inr (.inr (32, 0))), (1, .inl a1), (2, .inl a2), (3, .inl a3), (4, .inl z.1), (5, .inl z.2)] [] (τ, σ) r M') (Sum.elim (fun z : Int32 × Int32 => Vm mX8_needs 4 16 [(0, .inr (.inr (32, 0))), (1, .inl a1), (2, .inl z.1), (3, .inl z.2)] [] (τ, σ) r M') (fun q : Int32 × mm => r = some (.inl q.1) ∧ M' = (τ, q.2)))) v9) : Vm mX8_needs 4 43 [(0, .inr (.inr (32, 0))), (1, .inl a1), (2, .inl a2), (3, .inl a3), (4, .inl a4), (5, .inl a5)] [] (τ, σ) r M' := by
  unfold fX8_needs_43 at h
  refine Vm.iload (n := 45) 5 dX8_needs_43 rfl rfl ?_
  refine Vm.iload_n (n := 46) 1 dX8_needs_45 rfl rfl ?_
  refine Vm.icmp_ge (n := 49) 83 dX8_needs_46 rfl rfl (fun c9 => ?_) (fun c9 => ?_)
  · replace h := (if_pos c9).symm.trans h
    refine Vm.sub (lv' := [(0, .inr (.inr (32, 0))), (1, .inl a1), (2, .inl a2), (3, .inl a3), (4, .inl a4)]) [0, 1, 2, 3, 4] rfl ?_
    replace h := Option.map_eq_some_iff.mp h
    obtain ⟨w9, h, e8⟩ := h
    subst e8
    exact lX8_needs_83 a1 a2 a3 a4 σ τ h hk
  · replace h := (if_neg c9).symm.trans h
    refine Vm.iload (n := 51) 4 dX8_needs_49 rfl rfl ?_
    refine Vm.if_ne (n := 54) 83 dX8_needs_51 rfl rfl (fun c9 => ?_) (fun c9 => ?_)
    · replace h := (if_neg c9).symm.trans h
      refine Vm.sub (lv' := [(0, .inr (.inr (32, 0))), (1, .inl a1), (2, .inl a2), (3, .inl a3), (4, .inl a4)]) [0, 1, 2, 3, 4] rfl ?_
      replace h := Option.map_eq_some_iff.mp h
      obtain ⟨w9, h, e8⟩ := h
      subst e8
      exact lX8_needs_83 a1 a2 a3 a4 σ τ h hk
    · replace h := (if_pos c9).symm.trans h
      refine Vm.aload_n (n := 55) 0 dX8_needs_54 rfl rfl ?_
      refine Vm.getR (n := 58) dX8_needs_55 rfl wf_RX8_36 in_32 rfl (by decide) rfl ?_
      refine Vm.iload (n := 60) 5 dX8_needs_58 rfl rfl ?_
      replace h := Option.bind_eq_some_iff.mp h
      obtain ⟨x1, h1, h⟩ := h
      refine Vm.ialdm (n := 61) dX8_needs_60 rfl in_49 rfl rfl (by decide) h1 ?_
      refine Vm.iload_n (n := 62) 3 dX8_needs_61 rfl rfl ?_
      refine Vm.ior (n := 63) dX8_needs_62 rfl ?_
      refine Vm.aload_n (n := 64) 0 dX8_needs_63 rfl rfl ?_
      refine Vm.callV (Y := mX8_allRows) (n := 67) [] dX8_needs_64 rfl wv_RX8_186 omX8_allRows rfl in_32 rfl rfl rfl (Nat.le_of_ble_eq_true rfl) (by decide) (kX8_allRows σ τ rfl) ?_
      refine Vm.icmp_ne (n := 70) 74 dX8_needs_67 rfl rfl (fun c9 => ?_) (fun c9 => ?_)
      · replace h := (if_neg c9).symm.trans h
        refine Vm.iconst (n := 75) (v := (0 : Int32)) dX8_needs_74 rfl (by decide) ?_
        refine Vm.sub (lv' := [(0, .inr (.inr (32, 0))), (1, .inl a1), (2, .inl a2), (3, .inl a3), (5, .inl a5)]) [0, 1, 2, 3, 5] rfl ?_
        exact lX8_needs_75 a1 a2 a3 a5 (0 : Int32) σ τ h hk
      · replace h := (if_pos c9).symm.trans h
        refine Vm.iconst (n := 71) (v := (1 : Int32)) dX8_needs_70 rfl (by decide) ?_
        refine Vm.goto 75 dX8_needs_71 rfl ?_
        refine Vm.sub (lv' := [(0, .inr (.inr (32, 0))), (1, .inl a1), (2, .inl a2), (3, .inl a3), (5, .inl a5)]) [0, 1, 2, 3, 5] rfl ?_
        exact lX8_needs_75 a1 a2 a3 a5 (1 : Int32) σ τ h hk
theorem lX8_needs_43_L (a1 : Int32) (a2 : Int32) (a3 : Int32) (σ τ : mm) {r : Option mv} {M' : mm × mm} (z : Int32 × Int32) (w9 : (Int32 × Int32) ⊕ (Int32 × mm)) (h : lp (fX8_needs_43_L a1 a2 a3 σ) z = some w9) (hk : (Sum.elim (fun z : Int32 × Int32 => Vm mX8_needs 4 16 [(0, .inr (.inr (32, 0))), (1, .inl a1), (2, .inl z.1), (3, .inl z.2)] [] (τ, σ) r M') (fun q : Int32 × mm => r = some (.inl q.1) ∧ M' = (τ, q.2))) w9) : Vm mX8_needs 4 43 [(0, .inr (.inr (32, 0))), (1, .inl a1), (2, .inl a2), (3, .inl a3), (4, .inl z.1), (5, .inl z.2)] [] (τ, σ) r M' :=
  lp_link (S := Int32 × Int32) (R := (Int32 × Int32) ⊕ (Int32 × mm)) (body := fX8_needs_43_L a1 a2 a3 σ) (A := fun z : Int32 × Int32 => Vm mX8_needs 4 43 [(0, .inr (.inr (32, 0))), (1, .inl a1), (2, .inl a2), (3, .inl a3), (4, .inl z.1), (5, .inl z.2)] [] (τ, σ) r M') (B := fun w : (Int32 × Int32) ⊕ (Int32 × mm) => (Sum.elim (fun z : Int32 × Int32 => Vm mX8_needs 4 16 [(0, .inr (.inr (32, 0))), (1, .inl a1), (2, .inl z.1), (3, .inl z.2)] [] (τ, σ) r M') (fun q : Int32 × mm => r = some (.inl q.1) ∧ M' = (τ, q.2))) w) (fun z v hb hv => lX8_needs_43 a1 a2 a3 z.1 z.2 σ τ hb hv) z w9 h hk
set_option maxRecDepth 20000 in
theorem lX8_needs_16 (a1 : Int32) (a2 : Int32) (a3 : Int32) (σ τ : mm) {r : Option mv} {M' : mm × mm} {v9 : (Int32 × Int32) ⊕ (Int32 × mm)} (h : fX8_needs_16 a1 a2 a3 σ = some v9) (hk : (Sum.elim (fun z : Int32 × Int32 => Vm mX8_needs 4 16 [(0, .inr (.inr (32, 0))), (1, .inl a1), (2, .inl z.1), (3, .inl z.2)] [] (τ, σ) r M') (fun q : Int32 × mm => r = some (.inl q.1) ∧ M' = (τ, q.2))) v9) : Vm mX8_needs 4 16 [(0, .inr (.inr (32, 0))), (1, .inl a1), (2, .inl a2), (3, .inl a3)] [] (τ, σ) r M' := by
  unfold fX8_needs_16 at h
  refine Vm.iload_n (n := 17) 3 dX8_needs_16 rfl rfl ?_
  refine Vm.iconst (n := 18) (v := (1 : Int32)) dX8_needs_17 rfl (by decide) ?_
  refine Vm.aload_n (n := 19) 0 dX8_needs_18 rfl rfl ?_
  refine Vm.gM (n := 22) dX8_needs_19 rfl wf_RX8_97 in_32 rfl (by decide) rfl (by decide) ?_
  refine Vm.ishl (n := 23) dX8_needs_22 rfl ?_
  refine Vm.icmp_ge (n := 26) 100 dX8_needs_23 rfl rfl (fun c9 => ?_) (fun c9 => ?_)
  · replace h := (if_pos c9).symm.trans h
    refine Vm.iload_n (n := 101) 2 dX8_needs_100 rfl rfl ?_
    obtain rfl := Option.some.inj h
    exact Vm.iret dX8_needs_101 rfl hk.1 hk.2.symm
  · replace h := (if_neg c9).symm.trans h
    refine Vm.iload_n (n := 27) 3 dX8_needs_26 rfl rfl ?_
    replace h := Option.bind_eq_some_iff.mp h
    obtain ⟨q1, h1, h⟩ := h
    refine Vm.callS (Y := mX8_ones) (n := 30) [.inl a3] dX8_needs_27 rfl wv_RX8_270 omX8_ones rfl rfl (Nat.le_of_ble_eq_true rfl) (by decide) (kX8_ones a3 h1) ?_
    refine Vm.iload_n (n := 31) 2 dX8_needs_30 rfl rfl ?_
    replace h := Option.bind_eq_some_iff.mp h
    obtain ⟨q2, h2, h⟩ := h
    refine Vm.callS (Y := mX8_ones) (n := 34) [.inl a2] dX8_needs_31 rfl wv_RX8_270 omX8_ones rfl rfl (Nat.le_of_ble_eq_true rfl) (by decide) (kX8_ones a2 h2) ?_
    refine Vm.icmp_ge (n := 37) 94 dX8_needs_34 rfl rfl (fun c9 => ?_) (fun c9 => ?_)
    · replace h := (if_pos c9).symm.trans h
      exact lX8_needs_94 a1 a2 a3 σ τ h hk
    · replace h := (if_neg c9).symm.trans h
      refine Vm.iconst (n := 38) (v := (0 : Int32)) dX8_needs_37 rfl (by decide) ?_
      refine Vm.istore (n := 40) (lv' := [(4, .inl (0 : Int32)), (0, .inr (.inr (32, 0))), (1, .inl a1), (2, .inl a2), (3, .inl a3)]) dX8_needs_38 rfl (Nat.le_of_ble_eq_true rfl) rfl ?_
      refine Vm.iconst (n := 41) (v := (0 : Int32)) dX8_needs_40 rfl (by decide) ?_
      refine Vm.istore (n := 43) (lv' := [(5, .inl (0 : Int32)), (4, .inl (0 : Int32)), (0, .inr (.inr (32, 0))), (1, .inl a1), (2, .inl a2), (3, .inl a3)]) dX8_needs_41 rfl (Nat.le_of_ble_eq_true rfl) rfl ?_
      refine Vm.sub (lv' := [(0, .inr (.inr (32, 0))), (1, .inl a1), (2, .inl a2), (3, .inl a3), (4, .inl (0 : Int32)), (5, .inl (0 : Int32))]) [2, 3, 4, 5, 1, 0] rfl ?_
      exact lX8_needs_43_L a1 a2 a3 σ τ ((0 : Int32), (0 : Int32)) _ h hk
theorem lX8_needs_16_L (a1 : Int32) (σ τ : mm) {r : Option mv} {M' : mm × mm} (z : Int32 × Int32) (w9 : Int32 × mm) (h : lp (fX8_needs_16_L a1 σ) z = some w9) (hk : (fun q : Int32 × mm => r = some (.inl q.1) ∧ M' = (τ, q.2)) w9) : Vm mX8_needs 4 16 [(0, .inr (.inr (32, 0))), (1, .inl a1), (2, .inl z.1), (3, .inl z.2)] [] (τ, σ) r M' :=
  lp_link (S := Int32 × Int32) (R := Int32 × mm) (body := fX8_needs_16_L a1 σ) (A := fun z : Int32 × Int32 => Vm mX8_needs 4 16 [(0, .inr (.inr (32, 0))), (1, .inl a1), (2, .inl z.1), (3, .inl z.2)] [] (τ, σ) r M') (B := fun w : Int32 × mm => (fun q : Int32 × mm => r = some (.inl q.1) ∧ M' = (τ, q.2)) w) (fun z v hb hv => lX8_needs_16 a1 z.1 z.2 σ τ hb hv) z w9 h hk
set_option maxRecDepth 20000 in
theorem lX8_needs_0 (σ τ : mm) {r : Option mv} {M' : mm × mm} {v9 : Int32 × mm} (h : fX8_needs_0 σ = some v9) (hk : (fun q : Int32 × mm => r = some (.inl q.1) ∧ M' = (τ, q.2)) v9) : Vm mX8_needs 4 0 [(0, .inr (.inr (32, 0)))] [] (τ, σ) r M' := by
  unfold fX8_needs_0 at h
  refine Vm.aload_n (n := 1) 0 dX8_needs_0 rfl rfl ?_
  replace h := Option.bind_eq_some_iff.mp h
  obtain ⟨q1, h1, h⟩ := h
  refine Vm.callVv (Y := mX8_looks) (n := 4) [] dX8_needs_1 rfl wv_RX8_189 omX8_looks rfl in_32 rfl rfl rfl (Nat.le_of_ble_eq_true rfl) (by decide) (kX8_looks σ τ h1) ?_
  refine Vm.aload_n (n := 5) 0 dX8_needs_4 rfl rfl ?_
  replace h := Option.bind_eq_some_iff.mp h
  obtain ⟨q2, h2, h⟩ := h
  refine Vm.callV (Y := mX8_points) (n := 8) [] dX8_needs_5 rfl wv_RX8_111 omX8_points rfl in_32 rfl rfl rfl (Nat.le_of_ble_eq_true rfl) (by decide) (kX8_points q1 τ h2) ?_
  refine Vm.istore_n (n := 9) (lv' := [(1, .inl q2), (0, .inr (.inr (32, 0)))]) dX8_needs_8 rfl (Nat.le_of_ble_eq_true rfl) rfl ?_
  refine Vm.aload_n (n := 10) 1 dX8_needs_9 rfl rfl ?_
  refine Vm.callV (Y := mX8_allRows) (n := 13) [] dX8_needs_10 rfl wv_RX8_186 omX8_allRows rfl in_32 rfl rfl rfl (Nat.le_of_ble_eq_true rfl) (by decide) (kX8_allRows q1 τ rfl) ?_
  replace h := Option.bind_eq_some_iff.mp h
  obtain ⟨x3, e3, h⟩ := h
  replace e3 := Option.some.inj e3
  refine Vm.top e3 ?_
  refine Vm.istore_n (n := 14) (lv' := [(2, .inl x3), (1, .inl q2), (0, .inr (.inr (32, 0)))]) dX8_needs_13 rfl (Nat.le_of_ble_eq_true rfl) rfl ?_
  refine Vm.iconst (n := 15) (v := (0 : Int32)) dX8_needs_14 rfl (by decide) ?_
  refine Vm.istore_n (n := 16) (lv' := [(3, .inl (0 : Int32)), (2, .inl x3), (1, .inl q2), (0, .inr (.inr (32, 0)))]) dX8_needs_15 rfl (Nat.le_of_ble_eq_true rfl) rfl ?_
  refine Vm.sub (lv' := [(0, .inr (.inr (32, 0))), (1, .inl q2), (2, .inl x3), (3, .inl (0 : Int32))]) [3, 2, 1, 0] rfl ?_
  exact lX8_needs_16_L q2 q1 τ (x3, (0 : Int32)) _ h hk
theorem kX8_needs (σ τ : mm) {q : Int32 × mm} (h : fX8_needs σ = some q) : Cx mX8_needs 4 [.inr (.inr (32, 0))] (τ, σ) (some (.inl q.1)) (τ, q.2) :=
  Cx.of (lv := [(0, .inr (.inr (32, 0)))]) (by decide) (fun ad => Nat.le_of_ble_eq_true rfl) (fun ad => rfl) (lX8_needs_0 σ τ h ⟨rfl, rfl⟩)
-- ThinBodiesModel without ()I
noncomputable def fX8_without_111 (a1 : Int32) (a2 : Int32) (a4 : Int32) (s0 : Int32) (σ : mm) : Option ((Int32 × Int32 × Int32) ⊕ (Int32 × mm)) :=
  Option.bind (some (a4 + (1 : Int32))) fun x1 =>
  some (.inl (a2, s0, x1))
noncomputable def fX8_without_98 (a1 : Int32) (a3 : Int32) (a4 : Int32) (a5 : Int32) (s0 : Int32) (σ : mm) : Option ((Int32 × Int32 × Int32) ⊕ (Int32 × mm)) :=
  if a5 ≤ a3 then
  fX8_without_111 a1 s0 a4 a3 σ
  else
  fX8_without_111 a1 s0 a4 a5 σ
noncomputable def fX8_without_77 (a1 : Int32) (a2 : Int32) (a3 : Int32) (a4 : Int32) (a6 : Int32) (s0 : Int32) (s1 : Int32) (σ : mm) : Option ((Int32 × Int32) ⊕ ((Int32 × Int32 × Int32) ⊕ (Int32 × mm))) :=
  Option.bind (some (s0 + s1)) fun x1 =>
  Option.bind (some (a6 + (1 : Int32))) fun x2 =>
  some (.inl (x1, x2))
noncomputable def fX8_without_45 (a1 : Int32) (a2 : Int32) (a3 : Int32) (a4 : Int32) (a5 : Int32) (a6 : Int32) (σ : mm) : Option ((Int32 × Int32) ⊕ ((Int32 × Int32 × Int32) ⊕ (Int32 × mm))) :=
  if a1 ≤ a6 then
  if a5 ≤ a3 then
  Option.map Sum.inr (fX8_without_98 a1 a3 a4 a5 a2 σ)
  else
  Option.map Sum.inr (fX8_without_98 a1 a3 a4 a5 a4 σ)
  else
  Option.bind (rdI σ 49 0 4096 a6) fun x1 =>
  if (x1 ||| ((1 : Int32) <<< (a4 &&& 31))) = (fX8_allRows σ) then
  fX8_without_77 a1 a2 a3 a4 a6 a5 (1 : Int32) σ
  else
  fX8_without_77 a1 a2 a3 a4 a6 a5 (0 : Int32) σ
noncomputable def fX8_without_45_L (a1 : Int32) (a2 : Int32) (a3 : Int32) (a4 : Int32) (σ : mm) : Int32 × Int32 → Option ((Int32 × Int32) ⊕ ((Int32 × Int32 × Int32) ⊕ (Int32 × mm))) := fun z => fX8_without_45 a1 a2 a3 a4 z.1 z.2 σ
noncomputable def fX8_without_30 (a1 : Int32) (a2 : Int32) (a3 : Int32) (a4 : Int32) (σ : mm) : Option ((Int32 × Int32 × Int32) ⊕ (Int32 × mm)) :=
  if (σ.1 32 0 4) ≤ a4 then
  some (.inr ((a2, σ)))
  else
  lp (fX8_without_45_L a1 a2 a3 a4 σ) ((0 : Int32), (0 : Int32))
noncomputable def fX8_without_30_L (a1 : Int32) (σ : mm) : Int32 × Int32 × Int32 → Option ((Int32 × Int32 × Int32) ⊕ (Int32 × mm)) := fun z => fX8_without_30 a1 z.1 z.2.1 z.2.2 σ
noncomputable def fX8_without_0 (σ : mm) : Option (Int32 × mm) :=
  if (σ.1 32 0 4) = (0 : Int32) then
  Option.bind (fX8_finds (-1000000004 : Int32) σ) fun q3 =>
  some ((q3.1, q3.2))
  else
  Option.bind (fX8_looks σ) fun q1 =>
  Option.bind (fX8_points q1) fun q2 =>
  lp (fX8_without_30_L q2 q1) ((0 : Int32), (-1 : Int32), (0 : Int32))
noncomputable def fX8_without (σ : mm) : Option (Int32 × mm) := fX8_without_0 σ
set_option maxRecDepth 20000 in
theorem lX8_without_111 (a1 : Int32) (a2 : Int32) (a4 : Int32) (s0 : Int32) (σ τ : mm) {r : Option mv} {M' : mm × mm} {v9 : (Int32 × Int32 × Int32) ⊕ (Int32 × mm)} (h : fX8_without_111 a1 a2 a4 s0 σ = some v9) (hk : (Sum.elim (fun z : Int32 × Int32 × Int32 => Vm mX8_without 4 30 [(0, .inr (.inr (32, 0))), (1, .inl a1), (2, .inl z.1), (3, .inl z.2.1), (4, .inl z.2.2)] [] (τ, σ) r M') (fun q : Int32 × mm => r = some (.inl q.1) ∧ M' = (τ, q.2))) v9) : Vm mX8_without 4 111 [(0, .inr (.inr (32, 0))), (1, .inl a1), (2, .inl a2), (4, .inl a4)] [.inl s0] (τ, σ) r M' := by
  unfold fX8_without_111 at h
  refine Vm.istore_n (n := 112) (lv' := [(3, .inl s0), (0, .inr (.inr (32, 0))), (1, .inl a1), (2, .inl a2), (4, .inl a4)]) dX8_without_111 rfl (Nat.le_of_ble_eq_true rfl) rfl ?_
  replace h := Option.bind_eq_some_iff.mp h
  obtain ⟨x1, e1, h⟩ := h
  replace e1 := Option.some.inj e1
  refine Vm.iinc (n := 115) (v := x1) (lv' := [(4, .inl x1), (3, .inl s0), (0, .inr (.inr (32, 0))), (1, .inl a1), (2, .inl a2)]) 4 dX8_without_112 rfl rfl e1 (Nat.le_of_ble_eq_true rfl) rfl ?_
  refine Vm.goto 30 dX8_without_115 rfl ?_
  refine Vm.sub (lv' := [(0, .inr (.inr (32, 0))), (1, .inl a1), (2, .inl a2), (3, .inl s0), (4, .inl x1)]) [2, 3, 4, 1, 0] rfl ?_
  obtain rfl := Option.some.inj h
  exact hk
set_option maxRecDepth 20000 in
theorem lX8_without_98 (a1 : Int32) (a3 : Int32) (a4 : Int32) (a5 : Int32) (s0 : Int32) (σ τ : mm) {r : Option mv} {M' : mm × mm} {v9 : (Int32 × Int32 × Int32) ⊕ (Int32 × mm)} (h : fX8_without_98 a1 a3 a4 a5 s0 σ = some v9) (hk : (Sum.elim (fun z : Int32 × Int32 × Int32 => Vm mX8_without 4 30 [(0, .inr (.inr (32, 0))), (1, .inl a1), (2, .inl z.1), (3, .inl z.2.1), (4, .inl z.2.2)] [] (τ, σ) r M') (fun q : Int32 × mm => r = some (.inl q.1) ∧ M' = (τ, q.2))) v9) : Vm mX8_without 4 98 [(0, .inr (.inr (32, 0))), (1, .inl a1), (3, .inl a3), (4, .inl a4), (5, .inl a5)] [.inl s0] (τ, σ) r M' := by
  unfold fX8_without_98 at h
  refine Vm.istore_n (n := 99) (lv' := [(2, .inl s0), (0, .inr (.inr (32, 0))), (1, .inl a1), (3, .inl a3), (4, .inl a4), (5, .inl a5)]) dX8_without_98 rfl (Nat.le_of_ble_eq_true rfl) rfl ?_
  refine Vm.iload (n := 101) 5 dX8_without_99 rfl rfl ?_
  refine Vm.iload_n (n := 102) 3 dX8_without_101 rfl rfl ?_
  refine Vm.icmp_le (n := 105) 110 dX8_without_102 rfl rfl (fun c9 => ?_) (fun c9 => ?_)
  · replace h := (if_pos c9).symm.trans h
    refine Vm.iload_n (n := 111) 3 dX8_without_110 rfl rfl ?_
    refine Vm.sub (lv' := [(0, .inr (.inr (32, 0))), (1, .inl a1), (2, .inl s0), (4, .inl a4)]) [1, 2, 0, 4] rfl ?_
    exact lX8_without_111 a1 s0 a4 a3 σ τ h hk
  · replace h := (if_neg c9).symm.trans h
    refine Vm.iload (n := 107) 5 dX8_without_105 rfl rfl ?_
    refine Vm.goto 111 dX8_without_107 rfl ?_
    refine Vm.sub (lv' := [(0, .inr (.inr (32, 0))), (1, .inl a1), (2, .inl s0), (4, .inl a4)]) [1, 2, 0, 4] rfl ?_
    exact lX8_without_111 a1 s0 a4 a5 σ τ h hk
set_option maxRecDepth 20000 in
theorem lX8_without_77 (a1 : Int32) (a2 : Int32) (a3 : Int32) (a4 : Int32) (a6 : Int32) (s0 : Int32) (s1 : Int32) (σ τ : mm) {r : Option mv} {M' : mm × mm} {v9 : (Int32 × Int32) ⊕ ((Int32 × Int32 × Int32) ⊕ (Int32 × mm))} (h : fX8_without_77 a1 a2 a3 a4 a6 s0 s1 σ = some v9) (hk : (Sum.elim (fun z : Int32 × Int32 => Vm mX8_without 4 45 [(0, .inr (.inr (32, 0))), (1, .inl a1), (2, .inl a2), (3, .inl a3), (4, .inl a4), (5, .inl z.1), (6, .inl z.2)] [] (τ, σ) r M') (Sum.elim (fun z : Int32 × Int32 × Int32 => Vm mX8_without 4 30 [(0, .inr (.inr (32, 0))), (1, .inl a1), (2, .inl z.1), (3, .inl z.2.1), (4, .inl z.2.2)] [] (τ, σ) r M') (fun q : Int32 × mm => r = some (.inl q.1) ∧ M' = (τ, q.2)))) v9) : Vm mX8_without 4 77 [(0, .inr (.inr (32, 0))), (1, .inl a1), (2, .inl a2), (3, .inl a3), (4, .inl a4), (6, .inl a6)] [.inl s1, .inl s0] (τ, σ) r M' := by
  unfold fX8_without_77 at h
  refine Vm.iadd (n := 78) dX8_without_77 rfl ?_
  replace h := Option.bind_eq_some_iff.mp h
  obtain ⟨x1, e1, h⟩ := h
  replace e1 := Option.some.inj e1
  refine Vm.top e1 ?_
  refine Vm.istore (n := 80) (lv' := [(5, .inl x1), (0, .inr (.inr (32, 0))), (1, .inl a1), (2, .inl a2), (3, .inl a3), (4, .inl a4), (6, .inl a6)]) dX8_without_78 rfl (Nat.le_of_ble_eq_true rfl) rfl ?_
  replace h := Option.bind_eq_some_iff.mp h
  obtain ⟨x2, e2, h⟩ := h
  replace e2 := Option.some.inj e2
  refine Vm.iinc (n := 83) (v := x2) (lv' := [(6, .inl x2), (5, .inl x1), (0, .inr (.inr (32, 0))), (1, .inl a1), (2, .inl a2), (3, .inl a3), (4, .inl a4)]) 6 dX8_without_80 rfl rfl e2 (Nat.le_of_ble_eq_true rfl) rfl ?_
  refine Vm.goto 45 dX8_without_83 rfl ?_
  refine Vm.sub (lv' := [(0, .inr (.inr (32, 0))), (1, .inl a1), (2, .inl a2), (3, .inl a3), (4, .inl a4), (5, .inl x1), (6, .inl x2)]) [2, 3, 4, 5, 6, 1, 0] rfl ?_
  obtain rfl := Option.some.inj h
  exact hk
set_option maxRecDepth 20000 in
theorem lX8_without_45 (a1 : Int32) (a2 : Int32) (a3 : Int32) (a4 : Int32) (a5 : Int32) (a6 : Int32) (σ τ : mm) {r : Option mv} {M' : mm × mm} {v9 : (Int32 × Int32) ⊕ ((Int32 × Int32 × Int32) ⊕ (Int32 × mm))} (h : fX8_without_45 a1 a2 a3 a4 a5 a6 σ = some v9) (hk : (Sum.elim (fun z : Int32 × Int32 => Vm mX8_without 4 45 [(0, .inr (.inr (32, 0))), (1, .inl a1), (2, .inl a2), (3, .inl a3), (4, .inl a4), (5, .inl z.1), (6, .inl z.2)] [] (τ, σ) r M') (Sum.elim (fun z : Int32 × Int32 × Int32 => Vm mX8_without 4 30 [(0, .inr (.inr (32, 0))), (1, .inl a1), (2, .inl z.1), (3, .inl z.2.1), (4, .inl z.2.2)] [] (τ, σ) r M') (fun q : Int32 × mm => r = some (.inl q.1) ∧ M' = (τ, q.2)))) v9) : Vm mX8_without 4 45 [(0, .inr (.inr (32, 0))), (1, .inl a1), (2, .inl a2), (3, .inl a3), (4, .inl a4), (5, .inl a5), (6, .inl a6)] [] (τ, σ) r M' := by
  unfold fX8_without_45 at h
  refine Vm.iload (n := 47) 6 dX8_without_45 rfl rfl ?_
  refine Vm.iload_n (n := 48) 1 dX8_without_47 rfl rfl ?_
  refine Vm.icmp_ge (n := 51) 86 dX8_without_48 rfl rfl (fun c9 => ?_) (fun c9 => ?_)
  · replace h := (if_pos c9).symm.trans h
    refine Vm.iload (n := 88) 5 dX8_without_86 rfl rfl ?_
    refine Vm.iload_n (n := 89) 3 dX8_without_88 rfl rfl ?_
    refine Vm.icmp_le (n := 92) 97 dX8_without_89 rfl rfl (fun c9 => ?_) (fun c9 => ?_)
    · replace h := (if_pos c9).symm.trans h
      refine Vm.iload_n (n := 98) 2 dX8_without_97 rfl rfl ?_
      refine Vm.sub (lv' := [(0, .inr (.inr (32, 0))), (1, .inl a1), (3, .inl a3), (4, .inl a4), (5, .inl a5)]) [0, 1, 3, 4, 5] rfl ?_
      replace h := Option.map_eq_some_iff.mp h
      obtain ⟨w9, h, e8⟩ := h
      subst e8
      exact lX8_without_98 a1 a3 a4 a5 a2 σ τ h hk
    · replace h := (if_neg c9).symm.trans h
      refine Vm.iload (n := 94) 4 dX8_without_92 rfl rfl ?_
      refine Vm.goto 98 dX8_without_94 rfl ?_
      refine Vm.sub (lv' := [(0, .inr (.inr (32, 0))), (1, .inl a1), (3, .inl a3), (4, .inl a4), (5, .inl a5)]) [0, 1, 3, 4, 5] rfl ?_
      replace h := Option.map_eq_some_iff.mp h
      obtain ⟨w9, h, e8⟩ := h
      subst e8
      exact lX8_without_98 a1 a3 a4 a5 a4 σ τ h hk
  · replace h := (if_neg c9).symm.trans h
    refine Vm.iload (n := 53) 5 dX8_without_51 rfl rfl ?_
    refine Vm.aload_n (n := 54) 0 dX8_without_53 rfl rfl ?_
    refine Vm.getR (n := 57) dX8_without_54 rfl wf_RX8_36 in_32 rfl (by decide) rfl ?_
    refine Vm.iload (n := 59) 6 dX8_without_57 rfl rfl ?_
    replace h := Option.bind_eq_some_iff.mp h
    obtain ⟨x1, h1, h⟩ := h
    refine Vm.ialdm (n := 60) dX8_without_59 rfl in_49 rfl rfl (by decide) h1 ?_
    refine Vm.iconst (n := 61) (v := (1 : Int32)) dX8_without_60 rfl (by decide) ?_
    refine Vm.iload (n := 63) 4 dX8_without_61 rfl rfl ?_
    refine Vm.ishl (n := 64) dX8_without_63 rfl ?_
    refine Vm.ior (n := 65) dX8_without_64 rfl ?_
    refine Vm.aload_n (n := 66) 0 dX8_without_65 rfl rfl ?_
    refine Vm.callV (Y := mX8_allRows) (n := 69) [] dX8_without_66 rfl wv_RX8_186 omX8_allRows rfl in_32 rfl rfl rfl (Nat.le_of_ble_eq_true rfl) (by decide) (kX8_allRows σ τ rfl) ?_
    refine Vm.icmp_ne (n := 72) 76 dX8_without_69 rfl rfl (fun c9 => ?_) (fun c9 => ?_)
    · replace h := (if_neg c9).symm.trans h
      refine Vm.iconst (n := 77) (v := (0 : Int32)) dX8_without_76 rfl (by decide) ?_
      refine Vm.sub (lv' := [(0, .inr (.inr (32, 0))), (1, .inl a1), (2, .inl a2), (3, .inl a3), (4, .inl a4), (6, .inl a6)]) [0, 1, 2, 3, 4, 6] rfl ?_
      exact lX8_without_77 a1 a2 a3 a4 a6 a5 (0 : Int32) σ τ h hk
    · replace h := (if_pos c9).symm.trans h
      refine Vm.iconst (n := 73) (v := (1 : Int32)) dX8_without_72 rfl (by decide) ?_
      refine Vm.goto 77 dX8_without_73 rfl ?_
      refine Vm.sub (lv' := [(0, .inr (.inr (32, 0))), (1, .inl a1), (2, .inl a2), (3, .inl a3), (4, .inl a4), (6, .inl a6)]) [0, 1, 2, 3, 4, 6] rfl ?_
      exact lX8_without_77 a1 a2 a3 a4 a6 a5 (1 : Int32) σ τ h hk
theorem lX8_without_45_L (a1 : Int32) (a2 : Int32) (a3 : Int32) (a4 : Int32) (σ τ : mm) {r : Option mv} {M' : mm × mm} (z : Int32 × Int32) (w9 : (Int32 × Int32 × Int32) ⊕ (Int32 × mm)) (h : lp (fX8_without_45_L a1 a2 a3 a4 σ) z = some w9) (hk : (Sum.elim (fun z : Int32 × Int32 × Int32 => Vm mX8_without 4 30 [(0, .inr (.inr (32, 0))), (1, .inl a1), (2, .inl z.1), (3, .inl z.2.1), (4, .inl z.2.2)] [] (τ, σ) r M') (fun q : Int32 × mm => r = some (.inl q.1) ∧ M' = (τ, q.2))) w9) : Vm mX8_without 4 45 [(0, .inr (.inr (32, 0))), (1, .inl a1), (2, .inl a2), (3, .inl a3), (4, .inl a4), (5, .inl z.1), (6, .inl z.2)] [] (τ, σ) r M' :=
  lp_link (S := Int32 × Int32) (R := (Int32 × Int32 × Int32) ⊕ (Int32 × mm)) (body := fX8_without_45_L a1 a2 a3 a4 σ) (A := fun z : Int32 × Int32 => Vm mX8_without 4 45 [(0, .inr (.inr (32, 0))), (1, .inl a1), (2, .inl a2), (3, .inl a3), (4, .inl a4), (5, .inl z.1), (6, .inl z.2)] [] (τ, σ) r M') (B := fun w : (Int32 × Int32 × Int32) ⊕ (Int32 × mm) => (Sum.elim (fun z : Int32 × Int32 × Int32 => Vm mX8_without 4 30 [(0, .inr (.inr (32, 0))), (1, .inl a1), (2, .inl z.1), (3, .inl z.2.1), (4, .inl z.2.2)] [] (τ, σ) r M') (fun q : Int32 × mm => r = some (.inl q.1) ∧ M' = (τ, q.2))) w) (fun z v hb hv => lX8_without_45 a1 a2 a3 a4 z.1 z.2 σ τ hb hv) z w9 h hk
set_option maxRecDepth 20000 in
theorem lX8_without_30 (a1 : Int32) (a2 : Int32) (a3 : Int32) (a4 : Int32) (σ τ : mm) {r : Option mv} {M' : mm × mm} {v9 : (Int32 × Int32 × Int32) ⊕ (Int32 × mm)} (h : fX8_without_30 a1 a2 a3 a4 σ = some v9) (hk : (Sum.elim (fun z : Int32 × Int32 × Int32 => Vm mX8_without 4 30 [(0, .inr (.inr (32, 0))), (1, .inl a1), (2, .inl z.1), (3, .inl z.2.1), (4, .inl z.2.2)] [] (τ, σ) r M') (fun q : Int32 × mm => r = some (.inl q.1) ∧ M' = (τ, q.2))) v9) : Vm mX8_without 4 30 [(0, .inr (.inr (32, 0))), (1, .inl a1), (2, .inl a2), (3, .inl a3), (4, .inl a4)] [] (τ, σ) r M' := by
  unfold fX8_without_30 at h
  refine Vm.iload (n := 32) 4 dX8_without_30 rfl rfl ?_
  refine Vm.aload_n (n := 33) 0 dX8_without_32 rfl rfl ?_
  refine Vm.gM (n := 36) dX8_without_33 rfl wf_RX8_97 in_32 rfl (by decide) rfl (by decide) ?_
  refine Vm.icmp_ge (n := 39) 118 dX8_without_36 rfl rfl (fun c9 => ?_) (fun c9 => ?_)
  · replace h := (if_pos c9).symm.trans h
    refine Vm.iload_n (n := 119) 2 dX8_without_118 rfl rfl ?_
    obtain rfl := Option.some.inj h
    exact Vm.iret dX8_without_119 rfl hk.1 hk.2.symm
  · replace h := (if_neg c9).symm.trans h
    refine Vm.iconst (n := 40) (v := (0 : Int32)) dX8_without_39 rfl (by decide) ?_
    refine Vm.istore (n := 42) (lv' := [(5, .inl (0 : Int32)), (0, .inr (.inr (32, 0))), (1, .inl a1), (2, .inl a2), (3, .inl a3), (4, .inl a4)]) dX8_without_40 rfl (Nat.le_of_ble_eq_true rfl) rfl ?_
    refine Vm.iconst (n := 43) (v := (0 : Int32)) dX8_without_42 rfl (by decide) ?_
    refine Vm.istore (n := 45) (lv' := [(6, .inl (0 : Int32)), (5, .inl (0 : Int32)), (0, .inr (.inr (32, 0))), (1, .inl a1), (2, .inl a2), (3, .inl a3), (4, .inl a4)]) dX8_without_43 rfl (Nat.le_of_ble_eq_true rfl) rfl ?_
    refine Vm.sub (lv' := [(0, .inr (.inr (32, 0))), (1, .inl a1), (2, .inl a2), (3, .inl a3), (4, .inl a4), (5, .inl (0 : Int32)), (6, .inl (0 : Int32))]) [2, 3, 4, 5, 6, 1, 0] rfl ?_
    exact lX8_without_45_L a1 a2 a3 a4 σ τ ((0 : Int32), (0 : Int32)) _ h hk
theorem lX8_without_30_L (a1 : Int32) (σ τ : mm) {r : Option mv} {M' : mm × mm} (z : Int32 × Int32 × Int32) (w9 : Int32 × mm) (h : lp (fX8_without_30_L a1 σ) z = some w9) (hk : (fun q : Int32 × mm => r = some (.inl q.1) ∧ M' = (τ, q.2)) w9) : Vm mX8_without 4 30 [(0, .inr (.inr (32, 0))), (1, .inl a1), (2, .inl z.1), (3, .inl z.2.1), (4, .inl z.2.2)] [] (τ, σ) r M' :=
  lp_link (S := Int32 × Int32 × Int32) (R := Int32 × mm) (body := fX8_without_30_L a1 σ) (A := fun z : Int32 × Int32 × Int32 => Vm mX8_without 4 30 [(0, .inr (.inr (32, 0))), (1, .inl a1), (2, .inl z.1), (3, .inl z.2.1), (4, .inl z.2.2)] [] (τ, σ) r M') (B := fun w : Int32 × mm => (fun q : Int32 × mm => r = some (.inl q.1) ∧ M' = (τ, q.2)) w) (fun z v hb hv => lX8_without_30 a1 z.1 z.2.1 z.2.2 σ τ hb hv) z w9 h hk
set_option maxRecDepth 20000 in
theorem lX8_without_0 (σ τ : mm) {r : Option mv} {M' : mm × mm} {v9 : Int32 × mm} (h : fX8_without_0 σ = some v9) (hk : (fun q : Int32 × mm => r = some (.inl q.1) ∧ M' = (τ, q.2)) v9) : Vm mX8_without 4 0 [(0, .inr (.inr (32, 0)))] [] (τ, σ) r M' := by
  unfold fX8_without_0 at h
  refine Vm.aload_n (n := 1) 0 dX8_without_0 rfl rfl ?_
  refine Vm.gM (n := 4) dX8_without_1 rfl wf_RX8_97 in_32 rfl (by decide) rfl (by decide) ?_
  refine Vm.if_ne (n := 7) 14 dX8_without_4 rfl rfl (fun c9 => ?_) (fun c9 => ?_)
  · replace h := (if_neg c9).symm.trans h
    refine Vm.aload_n (n := 15) 0 dX8_without_14 rfl rfl ?_
    replace h := Option.bind_eq_some_iff.mp h
    obtain ⟨q1, h1, h⟩ := h
    refine Vm.callVv (Y := mX8_looks) (n := 18) [] dX8_without_15 rfl wv_RX8_189 omX8_looks rfl in_32 rfl rfl rfl (Nat.le_of_ble_eq_true rfl) (by decide) (kX8_looks σ τ h1) ?_
    refine Vm.aload_n (n := 19) 0 dX8_without_18 rfl rfl ?_
    replace h := Option.bind_eq_some_iff.mp h
    obtain ⟨q2, h2, h⟩ := h
    refine Vm.callV (Y := mX8_points) (n := 22) [] dX8_without_19 rfl wv_RX8_111 omX8_points rfl in_32 rfl rfl rfl (Nat.le_of_ble_eq_true rfl) (by decide) (kX8_points q1 τ h2) ?_
    refine Vm.istore_n (n := 23) (lv' := [(1, .inl q2), (0, .inr (.inr (32, 0)))]) dX8_without_22 rfl (Nat.le_of_ble_eq_true rfl) rfl ?_
    refine Vm.iconst (n := 24) (v := (0 : Int32)) dX8_without_23 rfl (by decide) ?_
    refine Vm.istore_n (n := 25) (lv' := [(2, .inl (0 : Int32)), (1, .inl q2), (0, .inr (.inr (32, 0)))]) dX8_without_24 rfl (Nat.le_of_ble_eq_true rfl) rfl ?_
    refine Vm.iconst (n := 26) (v := (-1 : Int32)) dX8_without_25 rfl (by decide) ?_
    refine Vm.istore_n (n := 27) (lv' := [(3, .inl (-1 : Int32)), (2, .inl (0 : Int32)), (1, .inl q2), (0, .inr (.inr (32, 0)))]) dX8_without_26 rfl (Nat.le_of_ble_eq_true rfl) rfl ?_
    refine Vm.iconst (n := 28) (v := (0 : Int32)) dX8_without_27 rfl (by decide) ?_
    refine Vm.istore (n := 30) (lv' := [(4, .inl (0 : Int32)), (3, .inl (-1 : Int32)), (2, .inl (0 : Int32)), (1, .inl q2), (0, .inr (.inr (32, 0)))]) dX8_without_28 rfl (Nat.le_of_ble_eq_true rfl) rfl ?_
    refine Vm.sub (lv' := [(0, .inr (.inr (32, 0))), (1, .inl q2), (2, .inl (0 : Int32)), (3, .inl (-1 : Int32)), (4, .inl (0 : Int32))]) [4, 3, 2, 1, 0] rfl ?_
    exact lX8_without_30_L q2 q1 τ ((0 : Int32), (-1 : Int32), (0 : Int32)) _ h hk
  · replace h := (if_pos c9).symm.trans h
    refine Vm.aload_n (n := 8) 0 dX8_without_7 rfl rfl ?_
    refine Vm.ldc (n := 10) dX8_without_8 rfl wc_RX8_167 ?_
    replace h := Option.bind_eq_some_iff.mp h
    obtain ⟨q3, h3, h⟩ := h
    refine Vm.callV (Y := mX8_finds) (n := 13) [.inl (-1000000004 : Int32)] dX8_without_10 rfl wv_RX8_102 omX8_finds rfl in_32 rfl rfl rfl (Nat.le_of_ble_eq_true rfl) (by decide) (kX8_finds (-1000000004 : Int32) σ τ h3) ?_
    obtain rfl := Option.some.inj h
    exact Vm.iret dX8_without_13 rfl hk.1 hk.2.symm
theorem kX8_without (σ τ : mm) {q : Int32 × mm} (h : fX8_without σ = some q) : Cx mX8_without 4 [.inr (.inr (32, 0))] (τ, σ) (some (.inl q.1)) (τ, q.2) :=
  Cx.of (lv := [(0, .inr (.inr (32, 0)))]) (by decide) (fun ad => Nat.le_of_ble_eq_true rfl) (fun ad => rfl) (lX8_without_0 σ τ h ⟨rfl, rfl⟩)
-- ThinBodiesModel kind (I)I
noncomputable def fX8_kind_86 (a1 : Int32) (a2 : Int32) (a3 : Int32) (a5 : Int32) (s0 : Int32) (σ : mm) : Option ((Int32 × Int32 × Int32 × mm) ⊕ (Int32 × mm)) :=
  Option.bind (some (a5 + (1 : Int32))) fun x1 =>
  some (.inl (a3, s0, x1, σ))
noncomputable def fX8_kind_67 (a1 : Int32) (a2 : Int32) (a4 : Int32) (a5 : Int32) (s0 : Int32) (σ : mm) : Option ((Int32 × Int32 × Int32 × mm) ⊕ (Int32 × mm)) :=
  if (σ.1 32 0 11) ≤ a4 then
  fX8_kind_86 a1 a2 s0 a5 a4 σ
  else
  fX8_kind_86 a1 a2 s0 a5 (σ.1 32 0 11) σ
noncomputable def fX8_kind_30 (a1 : Int32) (a2 : Int32) (a3 : Int32) (a4 : Int32) (a5 : Int32) (σ : mm) : Option ((Int32 × Int32 × Int32 × mm) ⊕ (Int32 × mm)) :=
  if (6 : Int32) ≤ a5 then
  Option.bind (wrI σ 45 0 56 ((7 : Int32) * a1) a2) fun σ1 =>
  some (.inr ((a3, σ1)))
  else
  Option.bind (wrI σ 45 0 56 ((7 : Int32) * a1) a5) fun σ2 =>
  Option.bind (fX8_looks σ2) fun q3 =>
  if (q3.1 32 0 11) ≤ a4 then
  fX8_kind_67 a1 a2 a4 a5 a3 q3
  else
  fX8_kind_67 a1 a2 a4 a5 a5 q3
noncomputable def fX8_kind_30_L (a1 : Int32) (a2 : Int32) : Int32 × Int32 × Int32 × mm → Option ((Int32 × Int32 × Int32 × mm) ⊕ (Int32 × mm)) := fun z => fX8_kind_30 a1 a2 z.1 z.2.1 z.2.2.1 z.2.2.2
noncomputable def fX8_kind_0 (a1 : Int32) (σ : mm) : Option (Int32 × mm) :=
  if (bi (fX8_isRow a1 σ)) = (0 : Int32) then
  Option.bind (fX8_finds (-1000000001 : Int32) σ) fun q2 =>
  some ((q2.1, q2.2))
  else
  Option.bind (fX8_at a1 (0 : Int32) σ) fun q1 =>
  lp (fX8_kind_30_L a1 q1) ((0 : Int32), (-1 : Int32), (0 : Int32), σ)
noncomputable def fX8_kind (a1 : Int32) (σ : mm) : Option (Int32 × mm) := fX8_kind_0 a1 σ
set_option maxRecDepth 20000 in
theorem lX8_kind_86 (a1 : Int32) (a2 : Int32) (a3 : Int32) (a5 : Int32) (s0 : Int32) (σ τ : mm) {r : Option mv} {M' : mm × mm} {v9 : (Int32 × Int32 × Int32 × mm) ⊕ (Int32 × mm)} (h : fX8_kind_86 a1 a2 a3 a5 s0 σ = some v9) (hk : (Sum.elim (fun z : Int32 × Int32 × Int32 × mm => Vm mX8_kind 4 30 [(0, .inr (.inr (32, 0))), (1, .inl a1), (2, .inl a2), (3, .inl z.1), (4, .inl z.2.1), (5, .inl z.2.2.1)] [] (τ, z.2.2.2) r M') (fun q : Int32 × mm => r = some (.inl q.1) ∧ M' = (τ, q.2))) v9) : Vm mX8_kind 4 86 [(0, .inr (.inr (32, 0))), (1, .inl a1), (2, .inl a2), (3, .inl a3), (5, .inl a5)] [.inl s0] (τ, σ) r M' := by
  unfold fX8_kind_86 at h
  refine Vm.istore (n := 88) (lv' := [(4, .inl s0), (0, .inr (.inr (32, 0))), (1, .inl a1), (2, .inl a2), (3, .inl a3), (5, .inl a5)]) dX8_kind_86 rfl (Nat.le_of_ble_eq_true rfl) rfl ?_
  replace h := Option.bind_eq_some_iff.mp h
  obtain ⟨x1, e1, h⟩ := h
  replace e1 := Option.some.inj e1
  refine Vm.iinc (n := 91) (v := x1) (lv' := [(5, .inl x1), (4, .inl s0), (0, .inr (.inr (32, 0))), (1, .inl a1), (2, .inl a2), (3, .inl a3)]) 5 dX8_kind_88 rfl rfl e1 (Nat.le_of_ble_eq_true rfl) rfl ?_
  refine Vm.goto 30 dX8_kind_91 rfl ?_
  refine Vm.sub (lv' := [(0, .inr (.inr (32, 0))), (1, .inl a1), (2, .inl a2), (3, .inl a3), (4, .inl s0), (5, .inl x1)]) [2, 3, 4, 5, 1, 0] rfl ?_
  obtain rfl := Option.some.inj h
  exact hk
set_option maxRecDepth 20000 in
theorem lX8_kind_67 (a1 : Int32) (a2 : Int32) (a4 : Int32) (a5 : Int32) (s0 : Int32) (σ τ : mm) {r : Option mv} {M' : mm × mm} {v9 : (Int32 × Int32 × Int32 × mm) ⊕ (Int32 × mm)} (h : fX8_kind_67 a1 a2 a4 a5 s0 σ = some v9) (hk : (Sum.elim (fun z : Int32 × Int32 × Int32 × mm => Vm mX8_kind 4 30 [(0, .inr (.inr (32, 0))), (1, .inl a1), (2, .inl a2), (3, .inl z.1), (4, .inl z.2.1), (5, .inl z.2.2.1)] [] (τ, z.2.2.2) r M') (fun q : Int32 × mm => r = some (.inl q.1) ∧ M' = (τ, q.2))) v9) : Vm mX8_kind 4 67 [(0, .inr (.inr (32, 0))), (1, .inl a1), (2, .inl a2), (4, .inl a4), (5, .inl a5)] [.inl s0] (τ, σ) r M' := by
  unfold fX8_kind_67 at h
  refine Vm.istore_n (n := 68) (lv' := [(3, .inl s0), (0, .inr (.inr (32, 0))), (1, .inl a1), (2, .inl a2), (4, .inl a4), (5, .inl a5)]) dX8_kind_67 rfl (Nat.le_of_ble_eq_true rfl) rfl ?_
  refine Vm.aload_n (n := 69) 1 dX8_kind_68 rfl rfl ?_
  refine Vm.gM (n := 72) dX8_kind_69 rfl wf_RX8_176 in_32 rfl (by decide) rfl (by decide) ?_
  refine Vm.iload (n := 74) 4 dX8_kind_72 rfl rfl ?_
  refine Vm.icmp_le (n := 77) 84 dX8_kind_74 rfl rfl (fun c9 => ?_) (fun c9 => ?_)
  · replace h := (if_pos c9).symm.trans h
    refine Vm.iload (n := 86) 4 dX8_kind_84 rfl rfl ?_
    refine Vm.sub (lv' := [(0, .inr (.inr (32, 0))), (1, .inl a1), (2, .inl a2), (3, .inl s0), (5, .inl a5)]) [1, 2, 3, 0, 5] rfl ?_
    exact lX8_kind_86 a1 a2 s0 a5 a4 σ τ h hk
  · replace h := (if_neg c9).symm.trans h
    refine Vm.aload_n (n := 78) 1 dX8_kind_77 rfl rfl ?_
    refine Vm.gM (n := 81) dX8_kind_78 rfl wf_RX8_176 in_32 rfl (by decide) rfl (by decide) ?_
    refine Vm.goto 86 dX8_kind_81 rfl ?_
    refine Vm.sub (lv' := [(0, .inr (.inr (32, 0))), (1, .inl a1), (2, .inl a2), (3, .inl s0), (5, .inl a5)]) [1, 2, 3, 0, 5] rfl ?_
    exact lX8_kind_86 a1 a2 s0 a5 (σ.1 32 0 11) σ τ h hk
set_option maxRecDepth 20000 in
theorem lX8_kind_30 (a1 : Int32) (a2 : Int32) (a3 : Int32) (a4 : Int32) (a5 : Int32) (σ τ : mm) {r : Option mv} {M' : mm × mm} {v9 : (Int32 × Int32 × Int32 × mm) ⊕ (Int32 × mm)} (h : fX8_kind_30 a1 a2 a3 a4 a5 σ = some v9) (hk : (Sum.elim (fun z : Int32 × Int32 × Int32 × mm => Vm mX8_kind 4 30 [(0, .inr (.inr (32, 0))), (1, .inl a1), (2, .inl a2), (3, .inl z.1), (4, .inl z.2.1), (5, .inl z.2.2.1)] [] (τ, z.2.2.2) r M') (fun q : Int32 × mm => r = some (.inl q.1) ∧ M' = (τ, q.2))) v9) : Vm mX8_kind 4 30 [(0, .inr (.inr (32, 0))), (1, .inl a1), (2, .inl a2), (3, .inl a3), (4, .inl a4), (5, .inl a5)] [] (τ, σ) r M' := by
  unfold fX8_kind_30 at h
  refine Vm.iload (n := 32) 5 dX8_kind_30 rfl rfl ?_
  refine Vm.bipush (n := 34) (v := (6 : Int32)) dX8_kind_32 rfl (by decide) ?_
  refine Vm.icmp_ge (n := 37) 94 dX8_kind_34 rfl rfl (fun c9 => ?_) (fun c9 => ?_)
  · replace h := (if_pos c9).symm.trans h
    refine Vm.aload_n (n := 95) 0 dX8_kind_94 rfl rfl ?_
    refine Vm.getR (n := 98) dX8_kind_95 rfl wf_RX8_23 in_32 rfl (by decide) rfl ?_
    refine Vm.bipush (n := 100) (v := (7 : Int32)) dX8_kind_98 rfl (by decide) ?_
    refine Vm.iload_n (n := 101) 1 dX8_kind_100 rfl rfl ?_
    refine Vm.imul (n := 102) dX8_kind_101 rfl ?_
    refine Vm.iload_n (n := 103) 2 dX8_kind_102 rfl rfl ?_
    replace h := Option.bind_eq_some_iff.mp h
    obtain ⟨σ1, h1, h⟩ := h
    refine Vm.iastm (n := 104) dX8_kind_103 rfl in_45 rfl rfl (by decide) h1 ?_
    refine Vm.iload_n (n := 105) 3 dX8_kind_104 rfl rfl ?_
    obtain rfl := Option.some.inj h
    exact Vm.iret dX8_kind_105 rfl hk.1 hk.2.symm
  · replace h := (if_neg c9).symm.trans h
    refine Vm.aload_n (n := 38) 0 dX8_kind_37 rfl rfl ?_
    refine Vm.getR (n := 41) dX8_kind_38 rfl wf_RX8_23 in_32 rfl (by decide) rfl ?_
    refine Vm.bipush (n := 43) (v := (7 : Int32)) dX8_kind_41 rfl (by decide) ?_
    refine Vm.iload_n (n := 44) 1 dX8_kind_43 rfl rfl ?_
    refine Vm.imul (n := 45) dX8_kind_44 rfl ?_
    refine Vm.iload (n := 47) 5 dX8_kind_45 rfl rfl ?_
    replace h := Option.bind_eq_some_iff.mp h
    obtain ⟨σ2, h2, h⟩ := h
    refine Vm.iastm (n := 48) dX8_kind_47 rfl in_45 rfl rfl (by decide) h2 ?_
    refine Vm.aload_n (n := 49) 0 dX8_kind_48 rfl rfl ?_
    replace h := Option.bind_eq_some_iff.mp h
    obtain ⟨q3, h3, h⟩ := h
    refine Vm.callVv (Y := mX8_looks) (n := 52) [] dX8_kind_49 rfl wv_RX8_189 omX8_looks rfl in_32 rfl rfl rfl (Nat.le_of_ble_eq_true rfl) (by decide) (kX8_looks σ2 τ h3) ?_
    refine Vm.aload_n (n := 53) 0 dX8_kind_52 rfl rfl ?_
    refine Vm.gM (n := 56) dX8_kind_53 rfl wf_RX8_176 in_32 rfl (by decide) rfl (by decide) ?_
    refine Vm.iload (n := 58) 4 dX8_kind_56 rfl rfl ?_
    refine Vm.icmp_le (n := 61) 66 dX8_kind_58 rfl rfl (fun c9 => ?_) (fun c9 => ?_)
    · replace h := (if_pos c9).symm.trans h
      refine Vm.iload_n (n := 67) 3 dX8_kind_66 rfl rfl ?_
      refine Vm.sub (lv' := [(0, .inr (.inr (32, 0))), (1, .inl a1), (2, .inl a2), (4, .inl a4), (5, .inl a5)]) [0, 1, 2, 4, 5] rfl ?_
      exact lX8_kind_67 a1 a2 a4 a5 a3 q3 τ h hk
    · replace h := (if_neg c9).symm.trans h
      refine Vm.iload (n := 63) 5 dX8_kind_61 rfl rfl ?_
      refine Vm.goto 67 dX8_kind_63 rfl ?_
      refine Vm.sub (lv' := [(0, .inr (.inr (32, 0))), (1, .inl a1), (2, .inl a2), (4, .inl a4), (5, .inl a5)]) [0, 1, 2, 4, 5] rfl ?_
      exact lX8_kind_67 a1 a2 a4 a5 a5 q3 τ h hk
theorem lX8_kind_30_L (a1 : Int32) (a2 : Int32) (τ : mm) {r : Option mv} {M' : mm × mm} (z : Int32 × Int32 × Int32 × mm) (w9 : Int32 × mm) (h : lp (fX8_kind_30_L a1 a2) z = some w9) (hk : (fun q : Int32 × mm => r = some (.inl q.1) ∧ M' = (τ, q.2)) w9) : Vm mX8_kind 4 30 [(0, .inr (.inr (32, 0))), (1, .inl a1), (2, .inl a2), (3, .inl z.1), (4, .inl z.2.1), (5, .inl z.2.2.1)] [] (τ, z.2.2.2) r M' :=
  lp_link (S := Int32 × Int32 × Int32 × mm) (R := Int32 × mm) (body := fX8_kind_30_L a1 a2) (A := fun z : Int32 × Int32 × Int32 × mm => Vm mX8_kind 4 30 [(0, .inr (.inr (32, 0))), (1, .inl a1), (2, .inl a2), (3, .inl z.1), (4, .inl z.2.1), (5, .inl z.2.2.1)] [] (τ, z.2.2.2) r M') (B := fun w : Int32 × mm => (fun q : Int32 × mm => r = some (.inl q.1) ∧ M' = (τ, q.2)) w) (fun z v hb hv => lX8_kind_30 a1 a2 z.1 z.2.1 z.2.2.1 z.2.2.2 τ hb hv) z w9 h hk
set_option maxRecDepth 20000 in
theorem lX8_kind_0 (a1 : Int32) (σ τ : mm) {r : Option mv} {M' : mm × mm} {v9 : Int32 × mm} (h : fX8_kind_0 a1 σ = some v9) (hk : (fun q : Int32 × mm => r = some (.inl q.1) ∧ M' = (τ, q.2)) v9) : Vm mX8_kind 4 0 [(0, .inr (.inr (32, 0))), (1, .inl a1)] [] (τ, σ) r M' := by
  unfold fX8_kind_0 at h
  refine Vm.aload_n (n := 1) 0 dX8_kind_0 rfl rfl ?_
  refine Vm.iload_n (n := 2) 1 dX8_kind_1 rfl rfl ?_
  refine Vm.callV (Y := mX8_isRow) (n := 5) [.inl a1] dX8_kind_2 rfl wv_RX8_150 omX8_isRow rfl in_32 rfl rfl rfl (Nat.le_of_ble_eq_true rfl) (by decide) (kX8_isRow a1 σ τ rfl) ?_
  refine Vm.if_ne (n := 8) 15 dX8_kind_5 rfl rfl (fun c9 => ?_) (fun c9 => ?_)
  · replace h := (if_neg c9).symm.trans h
    refine Vm.aload_n (n := 16) 0 dX8_kind_15 rfl rfl ?_
    refine Vm.iload_n (n := 17) 1 dX8_kind_16 rfl rfl ?_
    refine Vm.iconst (n := 18) (v := (0 : Int32)) dX8_kind_17 rfl (by decide) ?_
    replace h := Option.bind_eq_some_iff.mp h
    obtain ⟨q1, h1, h⟩ := h
    refine Vm.callV (Y := mX8_at) (n := 21) [.inl a1, .inl (0 : Int32)] dX8_kind_18 rfl wv_RX8_142 omX8_at rfl in_32 rfl rfl rfl (Nat.le_of_ble_eq_true rfl) (by decide) (kX8_at a1 (0 : Int32) σ τ h1) ?_
    refine Vm.istore_n (n := 22) (lv' := [(2, .inl q1), (0, .inr (.inr (32, 0))), (1, .inl a1)]) dX8_kind_21 rfl (Nat.le_of_ble_eq_true rfl) rfl ?_
    refine Vm.iconst (n := 23) (v := (0 : Int32)) dX8_kind_22 rfl (by decide) ?_
    refine Vm.istore_n (n := 24) (lv' := [(3, .inl (0 : Int32)), (2, .inl q1), (0, .inr (.inr (32, 0))), (1, .inl a1)]) dX8_kind_23 rfl (Nat.le_of_ble_eq_true rfl) rfl ?_
    refine Vm.iconst (n := 25) (v := (-1 : Int32)) dX8_kind_24 rfl (by decide) ?_
    refine Vm.istore (n := 27) (lv' := [(4, .inl (-1 : Int32)), (3, .inl (0 : Int32)), (2, .inl q1), (0, .inr (.inr (32, 0))), (1, .inl a1)]) dX8_kind_25 rfl (Nat.le_of_ble_eq_true rfl) rfl ?_
    refine Vm.iconst (n := 28) (v := (0 : Int32)) dX8_kind_27 rfl (by decide) ?_
    refine Vm.istore (n := 30) (lv' := [(5, .inl (0 : Int32)), (4, .inl (-1 : Int32)), (3, .inl (0 : Int32)), (2, .inl q1), (0, .inr (.inr (32, 0))), (1, .inl a1)]) dX8_kind_28 rfl (Nat.le_of_ble_eq_true rfl) rfl ?_
    refine Vm.sub (lv' := [(0, .inr (.inr (32, 0))), (1, .inl a1), (2, .inl q1), (3, .inl (0 : Int32)), (4, .inl (-1 : Int32)), (5, .inl (0 : Int32))]) [4, 5, 3, 2, 1, 0] rfl ?_
    exact lX8_kind_30_L a1 q1 τ ((0 : Int32), (-1 : Int32), (0 : Int32), σ) _ h hk
  · replace h := (if_pos c9).symm.trans h
    refine Vm.aload_n (n := 9) 0 dX8_kind_8 rfl rfl ?_
    refine Vm.ldc (n := 11) dX8_kind_9 rfl wc_RX8_92 ?_
    replace h := Option.bind_eq_some_iff.mp h
    obtain ⟨q2, h2, h⟩ := h
    refine Vm.callV (Y := mX8_finds) (n := 14) [.inl (-1000000001 : Int32)] dX8_kind_11 rfl wv_RX8_102 omX8_finds rfl in_32 rfl rfl rfl (Nat.le_of_ble_eq_true rfl) (by decide) (kX8_finds (-1000000001 : Int32) σ τ h2) ?_
    obtain rfl := Option.some.inj h
    exact Vm.iret dX8_kind_14 rfl hk.1 hk.2.symm
theorem kX8_kind (a1 : Int32) (σ τ : mm) {q : Int32 × mm} (h : fX8_kind a1 σ = some q) : Cx mX8_kind 4 [.inr (.inr (32, 0)), .inl a1] (τ, σ) (some (.inl q.1)) (τ, q.2) :=
  Cx.of (lv := [(0, .inr (.inr (32, 0))), (1, .inl a1)]) (by decide) (fun ad => Nat.le_of_ble_eq_true rfl) (fun ad => rfl) (lX8_kind_0 a1 σ τ h ⟨rfl, rfl⟩)
-- ThinBodiesModel boundFor (I)I
noncomputable def fX8_boundFor_159 (a1 : Int32) (a3 : Int32) (a4 : Int32) (σ : mm) : Option ((Int32) ⊕ ((Int32) ⊕ (Int32 × mm))) :=
  Option.bind (some (a4 + (1 : Int32))) fun x1 =>
  some (.inl (x1))
noncomputable def fX8_boundFor_111 (a1 : Int32) (a3 : Int32) (a4 : Int32) (σ : mm) : Option ((Int32) ⊕ ((Int32) ⊕ (Int32 × mm))) :=
  if (801 : Int32) ≤ a4 then
  Option.bind (some (a3 + (1 : Int32))) fun x1 =>
  some (.inr (.inl (x1)))
  else
  Option.bind (rdI σ 62 0 801 a4) fun x2 =>
  if x2 = (1 : Int32) then
  Option.bind (fX8_at a1 (0 : Int32) σ) fun q3 =>
  Option.bind (fX8_at a1 (2 : Int32) σ) fun q4 =>
  Option.bind (fX8_holdsBy q3 q4 (((a4 - (400 : Int32)) - a3).toInt64)) fun q5 =>
  if (bi q5) = (0 : Int32) then
  fX8_boundFor_159 a1 a3 a4 σ
  else
  some (.inr (.inr ((a3, σ))))
  else
  fX8_boundFor_159 a1 a3 a4 σ
noncomputable def fX8_boundFor_111_L (a1 : Int32) (a3 : Int32) (σ : mm) : Int32 → Option ((Int32) ⊕ ((Int32) ⊕ (Int32 × mm))) := fun z => fX8_boundFor_111 a1 a3 z σ
noncomputable def fX8_boundFor_101 (a1 : Int32) (a3 : Int32) (σ : mm) : Option ((Int32) ⊕ (Int32 × mm)) :=
  if (999 : Int32) < a3 then
  Option.bind (fX8_finds (-1000000004 : Int32) σ) fun q1 =>
  some (.inr ((q1.1, q1.2)))
  else
  lp (fX8_boundFor_111_L a1 a3 σ) ((0 : Int32))
noncomputable def fX8_boundFor_101_L (a1 : Int32) (σ : mm) : Int32 → Option ((Int32) ⊕ (Int32 × mm)) := fun z => fX8_boundFor_101 a1 z σ
noncomputable def fX8_boundFor_91 (a1 : Int32) (a2 : Int32) (a3 : Int32) (σ : mm) : Option ((Int32 × mm) ⊕ (Int32 × mm)) :=
  Option.bind (some (a3 + (1 : Int32))) fun x1 =>
  some (.inl (x1, σ))
noncomputable def fX8_boundFor_48 (a1 : Int32) (a2 : Int32) (a3 : Int32) (σ : mm) : Option ((Int32 × mm) ⊕ (Int32 × mm)) :=
  if a2 ≤ a3 then
  Option.map Sum.inr (lp (fX8_boundFor_101_L a1 σ) ((-999 : Int32)))
  else
  Option.bind (rdI σ 49 0 4096 a3) fun x1 =>
  if (x1 ||| ((1 : Int32) <<< (a1 &&& 31))) = (fX8_allRows σ) then
  Option.bind (fX8_goesTo a3 σ) fun q2 =>
  Option.bind (fX8_sumOf a1 q2) fun q3 =>
  Option.bind (wrI q2 62 0 801 ((400 : Int32) + q3.toInt32) (1 : Int32)) fun σ4 =>
  fX8_boundFor_91 a1 a2 a3 σ4
  else
  fX8_boundFor_91 a1 a2 a3 σ
noncomputable def fX8_boundFor_48_L (a1 : Int32) (a2 : Int32) : Int32 × mm → Option ((Int32 × mm) ⊕ (Int32 × mm)) := fun z => fX8_boundFor_48 a1 a2 z.1 z.2
noncomputable def fX8_boundFor_17 (a1 : Int32) (a2 : Int32) (σ : mm) : Option ((Int32 × mm) ⊕ (Int32 × mm)) :=
  if (801 : Int32) ≤ a2 then
  Option.bind (fX8_looks σ) fun q1 =>
  Option.bind (fX8_points q1) fun q2 =>
  Option.map Sum.inr (lp (fX8_boundFor_48_L a1 q2) ((0 : Int32), q1))
  else
  Option.bind (wrI σ 62 0 801 a2 (0 : Int32)) fun σ3 =>
  Option.bind (some (a2 + (1 : Int32))) fun x4 =>
  some (.inl (x4, σ3))
noncomputable def fX8_boundFor_17_L (a1 : Int32) : Int32 × mm → Option ((Int32 × mm) ⊕ (Int32 × mm)) := fun z => fX8_boundFor_17 a1 z.1 z.2
noncomputable def fX8_boundFor_0 (a1 : Int32) (σ : mm) : Option (Int32 × mm) :=
  if (bi (fX8_isRow a1 σ)) = (0 : Int32) then
  Option.bind (fX8_finds (-1000000001 : Int32) σ) fun q1 =>
  some ((q1.1, q1.2))
  else
  lp (fX8_boundFor_17_L a1) ((0 : Int32), σ)
noncomputable def fX8_boundFor (a1 : Int32) (σ : mm) : Option (Int32 × mm) := fX8_boundFor_0 a1 σ
set_option maxRecDepth 20000 in
theorem lX8_boundFor_159 (a1 : Int32) (a3 : Int32) (a4 : Int32) (σ τ : mm) {r : Option mv} {M' : mm × mm} {v9 : (Int32) ⊕ ((Int32) ⊕ (Int32 × mm))} (h : fX8_boundFor_159 a1 a3 a4 σ = some v9) (hk : (Sum.elim (fun z : Int32 => Vm mX8_boundFor 4 111 [(0, .inr (.inr (32, 0))), (1, .inl a1), (3, .inl a3), (4, .inl z)] [] (τ, σ) r M') (Sum.elim (fun z : Int32 => Vm mX8_boundFor 4 101 [(0, .inr (.inr (32, 0))), (1, .inl a1), (3, .inl z)] [] (τ, σ) r M') (fun q : Int32 × mm => r = some (.inl q.1) ∧ M' = (τ, q.2)))) v9) : Vm mX8_boundFor 4 159 [(0, .inr (.inr (32, 0))), (1, .inl a1), (3, .inl a3), (4, .inl a4)] [] (τ, σ) r M' := by
  unfold fX8_boundFor_159 at h
  replace h := Option.bind_eq_some_iff.mp h
  obtain ⟨x1, e1, h⟩ := h
  replace e1 := Option.some.inj e1
  refine Vm.iinc (n := 162) (v := x1) (lv' := [(4, .inl x1), (0, .inr (.inr (32, 0))), (1, .inl a1), (3, .inl a3)]) 3 dX8_boundFor_159 rfl rfl e1 (Nat.le_of_ble_eq_true rfl) rfl ?_
  refine Vm.goto 111 dX8_boundFor_162 rfl ?_
  refine Vm.sub (lv' := [(0, .inr (.inr (32, 0))), (1, .inl a1), (3, .inl a3), (4, .inl x1)]) [1, 2, 3, 0] rfl ?_
  obtain rfl := Option.some.inj h
  exact hk
set_option maxRecDepth 20000 in
theorem lX8_boundFor_111 (a1 : Int32) (a3 : Int32) (a4 : Int32) (σ τ : mm) {r : Option mv} {M' : mm × mm} {v9 : (Int32) ⊕ ((Int32) ⊕ (Int32 × mm))} (h : fX8_boundFor_111 a1 a3 a4 σ = some v9) (hk : (Sum.elim (fun z : Int32 => Vm mX8_boundFor 4 111 [(0, .inr (.inr (32, 0))), (1, .inl a1), (3, .inl a3), (4, .inl z)] [] (τ, σ) r M') (Sum.elim (fun z : Int32 => Vm mX8_boundFor 4 101 [(0, .inr (.inr (32, 0))), (1, .inl a1), (3, .inl z)] [] (τ, σ) r M') (fun q : Int32 × mm => r = some (.inl q.1) ∧ M' = (τ, q.2)))) v9) : Vm mX8_boundFor 4 111 [(0, .inr (.inr (32, 0))), (1, .inl a1), (3, .inl a3), (4, .inl a4)] [] (τ, σ) r M' := by
  unfold fX8_boundFor_111 at h
  refine Vm.iload (n := 113) 3 dX8_boundFor_111 rfl rfl ?_
  refine Vm.sipush (n := 116) (v := (801 : Int32)) dX8_boundFor_113 rfl (by decide) ?_
  refine Vm.icmp_ge (n := 119) 165 dX8_boundFor_116 rfl rfl (fun c9 => ?_) (fun c9 => ?_)
  · replace h := (if_pos c9).symm.trans h
    replace h := Option.bind_eq_some_iff.mp h
    obtain ⟨x1, e1, h⟩ := h
    replace e1 := Option.some.inj e1
    refine Vm.iinc (n := 168) (v := x1) (lv' := [(3, .inl x1), (0, .inr (.inr (32, 0))), (1, .inl a1), (4, .inl a4)]) 2 dX8_boundFor_165 rfl rfl e1 (Nat.le_of_ble_eq_true rfl) rfl ?_
    refine Vm.goto 101 dX8_boundFor_168 rfl ?_
    refine Vm.sub (lv' := [(0, .inr (.inr (32, 0))), (1, .inl a1), (3, .inl x1)]) [1, 2, 0] rfl ?_
    obtain rfl := Option.some.inj h
    exact hk
  · replace h := (if_neg c9).symm.trans h
    refine Vm.aload_n (n := 120) 0 dX8_boundFor_119 rfl rfl ?_
    refine Vm.getR (n := 123) dX8_boundFor_120 rfl wf_RX8_52 in_32 rfl (by decide) rfl ?_
    refine Vm.iload (n := 125) 3 dX8_boundFor_123 rfl rfl ?_
    replace h := Option.bind_eq_some_iff.mp h
    obtain ⟨x2, h2, h⟩ := h
    refine Vm.ialdm (n := 126) dX8_boundFor_125 rfl in_62 rfl rfl (by decide) h2 ?_
    refine Vm.iconst (n := 127) (v := (1 : Int32)) dX8_boundFor_126 rfl (by decide) ?_
    refine Vm.icmp_ne (n := 130) 159 dX8_boundFor_127 rfl rfl (fun c9 => ?_) (fun c9 => ?_)
    · replace h := (if_neg c9).symm.trans h
      exact lX8_boundFor_159 a1 a3 a4 σ τ h hk
    · replace h := (if_pos c9).symm.trans h
      refine Vm.aload_n (n := 131) 0 dX8_boundFor_130 rfl rfl ?_
      refine Vm.iload_n (n := 132) 1 dX8_boundFor_131 rfl rfl ?_
      refine Vm.iconst (n := 133) (v := (0 : Int32)) dX8_boundFor_132 rfl (by decide) ?_
      replace h := Option.bind_eq_some_iff.mp h
      obtain ⟨q3, h3, h⟩ := h
      refine Vm.callV (Y := mX8_at) (n := 136) [.inl a1, .inl (0 : Int32)] dX8_boundFor_133 rfl wv_RX8_142 omX8_at rfl in_32 rfl rfl rfl (Nat.le_of_ble_eq_true rfl) (by decide) (kX8_at a1 (0 : Int32) σ τ h3) ?_
      refine Vm.aload_n (n := 137) 0 dX8_boundFor_136 rfl rfl ?_
      refine Vm.iload_n (n := 138) 1 dX8_boundFor_137 rfl rfl ?_
      refine Vm.iconst (n := 139) (v := (2 : Int32)) dX8_boundFor_138 rfl (by decide) ?_
      replace h := Option.bind_eq_some_iff.mp h
      obtain ⟨q4, h4, h⟩ := h
      refine Vm.callV (Y := mX8_at) (n := 142) [.inl a1, .inl (2 : Int32)] dX8_boundFor_139 rfl wv_RX8_142 omX8_at rfl in_32 rfl rfl rfl (Nat.le_of_ble_eq_true rfl) (by decide) (kX8_at a1 (2 : Int32) σ τ h4) ?_
      refine Vm.iload (n := 144) 3 dX8_boundFor_142 rfl rfl ?_
      refine Vm.sipush (n := 147) (v := (400 : Int32)) dX8_boundFor_144 rfl (by decide) ?_
      refine Vm.isub (n := 148) dX8_boundFor_147 rfl ?_
      refine Vm.iload_n (n := 149) 2 dX8_boundFor_148 rfl rfl ?_
      refine Vm.isub (n := 150) dX8_boundFor_149 rfl ?_
      refine Vm.i2l (n := 151) dX8_boundFor_150 rfl ?_
      replace h := Option.bind_eq_some_iff.mp h
      obtain ⟨q5, h5, h⟩ := h
      refine Vm.callS (Y := mX8_holdsBy) (n := 154) [.inl q3, .inl q4, .inr (.inl (((a4 - (400 : Int32)) - a3).toInt64))] dX8_boundFor_151 rfl wv_RX8_172 omX8_holdsBy rfl rfl (Nat.le_of_ble_eq_true rfl) (by decide) (kX8_holdsBy q3 q4 (((a4 - (400 : Int32)) - a3).toInt64) h5) ?_
      refine Vm.if_eq (n := 157) 159 dX8_boundFor_154 rfl rfl (fun c9 => ?_) (fun c9 => ?_)
      · replace h := (if_pos c9).symm.trans h
        exact lX8_boundFor_159 a1 a3 a4 σ τ h hk
      · replace h := (if_neg c9).symm.trans h
        refine Vm.iload_n (n := 158) 2 dX8_boundFor_157 rfl rfl ?_
        obtain rfl := Option.some.inj h
        exact Vm.iret dX8_boundFor_158 rfl hk.1 hk.2.symm
theorem lX8_boundFor_111_L (a1 : Int32) (a3 : Int32) (σ τ : mm) {r : Option mv} {M' : mm × mm} (z : Int32) (w9 : (Int32) ⊕ (Int32 × mm)) (h : lp (fX8_boundFor_111_L a1 a3 σ) z = some w9) (hk : (Sum.elim (fun z : Int32 => Vm mX8_boundFor 4 101 [(0, .inr (.inr (32, 0))), (1, .inl a1), (3, .inl z)] [] (τ, σ) r M') (fun q : Int32 × mm => r = some (.inl q.1) ∧ M' = (τ, q.2))) w9) : Vm mX8_boundFor 4 111 [(0, .inr (.inr (32, 0))), (1, .inl a1), (3, .inl a3), (4, .inl z)] [] (τ, σ) r M' :=
  lp_link (S := Int32) (R := (Int32) ⊕ (Int32 × mm)) (body := fX8_boundFor_111_L a1 a3 σ) (A := fun z : Int32 => Vm mX8_boundFor 4 111 [(0, .inr (.inr (32, 0))), (1, .inl a1), (3, .inl a3), (4, .inl z)] [] (τ, σ) r M') (B := fun w : (Int32) ⊕ (Int32 × mm) => (Sum.elim (fun z : Int32 => Vm mX8_boundFor 4 101 [(0, .inr (.inr (32, 0))), (1, .inl a1), (3, .inl z)] [] (τ, σ) r M') (fun q : Int32 × mm => r = some (.inl q.1) ∧ M' = (τ, q.2))) w) (fun z v hb hv => lX8_boundFor_111 a1 a3 z σ τ hb hv) z w9 h hk
set_option maxRecDepth 20000 in
theorem lX8_boundFor_101 (a1 : Int32) (a3 : Int32) (σ τ : mm) {r : Option mv} {M' : mm × mm} {v9 : (Int32) ⊕ (Int32 × mm)} (h : fX8_boundFor_101 a1 a3 σ = some v9) (hk : (Sum.elim (fun z : Int32 => Vm mX8_boundFor 4 101 [(0, .inr (.inr (32, 0))), (1, .inl a1), (3, .inl z)] [] (τ, σ) r M') (fun q : Int32 × mm => r = some (.inl q.1) ∧ M' = (τ, q.2))) v9) : Vm mX8_boundFor 4 101 [(0, .inr (.inr (32, 0))), (1, .inl a1), (3, .inl a3)] [] (τ, σ) r M' := by
  unfold fX8_boundFor_101 at h
  refine Vm.iload_n (n := 102) 2 dX8_boundFor_101 rfl rfl ?_
  refine Vm.sipush (n := 105) (v := (999 : Int32)) dX8_boundFor_102 rfl (by decide) ?_
  refine Vm.icmp_gt (n := 108) 171 dX8_boundFor_105 rfl rfl (fun c9 => ?_) (fun c9 => ?_)
  · replace h := (if_pos c9).symm.trans h
    refine Vm.aload_n (n := 172) 0 dX8_boundFor_171 rfl rfl ?_
    refine Vm.ldc (n := 174) dX8_boundFor_172 rfl wc_RX8_167 ?_
    replace h := Option.bind_eq_some_iff.mp h
    obtain ⟨q1, h1, h⟩ := h
    refine Vm.callV (Y := mX8_finds) (n := 177) [.inl (-1000000004 : Int32)] dX8_boundFor_174 rfl wv_RX8_102 omX8_finds rfl in_32 rfl rfl rfl (Nat.le_of_ble_eq_true rfl) (by decide) (kX8_finds (-1000000004 : Int32) σ τ h1) ?_
    obtain rfl := Option.some.inj h
    exact Vm.iret dX8_boundFor_177 rfl hk.1 hk.2.symm
  · replace h := (if_neg c9).symm.trans h
    refine Vm.iconst (n := 109) (v := (0 : Int32)) dX8_boundFor_108 rfl (by decide) ?_
    refine Vm.istore (n := 111) (lv' := [(4, .inl (0 : Int32)), (0, .inr (.inr (32, 0))), (1, .inl a1), (3, .inl a3)]) dX8_boundFor_109 rfl (Nat.le_of_ble_eq_true rfl) rfl ?_
    refine Vm.sub (lv' := [(0, .inr (.inr (32, 0))), (1, .inl a1), (3, .inl a3), (4, .inl (0 : Int32))]) [1, 2, 3, 0] rfl ?_
    exact lX8_boundFor_111_L a1 a3 σ τ ((0 : Int32)) _ h hk
theorem lX8_boundFor_101_L (a1 : Int32) (σ τ : mm) {r : Option mv} {M' : mm × mm} (z : Int32) (w9 : Int32 × mm) (h : lp (fX8_boundFor_101_L a1 σ) z = some w9) (hk : (fun q : Int32 × mm => r = some (.inl q.1) ∧ M' = (τ, q.2)) w9) : Vm mX8_boundFor 4 101 [(0, .inr (.inr (32, 0))), (1, .inl a1), (3, .inl z)] [] (τ, σ) r M' :=
  lp_link (S := Int32) (R := Int32 × mm) (body := fX8_boundFor_101_L a1 σ) (A := fun z : Int32 => Vm mX8_boundFor 4 101 [(0, .inr (.inr (32, 0))), (1, .inl a1), (3, .inl z)] [] (τ, σ) r M') (B := fun w : Int32 × mm => (fun q : Int32 × mm => r = some (.inl q.1) ∧ M' = (τ, q.2)) w) (fun z v hb hv => lX8_boundFor_101 a1 z σ τ hb hv) z w9 h hk
set_option maxRecDepth 20000 in
theorem lX8_boundFor_91 (a1 : Int32) (a2 : Int32) (a3 : Int32) (σ τ : mm) {r : Option mv} {M' : mm × mm} {v9 : (Int32 × mm) ⊕ (Int32 × mm)} (h : fX8_boundFor_91 a1 a2 a3 σ = some v9) (hk : (Sum.elim (fun z : Int32 × mm => Vm mX8_boundFor 4 48 [(0, .inr (.inr (32, 0))), (1, .inl a1), (2, .inl a2), (3, .inl z.1)] [] (τ, z.2) r M') (fun q : Int32 × mm => r = some (.inl q.1) ∧ M' = (τ, q.2))) v9) : Vm mX8_boundFor 4 91 [(0, .inr (.inr (32, 0))), (1, .inl a1), (2, .inl a2), (3, .inl a3)] [] (τ, σ) r M' := by
  unfold fX8_boundFor_91 at h
  replace h := Option.bind_eq_some_iff.mp h
  obtain ⟨x1, e1, h⟩ := h
  replace e1 := Option.some.inj e1
  refine Vm.iinc (n := 94) (v := x1) (lv' := [(3, .inl x1), (0, .inr (.inr (32, 0))), (1, .inl a1), (2, .inl a2)]) 3 dX8_boundFor_91 rfl rfl e1 (Nat.le_of_ble_eq_true rfl) rfl ?_
  refine Vm.goto 48 dX8_boundFor_94 rfl ?_
  refine Vm.sub (lv' := [(0, .inr (.inr (32, 0))), (1, .inl a1), (2, .inl a2), (3, .inl x1)]) [1, 2, 3, 0] rfl ?_
  obtain rfl := Option.some.inj h
  exact hk
set_option maxRecDepth 20000 in
theorem lX8_boundFor_48 (a1 : Int32) (a2 : Int32) (a3 : Int32) (σ τ : mm) {r : Option mv} {M' : mm × mm} {v9 : (Int32 × mm) ⊕ (Int32 × mm)} (h : fX8_boundFor_48 a1 a2 a3 σ = some v9) (hk : (Sum.elim (fun z : Int32 × mm => Vm mX8_boundFor 4 48 [(0, .inr (.inr (32, 0))), (1, .inl a1), (2, .inl a2), (3, .inl z.1)] [] (τ, z.2) r M') (fun q : Int32 × mm => r = some (.inl q.1) ∧ M' = (τ, q.2))) v9) : Vm mX8_boundFor 4 48 [(0, .inr (.inr (32, 0))), (1, .inl a1), (2, .inl a2), (3, .inl a3)] [] (τ, σ) r M' := by
  unfold fX8_boundFor_48 at h
  refine Vm.iload_n (n := 49) 3 dX8_boundFor_48 rfl rfl ?_
  refine Vm.iload_n (n := 50) 2 dX8_boundFor_49 rfl rfl ?_
  refine Vm.icmp_ge (n := 53) 97 dX8_boundFor_50 rfl rfl (fun c9 => ?_) (fun c9 => ?_)
  · replace h := (if_pos c9).symm.trans h
    refine Vm.sipush (n := 100) (v := (-999 : Int32)) dX8_boundFor_97 rfl (by decide) ?_
    refine Vm.istore_n (n := 101) (lv' := [(3, .inl (-999 : Int32)), (0, .inr (.inr (32, 0))), (1, .inl a1), (2, .inl a2)]) dX8_boundFor_100 rfl (Nat.le_of_ble_eq_true rfl) rfl ?_
    refine Vm.sub (lv' := [(0, .inr (.inr (32, 0))), (1, .inl a1), (3, .inl (-999 : Int32))]) [1, 2, 0] rfl ?_
    replace h := Option.map_eq_some_iff.mp h
    obtain ⟨w9, h, e8⟩ := h
    subst e8
    exact lX8_boundFor_101_L a1 σ τ ((-999 : Int32)) _ h hk
  · replace h := (if_neg c9).symm.trans h
    refine Vm.aload_n (n := 54) 0 dX8_boundFor_53 rfl rfl ?_
    refine Vm.getR (n := 57) dX8_boundFor_54 rfl wf_RX8_36 in_32 rfl (by decide) rfl ?_
    refine Vm.iload_n (n := 58) 3 dX8_boundFor_57 rfl rfl ?_
    replace h := Option.bind_eq_some_iff.mp h
    obtain ⟨x1, h1, h⟩ := h
    refine Vm.ialdm (n := 59) dX8_boundFor_58 rfl in_49 rfl rfl (by decide) h1 ?_
    refine Vm.iconst (n := 60) (v := (1 : Int32)) dX8_boundFor_59 rfl (by decide) ?_
    refine Vm.iload_n (n := 61) 1 dX8_boundFor_60 rfl rfl ?_
    refine Vm.ishl (n := 62) dX8_boundFor_61 rfl ?_
    refine Vm.ior (n := 63) dX8_boundFor_62 rfl ?_
    refine Vm.aload_n (n := 64) 0 dX8_boundFor_63 rfl rfl ?_
    refine Vm.callV (Y := mX8_allRows) (n := 67) [] dX8_boundFor_64 rfl wv_RX8_186 omX8_allRows rfl in_32 rfl rfl rfl (Nat.le_of_ble_eq_true rfl) (by decide) (kX8_allRows σ τ rfl) ?_
    refine Vm.icmp_ne (n := 70) 91 dX8_boundFor_67 rfl rfl (fun c9 => ?_) (fun c9 => ?_)
    · replace h := (if_neg c9).symm.trans h
      exact lX8_boundFor_91 a1 a2 a3 σ τ h hk
    · replace h := (if_pos c9).symm.trans h
      refine Vm.aload_n (n := 71) 0 dX8_boundFor_70 rfl rfl ?_
      refine Vm.iload_n (n := 72) 3 dX8_boundFor_71 rfl rfl ?_
      replace h := Option.bind_eq_some_iff.mp h
      obtain ⟨q2, h2, h⟩ := h
      refine Vm.callVv (Y := mX8_goesTo) (n := 75) [.inl a3] dX8_boundFor_72 rfl wv_RX8_179 omX8_goesTo rfl in_32 rfl rfl rfl (Nat.le_of_ble_eq_true rfl) (by decide) (kX8_goesTo a3 σ τ h2) ?_
      refine Vm.aload_n (n := 76) 0 dX8_boundFor_75 rfl rfl ?_
      refine Vm.getR (n := 79) dX8_boundFor_76 rfl wf_RX8_52 in_32 rfl (by decide) rfl ?_
      refine Vm.sipush (n := 82) (v := (400 : Int32)) dX8_boundFor_79 rfl (by decide) ?_
      refine Vm.aload_n (n := 83) 0 dX8_boundFor_82 rfl rfl ?_
      refine Vm.iload_n (n := 84) 1 dX8_boundFor_83 rfl rfl ?_
      replace h := Option.bind_eq_some_iff.mp h
      obtain ⟨q3, h3, h⟩ := h
      refine Vm.callV (Y := mX8_sumOf) (n := 87) [.inl a1] dX8_boundFor_84 rfl wv_RX8_168 omX8_sumOf rfl in_32 rfl rfl rfl (Nat.le_of_ble_eq_true rfl) (by decide) (kX8_sumOf a1 q2 τ h3) ?_
      refine Vm.l2i (n := 88) dX8_boundFor_87 rfl ?_
      refine Vm.iadd (n := 89) dX8_boundFor_88 rfl ?_
      refine Vm.iconst (n := 90) (v := (1 : Int32)) dX8_boundFor_89 rfl (by decide) ?_
      replace h := Option.bind_eq_some_iff.mp h
      obtain ⟨σ4, h4, h⟩ := h
      refine Vm.iastm (n := 91) dX8_boundFor_90 rfl in_62 rfl rfl (by decide) h4 ?_
      exact lX8_boundFor_91 a1 a2 a3 σ4 τ h hk
theorem lX8_boundFor_48_L (a1 : Int32) (a2 : Int32) (τ : mm) {r : Option mv} {M' : mm × mm} (z : Int32 × mm) (w9 : Int32 × mm) (h : lp (fX8_boundFor_48_L a1 a2) z = some w9) (hk : (fun q : Int32 × mm => r = some (.inl q.1) ∧ M' = (τ, q.2)) w9) : Vm mX8_boundFor 4 48 [(0, .inr (.inr (32, 0))), (1, .inl a1), (2, .inl a2), (3, .inl z.1)] [] (τ, z.2) r M' :=
  lp_link (S := Int32 × mm) (R := Int32 × mm) (body := fX8_boundFor_48_L a1 a2) (A := fun z : Int32 × mm => Vm mX8_boundFor 4 48 [(0, .inr (.inr (32, 0))), (1, .inl a1), (2, .inl a2), (3, .inl z.1)] [] (τ, z.2) r M') (B := fun w : Int32 × mm => (fun q : Int32 × mm => r = some (.inl q.1) ∧ M' = (τ, q.2)) w) (fun z v hb hv => lX8_boundFor_48 a1 a2 z.1 z.2 τ hb hv) z w9 h hk
set_option maxRecDepth 20000 in
theorem lX8_boundFor_17 (a1 : Int32) (a2 : Int32) (σ τ : mm) {r : Option mv} {M' : mm × mm} {v9 : (Int32 × mm) ⊕ (Int32 × mm)} (h : fX8_boundFor_17 a1 a2 σ = some v9) (hk : (Sum.elim (fun z : Int32 × mm => Vm mX8_boundFor 4 17 [(0, .inr (.inr (32, 0))), (1, .inl a1), (2, .inl z.1)] [] (τ, z.2) r M') (fun q : Int32 × mm => r = some (.inl q.1) ∧ M' = (τ, q.2))) v9) : Vm mX8_boundFor 4 17 [(0, .inr (.inr (32, 0))), (1, .inl a1), (2, .inl a2)] [] (τ, σ) r M' := by
  unfold fX8_boundFor_17 at h
  refine Vm.iload_n (n := 18) 2 dX8_boundFor_17 rfl rfl ?_
  refine Vm.sipush (n := 21) (v := (801 : Int32)) dX8_boundFor_18 rfl (by decide) ?_
  refine Vm.icmp_ge (n := 24) 37 dX8_boundFor_21 rfl rfl (fun c9 => ?_) (fun c9 => ?_)
  · replace h := (if_pos c9).symm.trans h
    refine Vm.aload_n (n := 38) 0 dX8_boundFor_37 rfl rfl ?_
    replace h := Option.bind_eq_some_iff.mp h
    obtain ⟨q1, h1, h⟩ := h
    refine Vm.callVv (Y := mX8_looks) (n := 41) [] dX8_boundFor_38 rfl wv_RX8_189 omX8_looks rfl in_32 rfl rfl rfl (Nat.le_of_ble_eq_true rfl) (by decide) (kX8_looks σ τ h1) ?_
    refine Vm.aload_n (n := 42) 0 dX8_boundFor_41 rfl rfl ?_
    replace h := Option.bind_eq_some_iff.mp h
    obtain ⟨q2, h2, h⟩ := h
    refine Vm.callV (Y := mX8_points) (n := 45) [] dX8_boundFor_42 rfl wv_RX8_111 omX8_points rfl in_32 rfl rfl rfl (Nat.le_of_ble_eq_true rfl) (by decide) (kX8_points q1 τ h2) ?_
    refine Vm.istore_n (n := 46) (lv' := [(2, .inl q2), (0, .inr (.inr (32, 0))), (1, .inl a1)]) dX8_boundFor_45 rfl (Nat.le_of_ble_eq_true rfl) rfl ?_
    refine Vm.iconst (n := 47) (v := (0 : Int32)) dX8_boundFor_46 rfl (by decide) ?_
    refine Vm.istore_n (n := 48) (lv' := [(3, .inl (0 : Int32)), (2, .inl q2), (0, .inr (.inr (32, 0))), (1, .inl a1)]) dX8_boundFor_47 rfl (Nat.le_of_ble_eq_true rfl) rfl ?_
    refine Vm.sub (lv' := [(0, .inr (.inr (32, 0))), (1, .inl a1), (2, .inl q2), (3, .inl (0 : Int32))]) [2, 3, 1, 0] rfl ?_
    replace h := Option.map_eq_some_iff.mp h
    obtain ⟨w9, h, e8⟩ := h
    subst e8
    exact lX8_boundFor_48_L a1 q2 τ ((0 : Int32), q1) _ h hk
  · replace h := (if_neg c9).symm.trans h
    refine Vm.aload_n (n := 25) 0 dX8_boundFor_24 rfl rfl ?_
    refine Vm.getR (n := 28) dX8_boundFor_25 rfl wf_RX8_52 in_32 rfl (by decide) rfl ?_
    refine Vm.iload_n (n := 29) 2 dX8_boundFor_28 rfl rfl ?_
    refine Vm.iconst (n := 30) (v := (0 : Int32)) dX8_boundFor_29 rfl (by decide) ?_
    replace h := Option.bind_eq_some_iff.mp h
    obtain ⟨σ3, h3, h⟩ := h
    refine Vm.iastm (n := 31) dX8_boundFor_30 rfl in_62 rfl rfl (by decide) h3 ?_
    replace h := Option.bind_eq_some_iff.mp h
    obtain ⟨x4, e4, h⟩ := h
    replace e4 := Option.some.inj e4
    refine Vm.iinc (n := 34) (v := x4) (lv' := [(2, .inl x4), (0, .inr (.inr (32, 0))), (1, .inl a1)]) 2 dX8_boundFor_31 rfl rfl e4 (Nat.le_of_ble_eq_true rfl) rfl ?_
    refine Vm.goto 17 dX8_boundFor_34 rfl ?_
    refine Vm.sub (lv' := [(0, .inr (.inr (32, 0))), (1, .inl a1), (2, .inl x4)]) [1, 2, 0] rfl ?_
    obtain rfl := Option.some.inj h
    exact hk
theorem lX8_boundFor_17_L (a1 : Int32) (τ : mm) {r : Option mv} {M' : mm × mm} (z : Int32 × mm) (w9 : Int32 × mm) (h : lp (fX8_boundFor_17_L a1) z = some w9) (hk : (fun q : Int32 × mm => r = some (.inl q.1) ∧ M' = (τ, q.2)) w9) : Vm mX8_boundFor 4 17 [(0, .inr (.inr (32, 0))), (1, .inl a1), (2, .inl z.1)] [] (τ, z.2) r M' :=
  lp_link (S := Int32 × mm) (R := Int32 × mm) (body := fX8_boundFor_17_L a1) (A := fun z : Int32 × mm => Vm mX8_boundFor 4 17 [(0, .inr (.inr (32, 0))), (1, .inl a1), (2, .inl z.1)] [] (τ, z.2) r M') (B := fun w : Int32 × mm => (fun q : Int32 × mm => r = some (.inl q.1) ∧ M' = (τ, q.2)) w) (fun z v hb hv => lX8_boundFor_17 a1 z.1 z.2 τ hb hv) z w9 h hk
set_option maxRecDepth 20000 in
theorem lX8_boundFor_0 (a1 : Int32) (σ τ : mm) {r : Option mv} {M' : mm × mm} {v9 : Int32 × mm} (h : fX8_boundFor_0 a1 σ = some v9) (hk : (fun q : Int32 × mm => r = some (.inl q.1) ∧ M' = (τ, q.2)) v9) : Vm mX8_boundFor 4 0 [(0, .inr (.inr (32, 0))), (1, .inl a1)] [] (τ, σ) r M' := by
  unfold fX8_boundFor_0 at h
  refine Vm.aload_n (n := 1) 0 dX8_boundFor_0 rfl rfl ?_
  refine Vm.iload_n (n := 2) 1 dX8_boundFor_1 rfl rfl ?_
  refine Vm.callV (Y := mX8_isRow) (n := 5) [.inl a1] dX8_boundFor_2 rfl wv_RX8_150 omX8_isRow rfl in_32 rfl rfl rfl (Nat.le_of_ble_eq_true rfl) (by decide) (kX8_isRow a1 σ τ rfl) ?_
  refine Vm.if_ne (n := 8) 15 dX8_boundFor_5 rfl rfl (fun c9 => ?_) (fun c9 => ?_)
  · replace h := (if_neg c9).symm.trans h
    refine Vm.iconst (n := 16) (v := (0 : Int32)) dX8_boundFor_15 rfl (by decide) ?_
    refine Vm.istore_n (n := 17) (lv' := [(2, .inl (0 : Int32)), (0, .inr (.inr (32, 0))), (1, .inl a1)]) dX8_boundFor_16 rfl (Nat.le_of_ble_eq_true rfl) rfl ?_
    refine Vm.sub (lv' := [(0, .inr (.inr (32, 0))), (1, .inl a1), (2, .inl (0 : Int32))]) [1, 2, 0] rfl ?_
    exact lX8_boundFor_17_L a1 τ ((0 : Int32), σ) _ h hk
  · replace h := (if_pos c9).symm.trans h
    refine Vm.aload_n (n := 9) 0 dX8_boundFor_8 rfl rfl ?_
    refine Vm.ldc (n := 11) dX8_boundFor_9 rfl wc_RX8_92 ?_
    replace h := Option.bind_eq_some_iff.mp h
    obtain ⟨q1, h1, h⟩ := h
    refine Vm.callV (Y := mX8_finds) (n := 14) [.inl (-1000000001 : Int32)] dX8_boundFor_11 rfl wv_RX8_102 omX8_finds rfl in_32 rfl rfl rfl (Nat.le_of_ble_eq_true rfl) (by decide) (kX8_finds (-1000000001 : Int32) σ τ h1) ?_
    obtain rfl := Option.some.inj h
    exact Vm.iret dX8_boundFor_14 rfl hk.1 hk.2.symm
theorem kX8_boundFor (a1 : Int32) (σ τ : mm) {q : Int32 × mm} (h : fX8_boundFor a1 σ = some q) : Cx mX8_boundFor 4 [.inr (.inr (32, 0)), .inl a1] (τ, σ) (some (.inl q.1)) (τ, q.2) :=
  Cx.of (lv := [(0, .inr (.inr (32, 0))), (1, .inl a1)]) (by decide) (fun ad => Nat.le_of_ble_eq_true rfl) (fun ad => rfl) (lX8_boundFor_0 a1 σ τ h ⟨rfl, rfl⟩)
-- ThinBodiesModel base (III)I
def fX8_base_30 (σ : mm) : Option (Int32 × mm) :=
  Option.bind (fX8_finds (-1000000001 : Int32) σ) fun q1 =>
  some ((q1.1, q1.2))
def fX8_base_0 (a1 : Int32) (a2 : Int32) (a3 : Int32) (σ : mm) : Option (Int32 × mm) :=
  if (bi (fX8_isLetter a1 σ)) = (0 : Int32) then
  fX8_base_30 σ
  else
  if (bi (fX8_isLetter a2 σ)) = (0 : Int32) then
  fX8_base_30 σ
  else
  if (bi (fX8_in a3.toInt64 (-4 : Int64) (4 : Int64))) = (0 : Int32) then
  fX8_base_30 σ
  else
  Option.bind (rdI σ 46 0 16 (((4 : Int32) * a1) + a2)) fun x1 =>
  Option.bind (wrI σ 46 0 16 (((4 : Int32) * a1) + a2) a3) fun σ2 =>
  some ((x1, σ2))
def fX8_base (a1 : Int32) (a2 : Int32) (a3 : Int32) (σ : mm) : Option (Int32 × mm) := fX8_base_0 a1 a2 a3 σ
set_option maxRecDepth 20000 in
theorem lX8_base_30 (σ τ : mm) {r : Option mv} {M' : mm × mm} {v9 : Int32 × mm} (h : fX8_base_30 σ = some v9) (hk : (fun q : Int32 × mm => r = some (.inl q.1) ∧ M' = (τ, q.2)) v9) : Vm mX8_base 2 30 [(0, .inr (.inr (32, 0)))] [] (τ, σ) r M' := by
  unfold fX8_base_30 at h
  refine Vm.aload_n (n := 31) 0 dX8_base_30 rfl rfl ?_
  refine Vm.ldc (n := 33) dX8_base_31 rfl wc_RX8_92 ?_
  replace h := Option.bind_eq_some_iff.mp h
  obtain ⟨q1, h1, h⟩ := h
  refine Vm.callV (Y := mX8_finds) (n := 36) [.inl (-1000000001 : Int32)] dX8_base_33 rfl wv_RX8_102 omX8_finds rfl in_32 rfl rfl rfl (Nat.le_of_ble_eq_true rfl) (by decide) (kX8_finds (-1000000001 : Int32) σ τ h1) ?_
  obtain rfl := Option.some.inj h
  exact Vm.iret dX8_base_36 rfl hk.1 hk.2.symm
set_option maxRecDepth 20000 in
theorem lX8_base_0 (a1 : Int32) (a2 : Int32) (a3 : Int32) (σ τ : mm) {r : Option mv} {M' : mm × mm} {v9 : Int32 × mm} (h : fX8_base_0 a1 a2 a3 σ = some v9) (hk : (fun q : Int32 × mm => r = some (.inl q.1) ∧ M' = (τ, q.2)) v9) : Vm mX8_base 2 0 [(0, .inr (.inr (32, 0))), (1, .inl a1), (2, .inl a2), (3, .inl a3)] [] (τ, σ) r M' := by
  unfold fX8_base_0 at h
  refine Vm.aload_n (n := 1) 0 dX8_base_0 rfl rfl ?_
  refine Vm.iload_n (n := 2) 1 dX8_base_1 rfl rfl ?_
  refine Vm.callV (Y := mX8_isLetter) (n := 5) [.inl a1] dX8_base_2 rfl wv_RX8_115 omX8_isLetter rfl in_32 rfl rfl rfl (Nat.le_of_ble_eq_true rfl) (by decide) (kX8_isLetter a1 σ τ rfl) ?_
  refine Vm.if_eq (n := 8) 30 dX8_base_5 rfl rfl (fun c9 => ?_) (fun c9 => ?_)
  · replace h := (if_pos c9).symm.trans h
    refine Vm.sub (lv' := [(0, .inr (.inr (32, 0)))]) [0] rfl ?_
    exact lX8_base_30 σ τ h hk
  · replace h := (if_neg c9).symm.trans h
    refine Vm.aload_n (n := 9) 0 dX8_base_8 rfl rfl ?_
    refine Vm.iload_n (n := 10) 2 dX8_base_9 rfl rfl ?_
    refine Vm.callV (Y := mX8_isLetter) (n := 13) [.inl a2] dX8_base_10 rfl wv_RX8_115 omX8_isLetter rfl in_32 rfl rfl rfl (Nat.le_of_ble_eq_true rfl) (by decide) (kX8_isLetter a2 σ τ rfl) ?_
    refine Vm.if_eq (n := 16) 30 dX8_base_13 rfl rfl (fun c9 => ?_) (fun c9 => ?_)
    · replace h := (if_pos c9).symm.trans h
      refine Vm.sub (lv' := [(0, .inr (.inr (32, 0)))]) [0] rfl ?_
      exact lX8_base_30 σ τ h hk
    · replace h := (if_neg c9).symm.trans h
      refine Vm.iload_n (n := 17) 3 dX8_base_16 rfl rfl ?_
      refine Vm.i2l (n := 18) dX8_base_17 rfl ?_
      refine Vm.ldc2 (n := 21) dX8_base_18 rfl wl_RX8_273 ?_
      refine Vm.ldc2 (n := 24) dX8_base_21 rfl wl_RX8_100 ?_
      refine Vm.callS (Y := mX8_in) (n := 27) [.inr (.inl a3.toInt64), .inr (.inl (-4 : Int64)), .inr (.inl (4 : Int64))] dX8_base_24 rfl wv_RX8_93 omX8_in rfl rfl (Nat.le_of_ble_eq_true rfl) (by decide) (kX8_in a3.toInt64 (-4 : Int64) (4 : Int64) rfl) ?_
      refine Vm.if_ne (n := 30) 37 dX8_base_27 rfl rfl (fun c9 => ?_) (fun c9 => ?_)
      · replace h := (if_neg c9).symm.trans h
        refine Vm.aload_n (n := 38) 0 dX8_base_37 rfl rfl ?_
        refine Vm.getR (n := 41) dX8_base_38 rfl wf_RX8_26 in_32 rfl (by decide) rfl ?_
        refine Vm.iconst (n := 42) (v := (4 : Int32)) dX8_base_41 rfl (by decide) ?_
        refine Vm.iload_n (n := 43) 1 dX8_base_42 rfl rfl ?_
        refine Vm.imul (n := 44) dX8_base_43 rfl ?_
        refine Vm.iload_n (n := 45) 2 dX8_base_44 rfl rfl ?_
        refine Vm.iadd (n := 46) dX8_base_45 rfl ?_
        replace h := Option.bind_eq_some_iff.mp h
        obtain ⟨x1, h1, h⟩ := h
        refine Vm.ialdm (n := 47) dX8_base_46 rfl in_46 rfl rfl (by decide) h1 ?_
        refine Vm.istore (n := 49) (lv' := [(4, .inl x1), (0, .inr (.inr (32, 0))), (1, .inl a1), (2, .inl a2), (3, .inl a3)]) dX8_base_47 rfl (Nat.le_of_ble_eq_true rfl) rfl ?_
        refine Vm.aload_n (n := 50) 1 dX8_base_49 rfl rfl ?_
        refine Vm.getR (n := 53) dX8_base_50 rfl wf_RX8_26 in_32 rfl (by decide) rfl ?_
        refine Vm.iconst (n := 54) (v := (4 : Int32)) dX8_base_53 rfl (by decide) ?_
        refine Vm.iload_n (n := 55) 2 dX8_base_54 rfl rfl ?_
        refine Vm.imul (n := 56) dX8_base_55 rfl ?_
        refine Vm.iload_n (n := 57) 3 dX8_base_56 rfl rfl ?_
        refine Vm.iadd (n := 58) dX8_base_57 rfl ?_
        refine Vm.iload_n (n := 59) 4 dX8_base_58 rfl rfl ?_
        replace h := Option.bind_eq_some_iff.mp h
        obtain ⟨σ2, h2, h⟩ := h
        refine Vm.iastm (n := 60) dX8_base_59 rfl in_46 rfl rfl (by decide) h2 ?_
        refine Vm.iload (n := 62) 0 dX8_base_60 rfl rfl ?_
        obtain rfl := Option.some.inj h
        exact Vm.iret dX8_base_62 rfl hk.1 hk.2.symm
      · replace h := (if_pos c9).symm.trans h
        refine Vm.sub (lv' := [(0, .inr (.inr (32, 0)))]) [0] rfl ?_
        exact lX8_base_30 σ τ h hk
theorem kX8_base (a1 : Int32) (a2 : Int32) (a3 : Int32) (σ τ : mm) {q : Int32 × mm} (h : fX8_base a1 a2 a3 σ = some q) : Cx mX8_base 2 [.inr (.inr (32, 0)), .inl a1, .inl a2, .inl a3] (τ, σ) (some (.inl q.1)) (τ, q.2) :=
  Cx.of (lv := [(0, .inr (.inr (32, 0))), (1, .inl a1), (2, .inl a2), (3, .inl a3)]) (by decide) (fun ad => Nat.le_of_ble_eq_true rfl) (fun ad => rfl) (lX8_base_0 a1 a2 a3 σ τ h ⟨rfl, rfl⟩)
-- ThinBodiesModel baseOf (II)I
def fX8_baseOf_29 (σ : mm) : Option (Int32 × mm) :=
  Option.bind (fX8_finds (-1000000001 : Int32) σ) fun q1 =>
  some ((q1.1, q1.2))
def fX8_baseOf_0 (a1 : Int32) (a2 : Int32) (σ : mm) : Option (Int32 × mm) :=
  if (bi (fX8_isLetter a1 σ)) = (0 : Int32) then
  fX8_baseOf_29 σ
  else
  if (bi (fX8_isLetter a2 σ)) = (0 : Int32) then
  fX8_baseOf_29 σ
  else
  Option.bind (rdI σ 46 0 16 (((4 : Int32) * a1) + a2)) fun x1 =>
  some ((x1, σ))
def fX8_baseOf (a1 : Int32) (a2 : Int32) (σ : mm) : Option (Int32 × mm) := fX8_baseOf_0 a1 a2 σ
set_option maxRecDepth 20000 in
theorem lX8_baseOf_29 (σ τ : mm) {r : Option mv} {M' : mm × mm} {v9 : Int32 × mm} (h : fX8_baseOf_29 σ = some v9) (hk : (fun q : Int32 × mm => r = some (.inl q.1) ∧ M' = (τ, q.2)) v9) : Vm mX8_baseOf 2 29 [(0, .inr (.inr (32, 0)))] [] (τ, σ) r M' := by
  unfold fX8_baseOf_29 at h
  refine Vm.aload_n (n := 30) 0 dX8_baseOf_29 rfl rfl ?_
  refine Vm.ldc (n := 32) dX8_baseOf_30 rfl wc_RX8_92 ?_
  replace h := Option.bind_eq_some_iff.mp h
  obtain ⟨q1, h1, h⟩ := h
  refine Vm.callV (Y := mX8_finds) (n := 35) [.inl (-1000000001 : Int32)] dX8_baseOf_32 rfl wv_RX8_102 omX8_finds rfl in_32 rfl rfl rfl (Nat.le_of_ble_eq_true rfl) (by decide) (kX8_finds (-1000000001 : Int32) σ τ h1) ?_
  obtain rfl := Option.some.inj h
  exact Vm.iret dX8_baseOf_35 rfl hk.1 hk.2.symm
set_option maxRecDepth 20000 in
theorem lX8_baseOf_0 (a1 : Int32) (a2 : Int32) (σ τ : mm) {r : Option mv} {M' : mm × mm} {v9 : Int32 × mm} (h : fX8_baseOf_0 a1 a2 σ = some v9) (hk : (fun q : Int32 × mm => r = some (.inl q.1) ∧ M' = (τ, q.2)) v9) : Vm mX8_baseOf 2 0 [(0, .inr (.inr (32, 0))), (1, .inl a1), (2, .inl a2)] [] (τ, σ) r M' := by
  unfold fX8_baseOf_0 at h
  refine Vm.aload_n (n := 1) 0 dX8_baseOf_0 rfl rfl ?_
  refine Vm.iload_n (n := 2) 1 dX8_baseOf_1 rfl rfl ?_
  refine Vm.callV (Y := mX8_isLetter) (n := 5) [.inl a1] dX8_baseOf_2 rfl wv_RX8_115 omX8_isLetter rfl in_32 rfl rfl rfl (Nat.le_of_ble_eq_true rfl) (by decide) (kX8_isLetter a1 σ τ rfl) ?_
  refine Vm.if_eq (n := 8) 29 dX8_baseOf_5 rfl rfl (fun c9 => ?_) (fun c9 => ?_)
  · replace h := (if_pos c9).symm.trans h
    refine Vm.sub (lv' := [(0, .inr (.inr (32, 0)))]) [0] rfl ?_
    exact lX8_baseOf_29 σ τ h hk
  · replace h := (if_neg c9).symm.trans h
    refine Vm.aload_n (n := 9) 0 dX8_baseOf_8 rfl rfl ?_
    refine Vm.iload_n (n := 10) 2 dX8_baseOf_9 rfl rfl ?_
    refine Vm.callV (Y := mX8_isLetter) (n := 13) [.inl a2] dX8_baseOf_10 rfl wv_RX8_115 omX8_isLetter rfl in_32 rfl rfl rfl (Nat.le_of_ble_eq_true rfl) (by decide) (kX8_isLetter a2 σ τ rfl) ?_
    refine Vm.if_eq (n := 16) 29 dX8_baseOf_13 rfl rfl (fun c9 => ?_) (fun c9 => ?_)
    · replace h := (if_pos c9).symm.trans h
      refine Vm.sub (lv' := [(0, .inr (.inr (32, 0)))]) [0] rfl ?_
      exact lX8_baseOf_29 σ τ h hk
    · replace h := (if_neg c9).symm.trans h
      refine Vm.aload_n (n := 17) 0 dX8_baseOf_16 rfl rfl ?_
      refine Vm.getR (n := 20) dX8_baseOf_17 rfl wf_RX8_26 in_32 rfl (by decide) rfl ?_
      refine Vm.iconst (n := 21) (v := (4 : Int32)) dX8_baseOf_20 rfl (by decide) ?_
      refine Vm.iload_n (n := 22) 1 dX8_baseOf_21 rfl rfl ?_
      refine Vm.imul (n := 23) dX8_baseOf_22 rfl ?_
      refine Vm.iload_n (n := 24) 2 dX8_baseOf_23 rfl rfl ?_
      refine Vm.iadd (n := 25) dX8_baseOf_24 rfl ?_
      replace h := Option.bind_eq_some_iff.mp h
      obtain ⟨x1, h1, h⟩ := h
      refine Vm.ialdm (n := 26) dX8_baseOf_25 rfl in_46 rfl rfl (by decide) h1 ?_
      refine Vm.goto 35 dX8_baseOf_26 rfl ?_
      obtain rfl := Option.some.inj h
      exact Vm.iret dX8_baseOf_35 rfl hk.1 hk.2.symm
theorem kX8_baseOf (a1 : Int32) (a2 : Int32) (σ τ : mm) {q : Int32 × mm} (h : fX8_baseOf a1 a2 σ = some q) : Cx mX8_baseOf 2 [.inr (.inr (32, 0)), .inl a1, .inl a2] (τ, σ) (some (.inl q.1)) (τ, q.2) :=
  Cx.of (lv := [(0, .inr (.inr (32, 0))), (1, .inl a1), (2, .inl a2)]) (by decide) (fun ad => Nat.le_of_ble_eq_true rfl) (fun ad => rfl) (lX8_baseOf_0 a1 a2 σ τ h ⟨rfl, rfl⟩)
-- ThinBodiesModel areTwo (II)Z
def fX8_areTwo_0 (a1 : Int32) (a2 : Int32) (σ : mm) : Bool :=
  if (bi (fX8_isLetter a1 σ)) = (0 : Int32) then
  false
  else
  if (bi (fX8_isLetter a2 σ)) = (0 : Int32) then
  false
  else
  if a1 = a2 then
  false
  else
  true
def fX8_areTwo (a1 : Int32) (a2 : Int32) (σ : mm) : Bool := fX8_areTwo_0 a1 a2 σ
set_option maxRecDepth 20000 in
theorem lX8_areTwo_0 (a1 : Int32) (a2 : Int32) (σ σ0 τ : mm) (hσ : σ = σ0) {r : Option mv} {M' : mm × mm} {v9 : Bool} (h : fX8_areTwo_0 a1 a2 σ = v9) (hk : (fun q : Bool => r = some (.inl (bi q)) ∧ M' = (τ, σ0)) v9) : Vm mX8_areTwo 2 0 [(0, .inr (.inr (32, 0))), (1, .inl a1), (2, .inl a2)] [] (τ, σ) r M' := by
  unfold fX8_areTwo_0 at h
  refine Vm.aload_n (n := 1) 0 dX8_areTwo_0 rfl rfl ?_
  refine Vm.iload_n (n := 2) 1 dX8_areTwo_1 rfl rfl ?_
  refine Vm.callV (Y := mX8_isLetter) (n := 5) [.inl a1] dX8_areTwo_2 rfl wv_RX8_115 omX8_isLetter rfl in_32 rfl rfl rfl (Nat.le_of_ble_eq_true rfl) (by decide) (kX8_isLetter a1 σ τ rfl) ?_
  refine Vm.if_eq (n := 8) 25 dX8_areTwo_5 rfl rfl (fun c9 => ?_) (fun c9 => ?_)
  · replace h := (if_pos c9).symm.trans h
    refine Vm.iconst (n := 26) (v := (0 : Int32)) dX8_areTwo_25 rfl (by decide) ?_
    subst h
    exact Vm.zret (b := false) dX8_areTwo_26 rfl rfl hk.1 (by rw [hσ]; exact hk.2.symm)
  · replace h := (if_neg c9).symm.trans h
    refine Vm.aload_n (n := 9) 0 dX8_areTwo_8 rfl rfl ?_
    refine Vm.iload_n (n := 10) 2 dX8_areTwo_9 rfl rfl ?_
    refine Vm.callV (Y := mX8_isLetter) (n := 13) [.inl a2] dX8_areTwo_10 rfl wv_RX8_115 omX8_isLetter rfl in_32 rfl rfl rfl (Nat.le_of_ble_eq_true rfl) (by decide) (kX8_isLetter a2 σ τ rfl) ?_
    refine Vm.if_eq (n := 16) 25 dX8_areTwo_13 rfl rfl (fun c9 => ?_) (fun c9 => ?_)
    · replace h := (if_pos c9).symm.trans h
      refine Vm.iconst (n := 26) (v := (0 : Int32)) dX8_areTwo_25 rfl (by decide) ?_
      subst h
      exact Vm.zret (b := false) dX8_areTwo_26 rfl rfl hk.1 (by rw [hσ]; exact hk.2.symm)
    · replace h := (if_neg c9).symm.trans h
      refine Vm.iload_n (n := 17) 1 dX8_areTwo_16 rfl rfl ?_
      refine Vm.iload_n (n := 18) 2 dX8_areTwo_17 rfl rfl ?_
      refine Vm.icmp_eq (n := 21) 25 dX8_areTwo_18 rfl rfl (fun c9 => ?_) (fun c9 => ?_)
      · replace h := (if_pos c9).symm.trans h
        refine Vm.iconst (n := 26) (v := (0 : Int32)) dX8_areTwo_25 rfl (by decide) ?_
        subst h
        exact Vm.zret (b := false) dX8_areTwo_26 rfl rfl hk.1 (by rw [hσ]; exact hk.2.symm)
      · replace h := (if_neg c9).symm.trans h
        refine Vm.iconst (n := 22) (v := (1 : Int32)) dX8_areTwo_21 rfl (by decide) ?_
        refine Vm.goto 26 dX8_areTwo_22 rfl ?_
        subst h
        exact Vm.zret (b := true) dX8_areTwo_26 rfl rfl hk.1 (by rw [hσ]; exact hk.2.symm)
theorem kX8_areTwo (a1 : Int32) (a2 : Int32) (σ τ : mm) {q : Bool} (h : fX8_areTwo a1 a2 σ = q) : Cx mX8_areTwo 2 [.inr (.inr (32, 0)), .inl a1, .inl a2] (τ, σ) (some (.inl (bi q))) (τ, σ) :=
  Cx.of (lv := [(0, .inr (.inr (32, 0))), (1, .inl a1), (2, .inl a2)]) (by decide) (fun ad => Nat.le_of_ble_eq_true rfl) (fun ad => rfl) (lX8_areTwo_0 a1 a2 σ σ τ rfl h ⟨rfl, rfl⟩)
-- ThinBodiesModel mix (III)I
noncomputable def fX8_mix_96 (a1 : Int32) (a2 : Int32) (a3 : Int32) (a4 : Int32) (σ : mm) : Option ((Int32 × mm) ⊕ (Int32 × mm)) :=
  if (σ.1 32 0 1) ≤ a4 then
  some (.inr (((1 : Int32), σ)))
  else
  Option.bind (rdI σ 46 0 16 (((4 : Int32) * a2) + a4)) fun x1 =>
  Option.bind (rdI σ 46 0 16 (((4 : Int32) * a1) + a4)) fun x2 =>
  Option.bind (wrI σ 46 0 16 (((4 : Int32) * a2) + a4) (x1 + (a3 * x2))) fun σ3 =>
  Option.bind (some (a4 + (1 : Int32))) fun x4 =>
  some (.inl (x4, σ3))
noncomputable def fX8_mix_96_L (a1 : Int32) (a2 : Int32) (a3 : Int32) : Int32 × mm → Option ((Int32 × mm) ⊕ (Int32 × mm)) := fun z => fX8_mix_96 a1 a2 a3 z.1 z.2
noncomputable def fX8_mix_33 (a1 : Int32) (a2 : Int32) (a3 : Int32) (a4 : Int32) (σ : mm) : Option ((Int32) ⊕ (Int32 × mm)) :=
  if (σ.1 32 0 1) ≤ a4 then
  Option.map Sum.inr (lp (fX8_mix_96_L a1 a2 a3) ((0 : Int32), σ))
  else
  Option.bind (rdI σ 46 0 16 (((4 : Int32) * a2) + a4)) fun x1 =>
  Option.bind (rdI σ 46 0 16 (((4 : Int32) * a1) + a4)) fun x2 =>
  if (bi (fX8_in ((x1 + (a3 * x2)).toInt64) (-4 : Int64) (4 : Int64))) = (0 : Int32) then
  Option.bind (fX8_finds (-1000000005 : Int32) σ) fun q4 =>
  some (.inr ((q4.1, q4.2)))
  else
  Option.bind (some (a4 + (1 : Int32))) fun x3 =>
  some (.inl (x3))
noncomputable def fX8_mix_33_L (a1 : Int32) (a2 : Int32) (a3 : Int32) (σ : mm) : Int32 → Option ((Int32) ⊕ (Int32 × mm)) := fun z => fX8_mix_33 a1 a2 a3 z σ
noncomputable def fX8_mix_23 (σ : mm) : Option (Int32 × mm) :=
  Option.bind (fX8_finds (-1000000001 : Int32) σ) fun q1 =>
  some ((q1.1, q1.2))
noncomputable def fX8_mix_0 (a1 : Int32) (a2 : Int32) (a3 : Int32) (σ : mm) : Option (Int32 × mm) :=
  if (bi (fX8_areTwo a1 a2 σ)) = (0 : Int32) then
  fX8_mix_23 σ
  else
  if (bi (fX8_in a3.toInt64 (-3 : Int64) (3 : Int64))) = (0 : Int32) then
  fX8_mix_23 σ
  else
  lp (fX8_mix_33_L a1 a2 a3 σ) ((0 : Int32))
noncomputable def fX8_mix (a1 : Int32) (a2 : Int32) (a3 : Int32) (σ : mm) : Option (Int32 × mm) := fX8_mix_0 a1 a2 a3 σ
set_option maxRecDepth 20000 in
theorem lX8_mix_96 (a1 : Int32) (a2 : Int32) (a3 : Int32) (a4 : Int32) (σ τ : mm) {r : Option mv} {M' : mm × mm} {v9 : (Int32 × mm) ⊕ (Int32 × mm)} (h : fX8_mix_96 a1 a2 a3 a4 σ = some v9) (hk : (Sum.elim (fun z : Int32 × mm => Vm mX8_mix 3 96 [(0, .inr (.inr (32, 0))), (1, .inl a1), (2, .inl a2), (3, .inl a3), (4, .inl z.1)] [] (τ, z.2) r M') (fun q : Int32 × mm => r = some (.inl q.1) ∧ M' = (τ, q.2))) v9) : Vm mX8_mix 3 96 [(0, .inr (.inr (32, 0))), (1, .inl a1), (2, .inl a2), (3, .inl a3), (4, .inl a4)] [] (τ, σ) r M' := by
  unfold fX8_mix_96 at h
  refine Vm.iload (n := 98) 4 dX8_mix_96 rfl rfl ?_
  refine Vm.aload_n (n := 99) 0 dX8_mix_98 rfl rfl ?_
  refine Vm.gM (n := 102) dX8_mix_99 rfl wf_RX8_13 in_32 rfl (by decide) rfl (by decide) ?_
  refine Vm.icmp_ge (n := 105) 138 dX8_mix_102 rfl rfl (fun c9 => ?_) (fun c9 => ?_)
  · replace h := (if_pos c9).symm.trans h
    refine Vm.iconst (n := 139) (v := (1 : Int32)) dX8_mix_138 rfl (by decide) ?_
    obtain rfl := Option.some.inj h
    exact Vm.iret dX8_mix_139 rfl hk.1 hk.2.symm
  · replace h := (if_neg c9).symm.trans h
    refine Vm.aload_n (n := 106) 0 dX8_mix_105 rfl rfl ?_
    refine Vm.getR (n := 109) dX8_mix_106 rfl wf_RX8_26 in_32 rfl (by decide) rfl ?_
    refine Vm.iconst (n := 110) (v := (4 : Int32)) dX8_mix_109 rfl (by decide) ?_
    refine Vm.iload_n (n := 111) 2 dX8_mix_110 rfl rfl ?_
    refine Vm.imul (n := 112) dX8_mix_111 rfl ?_
    refine Vm.iload (n := 114) 4 dX8_mix_112 rfl rfl ?_
    refine Vm.iadd (n := 115) dX8_mix_114 rfl ?_
    refine Vm.dup2 (n := 116) dX8_mix_115 rfl rfl rfl ?_
    replace h := Option.bind_eq_some_iff.mp h
    obtain ⟨x1, h1, h⟩ := h
    refine Vm.ialdm (n := 117) dX8_mix_116 rfl in_46 rfl rfl (by decide) h1 ?_
    refine Vm.iload_n (n := 118) 3 dX8_mix_117 rfl rfl ?_
    refine Vm.aload_n (n := 119) 0 dX8_mix_118 rfl rfl ?_
    refine Vm.getR (n := 122) dX8_mix_119 rfl wf_RX8_26 in_32 rfl (by decide) rfl ?_
    refine Vm.iconst (n := 123) (v := (4 : Int32)) dX8_mix_122 rfl (by decide) ?_
    refine Vm.iload_n (n := 124) 1 dX8_mix_123 rfl rfl ?_
    refine Vm.imul (n := 125) dX8_mix_124 rfl ?_
    refine Vm.iload (n := 127) 4 dX8_mix_125 rfl rfl ?_
    refine Vm.iadd (n := 128) dX8_mix_127 rfl ?_
    replace h := Option.bind_eq_some_iff.mp h
    obtain ⟨x2, h2, h⟩ := h
    refine Vm.ialdm (n := 129) dX8_mix_128 rfl in_46 rfl rfl (by decide) h2 ?_
    refine Vm.imul (n := 130) dX8_mix_129 rfl ?_
    refine Vm.iadd (n := 131) dX8_mix_130 rfl ?_
    replace h := Option.bind_eq_some_iff.mp h
    obtain ⟨σ3, h3, h⟩ := h
    refine Vm.iastm (n := 132) dX8_mix_131 rfl in_46 rfl rfl (by decide) h3 ?_
    replace h := Option.bind_eq_some_iff.mp h
    obtain ⟨x4, e4, h⟩ := h
    replace e4 := Option.some.inj e4
    refine Vm.iinc (n := 135) (v := x4) (lv' := [(4, .inl x4), (0, .inr (.inr (32, 0))), (1, .inl a1), (2, .inl a2), (3, .inl a3)]) 4 dX8_mix_132 rfl rfl e4 (Nat.le_of_ble_eq_true rfl) rfl ?_
    refine Vm.goto 96 dX8_mix_135 rfl ?_
    refine Vm.sub (lv' := [(0, .inr (.inr (32, 0))), (1, .inl a1), (2, .inl a2), (3, .inl a3), (4, .inl x4)]) [1, 2, 3, 4, 0] rfl ?_
    obtain rfl := Option.some.inj h
    exact hk
theorem lX8_mix_96_L (a1 : Int32) (a2 : Int32) (a3 : Int32) (τ : mm) {r : Option mv} {M' : mm × mm} (z : Int32 × mm) (w9 : Int32 × mm) (h : lp (fX8_mix_96_L a1 a2 a3) z = some w9) (hk : (fun q : Int32 × mm => r = some (.inl q.1) ∧ M' = (τ, q.2)) w9) : Vm mX8_mix 3 96 [(0, .inr (.inr (32, 0))), (1, .inl a1), (2, .inl a2), (3, .inl a3), (4, .inl z.1)] [] (τ, z.2) r M' :=
  lp_link (S := Int32 × mm) (R := Int32 × mm) (body := fX8_mix_96_L a1 a2 a3) (A := fun z : Int32 × mm => Vm mX8_mix 3 96 [(0, .inr (.inr (32, 0))), (1, .inl a1), (2, .inl a2), (3, .inl a3), (4, .inl z.1)] [] (τ, z.2) r M') (B := fun w : Int32 × mm => (fun q : Int32 × mm => r = some (.inl q.1) ∧ M' = (τ, q.2)) w) (fun z v hb hv => lX8_mix_96 a1 a2 a3 z.1 z.2 τ hb hv) z w9 h hk
set_option maxRecDepth 20000 in
theorem lX8_mix_33 (a1 : Int32) (a2 : Int32) (a3 : Int32) (a4 : Int32) (σ τ : mm) {r : Option mv} {M' : mm × mm} {v9 : (Int32) ⊕ (Int32 × mm)} (h : fX8_mix_33 a1 a2 a3 a4 σ = some v9) (hk : (Sum.elim (fun z : Int32 => Vm mX8_mix 3 33 [(0, .inr (.inr (32, 0))), (1, .inl a1), (2, .inl a2), (3, .inl a3), (4, .inl z)] [] (τ, σ) r M') (fun q : Int32 × mm => r = some (.inl q.1) ∧ M' = (τ, q.2))) v9) : Vm mX8_mix 3 33 [(0, .inr (.inr (32, 0))), (1, .inl a1), (2, .inl a2), (3, .inl a3), (4, .inl a4)] [] (τ, σ) r M' := by
  unfold fX8_mix_33 at h
  refine Vm.iload (n := 35) 4 dX8_mix_33 rfl rfl ?_
  refine Vm.aload_n (n := 36) 0 dX8_mix_35 rfl rfl ?_
  refine Vm.gM (n := 39) dX8_mix_36 rfl wf_RX8_13 in_32 rfl (by decide) rfl (by decide) ?_
  refine Vm.icmp_ge (n := 42) 93 dX8_mix_39 rfl rfl (fun c9 => ?_) (fun c9 => ?_)
  · replace h := (if_pos c9).symm.trans h
    refine Vm.iconst (n := 94) (v := (0 : Int32)) dX8_mix_93 rfl (by decide) ?_
    refine Vm.istore (n := 96) (lv' := [(4, .inl (0 : Int32)), (0, .inr (.inr (32, 0))), (1, .inl a1), (2, .inl a2), (3, .inl a3)]) dX8_mix_94 rfl (Nat.le_of_ble_eq_true rfl) rfl ?_
    refine Vm.sub (lv' := [(0, .inr (.inr (32, 0))), (1, .inl a1), (2, .inl a2), (3, .inl a3), (4, .inl (0 : Int32))]) [1, 2, 3, 4, 0] rfl ?_
    replace h := Option.map_eq_some_iff.mp h
    obtain ⟨w9, h, e8⟩ := h
    subst e8
    exact lX8_mix_96_L a1 a2 a3 τ ((0 : Int32), σ) _ h hk
  · replace h := (if_neg c9).symm.trans h
    refine Vm.aload_n (n := 43) 0 dX8_mix_42 rfl rfl ?_
    refine Vm.getR (n := 46) dX8_mix_43 rfl wf_RX8_26 in_32 rfl (by decide) rfl ?_
    refine Vm.iconst (n := 47) (v := (4 : Int32)) dX8_mix_46 rfl (by decide) ?_
    refine Vm.iload_n (n := 48) 2 dX8_mix_47 rfl rfl ?_
    refine Vm.imul (n := 49) dX8_mix_48 rfl ?_
    refine Vm.iload (n := 51) 4 dX8_mix_49 rfl rfl ?_
    refine Vm.iadd (n := 52) dX8_mix_51 rfl ?_
    replace h := Option.bind_eq_some_iff.mp h
    obtain ⟨x1, h1, h⟩ := h
    refine Vm.ialdm (n := 53) dX8_mix_52 rfl in_46 rfl rfl (by decide) h1 ?_
    refine Vm.iload_n (n := 54) 3 dX8_mix_53 rfl rfl ?_
    refine Vm.aload_n (n := 55) 0 dX8_mix_54 rfl rfl ?_
    refine Vm.getR (n := 58) dX8_mix_55 rfl wf_RX8_26 in_32 rfl (by decide) rfl ?_
    refine Vm.iconst (n := 59) (v := (4 : Int32)) dX8_mix_58 rfl (by decide) ?_
    refine Vm.iload_n (n := 60) 1 dX8_mix_59 rfl rfl ?_
    refine Vm.imul (n := 61) dX8_mix_60 rfl ?_
    refine Vm.iload (n := 63) 4 dX8_mix_61 rfl rfl ?_
    refine Vm.iadd (n := 64) dX8_mix_63 rfl ?_
    replace h := Option.bind_eq_some_iff.mp h
    obtain ⟨x2, h2, h⟩ := h
    refine Vm.ialdm (n := 65) dX8_mix_64 rfl in_46 rfl rfl (by decide) h2 ?_
    refine Vm.imul (n := 66) dX8_mix_65 rfl ?_
    refine Vm.iadd (n := 67) dX8_mix_66 rfl ?_
    refine Vm.i2l (n := 68) dX8_mix_67 rfl ?_
    refine Vm.ldc2 (n := 71) dX8_mix_68 rfl wl_RX8_273 ?_
    refine Vm.ldc2 (n := 74) dX8_mix_71 rfl wl_RX8_100 ?_
    refine Vm.callS (Y := mX8_in) (n := 77) [.inr (.inl ((x1 + (a3 * x2)).toInt64)), .inr (.inl (-4 : Int64)), .inr (.inl (4 : Int64))] dX8_mix_74 rfl wv_RX8_93 omX8_in rfl rfl (Nat.le_of_ble_eq_true rfl) (by decide) (kX8_in ((x1 + (a3 * x2)).toInt64) (-4 : Int64) (4 : Int64) rfl) ?_
    refine Vm.if_ne (n := 80) 87 dX8_mix_77 rfl rfl (fun c9 => ?_) (fun c9 => ?_)
    · replace h := (if_neg c9).symm.trans h
      replace h := Option.bind_eq_some_iff.mp h
      obtain ⟨x3, e3, h⟩ := h
      replace e3 := Option.some.inj e3
      refine Vm.iinc (n := 90) (v := x3) (lv' := [(4, .inl x3), (0, .inr (.inr (32, 0))), (1, .inl a1), (2, .inl a2), (3, .inl a3)]) 4 dX8_mix_87 rfl rfl e3 (Nat.le_of_ble_eq_true rfl) rfl ?_
      refine Vm.goto 33 dX8_mix_90 rfl ?_
      refine Vm.sub (lv' := [(0, .inr (.inr (32, 0))), (1, .inl a1), (2, .inl a2), (3, .inl a3), (4, .inl x3)]) [1, 2, 3, 4, 0] rfl ?_
      obtain rfl := Option.some.inj h
      exact hk
    · replace h := (if_pos c9).symm.trans h
      refine Vm.aload_n (n := 81) 0 dX8_mix_80 rfl rfl ?_
      refine Vm.ldc (n := 83) dX8_mix_81 rfl wc_RX8_207 ?_
      replace h := Option.bind_eq_some_iff.mp h
      obtain ⟨q4, h4, h⟩ := h
      refine Vm.callV (Y := mX8_finds) (n := 86) [.inl (-1000000005 : Int32)] dX8_mix_83 rfl wv_RX8_102 omX8_finds rfl in_32 rfl rfl rfl (Nat.le_of_ble_eq_true rfl) (by decide) (kX8_finds (-1000000005 : Int32) σ τ h4) ?_
      obtain rfl := Option.some.inj h
      exact Vm.iret dX8_mix_86 rfl hk.1 hk.2.symm
theorem lX8_mix_33_L (a1 : Int32) (a2 : Int32) (a3 : Int32) (σ τ : mm) {r : Option mv} {M' : mm × mm} (z : Int32) (w9 : Int32 × mm) (h : lp (fX8_mix_33_L a1 a2 a3 σ) z = some w9) (hk : (fun q : Int32 × mm => r = some (.inl q.1) ∧ M' = (τ, q.2)) w9) : Vm mX8_mix 3 33 [(0, .inr (.inr (32, 0))), (1, .inl a1), (2, .inl a2), (3, .inl a3), (4, .inl z)] [] (τ, σ) r M' :=
  lp_link (S := Int32) (R := Int32 × mm) (body := fX8_mix_33_L a1 a2 a3 σ) (A := fun z : Int32 => Vm mX8_mix 3 33 [(0, .inr (.inr (32, 0))), (1, .inl a1), (2, .inl a2), (3, .inl a3), (4, .inl z)] [] (τ, σ) r M') (B := fun w : Int32 × mm => (fun q : Int32 × mm => r = some (.inl q.1) ∧ M' = (τ, q.2)) w) (fun z v hb hv => lX8_mix_33 a1 a2 a3 z σ τ hb hv) z w9 h hk
set_option maxRecDepth 20000 in
theorem lX8_mix_23 (σ τ : mm) {r : Option mv} {M' : mm × mm} {v9 : Int32 × mm} (h : fX8_mix_23 σ = some v9) (hk : (fun q : Int32 × mm => r = some (.inl q.1) ∧ M' = (τ, q.2)) v9) : Vm mX8_mix 3 23 [(0, .inr (.inr (32, 0)))] [] (τ, σ) r M' := by
  unfold fX8_mix_23 at h
  refine Vm.aload_n (n := 24) 0 dX8_mix_23 rfl rfl ?_
  refine Vm.ldc (n := 26) dX8_mix_24 rfl wc_RX8_92 ?_
  replace h := Option.bind_eq_some_iff.mp h
  obtain ⟨q1, h1, h⟩ := h
  refine Vm.callV (Y := mX8_finds) (n := 29) [.inl (-1000000001 : Int32)] dX8_mix_26 rfl wv_RX8_102 omX8_finds rfl in_32 rfl rfl rfl (Nat.le_of_ble_eq_true rfl) (by decide) (kX8_finds (-1000000001 : Int32) σ τ h1) ?_
  obtain rfl := Option.some.inj h
  exact Vm.iret dX8_mix_29 rfl hk.1 hk.2.symm
set_option maxRecDepth 20000 in
theorem lX8_mix_0 (a1 : Int32) (a2 : Int32) (a3 : Int32) (σ τ : mm) {r : Option mv} {M' : mm × mm} {v9 : Int32 × mm} (h : fX8_mix_0 a1 a2 a3 σ = some v9) (hk : (fun q : Int32 × mm => r = some (.inl q.1) ∧ M' = (τ, q.2)) v9) : Vm mX8_mix 3 0 [(0, .inr (.inr (32, 0))), (1, .inl a1), (2, .inl a2), (3, .inl a3)] [] (τ, σ) r M' := by
  unfold fX8_mix_0 at h
  refine Vm.aload_n (n := 1) 0 dX8_mix_0 rfl rfl ?_
  refine Vm.iload_n (n := 2) 1 dX8_mix_1 rfl rfl ?_
  refine Vm.iload_n (n := 3) 2 dX8_mix_2 rfl rfl ?_
  refine Vm.callV (Y := mX8_areTwo) (n := 6) [.inl a1, .inl a2] dX8_mix_3 rfl wv_RX8_275 omX8_areTwo rfl in_32 rfl rfl rfl (Nat.le_of_ble_eq_true rfl) (by decide) (kX8_areTwo a1 a2 σ τ rfl) ?_
  refine Vm.if_eq (n := 9) 23 dX8_mix_6 rfl rfl (fun c9 => ?_) (fun c9 => ?_)
  · replace h := (if_pos c9).symm.trans h
    refine Vm.sub (lv' := [(0, .inr (.inr (32, 0)))]) [0] rfl ?_
    exact lX8_mix_23 σ τ h hk
  · replace h := (if_neg c9).symm.trans h
    refine Vm.iload_n (n := 10) 3 dX8_mix_9 rfl rfl ?_
    refine Vm.i2l (n := 11) dX8_mix_10 rfl ?_
    refine Vm.ldc2 (n := 14) dX8_mix_11 rfl wl_RX8_278 ?_
    refine Vm.ldc2 (n := 17) dX8_mix_14 rfl wl_RX8_265 ?_
    refine Vm.callS (Y := mX8_in) (n := 20) [.inr (.inl a3.toInt64), .inr (.inl (-3 : Int64)), .inr (.inl (3 : Int64))] dX8_mix_17 rfl wv_RX8_93 omX8_in rfl rfl (Nat.le_of_ble_eq_true rfl) (by decide) (kX8_in a3.toInt64 (-3 : Int64) (3 : Int64) rfl) ?_
    refine Vm.if_ne (n := 23) 30 dX8_mix_20 rfl rfl (fun c9 => ?_) (fun c9 => ?_)
    · replace h := (if_neg c9).symm.trans h
      refine Vm.iconst (n := 31) (v := (0 : Int32)) dX8_mix_30 rfl (by decide) ?_
      refine Vm.istore (n := 33) (lv' := [(4, .inl (0 : Int32)), (0, .inr (.inr (32, 0))), (1, .inl a1), (2, .inl a2), (3, .inl a3)]) dX8_mix_31 rfl (Nat.le_of_ble_eq_true rfl) rfl ?_
      refine Vm.sub (lv' := [(0, .inr (.inr (32, 0))), (1, .inl a1), (2, .inl a2), (3, .inl a3), (4, .inl (0 : Int32))]) [1, 2, 3, 4, 0] rfl ?_
      exact lX8_mix_33_L a1 a2 a3 σ τ ((0 : Int32)) _ h hk
    · replace h := (if_pos c9).symm.trans h
      refine Vm.sub (lv' := [(0, .inr (.inr (32, 0)))]) [0] rfl ?_
      exact lX8_mix_23 σ τ h hk
theorem kX8_mix (a1 : Int32) (a2 : Int32) (a3 : Int32) (σ τ : mm) {q : Int32 × mm} (h : fX8_mix a1 a2 a3 σ = some q) : Cx mX8_mix 3 [.inr (.inr (32, 0)), .inl a1, .inl a2, .inl a3] (τ, σ) (some (.inl q.1)) (τ, q.2) :=
  Cx.of (lv := [(0, .inr (.inr (32, 0))), (1, .inl a1), (2, .inl a2), (3, .inl a3)]) (by decide) (fun ad => Nat.le_of_ble_eq_true rfl) (fun ad => rfl) (lX8_mix_0 a1 a2 a3 σ τ h ⟨rfl, rfl⟩)
