-- ThinBodiesModel lays (II)I
noncomputable def fX8_lays_47 (a1 : Int32) (a3 : Int32) (σ : mm) : Option ((Int32 × mm) ⊕ (Int32 × mm)) :=
  if (σ.1 32 0 1) ≤ a3 then
  some (.inr ((a3, σ)))
  else
  Option.bind (rdI σ 76 0 4 a1) fun x1 =>
  if x1 ≤ a3 then
  some (.inr ((a3, σ)))
  else
  Option.bind (rdI σ 75 0 4 a1) fun x2 =>
  Option.bind (rdL σ 48 0 4 a3) fun x3 =>
  Option.bind (wrL σ 77 0 160 (((40 : Int32) * a1) + a3) (fX8_narrow x2 x3)) fun σ4 =>
  Option.bind (some (a3 + (1 : Int32))) fun x5 =>
  some (.inl (x5, σ4))
noncomputable def fX8_lays_47_L (a1 : Int32) : Int32 × mm → Option ((Int32 × mm) ⊕ (Int32 × mm)) := fun z => fX8_lays_47 a1 z.1 z.2
noncomputable def fX8_lays_0 (a1 : Int32) (a2 : Int32) (σ : mm) : Option (Int32 × mm) :=
  if (bi (fX8_isSheet a1)) = (0 : Int32) then
  Option.bind (fX8_finds (-1000000001 : Int32) σ) fun q5 =>
  some ((q5.1, q5.2))
  else
  Option.bind (rdI σ 75 0 4 a1) fun x1 =>
  if x1 = (0 : Int32) then
  Option.bind (fX8_finds (-1000000006 : Int32) σ) fun q4 =>
  some ((q4.1, q4.2))
  else
  Option.bind (fX8_isIn a2 σ) fun q2 =>
  if (bi q2.1) = (0 : Int32) then
  Option.bind (fX8_finds (-1000000004 : Int32) q2.2) fun q3 =>
  some ((q3.1, q3.2))
  else
  lp (fX8_lays_47_L a1) ((0 : Int32), q2.2)
noncomputable def fX8_lays (a1 : Int32) (a2 : Int32) (σ : mm) : Option (Int32 × mm) := fX8_lays_0 a1 a2 σ
set_option maxRecDepth 20000 in
theorem lX8_lays_47 (a1 : Int32) (a3 : Int32) (σ τ : mm) {r : Option mv} {M' : mm × mm} {v9 : (Int32 × mm) ⊕ (Int32 × mm)} (h : fX8_lays_47 a1 a3 σ = some v9) (hk : (Sum.elim (fun z : Int32 × mm => Vm mX8_lays 5 47 [(0, .inr (.inr (32, 0))), (1, .inl a1), (3, .inl z.1)] [] (τ, z.2) r M') (fun q : Int32 × mm => r = some (.inl q.1) ∧ M' = (τ, q.2))) v9) : Vm mX8_lays 5 47 [(0, .inr (.inr (32, 0))), (1, .inl a1), (3, .inl a3)] [] (τ, σ) r M' := by
  unfold fX8_lays_47 at h
  refine Vm.iload_n (n := 48) 2 dX8_lays_47 rfl rfl ?_
  refine Vm.aload_n (n := 49) 0 dX8_lays_48 rfl rfl ?_
  refine Vm.gM (n := 52) dX8_lays_49 rfl wf_RX8_13 in_32 rfl (by decide) rfl (by decide) ?_
  refine Vm.icmp_ge (n := 55) 97 dX8_lays_52 rfl rfl (fun c9 => ?_) (fun c9 => ?_)
  · replace h := (if_pos c9).symm.trans h
    refine Vm.iload_n (n := 98) 2 dX8_lays_97 rfl rfl ?_
    obtain rfl := Option.some.inj h
    exact Vm.iret dX8_lays_98 rfl hk.1 hk.2.symm
  · replace h := (if_neg c9).symm.trans h
    refine Vm.iload_n (n := 56) 2 dX8_lays_55 rfl rfl ?_
    refine Vm.aload_n (n := 57) 0 dX8_lays_56 rfl rfl ?_
    refine Vm.getR (n := 60) dX8_lays_57 rfl wf_RX8_74 in_32 rfl (by decide) rfl ?_
    refine Vm.iload_n (n := 61) 1 dX8_lays_60 rfl rfl ?_
    replace h := Option.bind_eq_some_iff.mp h
    obtain ⟨x1, h1, h⟩ := h
    refine Vm.ialdm (n := 62) dX8_lays_61 rfl in_76 rfl rfl (by decide) h1 ?_
    refine Vm.icmp_ge (n := 65) 97 dX8_lays_62 rfl rfl (fun c9 => ?_) (fun c9 => ?_)
    · replace h := (if_pos c9).symm.trans h
      refine Vm.iload_n (n := 98) 2 dX8_lays_97 rfl rfl ?_
      obtain rfl := Option.some.inj h
      exact Vm.iret dX8_lays_98 rfl hk.1 hk.2.symm
    · replace h := (if_neg c9).symm.trans h
      refine Vm.aload_n (n := 66) 0 dX8_lays_65 rfl rfl ?_
      refine Vm.getR (n := 69) dX8_lays_66 rfl wf_RX8_77 in_32 rfl (by decide) rfl ?_
      refine Vm.bipush (n := 71) (v := (40 : Int32)) dX8_lays_69 rfl (by decide) ?_
      refine Vm.iload_n (n := 72) 1 dX8_lays_71 rfl rfl ?_
      refine Vm.imul (n := 73) dX8_lays_72 rfl ?_
      refine Vm.iload_n (n := 74) 2 dX8_lays_73 rfl rfl ?_
      refine Vm.iadd (n := 75) dX8_lays_74 rfl ?_
      refine Vm.aload_n (n := 76) 0 dX8_lays_75 rfl rfl ?_
      refine Vm.getR (n := 79) dX8_lays_76 rfl wf_RX8_71 in_32 rfl (by decide) rfl ?_
      refine Vm.iload_n (n := 80) 1 dX8_lays_79 rfl rfl ?_
      replace h := Option.bind_eq_some_iff.mp h
      obtain ⟨x2, h2, h⟩ := h
      refine Vm.ialdm (n := 81) dX8_lays_80 rfl in_75 rfl rfl (by decide) h2 ?_
      refine Vm.aload_n (n := 82) 0 dX8_lays_81 rfl rfl ?_
      refine Vm.getR (n := 85) dX8_lays_82 rfl wf_RX8_32 in_32 rfl (by decide) rfl ?_
      refine Vm.iload_n (n := 86) 2 dX8_lays_85 rfl rfl ?_
      replace h := Option.bind_eq_some_iff.mp h
      obtain ⟨x3, h3, h⟩ := h
      refine Vm.laldm (n := 87) dX8_lays_86 rfl in_48 rfl rfl (by decide) h3 ?_
      refine Vm.callS (Y := mX8_narrow) (n := 90) [.inl x2, .inr (.inl x3)] dX8_lays_87 rfl wv_RX8_370 omX8_narrow rfl rfl (Nat.le_of_ble_eq_true rfl) (by decide) (kX8_narrow x2 x3 rfl) ?_
      replace h := Option.bind_eq_some_iff.mp h
      obtain ⟨σ4, h4, h⟩ := h
      refine Vm.lastm (n := 91) dX8_lays_90 rfl in_77 rfl rfl (by decide) h4 ?_
      replace h := Option.bind_eq_some_iff.mp h
      obtain ⟨x5, e5, h⟩ := h
      replace e5 := Option.some.inj e5
      refine Vm.iinc (n := 94) (v := x5) (lv' := [(3, .inl x5), (0, .inr (.inr (32, 0))), (1, .inl a1)]) 2 dX8_lays_91 rfl rfl e5 (Nat.le_of_ble_eq_true rfl) rfl ?_
      refine Vm.goto 47 dX8_lays_94 rfl ?_
      refine Vm.sub (lv' := [(0, .inr (.inr (32, 0))), (1, .inl a1), (3, .inl x5)]) [1, 2, 0] rfl ?_
      obtain rfl := Option.some.inj h
      exact hk
theorem lX8_lays_47_L (a1 : Int32) (τ : mm) {r : Option mv} {M' : mm × mm} (z : Int32 × mm) (w9 : Int32 × mm) (h : lp (fX8_lays_47_L a1) z = some w9) (hk : (fun q : Int32 × mm => r = some (.inl q.1) ∧ M' = (τ, q.2)) w9) : Vm mX8_lays 5 47 [(0, .inr (.inr (32, 0))), (1, .inl a1), (3, .inl z.1)] [] (τ, z.2) r M' :=
  lp_link (S := Int32 × mm) (R := Int32 × mm) (body := fX8_lays_47_L a1) (A := fun z : Int32 × mm => Vm mX8_lays 5 47 [(0, .inr (.inr (32, 0))), (1, .inl a1), (3, .inl z.1)] [] (τ, z.2) r M') (B := fun w : Int32 × mm => (fun q : Int32 × mm => r = some (.inl q.1) ∧ M' = (τ, q.2)) w) (fun z v hb hv => lX8_lays_47 a1 z.1 z.2 τ hb hv) z w9 h hk
set_option maxRecDepth 20000 in
theorem lX8_lays_0 (a1 : Int32) (a2 : Int32) (σ τ : mm) {r : Option mv} {M' : mm × mm} {v9 : Int32 × mm} (h : fX8_lays_0 a1 a2 σ = some v9) (hk : (fun q : Int32 × mm => r = some (.inl q.1) ∧ M' = (τ, q.2)) v9) : Vm mX8_lays 5 0 [(0, .inr (.inr (32, 0))), (1, .inl a1), (2, .inl a2)] [] (τ, σ) r M' := by
  unfold fX8_lays_0 at h
  refine Vm.iload_n (n := 1) 1 dX8_lays_0 rfl rfl ?_
  refine Vm.callS (Y := mX8_isSheet) (n := 4) [.inl a1] dX8_lays_1 rfl wv_RX8_195 omX8_isSheet rfl rfl (Nat.le_of_ble_eq_true rfl) (by decide) (kX8_isSheet a1 rfl) ?_
  refine Vm.if_ne (n := 7) 14 dX8_lays_4 rfl rfl (fun c9 => ?_) (fun c9 => ?_)
  · replace h := (if_neg c9).symm.trans h
    refine Vm.aload_n (n := 15) 0 dX8_lays_14 rfl rfl ?_
    refine Vm.getR (n := 18) dX8_lays_15 rfl wf_RX8_71 in_32 rfl (by decide) rfl ?_
    refine Vm.iload_n (n := 19) 1 dX8_lays_18 rfl rfl ?_
    replace h := Option.bind_eq_some_iff.mp h
    obtain ⟨x1, h1, h⟩ := h
    refine Vm.ialdm (n := 20) dX8_lays_19 rfl in_75 rfl rfl (by decide) h1 ?_
    refine Vm.if_ne (n := 23) 30 dX8_lays_20 rfl rfl (fun c9 => ?_) (fun c9 => ?_)
    · replace h := (if_neg c9).symm.trans h
      refine Vm.aload_n (n := 31) 0 dX8_lays_30 rfl rfl ?_
      refine Vm.iload_n (n := 32) 2 dX8_lays_31 rfl rfl ?_
      replace h := Option.bind_eq_some_iff.mp h
      obtain ⟨q2, h2, h⟩ := h
      refine Vm.callV (Y := mX8_isIn) (n := 35) [.inl a2] dX8_lays_32 rfl wv_RX8_192 omX8_isIn rfl in_32 rfl rfl rfl (Nat.le_of_ble_eq_true rfl) (by decide) (kX8_isIn a2 σ τ h2) ?_
      refine Vm.if_ne (n := 38) 45 dX8_lays_35 rfl rfl (fun c9 => ?_) (fun c9 => ?_)
      · replace h := (if_neg c9).symm.trans h
        refine Vm.iconst (n := 46) (v := (0 : Int32)) dX8_lays_45 rfl (by decide) ?_
        refine Vm.istore_n (n := 47) (lv' := [(3, .inl (0 : Int32)), (0, .inr (.inr (32, 0))), (1, .inl a1), (2, .inl a2)]) dX8_lays_46 rfl (Nat.le_of_ble_eq_true rfl) rfl ?_
        refine Vm.sub (lv' := [(0, .inr (.inr (32, 0))), (1, .inl a1), (3, .inl (0 : Int32))]) [1, 2, 0] rfl ?_
        exact lX8_lays_47_L a1 τ ((0 : Int32), q2.2) _ h hk
      · replace h := (if_pos c9).symm.trans h
        refine Vm.aload_n (n := 39) 0 dX8_lays_38 rfl rfl ?_
        refine Vm.ldc (n := 41) dX8_lays_39 rfl wc_RX8_167 ?_
        replace h := Option.bind_eq_some_iff.mp h
        obtain ⟨q3, h3, h⟩ := h
        refine Vm.callV (Y := mX8_finds) (n := 44) [.inl (-1000000004 : Int32)] dX8_lays_41 rfl wv_RX8_102 omX8_finds rfl in_32 rfl rfl rfl (Nat.le_of_ble_eq_true rfl) (by decide) (kX8_finds (-1000000004 : Int32) q2.2 τ h3) ?_
        obtain rfl := Option.some.inj h
        exact Vm.iret dX8_lays_44 rfl hk.1 hk.2.symm
    · replace h := (if_pos c9).symm.trans h
      refine Vm.aload_n (n := 24) 0 dX8_lays_23 rfl rfl ?_
      refine Vm.ldc (n := 26) dX8_lays_24 rfl wc_RX8_198 ?_
      replace h := Option.bind_eq_some_iff.mp h
      obtain ⟨q4, h4, h⟩ := h
      refine Vm.callV (Y := mX8_finds) (n := 29) [.inl (-1000000006 : Int32)] dX8_lays_26 rfl wv_RX8_102 omX8_finds rfl in_32 rfl rfl rfl (Nat.le_of_ble_eq_true rfl) (by decide) (kX8_finds (-1000000006 : Int32) σ τ h4) ?_
      obtain rfl := Option.some.inj h
      exact Vm.iret dX8_lays_29 rfl hk.1 hk.2.symm
  · replace h := (if_pos c9).symm.trans h
    refine Vm.aload_n (n := 8) 0 dX8_lays_7 rfl rfl ?_
    refine Vm.ldc (n := 10) dX8_lays_8 rfl wc_RX8_92 ?_
    replace h := Option.bind_eq_some_iff.mp h
    obtain ⟨q5, h5, h⟩ := h
    refine Vm.callV (Y := mX8_finds) (n := 13) [.inl (-1000000001 : Int32)] dX8_lays_10 rfl wv_RX8_102 omX8_finds rfl in_32 rfl rfl rfl (Nat.le_of_ble_eq_true rfl) (by decide) (kX8_finds (-1000000001 : Int32) σ τ h5) ?_
    obtain rfl := Option.some.inj h
    exact Vm.iret dX8_lays_13 rfl hk.1 hk.2.symm
theorem kX8_lays (a1 : Int32) (a2 : Int32) (σ τ : mm) {q : Int32 × mm} (h : fX8_lays a1 a2 σ = some q) : Cx mX8_lays 5 [.inr (.inr (32, 0)), .inl a1, .inl a2] (τ, σ) (some (.inl q.1)) (τ, q.2) :=
  Cx.of (lv := [(0, .inr (.inr (32, 0))), (1, .inl a1), (2, .inl a2)]) (by decide) (fun ad => Nat.le_of_ble_eq_true rfl) (fun ad => rfl) (lX8_lays_0 a1 a2 σ τ h ⟨rfl, rfl⟩)
-- ThinBodiesModel keeps ([I)V
noncomputable def fX8_keeps_79_78 (a2 : Int32) (σ : mm) : Option ((Int32 × mm) ⊕ (mm)) :=
  if (16 : Int32) ≤ a2 then
  some (.inr (σ))
  else
  Option.bind (rdI σ 46 0 16 a2) fun x1 =>
  Option.bind (wrI σ 79 0 82 ((66 : Int32) + a2) x1) fun σ2 =>
  Option.bind (some (a2 + (1 : Int32))) fun x3 =>
  some (.inl (x3, σ2))
noncomputable def fX8_keeps_79_78_L : Int32 × mm → Option ((Int32 × mm) ⊕ (mm)) := fun z => fX8_keeps_79_78 z.1 z.2
noncomputable def fX8_keeps_79_52 (a2 : Int32) (σ : mm) : Option ((Int32 × mm) ⊕ (mm)) :=
  if (56 : Int32) ≤ a2 then
  Option.map Sum.inr (lp (fX8_keeps_79_78_L) ((0 : Int32), σ))
  else
  Option.bind (rdI σ 45 0 56 a2) fun x1 =>
  Option.bind (wrI σ 79 0 82 ((10 : Int32) + a2) x1) fun σ2 =>
  Option.bind (some (a2 + (1 : Int32))) fun x3 =>
  some (.inl (x3, σ2))
noncomputable def fX8_keeps_79_52_L : Int32 × mm → Option ((Int32 × mm) ⊕ (mm)) := fun z => fX8_keeps_79_52 z.1 z.2
noncomputable def fX8_keeps_79_16 (a2 : Int32) (σ : mm) : Option ((Int32 × mm) ⊕ (mm)) :=
  if (4 : Int32) ≤ a2 then
  Option.map Sum.inr (lp (fX8_keeps_79_52_L) ((0 : Int32), σ))
  else
  Option.bind (rdI σ 42 0 4 a2) fun x1 =>
  Option.bind (wrI σ 79 0 82 ((2 : Int32) + a2) x1) fun σ2 =>
  Option.bind (rdI σ2 43 0 4 a2) fun x3 =>
  Option.bind (wrI σ2 79 0 82 ((6 : Int32) + a2) x3) fun σ4 =>
  Option.bind (some (a2 + (1 : Int32))) fun x5 =>
  some (.inl (x5, σ4))
noncomputable def fX8_keeps_79_16_L : Int32 × mm → Option ((Int32 × mm) ⊕ (mm)) := fun z => fX8_keeps_79_16 z.1 z.2
noncomputable def fX8_keeps_79_0 (σ : mm) : Option (mm) :=
  Option.bind (wrI σ 79 0 82 (0 : Int32) (σ.1 32 0 1)) fun σ1 =>
  Option.bind (wrI σ1 79 0 82 (1 : Int32) (σ1.1 32 0 4)) fun σ2 =>
  lp (fX8_keeps_79_16_L) ((0 : Int32), σ2)
noncomputable def fX8_keeps_79 (σ : mm) : Option (mm) := fX8_keeps_79_0 σ
set_option maxRecDepth 20000 in
theorem lX8_keeps_79_78 (a2 : Int32) (σ τ : mm) {r : Option mv} {M' : mm × mm} {v9 : (Int32 × mm) ⊕ (mm)} (h : fX8_keeps_79_78 a2 σ = some v9) (hk : (Sum.elim (fun z : Int32 × mm => Vm mX8_keeps 0 78 [(0, .inr (.inr (32, 0))), (1, .inr (.inr (79, 0))), (2, .inl z.1)] [] (τ, z.2) r M') (fun q : mm => r = none ∧ M' = (τ, q))) v9) : Vm mX8_keeps 0 78 [(0, .inr (.inr (32, 0))), (1, .inr (.inr (79, 0))), (2, .inl a2)] [] (τ, σ) r M' := by
  unfold fX8_keeps_79_78 at h
  refine Vm.iload_n (n := 79) 2 dX8_keeps_78 rfl rfl ?_
  refine Vm.bipush (n := 81) (v := (16 : Int32)) dX8_keeps_79 rfl (by decide) ?_
  refine Vm.icmp_ge (n := 84) 102 dX8_keeps_81 rfl rfl (fun c9 => ?_) (fun c9 => ?_)
  · replace h := (if_pos c9).symm.trans h
    obtain rfl := Option.some.inj h
    exact Vm.vret dX8_keeps_102 rfl hk.1 hk.2.symm
  · replace h := (if_neg c9).symm.trans h
    refine Vm.aload_n (n := 85) 1 dX8_keeps_84 rfl rfl ?_
    refine Vm.bipush (n := 87) (v := (66 : Int32)) dX8_keeps_85 rfl (by decide) ?_
    refine Vm.iload_n (n := 88) 2 dX8_keeps_87 rfl rfl ?_
    refine Vm.iadd (n := 89) dX8_keeps_88 rfl ?_
    refine Vm.aload_n (n := 90) 0 dX8_keeps_89 rfl rfl ?_
    refine Vm.getR (n := 93) dX8_keeps_90 rfl wf_RX8_26 in_32 rfl (by decide) rfl ?_
    refine Vm.iload_n (n := 94) 2 dX8_keeps_93 rfl rfl ?_
    replace h := Option.bind_eq_some_iff.mp h
    obtain ⟨x1, h1, h⟩ := h
    refine Vm.ialdm (n := 95) dX8_keeps_94 rfl in_46 rfl rfl (by decide) h1 ?_
    replace h := Option.bind_eq_some_iff.mp h
    obtain ⟨σ2, h2, h⟩ := h
    refine Vm.iastm (n := 96) dX8_keeps_95 rfl in_79 rfl rfl (by decide) h2 ?_
    replace h := Option.bind_eq_some_iff.mp h
    obtain ⟨x3, e3, h⟩ := h
    replace e3 := Option.some.inj e3
    refine Vm.iinc (n := 99) (v := x3) (lv' := [(2, .inl x3), (0, .inr (.inr (32, 0))), (1, .inr (.inr (79, 0)))]) 2 dX8_keeps_96 rfl rfl e3 (Nat.le_of_ble_eq_true rfl) rfl ?_
    refine Vm.goto 78 dX8_keeps_99 rfl ?_
    refine Vm.sub (lv' := [(0, .inr (.inr (32, 0))), (1, .inr (.inr (79, 0))), (2, .inl x3)]) [1, 2, 0] rfl ?_
    obtain rfl := Option.some.inj h
    exact hk
theorem lX8_keeps_79_78_L (τ : mm) {r : Option mv} {M' : mm × mm} (z : Int32 × mm) (w9 : mm) (h : lp (fX8_keeps_79_78_L) z = some w9) (hk : (fun q : mm => r = none ∧ M' = (τ, q)) w9) : Vm mX8_keeps 0 78 [(0, .inr (.inr (32, 0))), (1, .inr (.inr (79, 0))), (2, .inl z.1)] [] (τ, z.2) r M' :=
  lp_link (S := Int32 × mm) (R := mm) (body := fX8_keeps_79_78_L) (A := fun z : Int32 × mm => Vm mX8_keeps 0 78 [(0, .inr (.inr (32, 0))), (1, .inr (.inr (79, 0))), (2, .inl z.1)] [] (τ, z.2) r M') (B := fun w : mm => (fun q : mm => r = none ∧ M' = (τ, q)) w) (fun z v hb hv => lX8_keeps_79_78 z.1 z.2 τ hb hv) z w9 h hk
set_option maxRecDepth 20000 in
theorem lX8_keeps_79_52 (a2 : Int32) (σ τ : mm) {r : Option mv} {M' : mm × mm} {v9 : (Int32 × mm) ⊕ (mm)} (h : fX8_keeps_79_52 a2 σ = some v9) (hk : (Sum.elim (fun z : Int32 × mm => Vm mX8_keeps 0 52 [(0, .inr (.inr (32, 0))), (1, .inr (.inr (79, 0))), (2, .inl z.1)] [] (τ, z.2) r M') (fun q : mm => r = none ∧ M' = (τ, q))) v9) : Vm mX8_keeps 0 52 [(0, .inr (.inr (32, 0))), (1, .inr (.inr (79, 0))), (2, .inl a2)] [] (τ, σ) r M' := by
  unfold fX8_keeps_79_52 at h
  refine Vm.iload_n (n := 53) 2 dX8_keeps_52 rfl rfl ?_
  refine Vm.bipush (n := 55) (v := (56 : Int32)) dX8_keeps_53 rfl (by decide) ?_
  refine Vm.icmp_ge (n := 58) 76 dX8_keeps_55 rfl rfl (fun c9 => ?_) (fun c9 => ?_)
  · replace h := (if_pos c9).symm.trans h
    refine Vm.iconst (n := 77) (v := (0 : Int32)) dX8_keeps_76 rfl (by decide) ?_
    refine Vm.istore_n (n := 78) (lv' := [(2, .inl (0 : Int32)), (0, .inr (.inr (32, 0))), (1, .inr (.inr (79, 0)))]) dX8_keeps_77 rfl (Nat.le_of_ble_eq_true rfl) rfl ?_
    refine Vm.sub (lv' := [(0, .inr (.inr (32, 0))), (1, .inr (.inr (79, 0))), (2, .inl (0 : Int32))]) [1, 2, 0] rfl ?_
    replace h := Option.map_eq_some_iff.mp h
    obtain ⟨w9, h, e8⟩ := h
    subst e8
    exact lX8_keeps_79_78_L τ ((0 : Int32), σ) _ h hk
  · replace h := (if_neg c9).symm.trans h
    refine Vm.aload_n (n := 59) 1 dX8_keeps_58 rfl rfl ?_
    refine Vm.bipush (n := 61) (v := (10 : Int32)) dX8_keeps_59 rfl (by decide) ?_
    refine Vm.iload_n (n := 62) 2 dX8_keeps_61 rfl rfl ?_
    refine Vm.iadd (n := 63) dX8_keeps_62 rfl ?_
    refine Vm.aload_n (n := 64) 0 dX8_keeps_63 rfl rfl ?_
    refine Vm.getR (n := 67) dX8_keeps_64 rfl wf_RX8_23 in_32 rfl (by decide) rfl ?_
    refine Vm.iload_n (n := 68) 2 dX8_keeps_67 rfl rfl ?_
    replace h := Option.bind_eq_some_iff.mp h
    obtain ⟨x1, h1, h⟩ := h
    refine Vm.ialdm (n := 69) dX8_keeps_68 rfl in_45 rfl rfl (by decide) h1 ?_
    replace h := Option.bind_eq_some_iff.mp h
    obtain ⟨σ2, h2, h⟩ := h
    refine Vm.iastm (n := 70) dX8_keeps_69 rfl in_79 rfl rfl (by decide) h2 ?_
    replace h := Option.bind_eq_some_iff.mp h
    obtain ⟨x3, e3, h⟩ := h
    replace e3 := Option.some.inj e3
    refine Vm.iinc (n := 73) (v := x3) (lv' := [(2, .inl x3), (0, .inr (.inr (32, 0))), (1, .inr (.inr (79, 0)))]) 2 dX8_keeps_70 rfl rfl e3 (Nat.le_of_ble_eq_true rfl) rfl ?_
    refine Vm.goto 52 dX8_keeps_73 rfl ?_
    refine Vm.sub (lv' := [(0, .inr (.inr (32, 0))), (1, .inr (.inr (79, 0))), (2, .inl x3)]) [1, 2, 0] rfl ?_
    obtain rfl := Option.some.inj h
    exact hk
theorem lX8_keeps_79_52_L (τ : mm) {r : Option mv} {M' : mm × mm} (z : Int32 × mm) (w9 : mm) (h : lp (fX8_keeps_79_52_L) z = some w9) (hk : (fun q : mm => r = none ∧ M' = (τ, q)) w9) : Vm mX8_keeps 0 52 [(0, .inr (.inr (32, 0))), (1, .inr (.inr (79, 0))), (2, .inl z.1)] [] (τ, z.2) r M' :=
  lp_link (S := Int32 × mm) (R := mm) (body := fX8_keeps_79_52_L) (A := fun z : Int32 × mm => Vm mX8_keeps 0 52 [(0, .inr (.inr (32, 0))), (1, .inr (.inr (79, 0))), (2, .inl z.1)] [] (τ, z.2) r M') (B := fun w : mm => (fun q : mm => r = none ∧ M' = (τ, q)) w) (fun z v hb hv => lX8_keeps_79_52 z.1 z.2 τ hb hv) z w9 h hk
set_option maxRecDepth 20000 in
theorem lX8_keeps_79_16 (a2 : Int32) (σ τ : mm) {r : Option mv} {M' : mm × mm} {v9 : (Int32 × mm) ⊕ (mm)} (h : fX8_keeps_79_16 a2 σ = some v9) (hk : (Sum.elim (fun z : Int32 × mm => Vm mX8_keeps 0 16 [(0, .inr (.inr (32, 0))), (1, .inr (.inr (79, 0))), (2, .inl z.1)] [] (τ, z.2) r M') (fun q : mm => r = none ∧ M' = (τ, q))) v9) : Vm mX8_keeps 0 16 [(0, .inr (.inr (32, 0))), (1, .inr (.inr (79, 0))), (2, .inl a2)] [] (τ, σ) r M' := by
  unfold fX8_keeps_79_16 at h
  refine Vm.iload_n (n := 17) 2 dX8_keeps_16 rfl rfl ?_
  refine Vm.iconst (n := 18) (v := (4 : Int32)) dX8_keeps_17 rfl (by decide) ?_
  refine Vm.icmp_ge (n := 21) 50 dX8_keeps_18 rfl rfl (fun c9 => ?_) (fun c9 => ?_)
  · replace h := (if_pos c9).symm.trans h
    refine Vm.iconst (n := 51) (v := (0 : Int32)) dX8_keeps_50 rfl (by decide) ?_
    refine Vm.istore_n (n := 52) (lv' := [(2, .inl (0 : Int32)), (0, .inr (.inr (32, 0))), (1, .inr (.inr (79, 0)))]) dX8_keeps_51 rfl (Nat.le_of_ble_eq_true rfl) rfl ?_
    refine Vm.sub (lv' := [(0, .inr (.inr (32, 0))), (1, .inr (.inr (79, 0))), (2, .inl (0 : Int32))]) [1, 2, 0] rfl ?_
    replace h := Option.map_eq_some_iff.mp h
    obtain ⟨w9, h, e8⟩ := h
    subst e8
    exact lX8_keeps_79_52_L τ ((0 : Int32), σ) _ h hk
  · replace h := (if_neg c9).symm.trans h
    refine Vm.aload_n (n := 22) 1 dX8_keeps_21 rfl rfl ?_
    refine Vm.iconst (n := 23) (v := (2 : Int32)) dX8_keeps_22 rfl (by decide) ?_
    refine Vm.iload_n (n := 24) 2 dX8_keeps_23 rfl rfl ?_
    refine Vm.iadd (n := 25) dX8_keeps_24 rfl ?_
    refine Vm.aload_n (n := 26) 0 dX8_keeps_25 rfl rfl ?_
    refine Vm.getR (n := 29) dX8_keeps_26 rfl wf_RX8_17 in_32 rfl (by decide) rfl ?_
    refine Vm.iload_n (n := 30) 2 dX8_keeps_29 rfl rfl ?_
    replace h := Option.bind_eq_some_iff.mp h
    obtain ⟨x1, h1, h⟩ := h
    refine Vm.ialdm (n := 31) dX8_keeps_30 rfl in_42 rfl rfl (by decide) h1 ?_
    replace h := Option.bind_eq_some_iff.mp h
    obtain ⟨σ2, h2, h⟩ := h
    refine Vm.iastm (n := 32) dX8_keeps_31 rfl in_79 rfl rfl (by decide) h2 ?_
    refine Vm.aload_n (n := 33) 1 dX8_keeps_32 rfl rfl ?_
    refine Vm.bipush (n := 35) (v := (6 : Int32)) dX8_keeps_33 rfl (by decide) ?_
    refine Vm.iload_n (n := 36) 2 dX8_keeps_35 rfl rfl ?_
    refine Vm.iadd (n := 37) dX8_keeps_36 rfl ?_
    refine Vm.aload_n (n := 38) 0 dX8_keeps_37 rfl rfl ?_
    refine Vm.getR (n := 41) dX8_keeps_38 rfl wf_RX8_20 in_32 rfl (by decide) rfl ?_
    refine Vm.iload_n (n := 42) 2 dX8_keeps_41 rfl rfl ?_
    replace h := Option.bind_eq_some_iff.mp h
    obtain ⟨x3, h3, h⟩ := h
    refine Vm.ialdm (n := 43) dX8_keeps_42 rfl in_43 rfl rfl (by decide) h3 ?_
    replace h := Option.bind_eq_some_iff.mp h
    obtain ⟨σ4, h4, h⟩ := h
    refine Vm.iastm (n := 44) dX8_keeps_43 rfl in_79 rfl rfl (by decide) h4 ?_
    replace h := Option.bind_eq_some_iff.mp h
    obtain ⟨x5, e5, h⟩ := h
    replace e5 := Option.some.inj e5
    refine Vm.iinc (n := 47) (v := x5) (lv' := [(2, .inl x5), (0, .inr (.inr (32, 0))), (1, .inr (.inr (79, 0)))]) 2 dX8_keeps_44 rfl rfl e5 (Nat.le_of_ble_eq_true rfl) rfl ?_
    refine Vm.goto 16 dX8_keeps_47 rfl ?_
    refine Vm.sub (lv' := [(0, .inr (.inr (32, 0))), (1, .inr (.inr (79, 0))), (2, .inl x5)]) [1, 2, 0] rfl ?_
    obtain rfl := Option.some.inj h
    exact hk
theorem lX8_keeps_79_16_L (τ : mm) {r : Option mv} {M' : mm × mm} (z : Int32 × mm) (w9 : mm) (h : lp (fX8_keeps_79_16_L) z = some w9) (hk : (fun q : mm => r = none ∧ M' = (τ, q)) w9) : Vm mX8_keeps 0 16 [(0, .inr (.inr (32, 0))), (1, .inr (.inr (79, 0))), (2, .inl z.1)] [] (τ, z.2) r M' :=
  lp_link (S := Int32 × mm) (R := mm) (body := fX8_keeps_79_16_L) (A := fun z : Int32 × mm => Vm mX8_keeps 0 16 [(0, .inr (.inr (32, 0))), (1, .inr (.inr (79, 0))), (2, .inl z.1)] [] (τ, z.2) r M') (B := fun w : mm => (fun q : mm => r = none ∧ M' = (τ, q)) w) (fun z v hb hv => lX8_keeps_79_16 z.1 z.2 τ hb hv) z w9 h hk
set_option maxRecDepth 20000 in
theorem lX8_keeps_79_0 (σ τ : mm) {r : Option mv} {M' : mm × mm} {v9 : mm} (h : fX8_keeps_79_0 σ = some v9) (hk : (fun q : mm => r = none ∧ M' = (τ, q)) v9) : Vm mX8_keeps 0 0 [(0, .inr (.inr (32, 0))), (1, .inr (.inr (79, 0)))] [] (τ, σ) r M' := by
  unfold fX8_keeps_79_0 at h
  refine Vm.aload_n (n := 1) 1 dX8_keeps_0 rfl rfl ?_
  refine Vm.iconst (n := 2) (v := (0 : Int32)) dX8_keeps_1 rfl (by decide) ?_
  refine Vm.aload_n (n := 3) 0 dX8_keeps_2 rfl rfl ?_
  refine Vm.gM (n := 6) dX8_keeps_3 rfl wf_RX8_13 in_32 rfl (by decide) rfl (by decide) ?_
  replace h := Option.bind_eq_some_iff.mp h
  obtain ⟨σ1, h1, h⟩ := h
  refine Vm.iastm (n := 7) dX8_keeps_6 rfl in_79 rfl rfl (by decide) h1 ?_
  refine Vm.aload_n (n := 8) 1 dX8_keeps_7 rfl rfl ?_
  refine Vm.iconst (n := 9) (v := (1 : Int32)) dX8_keeps_8 rfl (by decide) ?_
  refine Vm.aload_n (n := 10) 0 dX8_keeps_9 rfl rfl ?_
  refine Vm.gM (n := 13) dX8_keeps_10 rfl wf_RX8_97 in_32 rfl (by decide) rfl (by decide) ?_
  replace h := Option.bind_eq_some_iff.mp h
  obtain ⟨σ2, h2, h⟩ := h
  refine Vm.iastm (n := 14) dX8_keeps_13 rfl in_79 rfl rfl (by decide) h2 ?_
  refine Vm.iconst (n := 15) (v := (0 : Int32)) dX8_keeps_14 rfl (by decide) ?_
  refine Vm.istore_n (n := 16) (lv' := [(2, .inl (0 : Int32)), (0, .inr (.inr (32, 0))), (1, .inr (.inr (79, 0)))]) dX8_keeps_15 rfl (Nat.le_of_ble_eq_true rfl) rfl ?_
  refine Vm.sub (lv' := [(0, .inr (.inr (32, 0))), (1, .inr (.inr (79, 0))), (2, .inl (0 : Int32))]) [1, 2, 0] rfl ?_
  exact lX8_keeps_79_16_L τ ((0 : Int32), σ2) _ h hk
theorem kX8_keeps_79 (σ τ : mm) {q : mm} (h : fX8_keeps_79 σ = some q) : Cx mX8_keeps 0 [.inr (.inr (32, 0)), .inr (.inr (79, 0))] (τ, σ) (none) (τ, q) :=
  Cx.of (lv := [(0, .inr (.inr (32, 0))), (1, .inr (.inr (79, 0)))]) (by decide) (fun ad => Nat.le_of_ble_eq_true rfl) (fun ad => rfl) (lX8_keeps_79_0 σ τ h ⟨rfl, rfl⟩)
-- ThinBodiesModel image ()I
noncomputable def fX8_image_0 (σ : mm) : Option (Int32 × mm) :=
  Option.bind (fX8_keeps_79 σ) fun q1 =>
  Option.bind (some (stI q1 32 0 41 (1 : Int32))) fun σ2 =>
  some (((1 : Int32), σ2))
noncomputable def fX8_image (σ : mm) : Option (Int32 × mm) := fX8_image_0 σ
set_option maxRecDepth 20000 in
theorem lX8_image_0 (σ τ : mm) {r : Option mv} {M' : mm × mm} {v9 : Int32 × mm} (h : fX8_image_0 σ = some v9) (hk : (fun q : Int32 × mm => r = some (.inl q.1) ∧ M' = (τ, q.2)) v9) : Vm mX8_image 1 0 [(0, .inr (.inr (32, 0)))] [] (τ, σ) r M' := by
  unfold fX8_image_0 at h
  refine Vm.aload_n (n := 1) 0 dX8_image_0 rfl rfl ?_
  refine Vm.aload_n (n := 2) 0 dX8_image_1 rfl rfl ?_
  refine Vm.getR (n := 5) dX8_image_2 rfl wf_RX8_83 in_32 rfl (by decide) rfl ?_
  replace h := Option.bind_eq_some_iff.mp h
  obtain ⟨q1, h1, h⟩ := h
  refine Vm.callVv (Y := mX8_keeps) (n := 8) [.inr (.inr (79, 0))] dX8_image_5 rfl wv_RX8_360 omX8_keeps rfl in_32 rfl rfl rfl (Nat.le_of_ble_eq_true rfl) (by decide) (kX8_keeps_79 σ τ h1) ?_
  refine Vm.aload_n (n := 9) 0 dX8_image_8 rfl rfl ?_
  refine Vm.iconst (n := 10) (v := (1 : Int32)) dX8_image_9 rfl (by decide) ?_
  refine Vm.pM (n := 13) (ty := .boolean) dX8_image_10 rfl wf_RX8_374 in_32 rfl (by decide) rfl (by decide) rfl rfl rfl rfl ?_
  replace h := Option.bind_eq_some_iff.mp h
  obtain ⟨σ2, e2, h⟩ := h
  replace e2 := Option.some.inj e2
  refine Vm.mem (congrArg (fun z => (τ, z)) e2) ?_
  refine Vm.iconst (n := 14) (v := (1 : Int32)) dX8_image_13 rfl (by decide) ?_
  obtain rfl := Option.some.inj h
  exact Vm.iret dX8_image_14 rfl hk.1 hk.2.symm
theorem kX8_image (σ τ : mm) {q : Int32 × mm} (h : fX8_image σ = some q) : Cx mX8_image 1 [.inr (.inr (32, 0))] (τ, σ) (some (.inl q.1)) (τ, q.2) :=
  Cx.of (lv := [(0, .inr (.inr (32, 0)))]) (by decide) (fun ad => Nat.le_of_ble_eq_true rfl) (fun ad => rfl) (lX8_image_0 σ τ h ⟨rfl, rfl⟩)
-- ThinBodiesModel comesBack ([I)V
noncomputable def fX8_comesBack_79_78 (a2 : Int32) (σ : mm) : Option ((Int32 × mm) ⊕ (mm)) :=
  if (16 : Int32) ≤ a2 then
  some (.inr (σ))
  else
  Option.bind (rdI σ 79 0 82 ((66 : Int32) + a2)) fun x1 =>
  Option.bind (wrI σ 46 0 16 a2 x1) fun σ2 =>
  Option.bind (some (a2 + (1 : Int32))) fun x3 =>
  some (.inl (x3, σ2))
noncomputable def fX8_comesBack_79_78_L : Int32 × mm → Option ((Int32 × mm) ⊕ (mm)) := fun z => fX8_comesBack_79_78 z.1 z.2
noncomputable def fX8_comesBack_79_52 (a2 : Int32) (σ : mm) : Option ((Int32 × mm) ⊕ (mm)) :=
  if (56 : Int32) ≤ a2 then
  Option.map Sum.inr (lp (fX8_comesBack_79_78_L) ((0 : Int32), σ))
  else
  Option.bind (rdI σ 79 0 82 ((10 : Int32) + a2)) fun x1 =>
  Option.bind (wrI σ 45 0 56 a2 x1) fun σ2 =>
  Option.bind (some (a2 + (1 : Int32))) fun x3 =>
  some (.inl (x3, σ2))
noncomputable def fX8_comesBack_79_52_L : Int32 × mm → Option ((Int32 × mm) ⊕ (mm)) := fun z => fX8_comesBack_79_52 z.1 z.2
noncomputable def fX8_comesBack_79_16 (a2 : Int32) (σ : mm) : Option ((Int32 × mm) ⊕ (mm)) :=
  if (4 : Int32) ≤ a2 then
  Option.map Sum.inr (lp (fX8_comesBack_79_52_L) ((0 : Int32), σ))
  else
  Option.bind (rdI σ 79 0 82 ((2 : Int32) + a2)) fun x1 =>
  Option.bind (wrI σ 42 0 4 a2 x1) fun σ2 =>
  Option.bind (rdI σ2 79 0 82 ((6 : Int32) + a2)) fun x3 =>
  Option.bind (wrI σ2 43 0 4 a2 x3) fun σ4 =>
  Option.bind (some (a2 + (1 : Int32))) fun x5 =>
  some (.inl (x5, σ4))
noncomputable def fX8_comesBack_79_16_L : Int32 × mm → Option ((Int32 × mm) ⊕ (mm)) := fun z => fX8_comesBack_79_16 z.1 z.2
noncomputable def fX8_comesBack_79_0 (σ : mm) : Option (mm) :=
  Option.bind (rdI σ 79 0 82 (0 : Int32)) fun x1 =>
  Option.bind (some (stI σ 32 0 1 x1)) fun σ2 =>
  Option.bind (rdI σ2 79 0 82 (1 : Int32)) fun x3 =>
  Option.bind (some (stI σ2 32 0 4 x3)) fun σ4 =>
  lp (fX8_comesBack_79_16_L) ((0 : Int32), σ4)
noncomputable def fX8_comesBack_79 (σ : mm) : Option (mm) := fX8_comesBack_79_0 σ
set_option maxRecDepth 20000 in
theorem lX8_comesBack_79_78 (a2 : Int32) (σ τ : mm) {r : Option mv} {M' : mm × mm} {v9 : (Int32 × mm) ⊕ (mm)} (h : fX8_comesBack_79_78 a2 σ = some v9) (hk : (Sum.elim (fun z : Int32 × mm => Vm mX8_comesBack 0 78 [(0, .inr (.inr (32, 0))), (1, .inr (.inr (79, 0))), (2, .inl z.1)] [] (τ, z.2) r M') (fun q : mm => r = none ∧ M' = (τ, q))) v9) : Vm mX8_comesBack 0 78 [(0, .inr (.inr (32, 0))), (1, .inr (.inr (79, 0))), (2, .inl a2)] [] (τ, σ) r M' := by
  unfold fX8_comesBack_79_78 at h
  refine Vm.iload_n (n := 79) 2 dX8_comesBack_78 rfl rfl ?_
  refine Vm.bipush (n := 81) (v := (16 : Int32)) dX8_comesBack_79 rfl (by decide) ?_
  refine Vm.icmp_ge (n := 84) 102 dX8_comesBack_81 rfl rfl (fun c9 => ?_) (fun c9 => ?_)
  · replace h := (if_pos c9).symm.trans h
    obtain rfl := Option.some.inj h
    exact Vm.vret dX8_comesBack_102 rfl hk.1 hk.2.symm
  · replace h := (if_neg c9).symm.trans h
    refine Vm.aload_n (n := 85) 0 dX8_comesBack_84 rfl rfl ?_
    refine Vm.getR (n := 88) dX8_comesBack_85 rfl wf_RX8_26 in_32 rfl (by decide) rfl ?_
    refine Vm.iload_n (n := 89) 2 dX8_comesBack_88 rfl rfl ?_
    refine Vm.aload_n (n := 90) 1 dX8_comesBack_89 rfl rfl ?_
    refine Vm.bipush (n := 92) (v := (66 : Int32)) dX8_comesBack_90 rfl (by decide) ?_
    refine Vm.iload_n (n := 93) 2 dX8_comesBack_92 rfl rfl ?_
    refine Vm.iadd (n := 94) dX8_comesBack_93 rfl ?_
    replace h := Option.bind_eq_some_iff.mp h
    obtain ⟨x1, h1, h⟩ := h
    refine Vm.ialdm (n := 95) dX8_comesBack_94 rfl in_79 rfl rfl (by decide) h1 ?_
    replace h := Option.bind_eq_some_iff.mp h
    obtain ⟨σ2, h2, h⟩ := h
    refine Vm.iastm (n := 96) dX8_comesBack_95 rfl in_46 rfl rfl (by decide) h2 ?_
    replace h := Option.bind_eq_some_iff.mp h
    obtain ⟨x3, e3, h⟩ := h
    replace e3 := Option.some.inj e3
    refine Vm.iinc (n := 99) (v := x3) (lv' := [(2, .inl x3), (0, .inr (.inr (32, 0))), (1, .inr (.inr (79, 0)))]) 2 dX8_comesBack_96 rfl rfl e3 (Nat.le_of_ble_eq_true rfl) rfl ?_
    refine Vm.goto 78 dX8_comesBack_99 rfl ?_
    refine Vm.sub (lv' := [(0, .inr (.inr (32, 0))), (1, .inr (.inr (79, 0))), (2, .inl x3)]) [1, 2, 0] rfl ?_
    obtain rfl := Option.some.inj h
    exact hk
theorem lX8_comesBack_79_78_L (τ : mm) {r : Option mv} {M' : mm × mm} (z : Int32 × mm) (w9 : mm) (h : lp (fX8_comesBack_79_78_L) z = some w9) (hk : (fun q : mm => r = none ∧ M' = (τ, q)) w9) : Vm mX8_comesBack 0 78 [(0, .inr (.inr (32, 0))), (1, .inr (.inr (79, 0))), (2, .inl z.1)] [] (τ, z.2) r M' :=
  lp_link (S := Int32 × mm) (R := mm) (body := fX8_comesBack_79_78_L) (A := fun z : Int32 × mm => Vm mX8_comesBack 0 78 [(0, .inr (.inr (32, 0))), (1, .inr (.inr (79, 0))), (2, .inl z.1)] [] (τ, z.2) r M') (B := fun w : mm => (fun q : mm => r = none ∧ M' = (τ, q)) w) (fun z v hb hv => lX8_comesBack_79_78 z.1 z.2 τ hb hv) z w9 h hk
set_option maxRecDepth 20000 in
theorem lX8_comesBack_79_52 (a2 : Int32) (σ τ : mm) {r : Option mv} {M' : mm × mm} {v9 : (Int32 × mm) ⊕ (mm)} (h : fX8_comesBack_79_52 a2 σ = some v9) (hk : (Sum.elim (fun z : Int32 × mm => Vm mX8_comesBack 0 52 [(0, .inr (.inr (32, 0))), (1, .inr (.inr (79, 0))), (2, .inl z.1)] [] (τ, z.2) r M') (fun q : mm => r = none ∧ M' = (τ, q))) v9) : Vm mX8_comesBack 0 52 [(0, .inr (.inr (32, 0))), (1, .inr (.inr (79, 0))), (2, .inl a2)] [] (τ, σ) r M' := by
  unfold fX8_comesBack_79_52 at h
  refine Vm.iload_n (n := 53) 2 dX8_comesBack_52 rfl rfl ?_
  refine Vm.bipush (n := 55) (v := (56 : Int32)) dX8_comesBack_53 rfl (by decide) ?_
  refine Vm.icmp_ge (n := 58) 76 dX8_comesBack_55 rfl rfl (fun c9 => ?_) (fun c9 => ?_)
  · replace h := (if_pos c9).symm.trans h
    refine Vm.iconst (n := 77) (v := (0 : Int32)) dX8_comesBack_76 rfl (by decide) ?_
    refine Vm.istore_n (n := 78) (lv' := [(2, .inl (0 : Int32)), (0, .inr (.inr (32, 0))), (1, .inr (.inr (79, 0)))]) dX8_comesBack_77 rfl (Nat.le_of_ble_eq_true rfl) rfl ?_
    refine Vm.sub (lv' := [(0, .inr (.inr (32, 0))), (1, .inr (.inr (79, 0))), (2, .inl (0 : Int32))]) [1, 2, 0] rfl ?_
    replace h := Option.map_eq_some_iff.mp h
    obtain ⟨w9, h, e8⟩ := h
    subst e8
    exact lX8_comesBack_79_78_L τ ((0 : Int32), σ) _ h hk
  · replace h := (if_neg c9).symm.trans h
    refine Vm.aload_n (n := 59) 0 dX8_comesBack_58 rfl rfl ?_
    refine Vm.getR (n := 62) dX8_comesBack_59 rfl wf_RX8_23 in_32 rfl (by decide) rfl ?_
    refine Vm.iload_n (n := 63) 2 dX8_comesBack_62 rfl rfl ?_
    refine Vm.aload_n (n := 64) 1 dX8_comesBack_63 rfl rfl ?_
    refine Vm.bipush (n := 66) (v := (10 : Int32)) dX8_comesBack_64 rfl (by decide) ?_
    refine Vm.iload_n (n := 67) 2 dX8_comesBack_66 rfl rfl ?_
    refine Vm.iadd (n := 68) dX8_comesBack_67 rfl ?_
    replace h := Option.bind_eq_some_iff.mp h
    obtain ⟨x1, h1, h⟩ := h
    refine Vm.ialdm (n := 69) dX8_comesBack_68 rfl in_79 rfl rfl (by decide) h1 ?_
    replace h := Option.bind_eq_some_iff.mp h
    obtain ⟨σ2, h2, h⟩ := h
    refine Vm.iastm (n := 70) dX8_comesBack_69 rfl in_45 rfl rfl (by decide) h2 ?_
    replace h := Option.bind_eq_some_iff.mp h
    obtain ⟨x3, e3, h⟩ := h
    replace e3 := Option.some.inj e3
    refine Vm.iinc (n := 73) (v := x3) (lv' := [(2, .inl x3), (0, .inr (.inr (32, 0))), (1, .inr (.inr (79, 0)))]) 2 dX8_comesBack_70 rfl rfl e3 (Nat.le_of_ble_eq_true rfl) rfl ?_
    refine Vm.goto 52 dX8_comesBack_73 rfl ?_
    refine Vm.sub (lv' := [(0, .inr (.inr (32, 0))), (1, .inr (.inr (79, 0))), (2, .inl x3)]) [1, 2, 0] rfl ?_
    obtain rfl := Option.some.inj h
    exact hk
theorem lX8_comesBack_79_52_L (τ : mm) {r : Option mv} {M' : mm × mm} (z : Int32 × mm) (w9 : mm) (h : lp (fX8_comesBack_79_52_L) z = some w9) (hk : (fun q : mm => r = none ∧ M' = (τ, q)) w9) : Vm mX8_comesBack 0 52 [(0, .inr (.inr (32, 0))), (1, .inr (.inr (79, 0))), (2, .inl z.1)] [] (τ, z.2) r M' :=
  lp_link (S := Int32 × mm) (R := mm) (body := fX8_comesBack_79_52_L) (A := fun z : Int32 × mm => Vm mX8_comesBack 0 52 [(0, .inr (.inr (32, 0))), (1, .inr (.inr (79, 0))), (2, .inl z.1)] [] (τ, z.2) r M') (B := fun w : mm => (fun q : mm => r = none ∧ M' = (τ, q)) w) (fun z v hb hv => lX8_comesBack_79_52 z.1 z.2 τ hb hv) z w9 h hk
set_option maxRecDepth 20000 in
theorem lX8_comesBack_79_16 (a2 : Int32) (σ τ : mm) {r : Option mv} {M' : mm × mm} {v9 : (Int32 × mm) ⊕ (mm)} (h : fX8_comesBack_79_16 a2 σ = some v9) (hk : (Sum.elim (fun z : Int32 × mm => Vm mX8_comesBack 0 16 [(0, .inr (.inr (32, 0))), (1, .inr (.inr (79, 0))), (2, .inl z.1)] [] (τ, z.2) r M') (fun q : mm => r = none ∧ M' = (τ, q))) v9) : Vm mX8_comesBack 0 16 [(0, .inr (.inr (32, 0))), (1, .inr (.inr (79, 0))), (2, .inl a2)] [] (τ, σ) r M' := by
  unfold fX8_comesBack_79_16 at h
  refine Vm.iload_n (n := 17) 2 dX8_comesBack_16 rfl rfl ?_
  refine Vm.iconst (n := 18) (v := (4 : Int32)) dX8_comesBack_17 rfl (by decide) ?_
  refine Vm.icmp_ge (n := 21) 50 dX8_comesBack_18 rfl rfl (fun c9 => ?_) (fun c9 => ?_)
  · replace h := (if_pos c9).symm.trans h
    refine Vm.iconst (n := 51) (v := (0 : Int32)) dX8_comesBack_50 rfl (by decide) ?_
    refine Vm.istore_n (n := 52) (lv' := [(2, .inl (0 : Int32)), (0, .inr (.inr (32, 0))), (1, .inr (.inr (79, 0)))]) dX8_comesBack_51 rfl (Nat.le_of_ble_eq_true rfl) rfl ?_
    refine Vm.sub (lv' := [(0, .inr (.inr (32, 0))), (1, .inr (.inr (79, 0))), (2, .inl (0 : Int32))]) [1, 2, 0] rfl ?_
    replace h := Option.map_eq_some_iff.mp h
    obtain ⟨w9, h, e8⟩ := h
    subst e8
    exact lX8_comesBack_79_52_L τ ((0 : Int32), σ) _ h hk
  · replace h := (if_neg c9).symm.trans h
    refine Vm.aload_n (n := 22) 0 dX8_comesBack_21 rfl rfl ?_
    refine Vm.getR (n := 25) dX8_comesBack_22 rfl wf_RX8_17 in_32 rfl (by decide) rfl ?_
    refine Vm.iload_n (n := 26) 2 dX8_comesBack_25 rfl rfl ?_
    refine Vm.aload_n (n := 27) 1 dX8_comesBack_26 rfl rfl ?_
    refine Vm.iconst (n := 28) (v := (2 : Int32)) dX8_comesBack_27 rfl (by decide) ?_
    refine Vm.iload_n (n := 29) 2 dX8_comesBack_28 rfl rfl ?_
    refine Vm.iadd (n := 30) dX8_comesBack_29 rfl ?_
    replace h := Option.bind_eq_some_iff.mp h
    obtain ⟨x1, h1, h⟩ := h
    refine Vm.ialdm (n := 31) dX8_comesBack_30 rfl in_79 rfl rfl (by decide) h1 ?_
    replace h := Option.bind_eq_some_iff.mp h
    obtain ⟨σ2, h2, h⟩ := h
    refine Vm.iastm (n := 32) dX8_comesBack_31 rfl in_42 rfl rfl (by decide) h2 ?_
    refine Vm.aload_n (n := 33) 0 dX8_comesBack_32 rfl rfl ?_
    refine Vm.getR (n := 36) dX8_comesBack_33 rfl wf_RX8_20 in_32 rfl (by decide) rfl ?_
    refine Vm.iload_n (n := 37) 2 dX8_comesBack_36 rfl rfl ?_
    refine Vm.aload_n (n := 38) 1 dX8_comesBack_37 rfl rfl ?_
    refine Vm.bipush (n := 40) (v := (6 : Int32)) dX8_comesBack_38 rfl (by decide) ?_
    refine Vm.iload_n (n := 41) 2 dX8_comesBack_40 rfl rfl ?_
    refine Vm.iadd (n := 42) dX8_comesBack_41 rfl ?_
    replace h := Option.bind_eq_some_iff.mp h
    obtain ⟨x3, h3, h⟩ := h
    refine Vm.ialdm (n := 43) dX8_comesBack_42 rfl in_79 rfl rfl (by decide) h3 ?_
    replace h := Option.bind_eq_some_iff.mp h
    obtain ⟨σ4, h4, h⟩ := h
    refine Vm.iastm (n := 44) dX8_comesBack_43 rfl in_43 rfl rfl (by decide) h4 ?_
    replace h := Option.bind_eq_some_iff.mp h
    obtain ⟨x5, e5, h⟩ := h
    replace e5 := Option.some.inj e5
    refine Vm.iinc (n := 47) (v := x5) (lv' := [(2, .inl x5), (0, .inr (.inr (32, 0))), (1, .inr (.inr (79, 0)))]) 2 dX8_comesBack_44 rfl rfl e5 (Nat.le_of_ble_eq_true rfl) rfl ?_
    refine Vm.goto 16 dX8_comesBack_47 rfl ?_
    refine Vm.sub (lv' := [(0, .inr (.inr (32, 0))), (1, .inr (.inr (79, 0))), (2, .inl x5)]) [1, 2, 0] rfl ?_
    obtain rfl := Option.some.inj h
    exact hk
theorem lX8_comesBack_79_16_L (τ : mm) {r : Option mv} {M' : mm × mm} (z : Int32 × mm) (w9 : mm) (h : lp (fX8_comesBack_79_16_L) z = some w9) (hk : (fun q : mm => r = none ∧ M' = (τ, q)) w9) : Vm mX8_comesBack 0 16 [(0, .inr (.inr (32, 0))), (1, .inr (.inr (79, 0))), (2, .inl z.1)] [] (τ, z.2) r M' :=
  lp_link (S := Int32 × mm) (R := mm) (body := fX8_comesBack_79_16_L) (A := fun z : Int32 × mm => Vm mX8_comesBack 0 16 [(0, .inr (.inr (32, 0))), (1, .inr (.inr (79, 0))), (2, .inl z.1)] [] (τ, z.2) r M') (B := fun w : mm => (fun q : mm => r = none ∧ M' = (τ, q)) w) (fun z v hb hv => lX8_comesBack_79_16 z.1 z.2 τ hb hv) z w9 h hk
set_option maxRecDepth 20000 in
theorem lX8_comesBack_79_0 (σ τ : mm) {r : Option mv} {M' : mm × mm} {v9 : mm} (h : fX8_comesBack_79_0 σ = some v9) (hk : (fun q : mm => r = none ∧ M' = (τ, q)) v9) : Vm mX8_comesBack 0 0 [(0, .inr (.inr (32, 0))), (1, .inr (.inr (79, 0)))] [] (τ, σ) r M' := by
  unfold fX8_comesBack_79_0 at h
  refine Vm.aload_n (n := 1) 0 dX8_comesBack_0 rfl rfl ?_
  refine Vm.aload_n (n := 2) 1 dX8_comesBack_1 rfl rfl ?_
  refine Vm.iconst (n := 3) (v := (0 : Int32)) dX8_comesBack_2 rfl (by decide) ?_
  replace h := Option.bind_eq_some_iff.mp h
  obtain ⟨x1, h1, h⟩ := h
  refine Vm.ialdm (n := 4) dX8_comesBack_3 rfl in_79 rfl rfl (by decide) h1 ?_
  refine Vm.pM (n := 7) (ty := .int) dX8_comesBack_4 rfl wf_RX8_13 in_32 rfl (by decide) rfl (by decide) rfl rfl rfl rfl ?_
  replace h := Option.bind_eq_some_iff.mp h
  obtain ⟨σ2, e2, h⟩ := h
  replace e2 := Option.some.inj e2
  refine Vm.mem (congrArg (fun z => (τ, z)) e2) ?_
  refine Vm.aload_n (n := 8) 0 dX8_comesBack_7 rfl rfl ?_
  refine Vm.aload_n (n := 9) 1 dX8_comesBack_8 rfl rfl ?_
  refine Vm.iconst (n := 10) (v := (1 : Int32)) dX8_comesBack_9 rfl (by decide) ?_
  replace h := Option.bind_eq_some_iff.mp h
  obtain ⟨x3, h3, h⟩ := h
  refine Vm.ialdm (n := 11) dX8_comesBack_10 rfl in_79 rfl rfl (by decide) h3 ?_
  refine Vm.pM (n := 14) (ty := .int) dX8_comesBack_11 rfl wf_RX8_97 in_32 rfl (by decide) rfl (by decide) rfl rfl rfl rfl ?_
  replace h := Option.bind_eq_some_iff.mp h
  obtain ⟨σ4, e4, h⟩ := h
  replace e4 := Option.some.inj e4
  refine Vm.mem (congrArg (fun z => (τ, z)) e4) ?_
  refine Vm.iconst (n := 15) (v := (0 : Int32)) dX8_comesBack_14 rfl (by decide) ?_
  refine Vm.istore_n (n := 16) (lv' := [(2, .inl (0 : Int32)), (0, .inr (.inr (32, 0))), (1, .inr (.inr (79, 0)))]) dX8_comesBack_15 rfl (Nat.le_of_ble_eq_true rfl) rfl ?_
  refine Vm.sub (lv' := [(0, .inr (.inr (32, 0))), (1, .inr (.inr (79, 0))), (2, .inl (0 : Int32))]) [1, 2, 0] rfl ?_
  exact lX8_comesBack_79_16_L τ ((0 : Int32), σ4) _ h hk
theorem kX8_comesBack_79 (σ τ : mm) {q : mm} (h : fX8_comesBack_79 σ = some q) : Cx mX8_comesBack 0 [.inr (.inr (32, 0)), .inr (.inr (79, 0))] (τ, σ) (none) (τ, q) :=
  Cx.of (lv := [(0, .inr (.inr (32, 0))), (1, .inr (.inr (79, 0)))]) (by decide) (fun ad => Nat.le_of_ble_eq_true rfl) (fun ad => rfl) (lX8_comesBack_79_0 σ τ h ⟨rfl, rfl⟩)
-- ThinBodiesModel undo ()I
noncomputable def fX8_undo_0 (σ : mm) : Option (Int32 × mm) :=
  if (σ.1 32 0 41) = (0 : Int32) then
  Option.bind (fX8_finds (-1000000004 : Int32) σ) fun q2 =>
  some ((q2.1, q2.2))
  else
  Option.bind (fX8_comesBack_79 σ) fun q1 =>
  some ((q1.1 32 0 4, q1))
noncomputable def fX8_undo (σ : mm) : Option (Int32 × mm) := fX8_undo_0 σ
set_option maxRecDepth 20000 in
theorem lX8_undo_0 (σ τ : mm) {r : Option mv} {M' : mm × mm} {v9 : Int32 × mm} (h : fX8_undo_0 σ = some v9) (hk : (fun q : Int32 × mm => r = some (.inl q.1) ∧ M' = (τ, q.2)) v9) : Vm mX8_undo 1 0 [(0, .inr (.inr (32, 0)))] [] (τ, σ) r M' := by
  unfold fX8_undo_0 at h
  refine Vm.aload_n (n := 1) 0 dX8_undo_0 rfl rfl ?_
  refine Vm.gM (n := 4) dX8_undo_1 rfl wf_RX8_374 in_32 rfl (by decide) rfl (by decide) ?_
  refine Vm.if_ne (n := 7) 14 dX8_undo_4 rfl rfl (fun c9 => ?_) (fun c9 => ?_)
  · replace h := (if_neg c9).symm.trans h
    refine Vm.aload_n (n := 15) 0 dX8_undo_14 rfl rfl ?_
    refine Vm.aload_n (n := 16) 0 dX8_undo_15 rfl rfl ?_
    refine Vm.getR (n := 19) dX8_undo_16 rfl wf_RX8_83 in_32 rfl (by decide) rfl ?_
    replace h := Option.bind_eq_some_iff.mp h
    obtain ⟨q1, h1, h⟩ := h
    refine Vm.callVv (Y := mX8_comesBack) (n := 22) [.inr (.inr (79, 0))] dX8_undo_19 rfl wv_RX8_367 omX8_comesBack rfl in_32 rfl rfl rfl (Nat.le_of_ble_eq_true rfl) (by decide) (kX8_comesBack_79 σ τ h1) ?_
    refine Vm.aload_n (n := 23) 0 dX8_undo_22 rfl rfl ?_
    refine Vm.gM (n := 26) dX8_undo_23 rfl wf_RX8_97 in_32 rfl (by decide) rfl (by decide) ?_
    obtain rfl := Option.some.inj h
    exact Vm.iret dX8_undo_26 rfl hk.1 hk.2.symm
  · replace h := (if_pos c9).symm.trans h
    refine Vm.aload_n (n := 8) 0 dX8_undo_7 rfl rfl ?_
    refine Vm.ldc (n := 10) dX8_undo_8 rfl wc_RX8_167 ?_
    replace h := Option.bind_eq_some_iff.mp h
    obtain ⟨q2, h2, h⟩ := h
    refine Vm.callV (Y := mX8_finds) (n := 13) [.inl (-1000000004 : Int32)] dX8_undo_10 rfl wv_RX8_102 omX8_finds rfl in_32 rfl rfl rfl (Nat.le_of_ble_eq_true rfl) (by decide) (kX8_finds (-1000000004 : Int32) σ τ h2) ?_
    obtain rfl := Option.some.inj h
    exact Vm.iret dX8_undo_13 rfl hk.1 hk.2.symm
theorem kX8_undo (σ τ : mm) {q : Int32 × mm} (h : fX8_undo σ = some q) : Cx mX8_undo 1 [.inr (.inr (32, 0))] (τ, σ) (some (.inl q.1)) (τ, q.2) :=
  Cx.of (lv := [(0, .inr (.inr (32, 0)))]) (by decide) (fun ad => Nat.le_of_ble_eq_true rfl) (fun ad => rfl) (lX8_undo_0 σ τ h ⟨rfl, rfl⟩)
-- ThinBodiesModel tear ()I
def fX8_tear_12 (s0 : Int32) (σ : mm) : Int32 × mm :=
  (s0, (stI σ 32 0 41 (0 : Int32)))
def fX8_tear_0 (σ : mm) : Int32 × mm :=
  if (σ.1 32 0 41) = (0 : Int32) then
  fX8_tear_12 (0 : Int32) σ
  else
  fX8_tear_12 (1 : Int32) σ
def fX8_tear (σ : mm) : Int32 × mm := fX8_tear_0 σ
set_option maxRecDepth 20000 in
theorem lX8_tear_12 (s0 : Int32) (σ τ : mm) {r : Option mv} {M' : mm × mm} {v9 : Int32 × mm} (h : fX8_tear_12 s0 σ = v9) (hk : (fun q : Int32 × mm => r = some (.inl q.1) ∧ M' = (τ, q.2)) v9) : Vm mX8_tear 0 12 [(0, .inr (.inr (32, 0)))] [.inl s0] (τ, σ) r M' := by
  unfold fX8_tear_12 at h
  refine Vm.istore_n (n := 13) (lv' := [(1, .inl s0), (0, .inr (.inr (32, 0)))]) dX8_tear_12 rfl (Nat.le_of_ble_eq_true rfl) rfl ?_
  refine Vm.aload_n (n := 14) 1 dX8_tear_13 rfl rfl ?_
  refine Vm.iconst (n := 15) (v := (0 : Int32)) dX8_tear_14 rfl (by decide) ?_
  refine Vm.pM (n := 18) (ty := .boolean) dX8_tear_15 rfl wf_RX8_374 in_32 rfl (by decide) rfl (by decide) rfl rfl rfl rfl ?_
  refine Vm.iload_n (n := 19) 0 dX8_tear_18 rfl rfl ?_
  subst h
  exact Vm.iret dX8_tear_19 rfl hk.1 hk.2.symm
set_option maxRecDepth 20000 in
theorem lX8_tear_0 (σ τ : mm) {r : Option mv} {M' : mm × mm} {v9 : Int32 × mm} (h : fX8_tear_0 σ = v9) (hk : (fun q : Int32 × mm => r = some (.inl q.1) ∧ M' = (τ, q.2)) v9) : Vm mX8_tear 0 0 [(0, .inr (.inr (32, 0)))] [] (τ, σ) r M' := by
  unfold fX8_tear_0 at h
  refine Vm.aload_n (n := 1) 0 dX8_tear_0 rfl rfl ?_
  refine Vm.gM (n := 4) dX8_tear_1 rfl wf_RX8_374 in_32 rfl (by decide) rfl (by decide) ?_
  refine Vm.if_eq (n := 7) 11 dX8_tear_4 rfl rfl (fun c9 => ?_) (fun c9 => ?_)
  · replace h := (if_pos c9).symm.trans h
    refine Vm.iconst (n := 12) (v := (0 : Int32)) dX8_tear_11 rfl (by decide) ?_
    exact lX8_tear_12 (0 : Int32) σ τ h hk
  · replace h := (if_neg c9).symm.trans h
    refine Vm.iconst (n := 8) (v := (1 : Int32)) dX8_tear_7 rfl (by decide) ?_
    refine Vm.goto 12 dX8_tear_8 rfl ?_
    exact lX8_tear_12 (1 : Int32) σ τ h hk
theorem kX8_tear (σ τ : mm) {q : Int32 × mm} (h : fX8_tear σ = q) : Cx mX8_tear 0 [.inr (.inr (32, 0))] (τ, σ) (some (.inl q.1)) (τ, q.2) :=
  Cx.of (lv := [(0, .inr (.inr (32, 0)))]) (by decide) (fun ad => Nat.le_of_ble_eq_true rfl) (fun ad => rfl) (lX8_tear_0 σ τ h ⟨rfl, rfl⟩)
-- ThinBodiesModel count (I)I
noncomputable def fX8_count_0 (a1 : Int32) (σ : mm) : Option (Int32 × mm) :=
  if a1.toInt = (0 : Int) then
  some ((σ.1 32 0 1, σ))
  else if a1.toInt = (1 : Int) then
  some ((σ.1 32 0 4, σ))
  else if a1.toInt = (2 : Int) then
  Option.bind (fX8_points σ) fun q1 =>
  some ((q1, σ))
  else if a1.toInt = (3 : Int) then
  some ((σ.1 32 0 28, σ))
  else 
  Option.bind (fX8_finds (-1000000001 : Int32) σ) fun q2 =>
  some ((q2.1, q2.2))
noncomputable def fX8_count (a1 : Int32) (σ : mm) : Option (Int32 × mm) := fX8_count_0 a1 σ
set_option maxRecDepth 20000 in
theorem lX8_count_0 (a1 : Int32) (σ τ : mm) {r : Option mv} {M' : mm × mm} {v9 : Int32 × mm} (h : fX8_count_0 a1 σ = some v9) (hk : (fun q : Int32 × mm => r = some (.inl q.1) ∧ M' = (τ, q.2)) v9) : Vm mX8_count 1 0 [(0, .inr (.inr (32, 0))), (1, .inl a1)] [] (τ, σ) r M' := by
  unfold fX8_count_0 at h
  refine Vm.iload_n (n := 1) 1 dX8_count_0 rfl rfl ?_
  by_cases c50 : a1.toInt = (0 : Int)
  · replace h := (if_pos c50).symm.trans h
    refine Vm.tswI (0) 32 dX8_count_1 c50 (by decide) rfl rfl ?_
    refine Vm.aload_n (n := 33) 0 dX8_count_32 rfl rfl ?_
    refine Vm.gM (n := 36) dX8_count_33 rfl wf_RX8_13 in_32 rfl (by decide) rfl (by decide) ?_
    obtain rfl := Option.some.inj h
    exact Vm.iret dX8_count_36 rfl hk.1 hk.2.symm
  · replace h := (if_neg c50).symm.trans h
    by_cases c51 : a1.toInt = (1 : Int)
    · replace h := (if_pos c51).symm.trans h
      refine Vm.tswI (1) 37 dX8_count_1 c51 (by decide) rfl rfl ?_
      refine Vm.aload_n (n := 38) 0 dX8_count_37 rfl rfl ?_
      refine Vm.gM (n := 41) dX8_count_38 rfl wf_RX8_97 in_32 rfl (by decide) rfl (by decide) ?_
      obtain rfl := Option.some.inj h
      exact Vm.iret dX8_count_41 rfl hk.1 hk.2.symm
    · replace h := (if_neg c51).symm.trans h
      by_cases c52 : a1.toInt = (2 : Int)
      · replace h := (if_pos c52).symm.trans h
        refine Vm.tswI (2) 42 dX8_count_1 c52 (by decide) rfl rfl ?_
        refine Vm.aload_n (n := 43) 0 dX8_count_42 rfl rfl ?_
        replace h := Option.bind_eq_some_iff.mp h
        obtain ⟨q1, h1, h⟩ := h
        refine Vm.callV (Y := mX8_points) (n := 46) [] dX8_count_43 rfl wv_RX8_111 omX8_points rfl in_32 rfl rfl rfl (Nat.le_of_ble_eq_true rfl) (by decide) (kX8_points σ τ h1) ?_
        obtain rfl := Option.some.inj h
        exact Vm.iret dX8_count_46 rfl hk.1 hk.2.symm
      · replace h := (if_neg c52).symm.trans h
        by_cases c53 : a1.toInt = (3 : Int)
        · replace h := (if_pos c53).symm.trans h
          refine Vm.tswI (3) 47 dX8_count_1 c53 (by decide) rfl rfl ?_
          refine Vm.aload_n (n := 48) 0 dX8_count_47 rfl rfl ?_
          refine Vm.gM (n := 51) dX8_count_48 rfl wf_RX8_301 in_32 rfl (by decide) rfl (by decide) ?_
          obtain rfl := Option.some.inj h
          exact Vm.iret dX8_count_51 rfl hk.1 hk.2.symm
        · replace h := (if_neg c53).symm.trans h
          refine Vm.tswO 52 dX8_count_1 (by omega) rfl ?_
          refine Vm.aload_n (n := 53) 0 dX8_count_52 rfl rfl ?_
          refine Vm.ldc (n := 55) dX8_count_53 rfl wc_RX8_92 ?_
          replace h := Option.bind_eq_some_iff.mp h
          obtain ⟨q2, h2, h⟩ := h
          refine Vm.callV (Y := mX8_finds) (n := 58) [.inl (-1000000001 : Int32)] dX8_count_55 rfl wv_RX8_102 omX8_finds rfl in_32 rfl rfl rfl (Nat.le_of_ble_eq_true rfl) (by decide) (kX8_finds (-1000000001 : Int32) σ τ h2) ?_
          obtain rfl := Option.some.inj h
          exact Vm.iret dX8_count_58 rfl hk.1 hk.2.symm
theorem kX8_count (a1 : Int32) (σ τ : mm) {q : Int32 × mm} (h : fX8_count a1 σ = some q) : Cx mX8_count 1 [.inr (.inr (32, 0)), .inl a1] (τ, σ) (some (.inl q.1)) (τ, q.2) :=
  Cx.of (lv := [(0, .inr (.inr (32, 0))), (1, .inl a1)]) (by decide) (fun ad => Nat.le_of_ble_eq_true rfl) (fun ad => rfl) (lX8_count_0 a1 σ τ h ⟨rfl, rfl⟩)
-- ThinBodiesModel status (I)I
noncomputable def fX8_status_51 (a1 : Int32) (a3 : Int32) (s0 : Int32) (s1 : Int32) (σ : mm) : Option ((Int32 × Int32) ⊕ (Int32 × mm)) :=
  Option.bind (some (s0 + s1)) fun x1 =>
  Option.bind (some (a3 + (1 : Int32))) fun x2 =>
  some (.inl (x1, x2))
noncomputable def fX8_status_41 (a1 : Int32) (a3 : Int32) (s0 : Int32) (σ : mm) : Option ((Int32 × Int32) ⊕ (Int32 × mm)) :=
  Option.bind (rdI σ 40 0 7 a3) fun x1 =>
  fX8_status_51 a1 a3 s0 x1 σ
noncomputable def fX8_status_25 (a1 : Int32) (a2 : Int32) (a3 : Int32) (σ : mm) : Option ((Int32 × Int32) ⊕ (Int32 × mm)) :=
  if (7 : Int32) ≤ a3 then
  some (.inr ((a2, σ)))
  else
  if a1 < (0 : Int32) then
  fX8_status_41 a1 a3 a2 σ
  else
  if a1 = a3 then
  fX8_status_41 a1 a3 a2 σ
  else
  fX8_status_51 a1 a3 a2 (0 : Int32) σ
noncomputable def fX8_status_25_L (a1 : Int32) (σ : mm) : Int32 × Int32 → Option ((Int32 × Int32) ⊕ (Int32 × mm)) := fun z => fX8_status_25 a1 z.1 z.2 σ
noncomputable def fX8_status_0 (a1 : Int32) (σ : mm) : Option (Int32 × mm) :=
  if (bi (fX8_in a1.toInt64 (-1 : Int64) (6 : Int64))) = (0 : Int32) then
  Option.bind (fX8_finds (-1000000001 : Int32) σ) fun q1 =>
  some ((q1.1, q1.2))
  else
  lp (fX8_status_25_L a1 σ) ((0 : Int32), (0 : Int32))
noncomputable def fX8_status (a1 : Int32) (σ : mm) : Option (Int32 × mm) := fX8_status_0 a1 σ
set_option maxRecDepth 20000 in
theorem lX8_status_51 (a1 : Int32) (a3 : Int32) (s0 : Int32) (s1 : Int32) (σ τ : mm) {r : Option mv} {M' : mm × mm} {v9 : (Int32 × Int32) ⊕ (Int32 × mm)} (h : fX8_status_51 a1 a3 s0 s1 σ = some v9) (hk : (Sum.elim (fun z : Int32 × Int32 => Vm mX8_status 1 25 [(0, .inr (.inr (32, 0))), (1, .inl a1), (2, .inl z.1), (3, .inl z.2)] [] (τ, σ) r M') (fun q : Int32 × mm => r = some (.inl q.1) ∧ M' = (τ, q.2))) v9) : Vm mX8_status 1 51 [(0, .inr (.inr (32, 0))), (1, .inl a1), (3, .inl a3)] [.inl s1, .inl s0] (τ, σ) r M' := by
  unfold fX8_status_51 at h
  refine Vm.iadd (n := 52) dX8_status_51 rfl ?_
  replace h := Option.bind_eq_some_iff.mp h
  obtain ⟨x1, e1, h⟩ := h
  replace e1 := Option.some.inj e1
  refine Vm.top e1 ?_
  refine Vm.istore_n (n := 53) (lv' := [(2, .inl x1), (0, .inr (.inr (32, 0))), (1, .inl a1), (3, .inl a3)]) dX8_status_52 rfl (Nat.le_of_ble_eq_true rfl) rfl ?_
  replace h := Option.bind_eq_some_iff.mp h
  obtain ⟨x2, e2, h⟩ := h
  replace e2 := Option.some.inj e2
  refine Vm.iinc (n := 56) (v := x2) (lv' := [(3, .inl x2), (2, .inl x1), (0, .inr (.inr (32, 0))), (1, .inl a1)]) 3 dX8_status_53 rfl rfl e2 (Nat.le_of_ble_eq_true rfl) rfl ?_
  refine Vm.goto 25 dX8_status_56 rfl ?_
  refine Vm.sub (lv' := [(0, .inr (.inr (32, 0))), (1, .inl a1), (2, .inl x1), (3, .inl x2)]) [2, 3, 1, 0] rfl ?_
  obtain rfl := Option.some.inj h
  exact hk
set_option maxRecDepth 20000 in
theorem lX8_status_41 (a1 : Int32) (a3 : Int32) (s0 : Int32) (σ τ : mm) {r : Option mv} {M' : mm × mm} {v9 : (Int32 × Int32) ⊕ (Int32 × mm)} (h : fX8_status_41 a1 a3 s0 σ = some v9) (hk : (Sum.elim (fun z : Int32 × Int32 => Vm mX8_status 1 25 [(0, .inr (.inr (32, 0))), (1, .inl a1), (2, .inl z.1), (3, .inl z.2)] [] (τ, σ) r M') (fun q : Int32 × mm => r = some (.inl q.1) ∧ M' = (τ, q.2))) v9) : Vm mX8_status 1 41 [(0, .inr (.inr (32, 0))), (1, .inl a1), (3, .inl a3)] [.inl s0] (τ, σ) r M' := by
  unfold fX8_status_41 at h
  refine Vm.aload_n (n := 42) 0 dX8_status_41 rfl rfl ?_
  refine Vm.getR (n := 45) dX8_status_42 rfl wf_RX8_7 in_32 rfl (by decide) rfl ?_
  refine Vm.iload_n (n := 46) 2 dX8_status_45 rfl rfl ?_
  replace h := Option.bind_eq_some_iff.mp h
  obtain ⟨x1, h1, h⟩ := h
  refine Vm.ialdm (n := 47) dX8_status_46 rfl in_40 rfl rfl (by decide) h1 ?_
  refine Vm.goto 51 dX8_status_47 rfl ?_
  exact lX8_status_51 a1 a3 s0 x1 σ τ h hk
set_option maxRecDepth 20000 in
theorem lX8_status_25 (a1 : Int32) (a2 : Int32) (a3 : Int32) (σ τ : mm) {r : Option mv} {M' : mm × mm} {v9 : (Int32 × Int32) ⊕ (Int32 × mm)} (h : fX8_status_25 a1 a2 a3 σ = some v9) (hk : (Sum.elim (fun z : Int32 × Int32 => Vm mX8_status 1 25 [(0, .inr (.inr (32, 0))), (1, .inl a1), (2, .inl z.1), (3, .inl z.2)] [] (τ, σ) r M') (fun q : Int32 × mm => r = some (.inl q.1) ∧ M' = (τ, q.2))) v9) : Vm mX8_status 1 25 [(0, .inr (.inr (32, 0))), (1, .inl a1), (2, .inl a2), (3, .inl a3)] [] (τ, σ) r M' := by
  unfold fX8_status_25 at h
  refine Vm.iload_n (n := 26) 3 dX8_status_25 rfl rfl ?_
  refine Vm.bipush (n := 28) (v := (7 : Int32)) dX8_status_26 rfl (by decide) ?_
  refine Vm.icmp_ge (n := 31) 59 dX8_status_28 rfl rfl (fun c9 => ?_) (fun c9 => ?_)
  · replace h := (if_pos c9).symm.trans h
    refine Vm.iload_n (n := 60) 2 dX8_status_59 rfl rfl ?_
    obtain rfl := Option.some.inj h
    exact Vm.iret dX8_status_60 rfl hk.1 hk.2.symm
  · replace h := (if_neg c9).symm.trans h
    refine Vm.iload_n (n := 32) 2 dX8_status_31 rfl rfl ?_
    refine Vm.iload_n (n := 33) 1 dX8_status_32 rfl rfl ?_
    refine Vm.if_lt (n := 36) 41 dX8_status_33 rfl rfl (fun c9 => ?_) (fun c9 => ?_)
    · replace h := (if_pos c9).symm.trans h
      refine Vm.sub (lv' := [(0, .inr (.inr (32, 0))), (1, .inl a1), (3, .inl a3)]) [0, 1, 3] rfl ?_
      exact lX8_status_41 a1 a3 a2 σ τ h hk
    · replace h := (if_neg c9).symm.trans h
      refine Vm.iload_n (n := 37) 1 dX8_status_36 rfl rfl ?_
      refine Vm.iload_n (n := 38) 3 dX8_status_37 rfl rfl ?_
      refine Vm.icmp_ne (n := 41) 50 dX8_status_38 rfl rfl (fun c9 => ?_) (fun c9 => ?_)
      · replace h := (if_neg c9).symm.trans h
        refine Vm.iconst (n := 51) (v := (0 : Int32)) dX8_status_50 rfl (by decide) ?_
        refine Vm.sub (lv' := [(0, .inr (.inr (32, 0))), (1, .inl a1), (3, .inl a3)]) [0, 1, 3] rfl ?_
        exact lX8_status_51 a1 a3 a2 (0 : Int32) σ τ h hk
      · replace h := (if_pos c9).symm.trans h
        refine Vm.sub (lv' := [(0, .inr (.inr (32, 0))), (1, .inl a1), (3, .inl a3)]) [0, 1, 3] rfl ?_
        exact lX8_status_41 a1 a3 a2 σ τ h hk
theorem lX8_status_25_L (a1 : Int32) (σ τ : mm) {r : Option mv} {M' : mm × mm} (z : Int32 × Int32) (w9 : Int32 × mm) (h : lp (fX8_status_25_L a1 σ) z = some w9) (hk : (fun q : Int32 × mm => r = some (.inl q.1) ∧ M' = (τ, q.2)) w9) : Vm mX8_status 1 25 [(0, .inr (.inr (32, 0))), (1, .inl a1), (2, .inl z.1), (3, .inl z.2)] [] (τ, σ) r M' :=
  lp_link (S := Int32 × Int32) (R := Int32 × mm) (body := fX8_status_25_L a1 σ) (A := fun z : Int32 × Int32 => Vm mX8_status 1 25 [(0, .inr (.inr (32, 0))), (1, .inl a1), (2, .inl z.1), (3, .inl z.2)] [] (τ, σ) r M') (B := fun w : Int32 × mm => (fun q : Int32 × mm => r = some (.inl q.1) ∧ M' = (τ, q.2)) w) (fun z v hb hv => lX8_status_25 a1 z.1 z.2 σ τ hb hv) z w9 h hk
set_option maxRecDepth 20000 in
theorem lX8_status_0 (a1 : Int32) (σ τ : mm) {r : Option mv} {M' : mm × mm} {v9 : Int32 × mm} (h : fX8_status_0 a1 σ = some v9) (hk : (fun q : Int32 × mm => r = some (.inl q.1) ∧ M' = (τ, q.2)) v9) : Vm mX8_status 1 0 [(0, .inr (.inr (32, 0))), (1, .inl a1)] [] (τ, σ) r M' := by
  unfold fX8_status_0 at h
  refine Vm.iload_n (n := 1) 1 dX8_status_0 rfl rfl ?_
  refine Vm.i2l (n := 2) dX8_status_1 rfl ?_
  refine Vm.ldc2 (n := 5) dX8_status_2 rfl wl_RX8_378 ?_
  refine Vm.ldc2 (n := 8) dX8_status_5 rfl wl_RX8_164 ?_
  refine Vm.callS (Y := mX8_in) (n := 11) [.inr (.inl a1.toInt64), .inr (.inl (-1 : Int64)), .inr (.inl (6 : Int64))] dX8_status_8 rfl wv_RX8_93 omX8_in rfl rfl (Nat.le_of_ble_eq_true rfl) (by decide) (kX8_in a1.toInt64 (-1 : Int64) (6 : Int64) rfl) ?_
  refine Vm.if_ne (n := 14) 21 dX8_status_11 rfl rfl (fun c9 => ?_) (fun c9 => ?_)
  · replace h := (if_neg c9).symm.trans h
    refine Vm.iconst (n := 22) (v := (0 : Int32)) dX8_status_21 rfl (by decide) ?_
    refine Vm.istore_n (n := 23) (lv' := [(2, .inl (0 : Int32)), (0, .inr (.inr (32, 0))), (1, .inl a1)]) dX8_status_22 rfl (Nat.le_of_ble_eq_true rfl) rfl ?_
    refine Vm.iconst (n := 24) (v := (0 : Int32)) dX8_status_23 rfl (by decide) ?_
    refine Vm.istore_n (n := 25) (lv' := [(3, .inl (0 : Int32)), (2, .inl (0 : Int32)), (0, .inr (.inr (32, 0))), (1, .inl a1)]) dX8_status_24 rfl (Nat.le_of_ble_eq_true rfl) rfl ?_
    refine Vm.sub (lv' := [(0, .inr (.inr (32, 0))), (1, .inl a1), (2, .inl (0 : Int32)), (3, .inl (0 : Int32))]) [2, 3, 1, 0] rfl ?_
    exact lX8_status_25_L a1 σ τ ((0 : Int32), (0 : Int32)) _ h hk
  · replace h := (if_pos c9).symm.trans h
    refine Vm.aload_n (n := 15) 0 dX8_status_14 rfl rfl ?_
    refine Vm.ldc (n := 17) dX8_status_15 rfl wc_RX8_92 ?_
    replace h := Option.bind_eq_some_iff.mp h
    obtain ⟨q1, h1, h⟩ := h
    refine Vm.callV (Y := mX8_finds) (n := 20) [.inl (-1000000001 : Int32)] dX8_status_17 rfl wv_RX8_102 omX8_finds rfl in_32 rfl rfl rfl (Nat.le_of_ble_eq_true rfl) (by decide) (kX8_finds (-1000000001 : Int32) σ τ h1) ?_
    obtain rfl := Option.some.inj h
    exact Vm.iret dX8_status_20 rfl hk.1 hk.2.symm
theorem kX8_status (a1 : Int32) (σ τ : mm) {q : Int32 × mm} (h : fX8_status a1 σ = some q) : Cx mX8_status 1 [.inr (.inr (32, 0)), .inl a1] (τ, σ) (some (.inl q.1)) (τ, q.2) :=
  Cx.of (lv := [(0, .inr (.inr (32, 0))), (1, .inl a1)]) (by decide) (fun ad => Nat.le_of_ble_eq_true rfl) (fun ad => rfl) (lX8_status_0 a1 σ τ h ⟨rfl, rfl⟩)
