-- ThinBodiesModel best (II)I
noncomputable def fX8_best_28 (σ : mm) : Option (Int32 × mm) :=
  Option.bind (fX8_finds (-1000000001 : Int32) σ) fun q1 =>
  some ((q1.1, q1.2))
noncomputable def fX8_best_0 (a1 : Int32) (a2 : Int32) (σ : mm) : Option (Int32 × mm) :=
  Option.bind (fX8_directions σ) fun q1 =>
  if (bi (fX8_in a1.toInt64 (0 : Int64) ((q1 - (1 : Int32)).toInt64))) = (0 : Int32) then
  fX8_best_28 σ
  else
  if (bi (fX8_in a2.toInt64 (0 : Int64) (2 : Int64))) = (0 : Int32) then
  fX8_best_28 σ
  else
  Option.bind (fX8_looks σ) fun q2 =>
  if (q2.1 32 0 11) = (0 : Int32) then
  Option.bind (fX8_finds (-1000000004 : Int32) q2) fun q4 =>
  some ((q4.1, q4.2))
  else
  Option.bind (fX8_measures a1 q2) fun q3 =>
  if a2 = (0 : Int32) then
  some ((q3.1 32 0 12, q3))
  else
  if a2 = (1 : Int32) then
  some ((q3.1 32 0 13, q3))
  else
  some ((q3.1 32 0 14, q3))
noncomputable def fX8_best (a1 : Int32) (a2 : Int32) (σ : mm) : Option (Int32 × mm) := fX8_best_0 a1 a2 σ
set_option maxRecDepth 20000 in
theorem lX8_best_28 (σ τ : mm) {r : Option mv} {M' : mm × mm} {v9 : Int32 × mm} (h : fX8_best_28 σ = some v9) (hk : (fun q : Int32 × mm => r = some (.inl q.1) ∧ M' = (τ, q.2)) v9) : Vm mX8_best 4 28 [(0, .inr (.inr (32, 0)))] [] (τ, σ) r M' := by
  unfold fX8_best_28 at h
  refine Vm.aload_n (n := 29) 0 dX8_best_28 rfl rfl ?_
  refine Vm.ldc (n := 31) dX8_best_29 rfl wc_RX8_92 ?_
  replace h := Option.bind_eq_some_iff.mp h
  obtain ⟨q1, h1, h⟩ := h
  refine Vm.callV (Y := mX8_finds) (n := 34) [.inl (-1000000001 : Int32)] dX8_best_31 rfl wv_RX8_102 omX8_finds rfl in_32 rfl rfl rfl (Nat.le_of_ble_eq_true rfl) (by decide) (kX8_finds (-1000000001 : Int32) σ τ h1) ?_
  obtain rfl := Option.some.inj h
  exact Vm.iret dX8_best_34 rfl hk.1 hk.2.symm
set_option maxRecDepth 20000 in
theorem lX8_best_0 (a1 : Int32) (a2 : Int32) (σ τ : mm) {r : Option mv} {M' : mm × mm} {v9 : Int32 × mm} (h : fX8_best_0 a1 a2 σ = some v9) (hk : (fun q : Int32 × mm => r = some (.inl q.1) ∧ M' = (τ, q.2)) v9) : Vm mX8_best 4 0 [(0, .inr (.inr (32, 0))), (1, .inl a1), (2, .inl a2)] [] (τ, σ) r M' := by
  unfold fX8_best_0 at h
  refine Vm.iload_n (n := 1) 1 dX8_best_0 rfl rfl ?_
  refine Vm.i2l (n := 2) dX8_best_1 rfl ?_
  refine Vm.lconst (n := 3) (v := (0 : Int64)) dX8_best_2 rfl (by decide) ?_
  refine Vm.aload_n (n := 4) 0 dX8_best_3 rfl rfl ?_
  replace h := Option.bind_eq_some_iff.mp h
  obtain ⟨q1, h1, h⟩ := h
  refine Vm.callV (Y := mX8_directions) (n := 7) [] dX8_best_4 rfl wv_RX8_217 omX8_directions rfl in_32 rfl rfl rfl (Nat.le_of_ble_eq_true rfl) (by decide) (kX8_directions σ τ h1) ?_
  refine Vm.iconst (n := 8) (v := (1 : Int32)) dX8_best_7 rfl (by decide) ?_
  refine Vm.isub (n := 9) dX8_best_8 rfl ?_
  refine Vm.i2l (n := 10) dX8_best_9 rfl ?_
  refine Vm.callS (Y := mX8_in) (n := 13) [.inr (.inl a1.toInt64), .inr (.inl (0 : Int64)), .inr (.inl ((q1 - (1 : Int32)).toInt64))] dX8_best_10 rfl wv_RX8_93 omX8_in rfl rfl (Nat.le_of_ble_eq_true rfl) (by decide) (kX8_in a1.toInt64 (0 : Int64) ((q1 - (1 : Int32)).toInt64) rfl) ?_
  refine Vm.if_eq (n := 16) 28 dX8_best_13 rfl rfl (fun c9 => ?_) (fun c9 => ?_)
  · replace h := (if_pos c9).symm.trans h
    refine Vm.sub (lv' := [(0, .inr (.inr (32, 0)))]) [0] rfl ?_
    exact lX8_best_28 σ τ h hk
  · replace h := (if_neg c9).symm.trans h
    refine Vm.iload_n (n := 17) 2 dX8_best_16 rfl rfl ?_
    refine Vm.i2l (n := 18) dX8_best_17 rfl ?_
    refine Vm.lconst (n := 19) (v := (0 : Int64)) dX8_best_18 rfl (by decide) ?_
    refine Vm.ldc2 (n := 22) dX8_best_19 rfl wl_RX8_220 ?_
    refine Vm.callS (Y := mX8_in) (n := 25) [.inr (.inl a2.toInt64), .inr (.inl (0 : Int64)), .inr (.inl (2 : Int64))] dX8_best_22 rfl wv_RX8_93 omX8_in rfl rfl (Nat.le_of_ble_eq_true rfl) (by decide) (kX8_in a2.toInt64 (0 : Int64) (2 : Int64) rfl) ?_
    refine Vm.if_ne (n := 28) 35 dX8_best_25 rfl rfl (fun c9 => ?_) (fun c9 => ?_)
    · replace h := (if_neg c9).symm.trans h
      refine Vm.aload_n (n := 36) 0 dX8_best_35 rfl rfl ?_
      replace h := Option.bind_eq_some_iff.mp h
      obtain ⟨q2, h2, h⟩ := h
      refine Vm.callVv (Y := mX8_looks) (n := 39) [] dX8_best_36 rfl wv_RX8_189 omX8_looks rfl in_32 rfl rfl rfl (Nat.le_of_ble_eq_true rfl) (by decide) (kX8_looks σ τ h2) ?_
      refine Vm.aload_n (n := 40) 0 dX8_best_39 rfl rfl ?_
      refine Vm.gM (n := 43) dX8_best_40 rfl wf_RX8_176 in_32 rfl (by decide) rfl (by decide) ?_
      refine Vm.if_ne (n := 46) 53 dX8_best_43 rfl rfl (fun c9 => ?_) (fun c9 => ?_)
      · replace h := (if_neg c9).symm.trans h
        refine Vm.aload_n (n := 54) 0 dX8_best_53 rfl rfl ?_
        refine Vm.iload_n (n := 55) 1 dX8_best_54 rfl rfl ?_
        replace h := Option.bind_eq_some_iff.mp h
        obtain ⟨q3, h3, h⟩ := h
        refine Vm.callVv (Y := mX8_measures) (n := 58) [.inl a1] dX8_best_55 rfl wv_RX8_222 omX8_measures rfl in_32 rfl rfl rfl (Nat.le_of_ble_eq_true rfl) (by decide) (kX8_measures a1 q2 τ h3) ?_
        refine Vm.iload_n (n := 59) 2 dX8_best_58 rfl rfl ?_
        refine Vm.if_ne (n := 62) 69 dX8_best_59 rfl rfl (fun c9 => ?_) (fun c9 => ?_)
        · replace h := (if_neg c9).symm.trans h
          refine Vm.iload_n (n := 70) 2 dX8_best_69 rfl rfl ?_
          refine Vm.iconst (n := 71) (v := (1 : Int32)) dX8_best_70 rfl (by decide) ?_
          refine Vm.icmp_ne (n := 74) 81 dX8_best_71 rfl rfl (fun c9 => ?_) (fun c9 => ?_)
          · replace h := (if_neg c9).symm.trans h
            refine Vm.aload_n (n := 82) 0 dX8_best_81 rfl rfl ?_
            refine Vm.gM (n := 85) dX8_best_82 rfl wf_RX8_214 in_32 rfl (by decide) rfl (by decide) ?_
            obtain rfl := Option.some.inj h
            exact Vm.iret dX8_best_85 rfl hk.1 hk.2.symm
          · replace h := (if_pos c9).symm.trans h
            refine Vm.aload_n (n := 75) 0 dX8_best_74 rfl rfl ?_
            refine Vm.gM (n := 78) dX8_best_75 rfl wf_RX8_211 in_32 rfl (by decide) rfl (by decide) ?_
            refine Vm.goto 85 dX8_best_78 rfl ?_
            obtain rfl := Option.some.inj h
            exact Vm.iret dX8_best_85 rfl hk.1 hk.2.symm
        · replace h := (if_pos c9).symm.trans h
          refine Vm.aload_n (n := 63) 0 dX8_best_62 rfl rfl ?_
          refine Vm.gM (n := 66) dX8_best_63 rfl wf_RX8_208 in_32 rfl (by decide) rfl (by decide) ?_
          refine Vm.goto 85 dX8_best_66 rfl ?_
          obtain rfl := Option.some.inj h
          exact Vm.iret dX8_best_85 rfl hk.1 hk.2.symm
      · replace h := (if_pos c9).symm.trans h
        refine Vm.aload_n (n := 47) 0 dX8_best_46 rfl rfl ?_
        refine Vm.ldc (n := 49) dX8_best_47 rfl wc_RX8_167 ?_
        replace h := Option.bind_eq_some_iff.mp h
        obtain ⟨q4, h4, h⟩ := h
        refine Vm.callV (Y := mX8_finds) (n := 52) [.inl (-1000000004 : Int32)] dX8_best_49 rfl wv_RX8_102 omX8_finds rfl in_32 rfl rfl rfl (Nat.le_of_ble_eq_true rfl) (by decide) (kX8_finds (-1000000004 : Int32) q2 τ h4) ?_
        obtain rfl := Option.some.inj h
        exact Vm.iret dX8_best_52 rfl hk.1 hk.2.symm
    · replace h := (if_pos c9).symm.trans h
      refine Vm.sub (lv' := [(0, .inr (.inr (32, 0)))]) [0] rfl ?_
      exact lX8_best_28 σ τ h hk
theorem kX8_best (a1 : Int32) (a2 : Int32) (σ τ : mm) {q : Int32 × mm} (h : fX8_best a1 a2 σ = some q) : Cx mX8_best 4 [.inr (.inr (32, 0)), .inl a1, .inl a2] (τ, σ) (some (.inl q.1)) (τ, q.2) :=
  Cx.of (lv := [(0, .inr (.inr (32, 0))), (1, .inl a1), (2, .inl a2)]) (by decide) (fun ad => Nat.le_of_ble_eq_true rfl) (fun ad => rfl) (lX8_best_0 a1 a2 σ τ h ⟨rfl, rfl⟩)
-- ThinBodiesModel thin (I)I
noncomputable def fX8_thin_90 (a1 : Int32) (a2 : Int32) (a3 : Int32) (a4 : Int32) (a5 : Int32) (σ : mm) : Option ((Int32 × Int32 × Int32 × mm) ⊕ (Int32 × mm)) :=
  Option.bind (some (a5 + (1 : Int32))) fun x1 =>
  some (.inl (a2, a3, x1, σ))
noncomputable def fX8_thin_82 (a1 : Int32) (a4 : Int32) (a5 : Int32) (σ : mm) : Option ((Int32 × Int32 × Int32 × mm) ⊕ (Int32 × mm)) :=
  Option.bind (some (σ.1 32 0 14)) fun x1 =>
  fX8_thin_90 a1 a5 x1 a4 a5 σ
noncomputable def fX8_thin_48 (a1 : Int32) (a2 : Int32) (a3 : Int32) (a4 : Int32) (a5 : Int32) (σ : mm) : Option ((Int32 × Int32 × Int32 × mm) ⊕ (Int32 × mm)) :=
  if a4 ≤ a5 then
  if a1 = (0 : Int32) then
  some (.inr ((a2, σ)))
  else
  some (.inr ((a3, σ)))
  else
  Option.bind (dvI a4 (2 : Int32)) fun x1 =>
  if a5 = x1 then
  fX8_thin_90 a1 a2 a3 a4 a5 σ
  else
  Option.bind (fX8_measures a5 σ) fun q2 =>
  if a2 < (0 : Int32) then
  fX8_thin_82 a1 a4 a5 q2
  else
  if a3 ≤ (q2.1 32 0 14) then
  fX8_thin_90 a1 a2 a3 a4 a5 q2
  else
  fX8_thin_82 a1 a4 a5 q2
noncomputable def fX8_thin_48_L (a1 : Int32) (a4 : Int32) : Int32 × Int32 × Int32 × mm → Option ((Int32 × Int32 × Int32 × mm) ⊕ (Int32 × mm)) := fun z => fX8_thin_48 a1 z.1 z.2.1 a4 z.2.2.1 z.2.2.2
noncomputable def fX8_thin_0 (a1 : Int32) (σ : mm) : Option (Int32 × mm) :=
  if (bi (fX8_in a1.toInt64 (0 : Int64) (1 : Int64))) = (0 : Int32) then
  Option.bind (fX8_finds (-1000000001 : Int32) σ) fun q4 =>
  some ((q4.1, q4.2))
  else
  Option.bind (fX8_looks σ) fun q1 =>
  if (q1.1 32 0 11) = (0 : Int32) then
  Option.bind (fX8_finds (-1000000004 : Int32) q1) fun q3 =>
  some ((q3.1, q3.2))
  else
  Option.bind (fX8_directions q1) fun q2 =>
  lp (fX8_thin_48_L a1 q2) ((-1 : Int32), (0 : Int32), (0 : Int32), q1)
noncomputable def fX8_thin (a1 : Int32) (σ : mm) : Option (Int32 × mm) := fX8_thin_0 a1 σ
set_option maxRecDepth 20000 in
theorem lX8_thin_90 (a1 : Int32) (a2 : Int32) (a3 : Int32) (a4 : Int32) (a5 : Int32) (σ τ : mm) {r : Option mv} {M' : mm × mm} {v9 : (Int32 × Int32 × Int32 × mm) ⊕ (Int32 × mm)} (h : fX8_thin_90 a1 a2 a3 a4 a5 σ = some v9) (hk : (Sum.elim (fun z : Int32 × Int32 × Int32 × mm => Vm mX8_thin 4 48 [(0, .inr (.inr (32, 0))), (1, .inl a1), (2, .inl z.1), (3, .inl z.2.1), (4, .inl a4), (5, .inl z.2.2.1)] [] (τ, z.2.2.2) r M') (fun q : Int32 × mm => r = some (.inl q.1) ∧ M' = (τ, q.2))) v9) : Vm mX8_thin 4 90 [(0, .inr (.inr (32, 0))), (1, .inl a1), (2, .inl a2), (3, .inl a3), (4, .inl a4), (5, .inl a5)] [] (τ, σ) r M' := by
  unfold fX8_thin_90 at h
  replace h := Option.bind_eq_some_iff.mp h
  obtain ⟨x1, e1, h⟩ := h
  replace e1 := Option.some.inj e1
  refine Vm.iinc (n := 93) (v := x1) (lv' := [(5, .inl x1), (0, .inr (.inr (32, 0))), (1, .inl a1), (2, .inl a2), (3, .inl a3), (4, .inl a4)]) 5 dX8_thin_90 rfl rfl e1 (Nat.le_of_ble_eq_true rfl) rfl ?_
  refine Vm.goto 48 dX8_thin_93 rfl ?_
  refine Vm.sub (lv' := [(0, .inr (.inr (32, 0))), (1, .inl a1), (2, .inl a2), (3, .inl a3), (4, .inl a4), (5, .inl x1)]) [1, 2, 3, 4, 5, 0] rfl ?_
  obtain rfl := Option.some.inj h
  exact hk
set_option maxRecDepth 20000 in
theorem lX8_thin_82 (a1 : Int32) (a4 : Int32) (a5 : Int32) (σ τ : mm) {r : Option mv} {M' : mm × mm} {v9 : (Int32 × Int32 × Int32 × mm) ⊕ (Int32 × mm)} (h : fX8_thin_82 a1 a4 a5 σ = some v9) (hk : (Sum.elim (fun z : Int32 × Int32 × Int32 × mm => Vm mX8_thin 4 48 [(0, .inr (.inr (32, 0))), (1, .inl a1), (2, .inl z.1), (3, .inl z.2.1), (4, .inl a4), (5, .inl z.2.2.1)] [] (τ, z.2.2.2) r M') (fun q : Int32 × mm => r = some (.inl q.1) ∧ M' = (τ, q.2))) v9) : Vm mX8_thin 4 82 [(0, .inr (.inr (32, 0))), (1, .inl a1), (4, .inl a4), (5, .inl a5)] [] (τ, σ) r M' := by
  unfold fX8_thin_82 at h
  refine Vm.iload (n := 84) 3 dX8_thin_82 rfl rfl ?_
  refine Vm.istore_n (n := 85) (lv' := [(2, .inl a5), (0, .inr (.inr (32, 0))), (1, .inl a1), (4, .inl a4), (5, .inl a5)]) dX8_thin_84 rfl (Nat.le_of_ble_eq_true rfl) rfl ?_
  refine Vm.aload_n (n := 86) 1 dX8_thin_85 rfl rfl ?_
  refine Vm.gM (n := 89) dX8_thin_86 rfl wf_RX8_214 in_32 rfl (by decide) rfl (by decide) ?_
  replace h := Option.bind_eq_some_iff.mp h
  obtain ⟨x1, e1, h⟩ := h
  replace e1 := Option.some.inj e1
  refine Vm.top e1 ?_
  refine Vm.istore_n (n := 90) (lv' := [(3, .inl x1), (2, .inl a5), (0, .inr (.inr (32, 0))), (1, .inl a1), (4, .inl a4), (5, .inl a5)]) dX8_thin_89 rfl (Nat.le_of_ble_eq_true rfl) rfl ?_
  refine Vm.sub (lv' := [(0, .inr (.inr (32, 0))), (1, .inl a1), (2, .inl a5), (3, .inl x1), (4, .inl a4), (5, .inl a5)]) [2, 3, 1, 0, 4, 5] rfl ?_
  exact lX8_thin_90 a1 a5 x1 a4 a5 σ τ h hk
set_option maxRecDepth 20000 in
theorem lX8_thin_48 (a1 : Int32) (a2 : Int32) (a3 : Int32) (a4 : Int32) (a5 : Int32) (σ τ : mm) {r : Option mv} {M' : mm × mm} {v9 : (Int32 × Int32 × Int32 × mm) ⊕ (Int32 × mm)} (h : fX8_thin_48 a1 a2 a3 a4 a5 σ = some v9) (hk : (Sum.elim (fun z : Int32 × Int32 × Int32 × mm => Vm mX8_thin 4 48 [(0, .inr (.inr (32, 0))), (1, .inl a1), (2, .inl z.1), (3, .inl z.2.1), (4, .inl a4), (5, .inl z.2.2.1)] [] (τ, z.2.2.2) r M') (fun q : Int32 × mm => r = some (.inl q.1) ∧ M' = (τ, q.2))) v9) : Vm mX8_thin 4 48 [(0, .inr (.inr (32, 0))), (1, .inl a1), (2, .inl a2), (3, .inl a3), (4, .inl a4), (5, .inl a5)] [] (τ, σ) r M' := by
  unfold fX8_thin_48 at h
  refine Vm.iload (n := 50) 5 dX8_thin_48 rfl rfl ?_
  refine Vm.iload (n := 52) 4 dX8_thin_50 rfl rfl ?_
  refine Vm.icmp_ge (n := 55) 96 dX8_thin_52 rfl rfl (fun c9 => ?_) (fun c9 => ?_)
  · replace h := (if_pos c9).symm.trans h
    refine Vm.iload_n (n := 97) 1 dX8_thin_96 rfl rfl ?_
    refine Vm.if_ne (n := 100) 104 dX8_thin_97 rfl rfl (fun c9 => ?_) (fun c9 => ?_)
    · replace h := (if_neg c9).symm.trans h
      refine Vm.iload_n (n := 105) 3 dX8_thin_104 rfl rfl ?_
      obtain rfl := Option.some.inj h
      exact Vm.iret dX8_thin_105 rfl hk.1 hk.2.symm
    · replace h := (if_pos c9).symm.trans h
      refine Vm.iload_n (n := 101) 2 dX8_thin_100 rfl rfl ?_
      refine Vm.goto 105 dX8_thin_101 rfl ?_
      obtain rfl := Option.some.inj h
      exact Vm.iret dX8_thin_105 rfl hk.1 hk.2.symm
  · replace h := (if_neg c9).symm.trans h
    refine Vm.iload (n := 57) 5 dX8_thin_55 rfl rfl ?_
    refine Vm.iload (n := 59) 4 dX8_thin_57 rfl rfl ?_
    refine Vm.iconst (n := 60) (v := (2 : Int32)) dX8_thin_59 rfl (by decide) ?_
    replace h := Option.bind_eq_some_iff.mp h
    obtain ⟨x1, h1, h⟩ := h
    refine Vm.idiv (n := 61) dX8_thin_60 rfl h1 ?_
    refine Vm.icmp_eq (n := 64) 90 dX8_thin_61 rfl rfl (fun c9 => ?_) (fun c9 => ?_)
    · replace h := (if_pos c9).symm.trans h
      exact lX8_thin_90 a1 a2 a3 a4 a5 σ τ h hk
    · replace h := (if_neg c9).symm.trans h
      refine Vm.aload_n (n := 65) 0 dX8_thin_64 rfl rfl ?_
      refine Vm.iload (n := 67) 5 dX8_thin_65 rfl rfl ?_
      replace h := Option.bind_eq_some_iff.mp h
      obtain ⟨q2, h2, h⟩ := h
      refine Vm.callVv (Y := mX8_measures) (n := 70) [.inl a5] dX8_thin_67 rfl wv_RX8_222 omX8_measures rfl in_32 rfl rfl rfl (Nat.le_of_ble_eq_true rfl) (by decide) (kX8_measures a5 σ τ h2) ?_
      refine Vm.iload_n (n := 71) 2 dX8_thin_70 rfl rfl ?_
      refine Vm.if_lt (n := 74) 82 dX8_thin_71 rfl rfl (fun c9 => ?_) (fun c9 => ?_)
      · replace h := (if_pos c9).symm.trans h
        refine Vm.sub (lv' := [(0, .inr (.inr (32, 0))), (1, .inl a1), (4, .inl a4), (5, .inl a5)]) [0, 1, 4, 5] rfl ?_
        exact lX8_thin_82 a1 a4 a5 q2 τ h hk
      · replace h := (if_neg c9).symm.trans h
        refine Vm.aload_n (n := 75) 0 dX8_thin_74 rfl rfl ?_
        refine Vm.gM (n := 78) dX8_thin_75 rfl wf_RX8_214 in_32 rfl (by decide) rfl (by decide) ?_
        refine Vm.iload_n (n := 79) 3 dX8_thin_78 rfl rfl ?_
        refine Vm.icmp_ge (n := 82) 90 dX8_thin_79 rfl rfl (fun c9 => ?_) (fun c9 => ?_)
        · replace h := (if_pos c9).symm.trans h
          exact lX8_thin_90 a1 a2 a3 a4 a5 q2 τ h hk
        · replace h := (if_neg c9).symm.trans h
          refine Vm.sub (lv' := [(0, .inr (.inr (32, 0))), (1, .inl a1), (4, .inl a4), (5, .inl a5)]) [0, 1, 4, 5] rfl ?_
          exact lX8_thin_82 a1 a4 a5 q2 τ h hk
theorem lX8_thin_48_L (a1 : Int32) (a4 : Int32) (τ : mm) {r : Option mv} {M' : mm × mm} (z : Int32 × Int32 × Int32 × mm) (w9 : Int32 × mm) (h : lp (fX8_thin_48_L a1 a4) z = some w9) (hk : (fun q : Int32 × mm => r = some (.inl q.1) ∧ M' = (τ, q.2)) w9) : Vm mX8_thin 4 48 [(0, .inr (.inr (32, 0))), (1, .inl a1), (2, .inl z.1), (3, .inl z.2.1), (4, .inl a4), (5, .inl z.2.2.1)] [] (τ, z.2.2.2) r M' :=
  lp_link (S := Int32 × Int32 × Int32 × mm) (R := Int32 × mm) (body := fX8_thin_48_L a1 a4) (A := fun z : Int32 × Int32 × Int32 × mm => Vm mX8_thin 4 48 [(0, .inr (.inr (32, 0))), (1, .inl a1), (2, .inl z.1), (3, .inl z.2.1), (4, .inl a4), (5, .inl z.2.2.1)] [] (τ, z.2.2.2) r M') (B := fun w : Int32 × mm => (fun q : Int32 × mm => r = some (.inl q.1) ∧ M' = (τ, q.2)) w) (fun z v hb hv => lX8_thin_48 a1 z.1 z.2.1 a4 z.2.2.1 z.2.2.2 τ hb hv) z w9 h hk
set_option maxRecDepth 20000 in
theorem lX8_thin_0 (a1 : Int32) (σ τ : mm) {r : Option mv} {M' : mm × mm} {v9 : Int32 × mm} (h : fX8_thin_0 a1 σ = some v9) (hk : (fun q : Int32 × mm => r = some (.inl q.1) ∧ M' = (τ, q.2)) v9) : Vm mX8_thin 4 0 [(0, .inr (.inr (32, 0))), (1, .inl a1)] [] (τ, σ) r M' := by
  unfold fX8_thin_0 at h
  refine Vm.iload_n (n := 1) 1 dX8_thin_0 rfl rfl ?_
  refine Vm.i2l (n := 2) dX8_thin_1 rfl ?_
  refine Vm.lconst (n := 3) (v := (0 : Int64)) dX8_thin_2 rfl (by decide) ?_
  refine Vm.lconst (n := 4) (v := (1 : Int64)) dX8_thin_3 rfl (by decide) ?_
  refine Vm.callS (Y := mX8_in) (n := 7) [.inr (.inl a1.toInt64), .inr (.inl (0 : Int64)), .inr (.inl (1 : Int64))] dX8_thin_4 rfl wv_RX8_93 omX8_in rfl rfl (Nat.le_of_ble_eq_true rfl) (by decide) (kX8_in a1.toInt64 (0 : Int64) (1 : Int64) rfl) ?_
  refine Vm.if_ne (n := 10) 17 dX8_thin_7 rfl rfl (fun c9 => ?_) (fun c9 => ?_)
  · replace h := (if_neg c9).symm.trans h
    refine Vm.aload_n (n := 18) 0 dX8_thin_17 rfl rfl ?_
    replace h := Option.bind_eq_some_iff.mp h
    obtain ⟨q1, h1, h⟩ := h
    refine Vm.callVv (Y := mX8_looks) (n := 21) [] dX8_thin_18 rfl wv_RX8_189 omX8_looks rfl in_32 rfl rfl rfl (Nat.le_of_ble_eq_true rfl) (by decide) (kX8_looks σ τ h1) ?_
    refine Vm.aload_n (n := 22) 0 dX8_thin_21 rfl rfl ?_
    refine Vm.gM (n := 25) dX8_thin_22 rfl wf_RX8_176 in_32 rfl (by decide) rfl (by decide) ?_
    refine Vm.if_ne (n := 28) 35 dX8_thin_25 rfl rfl (fun c9 => ?_) (fun c9 => ?_)
    · replace h := (if_neg c9).symm.trans h
      refine Vm.iconst (n := 36) (v := (-1 : Int32)) dX8_thin_35 rfl (by decide) ?_
      refine Vm.istore_n (n := 37) (lv' := [(2, .inl (-1 : Int32)), (0, .inr (.inr (32, 0))), (1, .inl a1)]) dX8_thin_36 rfl (Nat.le_of_ble_eq_true rfl) rfl ?_
      refine Vm.iconst (n := 38) (v := (0 : Int32)) dX8_thin_37 rfl (by decide) ?_
      refine Vm.istore_n (n := 39) (lv' := [(3, .inl (0 : Int32)), (2, .inl (-1 : Int32)), (0, .inr (.inr (32, 0))), (1, .inl a1)]) dX8_thin_38 rfl (Nat.le_of_ble_eq_true rfl) rfl ?_
      refine Vm.aload_n (n := 40) 2 dX8_thin_39 rfl rfl ?_
      replace h := Option.bind_eq_some_iff.mp h
      obtain ⟨q2, h2, h⟩ := h
      refine Vm.callV (Y := mX8_directions) (n := 43) [] dX8_thin_40 rfl wv_RX8_217 omX8_directions rfl in_32 rfl rfl rfl (Nat.le_of_ble_eq_true rfl) (by decide) (kX8_directions q1 τ h2) ?_
      refine Vm.istore (n := 45) (lv' := [(4, .inl q2), (3, .inl (0 : Int32)), (2, .inl (-1 : Int32)), (0, .inr (.inr (32, 0))), (1, .inl a1)]) dX8_thin_43 rfl (Nat.le_of_ble_eq_true rfl) rfl ?_
      refine Vm.iconst (n := 46) (v := (0 : Int32)) dX8_thin_45 rfl (by decide) ?_
      refine Vm.istore (n := 48) (lv' := [(5, .inl (0 : Int32)), (4, .inl q2), (3, .inl (0 : Int32)), (2, .inl (-1 : Int32)), (0, .inr (.inr (32, 0))), (1, .inl a1)]) dX8_thin_46 rfl (Nat.le_of_ble_eq_true rfl) rfl ?_
      refine Vm.sub (lv' := [(0, .inr (.inr (32, 0))), (1, .inl a1), (2, .inl (-1 : Int32)), (3, .inl (0 : Int32)), (4, .inl q2), (5, .inl (0 : Int32))]) [4, 5, 3, 2, 1, 0] rfl ?_
      exact lX8_thin_48_L a1 q2 τ ((-1 : Int32), (0 : Int32), (0 : Int32), q1) _ h hk
    · replace h := (if_pos c9).symm.trans h
      refine Vm.aload_n (n := 29) 0 dX8_thin_28 rfl rfl ?_
      refine Vm.ldc (n := 31) dX8_thin_29 rfl wc_RX8_167 ?_
      replace h := Option.bind_eq_some_iff.mp h
      obtain ⟨q3, h3, h⟩ := h
      refine Vm.callV (Y := mX8_finds) (n := 34) [.inl (-1000000004 : Int32)] dX8_thin_31 rfl wv_RX8_102 omX8_finds rfl in_32 rfl rfl rfl (Nat.le_of_ble_eq_true rfl) (by decide) (kX8_finds (-1000000004 : Int32) q1 τ h3) ?_
      obtain rfl := Option.some.inj h
      exact Vm.iret dX8_thin_34 rfl hk.1 hk.2.symm
  · replace h := (if_pos c9).symm.trans h
    refine Vm.aload_n (n := 11) 0 dX8_thin_10 rfl rfl ?_
    refine Vm.ldc (n := 13) dX8_thin_11 rfl wc_RX8_92 ?_
    replace h := Option.bind_eq_some_iff.mp h
    obtain ⟨q4, h4, h⟩ := h
    refine Vm.callV (Y := mX8_finds) (n := 16) [.inl (-1000000001 : Int32)] dX8_thin_13 rfl wv_RX8_102 omX8_finds rfl in_32 rfl rfl rfl (Nat.le_of_ble_eq_true rfl) (by decide) (kX8_finds (-1000000001 : Int32) σ τ h4) ?_
    obtain rfl := Option.some.inj h
    exact Vm.iret dX8_thin_16 rfl hk.1 hk.2.symm
theorem kX8_thin (a1 : Int32) (σ τ : mm) {q : Int32 × mm} (h : fX8_thin a1 σ = some q) : Cx mX8_thin 4 [.inr (.inr (32, 0)), .inl a1] (τ, σ) (some (.inl q.1)) (τ, q.2) :=
  Cx.of (lv := [(0, .inr (.inr (32, 0))), (1, .inl a1)]) (by decide) (fun ad => Nat.le_of_ble_eq_true rfl) (fun ad => rfl) (lX8_thin_0 a1 σ τ h ⟨rfl, rfl⟩)
-- ThinBodiesModel common (II)I
noncomputable def fX8_common_13 (a2 : Int32) (a3 : Int32) : Option ((Int32 × Int32) ⊕ (Int32)) :=
  if a3 = (0 : Int32) then
  some (.inr (a2))
  else
  Option.bind (rmI a2 a3) fun x1 =>
  some (.inl (a3, x1))
noncomputable def fX8_common_13_L : Int32 × Int32 → Option ((Int32 × Int32) ⊕ (Int32)) := fun z => fX8_common_13 z.1 z.2
noncomputable def fX8_common_10 (a1 : Int32) (s0 : Int32) : Option (Int32) :=
  lp (fX8_common_13_L) (s0, a1)
noncomputable def fX8_common_0 (a0 : Int32) (a1 : Int32) : Option (Int32) :=
  if (0 : Int32) ≤ a0 then
  fX8_common_10 a1 a0
  else
  fX8_common_10 a1 (-a0)
noncomputable def fX8_common (a0 : Int32) (a1 : Int32) : Option (Int32) := fX8_common_0 a0 a1
set_option maxRecDepth 20000 in
theorem lX8_common_13 (a2 : Int32) (a3 : Int32) {M : mm × mm} {r : Option mv} {M' : mm × mm} {v9 : (Int32 × Int32) ⊕ (Int32)} (h : fX8_common_13 a2 a3 = some v9) (hk : (Sum.elim (fun z : Int32 × Int32 => Vm mX8_common 0 13 [(2, .inl z.1), (3, .inl z.2)] [] M r M') (fun q : Int32 => r = some (.inl q) ∧ M' = M)) v9) : Vm mX8_common 0 13 [(2, .inl a2), (3, .inl a3)] [] M r M' := by
  unfold fX8_common_13 at h
  refine Vm.iload_n (n := 14) 1 dX8_common_13 rfl rfl ?_
  refine Vm.if_eq (n := 17) 30 dX8_common_14 rfl rfl (fun c9 => ?_) (fun c9 => ?_)
  · replace h := (if_pos c9).symm.trans h
    refine Vm.iload_n (n := 31) 0 dX8_common_30 rfl rfl ?_
    obtain rfl := Option.some.inj h
    exact Vm.iret dX8_common_31 rfl hk.1 hk.2.symm
  · replace h := (if_neg c9).symm.trans h
    refine Vm.iload_n (n := 18) 0 dX8_common_17 rfl rfl ?_
    refine Vm.iload_n (n := 19) 1 dX8_common_18 rfl rfl ?_
    replace h := Option.bind_eq_some_iff.mp h
    obtain ⟨x1, h1, h⟩ := h
    refine Vm.irem (n := 20) dX8_common_19 rfl h1 ?_
    refine Vm.istore (n := 22) (lv' := [(4, .inl x1), (2, .inl a2), (3, .inl a3)]) dX8_common_20 rfl (Nat.le_of_ble_eq_true rfl) rfl ?_
    refine Vm.iload_n (n := 23) 2 dX8_common_22 rfl rfl ?_
    refine Vm.istore_n (n := 24) (lv' := [(2, .inl a3), (4, .inl x1), (3, .inl a3)]) dX8_common_23 rfl (Nat.le_of_ble_eq_true rfl) rfl ?_
    refine Vm.iload (n := 26) 1 dX8_common_24 rfl rfl ?_
    refine Vm.istore_n (n := 27) (lv' := [(3, .inl x1), (2, .inl a3), (4, .inl x1)]) dX8_common_26 rfl (Nat.le_of_ble_eq_true rfl) rfl ?_
    refine Vm.goto 13 dX8_common_27 rfl ?_
    refine Vm.sub (lv' := [(2, .inl a3), (3, .inl x1)]) [1, 0] rfl ?_
    obtain rfl := Option.some.inj h
    exact hk
theorem lX8_common_13_L {M : mm × mm} {r : Option mv} {M' : mm × mm} (z : Int32 × Int32) (w9 : Int32) (h : lp (fX8_common_13_L) z = some w9) (hk : (fun q : Int32 => r = some (.inl q) ∧ M' = M) w9) : Vm mX8_common 0 13 [(2, .inl z.1), (3, .inl z.2)] [] M r M' :=
  lp_link (S := Int32 × Int32) (R := Int32) (body := fX8_common_13_L) (A := fun z : Int32 × Int32 => Vm mX8_common 0 13 [(2, .inl z.1), (3, .inl z.2)] [] M r M') (B := fun w : Int32 => (fun q : Int32 => r = some (.inl q) ∧ M' = M) w) (fun z v hb hv => lX8_common_13 z.1 z.2 hb hv) z w9 h hk
set_option maxRecDepth 20000 in
theorem lX8_common_10 (a1 : Int32) (s0 : Int32) {M : mm × mm} {r : Option mv} {M' : mm × mm} {v9 : Int32} (h : fX8_common_10 a1 s0 = some v9) (hk : (fun q : Int32 => r = some (.inl q) ∧ M' = M) v9) : Vm mX8_common 0 10 [(1, .inl a1)] [.inl s0] M r M' := by
  unfold fX8_common_10 at h
  refine Vm.istore_n (n := 11) (lv' := [(2, .inl s0), (1, .inl a1)]) dX8_common_10 rfl (Nat.le_of_ble_eq_true rfl) rfl ?_
  refine Vm.iload_n (n := 12) 1 dX8_common_11 rfl rfl ?_
  refine Vm.istore_n (n := 13) (lv' := [(3, .inl a1), (2, .inl s0), (1, .inl a1)]) dX8_common_12 rfl (Nat.le_of_ble_eq_true rfl) rfl ?_
  refine Vm.sub (lv' := [(2, .inl s0), (3, .inl a1)]) [1, 0] rfl ?_
  exact lX8_common_13_L  (s0, a1) _ h hk
set_option maxRecDepth 20000 in
theorem lX8_common_0 (a0 : Int32) (a1 : Int32) {M : mm × mm} {r : Option mv} {M' : mm × mm} {v9 : Int32} (h : fX8_common_0 a0 a1 = some v9) (hk : (fun q : Int32 => r = some (.inl q) ∧ M' = M) v9) : Vm mX8_common 0 0 [(0, .inl a0), (1, .inl a1)] [] M r M' := by
  unfold fX8_common_0 at h
  refine Vm.iload_n (n := 1) 0 dX8_common_0 rfl rfl ?_
  refine Vm.if_ge (n := 4) 9 dX8_common_1 rfl rfl (fun c9 => ?_) (fun c9 => ?_)
  · replace h := (if_pos c9).symm.trans h
    refine Vm.iload_n (n := 10) 0 dX8_common_9 rfl rfl ?_
    refine Vm.sub (lv' := [(1, .inl a1)]) [1] rfl ?_
    exact lX8_common_10 a1 a0 h hk
  · replace h := (if_neg c9).symm.trans h
    refine Vm.iload_n (n := 5) 0 dX8_common_4 rfl rfl ?_
    refine Vm.ineg (n := 6) dX8_common_5 rfl ?_
    refine Vm.goto 10 dX8_common_6 rfl ?_
    refine Vm.sub (lv' := [(1, .inl a1)]) [1] rfl ?_
    exact lX8_common_10 a1 (-a0) h hk
theorem kX8_common (a0 : Int32) (a1 : Int32) {M : mm × mm} {q : Int32} (h : fX8_common a0 a1 = some q) : Cx mX8_common 0 [.inl a0, .inl a1] M (some (.inl q)) M :=
  Cx.of (lv := [(0, .inl a0), (1, .inl a1)]) (by decide) (fun ad => Nat.le_of_ble_eq_true rfl) (fun ad => rfl) (lX8_common_0 a0 a1 h ⟨rfl, rfl⟩)
-- ThinBodiesModel mean (II)I
noncomputable def fX8_mean_48 (a1 : Int32) (a2 : Int32) (a3 : Int32) (a4 : Int32) (σ : mm) : Option ((Int32 × Int32 × mm) ⊕ (Int32 × mm)) :=
  if (σ.1 32 0 11) ≤ a4 then
  Option.bind (fX8_common a3 (σ.1 32 0 11)) fun q1 =>
  if a2 = (0 : Int32) then
  Option.bind (dvI a3 q1) fun x3 =>
  some (.inr ((x3, σ)))
  else
  Option.bind (dvI (σ.1 32 0 11) q1) fun x2 =>
  some (.inr ((x2, σ)))
  else
  Option.bind (rdI σ 50 0 4096 a4) fun x4 =>
  Option.bind (fX8_goesTo x4 σ) fun q5 =>
  Option.bind (rdL q5 48 0 4 a1) fun x6 =>
  Option.bind (some (a3 + x6.toInt32)) fun x7 =>
  Option.bind (some (a4 + (1 : Int32))) fun x8 =>
  some (.inl (x7, x8, q5))
noncomputable def fX8_mean_48_L (a1 : Int32) (a2 : Int32) : Int32 × Int32 × mm → Option ((Int32 × Int32 × mm) ⊕ (Int32 × mm)) := fun z => fX8_mean_48 a1 a2 z.1 z.2.1 z.2.2
noncomputable def fX8_mean_18 (σ : mm) : Option (Int32 × mm) :=
  Option.bind (fX8_finds (-1000000001 : Int32) σ) fun q1 =>
  some ((q1.1, q1.2))
noncomputable def fX8_mean_0 (a1 : Int32) (a2 : Int32) (σ : mm) : Option (Int32 × mm) :=
  if (bi (fX8_isLetter a1 σ)) = (0 : Int32) then
  fX8_mean_18 σ
  else
  if (bi (fX8_in a2.toInt64 (0 : Int64) (1 : Int64))) = (0 : Int32) then
  fX8_mean_18 σ
  else
  Option.bind (fX8_looks σ) fun q1 =>
  if (q1.1 32 0 11) = (0 : Int32) then
  Option.bind (fX8_finds (-1000000004 : Int32) q1) fun q2 =>
  some ((q2.1, q2.2))
  else
  lp (fX8_mean_48_L a1 a2) ((0 : Int32), (0 : Int32), q1)
noncomputable def fX8_mean (a1 : Int32) (a2 : Int32) (σ : mm) : Option (Int32 × mm) := fX8_mean_0 a1 a2 σ
set_option maxRecDepth 20000 in
theorem lX8_mean_48 (a1 : Int32) (a2 : Int32) (a3 : Int32) (a4 : Int32) (σ τ : mm) {r : Option mv} {M' : mm × mm} {v9 : (Int32 × Int32 × mm) ⊕ (Int32 × mm)} (h : fX8_mean_48 a1 a2 a3 a4 σ = some v9) (hk : (Sum.elim (fun z : Int32 × Int32 × mm => Vm mX8_mean 4 48 [(0, .inr (.inr (32, 0))), (1, .inl a1), (2, .inl a2), (3, .inl z.1), (4, .inl z.2.1)] [] (τ, z.2.2) r M') (fun q : Int32 × mm => r = some (.inl q.1) ∧ M' = (τ, q.2))) v9) : Vm mX8_mean 4 48 [(0, .inr (.inr (32, 0))), (1, .inl a1), (2, .inl a2), (3, .inl a3), (4, .inl a4)] [] (τ, σ) r M' := by
  unfold fX8_mean_48 at h
  refine Vm.iload (n := 50) 4 dX8_mean_48 rfl rfl ?_
  refine Vm.aload_n (n := 51) 0 dX8_mean_50 rfl rfl ?_
  refine Vm.gM (n := 54) dX8_mean_51 rfl wf_RX8_176 in_32 rfl (by decide) rfl (by decide) ?_
  refine Vm.icmp_ge (n := 57) 84 dX8_mean_54 rfl rfl (fun c9 => ?_) (fun c9 => ?_)
  · replace h := (if_pos c9).symm.trans h
    refine Vm.iload_n (n := 85) 3 dX8_mean_84 rfl rfl ?_
    refine Vm.aload_n (n := 86) 0 dX8_mean_85 rfl rfl ?_
    refine Vm.gM (n := 89) dX8_mean_86 rfl wf_RX8_176 in_32 rfl (by decide) rfl (by decide) ?_
    replace h := Option.bind_eq_some_iff.mp h
    obtain ⟨q1, h1, h⟩ := h
    refine Vm.callS (Y := mX8_common) (n := 92) [.inl a3, .inl (σ.1 32 0 11)] dX8_mean_89 rfl wv_RX8_225 omX8_common rfl rfl (Nat.le_of_ble_eq_true rfl) (by decide) (kX8_common a3 (σ.1 32 0 11) h1) ?_
    refine Vm.istore (n := 94) (lv' := [(4, .inl q1), (0, .inr (.inr (32, 0))), (1, .inl a1), (2, .inl a2), (3, .inl a3)]) dX8_mean_92 rfl (Nat.le_of_ble_eq_true rfl) rfl ?_
    refine Vm.iload_n (n := 95) 3 dX8_mean_94 rfl rfl ?_
    refine Vm.if_ne (n := 98) 105 dX8_mean_95 rfl rfl (fun c9 => ?_) (fun c9 => ?_)
    · replace h := (if_neg c9).symm.trans h
      refine Vm.aload_n (n := 106) 1 dX8_mean_105 rfl rfl ?_
      refine Vm.gM (n := 109) dX8_mean_106 rfl wf_RX8_176 in_32 rfl (by decide) rfl (by decide) ?_
      refine Vm.iload (n := 111) 0 dX8_mean_109 rfl rfl ?_
      replace h := Option.bind_eq_some_iff.mp h
      obtain ⟨x2, h2, h⟩ := h
      refine Vm.idiv (n := 112) dX8_mean_111 rfl h2 ?_
      obtain rfl := Option.some.inj h
      exact Vm.iret dX8_mean_112 rfl hk.1 hk.2.symm
    · replace h := (if_pos c9).symm.trans h
      refine Vm.iload_n (n := 99) 4 dX8_mean_98 rfl rfl ?_
      refine Vm.iload (n := 101) 0 dX8_mean_99 rfl rfl ?_
      replace h := Option.bind_eq_some_iff.mp h
      obtain ⟨x3, h3, h⟩ := h
      refine Vm.idiv (n := 102) dX8_mean_101 rfl h3 ?_
      refine Vm.goto 112 dX8_mean_102 rfl ?_
      obtain rfl := Option.some.inj h
      exact Vm.iret dX8_mean_112 rfl hk.1 hk.2.symm
  · replace h := (if_neg c9).symm.trans h
    refine Vm.aload_n (n := 58) 0 dX8_mean_57 rfl rfl ?_
    refine Vm.aload_n (n := 59) 0 dX8_mean_58 rfl rfl ?_
    refine Vm.getR (n := 62) dX8_mean_59 rfl wf_RX8_39 in_32 rfl (by decide) rfl ?_
    refine Vm.iload (n := 64) 4 dX8_mean_62 rfl rfl ?_
    replace h := Option.bind_eq_some_iff.mp h
    obtain ⟨x4, h4, h⟩ := h
    refine Vm.ialdm (n := 65) dX8_mean_64 rfl in_50 rfl rfl (by decide) h4 ?_
    replace h := Option.bind_eq_some_iff.mp h
    obtain ⟨q5, h5, h⟩ := h
    refine Vm.callVv (Y := mX8_goesTo) (n := 68) [.inl x4] dX8_mean_65 rfl wv_RX8_179 omX8_goesTo rfl in_32 rfl rfl rfl (Nat.le_of_ble_eq_true rfl) (by decide) (kX8_goesTo x4 σ τ h5) ?_
    refine Vm.iload_n (n := 69) 3 dX8_mean_68 rfl rfl ?_
    refine Vm.aload_n (n := 70) 0 dX8_mean_69 rfl rfl ?_
    refine Vm.getR (n := 73) dX8_mean_70 rfl wf_RX8_32 in_32 rfl (by decide) rfl ?_
    refine Vm.iload_n (n := 74) 1 dX8_mean_73 rfl rfl ?_
    replace h := Option.bind_eq_some_iff.mp h
    obtain ⟨x6, h6, h⟩ := h
    refine Vm.laldm (n := 75) dX8_mean_74 rfl in_48 rfl rfl (by decide) h6 ?_
    refine Vm.l2i (n := 76) dX8_mean_75 rfl ?_
    refine Vm.iadd (n := 77) dX8_mean_76 rfl ?_
    replace h := Option.bind_eq_some_iff.mp h
    obtain ⟨x7, e7, h⟩ := h
    replace e7 := Option.some.inj e7
    refine Vm.top e7 ?_
    refine Vm.istore_n (n := 78) (lv' := [(3, .inl x7), (0, .inr (.inr (32, 0))), (1, .inl a1), (2, .inl a2), (4, .inl a4)]) dX8_mean_77 rfl (Nat.le_of_ble_eq_true rfl) rfl ?_
    replace h := Option.bind_eq_some_iff.mp h
    obtain ⟨x8, e8, h⟩ := h
    replace e8 := Option.some.inj e8
    refine Vm.iinc (n := 81) (v := x8) (lv' := [(4, .inl x8), (3, .inl x7), (0, .inr (.inr (32, 0))), (1, .inl a1), (2, .inl a2)]) 4 dX8_mean_78 rfl rfl e8 (Nat.le_of_ble_eq_true rfl) rfl ?_
    refine Vm.goto 48 dX8_mean_81 rfl ?_
    refine Vm.sub (lv' := [(0, .inr (.inr (32, 0))), (1, .inl a1), (2, .inl a2), (3, .inl x7), (4, .inl x8)]) [2, 3, 4, 1, 0] rfl ?_
    obtain rfl := Option.some.inj h
    exact hk
theorem lX8_mean_48_L (a1 : Int32) (a2 : Int32) (τ : mm) {r : Option mv} {M' : mm × mm} (z : Int32 × Int32 × mm) (w9 : Int32 × mm) (h : lp (fX8_mean_48_L a1 a2) z = some w9) (hk : (fun q : Int32 × mm => r = some (.inl q.1) ∧ M' = (τ, q.2)) w9) : Vm mX8_mean 4 48 [(0, .inr (.inr (32, 0))), (1, .inl a1), (2, .inl a2), (3, .inl z.1), (4, .inl z.2.1)] [] (τ, z.2.2) r M' :=
  lp_link (S := Int32 × Int32 × mm) (R := Int32 × mm) (body := fX8_mean_48_L a1 a2) (A := fun z : Int32 × Int32 × mm => Vm mX8_mean 4 48 [(0, .inr (.inr (32, 0))), (1, .inl a1), (2, .inl a2), (3, .inl z.1), (4, .inl z.2.1)] [] (τ, z.2.2) r M') (B := fun w : Int32 × mm => (fun q : Int32 × mm => r = some (.inl q.1) ∧ M' = (τ, q.2)) w) (fun z v hb hv => lX8_mean_48 a1 a2 z.1 z.2.1 z.2.2 τ hb hv) z w9 h hk
set_option maxRecDepth 20000 in
theorem lX8_mean_18 (σ τ : mm) {r : Option mv} {M' : mm × mm} {v9 : Int32 × mm} (h : fX8_mean_18 σ = some v9) (hk : (fun q : Int32 × mm => r = some (.inl q.1) ∧ M' = (τ, q.2)) v9) : Vm mX8_mean 4 18 [(0, .inr (.inr (32, 0)))] [] (τ, σ) r M' := by
  unfold fX8_mean_18 at h
  refine Vm.aload_n (n := 19) 0 dX8_mean_18 rfl rfl ?_
  refine Vm.ldc (n := 21) dX8_mean_19 rfl wc_RX8_92 ?_
  replace h := Option.bind_eq_some_iff.mp h
  obtain ⟨q1, h1, h⟩ := h
  refine Vm.callV (Y := mX8_finds) (n := 24) [.inl (-1000000001 : Int32)] dX8_mean_21 rfl wv_RX8_102 omX8_finds rfl in_32 rfl rfl rfl (Nat.le_of_ble_eq_true rfl) (by decide) (kX8_finds (-1000000001 : Int32) σ τ h1) ?_
  obtain rfl := Option.some.inj h
  exact Vm.iret dX8_mean_24 rfl hk.1 hk.2.symm
set_option maxRecDepth 20000 in
theorem lX8_mean_0 (a1 : Int32) (a2 : Int32) (σ τ : mm) {r : Option mv} {M' : mm × mm} {v9 : Int32 × mm} (h : fX8_mean_0 a1 a2 σ = some v9) (hk : (fun q : Int32 × mm => r = some (.inl q.1) ∧ M' = (τ, q.2)) v9) : Vm mX8_mean 4 0 [(0, .inr (.inr (32, 0))), (1, .inl a1), (2, .inl a2)] [] (τ, σ) r M' := by
  unfold fX8_mean_0 at h
  refine Vm.aload_n (n := 1) 0 dX8_mean_0 rfl rfl ?_
  refine Vm.iload_n (n := 2) 1 dX8_mean_1 rfl rfl ?_
  refine Vm.callV (Y := mX8_isLetter) (n := 5) [.inl a1] dX8_mean_2 rfl wv_RX8_115 omX8_isLetter rfl in_32 rfl rfl rfl (Nat.le_of_ble_eq_true rfl) (by decide) (kX8_isLetter a1 σ τ rfl) ?_
  refine Vm.if_eq (n := 8) 18 dX8_mean_5 rfl rfl (fun c9 => ?_) (fun c9 => ?_)
  · replace h := (if_pos c9).symm.trans h
    refine Vm.sub (lv' := [(0, .inr (.inr (32, 0)))]) [0] rfl ?_
    exact lX8_mean_18 σ τ h hk
  · replace h := (if_neg c9).symm.trans h
    refine Vm.iload_n (n := 9) 2 dX8_mean_8 rfl rfl ?_
    refine Vm.i2l (n := 10) dX8_mean_9 rfl ?_
    refine Vm.lconst (n := 11) (v := (0 : Int64)) dX8_mean_10 rfl (by decide) ?_
    refine Vm.lconst (n := 12) (v := (1 : Int64)) dX8_mean_11 rfl (by decide) ?_
    refine Vm.callS (Y := mX8_in) (n := 15) [.inr (.inl a2.toInt64), .inr (.inl (0 : Int64)), .inr (.inl (1 : Int64))] dX8_mean_12 rfl wv_RX8_93 omX8_in rfl rfl (Nat.le_of_ble_eq_true rfl) (by decide) (kX8_in a2.toInt64 (0 : Int64) (1 : Int64) rfl) ?_
    refine Vm.if_ne (n := 18) 25 dX8_mean_15 rfl rfl (fun c9 => ?_) (fun c9 => ?_)
    · replace h := (if_neg c9).symm.trans h
      refine Vm.aload_n (n := 26) 0 dX8_mean_25 rfl rfl ?_
      replace h := Option.bind_eq_some_iff.mp h
      obtain ⟨q1, h1, h⟩ := h
      refine Vm.callVv (Y := mX8_looks) (n := 29) [] dX8_mean_26 rfl wv_RX8_189 omX8_looks rfl in_32 rfl rfl rfl (Nat.le_of_ble_eq_true rfl) (by decide) (kX8_looks σ τ h1) ?_
      refine Vm.aload_n (n := 30) 0 dX8_mean_29 rfl rfl ?_
      refine Vm.gM (n := 33) dX8_mean_30 rfl wf_RX8_176 in_32 rfl (by decide) rfl (by decide) ?_
      refine Vm.if_ne (n := 36) 43 dX8_mean_33 rfl rfl (fun c9 => ?_) (fun c9 => ?_)
      · replace h := (if_neg c9).symm.trans h
        refine Vm.iconst (n := 44) (v := (0 : Int32)) dX8_mean_43 rfl (by decide) ?_
        refine Vm.istore_n (n := 45) (lv' := [(3, .inl (0 : Int32)), (0, .inr (.inr (32, 0))), (1, .inl a1), (2, .inl a2)]) dX8_mean_44 rfl (Nat.le_of_ble_eq_true rfl) rfl ?_
        refine Vm.iconst (n := 46) (v := (0 : Int32)) dX8_mean_45 rfl (by decide) ?_
        refine Vm.istore (n := 48) (lv' := [(4, .inl (0 : Int32)), (3, .inl (0 : Int32)), (0, .inr (.inr (32, 0))), (1, .inl a1), (2, .inl a2)]) dX8_mean_46 rfl (Nat.le_of_ble_eq_true rfl) rfl ?_
        refine Vm.sub (lv' := [(0, .inr (.inr (32, 0))), (1, .inl a1), (2, .inl a2), (3, .inl (0 : Int32)), (4, .inl (0 : Int32))]) [2, 3, 4, 1, 0] rfl ?_
        exact lX8_mean_48_L a1 a2 τ ((0 : Int32), (0 : Int32), q1) _ h hk
      · replace h := (if_pos c9).symm.trans h
        refine Vm.aload_n (n := 37) 0 dX8_mean_36 rfl rfl ?_
        refine Vm.ldc (n := 39) dX8_mean_37 rfl wc_RX8_167 ?_
        replace h := Option.bind_eq_some_iff.mp h
        obtain ⟨q2, h2, h⟩ := h
        refine Vm.callV (Y := mX8_finds) (n := 42) [.inl (-1000000004 : Int32)] dX8_mean_39 rfl wv_RX8_102 omX8_finds rfl in_32 rfl rfl rfl (Nat.le_of_ble_eq_true rfl) (by decide) (kX8_finds (-1000000004 : Int32) q1 τ h2) ?_
        obtain rfl := Option.some.inj h
        exact Vm.iret dX8_mean_42 rfl hk.1 hk.2.symm
    · replace h := (if_pos c9).symm.trans h
      refine Vm.sub (lv' := [(0, .inr (.inr (32, 0)))]) [0] rfl ?_
      exact lX8_mean_18 σ τ h hk
theorem kX8_mean (a1 : Int32) (a2 : Int32) (σ τ : mm) {q : Int32 × mm} (h : fX8_mean a1 a2 σ = some q) : Cx mX8_mean 4 [.inr (.inr (32, 0)), .inl a1, .inl a2] (τ, σ) (some (.inl q.1)) (τ, q.2) :=
  Cx.of (lv := [(0, .inr (.inr (32, 0))), (1, .inl a1), (2, .inl a2)]) (by decide) (fun ad => Nat.le_of_ble_eq_true rfl) (fun ad => rfl) (lX8_mean_0 a1 a2 σ τ h ⟨rfl, rfl⟩)
-- ThinBodiesModel round (I)I
noncomputable def fX8_round_213 (a2 : Int32) (a3 : Int32) (a4 : Int32) (σ : mm) : Option ((Int32 × Int32 × mm) ⊕ (Int32 × mm)) :=
  Option.bind (some (a4 + (1 : Int32))) fun x1 =>
  some (.inl (a2, x1, σ))
noncomputable def fX8_round_212 (a3 : Int32) (a4 : Int32) (s0 : Int32) (σ : mm) : Option ((Int32 × Int32 × mm) ⊕ (Int32 × mm)) :=
  fX8_round_213 s0 a3 a4 σ
noncomputable def fX8_round_157 (a2 : Int32) (a3 : Int32) (a4 : Int32) (a5 : Int32) (a6 : Int32) (σ : mm) : Option ((Int32 × Int32) ⊕ ((Int32 × Int32 × mm) ⊕ (Int32 × mm))) :=
  if (σ.1 32 0 1) ≤ a6 then
  if a2 ≤ a5 then
  Option.map Sum.inr (fX8_round_212 a3 a4 a2 σ)
  else
  Option.map Sum.inr (fX8_round_212 a3 a4 a5 σ)
  else
  Option.bind (rdL σ 48 0 4 a6) fun x1 =>
  Option.bind (rdI σ 56 0 4 a6) fun x2 =>
  Option.bind (some (x1.toInt32 - x2)) fun x3 =>
  Option.bind (some (a5 + (x3 * x3))) fun x4 =>
  Option.bind (some (a6 + (1 : Int32))) fun x5 =>
  some (.inl (x4, x5))
noncomputable def fX8_round_157_L (a2 : Int32) (a3 : Int32) (a4 : Int32) (σ : mm) : Int32 × Int32 → Option ((Int32 × Int32) ⊕ ((Int32 × Int32 × mm) ⊕ (Int32 × mm))) := fun z => fX8_round_157 a2 a3 a4 z.1 z.2 σ
noncomputable def fX8_round_125 (a2 : Int32) (a3 : Int32) (a4 : Int32) (σ : mm) : Option ((Int32 × Int32 × mm) ⊕ (Int32 × mm)) :=
  if a3 ≤ a4 then
  some (.inr ((a2, σ)))
  else
  Option.bind (rdI σ 49 0 4096 a4) fun x1 =>
  if x1 = (fX8_allRows σ) then
  fX8_round_213 a2 a3 a4 σ
  else
  Option.bind (fX8_goesTo a4 σ) fun q2 =>
  lp (fX8_round_157_L a2 a3 a4 q2) ((0 : Int32), (0 : Int32))
noncomputable def fX8_round_125_L (a3 : Int32) : Int32 × Int32 × mm → Option ((Int32 × Int32 × mm) ⊕ (Int32 × mm)) := fun z => fX8_round_125 z.1 a3 z.2.1 z.2.2
noncomputable def fX8_round_110 (a3 : Int32) (s0 : Int32) (σ : mm) : Option ((Int32 × Int32 × mm) ⊕ (Int32 × mm)) :=
  Option.bind (some (a3 + (1 : Int32))) fun x1 =>
  some (.inl (s0, x1, σ))
noncomputable def fX8_round_90 (a2 : Int32) (a3 : Int32) (s0 : Int32) (σ : mm) : Option ((Int32 × Int32 × mm) ⊕ (Int32 × mm)) :=
  if a2 ≤ (s0 * s0) then
  fX8_round_110 a3 a2 σ
  else
  fX8_round_110 a3 (s0 * s0) σ
noncomputable def fX8_round_21 (a2 : Int32) (a3 : Int32) (σ : mm) : Option ((Int32 × Int32 × mm) ⊕ (Int32 × mm)) :=
  if (σ.1 32 0 1) ≤ a3 then
  Option.bind (fX8_points σ) fun q1 =>
  Option.map Sum.inr (lp (fX8_round_125_L q1) (a2, (0 : Int32), σ))
  else
  Option.bind (rdL σ 48 0 4 a3) fun x2 =>
  Option.bind (wrI σ 56 0 4 a3 x2.toInt32) fun σ3 =>
  Option.bind (rdI σ3 56 0 4 a3) fun x4 =>
  Option.bind (rdI σ3 42 0 4 a3) fun x5 =>
  Option.bind (some ((x4 - x5) + (1 : Int32))) fun x6 =>
  Option.bind (rdI σ3 43 0 4 a3) fun x7 =>
  Option.bind (rdI σ3 56 0 4 a3) fun x8 =>
  Option.bind (some ((x7 - x8) + (1 : Int32))) fun x9 =>
  if x9 ≤ x6 then
  fX8_round_90 a2 a3 x9 σ3
  else
  fX8_round_90 a2 a3 x6 σ3
noncomputable def fX8_round_21_L : Int32 × Int32 × mm → Option ((Int32 × Int32 × mm) ⊕ (Int32 × mm)) := fun z => fX8_round_21 z.1 z.2.1 z.2.2
noncomputable def fX8_round_0 (a1 : Int32) (σ : mm) : Option (Int32 × mm) :=
  Option.bind (fX8_isIn a1 σ) fun q1 =>
  if (bi q1.1) = (0 : Int32) then
  Option.bind (fX8_finds (-1000000004 : Int32) q1.2) fun q2 =>
  some ((q2.1, q2.2))
  else
  lp (fX8_round_21_L) ((10000 : Int32), (0 : Int32), q1.2)
noncomputable def fX8_round (a1 : Int32) (σ : mm) : Option (Int32 × mm) := fX8_round_0 a1 σ
set_option maxRecDepth 20000 in
theorem lX8_round_213 (a2 : Int32) (a3 : Int32) (a4 : Int32) (σ τ : mm) {r : Option mv} {M' : mm × mm} {v9 : (Int32 × Int32 × mm) ⊕ (Int32 × mm)} (h : fX8_round_213 a2 a3 a4 σ = some v9) (hk : (Sum.elim (fun z : Int32 × Int32 × mm => Vm mX8_round 5 125 [(0, .inr (.inr (32, 0))), (2, .inl z.1), (3, .inl a3), (4, .inl z.2.1)] [] (τ, z.2.2) r M') (fun q : Int32 × mm => r = some (.inl q.1) ∧ M' = (τ, q.2))) v9) : Vm mX8_round 5 213 [(0, .inr (.inr (32, 0))), (2, .inl a2), (3, .inl a3), (4, .inl a4)] [] (τ, σ) r M' := by
  unfold fX8_round_213 at h
  replace h := Option.bind_eq_some_iff.mp h
  obtain ⟨x1, e1, h⟩ := h
  replace e1 := Option.some.inj e1
  refine Vm.iinc (n := 216) (v := x1) (lv' := [(4, .inl x1), (0, .inr (.inr (32, 0))), (2, .inl a2), (3, .inl a3)]) 3 dX8_round_213 rfl rfl e1 (Nat.le_of_ble_eq_true rfl) rfl ?_
  refine Vm.goto 125 dX8_round_216 rfl ?_
  refine Vm.sub (lv' := [(0, .inr (.inr (32, 0))), (2, .inl a2), (3, .inl a3), (4, .inl x1)]) [1, 2, 3, 0] rfl ?_
  obtain rfl := Option.some.inj h
  exact hk
set_option maxRecDepth 20000 in
theorem lX8_round_212 (a3 : Int32) (a4 : Int32) (s0 : Int32) (σ τ : mm) {r : Option mv} {M' : mm × mm} {v9 : (Int32 × Int32 × mm) ⊕ (Int32 × mm)} (h : fX8_round_212 a3 a4 s0 σ = some v9) (hk : (Sum.elim (fun z : Int32 × Int32 × mm => Vm mX8_round 5 125 [(0, .inr (.inr (32, 0))), (2, .inl z.1), (3, .inl a3), (4, .inl z.2.1)] [] (τ, z.2.2) r M') (fun q : Int32 × mm => r = some (.inl q.1) ∧ M' = (τ, q.2))) v9) : Vm mX8_round 5 212 [(0, .inr (.inr (32, 0))), (3, .inl a3), (4, .inl a4)] [.inl s0] (τ, σ) r M' := by
  unfold fX8_round_212 at h
  refine Vm.istore_n (n := 213) (lv' := [(2, .inl s0), (0, .inr (.inr (32, 0))), (3, .inl a3), (4, .inl a4)]) dX8_round_212 rfl (Nat.le_of_ble_eq_true rfl) rfl ?_
  refine Vm.sub (lv' := [(0, .inr (.inr (32, 0))), (2, .inl s0), (3, .inl a3), (4, .inl a4)]) [1, 0, 2, 3] rfl ?_
  exact lX8_round_213 s0 a3 a4 σ τ h hk
set_option maxRecDepth 20000 in
theorem lX8_round_157 (a2 : Int32) (a3 : Int32) (a4 : Int32) (a5 : Int32) (a6 : Int32) (σ τ : mm) {r : Option mv} {M' : mm × mm} {v9 : (Int32 × Int32) ⊕ ((Int32 × Int32 × mm) ⊕ (Int32 × mm))} (h : fX8_round_157 a2 a3 a4 a5 a6 σ = some v9) (hk : (Sum.elim (fun z : Int32 × Int32 => Vm mX8_round 5 157 [(0, .inr (.inr (32, 0))), (2, .inl a2), (3, .inl a3), (4, .inl a4), (5, .inl z.1), (6, .inl z.2)] [] (τ, σ) r M') (Sum.elim (fun z : Int32 × Int32 × mm => Vm mX8_round 5 125 [(0, .inr (.inr (32, 0))), (2, .inl z.1), (3, .inl a3), (4, .inl z.2.1)] [] (τ, z.2.2) r M') (fun q : Int32 × mm => r = some (.inl q.1) ∧ M' = (τ, q.2)))) v9) : Vm mX8_round 5 157 [(0, .inr (.inr (32, 0))), (2, .inl a2), (3, .inl a3), (4, .inl a4), (5, .inl a5), (6, .inl a6)] [] (τ, σ) r M' := by
  unfold fX8_round_157 at h
  refine Vm.iload (n := 159) 5 dX8_round_157 rfl rfl ?_
  refine Vm.aload_n (n := 160) 0 dX8_round_159 rfl rfl ?_
  refine Vm.gM (n := 163) dX8_round_160 rfl wf_RX8_13 in_32 rfl (by decide) rfl (by decide) ?_
  refine Vm.icmp_ge (n := 166) 200 dX8_round_163 rfl rfl (fun c9 => ?_) (fun c9 => ?_)
  · replace h := (if_pos c9).symm.trans h
    refine Vm.iload (n := 202) 4 dX8_round_200 rfl rfl ?_
    refine Vm.iload_n (n := 203) 1 dX8_round_202 rfl rfl ?_
    refine Vm.icmp_ge (n := 206) 211 dX8_round_203 rfl rfl (fun c9 => ?_) (fun c9 => ?_)
    · replace h := (if_pos c9).symm.trans h
      refine Vm.iload_n (n := 212) 1 dX8_round_211 rfl rfl ?_
      refine Vm.sub (lv' := [(0, .inr (.inr (32, 0))), (3, .inl a3), (4, .inl a4)]) [0, 2, 3] rfl ?_
      replace h := Option.map_eq_some_iff.mp h
      obtain ⟨w9, h, e8⟩ := h
      subst e8
      exact lX8_round_212 a3 a4 a2 σ τ h hk
    · replace h := (if_neg c9).symm.trans h
      refine Vm.iload (n := 208) 4 dX8_round_206 rfl rfl ?_
      refine Vm.goto 212 dX8_round_208 rfl ?_
      refine Vm.sub (lv' := [(0, .inr (.inr (32, 0))), (3, .inl a3), (4, .inl a4)]) [0, 2, 3] rfl ?_
      replace h := Option.map_eq_some_iff.mp h
      obtain ⟨w9, h, e8⟩ := h
      subst e8
      exact lX8_round_212 a3 a4 a5 σ τ h hk
  · replace h := (if_neg c9).symm.trans h
    refine Vm.aload_n (n := 167) 0 dX8_round_166 rfl rfl ?_
    refine Vm.getR (n := 170) dX8_round_167 rfl wf_RX8_32 in_32 rfl (by decide) rfl ?_
    refine Vm.iload (n := 172) 5 dX8_round_170 rfl rfl ?_
    replace h := Option.bind_eq_some_iff.mp h
    obtain ⟨x1, h1, h⟩ := h
    refine Vm.laldm (n := 173) dX8_round_172 rfl in_48 rfl rfl (by decide) h1 ?_
    refine Vm.l2i (n := 174) dX8_round_173 rfl ?_
    refine Vm.aload_n (n := 175) 0 dX8_round_174 rfl rfl ?_
    refine Vm.getR (n := 178) dX8_round_175 rfl wf_RX8_45 in_32 rfl (by decide) rfl ?_
    refine Vm.iload (n := 180) 5 dX8_round_178 rfl rfl ?_
    replace h := Option.bind_eq_some_iff.mp h
    obtain ⟨x2, h2, h⟩ := h
    refine Vm.ialdm (n := 181) dX8_round_180 rfl in_56 rfl rfl (by decide) h2 ?_
    refine Vm.isub (n := 182) dX8_round_181 rfl ?_
    replace h := Option.bind_eq_some_iff.mp h
    obtain ⟨x3, e3, h⟩ := h
    replace e3 := Option.some.inj e3
    refine Vm.top e3 ?_
    refine Vm.istore (n := 184) (lv' := [(7, .inl x3), (0, .inr (.inr (32, 0))), (2, .inl a2), (3, .inl a3), (4, .inl a4), (5, .inl a5), (6, .inl a6)]) dX8_round_182 rfl (Nat.le_of_ble_eq_true rfl) rfl ?_
    refine Vm.iload (n := 186) 5 dX8_round_184 rfl rfl ?_
    refine Vm.iload (n := 188) 0 dX8_round_186 rfl rfl ?_
    refine Vm.iload (n := 190) 0 dX8_round_188 rfl rfl ?_
    refine Vm.imul (n := 191) dX8_round_190 rfl ?_
    refine Vm.iadd (n := 192) dX8_round_191 rfl ?_
    replace h := Option.bind_eq_some_iff.mp h
    obtain ⟨x4, e4, h⟩ := h
    replace e4 := Option.some.inj e4
    refine Vm.top e4 ?_
    refine Vm.istore (n := 194) (lv' := [(5, .inl x4), (7, .inl x3), (0, .inr (.inr (32, 0))), (2, .inl a2), (3, .inl a3), (4, .inl a4), (6, .inl a6)]) dX8_round_192 rfl (Nat.le_of_ble_eq_true rfl) rfl ?_
    replace h := Option.bind_eq_some_iff.mp h
    obtain ⟨x5, e5, h⟩ := h
    replace e5 := Option.some.inj e5
    refine Vm.iinc (n := 197) (v := x5) (lv' := [(6, .inl x5), (5, .inl x4), (7, .inl x3), (0, .inr (.inr (32, 0))), (2, .inl a2), (3, .inl a3), (4, .inl a4)]) 6 dX8_round_194 rfl rfl e5 (Nat.le_of_ble_eq_true rfl) rfl ?_
    refine Vm.goto 157 dX8_round_197 rfl ?_
    refine Vm.sub (lv' := [(0, .inr (.inr (32, 0))), (2, .inl a2), (3, .inl a3), (4, .inl a4), (5, .inl x4), (6, .inl x5)]) [3, 4, 5, 6, 1, 0] rfl ?_
    obtain rfl := Option.some.inj h
    exact hk
theorem lX8_round_157_L (a2 : Int32) (a3 : Int32) (a4 : Int32) (σ τ : mm) {r : Option mv} {M' : mm × mm} (z : Int32 × Int32) (w9 : (Int32 × Int32 × mm) ⊕ (Int32 × mm)) (h : lp (fX8_round_157_L a2 a3 a4 σ) z = some w9) (hk : (Sum.elim (fun z : Int32 × Int32 × mm => Vm mX8_round 5 125 [(0, .inr (.inr (32, 0))), (2, .inl z.1), (3, .inl a3), (4, .inl z.2.1)] [] (τ, z.2.2) r M') (fun q : Int32 × mm => r = some (.inl q.1) ∧ M' = (τ, q.2))) w9) : Vm mX8_round 5 157 [(0, .inr (.inr (32, 0))), (2, .inl a2), (3, .inl a3), (4, .inl a4), (5, .inl z.1), (6, .inl z.2)] [] (τ, σ) r M' :=
  lp_link (S := Int32 × Int32) (R := (Int32 × Int32 × mm) ⊕ (Int32 × mm)) (body := fX8_round_157_L a2 a3 a4 σ) (A := fun z : Int32 × Int32 => Vm mX8_round 5 157 [(0, .inr (.inr (32, 0))), (2, .inl a2), (3, .inl a3), (4, .inl a4), (5, .inl z.1), (6, .inl z.2)] [] (τ, σ) r M') (B := fun w : (Int32 × Int32 × mm) ⊕ (Int32 × mm) => (Sum.elim (fun z : Int32 × Int32 × mm => Vm mX8_round 5 125 [(0, .inr (.inr (32, 0))), (2, .inl z.1), (3, .inl a3), (4, .inl z.2.1)] [] (τ, z.2.2) r M') (fun q : Int32 × mm => r = some (.inl q.1) ∧ M' = (τ, q.2))) w) (fun z v hb hv => lX8_round_157 a2 a3 a4 z.1 z.2 σ τ hb hv) z w9 h hk
set_option maxRecDepth 20000 in
theorem lX8_round_125 (a2 : Int32) (a3 : Int32) (a4 : Int32) (σ τ : mm) {r : Option mv} {M' : mm × mm} {v9 : (Int32 × Int32 × mm) ⊕ (Int32 × mm)} (h : fX8_round_125 a2 a3 a4 σ = some v9) (hk : (Sum.elim (fun z : Int32 × Int32 × mm => Vm mX8_round 5 125 [(0, .inr (.inr (32, 0))), (2, .inl z.1), (3, .inl a3), (4, .inl z.2.1)] [] (τ, z.2.2) r M') (fun q : Int32 × mm => r = some (.inl q.1) ∧ M' = (τ, q.2))) v9) : Vm mX8_round 5 125 [(0, .inr (.inr (32, 0))), (2, .inl a2), (3, .inl a3), (4, .inl a4)] [] (τ, σ) r M' := by
  unfold fX8_round_125 at h
  refine Vm.iload (n := 127) 3 dX8_round_125 rfl rfl ?_
  refine Vm.iload_n (n := 128) 2 dX8_round_127 rfl rfl ?_
  refine Vm.icmp_ge (n := 131) 219 dX8_round_128 rfl rfl (fun c9 => ?_) (fun c9 => ?_)
  · replace h := (if_pos c9).symm.trans h
    refine Vm.iload_n (n := 220) 1 dX8_round_219 rfl rfl ?_
    obtain rfl := Option.some.inj h
    exact Vm.iret dX8_round_220 rfl hk.1 hk.2.symm
  · replace h := (if_neg c9).symm.trans h
    refine Vm.aload_n (n := 132) 0 dX8_round_131 rfl rfl ?_
    refine Vm.getR (n := 135) dX8_round_132 rfl wf_RX8_36 in_32 rfl (by decide) rfl ?_
    refine Vm.iload (n := 137) 3 dX8_round_135 rfl rfl ?_
    replace h := Option.bind_eq_some_iff.mp h
    obtain ⟨x1, h1, h⟩ := h
    refine Vm.ialdm (n := 138) dX8_round_137 rfl in_49 rfl rfl (by decide) h1 ?_
    refine Vm.aload_n (n := 139) 0 dX8_round_138 rfl rfl ?_
    refine Vm.callV (Y := mX8_allRows) (n := 142) [] dX8_round_139 rfl wv_RX8_186 omX8_allRows rfl in_32 rfl rfl rfl (Nat.le_of_ble_eq_true rfl) (by decide) (kX8_allRows σ τ rfl) ?_
    refine Vm.icmp_eq (n := 145) 213 dX8_round_142 rfl rfl (fun c9 => ?_) (fun c9 => ?_)
    · replace h := (if_pos c9).symm.trans h
      exact lX8_round_213 a2 a3 a4 σ τ h hk
    · replace h := (if_neg c9).symm.trans h
      refine Vm.aload_n (n := 146) 0 dX8_round_145 rfl rfl ?_
      refine Vm.iload (n := 148) 3 dX8_round_146 rfl rfl ?_
      replace h := Option.bind_eq_some_iff.mp h
      obtain ⟨q2, h2, h⟩ := h
      refine Vm.callVv (Y := mX8_goesTo) (n := 151) [.inl a4] dX8_round_148 rfl wv_RX8_179 omX8_goesTo rfl in_32 rfl rfl rfl (Nat.le_of_ble_eq_true rfl) (by decide) (kX8_goesTo a4 σ τ h2) ?_
      refine Vm.iconst (n := 152) (v := (0 : Int32)) dX8_round_151 rfl (by decide) ?_
      refine Vm.istore (n := 154) (lv' := [(5, .inl (0 : Int32)), (0, .inr (.inr (32, 0))), (2, .inl a2), (3, .inl a3), (4, .inl a4)]) dX8_round_152 rfl (Nat.le_of_ble_eq_true rfl) rfl ?_
      refine Vm.iconst (n := 155) (v := (0 : Int32)) dX8_round_154 rfl (by decide) ?_
      refine Vm.istore (n := 157) (lv' := [(6, .inl (0 : Int32)), (5, .inl (0 : Int32)), (0, .inr (.inr (32, 0))), (2, .inl a2), (3, .inl a3), (4, .inl a4)]) dX8_round_155 rfl (Nat.le_of_ble_eq_true rfl) rfl ?_
      refine Vm.sub (lv' := [(0, .inr (.inr (32, 0))), (2, .inl a2), (3, .inl a3), (4, .inl a4), (5, .inl (0 : Int32)), (6, .inl (0 : Int32))]) [2, 3, 4, 5, 1, 0] rfl ?_
      exact lX8_round_157_L a2 a3 a4 q2 τ ((0 : Int32), (0 : Int32)) _ h hk
theorem lX8_round_125_L (a3 : Int32) (τ : mm) {r : Option mv} {M' : mm × mm} (z : Int32 × Int32 × mm) (w9 : Int32 × mm) (h : lp (fX8_round_125_L a3) z = some w9) (hk : (fun q : Int32 × mm => r = some (.inl q.1) ∧ M' = (τ, q.2)) w9) : Vm mX8_round 5 125 [(0, .inr (.inr (32, 0))), (2, .inl z.1), (3, .inl a3), (4, .inl z.2.1)] [] (τ, z.2.2) r M' :=
  lp_link (S := Int32 × Int32 × mm) (R := Int32 × mm) (body := fX8_round_125_L a3) (A := fun z : Int32 × Int32 × mm => Vm mX8_round 5 125 [(0, .inr (.inr (32, 0))), (2, .inl z.1), (3, .inl a3), (4, .inl z.2.1)] [] (τ, z.2.2) r M') (B := fun w : Int32 × mm => (fun q : Int32 × mm => r = some (.inl q.1) ∧ M' = (τ, q.2)) w) (fun z v hb hv => lX8_round_125 z.1 a3 z.2.1 z.2.2 τ hb hv) z w9 h hk
set_option maxRecDepth 20000 in
theorem lX8_round_110 (a3 : Int32) (s0 : Int32) (σ τ : mm) {r : Option mv} {M' : mm × mm} {v9 : (Int32 × Int32 × mm) ⊕ (Int32 × mm)} (h : fX8_round_110 a3 s0 σ = some v9) (hk : (Sum.elim (fun z : Int32 × Int32 × mm => Vm mX8_round 5 21 [(0, .inr (.inr (32, 0))), (2, .inl z.1), (3, .inl z.2.1)] [] (τ, z.2.2) r M') (fun q : Int32 × mm => r = some (.inl q.1) ∧ M' = (τ, q.2))) v9) : Vm mX8_round 5 110 [(0, .inr (.inr (32, 0))), (3, .inl a3)] [.inl s0] (τ, σ) r M' := by
  unfold fX8_round_110 at h
  refine Vm.istore_n (n := 111) (lv' := [(2, .inl s0), (0, .inr (.inr (32, 0))), (3, .inl a3)]) dX8_round_110 rfl (Nat.le_of_ble_eq_true rfl) rfl ?_
  replace h := Option.bind_eq_some_iff.mp h
  obtain ⟨x1, e1, h⟩ := h
  replace e1 := Option.some.inj e1
  refine Vm.iinc (n := 114) (v := x1) (lv' := [(3, .inl x1), (2, .inl s0), (0, .inr (.inr (32, 0)))]) 2 dX8_round_111 rfl rfl e1 (Nat.le_of_ble_eq_true rfl) rfl ?_
  refine Vm.goto 21 dX8_round_114 rfl ?_
  refine Vm.sub (lv' := [(0, .inr (.inr (32, 0))), (2, .inl s0), (3, .inl x1)]) [2, 1, 0] rfl ?_
  obtain rfl := Option.some.inj h
  exact hk
set_option maxRecDepth 20000 in
theorem lX8_round_90 (a2 : Int32) (a3 : Int32) (s0 : Int32) (σ τ : mm) {r : Option mv} {M' : mm × mm} {v9 : (Int32 × Int32 × mm) ⊕ (Int32 × mm)} (h : fX8_round_90 a2 a3 s0 σ = some v9) (hk : (Sum.elim (fun z : Int32 × Int32 × mm => Vm mX8_round 5 21 [(0, .inr (.inr (32, 0))), (2, .inl z.1), (3, .inl z.2.1)] [] (τ, z.2.2) r M') (fun q : Int32 × mm => r = some (.inl q.1) ∧ M' = (τ, q.2))) v9) : Vm mX8_round 5 90 [(0, .inr (.inr (32, 0))), (2, .inl a2), (3, .inl a3)] [.inl s0] (τ, σ) r M' := by
  unfold fX8_round_90 at h
  refine Vm.istore (n := 92) (lv' := [(6, .inl s0), (0, .inr (.inr (32, 0))), (2, .inl a2), (3, .inl a3)]) dX8_round_90 rfl (Nat.le_of_ble_eq_true rfl) rfl ?_
  refine Vm.iload (n := 94) 0 dX8_round_92 rfl rfl ?_
  refine Vm.iload (n := 96) 0 dX8_round_94 rfl rfl ?_
  refine Vm.imul (n := 97) dX8_round_96 rfl ?_
  refine Vm.iload_n (n := 98) 2 dX8_round_97 rfl rfl ?_
  refine Vm.icmp_ge (n := 101) 109 dX8_round_98 rfl rfl (fun c9 => ?_) (fun c9 => ?_)
  · replace h := (if_pos c9).symm.trans h
    refine Vm.iload_n (n := 110) 2 dX8_round_109 rfl rfl ?_
    refine Vm.sub (lv' := [(0, .inr (.inr (32, 0))), (3, .inl a3)]) [1, 3] rfl ?_
    exact lX8_round_110 a3 a2 σ τ h hk
  · replace h := (if_neg c9).symm.trans h
    refine Vm.iload (n := 103) 0 dX8_round_101 rfl rfl ?_
    refine Vm.iload (n := 105) 0 dX8_round_103 rfl rfl ?_
    refine Vm.imul (n := 106) dX8_round_105 rfl ?_
    refine Vm.goto 110 dX8_round_106 rfl ?_
    refine Vm.sub (lv' := [(0, .inr (.inr (32, 0))), (3, .inl a3)]) [1, 3] rfl ?_
    exact lX8_round_110 a3 (s0 * s0) σ τ h hk
set_option maxRecDepth 20000 in
theorem lX8_round_21 (a2 : Int32) (a3 : Int32) (σ τ : mm) {r : Option mv} {M' : mm × mm} {v9 : (Int32 × Int32 × mm) ⊕ (Int32 × mm)} (h : fX8_round_21 a2 a3 σ = some v9) (hk : (Sum.elim (fun z : Int32 × Int32 × mm => Vm mX8_round 5 21 [(0, .inr (.inr (32, 0))), (2, .inl z.1), (3, .inl z.2.1)] [] (τ, z.2.2) r M') (fun q : Int32 × mm => r = some (.inl q.1) ∧ M' = (τ, q.2))) v9) : Vm mX8_round 5 21 [(0, .inr (.inr (32, 0))), (2, .inl a2), (3, .inl a3)] [] (τ, σ) r M' := by
  unfold fX8_round_21 at h
  refine Vm.iload_n (n := 22) 2 dX8_round_21 rfl rfl ?_
  refine Vm.aload_n (n := 23) 0 dX8_round_22 rfl rfl ?_
  refine Vm.gM (n := 26) dX8_round_23 rfl wf_RX8_13 in_32 rfl (by decide) rfl (by decide) ?_
  refine Vm.icmp_ge (n := 29) 117 dX8_round_26 rfl rfl (fun c9 => ?_) (fun c9 => ?_)
  · replace h := (if_pos c9).symm.trans h
    refine Vm.aload_n (n := 118) 0 dX8_round_117 rfl rfl ?_
    replace h := Option.bind_eq_some_iff.mp h
    obtain ⟨q1, h1, h⟩ := h
    refine Vm.callV (Y := mX8_points) (n := 121) [] dX8_round_118 rfl wv_RX8_111 omX8_points rfl in_32 rfl rfl rfl (Nat.le_of_ble_eq_true rfl) (by decide) (kX8_points σ τ h1) ?_
    refine Vm.istore_n (n := 122) (lv' := [(3, .inl q1), (0, .inr (.inr (32, 0))), (2, .inl a2)]) dX8_round_121 rfl (Nat.le_of_ble_eq_true rfl) rfl ?_
    refine Vm.iconst (n := 123) (v := (0 : Int32)) dX8_round_122 rfl (by decide) ?_
    refine Vm.istore (n := 125) (lv' := [(4, .inl (0 : Int32)), (3, .inl q1), (0, .inr (.inr (32, 0))), (2, .inl a2)]) dX8_round_123 rfl (Nat.le_of_ble_eq_true rfl) rfl ?_
    refine Vm.sub (lv' := [(0, .inr (.inr (32, 0))), (2, .inl a2), (3, .inl q1), (4, .inl (0 : Int32))]) [2, 3, 1, 0] rfl ?_
    replace h := Option.map_eq_some_iff.mp h
    obtain ⟨w9, h, e8⟩ := h
    subst e8
    exact lX8_round_125_L q1 τ (a2, (0 : Int32), σ) _ h hk
  · replace h := (if_neg c9).symm.trans h
    refine Vm.aload_n (n := 30) 0 dX8_round_29 rfl rfl ?_
    refine Vm.getR (n := 33) dX8_round_30 rfl wf_RX8_45 in_32 rfl (by decide) rfl ?_
    refine Vm.iload_n (n := 34) 2 dX8_round_33 rfl rfl ?_
    refine Vm.aload_n (n := 35) 0 dX8_round_34 rfl rfl ?_
    refine Vm.getR (n := 38) dX8_round_35 rfl wf_RX8_32 in_32 rfl (by decide) rfl ?_
    refine Vm.iload_n (n := 39) 2 dX8_round_38 rfl rfl ?_
    replace h := Option.bind_eq_some_iff.mp h
    obtain ⟨x2, h2, h⟩ := h
    refine Vm.laldm (n := 40) dX8_round_39 rfl in_48 rfl rfl (by decide) h2 ?_
    refine Vm.l2i (n := 41) dX8_round_40 rfl ?_
    replace h := Option.bind_eq_some_iff.mp h
    obtain ⟨σ3, h3, h⟩ := h
    refine Vm.iastm (n := 42) dX8_round_41 rfl in_56 rfl rfl (by decide) h3 ?_
    refine Vm.aload_n (n := 43) 0 dX8_round_42 rfl rfl ?_
    refine Vm.getR (n := 46) dX8_round_43 rfl wf_RX8_45 in_32 rfl (by decide) rfl ?_
    refine Vm.iload_n (n := 47) 2 dX8_round_46 rfl rfl ?_
    replace h := Option.bind_eq_some_iff.mp h
    obtain ⟨x4, h4, h⟩ := h
    refine Vm.ialdm (n := 48) dX8_round_47 rfl in_56 rfl rfl (by decide) h4 ?_
    refine Vm.aload_n (n := 49) 0 dX8_round_48 rfl rfl ?_
    refine Vm.getR (n := 52) dX8_round_49 rfl wf_RX8_17 in_32 rfl (by decide) rfl ?_
    refine Vm.iload_n (n := 53) 2 dX8_round_52 rfl rfl ?_
    replace h := Option.bind_eq_some_iff.mp h
    obtain ⟨x5, h5, h⟩ := h
    refine Vm.ialdm (n := 54) dX8_round_53 rfl in_42 rfl rfl (by decide) h5 ?_
    refine Vm.isub (n := 55) dX8_round_54 rfl ?_
    refine Vm.iconst (n := 56) (v := (1 : Int32)) dX8_round_55 rfl (by decide) ?_
    refine Vm.iadd (n := 57) dX8_round_56 rfl ?_
    replace h := Option.bind_eq_some_iff.mp h
    obtain ⟨x6, e6, h⟩ := h
    replace e6 := Option.some.inj e6
    refine Vm.top e6 ?_
    refine Vm.istore (n := 59) (lv' := [(4, .inl x6), (0, .inr (.inr (32, 0))), (2, .inl a2), (3, .inl a3)]) dX8_round_57 rfl (Nat.le_of_ble_eq_true rfl) rfl ?_
    refine Vm.aload_n (n := 60) 1 dX8_round_59 rfl rfl ?_
    refine Vm.getR (n := 63) dX8_round_60 rfl wf_RX8_20 in_32 rfl (by decide) rfl ?_
    refine Vm.iload_n (n := 64) 3 dX8_round_63 rfl rfl ?_
    replace h := Option.bind_eq_some_iff.mp h
    obtain ⟨x7, h7, h⟩ := h
    refine Vm.ialdm (n := 65) dX8_round_64 rfl in_43 rfl rfl (by decide) h7 ?_
    refine Vm.aload_n (n := 66) 1 dX8_round_65 rfl rfl ?_
    refine Vm.getR (n := 69) dX8_round_66 rfl wf_RX8_45 in_32 rfl (by decide) rfl ?_
    refine Vm.iload_n (n := 70) 3 dX8_round_69 rfl rfl ?_
    replace h := Option.bind_eq_some_iff.mp h
    obtain ⟨x8, h8, h⟩ := h
    refine Vm.ialdm (n := 71) dX8_round_70 rfl in_56 rfl rfl (by decide) h8 ?_
    refine Vm.isub (n := 72) dX8_round_71 rfl ?_
    refine Vm.iconst (n := 73) (v := (1 : Int32)) dX8_round_72 rfl (by decide) ?_
    refine Vm.iadd (n := 74) dX8_round_73 rfl ?_
    replace h := Option.bind_eq_some_iff.mp h
    obtain ⟨x9, e9, h⟩ := h
    replace e9 := Option.some.inj e9
    refine Vm.top e9 ?_
    refine Vm.istore (n := 76) (lv' := [(5, .inl x9), (4, .inl x6), (0, .inr (.inr (32, 0))), (2, .inl a2), (3, .inl a3)]) dX8_round_74 rfl (Nat.le_of_ble_eq_true rfl) rfl ?_
    refine Vm.iload (n := 78) 1 dX8_round_76 rfl rfl ?_
    refine Vm.iload (n := 80) 0 dX8_round_78 rfl rfl ?_
    refine Vm.icmp_ge (n := 83) 88 dX8_round_80 rfl rfl (fun c9 => ?_) (fun c9 => ?_)
    · replace h := (if_pos c9).symm.trans h
      refine Vm.iload (n := 90) 0 dX8_round_88 rfl rfl ?_
      refine Vm.sub (lv' := [(0, .inr (.inr (32, 0))), (2, .inl a2), (3, .inl a3)]) [2, 3, 4] rfl ?_
      exact lX8_round_90 a2 a3 x9 σ3 τ h hk
    · replace h := (if_neg c9).symm.trans h
      refine Vm.iload (n := 85) 1 dX8_round_83 rfl rfl ?_
      refine Vm.goto 90 dX8_round_85 rfl ?_
      refine Vm.sub (lv' := [(0, .inr (.inr (32, 0))), (2, .inl a2), (3, .inl a3)]) [2, 3, 4] rfl ?_
      exact lX8_round_90 a2 a3 x6 σ3 τ h hk
theorem lX8_round_21_L (τ : mm) {r : Option mv} {M' : mm × mm} (z : Int32 × Int32 × mm) (w9 : Int32 × mm) (h : lp (fX8_round_21_L) z = some w9) (hk : (fun q : Int32 × mm => r = some (.inl q.1) ∧ M' = (τ, q.2)) w9) : Vm mX8_round 5 21 [(0, .inr (.inr (32, 0))), (2, .inl z.1), (3, .inl z.2.1)] [] (τ, z.2.2) r M' :=
  lp_link (S := Int32 × Int32 × mm) (R := Int32 × mm) (body := fX8_round_21_L) (A := fun z : Int32 × Int32 × mm => Vm mX8_round 5 21 [(0, .inr (.inr (32, 0))), (2, .inl z.1), (3, .inl z.2.1)] [] (τ, z.2.2) r M') (B := fun w : Int32 × mm => (fun q : Int32 × mm => r = some (.inl q.1) ∧ M' = (τ, q.2)) w) (fun z v hb hv => lX8_round_21 z.1 z.2.1 z.2.2 τ hb hv) z w9 h hk
set_option maxRecDepth 20000 in
theorem lX8_round_0 (a1 : Int32) (σ τ : mm) {r : Option mv} {M' : mm × mm} {v9 : Int32 × mm} (h : fX8_round_0 a1 σ = some v9) (hk : (fun q : Int32 × mm => r = some (.inl q.1) ∧ M' = (τ, q.2)) v9) : Vm mX8_round 5 0 [(0, .inr (.inr (32, 0))), (1, .inl a1)] [] (τ, σ) r M' := by
  unfold fX8_round_0 at h
  refine Vm.aload_n (n := 1) 0 dX8_round_0 rfl rfl ?_
  refine Vm.iload_n (n := 2) 1 dX8_round_1 rfl rfl ?_
  replace h := Option.bind_eq_some_iff.mp h
  obtain ⟨q1, h1, h⟩ := h
  refine Vm.callV (Y := mX8_isIn) (n := 5) [.inl a1] dX8_round_2 rfl wv_RX8_192 omX8_isIn rfl in_32 rfl rfl rfl (Nat.le_of_ble_eq_true rfl) (by decide) (kX8_isIn a1 σ τ h1) ?_
  refine Vm.if_ne (n := 8) 15 dX8_round_5 rfl rfl (fun c9 => ?_) (fun c9 => ?_)
  · replace h := (if_neg c9).symm.trans h
    refine Vm.sipush (n := 18) (v := (10000 : Int32)) dX8_round_15 rfl (by decide) ?_
    refine Vm.istore_n (n := 19) (lv' := [(2, .inl (10000 : Int32)), (0, .inr (.inr (32, 0))), (1, .inl a1)]) dX8_round_18 rfl (Nat.le_of_ble_eq_true rfl) rfl ?_
    refine Vm.iconst (n := 20) (v := (0 : Int32)) dX8_round_19 rfl (by decide) ?_
    refine Vm.istore_n (n := 21) (lv' := [(3, .inl (0 : Int32)), (2, .inl (10000 : Int32)), (0, .inr (.inr (32, 0))), (1, .inl a1)]) dX8_round_20 rfl (Nat.le_of_ble_eq_true rfl) rfl ?_
    refine Vm.sub (lv' := [(0, .inr (.inr (32, 0))), (2, .inl (10000 : Int32)), (3, .inl (0 : Int32))]) [2, 1, 0] rfl ?_
    exact lX8_round_21_L τ ((10000 : Int32), (0 : Int32), q1.2) _ h hk
  · replace h := (if_pos c9).symm.trans h
    refine Vm.aload_n (n := 9) 0 dX8_round_8 rfl rfl ?_
    refine Vm.ldc (n := 11) dX8_round_9 rfl wc_RX8_167 ?_
    replace h := Option.bind_eq_some_iff.mp h
    obtain ⟨q2, h2, h⟩ := h
    refine Vm.callV (Y := mX8_finds) (n := 14) [.inl (-1000000004 : Int32)] dX8_round_11 rfl wv_RX8_102 omX8_finds rfl in_32 rfl rfl rfl (Nat.le_of_ble_eq_true rfl) (by decide) (kX8_finds (-1000000004 : Int32) q1.2 τ h2) ?_
    obtain rfl := Option.some.inj h
    exact Vm.iret dX8_round_14 rfl hk.1 hk.2.symm
theorem kX8_round (a1 : Int32) (σ τ : mm) {q : Int32 × mm} (h : fX8_round a1 σ = some q) : Cx mX8_round 5 [.inr (.inr (32, 0)), .inl a1] (τ, σ) (some (.inl q.1)) (τ, q.2) :=
  Cx.of (lv := [(0, .inr (.inr (32, 0))), (1, .inl a1)]) (by decide) (fun ad => Nat.le_of_ble_eq_true rfl) (fun ad => rfl) (lX8_round_0 a1 σ τ h ⟨rfl, rfl⟩)
-- ThinBodiesModel anyOf (III)Z
noncomputable def fX8_anyOf_41 (a1 : Int32) (a3 : Int32) (a5 : Int32) (s0 : Int32) (σ : mm) : Option ((Int32 × Int32) ⊕ (Bool)) :=
  Option.bind (some (a5 + (1 : Int32))) fun x1 =>
  some (.inl (s0, x1))
noncomputable def fX8_anyOf_36 (a1 : Int32) (a3 : Int32) (a5 : Int32) (σ : mm) : Option ((Int32 × Int32) ⊕ (Bool)) :=
  fX8_anyOf_41 a1 a3 a5 (1 : Int32) σ
noncomputable def fX8_anyOf_6 (a1 : Int32) (a3 : Int32) (a4 : Int32) (a5 : Int32) (σ : mm) : Option ((Int32 × Int32) ⊕ (Bool)) :=
  if a3 < a5 then
  Option.bind (zr a4) fun b1 =>
  some (.inr (b1))
  else
  if a4 = (0 : Int32) then
  Option.bind (fX8_at a1 (1 : Int32) σ) fun q2 =>
  Option.bind (fX8_at a1 (2 : Int32) σ) fun q3 =>
  Option.bind (rmI (a5 - q2) q3) fun x4 =>
  if x4 = (0 : Int32) then
  fX8_anyOf_36 a1 a3 a5 σ
  else
  fX8_anyOf_41 a1 a3 a5 (0 : Int32) σ
  else
  fX8_anyOf_36 a1 a3 a5 σ
noncomputable def fX8_anyOf_6_L (a1 : Int32) (a3 : Int32) (σ : mm) : Int32 × Int32 → Option ((Int32 × Int32) ⊕ (Bool)) := fun z => fX8_anyOf_6 a1 a3 z.1 z.2 σ
noncomputable def fX8_anyOf_0 (a1 : Int32) (a2 : Int32) (a3 : Int32) (σ : mm) : Option (Bool) :=
  lp (fX8_anyOf_6_L a1 a3 σ) ((0 : Int32), a2)
noncomputable def fX8_anyOf (a1 : Int32) (a2 : Int32) (a3 : Int32) (σ : mm) : Option (Bool) := fX8_anyOf_0 a1 a2 a3 σ
set_option maxRecDepth 20000 in
theorem lX8_anyOf_41 (a1 : Int32) (a3 : Int32) (a5 : Int32) (s0 : Int32) (σ σ0 τ : mm) (hσ : σ = σ0) {r : Option mv} {M' : mm × mm} {v9 : (Int32 × Int32) ⊕ (Bool)} (h : fX8_anyOf_41 a1 a3 a5 s0 σ = some v9) (hk : (Sum.elim (fun z : Int32 × Int32 => Vm mX8_anyOf 1 6 [(0, .inr (.inr (32, 0))), (1, .inl a1), (3, .inl a3), (4, .inl z.1), (5, .inl z.2)] [] (τ, σ) r M') (fun q : Bool => r = some (.inl (bi q)) ∧ M' = (τ, σ0))) v9) : Vm mX8_anyOf 1 41 [(0, .inr (.inr (32, 0))), (1, .inl a1), (3, .inl a3), (5, .inl a5)] [.inl s0] (τ, σ) r M' := by
  unfold fX8_anyOf_41 at h
  refine Vm.istore (n := 43) (lv' := [(4, .inl s0), (0, .inr (.inr (32, 0))), (1, .inl a1), (3, .inl a3), (5, .inl a5)]) dX8_anyOf_41 rfl (Nat.le_of_ble_eq_true rfl) rfl ?_
  replace h := Option.bind_eq_some_iff.mp h
  obtain ⟨x1, e1, h⟩ := h
  replace e1 := Option.some.inj e1
  refine Vm.iinc (n := 46) (v := x1) (lv' := [(5, .inl x1), (4, .inl s0), (0, .inr (.inr (32, 0))), (1, .inl a1), (3, .inl a3)]) 4 dX8_anyOf_43 rfl rfl e1 (Nat.le_of_ble_eq_true rfl) rfl ?_
  refine Vm.goto 6 dX8_anyOf_46 rfl ?_
  refine Vm.sub (lv' := [(0, .inr (.inr (32, 0))), (1, .inl a1), (3, .inl a3), (4, .inl s0), (5, .inl x1)]) [2, 3, 4, 1, 0] rfl ?_
  obtain rfl := Option.some.inj h
  exact hk
set_option maxRecDepth 20000 in
theorem lX8_anyOf_36 (a1 : Int32) (a3 : Int32) (a5 : Int32) (σ σ0 τ : mm) (hσ : σ = σ0) {r : Option mv} {M' : mm × mm} {v9 : (Int32 × Int32) ⊕ (Bool)} (h : fX8_anyOf_36 a1 a3 a5 σ = some v9) (hk : (Sum.elim (fun z : Int32 × Int32 => Vm mX8_anyOf 1 6 [(0, .inr (.inr (32, 0))), (1, .inl a1), (3, .inl a3), (4, .inl z.1), (5, .inl z.2)] [] (τ, σ) r M') (fun q : Bool => r = some (.inl (bi q)) ∧ M' = (τ, σ0))) v9) : Vm mX8_anyOf 1 36 [(0, .inr (.inr (32, 0))), (1, .inl a1), (3, .inl a3), (5, .inl a5)] [] (τ, σ) r M' := by
  unfold fX8_anyOf_36 at h
  refine Vm.iconst (n := 37) (v := (1 : Int32)) dX8_anyOf_36 rfl (by decide) ?_
  refine Vm.goto 41 dX8_anyOf_37 rfl ?_
  exact lX8_anyOf_41 a1 a3 a5 (1 : Int32) σ σ0 τ hσ h hk
set_option maxRecDepth 20000 in
theorem lX8_anyOf_6 (a1 : Int32) (a3 : Int32) (a4 : Int32) (a5 : Int32) (σ σ0 τ : mm) (hσ : σ = σ0) {r : Option mv} {M' : mm × mm} {v9 : (Int32 × Int32) ⊕ (Bool)} (h : fX8_anyOf_6 a1 a3 a4 a5 σ = some v9) (hk : (Sum.elim (fun z : Int32 × Int32 => Vm mX8_anyOf 1 6 [(0, .inr (.inr (32, 0))), (1, .inl a1), (3, .inl a3), (4, .inl z.1), (5, .inl z.2)] [] (τ, σ) r M') (fun q : Bool => r = some (.inl (bi q)) ∧ M' = (τ, σ0))) v9) : Vm mX8_anyOf 1 6 [(0, .inr (.inr (32, 0))), (1, .inl a1), (3, .inl a3), (4, .inl a4), (5, .inl a5)] [] (τ, σ) r M' := by
  unfold fX8_anyOf_6 at h
  refine Vm.iload (n := 8) 4 dX8_anyOf_6 rfl rfl ?_
  refine Vm.iload_n (n := 9) 2 dX8_anyOf_8 rfl rfl ?_
  refine Vm.icmp_gt (n := 12) 49 dX8_anyOf_9 rfl rfl (fun c9 => ?_) (fun c9 => ?_)
  · replace h := (if_pos c9).symm.trans h
    refine Vm.iload (n := 51) 3 dX8_anyOf_49 rfl rfl ?_
    replace h := Option.bind_eq_some_iff.mp h
    obtain ⟨b1, h1, h⟩ := h
    obtain rfl := Option.some.inj h
    exact Vm.zret (b := b1) dX8_anyOf_51 rfl (zr_bi h1) hk.1 (by rw [hσ]; exact hk.2.symm)
  · replace h := (if_neg c9).symm.trans h
    refine Vm.iload (n := 14) 3 dX8_anyOf_12 rfl rfl ?_
    refine Vm.if_ne (n := 17) 36 dX8_anyOf_14 rfl rfl (fun c9 => ?_) (fun c9 => ?_)
    · replace h := (if_neg c9).symm.trans h
      refine Vm.sub (lv' := [(0, .inr (.inr (32, 0))), (1, .inl a1), (3, .inl a3), (5, .inl a5)]) [0, 1, 2, 4] rfl ?_
      exact lX8_anyOf_36 a1 a3 a5 σ σ0 τ hσ h hk
    · replace h := (if_pos c9).symm.trans h
      refine Vm.iload (n := 19) 4 dX8_anyOf_17 rfl rfl ?_
      refine Vm.aload_n (n := 20) 0 dX8_anyOf_19 rfl rfl ?_
      refine Vm.iload_n (n := 21) 1 dX8_anyOf_20 rfl rfl ?_
      refine Vm.iconst (n := 22) (v := (1 : Int32)) dX8_anyOf_21 rfl (by decide) ?_
      replace h := Option.bind_eq_some_iff.mp h
      obtain ⟨q2, h2, h⟩ := h
      refine Vm.callV (Y := mX8_at) (n := 25) [.inl a1, .inl (1 : Int32)] dX8_anyOf_22 rfl wv_RX8_142 omX8_at rfl in_32 rfl rfl rfl (Nat.le_of_ble_eq_true rfl) (by decide) (kX8_at a1 (1 : Int32) σ τ h2) ?_
      refine Vm.isub (n := 26) dX8_anyOf_25 rfl ?_
      refine Vm.aload_n (n := 27) 0 dX8_anyOf_26 rfl rfl ?_
      refine Vm.iload_n (n := 28) 1 dX8_anyOf_27 rfl rfl ?_
      refine Vm.iconst (n := 29) (v := (2 : Int32)) dX8_anyOf_28 rfl (by decide) ?_
      replace h := Option.bind_eq_some_iff.mp h
      obtain ⟨q3, h3, h⟩ := h
      refine Vm.callV (Y := mX8_at) (n := 32) [.inl a1, .inl (2 : Int32)] dX8_anyOf_29 rfl wv_RX8_142 omX8_at rfl in_32 rfl rfl rfl (Nat.le_of_ble_eq_true rfl) (by decide) (kX8_at a1 (2 : Int32) σ τ h3) ?_
      replace h := Option.bind_eq_some_iff.mp h
      obtain ⟨x4, h4, h⟩ := h
      refine Vm.irem (n := 33) dX8_anyOf_32 rfl h4 ?_
      refine Vm.if_ne (n := 36) 40 dX8_anyOf_33 rfl rfl (fun c9 => ?_) (fun c9 => ?_)
      · replace h := (if_neg c9).symm.trans h
        refine Vm.iconst (n := 41) (v := (0 : Int32)) dX8_anyOf_40 rfl (by decide) ?_
        refine Vm.sub (lv' := [(0, .inr (.inr (32, 0))), (1, .inl a1), (3, .inl a3), (5, .inl a5)]) [0, 1, 2, 4] rfl ?_
        exact lX8_anyOf_41 a1 a3 a5 (0 : Int32) σ σ0 τ hσ h hk
      · replace h := (if_pos c9).symm.trans h
        refine Vm.sub (lv' := [(0, .inr (.inr (32, 0))), (1, .inl a1), (3, .inl a3), (5, .inl a5)]) [0, 1, 2, 4] rfl ?_
        exact lX8_anyOf_36 a1 a3 a5 σ σ0 τ hσ h hk
theorem lX8_anyOf_6_L (a1 : Int32) (a3 : Int32) (σ σ0 τ : mm) (hσ : σ = σ0) {r : Option mv} {M' : mm × mm} (z : Int32 × Int32) (w9 : Bool) (h : lp (fX8_anyOf_6_L a1 a3 σ) z = some w9) (hk : (fun q : Bool => r = some (.inl (bi q)) ∧ M' = (τ, σ0)) w9) : Vm mX8_anyOf 1 6 [(0, .inr (.inr (32, 0))), (1, .inl a1), (3, .inl a3), (4, .inl z.1), (5, .inl z.2)] [] (τ, σ) r M' :=
  lp_link (S := Int32 × Int32) (R := Bool) (body := fX8_anyOf_6_L a1 a3 σ) (A := fun z : Int32 × Int32 => Vm mX8_anyOf 1 6 [(0, .inr (.inr (32, 0))), (1, .inl a1), (3, .inl a3), (4, .inl z.1), (5, .inl z.2)] [] (τ, σ) r M') (B := fun w : Bool => (fun q : Bool => r = some (.inl (bi q)) ∧ M' = (τ, σ0)) w) (fun z v hb hv => lX8_anyOf_6 a1 a3 z.1 z.2 σ σ0 τ hσ hb hv) z w9 h hk
set_option maxRecDepth 20000 in
theorem lX8_anyOf_0 (a1 : Int32) (a2 : Int32) (a3 : Int32) (σ σ0 τ : mm) (hσ : σ = σ0) {r : Option mv} {M' : mm × mm} {v9 : Bool} (h : fX8_anyOf_0 a1 a2 a3 σ = some v9) (hk : (fun q : Bool => r = some (.inl (bi q)) ∧ M' = (τ, σ0)) v9) : Vm mX8_anyOf 1 0 [(0, .inr (.inr (32, 0))), (1, .inl a1), (2, .inl a2), (3, .inl a3)] [] (τ, σ) r M' := by
  unfold fX8_anyOf_0 at h
  refine Vm.iconst (n := 1) (v := (0 : Int32)) dX8_anyOf_0 rfl (by decide) ?_
  refine Vm.istore (n := 3) (lv' := [(4, .inl (0 : Int32)), (0, .inr (.inr (32, 0))), (1, .inl a1), (2, .inl a2), (3, .inl a3)]) dX8_anyOf_1 rfl (Nat.le_of_ble_eq_true rfl) rfl ?_
  refine Vm.iload_n (n := 4) 3 dX8_anyOf_3 rfl rfl ?_
  refine Vm.istore (n := 6) (lv' := [(5, .inl a2), (4, .inl (0 : Int32)), (0, .inr (.inr (32, 0))), (1, .inl a1), (2, .inl a2), (3, .inl a3)]) dX8_anyOf_4 rfl (Nat.le_of_ble_eq_true rfl) rfl ?_
  refine Vm.sub (lv' := [(0, .inr (.inr (32, 0))), (1, .inl a1), (3, .inl a3), (4, .inl (0 : Int32)), (5, .inl a2)]) [2, 3, 5, 1, 0] rfl ?_
  exact lX8_anyOf_6_L a1 a3 σ σ0 τ hσ ((0 : Int32), a2) _ h hk
theorem kX8_anyOf (a1 : Int32) (a2 : Int32) (a3 : Int32) (σ τ : mm) {q : Bool} (h : fX8_anyOf a1 a2 a3 σ = some q) : Cx mX8_anyOf 1 [.inr (.inr (32, 0)), .inl a1, .inl a2, .inl a3] (τ, σ) (some (.inl (bi q))) (τ, σ) :=
  Cx.of (lv := [(0, .inr (.inr (32, 0))), (1, .inl a1), (2, .inl a2), (3, .inl a3)]) (by decide) (fun ad => Nat.le_of_ble_eq_true rfl) (fun ad => rfl) (lX8_anyOf_0 a1 a2 a3 σ σ τ rfl h ⟨rfl, rfl⟩)
-- ThinBodiesModel mayHold (III)Z
noncomputable def fX8_mayHold_135 (σ : mm) : Option (Bool) :=
  some (true)
noncomputable def fX8_mayHold_111 (σ : mm) : Option (Bool) :=
  some (true)
noncomputable def fX8_mayHold_0 (a1 : Int32) (a2 : Int32) (a3 : Int32) (σ : mm) : Option (Bool) :=
  Option.bind (fX8_at a1 (1 : Int32) σ) fun q1 =>
  Option.bind (fX8_at a1 (2 : Int32) σ) fun q2 =>
  Option.bind (fX8_at a1 (0 : Int32) σ) fun q3 =>
  if q3.toInt = (1 : Int) then
  some ((fX8_in q1.toInt64 a2.toInt64 a3.toInt64))
  else if q3.toInt = (2 : Int) then
  if a3 < (q1 - q2) then
  some (false)
  else
  if (q1 + q2) < a2 then
  some (false)
  else
  some (true)
  else if q3.toInt = (3 : Int) then
  if q2 ≤ ((a3 - a2) + (1 : Int32)) then
  fX8_mayHold_111 σ
  else
  Option.bind (fX8_anyOf a1 a2 a3 σ) fun q4 =>
  if (bi q4) = (0 : Int32) then
  some (false)
  else
  fX8_mayHold_111 σ
  else if q3.toInt = (4 : Int) then
  if a2 < (q1 - q2) then
  fX8_mayHold_135 σ
  else
  if a3 ≤ (q1 + q2) then
  some (false)
  else
  fX8_mayHold_135 σ
  else if q3.toInt = (5 : Int) then
  if a3 < q1 then
  some (false)
  else
  some (true)
  else 
  if q1 < a2 then
  some (false)
  else
  some (true)
noncomputable def fX8_mayHold (a1 : Int32) (a2 : Int32) (a3 : Int32) (σ : mm) : Option (Bool) := fX8_mayHold_0 a1 a2 a3 σ
set_option maxRecDepth 20000 in
theorem lX8_mayHold_135 (σ σ0 τ : mm) (hσ : σ = σ0) {r : Option mv} {M' : mm × mm} {v9 : Bool} (h : fX8_mayHold_135 σ = some v9) (hk : (fun q : Bool => r = some (.inl (bi q)) ∧ M' = (τ, σ0)) v9) : Vm mX8_mayHold 2 135 [] [] (τ, σ) r M' := by
  unfold fX8_mayHold_135 at h
  refine Vm.iconst (n := 136) (v := (1 : Int32)) dX8_mayHold_135 rfl (by decide) ?_
  refine Vm.goto 140 dX8_mayHold_136 rfl ?_
  obtain rfl := Option.some.inj h
  exact Vm.zret (b := true) dX8_mayHold_140 rfl rfl hk.1 (by rw [hσ]; exact hk.2.symm)
set_option maxRecDepth 20000 in
theorem lX8_mayHold_111 (σ σ0 τ : mm) (hσ : σ = σ0) {r : Option mv} {M' : mm × mm} {v9 : Bool} (h : fX8_mayHold_111 σ = some v9) (hk : (fun q : Bool => r = some (.inl (bi q)) ∧ M' = (τ, σ0)) v9) : Vm mX8_mayHold 2 111 [] [] (τ, σ) r M' := by
  unfold fX8_mayHold_111 at h
  refine Vm.iconst (n := 112) (v := (1 : Int32)) dX8_mayHold_111 rfl (by decide) ?_
  refine Vm.goto 116 dX8_mayHold_112 rfl ?_
  obtain rfl := Option.some.inj h
  exact Vm.zret (b := true) dX8_mayHold_116 rfl rfl hk.1 (by rw [hσ]; exact hk.2.symm)
set_option maxRecDepth 20000 in
theorem lX8_mayHold_0 (a1 : Int32) (a2 : Int32) (a3 : Int32) (σ σ0 τ : mm) (hσ : σ = σ0) {r : Option mv} {M' : mm × mm} {v9 : Bool} (h : fX8_mayHold_0 a1 a2 a3 σ = some v9) (hk : (fun q : Bool => r = some (.inl (bi q)) ∧ M' = (τ, σ0)) v9) : Vm mX8_mayHold 2 0 [(0, .inr (.inr (32, 0))), (1, .inl a1), (2, .inl a2), (3, .inl a3)] [] (τ, σ) r M' := by
  unfold fX8_mayHold_0 at h
  refine Vm.aload_n (n := 1) 0 dX8_mayHold_0 rfl rfl ?_
  refine Vm.iload_n (n := 2) 1 dX8_mayHold_1 rfl rfl ?_
  refine Vm.iconst (n := 3) (v := (1 : Int32)) dX8_mayHold_2 rfl (by decide) ?_
  replace h := Option.bind_eq_some_iff.mp h
  obtain ⟨q1, h1, h⟩ := h
  refine Vm.callV (Y := mX8_at) (n := 6) [.inl a1, .inl (1 : Int32)] dX8_mayHold_3 rfl wv_RX8_142 omX8_at rfl in_32 rfl rfl rfl (Nat.le_of_ble_eq_true rfl) (by decide) (kX8_at a1 (1 : Int32) σ τ h1) ?_
  refine Vm.istore (n := 8) (lv' := [(4, .inl q1), (0, .inr (.inr (32, 0))), (1, .inl a1), (2, .inl a2), (3, .inl a3)]) dX8_mayHold_6 rfl (Nat.le_of_ble_eq_true rfl) rfl ?_
  refine Vm.aload_n (n := 9) 1 dX8_mayHold_8 rfl rfl ?_
  refine Vm.iload_n (n := 10) 2 dX8_mayHold_9 rfl rfl ?_
  refine Vm.iconst (n := 11) (v := (2 : Int32)) dX8_mayHold_10 rfl (by decide) ?_
  replace h := Option.bind_eq_some_iff.mp h
  obtain ⟨q2, h2, h⟩ := h
  refine Vm.callV (Y := mX8_at) (n := 14) [.inl a1, .inl (2 : Int32)] dX8_mayHold_11 rfl wv_RX8_142 omX8_at rfl in_32 rfl rfl rfl (Nat.le_of_ble_eq_true rfl) (by decide) (kX8_at a1 (2 : Int32) σ τ h2) ?_
  refine Vm.istore (n := 16) (lv' := [(5, .inl q2), (4, .inl q1), (0, .inr (.inr (32, 0))), (1, .inl a1), (2, .inl a2), (3, .inl a3)]) dX8_mayHold_14 rfl (Nat.le_of_ble_eq_true rfl) rfl ?_
  refine Vm.aload_n (n := 17) 2 dX8_mayHold_16 rfl rfl ?_
  refine Vm.iload_n (n := 18) 3 dX8_mayHold_17 rfl rfl ?_
  refine Vm.iconst (n := 19) (v := (0 : Int32)) dX8_mayHold_18 rfl (by decide) ?_
  replace h := Option.bind_eq_some_iff.mp h
  obtain ⟨q3, h3, h⟩ := h
  refine Vm.callV (Y := mX8_at) (n := 22) [.inl a1, .inl (0 : Int32)] dX8_mayHold_19 rfl wv_RX8_142 omX8_at rfl in_32 rfl rfl rfl (Nat.le_of_ble_eq_true rfl) (by decide) (kX8_at a1 (0 : Int32) σ τ h3) ?_
  by_cases c51 : q3.toInt = (1 : Int)
  · replace h := (if_pos c51).symm.trans h
    refine Vm.tswI (1) 56 dX8_mayHold_22 c51 (by decide) rfl rfl ?_
    refine Vm.iload (n := 58) 1 dX8_mayHold_56 rfl rfl ?_
    refine Vm.i2l (n := 59) dX8_mayHold_58 rfl ?_
    refine Vm.iload_n (n := 60) 4 dX8_mayHold_59 rfl rfl ?_
    refine Vm.i2l (n := 61) dX8_mayHold_60 rfl ?_
    refine Vm.iload_n (n := 62) 5 dX8_mayHold_61 rfl rfl ?_
    refine Vm.i2l (n := 63) dX8_mayHold_62 rfl ?_
    refine Vm.callS (Y := mX8_in) (n := 66) [.inr (.inl q1.toInt64), .inr (.inl a2.toInt64), .inr (.inl a3.toInt64)] dX8_mayHold_63 rfl wv_RX8_93 omX8_in rfl rfl (Nat.le_of_ble_eq_true rfl) (by decide) (kX8_in q1.toInt64 a2.toInt64 a3.toInt64 rfl) ?_
    obtain rfl := Option.some.inj h
    exact Vm.zret (b := (fX8_in q1.toInt64 a2.toInt64 a3.toInt64)) dX8_mayHold_66 rfl rfl hk.1 (by rw [hσ]; exact hk.2.symm)
  · replace h := (if_neg c51).symm.trans h
    by_cases c52 : q3.toInt = (2 : Int)
    · replace h := (if_pos c52).symm.trans h
      refine Vm.tswI (2) 67 dX8_mayHold_22 c52 (by decide) rfl rfl ?_
      refine Vm.iload_n (n := 68) 5 dX8_mayHold_67 rfl rfl ?_
      refine Vm.iload (n := 70) 1 dX8_mayHold_68 rfl rfl ?_
      refine Vm.iload (n := 72) 0 dX8_mayHold_70 rfl rfl ?_
      refine Vm.isub (n := 73) dX8_mayHold_72 rfl ?_
      refine Vm.icmp_lt (n := 76) 89 dX8_mayHold_73 rfl rfl (fun c9 => ?_) (fun c9 => ?_)
      · replace h := (if_pos c9).symm.trans h
        refine Vm.iconst (n := 90) (v := (0 : Int32)) dX8_mayHold_89 rfl (by decide) ?_
        obtain rfl := Option.some.inj h
        exact Vm.zret (b := false) dX8_mayHold_90 rfl rfl hk.1 (by rw [hσ]; exact hk.2.symm)
      · replace h := (if_neg c9).symm.trans h
        refine Vm.iload_n (n := 77) 4 dX8_mayHold_76 rfl rfl ?_
        refine Vm.iload (n := 79) 1 dX8_mayHold_77 rfl rfl ?_
        refine Vm.iload (n := 81) 0 dX8_mayHold_79 rfl rfl ?_
        refine Vm.iadd (n := 82) dX8_mayHold_81 rfl ?_
        refine Vm.icmp_gt (n := 85) 89 dX8_mayHold_82 rfl rfl (fun c9 => ?_) (fun c9 => ?_)
        · replace h := (if_pos c9).symm.trans h
          refine Vm.iconst (n := 90) (v := (0 : Int32)) dX8_mayHold_89 rfl (by decide) ?_
          obtain rfl := Option.some.inj h
          exact Vm.zret (b := false) dX8_mayHold_90 rfl rfl hk.1 (by rw [hσ]; exact hk.2.symm)
        · replace h := (if_neg c9).symm.trans h
          refine Vm.iconst (n := 86) (v := (1 : Int32)) dX8_mayHold_85 rfl (by decide) ?_
          refine Vm.goto 90 dX8_mayHold_86 rfl ?_
          obtain rfl := Option.some.inj h
          exact Vm.zret (b := true) dX8_mayHold_90 rfl rfl hk.1 (by rw [hσ]; exact hk.2.symm)
    · replace h := (if_neg c52).symm.trans h
      by_cases c53 : q3.toInt = (3 : Int)
      · replace h := (if_pos c53).symm.trans h
        refine Vm.tswI (3) 91 dX8_mayHold_22 c53 (by decide) rfl rfl ?_
        refine Vm.iload_n (n := 92) 5 dX8_mayHold_91 rfl rfl ?_
        refine Vm.iload_n (n := 93) 4 dX8_mayHold_92 rfl rfl ?_
        refine Vm.isub (n := 94) dX8_mayHold_93 rfl ?_
        refine Vm.iconst (n := 95) (v := (1 : Int32)) dX8_mayHold_94 rfl (by decide) ?_
        refine Vm.iadd (n := 96) dX8_mayHold_95 rfl ?_
        refine Vm.iload (n := 98) 0 dX8_mayHold_96 rfl rfl ?_
        refine Vm.icmp_ge (n := 101) 111 dX8_mayHold_98 rfl rfl (fun c9 => ?_) (fun c9 => ?_)
        · replace h := (if_pos c9).symm.trans h
          refine Vm.sub (lv' := []) [] rfl ?_
          exact lX8_mayHold_111 σ σ0 τ hσ h hk
        · replace h := (if_neg c9).symm.trans h
          refine Vm.aload_n (n := 102) 2 dX8_mayHold_101 rfl rfl ?_
          refine Vm.iload_n (n := 103) 3 dX8_mayHold_102 rfl rfl ?_
          refine Vm.iload_n (n := 104) 4 dX8_mayHold_103 rfl rfl ?_
          refine Vm.iload_n (n := 105) 5 dX8_mayHold_104 rfl rfl ?_
          replace h := Option.bind_eq_some_iff.mp h
          obtain ⟨q4, h4, h⟩ := h
          refine Vm.callV (Y := mX8_anyOf) (n := 108) [.inl a1, .inl a2, .inl a3] dX8_mayHold_105 rfl wv_RX8_228 omX8_anyOf rfl in_32 rfl rfl rfl (Nat.le_of_ble_eq_true rfl) (by decide) (kX8_anyOf a1 a2 a3 σ τ h4) ?_
          refine Vm.if_eq (n := 111) 115 dX8_mayHold_108 rfl rfl (fun c9 => ?_) (fun c9 => ?_)
          · replace h := (if_pos c9).symm.trans h
            refine Vm.iconst (n := 116) (v := (0 : Int32)) dX8_mayHold_115 rfl (by decide) ?_
            obtain rfl := Option.some.inj h
            exact Vm.zret (b := false) dX8_mayHold_116 rfl rfl hk.1 (by rw [hσ]; exact hk.2.symm)
          · replace h := (if_neg c9).symm.trans h
            refine Vm.sub (lv' := []) [] rfl ?_
            exact lX8_mayHold_111 σ σ0 τ hσ h hk
      · replace h := (if_neg c53).symm.trans h
        by_cases c54 : q3.toInt = (4 : Int)
        · replace h := (if_pos c54).symm.trans h
          refine Vm.tswI (4) 117 dX8_mayHold_22 c54 (by decide) rfl rfl ?_
          refine Vm.iload_n (n := 118) 4 dX8_mayHold_117 rfl rfl ?_
          refine Vm.iload (n := 120) 1 dX8_mayHold_118 rfl rfl ?_
          refine Vm.iload (n := 122) 0 dX8_mayHold_120 rfl rfl ?_
          refine Vm.isub (n := 123) dX8_mayHold_122 rfl ?_
          refine Vm.icmp_lt (n := 126) 135 dX8_mayHold_123 rfl rfl (fun c9 => ?_) (fun c9 => ?_)
          · replace h := (if_pos c9).symm.trans h
            refine Vm.sub (lv' := []) [] rfl ?_
            exact lX8_mayHold_135 σ σ0 τ hσ h hk
          · replace h := (if_neg c9).symm.trans h
            refine Vm.iload_n (n := 127) 5 dX8_mayHold_126 rfl rfl ?_
            refine Vm.iload (n := 129) 1 dX8_mayHold_127 rfl rfl ?_
            refine Vm.iload (n := 131) 0 dX8_mayHold_129 rfl rfl ?_
            refine Vm.iadd (n := 132) dX8_mayHold_131 rfl ?_
            refine Vm.icmp_le (n := 135) 139 dX8_mayHold_132 rfl rfl (fun c9 => ?_) (fun c9 => ?_)
            · replace h := (if_pos c9).symm.trans h
              refine Vm.iconst (n := 140) (v := (0 : Int32)) dX8_mayHold_139 rfl (by decide) ?_
              obtain rfl := Option.some.inj h
              exact Vm.zret (b := false) dX8_mayHold_140 rfl rfl hk.1 (by rw [hσ]; exact hk.2.symm)
            · replace h := (if_neg c9).symm.trans h
              refine Vm.sub (lv' := []) [] rfl ?_
              exact lX8_mayHold_135 σ σ0 τ hσ h hk
        · replace h := (if_neg c54).symm.trans h
          by_cases c55 : q3.toInt = (5 : Int)
          · replace h := (if_pos c55).symm.trans h
            refine Vm.tswI (5) 141 dX8_mayHold_22 c55 (by decide) rfl rfl ?_
            refine Vm.iload_n (n := 142) 5 dX8_mayHold_141 rfl rfl ?_
            refine Vm.iload (n := 144) 1 dX8_mayHold_142 rfl rfl ?_
            refine Vm.icmp_lt (n := 147) 151 dX8_mayHold_144 rfl rfl (fun c9 => ?_) (fun c9 => ?_)
            · replace h := (if_pos c9).symm.trans h
              refine Vm.iconst (n := 152) (v := (0 : Int32)) dX8_mayHold_151 rfl (by decide) ?_
              obtain rfl := Option.some.inj h
              exact Vm.zret (b := false) dX8_mayHold_152 rfl rfl hk.1 (by rw [hσ]; exact hk.2.symm)
            · replace h := (if_neg c9).symm.trans h
              refine Vm.iconst (n := 148) (v := (1 : Int32)) dX8_mayHold_147 rfl (by decide) ?_
              refine Vm.goto 152 dX8_mayHold_148 rfl ?_
              obtain rfl := Option.some.inj h
              exact Vm.zret (b := true) dX8_mayHold_152 rfl rfl hk.1 (by rw [hσ]; exact hk.2.symm)
          · replace h := (if_neg c55).symm.trans h
            refine Vm.tswO 153 dX8_mayHold_22 (by omega) rfl ?_
            refine Vm.iload_n (n := 154) 4 dX8_mayHold_153 rfl rfl ?_
            refine Vm.iload (n := 156) 1 dX8_mayHold_154 rfl rfl ?_
            refine Vm.icmp_gt (n := 159) 163 dX8_mayHold_156 rfl rfl (fun c9 => ?_) (fun c9 => ?_)
            · replace h := (if_pos c9).symm.trans h
              refine Vm.iconst (n := 164) (v := (0 : Int32)) dX8_mayHold_163 rfl (by decide) ?_
              obtain rfl := Option.some.inj h
              exact Vm.zret (b := false) dX8_mayHold_164 rfl rfl hk.1 (by rw [hσ]; exact hk.2.symm)
            · replace h := (if_neg c9).symm.trans h
              refine Vm.iconst (n := 160) (v := (1 : Int32)) dX8_mayHold_159 rfl (by decide) ?_
              refine Vm.goto 164 dX8_mayHold_160 rfl ?_
              obtain rfl := Option.some.inj h
              exact Vm.zret (b := true) dX8_mayHold_164 rfl rfl hk.1 (by rw [hσ]; exact hk.2.symm)
theorem kX8_mayHold (a1 : Int32) (a2 : Int32) (a3 : Int32) (σ τ : mm) {q : Bool} (h : fX8_mayHold a1 a2 a3 σ = some q) : Cx mX8_mayHold 2 [.inr (.inr (32, 0)), .inl a1, .inl a2, .inl a3] (τ, σ) (some (.inl (bi q))) (τ, σ) :=
  Cx.of (lv := [(0, .inr (.inr (32, 0))), (1, .inl a1), (2, .inl a2), (3, .inl a3)]) (by decide) (fun ad => Nat.le_of_ble_eq_true rfl) (fun ad => rfl) (lX8_mayHold_0 a1 a2 a3 σ σ τ rfl h ⟨rfl, rfl⟩)
-- ThinBodiesModel deadRow (I)I
noncomputable def fX8_deadRow_2 (a1 : Int32) (a2 : Int32) (σ : mm) : Option ((Int32) ⊕ (Int32)) :=
  if (σ.1 32 0 4) ≤ a2 then
  some (.inr ((-1 : Int32)))
  else
  Option.bind (fX8_least a2 a1 σ) fun q1 =>
  Option.bind (fX8_most a2 a1 σ) fun q2 =>
  Option.bind (fX8_mayHold a2 q1 q2 σ) fun q3 =>
  if (bi q3) = (0 : Int32) then
  some (.inr (a2))
  else
  Option.bind (some (a2 + (1 : Int32))) fun x4 =>
  some (.inl (x4))
noncomputable def fX8_deadRow_2_L (a1 : Int32) (σ : mm) : Int32 → Option ((Int32) ⊕ (Int32)) := fun z => fX8_deadRow_2 a1 z σ
noncomputable def fX8_deadRow_0 (a1 : Int32) (σ : mm) : Option (Int32) :=
  lp (fX8_deadRow_2_L a1 σ) ((0 : Int32))
noncomputable def fX8_deadRow (a1 : Int32) (σ : mm) : Option (Int32) := fX8_deadRow_0 a1 σ
set_option maxRecDepth 20000 in
theorem lX8_deadRow_2 (a1 : Int32) (a2 : Int32) (σ σ0 τ : mm) (hσ : σ = σ0) {r : Option mv} {M' : mm × mm} {v9 : (Int32) ⊕ (Int32)} (h : fX8_deadRow_2 a1 a2 σ = some v9) (hk : (Sum.elim (fun z : Int32 => Vm mX8_deadRow 3 2 [(0, .inr (.inr (32, 0))), (1, .inl a1), (2, .inl z)] [] (τ, σ) r M') (fun q : Int32 => r = some (.inl q) ∧ M' = (τ, σ0))) v9) : Vm mX8_deadRow 3 2 [(0, .inr (.inr (32, 0))), (1, .inl a1), (2, .inl a2)] [] (τ, σ) r M' := by
  unfold fX8_deadRow_2 at h
  refine Vm.iload_n (n := 3) 2 dX8_deadRow_2 rfl rfl ?_
  refine Vm.aload_n (n := 4) 0 dX8_deadRow_3 rfl rfl ?_
  refine Vm.gM (n := 7) dX8_deadRow_4 rfl wf_RX8_97 in_32 rfl (by decide) rfl (by decide) ?_
  refine Vm.icmp_ge (n := 10) 38 dX8_deadRow_7 rfl rfl (fun c9 => ?_) (fun c9 => ?_)
  · replace h := (if_pos c9).symm.trans h
    refine Vm.iconst (n := 39) (v := (-1 : Int32)) dX8_deadRow_38 rfl (by decide) ?_
    obtain rfl := Option.some.inj h
    exact Vm.iret dX8_deadRow_39 rfl hk.1 (by rw [hσ]; exact hk.2.symm)
  · replace h := (if_neg c9).symm.trans h
    refine Vm.aload_n (n := 11) 0 dX8_deadRow_10 rfl rfl ?_
    refine Vm.iload_n (n := 12) 2 dX8_deadRow_11 rfl rfl ?_
    refine Vm.aload_n (n := 13) 0 dX8_deadRow_12 rfl rfl ?_
    refine Vm.iload_n (n := 14) 2 dX8_deadRow_13 rfl rfl ?_
    refine Vm.iload_n (n := 15) 1 dX8_deadRow_14 rfl rfl ?_
    replace h := Option.bind_eq_some_iff.mp h
    obtain ⟨q1, h1, h⟩ := h
    refine Vm.callV (Y := mX8_least) (n := 18) [.inl a2, .inl a1] dX8_deadRow_15 rfl wv_RX8_158 omX8_least rfl in_32 rfl rfl rfl (Nat.le_of_ble_eq_true rfl) (by decide) (kX8_least a2 a1 σ τ h1) ?_
    refine Vm.aload_n (n := 19) 0 dX8_deadRow_18 rfl rfl ?_
    refine Vm.iload_n (n := 20) 2 dX8_deadRow_19 rfl rfl ?_
    refine Vm.iload_n (n := 21) 1 dX8_deadRow_20 rfl rfl ?_
    replace h := Option.bind_eq_some_iff.mp h
    obtain ⟨q2, h2, h⟩ := h
    refine Vm.callV (Y := mX8_most) (n := 24) [.inl a2, .inl a1] dX8_deadRow_21 rfl wv_RX8_161 omX8_most rfl in_32 rfl rfl rfl (Nat.le_of_ble_eq_true rfl) (by decide) (kX8_most a2 a1 σ τ h2) ?_
    replace h := Option.bind_eq_some_iff.mp h
    obtain ⟨q3, h3, h⟩ := h
    refine Vm.callV (Y := mX8_mayHold) (n := 27) [.inl a2, .inl q1, .inl q2] dX8_deadRow_24 rfl wv_RX8_231 omX8_mayHold rfl in_32 rfl rfl rfl (Nat.le_of_ble_eq_true rfl) (by decide) (kX8_mayHold a2 q1 q2 σ τ h3) ?_
    refine Vm.if_ne (n := 30) 32 dX8_deadRow_27 rfl rfl (fun c9 => ?_) (fun c9 => ?_)
    · replace h := (if_neg c9).symm.trans h
      replace h := Option.bind_eq_some_iff.mp h
      obtain ⟨x4, e4, h⟩ := h
      replace e4 := Option.some.inj e4
      refine Vm.iinc (n := 35) (v := x4) (lv' := [(2, .inl x4), (0, .inr (.inr (32, 0))), (1, .inl a1)]) 2 dX8_deadRow_32 rfl rfl e4 (Nat.le_of_ble_eq_true rfl) rfl ?_
      refine Vm.goto 2 dX8_deadRow_35 rfl ?_
      refine Vm.sub (lv' := [(0, .inr (.inr (32, 0))), (1, .inl a1), (2, .inl x4)]) [1, 2, 0] rfl ?_
      obtain rfl := Option.some.inj h
      exact hk
    · replace h := (if_pos c9).symm.trans h
      refine Vm.iload_n (n := 31) 2 dX8_deadRow_30 rfl rfl ?_
      obtain rfl := Option.some.inj h
      exact Vm.iret dX8_deadRow_31 rfl hk.1 (by rw [hσ]; exact hk.2.symm)
theorem lX8_deadRow_2_L (a1 : Int32) (σ σ0 τ : mm) (hσ : σ = σ0) {r : Option mv} {M' : mm × mm} (z : Int32) (w9 : Int32) (h : lp (fX8_deadRow_2_L a1 σ) z = some w9) (hk : (fun q : Int32 => r = some (.inl q) ∧ M' = (τ, σ0)) w9) : Vm mX8_deadRow 3 2 [(0, .inr (.inr (32, 0))), (1, .inl a1), (2, .inl z)] [] (τ, σ) r M' :=
  lp_link (S := Int32) (R := Int32) (body := fX8_deadRow_2_L a1 σ) (A := fun z : Int32 => Vm mX8_deadRow 3 2 [(0, .inr (.inr (32, 0))), (1, .inl a1), (2, .inl z)] [] (τ, σ) r M') (B := fun w : Int32 => (fun q : Int32 => r = some (.inl q) ∧ M' = (τ, σ0)) w) (fun z v hb hv => lX8_deadRow_2 a1 z σ σ0 τ hσ hb hv) z w9 h hk
set_option maxRecDepth 20000 in
theorem lX8_deadRow_0 (a1 : Int32) (σ σ0 τ : mm) (hσ : σ = σ0) {r : Option mv} {M' : mm × mm} {v9 : Int32} (h : fX8_deadRow_0 a1 σ = some v9) (hk : (fun q : Int32 => r = some (.inl q) ∧ M' = (τ, σ0)) v9) : Vm mX8_deadRow 3 0 [(0, .inr (.inr (32, 0))), (1, .inl a1)] [] (τ, σ) r M' := by
  unfold fX8_deadRow_0 at h
  refine Vm.iconst (n := 1) (v := (0 : Int32)) dX8_deadRow_0 rfl (by decide) ?_
  refine Vm.istore_n (n := 2) (lv' := [(2, .inl (0 : Int32)), (0, .inr (.inr (32, 0))), (1, .inl a1)]) dX8_deadRow_1 rfl (Nat.le_of_ble_eq_true rfl) rfl ?_
  refine Vm.sub (lv' := [(0, .inr (.inr (32, 0))), (1, .inl a1), (2, .inl (0 : Int32))]) [1, 2, 0] rfl ?_
  exact lX8_deadRow_2_L a1 σ σ0 τ hσ ((0 : Int32)) _ h hk
theorem kX8_deadRow (a1 : Int32) (σ τ : mm) {q : Int32} (h : fX8_deadRow a1 σ = some q) : Cx mX8_deadRow 3 [.inr (.inr (32, 0)), .inl a1] (τ, σ) (some (.inl q)) (τ, σ) :=
  Cx.of (lv := [(0, .inr (.inr (32, 0))), (1, .inl a1)]) (by decide) (fun ad => Nat.le_of_ble_eq_true rfl) (fun ad => rfl) (lX8_deadRow_0 a1 σ σ τ rfl h ⟨rfl, rfl⟩)
-- ThinBodiesModel mustHold (III)Z
def fX8_mustHold_143 (σ : mm) : Option (Bool) :=
  some (true)
def fX8_mustHold_119 (σ : mm) : Option (Bool) :=
  some (true)
def fX8_mustHold_0 (a1 : Int32) (a2 : Int32) (a3 : Int32) (σ : mm) : Option (Bool) :=
  Option.bind (fX8_at a1 (1 : Int32) σ) fun q1 =>
  Option.bind (fX8_at a1 (2 : Int32) σ) fun q2 =>
  Option.bind (fX8_at a1 (0 : Int32) σ) fun q3 =>
  if q3.toInt = (1 : Int) then
  if a2 = q1 then
  if a3 = q1 then
  some (true)
  else
  some (false)
  else
  some (false)
  else if q3.toInt = (2 : Int) then
  if a2 < (q1 - q2) then
  some (false)
  else
  if (q1 + q2) < a3 then
  some (false)
  else
  some (true)
  else if q3.toInt = (3 : Int) then
  if q2 = (1 : Int32) then
  fX8_mustHold_119 σ
  else
  if a2 = a3 then
  Option.bind (rmI (a2 - q1) q2) fun x4 =>
  if x4 = (0 : Int32) then
  fX8_mustHold_119 σ
  else
  some (false)
  else
  some (false)
  else if q3.toInt = (4 : Int) then
  if a3 < (q1 - q2) then
  fX8_mustHold_143 σ
  else
  if a2 ≤ (q1 + q2) then
  some (false)
  else
  fX8_mustHold_143 σ
  else if q3.toInt = (5 : Int) then
  if a2 < q1 then
  some (false)
  else
  some (true)
  else 
  if q1 < a3 then
  some (false)
  else
  some (true)
def fX8_mustHold (a1 : Int32) (a2 : Int32) (a3 : Int32) (σ : mm) : Option (Bool) := fX8_mustHold_0 a1 a2 a3 σ
set_option maxRecDepth 20000 in
theorem lX8_mustHold_143 (σ σ0 τ : mm) (hσ : σ = σ0) {r : Option mv} {M' : mm × mm} {v9 : Bool} (h : fX8_mustHold_143 σ = some v9) (hk : (fun q : Bool => r = some (.inl (bi q)) ∧ M' = (τ, σ0)) v9) : Vm mX8_mustHold 1 143 [] [] (τ, σ) r M' := by
  unfold fX8_mustHold_143 at h
  refine Vm.iconst (n := 144) (v := (1 : Int32)) dX8_mustHold_143 rfl (by decide) ?_
  refine Vm.goto 148 dX8_mustHold_144 rfl ?_
  obtain rfl := Option.some.inj h
  exact Vm.zret (b := true) dX8_mustHold_148 rfl rfl hk.1 (by rw [hσ]; exact hk.2.symm)
set_option maxRecDepth 20000 in
theorem lX8_mustHold_119 (σ σ0 τ : mm) (hσ : σ = σ0) {r : Option mv} {M' : mm × mm} {v9 : Bool} (h : fX8_mustHold_119 σ = some v9) (hk : (fun q : Bool => r = some (.inl (bi q)) ∧ M' = (τ, σ0)) v9) : Vm mX8_mustHold 1 119 [] [] (τ, σ) r M' := by
  unfold fX8_mustHold_119 at h
  refine Vm.iconst (n := 120) (v := (1 : Int32)) dX8_mustHold_119 rfl (by decide) ?_
  refine Vm.goto 124 dX8_mustHold_120 rfl ?_
  obtain rfl := Option.some.inj h
  exact Vm.zret (b := true) dX8_mustHold_124 rfl rfl hk.1 (by rw [hσ]; exact hk.2.symm)
set_option maxRecDepth 20000 in
theorem lX8_mustHold_0 (a1 : Int32) (a2 : Int32) (a3 : Int32) (σ σ0 τ : mm) (hσ : σ = σ0) {r : Option mv} {M' : mm × mm} {v9 : Bool} (h : fX8_mustHold_0 a1 a2 a3 σ = some v9) (hk : (fun q : Bool => r = some (.inl (bi q)) ∧ M' = (τ, σ0)) v9) : Vm mX8_mustHold 1 0 [(0, .inr (.inr (32, 0))), (1, .inl a1), (2, .inl a2), (3, .inl a3)] [] (τ, σ) r M' := by
  unfold fX8_mustHold_0 at h
  refine Vm.aload_n (n := 1) 0 dX8_mustHold_0 rfl rfl ?_
  refine Vm.iload_n (n := 2) 1 dX8_mustHold_1 rfl rfl ?_
  refine Vm.iconst (n := 3) (v := (1 : Int32)) dX8_mustHold_2 rfl (by decide) ?_
  replace h := Option.bind_eq_some_iff.mp h
  obtain ⟨q1, h1, h⟩ := h
  refine Vm.callV (Y := mX8_at) (n := 6) [.inl a1, .inl (1 : Int32)] dX8_mustHold_3 rfl wv_RX8_142 omX8_at rfl in_32 rfl rfl rfl (Nat.le_of_ble_eq_true rfl) (by decide) (kX8_at a1 (1 : Int32) σ τ h1) ?_
  refine Vm.istore (n := 8) (lv' := [(4, .inl q1), (0, .inr (.inr (32, 0))), (1, .inl a1), (2, .inl a2), (3, .inl a3)]) dX8_mustHold_6 rfl (Nat.le_of_ble_eq_true rfl) rfl ?_
  refine Vm.aload_n (n := 9) 1 dX8_mustHold_8 rfl rfl ?_
  refine Vm.iload_n (n := 10) 2 dX8_mustHold_9 rfl rfl ?_
  refine Vm.iconst (n := 11) (v := (2 : Int32)) dX8_mustHold_10 rfl (by decide) ?_
  replace h := Option.bind_eq_some_iff.mp h
  obtain ⟨q2, h2, h⟩ := h
  refine Vm.callV (Y := mX8_at) (n := 14) [.inl a1, .inl (2 : Int32)] dX8_mustHold_11 rfl wv_RX8_142 omX8_at rfl in_32 rfl rfl rfl (Nat.le_of_ble_eq_true rfl) (by decide) (kX8_at a1 (2 : Int32) σ τ h2) ?_
  refine Vm.istore (n := 16) (lv' := [(5, .inl q2), (4, .inl q1), (0, .inr (.inr (32, 0))), (1, .inl a1), (2, .inl a2), (3, .inl a3)]) dX8_mustHold_14 rfl (Nat.le_of_ble_eq_true rfl) rfl ?_
  refine Vm.aload_n (n := 17) 2 dX8_mustHold_16 rfl rfl ?_
  refine Vm.iload_n (n := 18) 3 dX8_mustHold_17 rfl rfl ?_
  refine Vm.iconst (n := 19) (v := (0 : Int32)) dX8_mustHold_18 rfl (by decide) ?_
  replace h := Option.bind_eq_some_iff.mp h
  obtain ⟨q3, h3, h⟩ := h
  refine Vm.callV (Y := mX8_at) (n := 22) [.inl a1, .inl (0 : Int32)] dX8_mustHold_19 rfl wv_RX8_142 omX8_at rfl in_32 rfl rfl rfl (Nat.le_of_ble_eq_true rfl) (by decide) (kX8_at a1 (0 : Int32) σ τ h3) ?_
  by_cases c51 : q3.toInt = (1 : Int)
  · replace h := (if_pos c51).symm.trans h
    refine Vm.tswI (1) 56 dX8_mustHold_22 c51 (by decide) rfl rfl ?_
    refine Vm.iload_n (n := 57) 4 dX8_mustHold_56 rfl rfl ?_
    refine Vm.iload (n := 59) 1 dX8_mustHold_57 rfl rfl ?_
    refine Vm.icmp_ne (n := 62) 72 dX8_mustHold_59 rfl rfl (fun c9 => ?_) (fun c9 => ?_)
    · replace h := (if_neg c9).symm.trans h
      refine Vm.iconst (n := 73) (v := (0 : Int32)) dX8_mustHold_72 rfl (by decide) ?_
      obtain rfl := Option.some.inj h
      exact Vm.zret (b := false) dX8_mustHold_73 rfl rfl hk.1 (by rw [hσ]; exact hk.2.symm)
    · replace h := (if_pos c9).symm.trans h
      refine Vm.iload_n (n := 63) 5 dX8_mustHold_62 rfl rfl ?_
      refine Vm.iload (n := 65) 1 dX8_mustHold_63 rfl rfl ?_
      refine Vm.icmp_ne (n := 68) 72 dX8_mustHold_65 rfl rfl (fun c9 => ?_) (fun c9 => ?_)
      · replace h := (if_neg c9).symm.trans h
        refine Vm.iconst (n := 73) (v := (0 : Int32)) dX8_mustHold_72 rfl (by decide) ?_
        obtain rfl := Option.some.inj h
        exact Vm.zret (b := false) dX8_mustHold_73 rfl rfl hk.1 (by rw [hσ]; exact hk.2.symm)
      · replace h := (if_pos c9).symm.trans h
        refine Vm.iconst (n := 69) (v := (1 : Int32)) dX8_mustHold_68 rfl (by decide) ?_
        refine Vm.goto 73 dX8_mustHold_69 rfl ?_
        obtain rfl := Option.some.inj h
        exact Vm.zret (b := true) dX8_mustHold_73 rfl rfl hk.1 (by rw [hσ]; exact hk.2.symm)
  · replace h := (if_neg c51).symm.trans h
    by_cases c52 : q3.toInt = (2 : Int)
    · replace h := (if_pos c52).symm.trans h
      refine Vm.tswI (2) 74 dX8_mustHold_22 c52 (by decide) rfl rfl ?_
      refine Vm.iload_n (n := 75) 4 dX8_mustHold_74 rfl rfl ?_
      refine Vm.iload (n := 77) 1 dX8_mustHold_75 rfl rfl ?_
      refine Vm.iload (n := 79) 0 dX8_mustHold_77 rfl rfl ?_
      refine Vm.isub (n := 80) dX8_mustHold_79 rfl ?_
      refine Vm.icmp_lt (n := 83) 96 dX8_mustHold_80 rfl rfl (fun c9 => ?_) (fun c9 => ?_)
      · replace h := (if_pos c9).symm.trans h
        refine Vm.iconst (n := 97) (v := (0 : Int32)) dX8_mustHold_96 rfl (by decide) ?_
        obtain rfl := Option.some.inj h
        exact Vm.zret (b := false) dX8_mustHold_97 rfl rfl hk.1 (by rw [hσ]; exact hk.2.symm)
      · replace h := (if_neg c9).symm.trans h
        refine Vm.iload_n (n := 84) 5 dX8_mustHold_83 rfl rfl ?_
        refine Vm.iload (n := 86) 1 dX8_mustHold_84 rfl rfl ?_
        refine Vm.iload (n := 88) 0 dX8_mustHold_86 rfl rfl ?_
        refine Vm.iadd (n := 89) dX8_mustHold_88 rfl ?_
        refine Vm.icmp_gt (n := 92) 96 dX8_mustHold_89 rfl rfl (fun c9 => ?_) (fun c9 => ?_)
        · replace h := (if_pos c9).symm.trans h
          refine Vm.iconst (n := 97) (v := (0 : Int32)) dX8_mustHold_96 rfl (by decide) ?_
          obtain rfl := Option.some.inj h
          exact Vm.zret (b := false) dX8_mustHold_97 rfl rfl hk.1 (by rw [hσ]; exact hk.2.symm)
        · replace h := (if_neg c9).symm.trans h
          refine Vm.iconst (n := 93) (v := (1 : Int32)) dX8_mustHold_92 rfl (by decide) ?_
          refine Vm.goto 97 dX8_mustHold_93 rfl ?_
          obtain rfl := Option.some.inj h
          exact Vm.zret (b := true) dX8_mustHold_97 rfl rfl hk.1 (by rw [hσ]; exact hk.2.symm)
    · replace h := (if_neg c52).symm.trans h
      by_cases c53 : q3.toInt = (3 : Int)
      · replace h := (if_pos c53).symm.trans h
        refine Vm.tswI (3) 98 dX8_mustHold_22 c53 (by decide) rfl rfl ?_
        refine Vm.iload (n := 100) 0 dX8_mustHold_98 rfl rfl ?_
        refine Vm.iconst (n := 101) (v := (1 : Int32)) dX8_mustHold_100 rfl (by decide) ?_
        refine Vm.icmp_eq (n := 104) 119 dX8_mustHold_101 rfl rfl (fun c9 => ?_) (fun c9 => ?_)
        · replace h := (if_pos c9).symm.trans h
          refine Vm.sub (lv' := []) [] rfl ?_
          exact lX8_mustHold_119 σ σ0 τ hσ h hk
        · replace h := (if_neg c9).symm.trans h
          refine Vm.iload_n (n := 105) 4 dX8_mustHold_104 rfl rfl ?_
          refine Vm.iload_n (n := 106) 5 dX8_mustHold_105 rfl rfl ?_
          refine Vm.icmp_ne (n := 109) 123 dX8_mustHold_106 rfl rfl (fun c9 => ?_) (fun c9 => ?_)
          · replace h := (if_neg c9).symm.trans h
            refine Vm.iconst (n := 124) (v := (0 : Int32)) dX8_mustHold_123 rfl (by decide) ?_
            obtain rfl := Option.some.inj h
            exact Vm.zret (b := false) dX8_mustHold_124 rfl rfl hk.1 (by rw [hσ]; exact hk.2.symm)
          · replace h := (if_pos c9).symm.trans h
            refine Vm.iload_n (n := 110) 4 dX8_mustHold_109 rfl rfl ?_
            refine Vm.iload (n := 112) 1 dX8_mustHold_110 rfl rfl ?_
            refine Vm.isub (n := 113) dX8_mustHold_112 rfl ?_
            refine Vm.iload (n := 115) 0 dX8_mustHold_113 rfl rfl ?_
            replace h := Option.bind_eq_some_iff.mp h
            obtain ⟨x4, h4, h⟩ := h
            refine Vm.irem (n := 116) dX8_mustHold_115 rfl h4 ?_
            refine Vm.if_ne (n := 119) 123 dX8_mustHold_116 rfl rfl (fun c9 => ?_) (fun c9 => ?_)
            · replace h := (if_neg c9).symm.trans h
              refine Vm.iconst (n := 124) (v := (0 : Int32)) dX8_mustHold_123 rfl (by decide) ?_
              obtain rfl := Option.some.inj h
              exact Vm.zret (b := false) dX8_mustHold_124 rfl rfl hk.1 (by rw [hσ]; exact hk.2.symm)
            · replace h := (if_pos c9).symm.trans h
              refine Vm.sub (lv' := []) [] rfl ?_
              exact lX8_mustHold_119 σ σ0 τ hσ h hk
      · replace h := (if_neg c53).symm.trans h
        by_cases c54 : q3.toInt = (4 : Int)
        · replace h := (if_pos c54).symm.trans h
          refine Vm.tswI (4) 125 dX8_mustHold_22 c54 (by decide) rfl rfl ?_
          refine Vm.iload_n (n := 126) 5 dX8_mustHold_125 rfl rfl ?_
          refine Vm.iload (n := 128) 1 dX8_mustHold_126 rfl rfl ?_
          refine Vm.iload (n := 130) 0 dX8_mustHold_128 rfl rfl ?_
          refine Vm.isub (n := 131) dX8_mustHold_130 rfl ?_
          refine Vm.icmp_lt (n := 134) 143 dX8_mustHold_131 rfl rfl (fun c9 => ?_) (fun c9 => ?_)
          · replace h := (if_pos c9).symm.trans h
            refine Vm.sub (lv' := []) [] rfl ?_
            exact lX8_mustHold_143 σ σ0 τ hσ h hk
          · replace h := (if_neg c9).symm.trans h
            refine Vm.iload_n (n := 135) 4 dX8_mustHold_134 rfl rfl ?_
            refine Vm.iload (n := 137) 1 dX8_mustHold_135 rfl rfl ?_
            refine Vm.iload (n := 139) 0 dX8_mustHold_137 rfl rfl ?_
            refine Vm.iadd (n := 140) dX8_mustHold_139 rfl ?_
            refine Vm.icmp_le (n := 143) 147 dX8_mustHold_140 rfl rfl (fun c9 => ?_) (fun c9 => ?_)
            · replace h := (if_pos c9).symm.trans h
              refine Vm.iconst (n := 148) (v := (0 : Int32)) dX8_mustHold_147 rfl (by decide) ?_
              obtain rfl := Option.some.inj h
              exact Vm.zret (b := false) dX8_mustHold_148 rfl rfl hk.1 (by rw [hσ]; exact hk.2.symm)
            · replace h := (if_neg c9).symm.trans h
              refine Vm.sub (lv' := []) [] rfl ?_
              exact lX8_mustHold_143 σ σ0 τ hσ h hk
        · replace h := (if_neg c54).symm.trans h
          by_cases c55 : q3.toInt = (5 : Int)
          · replace h := (if_pos c55).symm.trans h
            refine Vm.tswI (5) 149 dX8_mustHold_22 c55 (by decide) rfl rfl ?_
            refine Vm.iload_n (n := 150) 4 dX8_mustHold_149 rfl rfl ?_
            refine Vm.iload (n := 152) 1 dX8_mustHold_150 rfl rfl ?_
            refine Vm.icmp_lt (n := 155) 159 dX8_mustHold_152 rfl rfl (fun c9 => ?_) (fun c9 => ?_)
            · replace h := (if_pos c9).symm.trans h
              refine Vm.iconst (n := 160) (v := (0 : Int32)) dX8_mustHold_159 rfl (by decide) ?_
              obtain rfl := Option.some.inj h
              exact Vm.zret (b := false) dX8_mustHold_160 rfl rfl hk.1 (by rw [hσ]; exact hk.2.symm)
            · replace h := (if_neg c9).symm.trans h
              refine Vm.iconst (n := 156) (v := (1 : Int32)) dX8_mustHold_155 rfl (by decide) ?_
              refine Vm.goto 160 dX8_mustHold_156 rfl ?_
              obtain rfl := Option.some.inj h
              exact Vm.zret (b := true) dX8_mustHold_160 rfl rfl hk.1 (by rw [hσ]; exact hk.2.symm)
          · replace h := (if_neg c55).symm.trans h
            refine Vm.tswO 161 dX8_mustHold_22 (by omega) rfl ?_
            refine Vm.iload_n (n := 162) 5 dX8_mustHold_161 rfl rfl ?_
            refine Vm.iload (n := 164) 1 dX8_mustHold_162 rfl rfl ?_
            refine Vm.icmp_gt (n := 167) 171 dX8_mustHold_164 rfl rfl (fun c9 => ?_) (fun c9 => ?_)
            · replace h := (if_pos c9).symm.trans h
              refine Vm.iconst (n := 172) (v := (0 : Int32)) dX8_mustHold_171 rfl (by decide) ?_
              obtain rfl := Option.some.inj h
              exact Vm.zret (b := false) dX8_mustHold_172 rfl rfl hk.1 (by rw [hσ]; exact hk.2.symm)
            · replace h := (if_neg c9).symm.trans h
              refine Vm.iconst (n := 168) (v := (1 : Int32)) dX8_mustHold_167 rfl (by decide) ?_
              refine Vm.goto 172 dX8_mustHold_168 rfl ?_
              obtain rfl := Option.some.inj h
              exact Vm.zret (b := true) dX8_mustHold_172 rfl rfl hk.1 (by rw [hσ]; exact hk.2.symm)
theorem kX8_mustHold (a1 : Int32) (a2 : Int32) (a3 : Int32) (σ τ : mm) {q : Bool} (h : fX8_mustHold a1 a2 a3 σ = some q) : Cx mX8_mustHold 1 [.inr (.inr (32, 0)), .inl a1, .inl a2, .inl a3] (τ, σ) (some (.inl (bi q))) (τ, σ) :=
  Cx.of (lv := [(0, .inr (.inr (32, 0))), (1, .inl a1), (2, .inl a2), (3, .inl a3)]) (by decide) (fun ad => Nat.le_of_ble_eq_true rfl) (fun ad => rfl) (lX8_mustHold_0 a1 a2 a3 σ σ τ rfl h ⟨rfl, rfl⟩)
-- ThinBodiesModel isWhole (I)Z
noncomputable def fX8_isWhole_41 (a1 : Int32) (a3 : Int32) (s0 : Int32) (σ : mm) : Option ((Int32 × Int32) ⊕ (Bool)) :=
  Option.bind (some (a3 + (1 : Int32))) fun x1 =>
  some (.inl (s0, x1))
noncomputable def fX8_isWhole_40 (a1 : Int32) (a3 : Int32) (σ : mm) : Option ((Int32 × Int32) ⊕ (Bool)) :=
  fX8_isWhole_41 a1 a3 (0 : Int32) σ
noncomputable def fX8_isWhole_4 (a1 : Int32) (a2 : Int32) (a3 : Int32) (σ : mm) : Option ((Int32 × Int32) ⊕ (Bool)) :=
  if (σ.1 32 0 4) ≤ a3 then
  Option.bind (zr a2) fun b1 =>
  some (.inr (b1))
  else
  if a2 = (0 : Int32) then
  fX8_isWhole_40 a1 a3 σ
  else
  Option.bind (fX8_least a3 a1 σ) fun q2 =>
  Option.bind (fX8_most a3 a1 σ) fun q3 =>
  Option.bind (fX8_mustHold a3 q2 q3 σ) fun q4 =>
  if (bi q4) = (0 : Int32) then
  fX8_isWhole_40 a1 a3 σ
  else
  fX8_isWhole_41 a1 a3 (1 : Int32) σ
noncomputable def fX8_isWhole_4_L (a1 : Int32) (σ : mm) : Int32 × Int32 → Option ((Int32 × Int32) ⊕ (Bool)) := fun z => fX8_isWhole_4 a1 z.1 z.2 σ
noncomputable def fX8_isWhole_0 (a1 : Int32) (σ : mm) : Option (Bool) :=
  lp (fX8_isWhole_4_L a1 σ) ((1 : Int32), (0 : Int32))
noncomputable def fX8_isWhole (a1 : Int32) (σ : mm) : Option (Bool) := fX8_isWhole_0 a1 σ
set_option maxRecDepth 20000 in
theorem lX8_isWhole_41 (a1 : Int32) (a3 : Int32) (s0 : Int32) (σ σ0 τ : mm) (hσ : σ = σ0) {r : Option mv} {M' : mm × mm} {v9 : (Int32 × Int32) ⊕ (Bool)} (h : fX8_isWhole_41 a1 a3 s0 σ = some v9) (hk : (Sum.elim (fun z : Int32 × Int32 => Vm mX8_isWhole 2 4 [(0, .inr (.inr (32, 0))), (1, .inl a1), (2, .inl z.1), (3, .inl z.2)] [] (τ, σ) r M') (fun q : Bool => r = some (.inl (bi q)) ∧ M' = (τ, σ0))) v9) : Vm mX8_isWhole 2 41 [(0, .inr (.inr (32, 0))), (1, .inl a1), (3, .inl a3)] [.inl s0] (τ, σ) r M' := by
  unfold fX8_isWhole_41 at h
  refine Vm.istore_n (n := 42) (lv' := [(2, .inl s0), (0, .inr (.inr (32, 0))), (1, .inl a1), (3, .inl a3)]) dX8_isWhole_41 rfl (Nat.le_of_ble_eq_true rfl) rfl ?_
  replace h := Option.bind_eq_some_iff.mp h
  obtain ⟨x1, e1, h⟩ := h
  replace e1 := Option.some.inj e1
  refine Vm.iinc (n := 45) (v := x1) (lv' := [(3, .inl x1), (2, .inl s0), (0, .inr (.inr (32, 0))), (1, .inl a1)]) 3 dX8_isWhole_42 rfl rfl e1 (Nat.le_of_ble_eq_true rfl) rfl ?_
  refine Vm.goto 4 dX8_isWhole_45 rfl ?_
  refine Vm.sub (lv' := [(0, .inr (.inr (32, 0))), (1, .inl a1), (2, .inl s0), (3, .inl x1)]) [2, 3, 1, 0] rfl ?_
  obtain rfl := Option.some.inj h
  exact hk
set_option maxRecDepth 20000 in
theorem lX8_isWhole_40 (a1 : Int32) (a3 : Int32) (σ σ0 τ : mm) (hσ : σ = σ0) {r : Option mv} {M' : mm × mm} {v9 : (Int32 × Int32) ⊕ (Bool)} (h : fX8_isWhole_40 a1 a3 σ = some v9) (hk : (Sum.elim (fun z : Int32 × Int32 => Vm mX8_isWhole 2 4 [(0, .inr (.inr (32, 0))), (1, .inl a1), (2, .inl z.1), (3, .inl z.2)] [] (τ, σ) r M') (fun q : Bool => r = some (.inl (bi q)) ∧ M' = (τ, σ0))) v9) : Vm mX8_isWhole 2 40 [(0, .inr (.inr (32, 0))), (1, .inl a1), (3, .inl a3)] [] (τ, σ) r M' := by
  unfold fX8_isWhole_40 at h
  refine Vm.iconst (n := 41) (v := (0 : Int32)) dX8_isWhole_40 rfl (by decide) ?_
  exact lX8_isWhole_41 a1 a3 (0 : Int32) σ σ0 τ hσ h hk
set_option maxRecDepth 20000 in
theorem lX8_isWhole_4 (a1 : Int32) (a2 : Int32) (a3 : Int32) (σ σ0 τ : mm) (hσ : σ = σ0) {r : Option mv} {M' : mm × mm} {v9 : (Int32 × Int32) ⊕ (Bool)} (h : fX8_isWhole_4 a1 a2 a3 σ = some v9) (hk : (Sum.elim (fun z : Int32 × Int32 => Vm mX8_isWhole 2 4 [(0, .inr (.inr (32, 0))), (1, .inl a1), (2, .inl z.1), (3, .inl z.2)] [] (τ, σ) r M') (fun q : Bool => r = some (.inl (bi q)) ∧ M' = (τ, σ0))) v9) : Vm mX8_isWhole 2 4 [(0, .inr (.inr (32, 0))), (1, .inl a1), (2, .inl a2), (3, .inl a3)] [] (τ, σ) r M' := by
  unfold fX8_isWhole_4 at h
  refine Vm.iload_n (n := 5) 3 dX8_isWhole_4 rfl rfl ?_
  refine Vm.aload_n (n := 6) 0 dX8_isWhole_5 rfl rfl ?_
  refine Vm.gM (n := 9) dX8_isWhole_6 rfl wf_RX8_97 in_32 rfl (by decide) rfl (by decide) ?_
  refine Vm.icmp_ge (n := 12) 48 dX8_isWhole_9 rfl rfl (fun c9 => ?_) (fun c9 => ?_)
  · replace h := (if_pos c9).symm.trans h
    refine Vm.iload_n (n := 49) 2 dX8_isWhole_48 rfl rfl ?_
    replace h := Option.bind_eq_some_iff.mp h
    obtain ⟨b1, h1, h⟩ := h
    obtain rfl := Option.some.inj h
    exact Vm.zret (b := b1) dX8_isWhole_49 rfl (zr_bi h1) hk.1 (by rw [hσ]; exact hk.2.symm)
  · replace h := (if_neg c9).symm.trans h
    refine Vm.iload_n (n := 13) 2 dX8_isWhole_12 rfl rfl ?_
    refine Vm.if_eq (n := 16) 40 dX8_isWhole_13 rfl rfl (fun c9 => ?_) (fun c9 => ?_)
    · replace h := (if_pos c9).symm.trans h
      refine Vm.sub (lv' := [(0, .inr (.inr (32, 0))), (1, .inl a1), (3, .inl a3)]) [0, 1, 3] rfl ?_
      exact lX8_isWhole_40 a1 a3 σ σ0 τ hσ h hk
    · replace h := (if_neg c9).symm.trans h
      refine Vm.aload_n (n := 17) 0 dX8_isWhole_16 rfl rfl ?_
      refine Vm.iload_n (n := 18) 3 dX8_isWhole_17 rfl rfl ?_
      refine Vm.aload_n (n := 19) 0 dX8_isWhole_18 rfl rfl ?_
      refine Vm.iload_n (n := 20) 3 dX8_isWhole_19 rfl rfl ?_
      refine Vm.iload_n (n := 21) 1 dX8_isWhole_20 rfl rfl ?_
      replace h := Option.bind_eq_some_iff.mp h
      obtain ⟨q2, h2, h⟩ := h
      refine Vm.callV (Y := mX8_least) (n := 24) [.inl a3, .inl a1] dX8_isWhole_21 rfl wv_RX8_158 omX8_least rfl in_32 rfl rfl rfl (Nat.le_of_ble_eq_true rfl) (by decide) (kX8_least a3 a1 σ τ h2) ?_
      refine Vm.aload_n (n := 25) 0 dX8_isWhole_24 rfl rfl ?_
      refine Vm.iload_n (n := 26) 3 dX8_isWhole_25 rfl rfl ?_
      refine Vm.iload_n (n := 27) 1 dX8_isWhole_26 rfl rfl ?_
      replace h := Option.bind_eq_some_iff.mp h
      obtain ⟨q3, h3, h⟩ := h
      refine Vm.callV (Y := mX8_most) (n := 30) [.inl a3, .inl a1] dX8_isWhole_27 rfl wv_RX8_161 omX8_most rfl in_32 rfl rfl rfl (Nat.le_of_ble_eq_true rfl) (by decide) (kX8_most a3 a1 σ τ h3) ?_
      replace h := Option.bind_eq_some_iff.mp h
      obtain ⟨q4, h4, h⟩ := h
      refine Vm.callV (Y := mX8_mustHold) (n := 33) [.inl a3, .inl q2, .inl q3] dX8_isWhole_30 rfl wv_RX8_234 omX8_mustHold rfl in_32 rfl rfl rfl (Nat.le_of_ble_eq_true rfl) (by decide) (kX8_mustHold a3 q2 q3 σ τ h4) ?_
      refine Vm.if_eq (n := 36) 40 dX8_isWhole_33 rfl rfl (fun c9 => ?_) (fun c9 => ?_)
      · replace h := (if_pos c9).symm.trans h
        refine Vm.sub (lv' := [(0, .inr (.inr (32, 0))), (1, .inl a1), (3, .inl a3)]) [0, 1, 3] rfl ?_
        exact lX8_isWhole_40 a1 a3 σ σ0 τ hσ h hk
      · replace h := (if_neg c9).symm.trans h
        refine Vm.iconst (n := 37) (v := (1 : Int32)) dX8_isWhole_36 rfl (by decide) ?_
        refine Vm.goto 41 dX8_isWhole_37 rfl ?_
        refine Vm.sub (lv' := [(0, .inr (.inr (32, 0))), (1, .inl a1), (3, .inl a3)]) [0, 1, 3] rfl ?_
        exact lX8_isWhole_41 a1 a3 (1 : Int32) σ σ0 τ hσ h hk
theorem lX8_isWhole_4_L (a1 : Int32) (σ σ0 τ : mm) (hσ : σ = σ0) {r : Option mv} {M' : mm × mm} (z : Int32 × Int32) (w9 : Bool) (h : lp (fX8_isWhole_4_L a1 σ) z = some w9) (hk : (fun q : Bool => r = some (.inl (bi q)) ∧ M' = (τ, σ0)) w9) : Vm mX8_isWhole 2 4 [(0, .inr (.inr (32, 0))), (1, .inl a1), (2, .inl z.1), (3, .inl z.2)] [] (τ, σ) r M' :=
  lp_link (S := Int32 × Int32) (R := Bool) (body := fX8_isWhole_4_L a1 σ) (A := fun z : Int32 × Int32 => Vm mX8_isWhole 2 4 [(0, .inr (.inr (32, 0))), (1, .inl a1), (2, .inl z.1), (3, .inl z.2)] [] (τ, σ) r M') (B := fun w : Bool => (fun q : Bool => r = some (.inl (bi q)) ∧ M' = (τ, σ0)) w) (fun z v hb hv => lX8_isWhole_4 a1 z.1 z.2 σ σ0 τ hσ hb hv) z w9 h hk
set_option maxRecDepth 20000 in
theorem lX8_isWhole_0 (a1 : Int32) (σ σ0 τ : mm) (hσ : σ = σ0) {r : Option mv} {M' : mm × mm} {v9 : Bool} (h : fX8_isWhole_0 a1 σ = some v9) (hk : (fun q : Bool => r = some (.inl (bi q)) ∧ M' = (τ, σ0)) v9) : Vm mX8_isWhole 2 0 [(0, .inr (.inr (32, 0))), (1, .inl a1)] [] (τ, σ) r M' := by
  unfold fX8_isWhole_0 at h
  refine Vm.iconst (n := 1) (v := (1 : Int32)) dX8_isWhole_0 rfl (by decide) ?_
  refine Vm.istore_n (n := 2) (lv' := [(2, .inl (1 : Int32)), (0, .inr (.inr (32, 0))), (1, .inl a1)]) dX8_isWhole_1 rfl (Nat.le_of_ble_eq_true rfl) rfl ?_
  refine Vm.iconst (n := 3) (v := (0 : Int32)) dX8_isWhole_2 rfl (by decide) ?_
  refine Vm.istore_n (n := 4) (lv' := [(3, .inl (0 : Int32)), (2, .inl (1 : Int32)), (0, .inr (.inr (32, 0))), (1, .inl a1)]) dX8_isWhole_3 rfl (Nat.le_of_ble_eq_true rfl) rfl ?_
  refine Vm.sub (lv' := [(0, .inr (.inr (32, 0))), (1, .inl a1), (2, .inl (1 : Int32)), (3, .inl (0 : Int32))]) [2, 3, 1, 0] rfl ?_
  exact lX8_isWhole_4_L a1 σ σ0 τ hσ ((1 : Int32), (0 : Int32)) _ h hk
theorem kX8_isWhole (a1 : Int32) (σ τ : mm) {q : Bool} (h : fX8_isWhole a1 σ = some q) : Cx mX8_isWhole 2 [.inr (.inr (32, 0)), .inl a1] (τ, σ) (some (.inl (bi q))) (τ, σ) :=
  Cx.of (lv := [(0, .inr (.inr (32, 0))), (1, .inl a1)]) (by decide) (fun ad => Nat.le_of_ble_eq_true rfl) (fun ad => rfl) (lX8_isWhole_0 a1 σ σ τ rfl h ⟨rfl, rfl⟩)
-- ThinBodiesModel leafAt (II)V
noncomputable def fX8_leafAt_163 (s1 : Int32) (s2 : Int32) (σ : mm) : Option (mm) :=
  Option.bind (some (s1 + s2)) fun x1 =>
  Option.bind (some (stI σ 32 0 21 x1)) fun σ2 =>
  some (σ2)
noncomputable def fX8_leafAt_119 (a2 : Int32) (a3 : Int32) (a4 : Int32) (s1 : Int32) (s2 : Int32) (σ : mm) : Option (mm) :=
  Option.bind (wrI σ 57 0 45056 s1 s2) fun σ1 =>
  Option.bind (wrI σ1 57 0 45056 (a3 + (1 : Int32)) a4) fun σ2 =>
  Option.bind (wrI σ2 57 0 45056 (a3 + (2 : Int32)) a2) fun σ3 =>
  Option.bind (some ((σ3.1 32 0 18) + (1 : Int32))) fun x4 =>
  Option.bind (some (stI σ3 32 0 18 x4)) fun σ5 =>
  if (0 : Int32) ≤ a2 then
  fX8_leafAt_163 (σ5.1 32 0 21) (1 : Int32) σ5
  else
  fX8_leafAt_163 (σ5.1 32 0 21) (0 : Int32) σ5
noncomputable def fX8_leafAt_96 (a1 : Int32) (a2 : Int32) (a3 : Int32) (a5 : Int32) (s0 : Int32) (s1 : Int32) (σ : mm) : Option ((Int32 × Int32 × mm) ⊕ (mm)) :=
  Option.bind (some (s0 * s1)) fun x1 =>
  Option.bind (some (a5 + (1 : Int32))) fun x2 =>
  some (.inl (x1, x2, σ))
noncomputable def fX8_leafAt_14 (a1 : Int32) (a2 : Int32) (a3 : Int32) (a4 : Int32) (a5 : Int32) (σ : mm) : Option ((Int32 × Int32 × mm) ⊕ (mm)) :=
  if (4 : Int32) ≤ a5 then
  if (0 : Int32) ≤ a2 then
  Option.map Sum.inr (fX8_leafAt_119 a2 a3 a4 a3 (0 : Int32) σ)
  else
  Option.map Sum.inr (fX8_leafAt_119 a2 a3 a4 a3 (1 : Int32) σ)
  else
  Option.bind (fX8_edge a1 a5 (0 : Int32) σ) fun q1 =>
  Option.bind (wrI σ 57 0 45056 ((a3 + (3 : Int32)) + ((2 : Int32) * a5)) q1) fun σ2 =>
  Option.bind (fX8_edge a1 a5 (1 : Int32) σ2) fun q3 =>
  Option.bind (wrI σ2 57 0 45056 ((a3 + (4 : Int32)) + ((2 : Int32) * a5)) q3) fun σ4 =>
  if (σ4.1 32 0 1) ≤ a5 then
  fX8_leafAt_96 a1 a2 a3 a5 a4 (1 : Int32) σ4
  else
  Option.bind (fX8_edge a1 a5 (1 : Int32) σ4) fun q5 =>
  Option.bind (fX8_edge a1 a5 (0 : Int32) σ4) fun q6 =>
  fX8_leafAt_96 a1 a2 a3 a5 a4 ((q5 - q6) + (1 : Int32)) σ4
noncomputable def fX8_leafAt_14_L (a1 : Int32) (a2 : Int32) (a3 : Int32) : Int32 × Int32 × mm → Option ((Int32 × Int32 × mm) ⊕ (mm)) := fun z => fX8_leafAt_14 a1 a2 a3 z.1 z.2.1 z.2.2
noncomputable def fX8_leafAt_0 (a1 : Int32) (a2 : Int32) (σ : mm) : Option (mm) :=
  Option.bind (some ((11 : Int32) * (σ.1 32 0 18))) fun x1 =>
  lp (fX8_leafAt_14_L a1 a2 x1) ((1 : Int32), (0 : Int32), σ)
noncomputable def fX8_leafAt (a1 : Int32) (a2 : Int32) (σ : mm) : Option (mm) := fX8_leafAt_0 a1 a2 σ
set_option maxRecDepth 20000 in
theorem lX8_leafAt_163 (s1 : Int32) (s2 : Int32) (σ τ : mm) {r : Option mv} {M' : mm × mm} {v9 : mm} (h : fX8_leafAt_163 s1 s2 σ = some v9) (hk : (fun q : mm => r = none ∧ M' = (τ, q)) v9) : Vm mX8_leafAt 1 163 [] [.inl s2, .inl s1, .inr (.inr (32, 0))] (τ, σ) r M' := by
  unfold fX8_leafAt_163 at h
  refine Vm.iadd (n := 164) dX8_leafAt_163 rfl ?_
  replace h := Option.bind_eq_some_iff.mp h
  obtain ⟨x1, e1, h⟩ := h
  replace e1 := Option.some.inj e1
  refine Vm.top e1 ?_
  refine Vm.pM (n := 167) (ty := .int) dX8_leafAt_164 rfl wf_RX8_240 in_32 rfl (by decide) rfl (by decide) rfl rfl rfl rfl ?_
  replace h := Option.bind_eq_some_iff.mp h
  obtain ⟨σ2, e2, h⟩ := h
  replace e2 := Option.some.inj e2
  refine Vm.mem (congrArg (fun z => (τ, z)) e2) ?_
  obtain rfl := Option.some.inj h
  exact Vm.vret dX8_leafAt_167 rfl hk.1 hk.2.symm
set_option maxRecDepth 20000 in
theorem lX8_leafAt_119 (a2 : Int32) (a3 : Int32) (a4 : Int32) (s1 : Int32) (s2 : Int32) (σ τ : mm) {r : Option mv} {M' : mm × mm} {v9 : mm} (h : fX8_leafAt_119 a2 a3 a4 s1 s2 σ = some v9) (hk : (fun q : mm => r = none ∧ M' = (τ, q)) v9) : Vm mX8_leafAt 1 119 [(0, .inr (.inr (32, 0))), (2, .inl a2), (3, .inl a3), (4, .inl a4)] [.inl s2, .inl s1, .inr (.inr (57, 0))] (τ, σ) r M' := by
  unfold fX8_leafAt_119 at h
  replace h := Option.bind_eq_some_iff.mp h
  obtain ⟨σ1, h1, h⟩ := h
  refine Vm.iastm (n := 120) dX8_leafAt_119 rfl in_57 rfl rfl (by decide) h1 ?_
  refine Vm.aload_n (n := 121) 0 dX8_leafAt_120 rfl rfl ?_
  refine Vm.getR (n := 124) dX8_leafAt_121 rfl wf_RX8_49 in_32 rfl (by decide) rfl ?_
  refine Vm.iload_n (n := 125) 2 dX8_leafAt_124 rfl rfl ?_
  refine Vm.iconst (n := 126) (v := (1 : Int32)) dX8_leafAt_125 rfl (by decide) ?_
  refine Vm.iadd (n := 127) dX8_leafAt_126 rfl ?_
  refine Vm.iload (n := 129) 3 dX8_leafAt_127 rfl rfl ?_
  replace h := Option.bind_eq_some_iff.mp h
  obtain ⟨σ2, h2, h⟩ := h
  refine Vm.iastm (n := 130) dX8_leafAt_129 rfl in_57 rfl rfl (by decide) h2 ?_
  refine Vm.aload_n (n := 131) 0 dX8_leafAt_130 rfl rfl ?_
  refine Vm.getR (n := 134) dX8_leafAt_131 rfl wf_RX8_49 in_32 rfl (by decide) rfl ?_
  refine Vm.iload_n (n := 135) 2 dX8_leafAt_134 rfl rfl ?_
  refine Vm.iconst (n := 136) (v := (2 : Int32)) dX8_leafAt_135 rfl (by decide) ?_
  refine Vm.iadd (n := 137) dX8_leafAt_136 rfl ?_
  refine Vm.iload_n (n := 138) 1 dX8_leafAt_137 rfl rfl ?_
  replace h := Option.bind_eq_some_iff.mp h
  obtain ⟨σ3, h3, h⟩ := h
  refine Vm.iastm (n := 139) dX8_leafAt_138 rfl in_57 rfl rfl (by decide) h3 ?_
  refine Vm.aload_n (n := 140) 0 dX8_leafAt_139 rfl rfl ?_
  refine Vm.dup (n := 141) dX8_leafAt_140 rfl rfl ?_
  refine Vm.gM (n := 144) dX8_leafAt_141 rfl wf_RX8_237 in_32 rfl (by decide) rfl (by decide) ?_
  refine Vm.iconst (n := 145) (v := (1 : Int32)) dX8_leafAt_144 rfl (by decide) ?_
  refine Vm.iadd (n := 146) dX8_leafAt_145 rfl ?_
  replace h := Option.bind_eq_some_iff.mp h
  obtain ⟨x4, e4, h⟩ := h
  replace e4 := Option.some.inj e4
  refine Vm.top e4 ?_
  refine Vm.pM (n := 149) (ty := .int) dX8_leafAt_146 rfl wf_RX8_237 in_32 rfl (by decide) rfl (by decide) rfl rfl rfl rfl ?_
  replace h := Option.bind_eq_some_iff.mp h
  obtain ⟨σ5, e5, h⟩ := h
  replace e5 := Option.some.inj e5
  refine Vm.mem (congrArg (fun z => (τ, z)) e5) ?_
  refine Vm.aload_n (n := 150) 0 dX8_leafAt_149 rfl rfl ?_
  refine Vm.dup (n := 151) dX8_leafAt_150 rfl rfl ?_
  refine Vm.gM (n := 154) dX8_leafAt_151 rfl wf_RX8_240 in_32 rfl (by decide) rfl (by decide) ?_
  refine Vm.iload_n (n := 155) 1 dX8_leafAt_154 rfl rfl ?_
  refine Vm.if_ge (n := 158) 162 dX8_leafAt_155 rfl rfl (fun c9 => ?_) (fun c9 => ?_)
  · replace h := (if_pos c9).symm.trans h
    refine Vm.iconst (n := 163) (v := (1 : Int32)) dX8_leafAt_162 rfl (by decide) ?_
    refine Vm.sub (lv' := []) [] rfl ?_
    exact lX8_leafAt_163 (σ5.1 32 0 21) (1 : Int32) σ5 τ h hk
  · replace h := (if_neg c9).symm.trans h
    refine Vm.iconst (n := 159) (v := (0 : Int32)) dX8_leafAt_158 rfl (by decide) ?_
    refine Vm.goto 163 dX8_leafAt_159 rfl ?_
    refine Vm.sub (lv' := []) [] rfl ?_
    exact lX8_leafAt_163 (σ5.1 32 0 21) (0 : Int32) σ5 τ h hk
set_option maxRecDepth 20000 in
theorem lX8_leafAt_96 (a1 : Int32) (a2 : Int32) (a3 : Int32) (a5 : Int32) (s0 : Int32) (s1 : Int32) (σ τ : mm) {r : Option mv} {M' : mm × mm} {v9 : (Int32 × Int32 × mm) ⊕ (mm)} (h : fX8_leafAt_96 a1 a2 a3 a5 s0 s1 σ = some v9) (hk : (Sum.elim (fun z : Int32 × Int32 × mm => Vm mX8_leafAt 1 14 [(0, .inr (.inr (32, 0))), (1, .inl a1), (2, .inl a2), (3, .inl a3), (4, .inl z.1), (5, .inl z.2.1)] [] (τ, z.2.2) r M') (fun q : mm => r = none ∧ M' = (τ, q))) v9) : Vm mX8_leafAt 1 96 [(0, .inr (.inr (32, 0))), (1, .inl a1), (2, .inl a2), (3, .inl a3), (5, .inl a5)] [.inl s1, .inl s0] (τ, σ) r M' := by
  unfold fX8_leafAt_96 at h
  refine Vm.imul (n := 97) dX8_leafAt_96 rfl ?_
  replace h := Option.bind_eq_some_iff.mp h
  obtain ⟨x1, e1, h⟩ := h
  replace e1 := Option.some.inj e1
  refine Vm.top e1 ?_
  refine Vm.istore (n := 99) (lv' := [(4, .inl x1), (0, .inr (.inr (32, 0))), (1, .inl a1), (2, .inl a2), (3, .inl a3), (5, .inl a5)]) dX8_leafAt_97 rfl (Nat.le_of_ble_eq_true rfl) rfl ?_
  replace h := Option.bind_eq_some_iff.mp h
  obtain ⟨x2, e2, h⟩ := h
  replace e2 := Option.some.inj e2
  refine Vm.iinc (n := 102) (v := x2) (lv' := [(5, .inl x2), (4, .inl x1), (0, .inr (.inr (32, 0))), (1, .inl a1), (2, .inl a2), (3, .inl a3)]) 5 dX8_leafAt_99 rfl rfl e2 (Nat.le_of_ble_eq_true rfl) rfl ?_
  refine Vm.goto 14 dX8_leafAt_102 rfl ?_
  refine Vm.sub (lv' := [(0, .inr (.inr (32, 0))), (1, .inl a1), (2, .inl a2), (3, .inl a3), (4, .inl x1), (5, .inl x2)]) [2, 3, 4, 5, 1, 0] rfl ?_
  obtain rfl := Option.some.inj h
  exact hk
set_option maxRecDepth 20000 in
theorem lX8_leafAt_14 (a1 : Int32) (a2 : Int32) (a3 : Int32) (a4 : Int32) (a5 : Int32) (σ τ : mm) {r : Option mv} {M' : mm × mm} {v9 : (Int32 × Int32 × mm) ⊕ (mm)} (h : fX8_leafAt_14 a1 a2 a3 a4 a5 σ = some v9) (hk : (Sum.elim (fun z : Int32 × Int32 × mm => Vm mX8_leafAt 1 14 [(0, .inr (.inr (32, 0))), (1, .inl a1), (2, .inl a2), (3, .inl a3), (4, .inl z.1), (5, .inl z.2.1)] [] (τ, z.2.2) r M') (fun q : mm => r = none ∧ M' = (τ, q))) v9) : Vm mX8_leafAt 1 14 [(0, .inr (.inr (32, 0))), (1, .inl a1), (2, .inl a2), (3, .inl a3), (4, .inl a4), (5, .inl a5)] [] (τ, σ) r M' := by
  unfold fX8_leafAt_14 at h
  refine Vm.iload (n := 16) 5 dX8_leafAt_14 rfl rfl ?_
  refine Vm.iconst (n := 17) (v := (4 : Int32)) dX8_leafAt_16 rfl (by decide) ?_
  refine Vm.icmp_ge (n := 20) 105 dX8_leafAt_17 rfl rfl (fun c9 => ?_) (fun c9 => ?_)
  · replace h := (if_pos c9).symm.trans h
    refine Vm.aload_n (n := 106) 0 dX8_leafAt_105 rfl rfl ?_
    refine Vm.getR (n := 109) dX8_leafAt_106 rfl wf_RX8_49 in_32 rfl (by decide) rfl ?_
    refine Vm.iload_n (n := 110) 3 dX8_leafAt_109 rfl rfl ?_
    refine Vm.iload_n (n := 111) 2 dX8_leafAt_110 rfl rfl ?_
    refine Vm.if_ge (n := 114) 118 dX8_leafAt_111 rfl rfl (fun c9 => ?_) (fun c9 => ?_)
    · replace h := (if_pos c9).symm.trans h
      refine Vm.iconst (n := 119) (v := (0 : Int32)) dX8_leafAt_118 rfl (by decide) ?_
      refine Vm.sub (lv' := [(0, .inr (.inr (32, 0))), (2, .inl a2), (3, .inl a3), (4, .inl a4)]) [0, 2, 3, 4] rfl ?_
      replace h := Option.map_eq_some_iff.mp h
      obtain ⟨w9, h, e8⟩ := h
      subst e8
      exact lX8_leafAt_119 a2 a3 a4 a3 (0 : Int32) σ τ h hk
    · replace h := (if_neg c9).symm.trans h
      refine Vm.iconst (n := 115) (v := (1 : Int32)) dX8_leafAt_114 rfl (by decide) ?_
      refine Vm.goto 119 dX8_leafAt_115 rfl ?_
      refine Vm.sub (lv' := [(0, .inr (.inr (32, 0))), (2, .inl a2), (3, .inl a3), (4, .inl a4)]) [0, 2, 3, 4] rfl ?_
      replace h := Option.map_eq_some_iff.mp h
      obtain ⟨w9, h, e8⟩ := h
      subst e8
      exact lX8_leafAt_119 a2 a3 a4 a3 (1 : Int32) σ τ h hk
  · replace h := (if_neg c9).symm.trans h
    refine Vm.aload_n (n := 21) 0 dX8_leafAt_20 rfl rfl ?_
    refine Vm.getR (n := 24) dX8_leafAt_21 rfl wf_RX8_49 in_32 rfl (by decide) rfl ?_
    refine Vm.iload_n (n := 25) 3 dX8_leafAt_24 rfl rfl ?_
    refine Vm.iconst (n := 26) (v := (3 : Int32)) dX8_leafAt_25 rfl (by decide) ?_
    refine Vm.iadd (n := 27) dX8_leafAt_26 rfl ?_
    refine Vm.iconst (n := 28) (v := (2 : Int32)) dX8_leafAt_27 rfl (by decide) ?_
    refine Vm.iload (n := 30) 5 dX8_leafAt_28 rfl rfl ?_
    refine Vm.imul (n := 31) dX8_leafAt_30 rfl ?_
    refine Vm.iadd (n := 32) dX8_leafAt_31 rfl ?_
    refine Vm.aload_n (n := 33) 0 dX8_leafAt_32 rfl rfl ?_
    refine Vm.iload_n (n := 34) 1 dX8_leafAt_33 rfl rfl ?_
    refine Vm.iload (n := 36) 5 dX8_leafAt_34 rfl rfl ?_
    refine Vm.iconst (n := 37) (v := (0 : Int32)) dX8_leafAt_36 rfl (by decide) ?_
    replace h := Option.bind_eq_some_iff.mp h
    obtain ⟨q1, h1, h⟩ := h
    refine Vm.callV (Y := mX8_edge) (n := 40) [.inl a1, .inl a5, .inl (0 : Int32)] dX8_leafAt_37 rfl wv_RX8_146 omX8_edge rfl in_32 rfl rfl rfl (Nat.le_of_ble_eq_true rfl) (by decide) (kX8_edge a1 a5 (0 : Int32) σ τ h1) ?_
    replace h := Option.bind_eq_some_iff.mp h
    obtain ⟨σ2, h2, h⟩ := h
    refine Vm.iastm (n := 41) dX8_leafAt_40 rfl in_57 rfl rfl (by decide) h2 ?_
    refine Vm.aload_n (n := 42) 0 dX8_leafAt_41 rfl rfl ?_
    refine Vm.getR (n := 45) dX8_leafAt_42 rfl wf_RX8_49 in_32 rfl (by decide) rfl ?_
    refine Vm.iload_n (n := 46) 3 dX8_leafAt_45 rfl rfl ?_
    refine Vm.iconst (n := 47) (v := (4 : Int32)) dX8_leafAt_46 rfl (by decide) ?_
    refine Vm.iadd (n := 48) dX8_leafAt_47 rfl ?_
    refine Vm.iconst (n := 49) (v := (2 : Int32)) dX8_leafAt_48 rfl (by decide) ?_
    refine Vm.iload (n := 51) 5 dX8_leafAt_49 rfl rfl ?_
    refine Vm.imul (n := 52) dX8_leafAt_51 rfl ?_
    refine Vm.iadd (n := 53) dX8_leafAt_52 rfl ?_
    refine Vm.aload_n (n := 54) 0 dX8_leafAt_53 rfl rfl ?_
    refine Vm.iload_n (n := 55) 1 dX8_leafAt_54 rfl rfl ?_
    refine Vm.iload (n := 57) 5 dX8_leafAt_55 rfl rfl ?_
    refine Vm.iconst (n := 58) (v := (1 : Int32)) dX8_leafAt_57 rfl (by decide) ?_
    replace h := Option.bind_eq_some_iff.mp h
    obtain ⟨q3, h3, h⟩ := h
    refine Vm.callV (Y := mX8_edge) (n := 61) [.inl a1, .inl a5, .inl (1 : Int32)] dX8_leafAt_58 rfl wv_RX8_146 omX8_edge rfl in_32 rfl rfl rfl (Nat.le_of_ble_eq_true rfl) (by decide) (kX8_edge a1 a5 (1 : Int32) σ2 τ h3) ?_
    replace h := Option.bind_eq_some_iff.mp h
    obtain ⟨σ4, h4, h⟩ := h
    refine Vm.iastm (n := 62) dX8_leafAt_61 rfl in_57 rfl rfl (by decide) h4 ?_
    refine Vm.iload (n := 64) 4 dX8_leafAt_62 rfl rfl ?_
    refine Vm.iload (n := 66) 5 dX8_leafAt_64 rfl rfl ?_
    refine Vm.aload_n (n := 67) 0 dX8_leafAt_66 rfl rfl ?_
    refine Vm.gM (n := 70) dX8_leafAt_67 rfl wf_RX8_13 in_32 rfl (by decide) rfl (by decide) ?_
    refine Vm.icmp_ge (n := 73) 95 dX8_leafAt_70 rfl rfl (fun c9 => ?_) (fun c9 => ?_)
    · replace h := (if_pos c9).symm.trans h
      refine Vm.iconst (n := 96) (v := (1 : Int32)) dX8_leafAt_95 rfl (by decide) ?_
      refine Vm.sub (lv' := [(0, .inr (.inr (32, 0))), (1, .inl a1), (2, .inl a2), (3, .inl a3), (5, .inl a5)]) [0, 1, 2, 3, 5] rfl ?_
      exact lX8_leafAt_96 a1 a2 a3 a5 a4 (1 : Int32) σ4 τ h hk
    · replace h := (if_neg c9).symm.trans h
      refine Vm.aload_n (n := 74) 0 dX8_leafAt_73 rfl rfl ?_
      refine Vm.iload_n (n := 75) 1 dX8_leafAt_74 rfl rfl ?_
      refine Vm.iload (n := 77) 5 dX8_leafAt_75 rfl rfl ?_
      refine Vm.iconst (n := 78) (v := (1 : Int32)) dX8_leafAt_77 rfl (by decide) ?_
      replace h := Option.bind_eq_some_iff.mp h
      obtain ⟨q5, h5, h⟩ := h
      refine Vm.callV (Y := mX8_edge) (n := 81) [.inl a1, .inl a5, .inl (1 : Int32)] dX8_leafAt_78 rfl wv_RX8_146 omX8_edge rfl in_32 rfl rfl rfl (Nat.le_of_ble_eq_true rfl) (by decide) (kX8_edge a1 a5 (1 : Int32) σ4 τ h5) ?_
      refine Vm.aload_n (n := 82) 0 dX8_leafAt_81 rfl rfl ?_
      refine Vm.iload_n (n := 83) 1 dX8_leafAt_82 rfl rfl ?_
      refine Vm.iload (n := 85) 5 dX8_leafAt_83 rfl rfl ?_
      refine Vm.iconst (n := 86) (v := (0 : Int32)) dX8_leafAt_85 rfl (by decide) ?_
      replace h := Option.bind_eq_some_iff.mp h
      obtain ⟨q6, h6, h⟩ := h
      refine Vm.callV (Y := mX8_edge) (n := 89) [.inl a1, .inl a5, .inl (0 : Int32)] dX8_leafAt_86 rfl wv_RX8_146 omX8_edge rfl in_32 rfl rfl rfl (Nat.le_of_ble_eq_true rfl) (by decide) (kX8_edge a1 a5 (0 : Int32) σ4 τ h6) ?_
      refine Vm.isub (n := 90) dX8_leafAt_89 rfl ?_
      refine Vm.iconst (n := 91) (v := (1 : Int32)) dX8_leafAt_90 rfl (by decide) ?_
      refine Vm.iadd (n := 92) dX8_leafAt_91 rfl ?_
      refine Vm.goto 96 dX8_leafAt_92 rfl ?_
      refine Vm.sub (lv' := [(0, .inr (.inr (32, 0))), (1, .inl a1), (2, .inl a2), (3, .inl a3), (5, .inl a5)]) [0, 1, 2, 3, 5] rfl ?_
      exact lX8_leafAt_96 a1 a2 a3 a5 a4 ((q5 - q6) + (1 : Int32)) σ4 τ h hk
theorem lX8_leafAt_14_L (a1 : Int32) (a2 : Int32) (a3 : Int32) (τ : mm) {r : Option mv} {M' : mm × mm} (z : Int32 × Int32 × mm) (w9 : mm) (h : lp (fX8_leafAt_14_L a1 a2 a3) z = some w9) (hk : (fun q : mm => r = none ∧ M' = (τ, q)) w9) : Vm mX8_leafAt 1 14 [(0, .inr (.inr (32, 0))), (1, .inl a1), (2, .inl a2), (3, .inl a3), (4, .inl z.1), (5, .inl z.2.1)] [] (τ, z.2.2) r M' :=
  lp_link (S := Int32 × Int32 × mm) (R := mm) (body := fX8_leafAt_14_L a1 a2 a3) (A := fun z : Int32 × Int32 × mm => Vm mX8_leafAt 1 14 [(0, .inr (.inr (32, 0))), (1, .inl a1), (2, .inl a2), (3, .inl a3), (4, .inl z.1), (5, .inl z.2.1)] [] (τ, z.2.2) r M') (B := fun w : mm => (fun q : mm => r = none ∧ M' = (τ, q)) w) (fun z v hb hv => lX8_leafAt_14 a1 a2 a3 z.1 z.2.1 z.2.2 τ hb hv) z w9 h hk
set_option maxRecDepth 20000 in
theorem lX8_leafAt_0 (a1 : Int32) (a2 : Int32) (σ τ : mm) {r : Option mv} {M' : mm × mm} {v9 : mm} (h : fX8_leafAt_0 a1 a2 σ = some v9) (hk : (fun q : mm => r = none ∧ M' = (τ, q)) v9) : Vm mX8_leafAt 1 0 [(0, .inr (.inr (32, 0))), (1, .inl a1), (2, .inl a2)] [] (τ, σ) r M' := by
  unfold fX8_leafAt_0 at h
  refine Vm.bipush (n := 2) (v := (11 : Int32)) dX8_leafAt_0 rfl (by decide) ?_
  refine Vm.aload_n (n := 3) 0 dX8_leafAt_2 rfl rfl ?_
  refine Vm.gM (n := 6) dX8_leafAt_3 rfl wf_RX8_237 in_32 rfl (by decide) rfl (by decide) ?_
  refine Vm.imul (n := 7) dX8_leafAt_6 rfl ?_
  replace h := Option.bind_eq_some_iff.mp h
  obtain ⟨x1, e1, h⟩ := h
  replace e1 := Option.some.inj e1
  refine Vm.top e1 ?_
  refine Vm.istore_n (n := 8) (lv' := [(3, .inl x1), (0, .inr (.inr (32, 0))), (1, .inl a1), (2, .inl a2)]) dX8_leafAt_7 rfl (Nat.le_of_ble_eq_true rfl) rfl ?_
  refine Vm.iconst (n := 9) (v := (1 : Int32)) dX8_leafAt_8 rfl (by decide) ?_
  refine Vm.istore (n := 11) (lv' := [(4, .inl (1 : Int32)), (3, .inl x1), (0, .inr (.inr (32, 0))), (1, .inl a1), (2, .inl a2)]) dX8_leafAt_9 rfl (Nat.le_of_ble_eq_true rfl) rfl ?_
  refine Vm.iconst (n := 12) (v := (0 : Int32)) dX8_leafAt_11 rfl (by decide) ?_
  refine Vm.istore (n := 14) (lv' := [(5, .inl (0 : Int32)), (4, .inl (1 : Int32)), (3, .inl x1), (0, .inr (.inr (32, 0))), (1, .inl a1), (2, .inl a2)]) dX8_leafAt_12 rfl (Nat.le_of_ble_eq_true rfl) rfl ?_
  refine Vm.sub (lv' := [(0, .inr (.inr (32, 0))), (1, .inl a1), (2, .inl a2), (3, .inl x1), (4, .inl (1 : Int32)), (5, .inl (0 : Int32))]) [3, 4, 5, 2, 1, 0] rfl ?_
  exact lX8_leafAt_14_L a1 a2 x1 τ ((1 : Int32), (0 : Int32), σ) _ h hk
theorem kX8_leafAt (a1 : Int32) (a2 : Int32) (σ τ : mm) {q : mm} (h : fX8_leafAt a1 a2 σ = some q) : Cx mX8_leafAt 1 [.inr (.inr (32, 0)), .inl a1, .inl a2] (τ, σ) (none) (τ, q) :=
  Cx.of (lv := [(0, .inr (.inr (32, 0))), (1, .inl a1), (2, .inl a2)]) (by decide) (fun ad => Nat.le_of_ble_eq_true rfl) (fun ad => rfl) (lX8_leafAt_0 a1 a2 σ τ h ⟨rfl, rfl⟩)
-- ThinBodiesModel middle (II)I
def fX8_middle_0 (a0 : Int32) (a1 : Int32) : Option (Int32) :=
  Option.bind (dvI ((a0 + a1) + (36 : Int32)) (2 : Int32)) fun x1 =>
  some (x1 - (18 : Int32))
def fX8_middle (a0 : Int32) (a1 : Int32) : Option (Int32) := fX8_middle_0 a0 a1
set_option maxRecDepth 20000 in
theorem lX8_middle_0 (a0 : Int32) (a1 : Int32) {M : mm × mm} {r : Option mv} {M' : mm × mm} {v9 : Int32} (h : fX8_middle_0 a0 a1 = some v9) (hk : (fun q : Int32 => r = some (.inl q) ∧ M' = M) v9) : Vm mX8_middle 0 0 [(0, .inl a0), (1, .inl a1)] [] M r M' := by
  unfold fX8_middle_0 at h
  refine Vm.iload_n (n := 1) 0 dX8_middle_0 rfl rfl ?_
  refine Vm.iload_n (n := 2) 1 dX8_middle_1 rfl rfl ?_
  refine Vm.iadd (n := 3) dX8_middle_2 rfl ?_
  refine Vm.bipush (n := 5) (v := (36 : Int32)) dX8_middle_3 rfl (by decide) ?_
  refine Vm.iadd (n := 6) dX8_middle_5 rfl ?_
  refine Vm.iconst (n := 7) (v := (2 : Int32)) dX8_middle_6 rfl (by decide) ?_
  replace h := Option.bind_eq_some_iff.mp h
  obtain ⟨x1, h1, h⟩ := h
  refine Vm.idiv (n := 8) dX8_middle_7 rfl h1 ?_
  refine Vm.bipush (n := 10) (v := (18 : Int32)) dX8_middle_8 rfl (by decide) ?_
  refine Vm.isub (n := 11) dX8_middle_10 rfl ?_
  obtain rfl := Option.some.inj h
  exact Vm.iret dX8_middle_11 rfl hk.1 hk.2.symm
theorem kX8_middle (a0 : Int32) (a1 : Int32) {M : mm × mm} {q : Int32} (h : fX8_middle a0 a1 = some q) : Cx mX8_middle 0 [.inl a0, .inl a1] M (some (.inl q)) M :=
  Cx.of (lv := [(0, .inl a0), (1, .inl a1)]) (by decide) (fun ad => Nat.le_of_ble_eq_true rfl) (fun ad => rfl) (lX8_middle_0 a0 a1 h ⟨rfl, rfl⟩)
-- ThinBodiesModel parts (I)V
noncomputable def fX8_parts_222 (rc : Int32 → mm → Option (mm)) (a1 : Int32) (a3 : Int32) (a4 : Int32) (a5 : Int32) (s1 : Int32) (s2 : Int32) (σ : mm) : Option ((Int32 × mm) ⊕ (mm)) :=
  Option.bind (wrI σ 47 0 400 s1 s2) fun σ1 =>
  Option.bind (rc (a1 + (1 : Int32)) σ1) fun q2 =>
  Option.bind (some (a5 + (1 : Int32))) fun x3 =>
  some (.inl (x3, q2))
noncomputable def fX8_parts_148 (rc : Int32 → mm → Option (mm)) (a1 : Int32) (a3 : Int32) (a4 : Int32) (a5 : Int32) (a6 : Int32) (σ : mm) : Option ((Int32 × mm) ⊕ ((Int32 × mm) ⊕ (mm))) :=
  if (8 : Int32) ≤ a6 then
  if a5 = (0 : Int32) then
  Option.map Sum.inr (fX8_parts_222 rc a1 a3 a4 a5 ((((((8 : Int32) * a1) + (8 : Int32)) + ((2 : Int32) * a3)) + (1 : Int32)) - a5) a4 σ)
  else
  Option.map Sum.inr (fX8_parts_222 rc a1 a3 a4 a5 ((((((8 : Int32) * a1) + (8 : Int32)) + ((2 : Int32) * a3)) + (1 : Int32)) - a5) (a4 + (1 : Int32)) σ)
  else
  Option.bind (rdI σ 47 0 400 (((8 : Int32) * a1) + a6)) fun x1 =>
  Option.bind (wrI σ 47 0 400 ((((8 : Int32) * a1) + (8 : Int32)) + a6) x1) fun σ2 =>
  Option.bind (some (a6 + (1 : Int32))) fun x3 =>
  some (.inl (x3, σ2))
noncomputable def fX8_parts_148_L (rc : Int32 → mm → Option (mm)) (a1 : Int32) (a3 : Int32) (a4 : Int32) (a5 : Int32) : Int32 × mm → Option ((Int32 × mm) ⊕ ((Int32 × mm) ⊕ (mm))) := fun z => fX8_parts_148 rc a1 a3 a4 a5 z.1 z.2
noncomputable def fX8_parts_139 (rc : Int32 → mm → Option (mm)) (a1 : Int32) (a3 : Int32) (a4 : Int32) (a5 : Int32) (σ : mm) : Option ((Int32 × mm) ⊕ (mm)) :=
  if (2 : Int32) ≤ a5 then
  some (.inr (σ))
  else
  lp (fX8_parts_148_L rc a1 a3 a4 a5) ((0 : Int32), σ)
noncomputable def fX8_parts_139_L (rc : Int32 → mm → Option (mm)) (a1 : Int32) (a3 : Int32) (a4 : Int32) : Int32 × mm → Option ((Int32 × mm) ⊕ (mm)) := fun z => fX8_parts_139 rc a1 a3 a4 z.1 z.2
noncomputable def fX8_parts_110 (rc : Int32 → mm → Option (mm)) (a1 : Int32) (a4 : Int32) (s0 : Int32) (σ : mm) : Option ((Int32 × Int32) ⊕ (mm)) :=
  Option.bind (some (a4 + (1 : Int32))) fun x1 =>
  some (.inl (s0, x1))
noncomputable def fX8_parts_60 (rc : Int32 → mm → Option (mm)) (a1 : Int32) (a3 : Int32) (a4 : Int32) (σ : mm) : Option ((Int32 × Int32) ⊕ (mm)) :=
  if (σ.1 32 0 1) ≤ a4 then
  Option.bind (fX8_edge a1 a3 (0 : Int32) σ) fun q1 =>
  Option.bind (fX8_edge a1 a3 (1 : Int32) σ) fun q2 =>
  Option.bind (fX8_middle q1 q2) fun q3 =>
  Option.map Sum.inr (lp (fX8_parts_139_L rc a1 a3 q3) ((0 : Int32), σ))
  else
  Option.bind (fX8_edge a1 a4 (1 : Int32) σ) fun q4 =>
  Option.bind (fX8_edge a1 a4 (0 : Int32) σ) fun q5 =>
  Option.bind (fX8_edge a1 a3 (1 : Int32) σ) fun q6 =>
  Option.bind (fX8_edge a1 a3 (0 : Int32) σ) fun q7 =>
  if (q4 - q5) ≤ (q6 - q7) then
  fX8_parts_110 rc a1 a4 a3 σ
  else
  fX8_parts_110 rc a1 a4 a4 σ
noncomputable def fX8_parts_60_L (rc : Int32 → mm → Option (mm)) (a1 : Int32) (σ : mm) : Int32 × Int32 → Option ((Int32 × Int32) ⊕ (mm)) := fun z => fX8_parts_60 rc a1 z.1 z.2 σ
noncomputable def fX8_parts_48 (rc : Int32 → mm → Option (mm)) (a1 : Int32) (a2 : Int32) (σ : mm) : Option (mm) :=
  Option.bind (fX8_leafAt a1 a2 σ) fun q1 =>
  some (q1)
noncomputable def fX8_parts_27 (rc : Int32 → mm → Option (mm)) (a1 : Int32) (s1 : Int32) (σ : mm) : Option (mm) :=
  Option.bind (some (stI σ 32 0 20 s1)) fun σ1 =>
  Option.bind (fX8_deadRow a1 σ1) fun q2 =>
  if (0 : Int32) ≤ q2 then
  fX8_parts_48 rc a1 q2 σ1
  else
  Option.bind (fX8_isWhole a1 σ1) fun q3 =>
  if (bi q3) = (0 : Int32) then
  lp (fX8_parts_60_L rc a1 σ1) ((0 : Int32), (1 : Int32))
  else
  fX8_parts_48 rc a1 q2 σ1
noncomputable def fX8_parts_0 (rc : Int32 → mm → Option (mm)) (a1 : Int32) (σ : mm) : Option (mm) :=
  Option.bind (some ((σ.1 32 0 19) + (1 : Int32))) fun x1 =>
  Option.bind (some (stI σ 32 0 19 x1)) fun σ2 =>
  if a1 ≤ (σ2.1 32 0 20) then
  fX8_parts_27 rc a1 (σ2.1 32 0 20) σ2
  else
  fX8_parts_27 rc a1 a1 σ2
noncomputable def fX8_parts : Nat → Int32 → mm → Option (mm)
  | 0, _, _ => none
  | m9 + 1, a1, σ => fX8_parts_0 (fX8_parts m9) a1 σ
set_option maxRecDepth 20000 in
theorem lX8_parts_222 (m9 : Nat) (rc : Int32 → mm → Option (mm)) (hrc : ∀ (b1 : Int32) (σ9 τ : mm) (q9 : mm), rc b1 σ9 = some q9 → Cx mX8_parts (4 + m9) [.inr (.inr (32, 0)), .inl b1] (τ, σ9) (none) (τ, q9)) (a1 : Int32) (a3 : Int32) (a4 : Int32) (a5 : Int32) (s1 : Int32) (s2 : Int32) (σ τ : mm) {r : Option mv} {M' : mm × mm} {v9 : (Int32 × mm) ⊕ (mm)} (h : fX8_parts_222 rc a1 a3 a4 a5 s1 s2 σ = some v9) (hk : (Sum.elim (fun z : Int32 × mm => Vm mX8_parts (4 + (m9 + 1)) 139 [(0, .inr (.inr (32, 0))), (1, .inl a1), (3, .inl a3), (4, .inl a4), (5, .inl z.1)] [] (τ, z.2) r M') (fun q : mm => r = none ∧ M' = (τ, q))) v9) : Vm mX8_parts (4 + (m9 + 1)) 222 [(0, .inr (.inr (32, 0))), (1, .inl a1), (3, .inl a3), (4, .inl a4), (5, .inl a5)] [.inl s2, .inl s1, .inr (.inr (47, 0))] (τ, σ) r M' := by
  unfold fX8_parts_222 at h
  replace h := Option.bind_eq_some_iff.mp h
  obtain ⟨σ1, h1, h⟩ := h
  refine Vm.iastm (n := 223) dX8_parts_222 rfl in_47 rfl rfl (by decide) h1 ?_
  refine Vm.aload_n (n := 224) 0 dX8_parts_223 rfl rfl ?_
  refine Vm.iload_n (n := 225) 1 dX8_parts_224 rfl rfl ?_
  refine Vm.iconst (n := 226) (v := (1 : Int32)) dX8_parts_225 rfl (by decide) ?_
  refine Vm.iadd (n := 227) dX8_parts_226 rfl ?_
  replace h := Option.bind_eq_some_iff.mp h
  obtain ⟨q2, h2, h⟩ := h
  refine Vm.callVv (Y := mX8_parts) (n := 230) [.inl (a1 + (1 : Int32))] dX8_parts_227 rfl wv_RX8_262 omX8_parts rfl in_32 rfl rfl rfl (Nat.le_of_ble_eq_true rfl) (by omega) (hrc (a1 + (1 : Int32)) σ1 τ _ h2) ?_
  replace h := Option.bind_eq_some_iff.mp h
  obtain ⟨x3, e3, h⟩ := h
  replace e3 := Option.some.inj e3
  refine Vm.iinc (n := 233) (v := x3) (lv' := [(5, .inl x3), (0, .inr (.inr (32, 0))), (1, .inl a1), (3, .inl a3), (4, .inl a4)]) 4 dX8_parts_230 rfl rfl e3 (Nat.le_of_ble_eq_true rfl) rfl ?_
  refine Vm.goto 139 dX8_parts_233 rfl ?_
  refine Vm.sub (lv' := [(0, .inr (.inr (32, 0))), (1, .inl a1), (3, .inl a3), (4, .inl a4), (5, .inl x3)]) [1, 2, 3, 4, 0] rfl ?_
  obtain rfl := Option.some.inj h
  exact hk
set_option maxRecDepth 20000 in
theorem lX8_parts_148 (m9 : Nat) (rc : Int32 → mm → Option (mm)) (hrc : ∀ (b1 : Int32) (σ9 τ : mm) (q9 : mm), rc b1 σ9 = some q9 → Cx mX8_parts (4 + m9) [.inr (.inr (32, 0)), .inl b1] (τ, σ9) (none) (τ, q9)) (a1 : Int32) (a3 : Int32) (a4 : Int32) (a5 : Int32) (a6 : Int32) (σ τ : mm) {r : Option mv} {M' : mm × mm} {v9 : (Int32 × mm) ⊕ ((Int32 × mm) ⊕ (mm))} (h : fX8_parts_148 rc a1 a3 a4 a5 a6 σ = some v9) (hk : (Sum.elim (fun z : Int32 × mm => Vm mX8_parts (4 + (m9 + 1)) 148 [(0, .inr (.inr (32, 0))), (1, .inl a1), (3, .inl a3), (4, .inl a4), (5, .inl a5), (6, .inl z.1)] [] (τ, z.2) r M') (Sum.elim (fun z : Int32 × mm => Vm mX8_parts (4 + (m9 + 1)) 139 [(0, .inr (.inr (32, 0))), (1, .inl a1), (3, .inl a3), (4, .inl a4), (5, .inl z.1)] [] (τ, z.2) r M') (fun q : mm => r = none ∧ M' = (τ, q)))) v9) : Vm mX8_parts (4 + (m9 + 1)) 148 [(0, .inr (.inr (32, 0))), (1, .inl a1), (3, .inl a3), (4, .inl a4), (5, .inl a5), (6, .inl a6)] [] (τ, σ) r M' := by
  unfold fX8_parts_148 at h
  refine Vm.iload (n := 150) 5 dX8_parts_148 rfl rfl ?_
  refine Vm.bipush (n := 152) (v := (8 : Int32)) dX8_parts_150 rfl (by decide) ?_
  refine Vm.icmp_ge (n := 155) 188 dX8_parts_152 rfl rfl (fun c9 => ?_) (fun c9 => ?_)
  · replace h := (if_pos c9).symm.trans h
    refine Vm.aload_n (n := 189) 0 dX8_parts_188 rfl rfl ?_
    refine Vm.getR (n := 192) dX8_parts_189 rfl wf_RX8_29 in_32 rfl (by decide) rfl ?_
    refine Vm.bipush (n := 194) (v := (8 : Int32)) dX8_parts_192 rfl (by decide) ?_
    refine Vm.iload_n (n := 195) 1 dX8_parts_194 rfl rfl ?_
    refine Vm.imul (n := 196) dX8_parts_195 rfl ?_
    refine Vm.bipush (n := 198) (v := (8 : Int32)) dX8_parts_196 rfl (by decide) ?_
    refine Vm.iadd (n := 199) dX8_parts_198 rfl ?_
    refine Vm.iconst (n := 200) (v := (2 : Int32)) dX8_parts_199 rfl (by decide) ?_
    refine Vm.iload_n (n := 201) 2 dX8_parts_200 rfl rfl ?_
    refine Vm.imul (n := 202) dX8_parts_201 rfl ?_
    refine Vm.iadd (n := 203) dX8_parts_202 rfl ?_
    refine Vm.iconst (n := 204) (v := (1 : Int32)) dX8_parts_203 rfl (by decide) ?_
    refine Vm.iadd (n := 205) dX8_parts_204 rfl ?_
    refine Vm.iload (n := 207) 4 dX8_parts_205 rfl rfl ?_
    refine Vm.isub (n := 208) dX8_parts_207 rfl ?_
    refine Vm.iload (n := 210) 4 dX8_parts_208 rfl rfl ?_
    refine Vm.if_ne (n := 213) 218 dX8_parts_210 rfl rfl (fun c9 => ?_) (fun c9 => ?_)
    · replace h := (if_neg c9).symm.trans h
      refine Vm.iload (n := 220) 3 dX8_parts_218 rfl rfl ?_
      refine Vm.iconst (n := 221) (v := (1 : Int32)) dX8_parts_220 rfl (by decide) ?_
      refine Vm.iadd (n := 222) dX8_parts_221 rfl ?_
      refine Vm.sub (lv' := [(0, .inr (.inr (32, 0))), (1, .inl a1), (3, .inl a3), (4, .inl a4), (5, .inl a5)]) [0, 1, 2, 3, 4] rfl ?_
      replace h := Option.map_eq_some_iff.mp h
      obtain ⟨w9, h, e8⟩ := h
      subst e8
      exact lX8_parts_222 m9 rc hrc a1 a3 a4 a5 ((((((8 : Int32) * a1) + (8 : Int32)) + ((2 : Int32) * a3)) + (1 : Int32)) - a5) (a4 + (1 : Int32)) σ τ h hk
    · replace h := (if_pos c9).symm.trans h
      refine Vm.iload (n := 215) 3 dX8_parts_213 rfl rfl ?_
      refine Vm.goto 222 dX8_parts_215 rfl ?_
      refine Vm.sub (lv' := [(0, .inr (.inr (32, 0))), (1, .inl a1), (3, .inl a3), (4, .inl a4), (5, .inl a5)]) [0, 1, 2, 3, 4] rfl ?_
      replace h := Option.map_eq_some_iff.mp h
      obtain ⟨w9, h, e8⟩ := h
      subst e8
      exact lX8_parts_222 m9 rc hrc a1 a3 a4 a5 ((((((8 : Int32) * a1) + (8 : Int32)) + ((2 : Int32) * a3)) + (1 : Int32)) - a5) a4 σ τ h hk
  · replace h := (if_neg c9).symm.trans h
    refine Vm.aload_n (n := 156) 0 dX8_parts_155 rfl rfl ?_
    refine Vm.getR (n := 159) dX8_parts_156 rfl wf_RX8_29 in_32 rfl (by decide) rfl ?_
    refine Vm.bipush (n := 161) (v := (8 : Int32)) dX8_parts_159 rfl (by decide) ?_
    refine Vm.iload_n (n := 162) 1 dX8_parts_161 rfl rfl ?_
    refine Vm.imul (n := 163) dX8_parts_162 rfl ?_
    refine Vm.bipush (n := 165) (v := (8 : Int32)) dX8_parts_163 rfl (by decide) ?_
    refine Vm.iadd (n := 166) dX8_parts_165 rfl ?_
    refine Vm.iload (n := 168) 5 dX8_parts_166 rfl rfl ?_
    refine Vm.iadd (n := 169) dX8_parts_168 rfl ?_
    refine Vm.aload_n (n := 170) 0 dX8_parts_169 rfl rfl ?_
    refine Vm.getR (n := 173) dX8_parts_170 rfl wf_RX8_29 in_32 rfl (by decide) rfl ?_
    refine Vm.bipush (n := 175) (v := (8 : Int32)) dX8_parts_173 rfl (by decide) ?_
    refine Vm.iload_n (n := 176) 1 dX8_parts_175 rfl rfl ?_
    refine Vm.imul (n := 177) dX8_parts_176 rfl ?_
    refine Vm.iload (n := 179) 5 dX8_parts_177 rfl rfl ?_
    refine Vm.iadd (n := 180) dX8_parts_179 rfl ?_
    replace h := Option.bind_eq_some_iff.mp h
    obtain ⟨x1, h1, h⟩ := h
    refine Vm.ialdm (n := 181) dX8_parts_180 rfl in_47 rfl rfl (by decide) h1 ?_
    replace h := Option.bind_eq_some_iff.mp h
    obtain ⟨σ2, h2, h⟩ := h
    refine Vm.iastm (n := 182) dX8_parts_181 rfl in_47 rfl rfl (by decide) h2 ?_
    replace h := Option.bind_eq_some_iff.mp h
    obtain ⟨x3, e3, h⟩ := h
    replace e3 := Option.some.inj e3
    refine Vm.iinc (n := 185) (v := x3) (lv' := [(6, .inl x3), (0, .inr (.inr (32, 0))), (1, .inl a1), (3, .inl a3), (4, .inl a4), (5, .inl a5)]) 5 dX8_parts_182 rfl rfl e3 (Nat.le_of_ble_eq_true rfl) rfl ?_
    refine Vm.goto 148 dX8_parts_185 rfl ?_
    refine Vm.sub (lv' := [(0, .inr (.inr (32, 0))), (1, .inl a1), (3, .inl a3), (4, .inl a4), (5, .inl a5), (6, .inl x3)]) [1, 2, 3, 4, 5, 0] rfl ?_
    obtain rfl := Option.some.inj h
    exact hk
theorem lX8_parts_148_L (m9 : Nat) (rc : Int32 → mm → Option (mm)) (hrc : ∀ (b1 : Int32) (σ9 τ : mm) (q9 : mm), rc b1 σ9 = some q9 → Cx mX8_parts (4 + m9) [.inr (.inr (32, 0)), .inl b1] (τ, σ9) (none) (τ, q9)) (a1 : Int32) (a3 : Int32) (a4 : Int32) (a5 : Int32) (τ : mm) {r : Option mv} {M' : mm × mm} (z : Int32 × mm) (w9 : (Int32 × mm) ⊕ (mm)) (h : lp (fX8_parts_148_L rc a1 a3 a4 a5) z = some w9) (hk : (Sum.elim (fun z : Int32 × mm => Vm mX8_parts (4 + (m9 + 1)) 139 [(0, .inr (.inr (32, 0))), (1, .inl a1), (3, .inl a3), (4, .inl a4), (5, .inl z.1)] [] (τ, z.2) r M') (fun q : mm => r = none ∧ M' = (τ, q))) w9) : Vm mX8_parts (4 + (m9 + 1)) 148 [(0, .inr (.inr (32, 0))), (1, .inl a1), (3, .inl a3), (4, .inl a4), (5, .inl a5), (6, .inl z.1)] [] (τ, z.2) r M' :=
  lp_link (S := Int32 × mm) (R := (Int32 × mm) ⊕ (mm)) (body := fX8_parts_148_L rc a1 a3 a4 a5) (A := fun z : Int32 × mm => Vm mX8_parts (4 + (m9 + 1)) 148 [(0, .inr (.inr (32, 0))), (1, .inl a1), (3, .inl a3), (4, .inl a4), (5, .inl a5), (6, .inl z.1)] [] (τ, z.2) r M') (B := fun w : (Int32 × mm) ⊕ (mm) => (Sum.elim (fun z : Int32 × mm => Vm mX8_parts (4 + (m9 + 1)) 139 [(0, .inr (.inr (32, 0))), (1, .inl a1), (3, .inl a3), (4, .inl a4), (5, .inl z.1)] [] (τ, z.2) r M') (fun q : mm => r = none ∧ M' = (τ, q))) w) (fun z v hb hv => lX8_parts_148 m9 rc hrc a1 a3 a4 a5 z.1 z.2 τ hb hv) z w9 h hk
set_option maxRecDepth 20000 in
theorem lX8_parts_139 (m9 : Nat) (rc : Int32 → mm → Option (mm)) (hrc : ∀ (b1 : Int32) (σ9 τ : mm) (q9 : mm), rc b1 σ9 = some q9 → Cx mX8_parts (4 + m9) [.inr (.inr (32, 0)), .inl b1] (τ, σ9) (none) (τ, q9)) (a1 : Int32) (a3 : Int32) (a4 : Int32) (a5 : Int32) (σ τ : mm) {r : Option mv} {M' : mm × mm} {v9 : (Int32 × mm) ⊕ (mm)} (h : fX8_parts_139 rc a1 a3 a4 a5 σ = some v9) (hk : (Sum.elim (fun z : Int32 × mm => Vm mX8_parts (4 + (m9 + 1)) 139 [(0, .inr (.inr (32, 0))), (1, .inl a1), (3, .inl a3), (4, .inl a4), (5, .inl z.1)] [] (τ, z.2) r M') (fun q : mm => r = none ∧ M' = (τ, q))) v9) : Vm mX8_parts (4 + (m9 + 1)) 139 [(0, .inr (.inr (32, 0))), (1, .inl a1), (3, .inl a3), (4, .inl a4), (5, .inl a5)] [] (τ, σ) r M' := by
  unfold fX8_parts_139 at h
  refine Vm.iload (n := 141) 4 dX8_parts_139 rfl rfl ?_
  refine Vm.iconst (n := 142) (v := (2 : Int32)) dX8_parts_141 rfl (by decide) ?_
  refine Vm.icmp_ge (n := 145) 236 dX8_parts_142 rfl rfl (fun c9 => ?_) (fun c9 => ?_)
  · replace h := (if_pos c9).symm.trans h
    obtain rfl := Option.some.inj h
    exact Vm.vret dX8_parts_236 rfl hk.1 hk.2.symm
  · replace h := (if_neg c9).symm.trans h
    refine Vm.iconst (n := 146) (v := (0 : Int32)) dX8_parts_145 rfl (by decide) ?_
    refine Vm.istore (n := 148) (lv' := [(6, .inl (0 : Int32)), (0, .inr (.inr (32, 0))), (1, .inl a1), (3, .inl a3), (4, .inl a4), (5, .inl a5)]) dX8_parts_146 rfl (Nat.le_of_ble_eq_true rfl) rfl ?_
    refine Vm.sub (lv' := [(0, .inr (.inr (32, 0))), (1, .inl a1), (3, .inl a3), (4, .inl a4), (5, .inl a5), (6, .inl (0 : Int32))]) [1, 2, 3, 4, 5, 0] rfl ?_
    exact lX8_parts_148_L m9 rc hrc a1 a3 a4 a5 τ ((0 : Int32), σ) _ h hk
theorem lX8_parts_139_L (m9 : Nat) (rc : Int32 → mm → Option (mm)) (hrc : ∀ (b1 : Int32) (σ9 τ : mm) (q9 : mm), rc b1 σ9 = some q9 → Cx mX8_parts (4 + m9) [.inr (.inr (32, 0)), .inl b1] (τ, σ9) (none) (τ, q9)) (a1 : Int32) (a3 : Int32) (a4 : Int32) (τ : mm) {r : Option mv} {M' : mm × mm} (z : Int32 × mm) (w9 : mm) (h : lp (fX8_parts_139_L rc a1 a3 a4) z = some w9) (hk : (fun q : mm => r = none ∧ M' = (τ, q)) w9) : Vm mX8_parts (4 + (m9 + 1)) 139 [(0, .inr (.inr (32, 0))), (1, .inl a1), (3, .inl a3), (4, .inl a4), (5, .inl z.1)] [] (τ, z.2) r M' :=
  lp_link (S := Int32 × mm) (R := mm) (body := fX8_parts_139_L rc a1 a3 a4) (A := fun z : Int32 × mm => Vm mX8_parts (4 + (m9 + 1)) 139 [(0, .inr (.inr (32, 0))), (1, .inl a1), (3, .inl a3), (4, .inl a4), (5, .inl z.1)] [] (τ, z.2) r M') (B := fun w : mm => (fun q : mm => r = none ∧ M' = (τ, q)) w) (fun z v hb hv => lX8_parts_139 m9 rc hrc a1 a3 a4 z.1 z.2 τ hb hv) z w9 h hk
set_option maxRecDepth 20000 in
theorem lX8_parts_110 (m9 : Nat) (rc : Int32 → mm → Option (mm)) (hrc : ∀ (b1 : Int32) (σ9 τ : mm) (q9 : mm), rc b1 σ9 = some q9 → Cx mX8_parts (4 + m9) [.inr (.inr (32, 0)), .inl b1] (τ, σ9) (none) (τ, q9)) (a1 : Int32) (a4 : Int32) (s0 : Int32) (σ τ : mm) {r : Option mv} {M' : mm × mm} {v9 : (Int32 × Int32) ⊕ (mm)} (h : fX8_parts_110 rc a1 a4 s0 σ = some v9) (hk : (Sum.elim (fun z : Int32 × Int32 => Vm mX8_parts (4 + (m9 + 1)) 60 [(0, .inr (.inr (32, 0))), (1, .inl a1), (3, .inl z.1), (4, .inl z.2)] [] (τ, σ) r M') (fun q : mm => r = none ∧ M' = (τ, q))) v9) : Vm mX8_parts (4 + (m9 + 1)) 110 [(0, .inr (.inr (32, 0))), (1, .inl a1), (4, .inl a4)] [.inl s0] (τ, σ) r M' := by
  unfold fX8_parts_110 at h
  refine Vm.istore_n (n := 111) (lv' := [(3, .inl s0), (0, .inr (.inr (32, 0))), (1, .inl a1), (4, .inl a4)]) dX8_parts_110 rfl (Nat.le_of_ble_eq_true rfl) rfl ?_
  replace h := Option.bind_eq_some_iff.mp h
  obtain ⟨x1, e1, h⟩ := h
  replace e1 := Option.some.inj e1
  refine Vm.iinc (n := 114) (v := x1) (lv' := [(4, .inl x1), (3, .inl s0), (0, .inr (.inr (32, 0))), (1, .inl a1)]) 3 dX8_parts_111 rfl rfl e1 (Nat.le_of_ble_eq_true rfl) rfl ?_
  refine Vm.goto 60 dX8_parts_114 rfl ?_
  refine Vm.sub (lv' := [(0, .inr (.inr (32, 0))), (1, .inl a1), (3, .inl s0), (4, .inl x1)]) [2, 3, 1, 0] rfl ?_
  obtain rfl := Option.some.inj h
  exact hk
set_option maxRecDepth 20000 in
theorem lX8_parts_60 (m9 : Nat) (rc : Int32 → mm → Option (mm)) (hrc : ∀ (b1 : Int32) (σ9 τ : mm) (q9 : mm), rc b1 σ9 = some q9 → Cx mX8_parts (4 + m9) [.inr (.inr (32, 0)), .inl b1] (τ, σ9) (none) (τ, q9)) (a1 : Int32) (a3 : Int32) (a4 : Int32) (σ τ : mm) {r : Option mv} {M' : mm × mm} {v9 : (Int32 × Int32) ⊕ (mm)} (h : fX8_parts_60 rc a1 a3 a4 σ = some v9) (hk : (Sum.elim (fun z : Int32 × Int32 => Vm mX8_parts (4 + (m9 + 1)) 60 [(0, .inr (.inr (32, 0))), (1, .inl a1), (3, .inl z.1), (4, .inl z.2)] [] (τ, σ) r M') (fun q : mm => r = none ∧ M' = (τ, q))) v9) : Vm mX8_parts (4 + (m9 + 1)) 60 [(0, .inr (.inr (32, 0))), (1, .inl a1), (3, .inl a3), (4, .inl a4)] [] (τ, σ) r M' := by
  unfold fX8_parts_60 at h
  refine Vm.iload (n := 62) 3 dX8_parts_60 rfl rfl ?_
  refine Vm.aload_n (n := 63) 0 dX8_parts_62 rfl rfl ?_
  refine Vm.gM (n := 66) dX8_parts_63 rfl wf_RX8_13 in_32 rfl (by decide) rfl (by decide) ?_
  refine Vm.icmp_ge (n := 69) 117 dX8_parts_66 rfl rfl (fun c9 => ?_) (fun c9 => ?_)
  · replace h := (if_pos c9).symm.trans h
    refine Vm.aload_n (n := 118) 0 dX8_parts_117 rfl rfl ?_
    refine Vm.iload_n (n := 119) 1 dX8_parts_118 rfl rfl ?_
    refine Vm.iload_n (n := 120) 2 dX8_parts_119 rfl rfl ?_
    refine Vm.iconst (n := 121) (v := (0 : Int32)) dX8_parts_120 rfl (by decide) ?_
    replace h := Option.bind_eq_some_iff.mp h
    obtain ⟨q1, h1, h⟩ := h
    refine Vm.callV (Y := mX8_edge) (n := 124) [.inl a1, .inl a3, .inl (0 : Int32)] dX8_parts_121 rfl wv_RX8_146 omX8_edge rfl in_32 rfl rfl rfl (Nat.le_of_ble_eq_true rfl) (by omega) (kX8_edge a1 a3 (0 : Int32) σ τ h1) ?_
    refine Vm.aload_n (n := 125) 0 dX8_parts_124 rfl rfl ?_
    refine Vm.iload_n (n := 126) 1 dX8_parts_125 rfl rfl ?_
    refine Vm.iload_n (n := 127) 2 dX8_parts_126 rfl rfl ?_
    refine Vm.iconst (n := 128) (v := (1 : Int32)) dX8_parts_127 rfl (by decide) ?_
    replace h := Option.bind_eq_some_iff.mp h
    obtain ⟨q2, h2, h⟩ := h
    refine Vm.callV (Y := mX8_edge) (n := 131) [.inl a1, .inl a3, .inl (1 : Int32)] dX8_parts_128 rfl wv_RX8_146 omX8_edge rfl in_32 rfl rfl rfl (Nat.le_of_ble_eq_true rfl) (by omega) (kX8_edge a1 a3 (1 : Int32) σ τ h2) ?_
    replace h := Option.bind_eq_some_iff.mp h
    obtain ⟨q3, h3, h⟩ := h
    refine Vm.callS (Y := mX8_middle) (n := 134) [.inl q1, .inl q2] dX8_parts_131 rfl wv_RX8_259 omX8_middle rfl rfl (Nat.le_of_ble_eq_true rfl) (by omega) (kX8_middle q1 q2 h3) ?_
    refine Vm.istore (n := 136) (lv' := [(4, .inl q3), (0, .inr (.inr (32, 0))), (1, .inl a1), (3, .inl a3)]) dX8_parts_134 rfl (Nat.le_of_ble_eq_true rfl) rfl ?_
    refine Vm.iconst (n := 137) (v := (0 : Int32)) dX8_parts_136 rfl (by decide) ?_
    refine Vm.istore (n := 139) (lv' := [(5, .inl (0 : Int32)), (4, .inl q3), (0, .inr (.inr (32, 0))), (1, .inl a1), (3, .inl a3)]) dX8_parts_137 rfl (Nat.le_of_ble_eq_true rfl) rfl ?_
    refine Vm.sub (lv' := [(0, .inr (.inr (32, 0))), (1, .inl a1), (3, .inl a3), (4, .inl q3), (5, .inl (0 : Int32))]) [2, 3, 4, 1, 0] rfl ?_
    replace h := Option.map_eq_some_iff.mp h
    obtain ⟨w9, h, e8⟩ := h
    subst e8
    exact lX8_parts_139_L m9 rc hrc a1 a3 q3 τ ((0 : Int32), σ) _ h hk
  · replace h := (if_neg c9).symm.trans h
    refine Vm.aload_n (n := 70) 0 dX8_parts_69 rfl rfl ?_
    refine Vm.iload_n (n := 71) 1 dX8_parts_70 rfl rfl ?_
    refine Vm.iload (n := 73) 3 dX8_parts_71 rfl rfl ?_
    refine Vm.iconst (n := 74) (v := (1 : Int32)) dX8_parts_73 rfl (by decide) ?_
    replace h := Option.bind_eq_some_iff.mp h
    obtain ⟨q4, h4, h⟩ := h
    refine Vm.callV (Y := mX8_edge) (n := 77) [.inl a1, .inl a4, .inl (1 : Int32)] dX8_parts_74 rfl wv_RX8_146 omX8_edge rfl in_32 rfl rfl rfl (Nat.le_of_ble_eq_true rfl) (by omega) (kX8_edge a1 a4 (1 : Int32) σ τ h4) ?_
    refine Vm.aload_n (n := 78) 0 dX8_parts_77 rfl rfl ?_
    refine Vm.iload_n (n := 79) 1 dX8_parts_78 rfl rfl ?_
    refine Vm.iload (n := 81) 3 dX8_parts_79 rfl rfl ?_
    refine Vm.iconst (n := 82) (v := (0 : Int32)) dX8_parts_81 rfl (by decide) ?_
    replace h := Option.bind_eq_some_iff.mp h
    obtain ⟨q5, h5, h⟩ := h
    refine Vm.callV (Y := mX8_edge) (n := 85) [.inl a1, .inl a4, .inl (0 : Int32)] dX8_parts_82 rfl wv_RX8_146 omX8_edge rfl in_32 rfl rfl rfl (Nat.le_of_ble_eq_true rfl) (by omega) (kX8_edge a1 a4 (0 : Int32) σ τ h5) ?_
    refine Vm.isub (n := 86) dX8_parts_85 rfl ?_
    refine Vm.aload_n (n := 87) 0 dX8_parts_86 rfl rfl ?_
    refine Vm.iload_n (n := 88) 1 dX8_parts_87 rfl rfl ?_
    refine Vm.iload_n (n := 89) 2 dX8_parts_88 rfl rfl ?_
    refine Vm.iconst (n := 90) (v := (1 : Int32)) dX8_parts_89 rfl (by decide) ?_
    replace h := Option.bind_eq_some_iff.mp h
    obtain ⟨q6, h6, h⟩ := h
    refine Vm.callV (Y := mX8_edge) (n := 93) [.inl a1, .inl a3, .inl (1 : Int32)] dX8_parts_90 rfl wv_RX8_146 omX8_edge rfl in_32 rfl rfl rfl (Nat.le_of_ble_eq_true rfl) (by omega) (kX8_edge a1 a3 (1 : Int32) σ τ h6) ?_
    refine Vm.aload_n (n := 94) 0 dX8_parts_93 rfl rfl ?_
    refine Vm.iload_n (n := 95) 1 dX8_parts_94 rfl rfl ?_
    refine Vm.iload_n (n := 96) 2 dX8_parts_95 rfl rfl ?_
    refine Vm.iconst (n := 97) (v := (0 : Int32)) dX8_parts_96 rfl (by decide) ?_
    replace h := Option.bind_eq_some_iff.mp h
    obtain ⟨q7, h7, h⟩ := h
    refine Vm.callV (Y := mX8_edge) (n := 100) [.inl a1, .inl a3, .inl (0 : Int32)] dX8_parts_97 rfl wv_RX8_146 omX8_edge rfl in_32 rfl rfl rfl (Nat.le_of_ble_eq_true rfl) (by omega) (kX8_edge a1 a3 (0 : Int32) σ τ h7) ?_
    refine Vm.isub (n := 101) dX8_parts_100 rfl ?_
    refine Vm.icmp_le (n := 104) 109 dX8_parts_101 rfl rfl (fun c9 => ?_) (fun c9 => ?_)
    · replace h := (if_pos c9).symm.trans h
      refine Vm.iload_n (n := 110) 2 dX8_parts_109 rfl rfl ?_
      refine Vm.sub (lv' := [(0, .inr (.inr (32, 0))), (1, .inl a1), (4, .inl a4)]) [0, 1, 3] rfl ?_
      exact lX8_parts_110 m9 rc hrc a1 a4 a3 σ τ h hk
    · replace h := (if_neg c9).symm.trans h
      refine Vm.iload (n := 106) 3 dX8_parts_104 rfl rfl ?_
      refine Vm.goto 110 dX8_parts_106 rfl ?_
      refine Vm.sub (lv' := [(0, .inr (.inr (32, 0))), (1, .inl a1), (4, .inl a4)]) [0, 1, 3] rfl ?_
      exact lX8_parts_110 m9 rc hrc a1 a4 a4 σ τ h hk
theorem lX8_parts_60_L (m9 : Nat) (rc : Int32 → mm → Option (mm)) (hrc : ∀ (b1 : Int32) (σ9 τ : mm) (q9 : mm), rc b1 σ9 = some q9 → Cx mX8_parts (4 + m9) [.inr (.inr (32, 0)), .inl b1] (τ, σ9) (none) (τ, q9)) (a1 : Int32) (σ τ : mm) {r : Option mv} {M' : mm × mm} (z : Int32 × Int32) (w9 : mm) (h : lp (fX8_parts_60_L rc a1 σ) z = some w9) (hk : (fun q : mm => r = none ∧ M' = (τ, q)) w9) : Vm mX8_parts (4 + (m9 + 1)) 60 [(0, .inr (.inr (32, 0))), (1, .inl a1), (3, .inl z.1), (4, .inl z.2)] [] (τ, σ) r M' :=
  lp_link (S := Int32 × Int32) (R := mm) (body := fX8_parts_60_L rc a1 σ) (A := fun z : Int32 × Int32 => Vm mX8_parts (4 + (m9 + 1)) 60 [(0, .inr (.inr (32, 0))), (1, .inl a1), (3, .inl z.1), (4, .inl z.2)] [] (τ, σ) r M') (B := fun w : mm => (fun q : mm => r = none ∧ M' = (τ, q)) w) (fun z v hb hv => lX8_parts_60 m9 rc hrc a1 z.1 z.2 σ τ hb hv) z w9 h hk
set_option maxRecDepth 20000 in
theorem lX8_parts_48 (m9 : Nat) (rc : Int32 → mm → Option (mm)) (hrc : ∀ (b1 : Int32) (σ9 τ : mm) (q9 : mm), rc b1 σ9 = some q9 → Cx mX8_parts (4 + m9) [.inr (.inr (32, 0)), .inl b1] (τ, σ9) (none) (τ, q9)) (a1 : Int32) (a2 : Int32) (σ τ : mm) {r : Option mv} {M' : mm × mm} {v9 : mm} (h : fX8_parts_48 rc a1 a2 σ = some v9) (hk : (fun q : mm => r = none ∧ M' = (τ, q)) v9) : Vm mX8_parts (4 + (m9 + 1)) 48 [(0, .inr (.inr (32, 0))), (1, .inl a1), (2, .inl a2)] [] (τ, σ) r M' := by
  unfold fX8_parts_48 at h
  refine Vm.aload_n (n := 49) 0 dX8_parts_48 rfl rfl ?_
  refine Vm.iload_n (n := 50) 1 dX8_parts_49 rfl rfl ?_
  refine Vm.iload_n (n := 51) 2 dX8_parts_50 rfl rfl ?_
  replace h := Option.bind_eq_some_iff.mp h
  obtain ⟨q1, h1, h⟩ := h
  refine Vm.callVv (Y := mX8_leafAt) (n := 54) [.inl a1, .inl a2] dX8_parts_51 rfl wv_RX8_255 omX8_leafAt rfl in_32 rfl rfl rfl (Nat.le_of_ble_eq_true rfl) (by omega) (kX8_leafAt a1 a2 σ τ h1) ?_
  obtain rfl := Option.some.inj h
  exact Vm.vret dX8_parts_54 rfl hk.1 hk.2.symm
set_option maxRecDepth 20000 in
theorem lX8_parts_27 (m9 : Nat) (rc : Int32 → mm → Option (mm)) (hrc : ∀ (b1 : Int32) (σ9 τ : mm) (q9 : mm), rc b1 σ9 = some q9 → Cx mX8_parts (4 + m9) [.inr (.inr (32, 0)), .inl b1] (τ, σ9) (none) (τ, q9)) (a1 : Int32) (s1 : Int32) (σ τ : mm) {r : Option mv} {M' : mm × mm} {v9 : mm} (h : fX8_parts_27 rc a1 s1 σ = some v9) (hk : (fun q : mm => r = none ∧ M' = (τ, q)) v9) : Vm mX8_parts (4 + (m9 + 1)) 27 [(0, .inr (.inr (32, 0))), (1, .inl a1)] [.inl s1, .inr (.inr (32, 0))] (τ, σ) r M' := by
  unfold fX8_parts_27 at h
  refine Vm.pM (n := 30) (ty := .int) dX8_parts_27 rfl wf_RX8_246 in_32 rfl (by decide) rfl (by decide) rfl rfl rfl rfl ?_
  replace h := Option.bind_eq_some_iff.mp h
  obtain ⟨σ1, e1, h⟩ := h
  replace e1 := Option.some.inj e1
  refine Vm.mem (congrArg (fun z => (τ, z)) e1) ?_
  refine Vm.aload_n (n := 31) 0 dX8_parts_30 rfl rfl ?_
  refine Vm.iload_n (n := 32) 1 dX8_parts_31 rfl rfl ?_
  replace h := Option.bind_eq_some_iff.mp h
  obtain ⟨q2, h2, h⟩ := h
  refine Vm.callV (Y := mX8_deadRow) (n := 35) [.inl a1] dX8_parts_32 rfl wv_RX8_249 omX8_deadRow rfl in_32 rfl rfl rfl (Nat.le_of_ble_eq_true rfl) (by omega) (kX8_deadRow a1 σ1 τ h2) ?_
  refine Vm.istore_n (n := 36) (lv' := [(2, .inl q2), (0, .inr (.inr (32, 0))), (1, .inl a1)]) dX8_parts_35 rfl (Nat.le_of_ble_eq_true rfl) rfl ?_
  refine Vm.iload_n (n := 37) 0 dX8_parts_36 rfl rfl ?_
  refine Vm.if_ge (n := 40) 48 dX8_parts_37 rfl rfl (fun c9 => ?_) (fun c9 => ?_)
  · replace h := (if_pos c9).symm.trans h
    refine Vm.sub (lv' := [(0, .inr (.inr (32, 0))), (1, .inl a1), (2, .inl q2)]) [1, 2, 0] rfl ?_
    exact lX8_parts_48 m9 rc hrc a1 q2 σ1 τ h hk
  · replace h := (if_neg c9).symm.trans h
    refine Vm.aload_n (n := 41) 1 dX8_parts_40 rfl rfl ?_
    refine Vm.iload_n (n := 42) 2 dX8_parts_41 rfl rfl ?_
    replace h := Option.bind_eq_some_iff.mp h
    obtain ⟨q3, h3, h⟩ := h
    refine Vm.callV (Y := mX8_isWhole) (n := 45) [.inl a1] dX8_parts_42 rfl wv_RX8_252 omX8_isWhole rfl in_32 rfl rfl rfl (Nat.le_of_ble_eq_true rfl) (by omega) (kX8_isWhole a1 σ1 τ h3) ?_
    refine Vm.if_eq (n := 48) 55 dX8_parts_45 rfl rfl (fun c9 => ?_) (fun c9 => ?_)
    · replace h := (if_pos c9).symm.trans h
      refine Vm.iconst (n := 56) (v := (0 : Int32)) dX8_parts_55 rfl (by decide) ?_
      refine Vm.istore_n (n := 57) (lv' := [(3, .inl (0 : Int32)), (2, .inl q2), (0, .inr (.inr (32, 0))), (1, .inl a1)]) dX8_parts_56 rfl (Nat.le_of_ble_eq_true rfl) rfl ?_
      refine Vm.iconst (n := 58) (v := (1 : Int32)) dX8_parts_57 rfl (by decide) ?_
      refine Vm.istore (n := 60) (lv' := [(4, .inl (1 : Int32)), (3, .inl (0 : Int32)), (2, .inl q2), (0, .inr (.inr (32, 0))), (1, .inl a1)]) dX8_parts_58 rfl (Nat.le_of_ble_eq_true rfl) rfl ?_
      refine Vm.sub (lv' := [(0, .inr (.inr (32, 0))), (1, .inl a1), (3, .inl (0 : Int32)), (4, .inl (1 : Int32))]) [3, 4, 1, 0] rfl ?_
      exact lX8_parts_60_L m9 rc hrc a1 σ1 τ ((0 : Int32), (1 : Int32)) _ h hk
    · replace h := (if_neg c9).symm.trans h
      refine Vm.sub (lv' := [(0, .inr (.inr (32, 0))), (1, .inl a1), (2, .inl q2)]) [1, 2, 0] rfl ?_
      exact lX8_parts_48 m9 rc hrc a1 q2 σ1 τ h hk
set_option maxRecDepth 20000 in
theorem lX8_parts_0 (m9 : Nat) (rc : Int32 → mm → Option (mm)) (hrc : ∀ (b1 : Int32) (σ9 τ : mm) (q9 : mm), rc b1 σ9 = some q9 → Cx mX8_parts (4 + m9) [.inr (.inr (32, 0)), .inl b1] (τ, σ9) (none) (τ, q9)) (a1 : Int32) (σ τ : mm) {r : Option mv} {M' : mm × mm} {v9 : mm} (h : fX8_parts_0 rc a1 σ = some v9) (hk : (fun q : mm => r = none ∧ M' = (τ, q)) v9) : Vm mX8_parts (4 + (m9 + 1)) 0 [(0, .inr (.inr (32, 0))), (1, .inl a1)] [] (τ, σ) r M' := by
  unfold fX8_parts_0 at h
  refine Vm.aload_n (n := 1) 0 dX8_parts_0 rfl rfl ?_
  refine Vm.dup (n := 2) dX8_parts_1 rfl rfl ?_
  refine Vm.gM (n := 5) dX8_parts_2 rfl wf_RX8_243 in_32 rfl (by decide) rfl (by decide) ?_
  refine Vm.iconst (n := 6) (v := (1 : Int32)) dX8_parts_5 rfl (by decide) ?_
  refine Vm.iadd (n := 7) dX8_parts_6 rfl ?_
  replace h := Option.bind_eq_some_iff.mp h
  obtain ⟨x1, e1, h⟩ := h
  replace e1 := Option.some.inj e1
  refine Vm.top e1 ?_
  refine Vm.pM (n := 10) (ty := .int) dX8_parts_7 rfl wf_RX8_243 in_32 rfl (by decide) rfl (by decide) rfl rfl rfl rfl ?_
  replace h := Option.bind_eq_some_iff.mp h
  obtain ⟨σ2, e2, h⟩ := h
  replace e2 := Option.some.inj e2
  refine Vm.mem (congrArg (fun z => (τ, z)) e2) ?_
  refine Vm.aload_n (n := 11) 0 dX8_parts_10 rfl rfl ?_
  refine Vm.iload_n (n := 12) 1 dX8_parts_11 rfl rfl ?_
  refine Vm.aload_n (n := 13) 0 dX8_parts_12 rfl rfl ?_
  refine Vm.gM (n := 16) dX8_parts_13 rfl wf_RX8_246 in_32 rfl (by decide) rfl (by decide) ?_
  refine Vm.icmp_le (n := 19) 23 dX8_parts_16 rfl rfl (fun c9 => ?_) (fun c9 => ?_)
  · replace h := (if_pos c9).symm.trans h
    refine Vm.aload_n (n := 24) 0 dX8_parts_23 rfl rfl ?_
    refine Vm.gM (n := 27) dX8_parts_24 rfl wf_RX8_246 in_32 rfl (by decide) rfl (by decide) ?_
    exact lX8_parts_27 m9 rc hrc a1 (σ2.1 32 0 20) σ2 τ h hk
  · replace h := (if_neg c9).symm.trans h
    refine Vm.iload_n (n := 20) 1 dX8_parts_19 rfl rfl ?_
    refine Vm.goto 27 dX8_parts_20 rfl ?_
    exact lX8_parts_27 m9 rc hrc a1 a1 σ2 τ h hk
theorem kX8_parts : ∀ (m9 : Nat) (a1 : Int32) (σ τ : mm) {q : mm} (h : fX8_parts m9 a1 σ = some q), Cx mX8_parts (4 + m9) [.inr (.inr (32, 0)), .inl a1] (τ, σ) (none) (τ, q) := by
  intro m9
  induction m9 with
  | zero =>
    intro a1 σ τ q h
    cases h
  | succ m9 ih =>
    intro a1 σ τ q h
    exact Cx.of (lv := [(0, .inr (.inr (32, 0))), (1, .inl a1)]) (by decide) (fun ad => Nat.le_of_ble_eq_true rfl) (fun ad => rfl) (lX8_parts_0 m9 (fX8_parts m9) (fun a1 σ9 τ q9  h9 => ih a1 σ9 τ h9) a1 σ τ h ⟨rfl, rfl⟩)
