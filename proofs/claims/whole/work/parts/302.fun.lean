-- ThinBodies$Cloud findThin (I)V
noncomputable def fX1_findThin_72 (a1 : Int32) (a2 : Int32) (a3 : Int32) (σ : mm) : Option ((Int32 × mm) ⊕ (mm)) :=
  Option.bind (some (a3 + (1 : Int32))) fun x1 =>
  some (.inl (x1, σ))
noncomputable def fX1_findThin_23 (a1 : Int32) (a2 : Int32) (a3 : Int32) (σ : mm) : Option ((Int32 × mm) ⊕ (mm)) :=
  if a2 ≤ a3 then
  some (.inr (σ))
  else
  Option.bind (fX1_sweep a3 a1 (σ.1 1 0 7) σ) fun q1 =>
  if (q1.1 1 0 7) ≤ ((q1.1 1 0 3) - (q1.1 1 0 4)) then
  fX1_findThin_72 a1 a2 a3 q1
  else
  Option.bind (some ((q1.1 1 0 3) - (q1.1 1 0 4))) fun x2 =>
  Option.bind (some (stI q1 1 0 7 x2)) fun σ3 =>
  Option.bind (some (stI σ3 1 0 6 a3)) fun σ4 =>
  fX1_findThin_72 a1 a2 a3 σ4
noncomputable def fX1_findThin_23_L (a1 : Int32) (a2 : Int32) : Int32 × mm → Option ((Int32 × mm) ⊕ (mm)) := fun z => fX1_findThin_23 a1 a2 z.1 z.2
noncomputable def fX1_findThin_0 (a1 : Int32) (σ : mm) : Option (mm) :=
  if (σ.1 1 0 7) < (0 : Int32) then
  Option.bind (fX1_directions a1) fun q1 =>
  Option.bind (dvI q1 (2 : Int32)) fun x2 =>
  Option.bind (some (stI σ 1 0 7 (1000000000 : Int32))) fun σ3 =>
  lp (fX1_findThin_23_L a1 x2) ((0 : Int32), σ3)
  else
  some (σ)
noncomputable def fX1_findThin (a1 : Int32) (σ : mm) : Option (mm) := fX1_findThin_0 a1 σ
set_option maxRecDepth 20000 in
theorem lX1_findThin_72 (a1 : Int32) (a2 : Int32) (a3 : Int32) (σ τ : mm) {r : Option mv} {M' : mm × mm} {v9 : (Int32 × mm) ⊕ (mm)} (h : fX1_findThin_72 a1 a2 a3 σ = some v9) (hk : (Sum.elim (fun z : Int32 × mm => Vm mX1_findThin 3 23 [(0, .inr (.inr (1, 0))), (1, .inl a1), (2, .inl a2), (3, .inl z.1)] [] (z.2, τ) r M') (fun q : mm => r = none ∧ M' = (q, τ))) v9) : Vm mX1_findThin 3 72 [(0, .inr (.inr (1, 0))), (1, .inl a1), (2, .inl a2), (3, .inl a3)] [] (σ, τ) r M' := by
  unfold fX1_findThin_72 at h
  replace h := Option.bind_eq_some_iff.mp h
  obtain ⟨x1, e1, h⟩ := h
  replace e1 := Option.some.inj e1
  refine Vm.iinc (n := 75) (v := x1) (lv' := [(3, .inl x1), (0, .inr (.inr (1, 0))), (1, .inl a1), (2, .inl a2)]) 3 dX1_findThin_72 rfl rfl e1 (Nat.le_of_ble_eq_true rfl) rfl ?_
  refine Vm.goto 23 dX1_findThin_75 rfl ?_
  refine Vm.sub (lv' := [(0, .inr (.inr (1, 0))), (1, .inl a1), (2, .inl a2), (3, .inl x1)]) [1, 2, 3, 0] rfl ?_
  obtain rfl := Option.some.inj h
  exact hk
set_option maxRecDepth 20000 in
theorem lX1_findThin_23 (a1 : Int32) (a2 : Int32) (a3 : Int32) (σ τ : mm) {r : Option mv} {M' : mm × mm} {v9 : (Int32 × mm) ⊕ (mm)} (h : fX1_findThin_23 a1 a2 a3 σ = some v9) (hk : (Sum.elim (fun z : Int32 × mm => Vm mX1_findThin 3 23 [(0, .inr (.inr (1, 0))), (1, .inl a1), (2, .inl a2), (3, .inl z.1)] [] (z.2, τ) r M') (fun q : mm => r = none ∧ M' = (q, τ))) v9) : Vm mX1_findThin 3 23 [(0, .inr (.inr (1, 0))), (1, .inl a1), (2, .inl a2), (3, .inl a3)] [] (σ, τ) r M' := by
  unfold fX1_findThin_23 at h
  refine Vm.iload_n (n := 24) 3 dX1_findThin_23 rfl rfl ?_
  refine Vm.iload_n (n := 25) 2 dX1_findThin_24 rfl rfl ?_
  refine Vm.icmp_ge (n := 28) 78 dX1_findThin_25 rfl rfl (fun c9 => ?_) (fun c9 => ?_)
  · replace h := (if_pos c9).symm.trans h
    obtain rfl := Option.some.inj h
    exact Vm.vret dX1_findThin_78 rfl hk.1 hk.2.symm
  · replace h := (if_neg c9).symm.trans h
    refine Vm.aload_n (n := 29) 0 dX1_findThin_28 rfl rfl ?_
    refine Vm.iload_n (n := 30) 3 dX1_findThin_29 rfl rfl ?_
    refine Vm.iload_n (n := 31) 1 dX1_findThin_30 rfl rfl ?_
    refine Vm.aload_n (n := 32) 0 dX1_findThin_31 rfl rfl ?_
    refine Vm.gX (n := 35) dX1_findThin_32 rfl wf_RX1_34 in_1 rfl (by decide) rfl (by decide) ?_
    replace h := Option.bind_eq_some_iff.mp h
    obtain ⟨q1, h1, h⟩ := h
    refine Vm.callVv (Y := mX1_sweep) (n := 38) [.inl a3, .inl a1, .inl (σ.1 1 0 7)] dX1_findThin_35 rfl wv_RX1_107 omX1_sweep rfl in_1 rfl rfl rfl (Nat.le_of_ble_eq_true rfl) (by decide) (kX1_sweep a3 a1 (σ.1 1 0 7) σ τ h1) ?_
    refine Vm.aload_n (n := 39) 0 dX1_findThin_38 rfl rfl ?_
    refine Vm.gX (n := 42) dX1_findThin_39 rfl wf_RX1_22 in_1 rfl (by decide) rfl (by decide) ?_
    refine Vm.aload_n (n := 43) 0 dX1_findThin_42 rfl rfl ?_
    refine Vm.gX (n := 46) dX1_findThin_43 rfl wf_RX1_25 in_1 rfl (by decide) rfl (by decide) ?_
    refine Vm.isub (n := 47) dX1_findThin_46 rfl ?_
    refine Vm.aload_n (n := 48) 0 dX1_findThin_47 rfl rfl ?_
    refine Vm.gX (n := 51) dX1_findThin_48 rfl wf_RX1_34 in_1 rfl (by decide) rfl (by decide) ?_
    refine Vm.icmp_ge (n := 54) 72 dX1_findThin_51 rfl rfl (fun c9 => ?_) (fun c9 => ?_)
    · replace h := (if_pos c9).symm.trans h
      exact lX1_findThin_72 a1 a2 a3 q1 τ h hk
    · replace h := (if_neg c9).symm.trans h
      refine Vm.aload_n (n := 55) 0 dX1_findThin_54 rfl rfl ?_
      refine Vm.aload_n (n := 56) 0 dX1_findThin_55 rfl rfl ?_
      refine Vm.gX (n := 59) dX1_findThin_56 rfl wf_RX1_22 in_1 rfl (by decide) rfl (by decide) ?_
      refine Vm.aload_n (n := 60) 0 dX1_findThin_59 rfl rfl ?_
      refine Vm.gX (n := 63) dX1_findThin_60 rfl wf_RX1_25 in_1 rfl (by decide) rfl (by decide) ?_
      refine Vm.isub (n := 64) dX1_findThin_63 rfl ?_
      replace h := Option.bind_eq_some_iff.mp h
      obtain ⟨x2, e2, h⟩ := h
      replace e2 := Option.some.inj e2
      refine Vm.top e2 ?_
      refine Vm.pX (n := 67) (ty := .int) dX1_findThin_64 rfl wf_RX1_34 in_1 rfl (by decide) rfl (by decide) rfl rfl rfl rfl ?_
      replace h := Option.bind_eq_some_iff.mp h
      obtain ⟨σ3, e3, h⟩ := h
      replace e3 := Option.some.inj e3
      refine Vm.mem (congrArg (fun z => (z, τ)) e3) ?_
      refine Vm.aload_n (n := 68) 0 dX1_findThin_67 rfl rfl ?_
      refine Vm.iload_n (n := 69) 3 dX1_findThin_68 rfl rfl ?_
      refine Vm.pX (n := 72) (ty := .int) dX1_findThin_69 rfl wf_RX1_31 in_1 rfl (by decide) rfl (by decide) rfl rfl rfl rfl ?_
      replace h := Option.bind_eq_some_iff.mp h
      obtain ⟨σ4, e4, h⟩ := h
      replace e4 := Option.some.inj e4
      refine Vm.mem (congrArg (fun z => (z, τ)) e4) ?_
      exact lX1_findThin_72 a1 a2 a3 σ4 τ h hk
theorem lX1_findThin_23_L (a1 : Int32) (a2 : Int32) (τ : mm) {r : Option mv} {M' : mm × mm} (z : Int32 × mm) (w9 : mm) (h : lp (fX1_findThin_23_L a1 a2) z = some w9) (hk : (fun q : mm => r = none ∧ M' = (q, τ)) w9) : Vm mX1_findThin 3 23 [(0, .inr (.inr (1, 0))), (1, .inl a1), (2, .inl a2), (3, .inl z.1)] [] (z.2, τ) r M' :=
  lp_link (S := Int32 × mm) (R := mm) (body := fX1_findThin_23_L a1 a2) (A := fun z : Int32 × mm => Vm mX1_findThin 3 23 [(0, .inr (.inr (1, 0))), (1, .inl a1), (2, .inl a2), (3, .inl z.1)] [] (z.2, τ) r M') (B := fun w : mm => (fun q : mm => r = none ∧ M' = (q, τ)) w) (fun z v hb hv => lX1_findThin_23 a1 a2 z.1 z.2 τ hb hv) z w9 h hk
set_option maxRecDepth 20000 in
theorem lX1_findThin_0 (a1 : Int32) (σ τ : mm) {r : Option mv} {M' : mm × mm} {v9 : mm} (h : fX1_findThin_0 a1 σ = some v9) (hk : (fun q : mm => r = none ∧ M' = (q, τ)) v9) : Vm mX1_findThin 3 0 [(0, .inr (.inr (1, 0))), (1, .inl a1)] [] (σ, τ) r M' := by
  unfold fX1_findThin_0 at h
  refine Vm.aload_n (n := 1) 0 dX1_findThin_0 rfl rfl ?_
  refine Vm.gX (n := 4) dX1_findThin_1 rfl wf_RX1_34 in_1 rfl (by decide) rfl (by decide) ?_
  refine Vm.if_lt (n := 7) 8 dX1_findThin_4 rfl rfl (fun c9 => ?_) (fun c9 => ?_)
  · replace h := (if_pos c9).symm.trans h
    refine Vm.iload_n (n := 9) 1 dX1_findThin_8 rfl rfl ?_
    replace h := Option.bind_eq_some_iff.mp h
    obtain ⟨q1, h1, h⟩ := h
    refine Vm.callS (Y := mX1_directions) (n := 12) [.inl a1] dX1_findThin_9 rfl wv_RX1_103 omX1_directions rfl rfl (Nat.le_of_ble_eq_true rfl) (by decide) (kX1_directions a1 h1) ?_
    refine Vm.iconst (n := 13) (v := (2 : Int32)) dX1_findThin_12 rfl (by decide) ?_
    replace h := Option.bind_eq_some_iff.mp h
    obtain ⟨x2, h2, h⟩ := h
    refine Vm.idiv (n := 14) dX1_findThin_13 rfl h2 ?_
    refine Vm.istore_n (n := 15) (lv' := [(2, .inl x2), (0, .inr (.inr (1, 0))), (1, .inl a1)]) dX1_findThin_14 rfl (Nat.le_of_ble_eq_true rfl) rfl ?_
    refine Vm.aload_n (n := 16) 1 dX1_findThin_15 rfl rfl ?_
    refine Vm.ldc (n := 18) dX1_findThin_16 rfl wc_RX1_106 ?_
    refine Vm.pX (n := 21) (ty := .int) dX1_findThin_18 rfl wf_RX1_34 in_1 rfl (by decide) rfl (by decide) rfl rfl rfl rfl ?_
    replace h := Option.bind_eq_some_iff.mp h
    obtain ⟨σ3, e3, h⟩ := h
    replace e3 := Option.some.inj e3
    refine Vm.mem (congrArg (fun z => (z, τ)) e3) ?_
    refine Vm.iconst (n := 22) (v := (0 : Int32)) dX1_findThin_21 rfl (by decide) ?_
    refine Vm.istore_n (n := 23) (lv' := [(3, .inl (0 : Int32)), (2, .inl x2), (0, .inr (.inr (1, 0))), (1, .inl a1)]) dX1_findThin_22 rfl (Nat.le_of_ble_eq_true rfl) rfl ?_
    refine Vm.sub (lv' := [(0, .inr (.inr (1, 0))), (1, .inl a1), (2, .inl x2), (3, .inl (0 : Int32))]) [2, 3, 1, 0] rfl ?_
    exact lX1_findThin_23_L a1 x2 τ ((0 : Int32), σ3) _ h hk
  · replace h := (if_neg c9).symm.trans h
    obtain rfl := Option.some.inj h
    exact Vm.vret dX1_findThin_7 rfl hk.1 hk.2.symm
theorem kX1_findThin (a1 : Int32) (σ τ : mm) {q : mm} (h : fX1_findThin a1 σ = some q) : Cx mX1_findThin 3 [.inr (.inr (1, 0)), .inl a1] (σ, τ) (none) (q, τ) :=
  Cx.of (lv := [(0, .inr (.inr (1, 0))), (1, .inl a1)]) (by decide) (fun ad => Nat.le_of_ble_eq_true rfl) (fun ad => rfl) (lX1_findThin_0 a1 σ τ h ⟨rfl, rfl⟩)
-- ThinBodies thin (I)I
noncomputable def fX7_thin_9 (σ : mm) : Option (Int32 × mm) :=
  Option.bind (fX7_finding (0 : Int32) σ) fun q1 =>
  some ((q1.1, q1.2))
noncomputable def fX7_thin_0 (a1 : Int32) (σ : mm) : Option (Int32 × mm) :=
  if a1 < (0 : Int32) then
  fX7_thin_9 σ
  else
  if a1 ≤ (1 : Int32) then
  Option.bind (fX1_refresh 0 σ) fun q1 =>
  if (q1.1 1 0 2) = (0 : Int32) then
  Option.bind (fX7_finding (3 : Int32) q1) fun q3 =>
  some ((q3.1, q3.2))
  else
  Option.bind (fX1_findThin (q1.1 0 0 0) q1) fun q2 =>
  if a1 = (0 : Int32) then
  some ((q2.1 1 0 6, q2))
  else
  some ((q2.1 1 0 7, q2))
  else
  fX7_thin_9 σ
noncomputable def fX7_thin (a1 : Int32) (σ : mm) : Option (Int32 × mm) := fX7_thin_0 a1 σ
set_option maxRecDepth 20000 in
theorem lX7_thin_9 (σ τ : mm) {r : Option mv} {M' : mm × mm} {v9 : Int32 × mm} (h : fX7_thin_9 σ = some v9) (hk : (fun q : Int32 × mm => r = some (.inl q.1) ∧ M' = (q.2, τ)) v9) : Vm mX7_thin 5 9 [(0, .inr (.inr (7, 0)))] [] (σ, τ) r M' := by
  unfold fX7_thin_9 at h
  refine Vm.aload_n (n := 10) 0 dX7_thin_9 rfl rfl ?_
  refine Vm.iconst (n := 11) (v := (0 : Int32)) dX7_thin_10 rfl (by decide) ?_
  replace h := Option.bind_eq_some_iff.mp h
  obtain ⟨q1, h1, h⟩ := h
  refine Vm.callV (Y := mX7_finding) (n := 14) [.inl (0 : Int32)] dX7_thin_11 rfl wv_RX7_68 omX7_finding rfl in_7 rfl rfl rfl (Nat.le_of_ble_eq_true rfl) (by decide) (kX7_finding (0 : Int32) σ τ h1) ?_
  obtain rfl := Option.some.inj h
  exact Vm.iret dX7_thin_14 rfl hk.1 hk.2.symm
set_option maxRecDepth 20000 in
theorem lX7_thin_0 (a1 : Int32) (σ τ : mm) {r : Option mv} {M' : mm × mm} {v9 : Int32 × mm} (h : fX7_thin_0 a1 σ = some v9) (hk : (fun q : Int32 × mm => r = some (.inl q.1) ∧ M' = (q.2, τ)) v9) : Vm mX7_thin 5 0 [(0, .inr (.inr (7, 0))), (1, .inl a1)] [] (σ, τ) r M' := by
  unfold fX7_thin_0 at h
  refine Vm.iload_n (n := 1) 1 dX7_thin_0 rfl rfl ?_
  refine Vm.if_lt (n := 4) 9 dX7_thin_1 rfl rfl (fun c9 => ?_) (fun c9 => ?_)
  · replace h := (if_pos c9).symm.trans h
    refine Vm.sub (lv' := [(0, .inr (.inr (7, 0)))]) [0] rfl ?_
    exact lX7_thin_9 σ τ h hk
  · replace h := (if_neg c9).symm.trans h
    refine Vm.iload_n (n := 5) 1 dX7_thin_4 rfl rfl ?_
    refine Vm.iconst (n := 6) (v := (1 : Int32)) dX7_thin_5 rfl (by decide) ?_
    refine Vm.icmp_le (n := 9) 15 dX7_thin_6 rfl rfl (fun c9 => ?_) (fun c9 => ?_)
    · replace h := (if_pos c9).symm.trans h
      refine Vm.aload_n (n := 16) 0 dX7_thin_15 rfl rfl ?_
      refine Vm.getR (n := 19) dX7_thin_16 rfl wf_RX7_29 in_7 rfl (by decide) rfl ?_
      refine Vm.aload_n (n := 20) 0 dX7_thin_19 rfl rfl ?_
      refine Vm.getR (n := 23) dX7_thin_20 rfl wf_RX7_12 in_7 rfl (by decide) rfl ?_
      replace h := Option.bind_eq_some_iff.mp h
      obtain ⟨q1, h1, h⟩ := h
      refine Vm.callVv (Y := mX1_refresh) (n := 26) [.inr (.inr (0, 0))] dX7_thin_23 rfl wv_RX7_154 omX1_refresh rfl in_1 rfl rfl rfl (Nat.le_of_ble_eq_true rfl) (by decide) (kX1_refresh 0 (by decide) σ τ h1) ?_
      refine Vm.aload_n (n := 27) 0 dX7_thin_26 rfl rfl ?_
      refine Vm.getR (n := 30) dX7_thin_27 rfl wf_RX7_29 in_7 rfl (by decide) rfl ?_
      refine Vm.gX (n := 33) dX7_thin_30 rfl wf_RX7_158 in_1 rfl (by decide) rfl (by decide) ?_
      refine Vm.if_ne (n := 36) 42 dX7_thin_33 rfl rfl (fun c9 => ?_) (fun c9 => ?_)
      · replace h := (if_neg c9).symm.trans h
        refine Vm.aload_n (n := 43) 0 dX7_thin_42 rfl rfl ?_
        refine Vm.getR (n := 46) dX7_thin_43 rfl wf_RX7_29 in_7 rfl (by decide) rfl ?_
        refine Vm.aload_n (n := 47) 0 dX7_thin_46 rfl rfl ?_
        refine Vm.getR (n := 50) dX7_thin_47 rfl wf_RX7_12 in_7 rfl (by decide) rfl ?_
        refine Vm.gX (n := 53) dX7_thin_50 rfl wf_RX7_75 (ink ik_0 (by decide)) rfl (by decide) rfl (by decide) ?_
        replace h := Option.bind_eq_some_iff.mp h
        obtain ⟨q2, h2, h⟩ := h
        refine Vm.callVv (Y := mX1_findThin) (n := 56) [.inl (q1.1 0 0 0)] dX7_thin_53 rfl wv_RX7_195 omX1_findThin rfl in_1 rfl rfl rfl (Nat.le_of_ble_eq_true rfl) (by decide) (kX1_findThin (q1.1 0 0 0) q1 τ h2) ?_
        refine Vm.iload_n (n := 57) 1 dX7_thin_56 rfl rfl ?_
        refine Vm.if_ne (n := 60) 70 dX7_thin_57 rfl rfl (fun c9 => ?_) (fun c9 => ?_)
        · replace h := (if_neg c9).symm.trans h
          refine Vm.aload_n (n := 71) 0 dX7_thin_70 rfl rfl ?_
          refine Vm.getR (n := 74) dX7_thin_71 rfl wf_RX7_29 in_7 rfl (by decide) rfl ?_
          refine Vm.gX (n := 77) dX7_thin_74 rfl wf_RX7_201 in_1 rfl (by decide) rfl (by decide) ?_
          obtain rfl := Option.some.inj h
          exact Vm.iret dX7_thin_77 rfl hk.1 hk.2.symm
        · replace h := (if_pos c9).symm.trans h
          refine Vm.aload_n (n := 61) 0 dX7_thin_60 rfl rfl ?_
          refine Vm.getR (n := 64) dX7_thin_61 rfl wf_RX7_29 in_7 rfl (by decide) rfl ?_
          refine Vm.gX (n := 67) dX7_thin_64 rfl wf_RX7_198 in_1 rfl (by decide) rfl (by decide) ?_
          refine Vm.goto 77 dX7_thin_67 rfl ?_
          obtain rfl := Option.some.inj h
          exact Vm.iret dX7_thin_77 rfl hk.1 hk.2.symm
      · replace h := (if_pos c9).symm.trans h
        refine Vm.aload_n (n := 37) 0 dX7_thin_36 rfl rfl ?_
        refine Vm.iconst (n := 38) (v := (3 : Int32)) dX7_thin_37 rfl (by decide) ?_
        replace h := Option.bind_eq_some_iff.mp h
        obtain ⟨q3, h3, h⟩ := h
        refine Vm.callV (Y := mX7_finding) (n := 41) [.inl (3 : Int32)] dX7_thin_38 rfl wv_RX7_68 omX7_finding rfl in_7 rfl rfl rfl (Nat.le_of_ble_eq_true rfl) (by decide) (kX7_finding (3 : Int32) q1 τ h3) ?_
        obtain rfl := Option.some.inj h
        exact Vm.iret dX7_thin_41 rfl hk.1 hk.2.symm
    · replace h := (if_neg c9).symm.trans h
      refine Vm.sub (lv' := [(0, .inr (.inr (7, 0)))]) [0] rfl ?_
      exact lX7_thin_9 σ τ h hk
theorem kX7_thin (a1 : Int32) (σ τ : mm) {q : Int32 × mm} (h : fX7_thin a1 σ = some q) : Cx mX7_thin 5 [.inr (.inr (7, 0)), .inl a1] (σ, τ) (some (.inl q.1)) (q.2, τ) :=
  Cx.of (lv := [(0, .inr (.inr (7, 0))), (1, .inl a1)]) (by decide) (fun ad => Nat.le_of_ble_eq_true rfl) (fun ad => rfl) (lX7_thin_0 a1 σ τ h ⟨rfl, rfl⟩)
-- ThinBodies$Cloud sumOfLetter (I)I
noncomputable def fX1_sumOfLetter_29 (a1 : Int32) (a2 : Int32) (a3 : Int32) (σ : mm) : Option ((Int32 × Int32) ⊕ (Int32)) :=
  Option.bind (some (a3 + (1 : Int32))) fun x1 =>
  some (.inl (a2, x1))
noncomputable def fX1_sumOfLetter_4 (a1 : Int32) (a2 : Int32) (a3 : Int32) (σ : mm) : Option ((Int32 × Int32) ⊕ (Int32)) :=
  if (σ.1 1 0 1) ≤ a3 then
  some (.inr (a2))
  else
  Option.bind (fX1_isIn a3 σ) fun q1 =>
  if (bi q1) = (0 : Int32) then
  fX1_sumOfLetter_29 a1 a2 a3 σ
  else
  Option.bind (fX1_letterAt a3 a1 σ) fun q2 =>
  Option.bind (some (a2 + q2)) fun x3 =>
  fX1_sumOfLetter_29 a1 x3 a3 σ
noncomputable def fX1_sumOfLetter_4_L (a1 : Int32) (σ : mm) : Int32 × Int32 → Option ((Int32 × Int32) ⊕ (Int32)) := fun z => fX1_sumOfLetter_4 a1 z.1 z.2 σ
noncomputable def fX1_sumOfLetter_0 (a1 : Int32) (σ : mm) : Option (Int32) :=
  lp (fX1_sumOfLetter_4_L a1 σ) ((0 : Int32), (0 : Int32))
noncomputable def fX1_sumOfLetter (a1 : Int32) (σ : mm) : Option (Int32) := fX1_sumOfLetter_0 a1 σ
set_option maxRecDepth 20000 in
theorem lX1_sumOfLetter_29 (a1 : Int32) (a2 : Int32) (a3 : Int32) (σ σ0 τ : mm) (hσ : σ = σ0) {r : Option mv} {M' : mm × mm} {v9 : (Int32 × Int32) ⊕ (Int32)} (h : fX1_sumOfLetter_29 a1 a2 a3 σ = some v9) (hk : (Sum.elim (fun z : Int32 × Int32 => Vm mX1_sumOfLetter 2 4 [(0, .inr (.inr (1, 0))), (1, .inl a1), (2, .inl z.1), (3, .inl z.2)] [] (σ, τ) r M') (fun q : Int32 => r = some (.inl q) ∧ M' = (σ0, τ))) v9) : Vm mX1_sumOfLetter 2 29 [(0, .inr (.inr (1, 0))), (1, .inl a1), (2, .inl a2), (3, .inl a3)] [] (σ, τ) r M' := by
  unfold fX1_sumOfLetter_29 at h
  replace h := Option.bind_eq_some_iff.mp h
  obtain ⟨x1, e1, h⟩ := h
  replace e1 := Option.some.inj e1
  refine Vm.iinc (n := 32) (v := x1) (lv' := [(3, .inl x1), (0, .inr (.inr (1, 0))), (1, .inl a1), (2, .inl a2)]) 3 dX1_sumOfLetter_29 rfl rfl e1 (Nat.le_of_ble_eq_true rfl) rfl ?_
  refine Vm.goto 4 dX1_sumOfLetter_32 rfl ?_
  refine Vm.sub (lv' := [(0, .inr (.inr (1, 0))), (1, .inl a1), (2, .inl a2), (3, .inl x1)]) [1, 2, 3, 0] rfl ?_
  obtain rfl := Option.some.inj h
  exact hk
set_option maxRecDepth 20000 in
theorem lX1_sumOfLetter_4 (a1 : Int32) (a2 : Int32) (a3 : Int32) (σ σ0 τ : mm) (hσ : σ = σ0) {r : Option mv} {M' : mm × mm} {v9 : (Int32 × Int32) ⊕ (Int32)} (h : fX1_sumOfLetter_4 a1 a2 a3 σ = some v9) (hk : (Sum.elim (fun z : Int32 × Int32 => Vm mX1_sumOfLetter 2 4 [(0, .inr (.inr (1, 0))), (1, .inl a1), (2, .inl z.1), (3, .inl z.2)] [] (σ, τ) r M') (fun q : Int32 => r = some (.inl q) ∧ M' = (σ0, τ))) v9) : Vm mX1_sumOfLetter 2 4 [(0, .inr (.inr (1, 0))), (1, .inl a1), (2, .inl a2), (3, .inl a3)] [] (σ, τ) r M' := by
  unfold fX1_sumOfLetter_4 at h
  refine Vm.iload_n (n := 5) 3 dX1_sumOfLetter_4 rfl rfl ?_
  refine Vm.aload_n (n := 6) 0 dX1_sumOfLetter_5 rfl rfl ?_
  refine Vm.gX (n := 9) dX1_sumOfLetter_6 rfl wf_RX1_15 in_1 rfl (by decide) rfl (by decide) ?_
  refine Vm.icmp_ge (n := 12) 35 dX1_sumOfLetter_9 rfl rfl (fun c9 => ?_) (fun c9 => ?_)
  · replace h := (if_pos c9).symm.trans h
    refine Vm.iload_n (n := 36) 2 dX1_sumOfLetter_35 rfl rfl ?_
    obtain rfl := Option.some.inj h
    exact Vm.iret dX1_sumOfLetter_36 rfl hk.1 (by rw [hσ]; exact hk.2.symm)
  · replace h := (if_neg c9).symm.trans h
    refine Vm.aload_n (n := 13) 0 dX1_sumOfLetter_12 rfl rfl ?_
    refine Vm.iload_n (n := 14) 3 dX1_sumOfLetter_13 rfl rfl ?_
    replace h := Option.bind_eq_some_iff.mp h
    obtain ⟨q1, h1, h⟩ := h
    refine Vm.callV (Y := mX1_isIn) (n := 17) [.inl a3] dX1_sumOfLetter_14 rfl wv_RX1_96 omX1_isIn rfl in_1 rfl rfl rfl (Nat.le_of_ble_eq_true rfl) (by decide) (kX1_isIn a3 σ τ h1) ?_
    refine Vm.if_eq (n := 20) 29 dX1_sumOfLetter_17 rfl rfl (fun c9 => ?_) (fun c9 => ?_)
    · replace h := (if_pos c9).symm.trans h
      exact lX1_sumOfLetter_29 a1 a2 a3 σ σ0 τ hσ h hk
    · replace h := (if_neg c9).symm.trans h
      refine Vm.iload_n (n := 21) 2 dX1_sumOfLetter_20 rfl rfl ?_
      refine Vm.aload_n (n := 22) 0 dX1_sumOfLetter_21 rfl rfl ?_
      refine Vm.iload_n (n := 23) 3 dX1_sumOfLetter_22 rfl rfl ?_
      refine Vm.iload_n (n := 24) 1 dX1_sumOfLetter_23 rfl rfl ?_
      replace h := Option.bind_eq_some_iff.mp h
      obtain ⟨q2, h2, h⟩ := h
      refine Vm.callV (Y := mX1_letterAt) (n := 27) [.inl a3, .inl a1] dX1_sumOfLetter_24 rfl wv_RX1_93 omX1_letterAt rfl in_1 rfl rfl rfl (Nat.le_of_ble_eq_true rfl) (by decide) (kX1_letterAt a3 a1 σ τ h2) ?_
      refine Vm.iadd (n := 28) dX1_sumOfLetter_27 rfl ?_
      replace h := Option.bind_eq_some_iff.mp h
      obtain ⟨x3, e3, h⟩ := h
      replace e3 := Option.some.inj e3
      refine Vm.top e3 ?_
      refine Vm.istore_n (n := 29) (lv' := [(2, .inl x3), (0, .inr (.inr (1, 0))), (1, .inl a1), (3, .inl a3)]) dX1_sumOfLetter_28 rfl (Nat.le_of_ble_eq_true rfl) rfl ?_
      refine Vm.sub (lv' := [(0, .inr (.inr (1, 0))), (1, .inl a1), (2, .inl x3), (3, .inl a3)]) [1, 2, 0, 3] rfl ?_
      exact lX1_sumOfLetter_29 a1 x3 a3 σ σ0 τ hσ h hk
theorem lX1_sumOfLetter_4_L (a1 : Int32) (σ σ0 τ : mm) (hσ : σ = σ0) {r : Option mv} {M' : mm × mm} (z : Int32 × Int32) (w9 : Int32) (h : lp (fX1_sumOfLetter_4_L a1 σ) z = some w9) (hk : (fun q : Int32 => r = some (.inl q) ∧ M' = (σ0, τ)) w9) : Vm mX1_sumOfLetter 2 4 [(0, .inr (.inr (1, 0))), (1, .inl a1), (2, .inl z.1), (3, .inl z.2)] [] (σ, τ) r M' :=
  lp_link (S := Int32 × Int32) (R := Int32) (body := fX1_sumOfLetter_4_L a1 σ) (A := fun z : Int32 × Int32 => Vm mX1_sumOfLetter 2 4 [(0, .inr (.inr (1, 0))), (1, .inl a1), (2, .inl z.1), (3, .inl z.2)] [] (σ, τ) r M') (B := fun w : Int32 => (fun q : Int32 => r = some (.inl q) ∧ M' = (σ0, τ)) w) (fun z v hb hv => lX1_sumOfLetter_4 a1 z.1 z.2 σ σ0 τ hσ hb hv) z w9 h hk
set_option maxRecDepth 20000 in
theorem lX1_sumOfLetter_0 (a1 : Int32) (σ σ0 τ : mm) (hσ : σ = σ0) {r : Option mv} {M' : mm × mm} {v9 : Int32} (h : fX1_sumOfLetter_0 a1 σ = some v9) (hk : (fun q : Int32 => r = some (.inl q) ∧ M' = (σ0, τ)) v9) : Vm mX1_sumOfLetter 2 0 [(0, .inr (.inr (1, 0))), (1, .inl a1)] [] (σ, τ) r M' := by
  unfold fX1_sumOfLetter_0 at h
  refine Vm.iconst (n := 1) (v := (0 : Int32)) dX1_sumOfLetter_0 rfl (by decide) ?_
  refine Vm.istore_n (n := 2) (lv' := [(2, .inl (0 : Int32)), (0, .inr (.inr (1, 0))), (1, .inl a1)]) dX1_sumOfLetter_1 rfl (Nat.le_of_ble_eq_true rfl) rfl ?_
  refine Vm.iconst (n := 3) (v := (0 : Int32)) dX1_sumOfLetter_2 rfl (by decide) ?_
  refine Vm.istore_n (n := 4) (lv' := [(3, .inl (0 : Int32)), (2, .inl (0 : Int32)), (0, .inr (.inr (1, 0))), (1, .inl a1)]) dX1_sumOfLetter_3 rfl (Nat.le_of_ble_eq_true rfl) rfl ?_
  refine Vm.sub (lv' := [(0, .inr (.inr (1, 0))), (1, .inl a1), (2, .inl (0 : Int32)), (3, .inl (0 : Int32))]) [2, 3, 1, 0] rfl ?_
  exact lX1_sumOfLetter_4_L a1 σ σ0 τ hσ ((0 : Int32), (0 : Int32)) _ h hk
theorem kX1_sumOfLetter (a1 : Int32) (σ τ : mm) {q : Int32} (h : fX1_sumOfLetter a1 σ = some q) : Cx mX1_sumOfLetter 2 [.inr (.inr (1, 0)), .inl a1] (σ, τ) (some (.inl q)) (σ, τ) :=
  Cx.of (lv := [(0, .inr (.inr (1, 0))), (1, .inl a1)]) (by decide) (fun ad => Nat.le_of_ble_eq_true rfl) (fun ad => rfl) (lX1_sumOfLetter_0 a1 σ σ τ rfl h ⟨rfl, rfl⟩)
-- ThinBodies greatestDivisor (II)I
noncomputable def fX7_greatestDivisor_7 (a2 : Int32) (a3 : Int32) (a4 : Int32) : Option ((Int32 × Int32 × Int32) ⊕ (Int32)) :=
  if (100 : Int32) ≤ a4 then
  some (.inr (a2))
  else
  if a3 ≤ (0 : Int32) then
  some (.inr (a2))
  else
  Option.bind (rmI a2 a3) fun x1 =>
  Option.bind (some (a4 + (1 : Int32))) fun x2 =>
  some (.inl (a3, x1, x2))
noncomputable def fX7_greatestDivisor_7_L : Int32 × Int32 × Int32 → Option ((Int32 × Int32 × Int32) ⊕ (Int32)) := fun z => fX7_greatestDivisor_7 z.1 z.2.1 z.2.2
noncomputable def fX7_greatestDivisor_0 (a0 : Int32) (a1 : Int32) : Option (Int32) :=
  lp (fX7_greatestDivisor_7_L) (a0, a1, (0 : Int32))
noncomputable def fX7_greatestDivisor (a0 : Int32) (a1 : Int32) : Option (Int32) := fX7_greatestDivisor_0 a0 a1
set_option maxRecDepth 20000 in
theorem lX7_greatestDivisor_7 (a2 : Int32) (a3 : Int32) (a4 : Int32) {M : mm × mm} {r : Option mv} {M' : mm × mm} {v9 : (Int32 × Int32 × Int32) ⊕ (Int32)} (h : fX7_greatestDivisor_7 a2 a3 a4 = some v9) (hk : (Sum.elim (fun z : Int32 × Int32 × Int32 => Vm mX7_greatestDivisor 0 7 [(2, .inl z.1), (3, .inl z.2.1), (4, .inl z.2.2)] [] M r M') (fun q : Int32 => r = some (.inl q) ∧ M' = M)) v9) : Vm mX7_greatestDivisor 0 7 [(2, .inl a2), (3, .inl a3), (4, .inl a4)] [] M r M' := by
  unfold fX7_greatestDivisor_7 at h
  refine Vm.iload (n := 9) 2 dX7_greatestDivisor_7 rfl rfl ?_
  refine Vm.bipush (n := 11) (v := (100 : Int32)) dX7_greatestDivisor_9 rfl (by decide) ?_
  refine Vm.icmp_ge (n := 14) 34 dX7_greatestDivisor_11 rfl rfl (fun c9 => ?_) (fun c9 => ?_)
  · replace h := (if_pos c9).symm.trans h
    refine Vm.iload_n (n := 35) 0 dX7_greatestDivisor_34 rfl rfl ?_
    obtain rfl := Option.some.inj h
    exact Vm.iret dX7_greatestDivisor_35 rfl hk.1 hk.2.symm
  · replace h := (if_neg c9).symm.trans h
    refine Vm.iload_n (n := 15) 1 dX7_greatestDivisor_14 rfl rfl ?_
    refine Vm.if_le (n := 18) 34 dX7_greatestDivisor_15 rfl rfl (fun c9 => ?_) (fun c9 => ?_)
    · replace h := (if_pos c9).symm.trans h
      refine Vm.iload_n (n := 35) 0 dX7_greatestDivisor_34 rfl rfl ?_
      obtain rfl := Option.some.inj h
      exact Vm.iret dX7_greatestDivisor_35 rfl hk.1 hk.2.symm
    · replace h := (if_neg c9).symm.trans h
      refine Vm.iload_n (n := 19) 0 dX7_greatestDivisor_18 rfl rfl ?_
      refine Vm.iload_n (n := 20) 1 dX7_greatestDivisor_19 rfl rfl ?_
      replace h := Option.bind_eq_some_iff.mp h
      obtain ⟨x1, h1, h⟩ := h
      refine Vm.irem (n := 21) dX7_greatestDivisor_20 rfl h1 ?_
      refine Vm.istore (n := 23) (lv' := [(5, .inl x1), (2, .inl a2), (3, .inl a3), (4, .inl a4)]) dX7_greatestDivisor_21 rfl (Nat.le_of_ble_eq_true rfl) rfl ?_
      refine Vm.iload_n (n := 24) 2 dX7_greatestDivisor_23 rfl rfl ?_
      refine Vm.istore_n (n := 25) (lv' := [(2, .inl a3), (5, .inl x1), (3, .inl a3), (4, .inl a4)]) dX7_greatestDivisor_24 rfl (Nat.le_of_ble_eq_true rfl) rfl ?_
      refine Vm.iload (n := 27) 1 dX7_greatestDivisor_25 rfl rfl ?_
      refine Vm.istore_n (n := 28) (lv' := [(3, .inl x1), (2, .inl a3), (5, .inl x1), (4, .inl a4)]) dX7_greatestDivisor_27 rfl (Nat.le_of_ble_eq_true rfl) rfl ?_
      replace h := Option.bind_eq_some_iff.mp h
      obtain ⟨x2, e2, h⟩ := h
      replace e2 := Option.some.inj e2
      refine Vm.iinc (n := 31) (v := x2) (lv' := [(4, .inl x2), (3, .inl x1), (2, .inl a3), (5, .inl x1)]) 3 dX7_greatestDivisor_28 rfl rfl e2 (Nat.le_of_ble_eq_true rfl) rfl ?_
      refine Vm.goto 7 dX7_greatestDivisor_31 rfl ?_
      refine Vm.sub (lv' := [(2, .inl a3), (3, .inl x1), (4, .inl x2)]) [2, 1, 0] rfl ?_
      obtain rfl := Option.some.inj h
      exact hk
theorem lX7_greatestDivisor_7_L {M : mm × mm} {r : Option mv} {M' : mm × mm} (z : Int32 × Int32 × Int32) (w9 : Int32) (h : lp (fX7_greatestDivisor_7_L) z = some w9) (hk : (fun q : Int32 => r = some (.inl q) ∧ M' = M) w9) : Vm mX7_greatestDivisor 0 7 [(2, .inl z.1), (3, .inl z.2.1), (4, .inl z.2.2)] [] M r M' :=
  lp_link (S := Int32 × Int32 × Int32) (R := Int32) (body := fX7_greatestDivisor_7_L) (A := fun z : Int32 × Int32 × Int32 => Vm mX7_greatestDivisor 0 7 [(2, .inl z.1), (3, .inl z.2.1), (4, .inl z.2.2)] [] M r M') (B := fun w : Int32 => (fun q : Int32 => r = some (.inl q) ∧ M' = M) w) (fun z v hb hv => lX7_greatestDivisor_7 z.1 z.2.1 z.2.2 hb hv) z w9 h hk
set_option maxRecDepth 20000 in
theorem lX7_greatestDivisor_0 (a0 : Int32) (a1 : Int32) {M : mm × mm} {r : Option mv} {M' : mm × mm} {v9 : Int32} (h : fX7_greatestDivisor_0 a0 a1 = some v9) (hk : (fun q : Int32 => r = some (.inl q) ∧ M' = M) v9) : Vm mX7_greatestDivisor 0 0 [(0, .inl a0), (1, .inl a1)] [] M r M' := by
  unfold fX7_greatestDivisor_0 at h
  refine Vm.iload_n (n := 1) 0 dX7_greatestDivisor_0 rfl rfl ?_
  refine Vm.istore_n (n := 2) (lv' := [(2, .inl a0), (0, .inl a0), (1, .inl a1)]) dX7_greatestDivisor_1 rfl (Nat.le_of_ble_eq_true rfl) rfl ?_
  refine Vm.iload_n (n := 3) 2 dX7_greatestDivisor_2 rfl rfl ?_
  refine Vm.istore_n (n := 4) (lv' := [(3, .inl a1), (2, .inl a0), (0, .inl a0), (1, .inl a1)]) dX7_greatestDivisor_3 rfl (Nat.le_of_ble_eq_true rfl) rfl ?_
  refine Vm.iconst (n := 5) (v := (0 : Int32)) dX7_greatestDivisor_4 rfl (by decide) ?_
  refine Vm.istore (n := 7) (lv' := [(4, .inl (0 : Int32)), (3, .inl a1), (2, .inl a0), (0, .inl a0), (1, .inl a1)]) dX7_greatestDivisor_5 rfl (Nat.le_of_ble_eq_true rfl) rfl ?_
  refine Vm.sub (lv' := [(2, .inl a0), (3, .inl a1), (4, .inl (0 : Int32))]) [2, 1, 0] rfl ?_
  exact lX7_greatestDivisor_7_L  (a0, a1, (0 : Int32)) _ h hk
theorem kX7_greatestDivisor (a0 : Int32) (a1 : Int32) {M : mm × mm} {q : Int32} (h : fX7_greatestDivisor a0 a1 = some q) : Cx mX7_greatestDivisor 0 [.inl a0, .inl a1] M (some (.inl q)) M :=
  Cx.of (lv := [(0, .inl a0), (1, .inl a1)]) (by decide) (fun ad => Nat.le_of_ble_eq_true rfl) (fun ad => rfl) (lX7_greatestDivisor_0 a0 a1 h ⟨rfl, rfl⟩)
-- java/lang/Math max (II)I
def fJ9_max_7cf53_0 (a0 : Int32) (a1 : Int32) : Int32 :=
  if a0 < a1 then
  a1
  else
  a0
def fJ9_max_7cf53 (a0 : Int32) (a1 : Int32) : Int32 := fJ9_max_7cf53_0 a0 a1
set_option maxRecDepth 20000 in
theorem lJ9_max_7cf53_0 (a0 : Int32) (a1 : Int32) {M : mm × mm} {r : Option mv} {M' : mm × mm} {v9 : Int32} (h : fJ9_max_7cf53_0 a0 a1 = v9) (hk : (fun q : Int32 => r = some (.inl q) ∧ M' = M) v9) : Vm mJ9_max_7cf53 0 0 [(0, .inl a0), (1, .inl a1)] [] M r M' := by
  unfold fJ9_max_7cf53_0 at h
  refine Vm.iload_n (n := 1) 0 dJ9_max_7cf53_0 rfl rfl ?_
  refine Vm.iload_n (n := 2) 1 dJ9_max_7cf53_1 rfl rfl ?_
  refine Vm.icmp_lt (n := 5) 9 dJ9_max_7cf53_2 rfl rfl (fun c9 => ?_) (fun c9 => ?_)
  · replace h := (if_pos c9).symm.trans h
    refine Vm.iload_n (n := 10) 1 dJ9_max_7cf53_9 rfl rfl ?_
    subst h
    exact Vm.iret dJ9_max_7cf53_10 rfl hk.1 hk.2.symm
  · replace h := (if_neg c9).symm.trans h
    refine Vm.iload_n (n := 6) 0 dJ9_max_7cf53_5 rfl rfl ?_
    refine Vm.goto 10 dJ9_max_7cf53_6 rfl ?_
    subst h
    exact Vm.iret dJ9_max_7cf53_10 rfl hk.1 hk.2.symm
theorem kJ9_max_7cf53 (a0 : Int32) (a1 : Int32) {M : mm × mm} {q : Int32} (h : fJ9_max_7cf53 a0 a1 = q) : Cx mJ9_max_7cf53 0 [.inl a0, .inl a1] M (some (.inl q)) M :=
  Cx.ofF (lv := [(0, .inl a0), (1, .inl a1)]) (by decide +kernel) (fun ad => Nat.le_of_ble_eq_true rfl) (fun ad => rfl) (lJ9_max_7cf53_0 a0 a1 h ⟨rfl, rfl⟩)
-- ThinBodies mean (II)I
noncomputable def fX7_mean_20 (σ : mm) : Option (Int32 × mm) :=
  Option.bind (fX7_finding (0 : Int32) σ) fun q1 =>
  some ((q1.1, q1.2))
noncomputable def fX7_mean_0 (a1 : Int32) (a2 : Int32) (σ : mm) : Option (Int32 × mm) :=
  if (bi (fX0_hasLetter 0 a1 σ)) = (0 : Int32) then
  fX7_mean_20 σ
  else
  if a2 < (0 : Int32) then
  fX7_mean_20 σ
  else
  if a2 ≤ (1 : Int32) then
  Option.bind (fX1_refresh 0 σ) fun q1 =>
  if (q1.1 1 0 2) = (0 : Int32) then
  Option.bind (fX7_finding (3 : Int32) q1) fun q7 =>
  some ((q7.1, q7.2))
  else
  Option.bind (fX1_sumOfLetter a1 q1) fun q2 =>
  Option.bind (fX7_greatestDivisor (fJ9_abs_0f7a4 q2) (q1.1 1 0 2)) fun q3 =>
  Option.bind (some ((fJ9_max_7cf53 (1 : Int32) q3))) fun x4 =>
  if a2 = (0 : Int32) then
  Option.bind (dvI q2 x4) fun x6 =>
  some ((x6, q1))
  else
  Option.bind (dvI (q1.1 1 0 2) x4) fun x5 =>
  some ((x5, q1))
  else
  fX7_mean_20 σ
noncomputable def fX7_mean (a1 : Int32) (a2 : Int32) (σ : mm) : Option (Int32 × mm) := fX7_mean_0 a1 a2 σ
set_option maxRecDepth 20000 in
theorem lX7_mean_20 (σ τ : mm) {r : Option mv} {M' : mm × mm} {v9 : Int32 × mm} (h : fX7_mean_20 σ = some v9) (hk : (fun q : Int32 × mm => r = some (.inl q.1) ∧ M' = (q.2, τ)) v9) : Vm mX7_mean 5 20 [(0, .inr (.inr (7, 0)))] [] (σ, τ) r M' := by
  unfold fX7_mean_20 at h
  refine Vm.aload_n (n := 21) 0 dX7_mean_20 rfl rfl ?_
  refine Vm.iconst (n := 22) (v := (0 : Int32)) dX7_mean_21 rfl (by decide) ?_
  replace h := Option.bind_eq_some_iff.mp h
  obtain ⟨q1, h1, h⟩ := h
  refine Vm.callV (Y := mX7_finding) (n := 25) [.inl (0 : Int32)] dX7_mean_22 rfl wv_RX7_68 omX7_finding rfl in_7 rfl rfl rfl (Nat.le_of_ble_eq_true rfl) (by decide) (kX7_finding (0 : Int32) σ τ h1) ?_
  obtain rfl := Option.some.inj h
  exact Vm.iret dX7_mean_25 rfl hk.1 hk.2.symm
set_option maxRecDepth 20000 in
theorem lX7_mean_0 (a1 : Int32) (a2 : Int32) (σ τ : mm) {r : Option mv} {M' : mm × mm} {v9 : Int32 × mm} (h : fX7_mean_0 a1 a2 σ = some v9) (hk : (fun q : Int32 × mm => r = some (.inl q.1) ∧ M' = (q.2, τ)) v9) : Vm mX7_mean 5 0 [(0, .inr (.inr (7, 0))), (1, .inl a1), (2, .inl a2)] [] (σ, τ) r M' := by
  unfold fX7_mean_0 at h
  refine Vm.aload_n (n := 1) 0 dX7_mean_0 rfl rfl ?_
  refine Vm.getR (n := 4) dX7_mean_1 rfl wf_RX7_12 in_7 rfl (by decide) rfl ?_
  refine Vm.iload_n (n := 5) 1 dX7_mean_4 rfl rfl ?_
  refine Vm.callV (Y := mX0_hasLetter) (n := 8) [.inl a1] dX7_mean_5 rfl wv_RX7_86 omX0_hasLetter rfl (ink ik_0 (by decide)) rfl rfl rfl (Nat.le_of_ble_eq_true rfl) (by decide) (kX0_hasLetter 0 (by decide) a1 σ τ rfl) ?_
  refine Vm.if_eq (n := 11) 20 dX7_mean_8 rfl rfl (fun c9 => ?_) (fun c9 => ?_)
  · replace h := (if_pos c9).symm.trans h
    refine Vm.sub (lv' := [(0, .inr (.inr (7, 0)))]) [0] rfl ?_
    exact lX7_mean_20 σ τ h hk
  · replace h := (if_neg c9).symm.trans h
    refine Vm.iload_n (n := 12) 2 dX7_mean_11 rfl rfl ?_
    refine Vm.if_lt (n := 15) 20 dX7_mean_12 rfl rfl (fun c9 => ?_) (fun c9 => ?_)
    · replace h := (if_pos c9).symm.trans h
      refine Vm.sub (lv' := [(0, .inr (.inr (7, 0)))]) [0] rfl ?_
      exact lX7_mean_20 σ τ h hk
    · replace h := (if_neg c9).symm.trans h
      refine Vm.iload_n (n := 16) 2 dX7_mean_15 rfl rfl ?_
      refine Vm.iconst (n := 17) (v := (1 : Int32)) dX7_mean_16 rfl (by decide) ?_
      refine Vm.icmp_le (n := 20) 26 dX7_mean_17 rfl rfl (fun c9 => ?_) (fun c9 => ?_)
      · replace h := (if_pos c9).symm.trans h
        refine Vm.aload_n (n := 27) 0 dX7_mean_26 rfl rfl ?_
        refine Vm.getR (n := 30) dX7_mean_27 rfl wf_RX7_29 in_7 rfl (by decide) rfl ?_
        refine Vm.aload_n (n := 31) 0 dX7_mean_30 rfl rfl ?_
        refine Vm.getR (n := 34) dX7_mean_31 rfl wf_RX7_12 in_7 rfl (by decide) rfl ?_
        replace h := Option.bind_eq_some_iff.mp h
        obtain ⟨q1, h1, h⟩ := h
        refine Vm.callVv (Y := mX1_refresh) (n := 37) [.inr (.inr (0, 0))] dX7_mean_34 rfl wv_RX7_154 omX1_refresh rfl in_1 rfl rfl rfl (Nat.le_of_ble_eq_true rfl) (by decide) (kX1_refresh 0 (by decide) σ τ h1) ?_
        refine Vm.aload_n (n := 38) 0 dX7_mean_37 rfl rfl ?_
        refine Vm.getR (n := 41) dX7_mean_38 rfl wf_RX7_29 in_7 rfl (by decide) rfl ?_
        refine Vm.gX (n := 44) dX7_mean_41 rfl wf_RX7_158 in_1 rfl (by decide) rfl (by decide) ?_
        refine Vm.if_ne (n := 47) 53 dX7_mean_44 rfl rfl (fun c9 => ?_) (fun c9 => ?_)
        · replace h := (if_neg c9).symm.trans h
          refine Vm.aload_n (n := 54) 0 dX7_mean_53 rfl rfl ?_
          refine Vm.getR (n := 57) dX7_mean_54 rfl wf_RX7_29 in_7 rfl (by decide) rfl ?_
          refine Vm.iload_n (n := 58) 1 dX7_mean_57 rfl rfl ?_
          replace h := Option.bind_eq_some_iff.mp h
          obtain ⟨q2, h2, h⟩ := h
          refine Vm.callV (Y := mX1_sumOfLetter) (n := 61) [.inl a1] dX7_mean_58 rfl wv_RX7_204 omX1_sumOfLetter rfl in_1 rfl rfl rfl (Nat.le_of_ble_eq_true rfl) (by decide) (kX1_sumOfLetter a1 q1 τ h2) ?_
          refine Vm.istore_n (n := 62) (lv' := [(3, .inl q2), (0, .inr (.inr (7, 0))), (1, .inl a1), (2, .inl a2)]) dX7_mean_61 rfl (Nat.le_of_ble_eq_true rfl) rfl ?_
          refine Vm.iconst (n := 63) (v := (1 : Int32)) dX7_mean_62 rfl (by decide) ?_
          refine Vm.iload_n (n := 64) 0 dX7_mean_63 rfl rfl ?_
          refine Vm.callS (Y := mJ9_abs_0f7a4) (n := 67) [.inl q2] dX7_mean_64 rfl wv_RX7_207 omJ9_abs_0f7a4 rfl rfl (Nat.le_of_ble_eq_true rfl) (by decide) (kJ9_abs_0f7a4 q2 rfl) ?_
          refine Vm.aload_n (n := 68) 1 dX7_mean_67 rfl rfl ?_
          refine Vm.getR (n := 71) dX7_mean_68 rfl wf_RX7_29 in_7 rfl (by decide) rfl ?_
          refine Vm.gX (n := 74) dX7_mean_71 rfl wf_RX7_158 in_1 rfl (by decide) rfl (by decide) ?_
          replace h := Option.bind_eq_some_iff.mp h
          obtain ⟨q3, h3, h⟩ := h
          refine Vm.callS (Y := mX7_greatestDivisor) (n := 77) [.inl (fJ9_abs_0f7a4 q2), .inl (q1.1 1 0 2)] dX7_mean_74 rfl wv_RX7_212 omX7_greatestDivisor rfl rfl (Nat.le_of_ble_eq_true rfl) (by decide) (kX7_greatestDivisor (fJ9_abs_0f7a4 q2) (q1.1 1 0 2) h3) ?_
          refine Vm.callS (Y := mJ9_max_7cf53) (n := 80) [.inl (1 : Int32), .inl q3] dX7_mean_77 rfl wv_RX7_215 omJ9_max_7cf53 rfl rfl (Nat.le_of_ble_eq_true rfl) (by decide) (kJ9_max_7cf53 (1 : Int32) q3 rfl) ?_
          replace h := Option.bind_eq_some_iff.mp h
          obtain ⟨x4, e4, h⟩ := h
          replace e4 := Option.some.inj e4
          refine Vm.top e4 ?_
          refine Vm.istore (n := 82) (lv' := [(4, .inl x4), (3, .inl q2), (0, .inr (.inr (7, 0))), (1, .inl a1), (2, .inl a2)]) dX7_mean_80 rfl (Nat.le_of_ble_eq_true rfl) rfl ?_
          refine Vm.iload_n (n := 83) 4 dX7_mean_82 rfl rfl ?_
          refine Vm.if_ne (n := 86) 93 dX7_mean_83 rfl rfl (fun c9 => ?_) (fun c9 => ?_)
          · replace h := (if_neg c9).symm.trans h
            refine Vm.aload_n (n := 94) 2 dX7_mean_93 rfl rfl ?_
            refine Vm.getR (n := 97) dX7_mean_94 rfl wf_RX7_29 in_7 rfl (by decide) rfl ?_
            refine Vm.gX (n := 100) dX7_mean_97 rfl wf_RX7_158 in_1 rfl (by decide) rfl (by decide) ?_
            refine Vm.iload (n := 102) 0 dX7_mean_100 rfl rfl ?_
            replace h := Option.bind_eq_some_iff.mp h
            obtain ⟨x5, h5, h⟩ := h
            refine Vm.idiv (n := 103) dX7_mean_102 rfl h5 ?_
            obtain rfl := Option.some.inj h
            exact Vm.iret dX7_mean_103 rfl hk.1 hk.2.symm
          · replace h := (if_pos c9).symm.trans h
            refine Vm.iload_n (n := 87) 1 dX7_mean_86 rfl rfl ?_
            refine Vm.iload (n := 89) 0 dX7_mean_87 rfl rfl ?_
            replace h := Option.bind_eq_some_iff.mp h
            obtain ⟨x6, h6, h⟩ := h
            refine Vm.idiv (n := 90) dX7_mean_89 rfl h6 ?_
            refine Vm.goto 103 dX7_mean_90 rfl ?_
            obtain rfl := Option.some.inj h
            exact Vm.iret dX7_mean_103 rfl hk.1 hk.2.symm
        · replace h := (if_pos c9).symm.trans h
          refine Vm.aload_n (n := 48) 0 dX7_mean_47 rfl rfl ?_
          refine Vm.iconst (n := 49) (v := (3 : Int32)) dX7_mean_48 rfl (by decide) ?_
          replace h := Option.bind_eq_some_iff.mp h
          obtain ⟨q7, h7, h⟩ := h
          refine Vm.callV (Y := mX7_finding) (n := 52) [.inl (3 : Int32)] dX7_mean_49 rfl wv_RX7_68 omX7_finding rfl in_7 rfl rfl rfl (Nat.le_of_ble_eq_true rfl) (by decide) (kX7_finding (3 : Int32) q1 τ h7) ?_
          obtain rfl := Option.some.inj h
          exact Vm.iret dX7_mean_52 rfl hk.1 hk.2.symm
      · replace h := (if_neg c9).symm.trans h
        refine Vm.sub (lv' := [(0, .inr (.inr (7, 0)))]) [0] rfl ?_
        exact lX7_mean_20 σ τ h hk
theorem kX7_mean (a1 : Int32) (a2 : Int32) (σ τ : mm) {q : Int32 × mm} (h : fX7_mean a1 a2 σ = some q) : Cx mX7_mean 5 [.inr (.inr (7, 0)), .inl a1, .inl a2] (σ, τ) (some (.inl q.1)) (q.2, τ) :=
  Cx.of (lv := [(0, .inr (.inr (7, 0))), (1, .inl a1), (2, .inl a2)]) (by decide) (fun ad => Nat.le_of_ble_eq_true rfl) (fun ad => rfl) (lX7_mean_0 a1 a2 σ τ h ⟨rfl, rfl⟩)
-- ThinBodies$Cloud squareToSides (ILThinBodies$Body;)I
noncomputable def fX1_squareToSides_6 (a1 : Int32) (a2 : Nat) (a3 : Int32) (a4 : Int32) (σ : mm) : Option ((Int32 × Int32) ⊕ (Int32)) :=
  if (σ.1 0 a2 0) ≤ a4 then
  some (.inr (a3))
  else
  Option.bind (fX1_letterAt a1 a4 σ) fun q1 =>
  Option.bind (rdI σ 8 a2 4 a4) fun x2 =>
  Option.bind (some ((q1 - x2) + (1 : Int32))) fun x3 =>
  Option.bind (rdI σ 9 a2 4 a4) fun x4 =>
  Option.bind (fX1_letterAt a1 a4 σ) fun q5 =>
  Option.bind (some ((x4 - q5) + (1 : Int32))) fun x6 =>
  Option.bind (some ((fJ9_min_7cf53 x3 x6))) fun x7 =>
  Option.bind (some ((fJ9_min_7cf53 a3 (x7 * x7)))) fun x8 =>
  Option.bind (some (a4 + (1 : Int32))) fun x9 =>
  some (.inl (x8, x9))
noncomputable def fX1_squareToSides_6_L (a1 : Int32) (a2 : Nat) (σ : mm) : Int32 × Int32 → Option ((Int32 × Int32) ⊕ (Int32)) := fun z => fX1_squareToSides_6 a1 a2 z.1 z.2 σ
noncomputable def fX1_squareToSides_0 (a1 : Int32) (a2 : Nat) (σ : mm) : Option (Int32) :=
  lp (fX1_squareToSides_6_L a1 a2 σ) ((1000000000 : Int32), (0 : Int32))
noncomputable def fX1_squareToSides (a1 : Int32) (a2 : Nat) (σ : mm) : Option (Int32) := fX1_squareToSides_0 a1 a2 σ
set_option maxRecDepth 20000 in
theorem lX1_squareToSides_6 (a1 : Int32) (a2 : Nat) (ha2 : a2 < 3) (a3 : Int32) (a4 : Int32) (σ σ0 τ : mm) (hσ : σ = σ0) {r : Option mv} {M' : mm × mm} {v9 : (Int32 × Int32) ⊕ (Int32)} (h : fX1_squareToSides_6 a1 a2 a3 a4 σ = some v9) (hk : (Sum.elim (fun z : Int32 × Int32 => Vm mX1_squareToSides 2 6 [(0, .inr (.inr (1, 0))), (1, .inl a1), (2, .inr (.inr (0, a2))), (3, .inl z.1), (4, .inl z.2)] [] (σ, τ) r M') (fun q : Int32 => r = some (.inl q) ∧ M' = (σ0, τ))) v9) : Vm mX1_squareToSides 2 6 [(0, .inr (.inr (1, 0))), (1, .inl a1), (2, .inr (.inr (0, a2))), (3, .inl a3), (4, .inl a4)] [] (σ, τ) r M' := by
  unfold fX1_squareToSides_6 at h
  refine Vm.iload (n := 8) 4 dX1_squareToSides_6 rfl rfl ?_
  refine Vm.aload_n (n := 9) 2 dX1_squareToSides_8 rfl rfl ?_
  refine Vm.gX (n := 12) dX1_squareToSides_9 rfl wf_RX1_72 (ink ik_0 (by omega)) rfl (by decide) rfl (by decide) ?_
  refine Vm.icmp_ge (n := 15) 78 dX1_squareToSides_12 rfl rfl (fun c9 => ?_) (fun c9 => ?_)
  · replace h := (if_pos c9).symm.trans h
    refine Vm.iload_n (n := 79) 3 dX1_squareToSides_78 rfl rfl ?_
    obtain rfl := Option.some.inj h
    exact Vm.iret dX1_squareToSides_79 rfl hk.1 (by rw [hσ]; exact hk.2.symm)
  · replace h := (if_neg c9).symm.trans h
    refine Vm.aload_n (n := 16) 0 dX1_squareToSides_15 rfl rfl ?_
    refine Vm.iload_n (n := 17) 1 dX1_squareToSides_16 rfl rfl ?_
    refine Vm.iload (n := 19) 4 dX1_squareToSides_17 rfl rfl ?_
    replace h := Option.bind_eq_some_iff.mp h
    obtain ⟨q1, h1, h⟩ := h
    refine Vm.callV (Y := mX1_letterAt) (n := 22) [.inl a1, .inl a4] dX1_squareToSides_19 rfl wv_RX1_93 omX1_letterAt rfl in_1 rfl rfl rfl (Nat.le_of_ble_eq_true rfl) (by decide) (kX1_letterAt a1 a4 σ τ h1) ?_
    refine Vm.aload_n (n := 23) 2 dX1_squareToSides_22 rfl rfl ?_
    refine Vm.getR (n := 26) dX1_squareToSides_23 rfl wf_RX1_59 (ink ik_0 (by omega)) rfl (by decide) rfl ?_
    refine Vm.iload (n := 28) 4 dX1_squareToSides_26 rfl rfl ?_
    replace h := Option.bind_eq_some_iff.mp h
    obtain ⟨x2, h2, h⟩ := h
    refine Vm.ialdx (n := 29) dX1_squareToSides_28 rfl (ink ik_8 (by omega)) rfl rfl (by decide) h2 ?_
    refine Vm.isub (n := 30) dX1_squareToSides_29 rfl ?_
    refine Vm.iconst (n := 31) (v := (1 : Int32)) dX1_squareToSides_30 rfl (by decide) ?_
    refine Vm.iadd (n := 32) dX1_squareToSides_31 rfl ?_
    replace h := Option.bind_eq_some_iff.mp h
    obtain ⟨x3, e3, h⟩ := h
    replace e3 := Option.some.inj e3
    refine Vm.top e3 ?_
    refine Vm.istore (n := 34) (lv' := [(5, .inl x3), (0, .inr (.inr (1, 0))), (1, .inl a1), (2, .inr (.inr (0, a2))), (3, .inl a3), (4, .inl a4)]) dX1_squareToSides_32 rfl (Nat.le_of_ble_eq_true rfl) rfl ?_
    refine Vm.aload_n (n := 35) 3 dX1_squareToSides_34 rfl rfl ?_
    refine Vm.getR (n := 38) dX1_squareToSides_35 rfl wf_RX1_83 (ink ik_0 (by omega)) rfl (by decide) rfl ?_
    refine Vm.iload (n := 40) 5 dX1_squareToSides_38 rfl rfl ?_
    replace h := Option.bind_eq_some_iff.mp h
    obtain ⟨x4, h4, h⟩ := h
    refine Vm.ialdx (n := 41) dX1_squareToSides_40 rfl (ink ik_9 (by omega)) rfl rfl (by decide) h4 ?_
    refine Vm.aload_n (n := 42) 1 dX1_squareToSides_41 rfl rfl ?_
    refine Vm.iload_n (n := 43) 2 dX1_squareToSides_42 rfl rfl ?_
    refine Vm.iload (n := 45) 5 dX1_squareToSides_43 rfl rfl ?_
    replace h := Option.bind_eq_some_iff.mp h
    obtain ⟨q5, h5, h⟩ := h
    refine Vm.callV (Y := mX1_letterAt) (n := 48) [.inl a1, .inl a4] dX1_squareToSides_45 rfl wv_RX1_93 omX1_letterAt rfl in_1 rfl rfl rfl (Nat.le_of_ble_eq_true rfl) (by decide) (kX1_letterAt a1 a4 σ τ h5) ?_
    refine Vm.isub (n := 49) dX1_squareToSides_48 rfl ?_
    refine Vm.iconst (n := 50) (v := (1 : Int32)) dX1_squareToSides_49 rfl (by decide) ?_
    refine Vm.iadd (n := 51) dX1_squareToSides_50 rfl ?_
    replace h := Option.bind_eq_some_iff.mp h
    obtain ⟨x6, e6, h⟩ := h
    replace e6 := Option.some.inj e6
    refine Vm.top e6 ?_
    refine Vm.istore (n := 53) (lv' := [(6, .inl x6), (5, .inl x3), (0, .inr (.inr (1, 0))), (1, .inl a1), (2, .inr (.inr (0, a2))), (3, .inl a3), (4, .inl a4)]) dX1_squareToSides_51 rfl (Nat.le_of_ble_eq_true rfl) rfl ?_
    refine Vm.iload (n := 55) 1 dX1_squareToSides_53 rfl rfl ?_
    refine Vm.iload (n := 57) 0 dX1_squareToSides_55 rfl rfl ?_
    refine Vm.callS (Y := mJ9_min_7cf53) (n := 60) [.inl x3, .inl x6] dX1_squareToSides_57 rfl wv_RX1_53 omJ9_min_7cf53 rfl rfl (Nat.le_of_ble_eq_true rfl) (by decide) (kJ9_min_7cf53 x3 x6 rfl) ?_
    replace h := Option.bind_eq_some_iff.mp h
    obtain ⟨x7, e7, h⟩ := h
    replace e7 := Option.some.inj e7
    refine Vm.top e7 ?_
    refine Vm.istore (n := 62) (lv' := [(7, .inl x7), (6, .inl x6), (5, .inl x3), (0, .inr (.inr (1, 0))), (1, .inl a1), (2, .inr (.inr (0, a2))), (3, .inl a3), (4, .inl a4)]) dX1_squareToSides_60 rfl (Nat.le_of_ble_eq_true rfl) rfl ?_
    refine Vm.iload_n (n := 63) 6 dX1_squareToSides_62 rfl rfl ?_
    refine Vm.iload (n := 65) 0 dX1_squareToSides_63 rfl rfl ?_
    refine Vm.iload (n := 67) 0 dX1_squareToSides_65 rfl rfl ?_
    refine Vm.imul (n := 68) dX1_squareToSides_67 rfl ?_
    refine Vm.callS (Y := mJ9_min_7cf53) (n := 71) [.inl a3, .inl (x7 * x7)] dX1_squareToSides_68 rfl wv_RX1_53 omJ9_min_7cf53 rfl rfl (Nat.le_of_ble_eq_true rfl) (by decide) (kJ9_min_7cf53 a3 (x7 * x7) rfl) ?_
    replace h := Option.bind_eq_some_iff.mp h
    obtain ⟨x8, e8, h⟩ := h
    replace e8 := Option.some.inj e8
    refine Vm.top e8 ?_
    refine Vm.istore_n (n := 72) (lv' := [(3, .inl x8), (7, .inl x7), (6, .inl x6), (5, .inl x3), (0, .inr (.inr (1, 0))), (1, .inl a1), (2, .inr (.inr (0, a2))), (4, .inl a4)]) dX1_squareToSides_71 rfl (Nat.le_of_ble_eq_true rfl) rfl ?_
    replace h := Option.bind_eq_some_iff.mp h
    obtain ⟨x9, e9, h⟩ := h
    replace e9 := Option.some.inj e9
    refine Vm.iinc (n := 75) (v := x9) (lv' := [(4, .inl x9), (3, .inl x8), (7, .inl x7), (6, .inl x6), (5, .inl x3), (0, .inr (.inr (1, 0))), (1, .inl a1), (2, .inr (.inr (0, a2)))]) 7 dX1_squareToSides_72 rfl rfl e9 (Nat.le_of_ble_eq_true rfl) rfl ?_
    refine Vm.goto 6 dX1_squareToSides_75 rfl ?_
    refine Vm.sub (lv' := [(0, .inr (.inr (1, 0))), (1, .inl a1), (2, .inr (.inr (0, a2))), (3, .inl x8), (4, .inl x9)]) [5, 6, 7, 1, 0] rfl ?_
    obtain rfl := Option.some.inj h
    exact hk
theorem lX1_squareToSides_6_L (a1 : Int32) (a2 : Nat) (ha2 : a2 < 3) (σ σ0 τ : mm) (hσ : σ = σ0) {r : Option mv} {M' : mm × mm} (z : Int32 × Int32) (w9 : Int32) (h : lp (fX1_squareToSides_6_L a1 a2 σ) z = some w9) (hk : (fun q : Int32 => r = some (.inl q) ∧ M' = (σ0, τ)) w9) : Vm mX1_squareToSides 2 6 [(0, .inr (.inr (1, 0))), (1, .inl a1), (2, .inr (.inr (0, a2))), (3, .inl z.1), (4, .inl z.2)] [] (σ, τ) r M' :=
  lp_link (S := Int32 × Int32) (R := Int32) (body := fX1_squareToSides_6_L a1 a2 σ) (A := fun z : Int32 × Int32 => Vm mX1_squareToSides 2 6 [(0, .inr (.inr (1, 0))), (1, .inl a1), (2, .inr (.inr (0, a2))), (3, .inl z.1), (4, .inl z.2)] [] (σ, τ) r M') (B := fun w : Int32 => (fun q : Int32 => r = some (.inl q) ∧ M' = (σ0, τ)) w) (fun z v hb hv => lX1_squareToSides_6 a1 a2 ha2 z.1 z.2 σ σ0 τ hσ hb hv) z w9 h hk
set_option maxRecDepth 20000 in
theorem lX1_squareToSides_0 (a1 : Int32) (a2 : Nat) (ha2 : a2 < 3) (σ σ0 τ : mm) (hσ : σ = σ0) {r : Option mv} {M' : mm × mm} {v9 : Int32} (h : fX1_squareToSides_0 a1 a2 σ = some v9) (hk : (fun q : Int32 => r = some (.inl q) ∧ M' = (σ0, τ)) v9) : Vm mX1_squareToSides 2 0 [(0, .inr (.inr (1, 0))), (1, .inl a1), (2, .inr (.inr (0, a2)))] [] (σ, τ) r M' := by
  unfold fX1_squareToSides_0 at h
  refine Vm.ldc (n := 2) dX1_squareToSides_0 rfl wc_RX1_106 ?_
  refine Vm.istore_n (n := 3) (lv' := [(3, .inl (1000000000 : Int32)), (0, .inr (.inr (1, 0))), (1, .inl a1), (2, .inr (.inr (0, a2)))]) dX1_squareToSides_2 rfl (Nat.le_of_ble_eq_true rfl) rfl ?_
  refine Vm.iconst (n := 4) (v := (0 : Int32)) dX1_squareToSides_3 rfl (by decide) ?_
  refine Vm.istore (n := 6) (lv' := [(4, .inl (0 : Int32)), (3, .inl (1000000000 : Int32)), (0, .inr (.inr (1, 0))), (1, .inl a1), (2, .inr (.inr (0, a2)))]) dX1_squareToSides_4 rfl (Nat.le_of_ble_eq_true rfl) rfl ?_
  refine Vm.sub (lv' := [(0, .inr (.inr (1, 0))), (1, .inl a1), (2, .inr (.inr (0, a2))), (3, .inl (1000000000 : Int32)), (4, .inl (0 : Int32))]) [2, 3, 4, 1, 0] rfl ?_
  exact lX1_squareToSides_6_L a1 a2 (by omega) σ σ0 τ hσ ((1000000000 : Int32), (0 : Int32)) _ h hk
theorem kX1_squareToSides (a1 : Int32) (a2 : Nat) (ha2 : a2 < 3) (σ τ : mm) {q : Int32} (h : fX1_squareToSides a1 a2 σ = some q) : Cx mX1_squareToSides 2 [.inr (.inr (1, 0)), .inl a1, .inr (.inr (0, a2))] (σ, τ) (some (.inl q)) (σ, τ) :=
  Cx.of (lv := [(0, .inr (.inr (1, 0))), (1, .inl a1), (2, .inr (.inr (0, a2)))]) (by decide) (fun ad => Nat.le_of_ble_eq_true rfl) (fun ad => rfl) (lX1_squareToSides_0 a1 a2 ha2 σ σ τ rfl h ⟨rfl, rfl⟩)
-- ThinBodies$Cloud squareBetween (III)I
noncomputable def fX1_squareBetween_6 (a1 : Int32) (a2 : Int32) (a3 : Int32) (a4 : Int32) (a5 : Int32) (σ : mm) : Option ((Int32 × Int32) ⊕ (Int32)) :=
  if a3 ≤ a5 then
  some (.inr (a4))
  else
  Option.bind (fX1_letterAt a1 a5 σ) fun q1 =>
  Option.bind (fX1_letterAt a2 a5 σ) fun q2 =>
  Option.bind (some (q1 - q2)) fun x3 =>
  Option.bind (some (a4 + (x3 * x3))) fun x4 =>
  Option.bind (some (a5 + (1 : Int32))) fun x5 =>
  some (.inl (x4, x5))
noncomputable def fX1_squareBetween_6_L (a1 : Int32) (a2 : Int32) (a3 : Int32) (σ : mm) : Int32 × Int32 → Option ((Int32 × Int32) ⊕ (Int32)) := fun z => fX1_squareBetween_6 a1 a2 a3 z.1 z.2 σ
noncomputable def fX1_squareBetween_0 (a1 : Int32) (a2 : Int32) (a3 : Int32) (σ : mm) : Option (Int32) :=
  lp (fX1_squareBetween_6_L a1 a2 a3 σ) ((0 : Int32), (0 : Int32))
noncomputable def fX1_squareBetween (a1 : Int32) (a2 : Int32) (a3 : Int32) (σ : mm) : Option (Int32) := fX1_squareBetween_0 a1 a2 a3 σ
set_option maxRecDepth 20000 in
theorem lX1_squareBetween_6 (a1 : Int32) (a2 : Int32) (a3 : Int32) (a4 : Int32) (a5 : Int32) (σ σ0 τ : mm) (hσ : σ = σ0) {r : Option mv} {M' : mm × mm} {v9 : (Int32 × Int32) ⊕ (Int32)} (h : fX1_squareBetween_6 a1 a2 a3 a4 a5 σ = some v9) (hk : (Sum.elim (fun z : Int32 × Int32 => Vm mX1_squareBetween 2 6 [(0, .inr (.inr (1, 0))), (1, .inl a1), (2, .inl a2), (3, .inl a3), (4, .inl z.1), (5, .inl z.2)] [] (σ, τ) r M') (fun q : Int32 => r = some (.inl q) ∧ M' = (σ0, τ))) v9) : Vm mX1_squareBetween 2 6 [(0, .inr (.inr (1, 0))), (1, .inl a1), (2, .inl a2), (3, .inl a3), (4, .inl a4), (5, .inl a5)] [] (σ, τ) r M' := by
  unfold fX1_squareBetween_6 at h
  refine Vm.iload (n := 8) 5 dX1_squareBetween_6 rfl rfl ?_
  refine Vm.iload_n (n := 9) 3 dX1_squareBetween_8 rfl rfl ?_
  refine Vm.icmp_ge (n := 12) 45 dX1_squareBetween_9 rfl rfl (fun c9 => ?_) (fun c9 => ?_)
  · replace h := (if_pos c9).symm.trans h
    refine Vm.iload (n := 47) 4 dX1_squareBetween_45 rfl rfl ?_
    obtain rfl := Option.some.inj h
    exact Vm.iret dX1_squareBetween_47 rfl hk.1 (by rw [hσ]; exact hk.2.symm)
  · replace h := (if_neg c9).symm.trans h
    refine Vm.aload_n (n := 13) 0 dX1_squareBetween_12 rfl rfl ?_
    refine Vm.iload_n (n := 14) 1 dX1_squareBetween_13 rfl rfl ?_
    refine Vm.iload (n := 16) 5 dX1_squareBetween_14 rfl rfl ?_
    replace h := Option.bind_eq_some_iff.mp h
    obtain ⟨q1, h1, h⟩ := h
    refine Vm.callV (Y := mX1_letterAt) (n := 19) [.inl a1, .inl a5] dX1_squareBetween_16 rfl wv_RX1_93 omX1_letterAt rfl in_1 rfl rfl rfl (Nat.le_of_ble_eq_true rfl) (by decide) (kX1_letterAt a1 a5 σ τ h1) ?_
    refine Vm.aload_n (n := 20) 0 dX1_squareBetween_19 rfl rfl ?_
    refine Vm.iload_n (n := 21) 2 dX1_squareBetween_20 rfl rfl ?_
    refine Vm.iload (n := 23) 5 dX1_squareBetween_21 rfl rfl ?_
    replace h := Option.bind_eq_some_iff.mp h
    obtain ⟨q2, h2, h⟩ := h
    refine Vm.callV (Y := mX1_letterAt) (n := 26) [.inl a2, .inl a5] dX1_squareBetween_23 rfl wv_RX1_93 omX1_letterAt rfl in_1 rfl rfl rfl (Nat.le_of_ble_eq_true rfl) (by decide) (kX1_letterAt a2 a5 σ τ h2) ?_
    refine Vm.isub (n := 27) dX1_squareBetween_26 rfl ?_
    replace h := Option.bind_eq_some_iff.mp h
    obtain ⟨x3, e3, h⟩ := h
    replace e3 := Option.some.inj e3
    refine Vm.top e3 ?_
    refine Vm.istore (n := 29) (lv' := [(6, .inl x3), (0, .inr (.inr (1, 0))), (1, .inl a1), (2, .inl a2), (3, .inl a3), (4, .inl a4), (5, .inl a5)]) dX1_squareBetween_27 rfl (Nat.le_of_ble_eq_true rfl) rfl ?_
    refine Vm.iload (n := 31) 5 dX1_squareBetween_29 rfl rfl ?_
    refine Vm.iload (n := 33) 0 dX1_squareBetween_31 rfl rfl ?_
    refine Vm.iload (n := 35) 0 dX1_squareBetween_33 rfl rfl ?_
    refine Vm.imul (n := 36) dX1_squareBetween_35 rfl ?_
    refine Vm.iadd (n := 37) dX1_squareBetween_36 rfl ?_
    replace h := Option.bind_eq_some_iff.mp h
    obtain ⟨x4, e4, h⟩ := h
    replace e4 := Option.some.inj e4
    refine Vm.top e4 ?_
    refine Vm.istore (n := 39) (lv' := [(4, .inl x4), (6, .inl x3), (0, .inr (.inr (1, 0))), (1, .inl a1), (2, .inl a2), (3, .inl a3), (5, .inl a5)]) dX1_squareBetween_37 rfl (Nat.le_of_ble_eq_true rfl) rfl ?_
    replace h := Option.bind_eq_some_iff.mp h
    obtain ⟨x5, e5, h⟩ := h
    replace e5 := Option.some.inj e5
    refine Vm.iinc (n := 42) (v := x5) (lv' := [(5, .inl x5), (4, .inl x4), (6, .inl x3), (0, .inr (.inr (1, 0))), (1, .inl a1), (2, .inl a2), (3, .inl a3)]) 6 dX1_squareBetween_39 rfl rfl e5 (Nat.le_of_ble_eq_true rfl) rfl ?_
    refine Vm.goto 6 dX1_squareBetween_42 rfl ?_
    refine Vm.sub (lv' := [(0, .inr (.inr (1, 0))), (1, .inl a1), (2, .inl a2), (3, .inl a3), (4, .inl x4), (5, .inl x5)]) [3, 4, 5, 6, 1, 0] rfl ?_
    obtain rfl := Option.some.inj h
    exact hk
theorem lX1_squareBetween_6_L (a1 : Int32) (a2 : Int32) (a3 : Int32) (σ σ0 τ : mm) (hσ : σ = σ0) {r : Option mv} {M' : mm × mm} (z : Int32 × Int32) (w9 : Int32) (h : lp (fX1_squareBetween_6_L a1 a2 a3 σ) z = some w9) (hk : (fun q : Int32 => r = some (.inl q) ∧ M' = (σ0, τ)) w9) : Vm mX1_squareBetween 2 6 [(0, .inr (.inr (1, 0))), (1, .inl a1), (2, .inl a2), (3, .inl a3), (4, .inl z.1), (5, .inl z.2)] [] (σ, τ) r M' :=
  lp_link (S := Int32 × Int32) (R := Int32) (body := fX1_squareBetween_6_L a1 a2 a3 σ) (A := fun z : Int32 × Int32 => Vm mX1_squareBetween 2 6 [(0, .inr (.inr (1, 0))), (1, .inl a1), (2, .inl a2), (3, .inl a3), (4, .inl z.1), (5, .inl z.2)] [] (σ, τ) r M') (B := fun w : Int32 => (fun q : Int32 => r = some (.inl q) ∧ M' = (σ0, τ)) w) (fun z v hb hv => lX1_squareBetween_6 a1 a2 a3 z.1 z.2 σ σ0 τ hσ hb hv) z w9 h hk
set_option maxRecDepth 20000 in
theorem lX1_squareBetween_0 (a1 : Int32) (a2 : Int32) (a3 : Int32) (σ σ0 τ : mm) (hσ : σ = σ0) {r : Option mv} {M' : mm × mm} {v9 : Int32} (h : fX1_squareBetween_0 a1 a2 a3 σ = some v9) (hk : (fun q : Int32 => r = some (.inl q) ∧ M' = (σ0, τ)) v9) : Vm mX1_squareBetween 2 0 [(0, .inr (.inr (1, 0))), (1, .inl a1), (2, .inl a2), (3, .inl a3)] [] (σ, τ) r M' := by
  unfold fX1_squareBetween_0 at h
  refine Vm.iconst (n := 1) (v := (0 : Int32)) dX1_squareBetween_0 rfl (by decide) ?_
  refine Vm.istore (n := 3) (lv' := [(4, .inl (0 : Int32)), (0, .inr (.inr (1, 0))), (1, .inl a1), (2, .inl a2), (3, .inl a3)]) dX1_squareBetween_1 rfl (Nat.le_of_ble_eq_true rfl) rfl ?_
  refine Vm.iconst (n := 4) (v := (0 : Int32)) dX1_squareBetween_3 rfl (by decide) ?_
  refine Vm.istore (n := 6) (lv' := [(5, .inl (0 : Int32)), (4, .inl (0 : Int32)), (0, .inr (.inr (1, 0))), (1, .inl a1), (2, .inl a2), (3, .inl a3)]) dX1_squareBetween_4 rfl (Nat.le_of_ble_eq_true rfl) rfl ?_
  refine Vm.sub (lv' := [(0, .inr (.inr (1, 0))), (1, .inl a1), (2, .inl a2), (3, .inl a3), (4, .inl (0 : Int32)), (5, .inl (0 : Int32))]) [2, 3, 4, 5, 1, 0] rfl ?_
  exact lX1_squareBetween_6_L a1 a2 a3 σ σ0 τ hσ ((0 : Int32), (0 : Int32)) _ h hk
theorem kX1_squareBetween (a1 : Int32) (a2 : Int32) (a3 : Int32) (σ τ : mm) {q : Int32} (h : fX1_squareBetween a1 a2 a3 σ = some q) : Cx mX1_squareBetween 2 [.inr (.inr (1, 0)), .inl a1, .inl a2, .inl a3] (σ, τ) (some (.inl q)) (σ, τ) :=
  Cx.of (lv := [(0, .inr (.inr (1, 0))), (1, .inl a1), (2, .inl a2), (3, .inl a3)]) (by decide) (fun ad => Nat.le_of_ble_eq_true rfl) (fun ad => rfl) (lX1_squareBetween_0 a1 a2 a3 σ σ τ rfl h ⟨rfl, rfl⟩)
-- ThinBodies$Cloud squareToBroken (II)I
noncomputable def fX1_squareToBroken_37 (a1 : Int32) (a2 : Int32) (a3 : Int32) (a4 : Int32) (σ : mm) : Option ((Int32 × Int32) ⊕ (Int32)) :=
  Option.bind (some (a4 + (1 : Int32))) fun x1 =>
  some (.inl (a3, x1))
noncomputable def fX1_squareToBroken_6 (a1 : Int32) (a2 : Int32) (a3 : Int32) (a4 : Int32) (σ : mm) : Option ((Int32 × Int32) ⊕ (Int32)) :=
  if (σ.1 1 0 1) ≤ a4 then
  some (.inr (a3))
  else
  Option.bind (fX1_isIn a4 σ) fun q1 =>
  if (bi q1) = (0 : Int32) then
  Option.bind (fX1_squareBetween a1 a4 a2 σ) fun q2 =>
  Option.bind (some ((fJ9_min_7cf53 a3 q2))) fun x3 =>
  fX1_squareToBroken_37 a1 a2 x3 a4 σ
  else
  fX1_squareToBroken_37 a1 a2 a3 a4 σ
noncomputable def fX1_squareToBroken_6_L (a1 : Int32) (a2 : Int32) (σ : mm) : Int32 × Int32 → Option ((Int32 × Int32) ⊕ (Int32)) := fun z => fX1_squareToBroken_6 a1 a2 z.1 z.2 σ
noncomputable def fX1_squareToBroken_0 (a1 : Int32) (a2 : Int32) (σ : mm) : Option (Int32) :=
  lp (fX1_squareToBroken_6_L a1 a2 σ) ((1000000000 : Int32), (0 : Int32))
noncomputable def fX1_squareToBroken (a1 : Int32) (a2 : Int32) (σ : mm) : Option (Int32) := fX1_squareToBroken_0 a1 a2 σ
set_option maxRecDepth 20000 in
theorem lX1_squareToBroken_37 (a1 : Int32) (a2 : Int32) (a3 : Int32) (a4 : Int32) (σ σ0 τ : mm) (hσ : σ = σ0) {r : Option mv} {M' : mm × mm} {v9 : (Int32 × Int32) ⊕ (Int32)} (h : fX1_squareToBroken_37 a1 a2 a3 a4 σ = some v9) (hk : (Sum.elim (fun z : Int32 × Int32 => Vm mX1_squareToBroken 3 6 [(0, .inr (.inr (1, 0))), (1, .inl a1), (2, .inl a2), (3, .inl z.1), (4, .inl z.2)] [] (σ, τ) r M') (fun q : Int32 => r = some (.inl q) ∧ M' = (σ0, τ))) v9) : Vm mX1_squareToBroken 3 37 [(0, .inr (.inr (1, 0))), (1, .inl a1), (2, .inl a2), (3, .inl a3), (4, .inl a4)] [] (σ, τ) r M' := by
  unfold fX1_squareToBroken_37 at h
  replace h := Option.bind_eq_some_iff.mp h
  obtain ⟨x1, e1, h⟩ := h
  replace e1 := Option.some.inj e1
  refine Vm.iinc (n := 40) (v := x1) (lv' := [(4, .inl x1), (0, .inr (.inr (1, 0))), (1, .inl a1), (2, .inl a2), (3, .inl a3)]) 4 dX1_squareToBroken_37 rfl rfl e1 (Nat.le_of_ble_eq_true rfl) rfl ?_
  refine Vm.goto 6 dX1_squareToBroken_40 rfl ?_
  refine Vm.sub (lv' := [(0, .inr (.inr (1, 0))), (1, .inl a1), (2, .inl a2), (3, .inl a3), (4, .inl x1)]) [1, 2, 3, 4, 0] rfl ?_
  obtain rfl := Option.some.inj h
  exact hk
set_option maxRecDepth 20000 in
theorem lX1_squareToBroken_6 (a1 : Int32) (a2 : Int32) (a3 : Int32) (a4 : Int32) (σ σ0 τ : mm) (hσ : σ = σ0) {r : Option mv} {M' : mm × mm} {v9 : (Int32 × Int32) ⊕ (Int32)} (h : fX1_squareToBroken_6 a1 a2 a3 a4 σ = some v9) (hk : (Sum.elim (fun z : Int32 × Int32 => Vm mX1_squareToBroken 3 6 [(0, .inr (.inr (1, 0))), (1, .inl a1), (2, .inl a2), (3, .inl z.1), (4, .inl z.2)] [] (σ, τ) r M') (fun q : Int32 => r = some (.inl q) ∧ M' = (σ0, τ))) v9) : Vm mX1_squareToBroken 3 6 [(0, .inr (.inr (1, 0))), (1, .inl a1), (2, .inl a2), (3, .inl a3), (4, .inl a4)] [] (σ, τ) r M' := by
  unfold fX1_squareToBroken_6 at h
  refine Vm.iload (n := 8) 4 dX1_squareToBroken_6 rfl rfl ?_
  refine Vm.aload_n (n := 9) 0 dX1_squareToBroken_8 rfl rfl ?_
  refine Vm.gX (n := 12) dX1_squareToBroken_9 rfl wf_RX1_15 in_1 rfl (by decide) rfl (by decide) ?_
  refine Vm.icmp_ge (n := 15) 43 dX1_squareToBroken_12 rfl rfl (fun c9 => ?_) (fun c9 => ?_)
  · replace h := (if_pos c9).symm.trans h
    refine Vm.iload_n (n := 44) 3 dX1_squareToBroken_43 rfl rfl ?_
    obtain rfl := Option.some.inj h
    exact Vm.iret dX1_squareToBroken_44 rfl hk.1 (by rw [hσ]; exact hk.2.symm)
  · replace h := (if_neg c9).symm.trans h
    refine Vm.aload_n (n := 16) 0 dX1_squareToBroken_15 rfl rfl ?_
    refine Vm.iload (n := 18) 4 dX1_squareToBroken_16 rfl rfl ?_
    replace h := Option.bind_eq_some_iff.mp h
    obtain ⟨q1, h1, h⟩ := h
    refine Vm.callV (Y := mX1_isIn) (n := 21) [.inl a4] dX1_squareToBroken_18 rfl wv_RX1_96 omX1_isIn rfl in_1 rfl rfl rfl (Nat.le_of_ble_eq_true rfl) (by decide) (kX1_isIn a4 σ τ h1) ?_
    refine Vm.if_ne (n := 24) 37 dX1_squareToBroken_21 rfl rfl (fun c9 => ?_) (fun c9 => ?_)
    · replace h := (if_neg c9).symm.trans h
      exact lX1_squareToBroken_37 a1 a2 a3 a4 σ σ0 τ hσ h hk
    · replace h := (if_pos c9).symm.trans h
      refine Vm.iload_n (n := 25) 3 dX1_squareToBroken_24 rfl rfl ?_
      refine Vm.aload_n (n := 26) 0 dX1_squareToBroken_25 rfl rfl ?_
      refine Vm.iload_n (n := 27) 1 dX1_squareToBroken_26 rfl rfl ?_
      refine Vm.iload (n := 29) 4 dX1_squareToBroken_27 rfl rfl ?_
      refine Vm.iload_n (n := 30) 2 dX1_squareToBroken_29 rfl rfl ?_
      replace h := Option.bind_eq_some_iff.mp h
      obtain ⟨q2, h2, h⟩ := h
      refine Vm.callV (Y := mX1_squareBetween) (n := 33) [.inl a1, .inl a4, .inl a2] dX1_squareToBroken_30 rfl wv_RX1_111 omX1_squareBetween rfl in_1 rfl rfl rfl (Nat.le_of_ble_eq_true rfl) (by decide) (kX1_squareBetween a1 a4 a2 σ τ h2) ?_
      refine Vm.callS (Y := mJ9_min_7cf53) (n := 36) [.inl a3, .inl q2] dX1_squareToBroken_33 rfl wv_RX1_53 omJ9_min_7cf53 rfl rfl (Nat.le_of_ble_eq_true rfl) (by decide) (kJ9_min_7cf53 a3 q2 rfl) ?_
      replace h := Option.bind_eq_some_iff.mp h
      obtain ⟨x3, e3, h⟩ := h
      replace e3 := Option.some.inj e3
      refine Vm.top e3 ?_
      refine Vm.istore_n (n := 37) (lv' := [(3, .inl x3), (0, .inr (.inr (1, 0))), (1, .inl a1), (2, .inl a2), (4, .inl a4)]) dX1_squareToBroken_36 rfl (Nat.le_of_ble_eq_true rfl) rfl ?_
      refine Vm.sub (lv' := [(0, .inr (.inr (1, 0))), (1, .inl a1), (2, .inl a2), (3, .inl x3), (4, .inl a4)]) [1, 2, 3, 0, 4] rfl ?_
      exact lX1_squareToBroken_37 a1 a2 x3 a4 σ σ0 τ hσ h hk
theorem lX1_squareToBroken_6_L (a1 : Int32) (a2 : Int32) (σ σ0 τ : mm) (hσ : σ = σ0) {r : Option mv} {M' : mm × mm} (z : Int32 × Int32) (w9 : Int32) (h : lp (fX1_squareToBroken_6_L a1 a2 σ) z = some w9) (hk : (fun q : Int32 => r = some (.inl q) ∧ M' = (σ0, τ)) w9) : Vm mX1_squareToBroken 3 6 [(0, .inr (.inr (1, 0))), (1, .inl a1), (2, .inl a2), (3, .inl z.1), (4, .inl z.2)] [] (σ, τ) r M' :=
  lp_link (S := Int32 × Int32) (R := Int32) (body := fX1_squareToBroken_6_L a1 a2 σ) (A := fun z : Int32 × Int32 => Vm mX1_squareToBroken 3 6 [(0, .inr (.inr (1, 0))), (1, .inl a1), (2, .inl a2), (3, .inl z.1), (4, .inl z.2)] [] (σ, τ) r M') (B := fun w : Int32 => (fun q : Int32 => r = some (.inl q) ∧ M' = (σ0, τ)) w) (fun z v hb hv => lX1_squareToBroken_6 a1 a2 z.1 z.2 σ σ0 τ hσ hb hv) z w9 h hk
set_option maxRecDepth 20000 in
theorem lX1_squareToBroken_0 (a1 : Int32) (a2 : Int32) (σ σ0 τ : mm) (hσ : σ = σ0) {r : Option mv} {M' : mm × mm} {v9 : Int32} (h : fX1_squareToBroken_0 a1 a2 σ = some v9) (hk : (fun q : Int32 => r = some (.inl q) ∧ M' = (σ0, τ)) v9) : Vm mX1_squareToBroken 3 0 [(0, .inr (.inr (1, 0))), (1, .inl a1), (2, .inl a2)] [] (σ, τ) r M' := by
  unfold fX1_squareToBroken_0 at h
  refine Vm.ldc (n := 2) dX1_squareToBroken_0 rfl wc_RX1_106 ?_
  refine Vm.istore_n (n := 3) (lv' := [(3, .inl (1000000000 : Int32)), (0, .inr (.inr (1, 0))), (1, .inl a1), (2, .inl a2)]) dX1_squareToBroken_2 rfl (Nat.le_of_ble_eq_true rfl) rfl ?_
  refine Vm.iconst (n := 4) (v := (0 : Int32)) dX1_squareToBroken_3 rfl (by decide) ?_
  refine Vm.istore (n := 6) (lv' := [(4, .inl (0 : Int32)), (3, .inl (1000000000 : Int32)), (0, .inr (.inr (1, 0))), (1, .inl a1), (2, .inl a2)]) dX1_squareToBroken_4 rfl (Nat.le_of_ble_eq_true rfl) rfl ?_
  refine Vm.sub (lv' := [(0, .inr (.inr (1, 0))), (1, .inl a1), (2, .inl a2), (3, .inl (1000000000 : Int32)), (4, .inl (0 : Int32))]) [2, 3, 4, 1, 0] rfl ?_
  exact lX1_squareToBroken_6_L a1 a2 σ σ0 τ hσ ((1000000000 : Int32), (0 : Int32)) _ h hk
theorem kX1_squareToBroken (a1 : Int32) (a2 : Int32) (σ τ : mm) {q : Int32} (h : fX1_squareToBroken a1 a2 σ = some q) : Cx mX1_squareToBroken 3 [.inr (.inr (1, 0)), .inl a1, .inl a2] (σ, τ) (some (.inl q)) (σ, τ) :=
  Cx.of (lv := [(0, .inr (.inr (1, 0))), (1, .inl a1), (2, .inl a2)]) (by decide) (fun ad => Nat.le_of_ble_eq_true rfl) (fun ad => rfl) (lX1_squareToBroken_0 a1 a2 σ σ τ rfl h ⟨rfl, rfl⟩)
-- ThinBodies round (I)I
noncomputable def fX7_round_0 (a1 : Int32) (σ : mm) : Option (Int32 × mm) :=
  Option.bind (fX1_refresh 0 σ) fun q1 =>
  Option.bind (fX1_placeOf a1 q1) fun q2 =>
  if (0 : Int32) ≤ q2 then
  Option.bind (fX1_squareToSides q2 0 q1) fun q3 =>
  Option.bind (fX1_squareToBroken q2 (q1.1 0 0 0) q1) fun q4 =>
  some (((fJ9_min_7cf53 q3 q4), q1))
  else
  Option.bind (fX7_finding (3 : Int32) q1) fun q5 =>
  some ((q5.1, q5.2))
noncomputable def fX7_round (a1 : Int32) (σ : mm) : Option (Int32 × mm) := fX7_round_0 a1 σ
set_option maxRecDepth 20000 in
theorem lX7_round_0 (a1 : Int32) (σ τ : mm) {r : Option mv} {M' : mm × mm} {v9 : Int32 × mm} (h : fX7_round_0 a1 σ = some v9) (hk : (fun q : Int32 × mm => r = some (.inl q.1) ∧ M' = (q.2, τ)) v9) : Vm mX7_round 5 0 [(0, .inr (.inr (7, 0))), (1, .inl a1)] [] (σ, τ) r M' := by
  unfold fX7_round_0 at h
  refine Vm.aload_n (n := 1) 0 dX7_round_0 rfl rfl ?_
  refine Vm.getR (n := 4) dX7_round_1 rfl wf_RX7_29 in_7 rfl (by decide) rfl ?_
  refine Vm.aload_n (n := 5) 0 dX7_round_4 rfl rfl ?_
  refine Vm.getR (n := 8) dX7_round_5 rfl wf_RX7_12 in_7 rfl (by decide) rfl ?_
  replace h := Option.bind_eq_some_iff.mp h
  obtain ⟨q1, h1, h⟩ := h
  refine Vm.callVv (Y := mX1_refresh) (n := 11) [.inr (.inr (0, 0))] dX7_round_8 rfl wv_RX7_154 omX1_refresh rfl in_1 rfl rfl rfl (Nat.le_of_ble_eq_true rfl) (by decide) (kX1_refresh 0 (by decide) σ τ h1) ?_
  refine Vm.aload_n (n := 12) 0 dX7_round_11 rfl rfl ?_
  refine Vm.getR (n := 15) dX7_round_12 rfl wf_RX7_29 in_7 rfl (by decide) rfl ?_
  refine Vm.iload_n (n := 16) 1 dX7_round_15 rfl rfl ?_
  replace h := Option.bind_eq_some_iff.mp h
  obtain ⟨q2, h2, h⟩ := h
  refine Vm.callV (Y := mX1_placeOf) (n := 19) [.inl a1] dX7_round_16 rfl wv_RX7_161 omX1_placeOf rfl in_1 rfl rfl rfl (Nat.le_of_ble_eq_true rfl) (by decide) (kX1_placeOf a1 q1 τ h2) ?_
  refine Vm.istore_n (n := 20) (lv' := [(2, .inl q2), (0, .inr (.inr (7, 0))), (1, .inl a1)]) dX7_round_19 rfl (Nat.le_of_ble_eq_true rfl) rfl ?_
  refine Vm.iload_n (n := 21) 0 dX7_round_20 rfl rfl ?_
  refine Vm.if_ge (n := 24) 30 dX7_round_21 rfl rfl (fun c9 => ?_) (fun c9 => ?_)
  · replace h := (if_pos c9).symm.trans h
    refine Vm.aload_n (n := 31) 1 dX7_round_30 rfl rfl ?_
    refine Vm.getR (n := 34) dX7_round_31 rfl wf_RX7_29 in_7 rfl (by decide) rfl ?_
    refine Vm.iload_n (n := 35) 0 dX7_round_34 rfl rfl ?_
    refine Vm.aload_n (n := 36) 1 dX7_round_35 rfl rfl ?_
    refine Vm.getR (n := 39) dX7_round_36 rfl wf_RX7_12 in_7 rfl (by decide) rfl ?_
    replace h := Option.bind_eq_some_iff.mp h
    obtain ⟨q3, h3, h⟩ := h
    refine Vm.callV (Y := mX1_squareToSides) (n := 42) [.inl q2, .inr (.inr (0, 0))] dX7_round_39 rfl wv_RX7_218 omX1_squareToSides rfl in_1 rfl rfl rfl (Nat.le_of_ble_eq_true rfl) (by decide) (kX1_squareToSides q2 0 (by decide) q1 τ h3) ?_
    refine Vm.istore_n (n := 43) (lv' := [(3, .inl q3), (2, .inl q2), (0, .inr (.inr (7, 0))), (1, .inl a1)]) dX7_round_42 rfl (Nat.le_of_ble_eq_true rfl) rfl ?_
    refine Vm.aload_n (n := 44) 2 dX7_round_43 rfl rfl ?_
    refine Vm.getR (n := 47) dX7_round_44 rfl wf_RX7_29 in_7 rfl (by decide) rfl ?_
    refine Vm.iload_n (n := 48) 1 dX7_round_47 rfl rfl ?_
    refine Vm.aload_n (n := 49) 2 dX7_round_48 rfl rfl ?_
    refine Vm.getR (n := 52) dX7_round_49 rfl wf_RX7_12 in_7 rfl (by decide) rfl ?_
    refine Vm.gX (n := 55) dX7_round_52 rfl wf_RX7_75 (ink ik_0 (by decide)) rfl (by decide) rfl (by decide) ?_
    replace h := Option.bind_eq_some_iff.mp h
    obtain ⟨q4, h4, h⟩ := h
    refine Vm.callV (Y := mX1_squareToBroken) (n := 58) [.inl q2, .inl (q1.1 0 0 0)] dX7_round_55 rfl wv_RX7_222 omX1_squareToBroken rfl in_1 rfl rfl rfl (Nat.le_of_ble_eq_true rfl) (by decide) (kX1_squareToBroken q2 (q1.1 0 0 0) q1 τ h4) ?_
    refine Vm.istore (n := 60) (lv' := [(4, .inl q4), (3, .inl q3), (2, .inl q2), (0, .inr (.inr (7, 0))), (1, .inl a1)]) dX7_round_58 rfl (Nat.le_of_ble_eq_true rfl) rfl ?_
    refine Vm.iload_n (n := 61) 1 dX7_round_60 rfl rfl ?_
    refine Vm.iload (n := 63) 0 dX7_round_61 rfl rfl ?_
    refine Vm.callS (Y := mJ9_min_7cf53) (n := 66) [.inl q3, .inl q4] dX7_round_63 rfl wv_RX7_225 omJ9_min_7cf53 rfl rfl (Nat.le_of_ble_eq_true rfl) (by decide) (kJ9_min_7cf53 q3 q4 rfl) ?_
    obtain rfl := Option.some.inj h
    exact Vm.iret dX7_round_66 rfl hk.1 hk.2.symm
  · replace h := (if_neg c9).symm.trans h
    refine Vm.aload_n (n := 25) 1 dX7_round_24 rfl rfl ?_
    refine Vm.iconst (n := 26) (v := (3 : Int32)) dX7_round_25 rfl (by decide) ?_
    replace h := Option.bind_eq_some_iff.mp h
    obtain ⟨q5, h5, h⟩ := h
    refine Vm.callV (Y := mX7_finding) (n := 29) [.inl (3 : Int32)] dX7_round_26 rfl wv_RX7_68 omX7_finding rfl in_7 rfl rfl rfl (Nat.le_of_ble_eq_true rfl) (by decide) (kX7_finding (3 : Int32) q1 τ h5) ?_
    obtain rfl := Option.some.inj h
    exact Vm.iret dX7_round_29 rfl hk.1 hk.2.symm
theorem kX7_round (a1 : Int32) (σ τ : mm) {q : Int32 × mm} (h : fX7_round a1 σ = some q) : Cx mX7_round 5 [.inr (.inr (7, 0)), .inl a1] (σ, τ) (some (.inl q.1)) (q.2, τ) :=
  Cx.of (lv := [(0, .inr (.inr (7, 0))), (1, .inl a1)]) (by decide) (fun ad => Nat.le_of_ble_eq_true rfl) (fun ad => rfl) (lX7_round_0 a1 σ τ h ⟨rfl, rfl⟩)
-- ThinBodies$Row leastIn ([I[II)I
noncomputable def fX4_leastIn_15_16_42 (a0 : Nat) (a3 : Int32) (a5 : Int32) (s0 : Int32) (s1 : Int32) (s2 : Int32) (σ : mm) : Option ((Int32 × Int32) ⊕ (Int32)) :=
  Option.bind (some (s0 + (s1 * s2))) fun x1 =>
  Option.bind (some (a5 + (1 : Int32))) fun x2 =>
  some (.inl (x1, x2))
noncomputable def fX4_leastIn_15_16_6 (a0 : Nat) (a3 : Int32) (a4 : Int32) (a5 : Int32) (σ : mm) : Option ((Int32 × Int32) ⊕ (Int32)) :=
  if a3 ≤ a5 then
  some (.inr (a4))
  else
  Option.bind (rdI σ 10 a0 4 a5) fun x1 =>
  Option.bind (rdI σ 10 a0 4 a5) fun x2 =>
  if x2 ≤ (0 : Int32) then
  Option.bind (rdI σ 16 0 4 a5) fun x3 =>
  fX4_leastIn_15_16_42 a0 a3 a5 a4 x1 x3 σ
  else
  Option.bind (rdI σ 15 0 4 a5) fun x4 =>
  fX4_leastIn_15_16_42 a0 a3 a5 a4 x1 x4 σ
noncomputable def fX4_leastIn_15_16_6_L (a0 : Nat) (a3 : Int32) (σ : mm) : Int32 × Int32 → Option ((Int32 × Int32) ⊕ (Int32)) := fun z => fX4_leastIn_15_16_6 a0 a3 z.1 z.2 σ
noncomputable def fX4_leastIn_15_16_0 (a0 : Nat) (a3 : Int32) (σ : mm) : Option (Int32) :=
  lp (fX4_leastIn_15_16_6_L a0 a3 σ) ((0 : Int32), (0 : Int32))
noncomputable def fX4_leastIn_15_16 (a0 : Nat) (a3 : Int32) (σ : mm) : Option (Int32) := fX4_leastIn_15_16_0 a0 a3 σ
set_option maxRecDepth 20000 in
theorem lX4_leastIn_15_16_42 (a0 : Nat) (ha0 : a0 < 24) (a3 : Int32) (a5 : Int32) (s0 : Int32) (s1 : Int32) (s2 : Int32) (σ σ0 τ : mm) (hσ : σ = σ0) {r : Option mv} {M' : mm × mm} {v9 : (Int32 × Int32) ⊕ (Int32)} (h : fX4_leastIn_15_16_42 a0 a3 a5 s0 s1 s2 σ = some v9) (hk : (Sum.elim (fun z : Int32 × Int32 => Vm mX4_leastIn 0 6 [(0, .inr (.inr (4, a0))), (1, .inr (.inr (15, 0))), (2, .inr (.inr (16, 0))), (3, .inl a3), (4, .inl z.1), (5, .inl z.2)] [] (σ, τ) r M') (fun q : Int32 => r = some (.inl q) ∧ M' = (σ0, τ))) v9) : Vm mX4_leastIn 0 42 [(0, .inr (.inr (4, a0))), (1, .inr (.inr (15, 0))), (2, .inr (.inr (16, 0))), (3, .inl a3), (5, .inl a5)] [.inl s2, .inl s1, .inl s0] (σ, τ) r M' := by
  unfold fX4_leastIn_15_16_42 at h
  refine Vm.imul (n := 43) dX4_leastIn_42 rfl ?_
  refine Vm.iadd (n := 44) dX4_leastIn_43 rfl ?_
  replace h := Option.bind_eq_some_iff.mp h
  obtain ⟨x1, e1, h⟩ := h
  replace e1 := Option.some.inj e1
  refine Vm.top e1 ?_
  refine Vm.istore (n := 46) (lv' := [(4, .inl x1), (0, .inr (.inr (4, a0))), (1, .inr (.inr (15, 0))), (2, .inr (.inr (16, 0))), (3, .inl a3), (5, .inl a5)]) dX4_leastIn_44 rfl (Nat.le_of_ble_eq_true rfl) rfl ?_
  replace h := Option.bind_eq_some_iff.mp h
  obtain ⟨x2, e2, h⟩ := h
  replace e2 := Option.some.inj e2
  refine Vm.iinc (n := 49) (v := x2) (lv' := [(5, .inl x2), (4, .inl x1), (0, .inr (.inr (4, a0))), (1, .inr (.inr (15, 0))), (2, .inr (.inr (16, 0))), (3, .inl a3)]) 5 dX4_leastIn_46 rfl rfl e2 (Nat.le_of_ble_eq_true rfl) rfl ?_
  refine Vm.goto 6 dX4_leastIn_49 rfl ?_
  refine Vm.sub (lv' := [(0, .inr (.inr (4, a0))), (1, .inr (.inr (15, 0))), (2, .inr (.inr (16, 0))), (3, .inl a3), (4, .inl x1), (5, .inl x2)]) [2, 3, 4, 5, 1, 0] rfl ?_
  obtain rfl := Option.some.inj h
  exact hk
set_option maxRecDepth 20000 in
theorem lX4_leastIn_15_16_6 (a0 : Nat) (ha0 : a0 < 24) (a3 : Int32) (a4 : Int32) (a5 : Int32) (σ σ0 τ : mm) (hσ : σ = σ0) {r : Option mv} {M' : mm × mm} {v9 : (Int32 × Int32) ⊕ (Int32)} (h : fX4_leastIn_15_16_6 a0 a3 a4 a5 σ = some v9) (hk : (Sum.elim (fun z : Int32 × Int32 => Vm mX4_leastIn 0 6 [(0, .inr (.inr (4, a0))), (1, .inr (.inr (15, 0))), (2, .inr (.inr (16, 0))), (3, .inl a3), (4, .inl z.1), (5, .inl z.2)] [] (σ, τ) r M') (fun q : Int32 => r = some (.inl q) ∧ M' = (σ0, τ))) v9) : Vm mX4_leastIn 0 6 [(0, .inr (.inr (4, a0))), (1, .inr (.inr (15, 0))), (2, .inr (.inr (16, 0))), (3, .inl a3), (4, .inl a4), (5, .inl a5)] [] (σ, τ) r M' := by
  unfold fX4_leastIn_15_16_6 at h
  refine Vm.iload (n := 8) 5 dX4_leastIn_6 rfl rfl ?_
  refine Vm.iload_n (n := 9) 3 dX4_leastIn_8 rfl rfl ?_
  refine Vm.icmp_ge (n := 12) 52 dX4_leastIn_9 rfl rfl (fun c9 => ?_) (fun c9 => ?_)
  · replace h := (if_pos c9).symm.trans h
    refine Vm.iload (n := 54) 4 dX4_leastIn_52 rfl rfl ?_
    obtain rfl := Option.some.inj h
    exact Vm.iret dX4_leastIn_54 rfl hk.1 (by rw [hσ]; exact hk.2.symm)
  · replace h := (if_neg c9).symm.trans h
    refine Vm.iload (n := 14) 4 dX4_leastIn_12 rfl rfl ?_
    refine Vm.aload_n (n := 15) 0 dX4_leastIn_14 rfl rfl ?_
    refine Vm.getR (n := 18) dX4_leastIn_15 rfl wf_RX4_21 (ink ik_4 (by omega)) rfl (by decide) rfl ?_
    refine Vm.iload (n := 20) 5 dX4_leastIn_18 rfl rfl ?_
    replace h := Option.bind_eq_some_iff.mp h
    obtain ⟨x1, h1, h⟩ := h
    refine Vm.ialdx (n := 21) dX4_leastIn_20 rfl (ink ik_10 (by omega)) rfl rfl (by decide) h1 ?_
    refine Vm.aload_n (n := 22) 0 dX4_leastIn_21 rfl rfl ?_
    refine Vm.getR (n := 25) dX4_leastIn_22 rfl wf_RX4_21 (ink ik_4 (by omega)) rfl (by decide) rfl ?_
    refine Vm.iload (n := 27) 5 dX4_leastIn_25 rfl rfl ?_
    replace h := Option.bind_eq_some_iff.mp h
    obtain ⟨x2, h2, h⟩ := h
    refine Vm.ialdx (n := 28) dX4_leastIn_27 rfl (ink ik_10 (by omega)) rfl rfl (by decide) h2 ?_
    refine Vm.if_le (n := 31) 38 dX4_leastIn_28 rfl rfl (fun c9 => ?_) (fun c9 => ?_)
    · replace h := (if_pos c9).symm.trans h
      refine Vm.aload_n (n := 39) 2 dX4_leastIn_38 rfl rfl ?_
      refine Vm.iload (n := 41) 5 dX4_leastIn_39 rfl rfl ?_
      replace h := Option.bind_eq_some_iff.mp h
      obtain ⟨x3, h3, h⟩ := h
      refine Vm.ialdx (n := 42) dX4_leastIn_41 rfl in_16 rfl rfl (by decide) h3 ?_
      refine Vm.sub (lv' := [(0, .inr (.inr (4, a0))), (1, .inr (.inr (15, 0))), (2, .inr (.inr (16, 0))), (3, .inl a3), (5, .inl a5)]) [0, 1, 2, 3, 5] rfl ?_
      exact lX4_leastIn_15_16_42 a0 (by omega) a3 a5 a4 x1 x3 σ σ0 τ hσ h hk
    · replace h := (if_neg c9).symm.trans h
      refine Vm.aload_n (n := 32) 1 dX4_leastIn_31 rfl rfl ?_
      refine Vm.iload (n := 34) 5 dX4_leastIn_32 rfl rfl ?_
      replace h := Option.bind_eq_some_iff.mp h
      obtain ⟨x4, h4, h⟩ := h
      refine Vm.ialdx (n := 35) dX4_leastIn_34 rfl in_15 rfl rfl (by decide) h4 ?_
      refine Vm.goto 42 dX4_leastIn_35 rfl ?_
      refine Vm.sub (lv' := [(0, .inr (.inr (4, a0))), (1, .inr (.inr (15, 0))), (2, .inr (.inr (16, 0))), (3, .inl a3), (5, .inl a5)]) [0, 1, 2, 3, 5] rfl ?_
      exact lX4_leastIn_15_16_42 a0 (by omega) a3 a5 a4 x1 x4 σ σ0 τ hσ h hk
theorem lX4_leastIn_15_16_6_L (a0 : Nat) (ha0 : a0 < 24) (a3 : Int32) (σ σ0 τ : mm) (hσ : σ = σ0) {r : Option mv} {M' : mm × mm} (z : Int32 × Int32) (w9 : Int32) (h : lp (fX4_leastIn_15_16_6_L a0 a3 σ) z = some w9) (hk : (fun q : Int32 => r = some (.inl q) ∧ M' = (σ0, τ)) w9) : Vm mX4_leastIn 0 6 [(0, .inr (.inr (4, a0))), (1, .inr (.inr (15, 0))), (2, .inr (.inr (16, 0))), (3, .inl a3), (4, .inl z.1), (5, .inl z.2)] [] (σ, τ) r M' :=
  lp_link (S := Int32 × Int32) (R := Int32) (body := fX4_leastIn_15_16_6_L a0 a3 σ) (A := fun z : Int32 × Int32 => Vm mX4_leastIn 0 6 [(0, .inr (.inr (4, a0))), (1, .inr (.inr (15, 0))), (2, .inr (.inr (16, 0))), (3, .inl a3), (4, .inl z.1), (5, .inl z.2)] [] (σ, τ) r M') (B := fun w : Int32 => (fun q : Int32 => r = some (.inl q) ∧ M' = (σ0, τ)) w) (fun z v hb hv => lX4_leastIn_15_16_6 a0 ha0 a3 z.1 z.2 σ σ0 τ hσ hb hv) z w9 h hk
set_option maxRecDepth 20000 in
theorem lX4_leastIn_15_16_0 (a0 : Nat) (ha0 : a0 < 24) (a3 : Int32) (σ σ0 τ : mm) (hσ : σ = σ0) {r : Option mv} {M' : mm × mm} {v9 : Int32} (h : fX4_leastIn_15_16_0 a0 a3 σ = some v9) (hk : (fun q : Int32 => r = some (.inl q) ∧ M' = (σ0, τ)) v9) : Vm mX4_leastIn 0 0 [(0, .inr (.inr (4, a0))), (1, .inr (.inr (15, 0))), (2, .inr (.inr (16, 0))), (3, .inl a3)] [] (σ, τ) r M' := by
  unfold fX4_leastIn_15_16_0 at h
  refine Vm.iconst (n := 1) (v := (0 : Int32)) dX4_leastIn_0 rfl (by decide) ?_
  refine Vm.istore (n := 3) (lv' := [(4, .inl (0 : Int32)), (0, .inr (.inr (4, a0))), (1, .inr (.inr (15, 0))), (2, .inr (.inr (16, 0))), (3, .inl a3)]) dX4_leastIn_1 rfl (Nat.le_of_ble_eq_true rfl) rfl ?_
  refine Vm.iconst (n := 4) (v := (0 : Int32)) dX4_leastIn_3 rfl (by decide) ?_
  refine Vm.istore (n := 6) (lv' := [(5, .inl (0 : Int32)), (4, .inl (0 : Int32)), (0, .inr (.inr (4, a0))), (1, .inr (.inr (15, 0))), (2, .inr (.inr (16, 0))), (3, .inl a3)]) dX4_leastIn_4 rfl (Nat.le_of_ble_eq_true rfl) rfl ?_
  refine Vm.sub (lv' := [(0, .inr (.inr (4, a0))), (1, .inr (.inr (15, 0))), (2, .inr (.inr (16, 0))), (3, .inl a3), (4, .inl (0 : Int32)), (5, .inl (0 : Int32))]) [2, 3, 4, 5, 1, 0] rfl ?_
  exact lX4_leastIn_15_16_6_L a0 (by omega) a3 σ σ0 τ hσ ((0 : Int32), (0 : Int32)) _ h hk
theorem kX4_leastIn_15_16 (a0 : Nat) (ha0 : a0 < 24) (a3 : Int32) (σ τ : mm) {q : Int32} (h : fX4_leastIn_15_16 a0 a3 σ = some q) : Cx mX4_leastIn 0 [.inr (.inr (4, a0)), .inr (.inr (15, 0)), .inr (.inr (16, 0)), .inl a3] (σ, τ) (some (.inl q)) (σ, τ) :=
  Cx.of (lv := [(0, .inr (.inr (4, a0))), (1, .inr (.inr (15, 0))), (2, .inr (.inr (16, 0))), (3, .inl a3)]) (by decide) (fun ad => Nat.le_of_ble_eq_true rfl) (fun ad => rfl) (lX4_leastIn_15_16_0 a0 ha0 a3 σ σ τ rfl h ⟨rfl, rfl⟩)
-- ThinBodies$Row mostIn ([I[II)I
noncomputable def fX4_mostIn_15_16_42 (a0 : Nat) (a3 : Int32) (a5 : Int32) (s0 : Int32) (s1 : Int32) (s2 : Int32) (σ : mm) : Option ((Int32 × Int32) ⊕ (Int32)) :=
  Option.bind (some (s0 + (s1 * s2))) fun x1 =>
  Option.bind (some (a5 + (1 : Int32))) fun x2 =>
  some (.inl (x1, x2))
noncomputable def fX4_mostIn_15_16_6 (a0 : Nat) (a3 : Int32) (a4 : Int32) (a5 : Int32) (σ : mm) : Option ((Int32 × Int32) ⊕ (Int32)) :=
  if a3 ≤ a5 then
  some (.inr (a4))
  else
  Option.bind (rdI σ 10 a0 4 a5) fun x1 =>
  Option.bind (rdI σ 10 a0 4 a5) fun x2 =>
  if x2 ≤ (0 : Int32) then
  Option.bind (rdI σ 15 0 4 a5) fun x3 =>
  fX4_mostIn_15_16_42 a0 a3 a5 a4 x1 x3 σ
  else
  Option.bind (rdI σ 16 0 4 a5) fun x4 =>
  fX4_mostIn_15_16_42 a0 a3 a5 a4 x1 x4 σ
noncomputable def fX4_mostIn_15_16_6_L (a0 : Nat) (a3 : Int32) (σ : mm) : Int32 × Int32 → Option ((Int32 × Int32) ⊕ (Int32)) := fun z => fX4_mostIn_15_16_6 a0 a3 z.1 z.2 σ
noncomputable def fX4_mostIn_15_16_0 (a0 : Nat) (a3 : Int32) (σ : mm) : Option (Int32) :=
  lp (fX4_mostIn_15_16_6_L a0 a3 σ) ((0 : Int32), (0 : Int32))
noncomputable def fX4_mostIn_15_16 (a0 : Nat) (a3 : Int32) (σ : mm) : Option (Int32) := fX4_mostIn_15_16_0 a0 a3 σ
set_option maxRecDepth 20000 in
theorem lX4_mostIn_15_16_42 (a0 : Nat) (ha0 : a0 < 24) (a3 : Int32) (a5 : Int32) (s0 : Int32) (s1 : Int32) (s2 : Int32) (σ σ0 τ : mm) (hσ : σ = σ0) {r : Option mv} {M' : mm × mm} {v9 : (Int32 × Int32) ⊕ (Int32)} (h : fX4_mostIn_15_16_42 a0 a3 a5 s0 s1 s2 σ = some v9) (hk : (Sum.elim (fun z : Int32 × Int32 => Vm mX4_mostIn 0 6 [(0, .inr (.inr (4, a0))), (1, .inr (.inr (15, 0))), (2, .inr (.inr (16, 0))), (3, .inl a3), (4, .inl z.1), (5, .inl z.2)] [] (σ, τ) r M') (fun q : Int32 => r = some (.inl q) ∧ M' = (σ0, τ))) v9) : Vm mX4_mostIn 0 42 [(0, .inr (.inr (4, a0))), (1, .inr (.inr (15, 0))), (2, .inr (.inr (16, 0))), (3, .inl a3), (5, .inl a5)] [.inl s2, .inl s1, .inl s0] (σ, τ) r M' := by
  unfold fX4_mostIn_15_16_42 at h
  refine Vm.imul (n := 43) dX4_mostIn_42 rfl ?_
  refine Vm.iadd (n := 44) dX4_mostIn_43 rfl ?_
  replace h := Option.bind_eq_some_iff.mp h
  obtain ⟨x1, e1, h⟩ := h
  replace e1 := Option.some.inj e1
  refine Vm.top e1 ?_
  refine Vm.istore (n := 46) (lv' := [(4, .inl x1), (0, .inr (.inr (4, a0))), (1, .inr (.inr (15, 0))), (2, .inr (.inr (16, 0))), (3, .inl a3), (5, .inl a5)]) dX4_mostIn_44 rfl (Nat.le_of_ble_eq_true rfl) rfl ?_
  replace h := Option.bind_eq_some_iff.mp h
  obtain ⟨x2, e2, h⟩ := h
  replace e2 := Option.some.inj e2
  refine Vm.iinc (n := 49) (v := x2) (lv' := [(5, .inl x2), (4, .inl x1), (0, .inr (.inr (4, a0))), (1, .inr (.inr (15, 0))), (2, .inr (.inr (16, 0))), (3, .inl a3)]) 5 dX4_mostIn_46 rfl rfl e2 (Nat.le_of_ble_eq_true rfl) rfl ?_
  refine Vm.goto 6 dX4_mostIn_49 rfl ?_
  refine Vm.sub (lv' := [(0, .inr (.inr (4, a0))), (1, .inr (.inr (15, 0))), (2, .inr (.inr (16, 0))), (3, .inl a3), (4, .inl x1), (5, .inl x2)]) [2, 3, 4, 5, 1, 0] rfl ?_
  obtain rfl := Option.some.inj h
  exact hk
set_option maxRecDepth 20000 in
theorem lX4_mostIn_15_16_6 (a0 : Nat) (ha0 : a0 < 24) (a3 : Int32) (a4 : Int32) (a5 : Int32) (σ σ0 τ : mm) (hσ : σ = σ0) {r : Option mv} {M' : mm × mm} {v9 : (Int32 × Int32) ⊕ (Int32)} (h : fX4_mostIn_15_16_6 a0 a3 a4 a5 σ = some v9) (hk : (Sum.elim (fun z : Int32 × Int32 => Vm mX4_mostIn 0 6 [(0, .inr (.inr (4, a0))), (1, .inr (.inr (15, 0))), (2, .inr (.inr (16, 0))), (3, .inl a3), (4, .inl z.1), (5, .inl z.2)] [] (σ, τ) r M') (fun q : Int32 => r = some (.inl q) ∧ M' = (σ0, τ))) v9) : Vm mX4_mostIn 0 6 [(0, .inr (.inr (4, a0))), (1, .inr (.inr (15, 0))), (2, .inr (.inr (16, 0))), (3, .inl a3), (4, .inl a4), (5, .inl a5)] [] (σ, τ) r M' := by
  unfold fX4_mostIn_15_16_6 at h
  refine Vm.iload (n := 8) 5 dX4_mostIn_6 rfl rfl ?_
  refine Vm.iload_n (n := 9) 3 dX4_mostIn_8 rfl rfl ?_
  refine Vm.icmp_ge (n := 12) 52 dX4_mostIn_9 rfl rfl (fun c9 => ?_) (fun c9 => ?_)
  · replace h := (if_pos c9).symm.trans h
    refine Vm.iload (n := 54) 4 dX4_mostIn_52 rfl rfl ?_
    obtain rfl := Option.some.inj h
    exact Vm.iret dX4_mostIn_54 rfl hk.1 (by rw [hσ]; exact hk.2.symm)
  · replace h := (if_neg c9).symm.trans h
    refine Vm.iload (n := 14) 4 dX4_mostIn_12 rfl rfl ?_
    refine Vm.aload_n (n := 15) 0 dX4_mostIn_14 rfl rfl ?_
    refine Vm.getR (n := 18) dX4_mostIn_15 rfl wf_RX4_21 (ink ik_4 (by omega)) rfl (by decide) rfl ?_
    refine Vm.iload (n := 20) 5 dX4_mostIn_18 rfl rfl ?_
    replace h := Option.bind_eq_some_iff.mp h
    obtain ⟨x1, h1, h⟩ := h
    refine Vm.ialdx (n := 21) dX4_mostIn_20 rfl (ink ik_10 (by omega)) rfl rfl (by decide) h1 ?_
    refine Vm.aload_n (n := 22) 0 dX4_mostIn_21 rfl rfl ?_
    refine Vm.getR (n := 25) dX4_mostIn_22 rfl wf_RX4_21 (ink ik_4 (by omega)) rfl (by decide) rfl ?_
    refine Vm.iload (n := 27) 5 dX4_mostIn_25 rfl rfl ?_
    replace h := Option.bind_eq_some_iff.mp h
    obtain ⟨x2, h2, h⟩ := h
    refine Vm.ialdx (n := 28) dX4_mostIn_27 rfl (ink ik_10 (by omega)) rfl rfl (by decide) h2 ?_
    refine Vm.if_le (n := 31) 38 dX4_mostIn_28 rfl rfl (fun c9 => ?_) (fun c9 => ?_)
    · replace h := (if_pos c9).symm.trans h
      refine Vm.aload_n (n := 39) 1 dX4_mostIn_38 rfl rfl ?_
      refine Vm.iload (n := 41) 5 dX4_mostIn_39 rfl rfl ?_
      replace h := Option.bind_eq_some_iff.mp h
      obtain ⟨x3, h3, h⟩ := h
      refine Vm.ialdx (n := 42) dX4_mostIn_41 rfl in_15 rfl rfl (by decide) h3 ?_
      refine Vm.sub (lv' := [(0, .inr (.inr (4, a0))), (1, .inr (.inr (15, 0))), (2, .inr (.inr (16, 0))), (3, .inl a3), (5, .inl a5)]) [0, 1, 2, 3, 5] rfl ?_
      exact lX4_mostIn_15_16_42 a0 (by omega) a3 a5 a4 x1 x3 σ σ0 τ hσ h hk
    · replace h := (if_neg c9).symm.trans h
      refine Vm.aload_n (n := 32) 2 dX4_mostIn_31 rfl rfl ?_
      refine Vm.iload (n := 34) 5 dX4_mostIn_32 rfl rfl ?_
      replace h := Option.bind_eq_some_iff.mp h
      obtain ⟨x4, h4, h⟩ := h
      refine Vm.ialdx (n := 35) dX4_mostIn_34 rfl in_16 rfl rfl (by decide) h4 ?_
      refine Vm.goto 42 dX4_mostIn_35 rfl ?_
      refine Vm.sub (lv' := [(0, .inr (.inr (4, a0))), (1, .inr (.inr (15, 0))), (2, .inr (.inr (16, 0))), (3, .inl a3), (5, .inl a5)]) [0, 1, 2, 3, 5] rfl ?_
      exact lX4_mostIn_15_16_42 a0 (by omega) a3 a5 a4 x1 x4 σ σ0 τ hσ h hk
theorem lX4_mostIn_15_16_6_L (a0 : Nat) (ha0 : a0 < 24) (a3 : Int32) (σ σ0 τ : mm) (hσ : σ = σ0) {r : Option mv} {M' : mm × mm} (z : Int32 × Int32) (w9 : Int32) (h : lp (fX4_mostIn_15_16_6_L a0 a3 σ) z = some w9) (hk : (fun q : Int32 => r = some (.inl q) ∧ M' = (σ0, τ)) w9) : Vm mX4_mostIn 0 6 [(0, .inr (.inr (4, a0))), (1, .inr (.inr (15, 0))), (2, .inr (.inr (16, 0))), (3, .inl a3), (4, .inl z.1), (5, .inl z.2)] [] (σ, τ) r M' :=
  lp_link (S := Int32 × Int32) (R := Int32) (body := fX4_mostIn_15_16_6_L a0 a3 σ) (A := fun z : Int32 × Int32 => Vm mX4_mostIn 0 6 [(0, .inr (.inr (4, a0))), (1, .inr (.inr (15, 0))), (2, .inr (.inr (16, 0))), (3, .inl a3), (4, .inl z.1), (5, .inl z.2)] [] (σ, τ) r M') (B := fun w : Int32 => (fun q : Int32 => r = some (.inl q) ∧ M' = (σ0, τ)) w) (fun z v hb hv => lX4_mostIn_15_16_6 a0 ha0 a3 z.1 z.2 σ σ0 τ hσ hb hv) z w9 h hk
set_option maxRecDepth 20000 in
theorem lX4_mostIn_15_16_0 (a0 : Nat) (ha0 : a0 < 24) (a3 : Int32) (σ σ0 τ : mm) (hσ : σ = σ0) {r : Option mv} {M' : mm × mm} {v9 : Int32} (h : fX4_mostIn_15_16_0 a0 a3 σ = some v9) (hk : (fun q : Int32 => r = some (.inl q) ∧ M' = (σ0, τ)) v9) : Vm mX4_mostIn 0 0 [(0, .inr (.inr (4, a0))), (1, .inr (.inr (15, 0))), (2, .inr (.inr (16, 0))), (3, .inl a3)] [] (σ, τ) r M' := by
  unfold fX4_mostIn_15_16_0 at h
  refine Vm.iconst (n := 1) (v := (0 : Int32)) dX4_mostIn_0 rfl (by decide) ?_
  refine Vm.istore (n := 3) (lv' := [(4, .inl (0 : Int32)), (0, .inr (.inr (4, a0))), (1, .inr (.inr (15, 0))), (2, .inr (.inr (16, 0))), (3, .inl a3)]) dX4_mostIn_1 rfl (Nat.le_of_ble_eq_true rfl) rfl ?_
  refine Vm.iconst (n := 4) (v := (0 : Int32)) dX4_mostIn_3 rfl (by decide) ?_
  refine Vm.istore (n := 6) (lv' := [(5, .inl (0 : Int32)), (4, .inl (0 : Int32)), (0, .inr (.inr (4, a0))), (1, .inr (.inr (15, 0))), (2, .inr (.inr (16, 0))), (3, .inl a3)]) dX4_mostIn_4 rfl (Nat.le_of_ble_eq_true rfl) rfl ?_
  refine Vm.sub (lv' := [(0, .inr (.inr (4, a0))), (1, .inr (.inr (15, 0))), (2, .inr (.inr (16, 0))), (3, .inl a3), (4, .inl (0 : Int32)), (5, .inl (0 : Int32))]) [2, 3, 4, 5, 1, 0] rfl ?_
  exact lX4_mostIn_15_16_6_L a0 (by omega) a3 σ σ0 τ hσ ((0 : Int32), (0 : Int32)) _ h hk
theorem kX4_mostIn_15_16 (a0 : Nat) (ha0 : a0 < 24) (a3 : Int32) (σ τ : mm) {q : Int32} (h : fX4_mostIn_15_16 a0 a3 σ = some q) : Cx mX4_mostIn 0 [.inr (.inr (4, a0)), .inr (.inr (15, 0)), .inr (.inr (16, 0)), .inl a3] (σ, τ) (some (.inl q)) (σ, τ) :=
  Cx.of (lv := [(0, .inr (.inr (4, a0))), (1, .inr (.inr (15, 0))), (2, .inr (.inr (16, 0))), (3, .inl a3)]) (by decide) (fun ad => Nat.le_of_ble_eq_true rfl) (fun ad => rfl) (lX4_mostIn_15_16_0 a0 ha0 a3 σ σ τ rfl h ⟨rfl, rfl⟩)
-- java/lang/Math floorMod (II)I
def fJ9_floorMod_7cf53_0 (a0 : Int32) (a1 : Int32) : Option (Int32) :=
  Option.bind (rmI a0 a1) fun x1 =>
  if (0 : Int32) ≤ (a0 ^^^ a1) then
  some (x1)
  else
  if x1 = (0 : Int32) then
  some (x1)
  else
  some (x1 + a1)
def fJ9_floorMod_7cf53 (a0 : Int32) (a1 : Int32) : Option (Int32) := fJ9_floorMod_7cf53_0 a0 a1
set_option maxRecDepth 20000 in
theorem lJ9_floorMod_7cf53_0 (a0 : Int32) (a1 : Int32) {M : mm × mm} {r : Option mv} {M' : mm × mm} {v9 : Int32} (h : fJ9_floorMod_7cf53_0 a0 a1 = some v9) (hk : (fun q : Int32 => r = some (.inl q) ∧ M' = M) v9) : Vm mJ9_floorMod_7cf53 0 0 [(0, .inl a0), (1, .inl a1)] [] M r M' := by
  unfold fJ9_floorMod_7cf53_0 at h
  refine Vm.iload_n (n := 1) 0 dJ9_floorMod_7cf53_0 rfl rfl ?_
  refine Vm.iload_n (n := 2) 1 dJ9_floorMod_7cf53_1 rfl rfl ?_
  replace h := Option.bind_eq_some_iff.mp h
  obtain ⟨x1, h1, h⟩ := h
  refine Vm.irem (n := 3) dJ9_floorMod_7cf53_2 rfl h1 ?_
  refine Vm.istore_n (n := 4) (lv' := [(2, .inl x1), (0, .inl a0), (1, .inl a1)]) dJ9_floorMod_7cf53_3 rfl (Nat.le_of_ble_eq_true rfl) rfl ?_
  refine Vm.iload_n (n := 5) 1 dJ9_floorMod_7cf53_4 rfl rfl ?_
  refine Vm.iload_n (n := 6) 2 dJ9_floorMod_7cf53_5 rfl rfl ?_
  refine Vm.ixor (n := 7) dJ9_floorMod_7cf53_6 rfl ?_
  refine Vm.if_ge (n := 10) 18 dJ9_floorMod_7cf53_7 rfl rfl (fun c9 => ?_) (fun c9 => ?_)
  · replace h := (if_pos c9).symm.trans h
    refine Vm.iload_n (n := 19) 0 dJ9_floorMod_7cf53_18 rfl rfl ?_
    obtain rfl := Option.some.inj h
    exact Vm.iret dJ9_floorMod_7cf53_19 rfl hk.1 hk.2.symm
  · replace h := (if_neg c9).symm.trans h
    refine Vm.iload_n (n := 11) 0 dJ9_floorMod_7cf53_10 rfl rfl ?_
    refine Vm.if_eq (n := 14) 18 dJ9_floorMod_7cf53_11 rfl rfl (fun c9 => ?_) (fun c9 => ?_)
    · replace h := (if_pos c9).symm.trans h
      refine Vm.iload_n (n := 19) 0 dJ9_floorMod_7cf53_18 rfl rfl ?_
      obtain rfl := Option.some.inj h
      exact Vm.iret dJ9_floorMod_7cf53_19 rfl hk.1 hk.2.symm
    · replace h := (if_neg c9).symm.trans h
      refine Vm.iload_n (n := 15) 0 dJ9_floorMod_7cf53_14 rfl rfl ?_
      refine Vm.iload_n (n := 16) 2 dJ9_floorMod_7cf53_15 rfl rfl ?_
      refine Vm.iadd (n := 17) dJ9_floorMod_7cf53_16 rfl ?_
      obtain rfl := Option.some.inj h
      exact Vm.iret dJ9_floorMod_7cf53_17 rfl hk.1 hk.2.symm
theorem kJ9_floorMod_7cf53 (a0 : Int32) (a1 : Int32) {M : mm × mm} {q : Int32} (h : fJ9_floorMod_7cf53 a0 a1 = some q) : Cx mJ9_floorMod_7cf53 0 [.inl a0, .inl a1] M (some (.inl q)) M :=
  Cx.ofF (lv := [(0, .inl a0), (1, .inl a1)]) (by decide +kernel) (fun ad => Nat.le_of_ble_eq_true rfl) (fun ad => rfl) (lJ9_floorMod_7cf53_0 a0 a1 h ⟨rfl, rfl⟩)
-- ThinBodies$Row isDead (II)Z
def fX4_isDead_102 (σ : mm) : Option (Bool) :=
  some (true)
def fX4_isDead_70 (σ : mm) : Option (Bool) :=
  some (true)
def fX4_isDead_0 (a0 : Nat) (a1 : Int32) (a2 : Int32) (σ : mm) : Option (Bool) :=
  if (σ.1 4 a0 0).toInt = (0 : Int) then
  if a1 ≤ (σ.1 4 a0 1) then
  some (false)
  else
  some (true)
  else if (σ.1 4 a0 0).toInt = (1 : Int) then
  if (σ.1 4 a0 1) < a1 then
  fX4_isDead_70 σ
  else
  if (σ.1 4 a0 1) ≤ a2 then
  some (false)
  else
  fX4_isDead_70 σ
  else if (σ.1 4 a0 0).toInt = (2 : Int) then
  if ((σ.1 4 a0 1) + (σ.1 4 a0 2)) < a1 then
  fX4_isDead_102 σ
  else
  if ((σ.1 4 a0 1) - (σ.1 4 a0 2)) ≤ a2 then
  some (false)
  else
  fX4_isDead_102 σ
  else if (σ.1 4 a0 0).toInt = (3 : Int) then
  if (σ.1 4 a0 2) ≤ (0 : Int32) then
  some (false)
  else
  Option.bind (fJ9_floorMod_7cf53 ((σ.1 4 a0 1) - a1) (σ.1 4 a0 2)) fun q1 =>
  if (a1 + q1) ≤ a2 then
  some (false)
  else
  some (true)
  else if (σ.1 4 a0 0).toInt = (4 : Int) then
  if a1 < ((σ.1 4 a0 1) - (σ.1 4 a0 2)) then
  some (false)
  else
  if ((σ.1 4 a0 1) + (σ.1 4 a0 2)) < a2 then
  some (false)
  else
  some (true)
  else 
  if (σ.1 4 a0 1) ≤ a2 then
  some (false)
  else
  some (true)
def fX4_isDead (a0 : Nat) (a1 : Int32) (a2 : Int32) (σ : mm) : Option (Bool) := fX4_isDead_0 a0 a1 a2 σ
set_option maxRecDepth 20000 in
theorem lX4_isDead_102 (σ σ0 τ : mm) (hσ : σ = σ0) {r : Option mv} {M' : mm × mm} {v9 : Bool} (h : fX4_isDead_102 σ = some v9) (hk : (fun q : Bool => r = some (.inl (bi q)) ∧ M' = (σ0, τ)) v9) : Vm mX4_isDead 1 102 [] [] (σ, τ) r M' := by
  unfold fX4_isDead_102 at h
  refine Vm.iconst (n := 103) (v := (1 : Int32)) dX4_isDead_102 rfl (by decide) ?_
  refine Vm.goto 107 dX4_isDead_103 rfl ?_
  obtain rfl := Option.some.inj h
  exact Vm.zret (b := true) dX4_isDead_107 rfl rfl hk.1 (by rw [hσ]; exact hk.2.symm)
set_option maxRecDepth 20000 in
theorem lX4_isDead_70 (σ σ0 τ : mm) (hσ : σ = σ0) {r : Option mv} {M' : mm × mm} {v9 : Bool} (h : fX4_isDead_70 σ = some v9) (hk : (fun q : Bool => r = some (.inl (bi q)) ∧ M' = (σ0, τ)) v9) : Vm mX4_isDead 1 70 [] [] (σ, τ) r M' := by
  unfold fX4_isDead_70 at h
  refine Vm.iconst (n := 71) (v := (1 : Int32)) dX4_isDead_70 rfl (by decide) ?_
  refine Vm.goto 75 dX4_isDead_71 rfl ?_
  obtain rfl := Option.some.inj h
  exact Vm.zret (b := true) dX4_isDead_75 rfl rfl hk.1 (by rw [hσ]; exact hk.2.symm)
set_option maxRecDepth 20000 in
theorem lX4_isDead_0 (a0 : Nat) (ha0 : a0 < 24) (a1 : Int32) (a2 : Int32) (σ σ0 τ : mm) (hσ : σ = σ0) {r : Option mv} {M' : mm × mm} {v9 : Bool} (h : fX4_isDead_0 a0 a1 a2 σ = some v9) (hk : (fun q : Bool => r = some (.inl (bi q)) ∧ M' = (σ0, τ)) v9) : Vm mX4_isDead 1 0 [(0, .inr (.inr (4, a0))), (1, .inl a1), (2, .inl a2)] [] (σ, τ) r M' := by
  unfold fX4_isDead_0 at h
  refine Vm.aload_n (n := 1) 0 dX4_isDead_0 rfl rfl ?_
  refine Vm.gX (n := 4) dX4_isDead_1 rfl wf_RX4_9 (ink ik_4 (by omega)) rfl (by decide) rfl (by decide) ?_
  by_cases c50 : (σ.1 4 a0 0).toInt = (0 : Int)
  · replace h := (if_pos c50).symm.trans h
    refine Vm.tswI (0) 40 dX4_isDead_4 c50 (by decide) rfl rfl ?_
    refine Vm.iload_n (n := 41) 1 dX4_isDead_40 rfl rfl ?_
    refine Vm.aload_n (n := 42) 0 dX4_isDead_41 rfl rfl ?_
    refine Vm.gX (n := 45) dX4_isDead_42 rfl wf_RX4_15 (ink ik_4 (by omega)) rfl (by decide) rfl (by decide) ?_
    refine Vm.icmp_le (n := 48) 52 dX4_isDead_45 rfl rfl (fun c9 => ?_) (fun c9 => ?_)
    · replace h := (if_pos c9).symm.trans h
      refine Vm.iconst (n := 53) (v := (0 : Int32)) dX4_isDead_52 rfl (by decide) ?_
      obtain rfl := Option.some.inj h
      exact Vm.zret (b := false) dX4_isDead_53 rfl rfl hk.1 (by rw [hσ]; exact hk.2.symm)
    · replace h := (if_neg c9).symm.trans h
      refine Vm.iconst (n := 49) (v := (1 : Int32)) dX4_isDead_48 rfl (by decide) ?_
      refine Vm.goto 53 dX4_isDead_49 rfl ?_
      obtain rfl := Option.some.inj h
      exact Vm.zret (b := true) dX4_isDead_53 rfl rfl hk.1 (by rw [hσ]; exact hk.2.symm)
  · replace h := (if_neg c50).symm.trans h
    by_cases c51 : (σ.1 4 a0 0).toInt = (1 : Int)
    · replace h := (if_pos c51).symm.trans h
      refine Vm.tswI (1) 54 dX4_isDead_4 c51 (by decide) rfl rfl ?_
      refine Vm.aload_n (n := 55) 0 dX4_isDead_54 rfl rfl ?_
      refine Vm.gX (n := 58) dX4_isDead_55 rfl wf_RX4_15 (ink ik_4 (by omega)) rfl (by decide) rfl (by decide) ?_
      refine Vm.iload_n (n := 59) 1 dX4_isDead_58 rfl rfl ?_
      refine Vm.icmp_lt (n := 62) 70 dX4_isDead_59 rfl rfl (fun c9 => ?_) (fun c9 => ?_)
      · replace h := (if_pos c9).symm.trans h
        refine Vm.sub (lv' := []) [] rfl ?_
        exact lX4_isDead_70 σ σ0 τ hσ h hk
      · replace h := (if_neg c9).symm.trans h
        refine Vm.aload_n (n := 63) 0 dX4_isDead_62 rfl rfl ?_
        refine Vm.gX (n := 66) dX4_isDead_63 rfl wf_RX4_15 (ink ik_4 (by omega)) rfl (by decide) rfl (by decide) ?_
        refine Vm.iload_n (n := 67) 2 dX4_isDead_66 rfl rfl ?_
        refine Vm.icmp_le (n := 70) 74 dX4_isDead_67 rfl rfl (fun c9 => ?_) (fun c9 => ?_)
        · replace h := (if_pos c9).symm.trans h
          refine Vm.iconst (n := 75) (v := (0 : Int32)) dX4_isDead_74 rfl (by decide) ?_
          obtain rfl := Option.some.inj h
          exact Vm.zret (b := false) dX4_isDead_75 rfl rfl hk.1 (by rw [hσ]; exact hk.2.symm)
        · replace h := (if_neg c9).symm.trans h
          refine Vm.sub (lv' := []) [] rfl ?_
          exact lX4_isDead_70 σ σ0 τ hσ h hk
    · replace h := (if_neg c51).symm.trans h
      by_cases c52 : (σ.1 4 a0 0).toInt = (2 : Int)
      · replace h := (if_pos c52).symm.trans h
        refine Vm.tswI (2) 76 dX4_isDead_4 c52 (by decide) rfl rfl ?_
        refine Vm.iload_n (n := 77) 1 dX4_isDead_76 rfl rfl ?_
        refine Vm.aload_n (n := 78) 0 dX4_isDead_77 rfl rfl ?_
        refine Vm.gX (n := 81) dX4_isDead_78 rfl wf_RX4_15 (ink ik_4 (by omega)) rfl (by decide) rfl (by decide) ?_
        refine Vm.aload_n (n := 82) 0 dX4_isDead_81 rfl rfl ?_
        refine Vm.gX (n := 85) dX4_isDead_82 rfl wf_RX4_18 (ink ik_4 (by omega)) rfl (by decide) rfl (by decide) ?_
        refine Vm.iadd (n := 86) dX4_isDead_85 rfl ?_
        refine Vm.icmp_gt (n := 89) 102 dX4_isDead_86 rfl rfl (fun c9 => ?_) (fun c9 => ?_)
        · replace h := (if_pos c9).symm.trans h
          refine Vm.sub (lv' := []) [] rfl ?_
          exact lX4_isDead_102 σ σ0 τ hσ h hk
        · replace h := (if_neg c9).symm.trans h
          refine Vm.iload_n (n := 90) 2 dX4_isDead_89 rfl rfl ?_
          refine Vm.aload_n (n := 91) 0 dX4_isDead_90 rfl rfl ?_
          refine Vm.gX (n := 94) dX4_isDead_91 rfl wf_RX4_15 (ink ik_4 (by omega)) rfl (by decide) rfl (by decide) ?_
          refine Vm.aload_n (n := 95) 0 dX4_isDead_94 rfl rfl ?_
          refine Vm.gX (n := 98) dX4_isDead_95 rfl wf_RX4_18 (ink ik_4 (by omega)) rfl (by decide) rfl (by decide) ?_
          refine Vm.isub (n := 99) dX4_isDead_98 rfl ?_
          refine Vm.icmp_ge (n := 102) 106 dX4_isDead_99 rfl rfl (fun c9 => ?_) (fun c9 => ?_)
          · replace h := (if_pos c9).symm.trans h
            refine Vm.iconst (n := 107) (v := (0 : Int32)) dX4_isDead_106 rfl (by decide) ?_
            obtain rfl := Option.some.inj h
            exact Vm.zret (b := false) dX4_isDead_107 rfl rfl hk.1 (by rw [hσ]; exact hk.2.symm)
          · replace h := (if_neg c9).symm.trans h
            refine Vm.sub (lv' := []) [] rfl ?_
            exact lX4_isDead_102 σ σ0 τ hσ h hk
      · replace h := (if_neg c52).symm.trans h
        by_cases c53 : (σ.1 4 a0 0).toInt = (3 : Int)
        · replace h := (if_pos c53).symm.trans h
          refine Vm.tswI (3) 108 dX4_isDead_4 c53 (by decide) rfl rfl ?_
          refine Vm.aload_n (n := 109) 0 dX4_isDead_108 rfl rfl ?_
          refine Vm.gX (n := 112) dX4_isDead_109 rfl wf_RX4_18 (ink ik_4 (by omega)) rfl (by decide) rfl (by decide) ?_
          refine Vm.if_le (n := 115) 138 dX4_isDead_112 rfl rfl (fun c9 => ?_) (fun c9 => ?_)
          · replace h := (if_pos c9).symm.trans h
            refine Vm.iconst (n := 139) (v := (0 : Int32)) dX4_isDead_138 rfl (by decide) ?_
            obtain rfl := Option.some.inj h
            exact Vm.zret (b := false) dX4_isDead_139 rfl rfl hk.1 (by rw [hσ]; exact hk.2.symm)
          · replace h := (if_neg c9).symm.trans h
            refine Vm.iload_n (n := 116) 1 dX4_isDead_115 rfl rfl ?_
            refine Vm.aload_n (n := 117) 0 dX4_isDead_116 rfl rfl ?_
            refine Vm.gX (n := 120) dX4_isDead_117 rfl wf_RX4_15 (ink ik_4 (by omega)) rfl (by decide) rfl (by decide) ?_
            refine Vm.iload_n (n := 121) 1 dX4_isDead_120 rfl rfl ?_
            refine Vm.isub (n := 122) dX4_isDead_121 rfl ?_
            refine Vm.aload_n (n := 123) 0 dX4_isDead_122 rfl rfl ?_
            refine Vm.gX (n := 126) dX4_isDead_123 rfl wf_RX4_18 (ink ik_4 (by omega)) rfl (by decide) rfl (by decide) ?_
            replace h := Option.bind_eq_some_iff.mp h
            obtain ⟨q1, h1, h⟩ := h
            refine Vm.callS (Y := mJ9_floorMod_7cf53) (n := 129) [.inl ((σ.1 4 a0 1) - a1), .inl (σ.1 4 a0 2)] dX4_isDead_126 rfl wv_RX4_48 omJ9_floorMod_7cf53 rfl rfl (Nat.le_of_ble_eq_true rfl) (by decide) (kJ9_floorMod_7cf53 ((σ.1 4 a0 1) - a1) (σ.1 4 a0 2) h1) ?_
            refine Vm.iadd (n := 130) dX4_isDead_129 rfl ?_
            refine Vm.iload_n (n := 131) 2 dX4_isDead_130 rfl rfl ?_
            refine Vm.icmp_le (n := 134) 138 dX4_isDead_131 rfl rfl (fun c9 => ?_) (fun c9 => ?_)
            · replace h := (if_pos c9).symm.trans h
              refine Vm.iconst (n := 139) (v := (0 : Int32)) dX4_isDead_138 rfl (by decide) ?_
              obtain rfl := Option.some.inj h
              exact Vm.zret (b := false) dX4_isDead_139 rfl rfl hk.1 (by rw [hσ]; exact hk.2.symm)
            · replace h := (if_neg c9).symm.trans h
              refine Vm.iconst (n := 135) (v := (1 : Int32)) dX4_isDead_134 rfl (by decide) ?_
              refine Vm.goto 139 dX4_isDead_135 rfl ?_
              obtain rfl := Option.some.inj h
              exact Vm.zret (b := true) dX4_isDead_139 rfl rfl hk.1 (by rw [hσ]; exact hk.2.symm)
        · replace h := (if_neg c53).symm.trans h
          by_cases c54 : (σ.1 4 a0 0).toInt = (4 : Int)
          · replace h := (if_pos c54).symm.trans h
            refine Vm.tswI (4) 140 dX4_isDead_4 c54 (by decide) rfl rfl ?_
            refine Vm.iload_n (n := 141) 1 dX4_isDead_140 rfl rfl ?_
            refine Vm.aload_n (n := 142) 0 dX4_isDead_141 rfl rfl ?_
            refine Vm.gX (n := 145) dX4_isDead_142 rfl wf_RX4_15 (ink ik_4 (by omega)) rfl (by decide) rfl (by decide) ?_
            refine Vm.aload_n (n := 146) 0 dX4_isDead_145 rfl rfl ?_
            refine Vm.gX (n := 149) dX4_isDead_146 rfl wf_RX4_18 (ink ik_4 (by omega)) rfl (by decide) rfl (by decide) ?_
            refine Vm.isub (n := 150) dX4_isDead_149 rfl ?_
            refine Vm.icmp_lt (n := 153) 170 dX4_isDead_150 rfl rfl (fun c9 => ?_) (fun c9 => ?_)
            · replace h := (if_pos c9).symm.trans h
              refine Vm.iconst (n := 171) (v := (0 : Int32)) dX4_isDead_170 rfl (by decide) ?_
              obtain rfl := Option.some.inj h
              exact Vm.zret (b := false) dX4_isDead_171 rfl rfl hk.1 (by rw [hσ]; exact hk.2.symm)
            · replace h := (if_neg c9).symm.trans h
              refine Vm.iload_n (n := 154) 2 dX4_isDead_153 rfl rfl ?_
              refine Vm.aload_n (n := 155) 0 dX4_isDead_154 rfl rfl ?_
              refine Vm.gX (n := 158) dX4_isDead_155 rfl wf_RX4_15 (ink ik_4 (by omega)) rfl (by decide) rfl (by decide) ?_
              refine Vm.aload_n (n := 159) 0 dX4_isDead_158 rfl rfl ?_
              refine Vm.gX (n := 162) dX4_isDead_159 rfl wf_RX4_18 (ink ik_4 (by omega)) rfl (by decide) rfl (by decide) ?_
              refine Vm.iadd (n := 163) dX4_isDead_162 rfl ?_
              refine Vm.icmp_gt (n := 166) 170 dX4_isDead_163 rfl rfl (fun c9 => ?_) (fun c9 => ?_)
              · replace h := (if_pos c9).symm.trans h
                refine Vm.iconst (n := 171) (v := (0 : Int32)) dX4_isDead_170 rfl (by decide) ?_
                obtain rfl := Option.some.inj h
                exact Vm.zret (b := false) dX4_isDead_171 rfl rfl hk.1 (by rw [hσ]; exact hk.2.symm)
              · replace h := (if_neg c9).symm.trans h
                refine Vm.iconst (n := 167) (v := (1 : Int32)) dX4_isDead_166 rfl (by decide) ?_
                refine Vm.goto 171 dX4_isDead_167 rfl ?_
                obtain rfl := Option.some.inj h
                exact Vm.zret (b := true) dX4_isDead_171 rfl rfl hk.1 (by rw [hσ]; exact hk.2.symm)
          · replace h := (if_neg c54).symm.trans h
            refine Vm.tswO 172 dX4_isDead_4 (by omega) rfl ?_
            refine Vm.iload_n (n := 173) 2 dX4_isDead_172 rfl rfl ?_
            refine Vm.aload_n (n := 174) 0 dX4_isDead_173 rfl rfl ?_
            refine Vm.gX (n := 177) dX4_isDead_174 rfl wf_RX4_15 (ink ik_4 (by omega)) rfl (by decide) rfl (by decide) ?_
            refine Vm.icmp_ge (n := 180) 184 dX4_isDead_177 rfl rfl (fun c9 => ?_) (fun c9 => ?_)
            · replace h := (if_pos c9).symm.trans h
              refine Vm.iconst (n := 185) (v := (0 : Int32)) dX4_isDead_184 rfl (by decide) ?_
              obtain rfl := Option.some.inj h
              exact Vm.zret (b := false) dX4_isDead_185 rfl rfl hk.1 (by rw [hσ]; exact hk.2.symm)
            · replace h := (if_neg c9).symm.trans h
              refine Vm.iconst (n := 181) (v := (1 : Int32)) dX4_isDead_180 rfl (by decide) ?_
              refine Vm.goto 185 dX4_isDead_181 rfl ?_
              obtain rfl := Option.some.inj h
              exact Vm.zret (b := true) dX4_isDead_185 rfl rfl hk.1 (by rw [hσ]; exact hk.2.symm)
theorem kX4_isDead (a0 : Nat) (ha0 : a0 < 24) (a1 : Int32) (a2 : Int32) (σ τ : mm) {q : Bool} (h : fX4_isDead a0 a1 a2 σ = some q) : Cx mX4_isDead 1 [.inr (.inr (4, a0)), .inl a1, .inl a2] (σ, τ) (some (.inl (bi q))) (σ, τ) :=
  Cx.of (lv := [(0, .inr (.inr (4, a0))), (1, .inl a1), (2, .inl a2)]) (by decide) (fun ad => Nat.le_of_ble_eq_true rfl) (fun ad => rfl) (lX4_isDead_0 a0 ha0 a1 a2 σ σ τ rfl h ⟨rfl, rfl⟩)
-- ThinBodies$Row isWhole (II)Z
def fX4_isWhole_161 (σ : mm) : Option (Bool) :=
  some (true)
def fX4_isWhole_129 (σ : mm) : Option (Bool) :=
  some (true)
def fX4_isWhole_0 (a0 : Nat) (a1 : Int32) (a2 : Int32) (σ : mm) : Option (Bool) :=
  if (σ.1 4 a0 0).toInt = (0 : Int) then
  if (σ.1 4 a0 1) < a2 then
  some (false)
  else
  some (true)
  else if (σ.1 4 a0 0).toInt = (1 : Int) then
  if a1 = (σ.1 4 a0 1) then
  if a2 = (σ.1 4 a0 1) then
  some (true)
  else
  some (false)
  else
  some (false)
  else if (σ.1 4 a0 0).toInt = (2 : Int) then
  if a1 < ((σ.1 4 a0 1) - (σ.1 4 a0 2)) then
  some (false)
  else
  if ((σ.1 4 a0 1) + (σ.1 4 a0 2)) < a2 then
  some (false)
  else
  some (true)
  else if (σ.1 4 a0 0).toInt = (3 : Int) then
  if (σ.1 4 a0 2) = (1 : Int32) then
  fX4_isWhole_129 σ
  else
  if a1 = a2 then
  Option.bind (fX4_allows a0 a1 σ) fun q1 =>
  if (bi q1) = (0 : Int32) then
  some (false)
  else
  fX4_isWhole_129 σ
  else
  some (false)
  else if (σ.1 4 a0 0).toInt = (4 : Int) then
  if a2 < ((σ.1 4 a0 1) - (σ.1 4 a0 2)) then
  fX4_isWhole_161 σ
  else
  if a1 ≤ ((σ.1 4 a0 1) + (σ.1 4 a0 2)) then
  some (false)
  else
  fX4_isWhole_161 σ
  else 
  if a1 < (σ.1 4 a0 1) then
  some (false)
  else
  some (true)
def fX4_isWhole (a0 : Nat) (a1 : Int32) (a2 : Int32) (σ : mm) : Option (Bool) := fX4_isWhole_0 a0 a1 a2 σ
set_option maxRecDepth 20000 in
theorem lX4_isWhole_161 (σ σ0 τ : mm) (hσ : σ = σ0) {r : Option mv} {M' : mm × mm} {v9 : Bool} (h : fX4_isWhole_161 σ = some v9) (hk : (fun q : Bool => r = some (.inl (bi q)) ∧ M' = (σ0, τ)) v9) : Vm mX4_isWhole 3 161 [] [] (σ, τ) r M' := by
  unfold fX4_isWhole_161 at h
  refine Vm.iconst (n := 162) (v := (1 : Int32)) dX4_isWhole_161 rfl (by decide) ?_
  refine Vm.goto 166 dX4_isWhole_162 rfl ?_
  obtain rfl := Option.some.inj h
  exact Vm.zret (b := true) dX4_isWhole_166 rfl rfl hk.1 (by rw [hσ]; exact hk.2.symm)
set_option maxRecDepth 20000 in
theorem lX4_isWhole_129 (σ σ0 τ : mm) (hσ : σ = σ0) {r : Option mv} {M' : mm × mm} {v9 : Bool} (h : fX4_isWhole_129 σ = some v9) (hk : (fun q : Bool => r = some (.inl (bi q)) ∧ M' = (σ0, τ)) v9) : Vm mX4_isWhole 3 129 [] [] (σ, τ) r M' := by
  unfold fX4_isWhole_129 at h
  refine Vm.iconst (n := 130) (v := (1 : Int32)) dX4_isWhole_129 rfl (by decide) ?_
  refine Vm.goto 134 dX4_isWhole_130 rfl ?_
  obtain rfl := Option.some.inj h
  exact Vm.zret (b := true) dX4_isWhole_134 rfl rfl hk.1 (by rw [hσ]; exact hk.2.symm)
set_option maxRecDepth 20000 in
theorem lX4_isWhole_0 (a0 : Nat) (ha0 : a0 < 24) (a1 : Int32) (a2 : Int32) (σ σ0 τ : mm) (hσ : σ = σ0) {r : Option mv} {M' : mm × mm} {v9 : Bool} (h : fX4_isWhole_0 a0 a1 a2 σ = some v9) (hk : (fun q : Bool => r = some (.inl (bi q)) ∧ M' = (σ0, τ)) v9) : Vm mX4_isWhole 3 0 [(0, .inr (.inr (4, a0))), (1, .inl a1), (2, .inl a2)] [] (σ, τ) r M' := by
  unfold fX4_isWhole_0 at h
  refine Vm.aload_n (n := 1) 0 dX4_isWhole_0 rfl rfl ?_
  refine Vm.gX (n := 4) dX4_isWhole_1 rfl wf_RX4_9 (ink ik_4 (by omega)) rfl (by decide) rfl (by decide) ?_
  by_cases c50 : (σ.1 4 a0 0).toInt = (0 : Int)
  · replace h := (if_pos c50).symm.trans h
    refine Vm.tswI (0) 40 dX4_isWhole_4 c50 (by decide) rfl rfl ?_
    refine Vm.iload_n (n := 41) 2 dX4_isWhole_40 rfl rfl ?_
    refine Vm.aload_n (n := 42) 0 dX4_isWhole_41 rfl rfl ?_
    refine Vm.gX (n := 45) dX4_isWhole_42 rfl wf_RX4_15 (ink ik_4 (by omega)) rfl (by decide) rfl (by decide) ?_
    refine Vm.icmp_gt (n := 48) 52 dX4_isWhole_45 rfl rfl (fun c9 => ?_) (fun c9 => ?_)
    · replace h := (if_pos c9).symm.trans h
      refine Vm.iconst (n := 53) (v := (0 : Int32)) dX4_isWhole_52 rfl (by decide) ?_
      obtain rfl := Option.some.inj h
      exact Vm.zret (b := false) dX4_isWhole_53 rfl rfl hk.1 (by rw [hσ]; exact hk.2.symm)
    · replace h := (if_neg c9).symm.trans h
      refine Vm.iconst (n := 49) (v := (1 : Int32)) dX4_isWhole_48 rfl (by decide) ?_
      refine Vm.goto 53 dX4_isWhole_49 rfl ?_
      obtain rfl := Option.some.inj h
      exact Vm.zret (b := true) dX4_isWhole_53 rfl rfl hk.1 (by rw [hσ]; exact hk.2.symm)
  · replace h := (if_neg c50).symm.trans h
    by_cases c51 : (σ.1 4 a0 0).toInt = (1 : Int)
    · replace h := (if_pos c51).symm.trans h
      refine Vm.tswI (1) 54 dX4_isWhole_4 c51 (by decide) rfl rfl ?_
      refine Vm.iload_n (n := 55) 1 dX4_isWhole_54 rfl rfl ?_
      refine Vm.aload_n (n := 56) 0 dX4_isWhole_55 rfl rfl ?_
      refine Vm.gX (n := 59) dX4_isWhole_56 rfl wf_RX4_15 (ink ik_4 (by omega)) rfl (by decide) rfl (by decide) ?_
      refine Vm.icmp_ne (n := 62) 74 dX4_isWhole_59 rfl rfl (fun c9 => ?_) (fun c9 => ?_)
      · replace h := (if_neg c9).symm.trans h
        refine Vm.iconst (n := 75) (v := (0 : Int32)) dX4_isWhole_74 rfl (by decide) ?_
        obtain rfl := Option.some.inj h
        exact Vm.zret (b := false) dX4_isWhole_75 rfl rfl hk.1 (by rw [hσ]; exact hk.2.symm)
      · replace h := (if_pos c9).symm.trans h
        refine Vm.iload_n (n := 63) 2 dX4_isWhole_62 rfl rfl ?_
        refine Vm.aload_n (n := 64) 0 dX4_isWhole_63 rfl rfl ?_
        refine Vm.gX (n := 67) dX4_isWhole_64 rfl wf_RX4_15 (ink ik_4 (by omega)) rfl (by decide) rfl (by decide) ?_
        refine Vm.icmp_ne (n := 70) 74 dX4_isWhole_67 rfl rfl (fun c9 => ?_) (fun c9 => ?_)
        · replace h := (if_neg c9).symm.trans h
          refine Vm.iconst (n := 75) (v := (0 : Int32)) dX4_isWhole_74 rfl (by decide) ?_
          obtain rfl := Option.some.inj h
          exact Vm.zret (b := false) dX4_isWhole_75 rfl rfl hk.1 (by rw [hσ]; exact hk.2.symm)
        · replace h := (if_pos c9).symm.trans h
          refine Vm.iconst (n := 71) (v := (1 : Int32)) dX4_isWhole_70 rfl (by decide) ?_
          refine Vm.goto 75 dX4_isWhole_71 rfl ?_
          obtain rfl := Option.some.inj h
          exact Vm.zret (b := true) dX4_isWhole_75 rfl rfl hk.1 (by rw [hσ]; exact hk.2.symm)
    · replace h := (if_neg c51).symm.trans h
      by_cases c52 : (σ.1 4 a0 0).toInt = (2 : Int)
      · replace h := (if_pos c52).symm.trans h
        refine Vm.tswI (2) 76 dX4_isWhole_4 c52 (by decide) rfl rfl ?_
        refine Vm.iload_n (n := 77) 1 dX4_isWhole_76 rfl rfl ?_
        refine Vm.aload_n (n := 78) 0 dX4_isWhole_77 rfl rfl ?_
        refine Vm.gX (n := 81) dX4_isWhole_78 rfl wf_RX4_15 (ink ik_4 (by omega)) rfl (by decide) rfl (by decide) ?_
        refine Vm.aload_n (n := 82) 0 dX4_isWhole_81 rfl rfl ?_
        refine Vm.gX (n := 85) dX4_isWhole_82 rfl wf_RX4_18 (ink ik_4 (by omega)) rfl (by decide) rfl (by decide) ?_
        refine Vm.isub (n := 86) dX4_isWhole_85 rfl ?_
        refine Vm.icmp_lt (n := 89) 106 dX4_isWhole_86 rfl rfl (fun c9 => ?_) (fun c9 => ?_)
        · replace h := (if_pos c9).symm.trans h
          refine Vm.iconst (n := 107) (v := (0 : Int32)) dX4_isWhole_106 rfl (by decide) ?_
          obtain rfl := Option.some.inj h
          exact Vm.zret (b := false) dX4_isWhole_107 rfl rfl hk.1 (by rw [hσ]; exact hk.2.symm)
        · replace h := (if_neg c9).symm.trans h
          refine Vm.iload_n (n := 90) 2 dX4_isWhole_89 rfl rfl ?_
          refine Vm.aload_n (n := 91) 0 dX4_isWhole_90 rfl rfl ?_
          refine Vm.gX (n := 94) dX4_isWhole_91 rfl wf_RX4_15 (ink ik_4 (by omega)) rfl (by decide) rfl (by decide) ?_
          refine Vm.aload_n (n := 95) 0 dX4_isWhole_94 rfl rfl ?_
          refine Vm.gX (n := 98) dX4_isWhole_95 rfl wf_RX4_18 (ink ik_4 (by omega)) rfl (by decide) rfl (by decide) ?_
          refine Vm.iadd (n := 99) dX4_isWhole_98 rfl ?_
          refine Vm.icmp_gt (n := 102) 106 dX4_isWhole_99 rfl rfl (fun c9 => ?_) (fun c9 => ?_)
          · replace h := (if_pos c9).symm.trans h
            refine Vm.iconst (n := 107) (v := (0 : Int32)) dX4_isWhole_106 rfl (by decide) ?_
            obtain rfl := Option.some.inj h
            exact Vm.zret (b := false) dX4_isWhole_107 rfl rfl hk.1 (by rw [hσ]; exact hk.2.symm)
          · replace h := (if_neg c9).symm.trans h
            refine Vm.iconst (n := 103) (v := (1 : Int32)) dX4_isWhole_102 rfl (by decide) ?_
            refine Vm.goto 107 dX4_isWhole_103 rfl ?_
            obtain rfl := Option.some.inj h
            exact Vm.zret (b := true) dX4_isWhole_107 rfl rfl hk.1 (by rw [hσ]; exact hk.2.symm)
      · replace h := (if_neg c52).symm.trans h
        by_cases c53 : (σ.1 4 a0 0).toInt = (3 : Int)
        · replace h := (if_pos c53).symm.trans h
          refine Vm.tswI (3) 108 dX4_isWhole_4 c53 (by decide) rfl rfl ?_
          refine Vm.aload_n (n := 109) 0 dX4_isWhole_108 rfl rfl ?_
          refine Vm.gX (n := 112) dX4_isWhole_109 rfl wf_RX4_18 (ink ik_4 (by omega)) rfl (by decide) rfl (by decide) ?_
          refine Vm.iconst (n := 113) (v := (1 : Int32)) dX4_isWhole_112 rfl (by decide) ?_
          refine Vm.icmp_eq (n := 116) 129 dX4_isWhole_113 rfl rfl (fun c9 => ?_) (fun c9 => ?_)
          · replace h := (if_pos c9).symm.trans h
            refine Vm.sub (lv' := []) [] rfl ?_
            exact lX4_isWhole_129 σ σ0 τ hσ h hk
          · replace h := (if_neg c9).symm.trans h
            refine Vm.iload_n (n := 117) 1 dX4_isWhole_116 rfl rfl ?_
            refine Vm.iload_n (n := 118) 2 dX4_isWhole_117 rfl rfl ?_
            refine Vm.icmp_ne (n := 121) 133 dX4_isWhole_118 rfl rfl (fun c9 => ?_) (fun c9 => ?_)
            · replace h := (if_neg c9).symm.trans h
              refine Vm.iconst (n := 134) (v := (0 : Int32)) dX4_isWhole_133 rfl (by decide) ?_
              obtain rfl := Option.some.inj h
              exact Vm.zret (b := false) dX4_isWhole_134 rfl rfl hk.1 (by rw [hσ]; exact hk.2.symm)
            · replace h := (if_pos c9).symm.trans h
              refine Vm.aload_n (n := 122) 0 dX4_isWhole_121 rfl rfl ?_
              refine Vm.iload_n (n := 123) 1 dX4_isWhole_122 rfl rfl ?_
              replace h := Option.bind_eq_some_iff.mp h
              obtain ⟨q1, h1, h⟩ := h
              refine Vm.callV (Y := mX4_allows) (n := 126) [.inl a1] dX4_isWhole_123 rfl wv_RX4_51 omX4_allows rfl (ink ik_4 (by omega)) rfl rfl rfl (Nat.le_of_ble_eq_true rfl) (by decide) (kX4_allows a0 (by omega) a1 σ τ h1) ?_
              refine Vm.if_eq (n := 129) 133 dX4_isWhole_126 rfl rfl (fun c9 => ?_) (fun c9 => ?_)
              · replace h := (if_pos c9).symm.trans h
                refine Vm.iconst (n := 134) (v := (0 : Int32)) dX4_isWhole_133 rfl (by decide) ?_
                obtain rfl := Option.some.inj h
                exact Vm.zret (b := false) dX4_isWhole_134 rfl rfl hk.1 (by rw [hσ]; exact hk.2.symm)
              · replace h := (if_neg c9).symm.trans h
                refine Vm.sub (lv' := []) [] rfl ?_
                exact lX4_isWhole_129 σ σ0 τ hσ h hk
        · replace h := (if_neg c53).symm.trans h
          by_cases c54 : (σ.1 4 a0 0).toInt = (4 : Int)
          · replace h := (if_pos c54).symm.trans h
            refine Vm.tswI (4) 135 dX4_isWhole_4 c54 (by decide) rfl rfl ?_
            refine Vm.iload_n (n := 136) 2 dX4_isWhole_135 rfl rfl ?_
            refine Vm.aload_n (n := 137) 0 dX4_isWhole_136 rfl rfl ?_
            refine Vm.gX (n := 140) dX4_isWhole_137 rfl wf_RX4_15 (ink ik_4 (by omega)) rfl (by decide) rfl (by decide) ?_
            refine Vm.aload_n (n := 141) 0 dX4_isWhole_140 rfl rfl ?_
            refine Vm.gX (n := 144) dX4_isWhole_141 rfl wf_RX4_18 (ink ik_4 (by omega)) rfl (by decide) rfl (by decide) ?_
            refine Vm.isub (n := 145) dX4_isWhole_144 rfl ?_
            refine Vm.icmp_lt (n := 148) 161 dX4_isWhole_145 rfl rfl (fun c9 => ?_) (fun c9 => ?_)
            · replace h := (if_pos c9).symm.trans h
              refine Vm.sub (lv' := []) [] rfl ?_
              exact lX4_isWhole_161 σ σ0 τ hσ h hk
            · replace h := (if_neg c9).symm.trans h
              refine Vm.iload_n (n := 149) 1 dX4_isWhole_148 rfl rfl ?_
              refine Vm.aload_n (n := 150) 0 dX4_isWhole_149 rfl rfl ?_
              refine Vm.gX (n := 153) dX4_isWhole_150 rfl wf_RX4_15 (ink ik_4 (by omega)) rfl (by decide) rfl (by decide) ?_
              refine Vm.aload_n (n := 154) 0 dX4_isWhole_153 rfl rfl ?_
              refine Vm.gX (n := 157) dX4_isWhole_154 rfl wf_RX4_18 (ink ik_4 (by omega)) rfl (by decide) rfl (by decide) ?_
              refine Vm.iadd (n := 158) dX4_isWhole_157 rfl ?_
              refine Vm.icmp_le (n := 161) 165 dX4_isWhole_158 rfl rfl (fun c9 => ?_) (fun c9 => ?_)
              · replace h := (if_pos c9).symm.trans h
                refine Vm.iconst (n := 166) (v := (0 : Int32)) dX4_isWhole_165 rfl (by decide) ?_
                obtain rfl := Option.some.inj h
                exact Vm.zret (b := false) dX4_isWhole_166 rfl rfl hk.1 (by rw [hσ]; exact hk.2.symm)
              · replace h := (if_neg c9).symm.trans h
                refine Vm.sub (lv' := []) [] rfl ?_
                exact lX4_isWhole_161 σ σ0 τ hσ h hk
          · replace h := (if_neg c54).symm.trans h
            refine Vm.tswO 167 dX4_isWhole_4 (by omega) rfl ?_
            refine Vm.iload_n (n := 168) 1 dX4_isWhole_167 rfl rfl ?_
            refine Vm.aload_n (n := 169) 0 dX4_isWhole_168 rfl rfl ?_
            refine Vm.gX (n := 172) dX4_isWhole_169 rfl wf_RX4_15 (ink ik_4 (by omega)) rfl (by decide) rfl (by decide) ?_
            refine Vm.icmp_lt (n := 175) 179 dX4_isWhole_172 rfl rfl (fun c9 => ?_) (fun c9 => ?_)
            · replace h := (if_pos c9).symm.trans h
              refine Vm.iconst (n := 180) (v := (0 : Int32)) dX4_isWhole_179 rfl (by decide) ?_
              obtain rfl := Option.some.inj h
              exact Vm.zret (b := false) dX4_isWhole_180 rfl rfl hk.1 (by rw [hσ]; exact hk.2.symm)
            · replace h := (if_neg c9).symm.trans h
              refine Vm.iconst (n := 176) (v := (1 : Int32)) dX4_isWhole_175 rfl (by decide) ?_
              refine Vm.goto 180 dX4_isWhole_176 rfl ?_
              obtain rfl := Option.some.inj h
              exact Vm.zret (b := true) dX4_isWhole_180 rfl rfl hk.1 (by rw [hσ]; exact hk.2.symm)
theorem kX4_isWhole (a0 : Nat) (ha0 : a0 < 24) (a1 : Int32) (a2 : Int32) (σ τ : mm) {q : Bool} (h : fX4_isWhole a0 a1 a2 σ = some q) : Cx mX4_isWhole 3 [.inr (.inr (4, a0)), .inl a1, .inl a2] (σ, τ) (some (.inl (bi q))) (σ, τ) :=
  Cx.of (lv := [(0, .inr (.inr (4, a0))), (1, .inl a1), (2, .inl a2)]) (by decide) (fun ad => Nat.le_of_ble_eq_true rfl) (fun ad => rfl) (lX4_isWhole_0 a0 ha0 a1 a2 σ σ τ rfl h ⟨rfl, rfl⟩)
-- ThinBodies$Tree verdictOf (LThinBodies$Body;)I
noncomputable def fX6_verdictOf_87 (a1 : Nat) (a2 : Int32) (a3 : Int32) (σ : mm) : Option ((Int32 × Int32) ⊕ (Int32)) :=
  Option.bind (some (a3 + (1 : Int32))) fun x1 =>
  some (.inl (a2, x1))
noncomputable def fX6_verdictOf_4 (a1 : Nat) (a2 : Int32) (a3 : Int32) (σ : mm) : Option ((Int32 × Int32) ⊕ (Int32)) :=
  if (σ.1 0 a1 4) ≤ a3 then
  some (.inr (a2))
  else
  Option.bind (rdR 8 a3) fun k1 =>
  Option.bind (fX4_leastIn_15_16 (8 * a1 + k1) (σ.1 0 a1 0) σ) fun q2 =>
  Option.bind (fX4_mostIn_15_16 (8 * a1 + k1) (σ.1 0 a1 0) σ) fun q3 =>
  Option.bind (fX4_isDead (8 * a1 + k1) q2 q3 σ) fun q4 =>
  if (bi q4) = (0 : Int32) then
  Option.bind (fX4_isWhole (8 * a1 + k1) q2 q3 σ) fun q5 =>
  if (bi q5) = (0 : Int32) then
  fX6_verdictOf_87 a1 (-2 : Int32) a3 σ
  else
  fX6_verdictOf_87 a1 a2 a3 σ
  else
  some (.inr (a3))
noncomputable def fX6_verdictOf_4_L (a1 : Nat) (σ : mm) : Int32 × Int32 → Option ((Int32 × Int32) ⊕ (Int32)) := fun z => fX6_verdictOf_4 a1 z.1 z.2 σ
noncomputable def fX6_verdictOf_0 (a1 : Nat) (σ : mm) : Option (Int32) :=
  lp (fX6_verdictOf_4_L a1 σ) ((-1 : Int32), (0 : Int32))
noncomputable def fX6_verdictOf (a1 : Nat) (σ : mm) : Option (Int32) := fX6_verdictOf_0 a1 σ
set_option maxRecDepth 20000 in
theorem lX6_verdictOf_87 (a1 : Nat) (ha1 : a1 < 3) (a2 : Int32) (a3 : Int32) (σ σ0 τ : mm) (hσ : σ = σ0) {r : Option mv} {M' : mm × mm} {v9 : (Int32 × Int32) ⊕ (Int32)} (h : fX6_verdictOf_87 a1 a2 a3 σ = some v9) (hk : (Sum.elim (fun z : Int32 × Int32 => Vm mX6_verdictOf 4 4 [(0, .inr (.inr (6, 0))), (1, .inr (.inr (0, a1))), (2, .inl z.1), (3, .inl z.2)] [] (σ, τ) r M') (fun q : Int32 => r = some (.inl q) ∧ M' = (σ0, τ))) v9) : Vm mX6_verdictOf 4 87 [(0, .inr (.inr (6, 0))), (1, .inr (.inr (0, a1))), (2, .inl a2), (3, .inl a3)] [] (σ, τ) r M' := by
  unfold fX6_verdictOf_87 at h
  replace h := Option.bind_eq_some_iff.mp h
  obtain ⟨x1, e1, h⟩ := h
  replace e1 := Option.some.inj e1
  refine Vm.iinc (n := 90) (v := x1) (lv' := [(3, .inl x1), (0, .inr (.inr (6, 0))), (1, .inr (.inr (0, a1))), (2, .inl a2)]) 3 dX6_verdictOf_87 rfl rfl e1 (Nat.le_of_ble_eq_true rfl) rfl ?_
  refine Vm.goto 4 dX6_verdictOf_90 rfl ?_
  refine Vm.sub (lv' := [(0, .inr (.inr (6, 0))), (1, .inr (.inr (0, a1))), (2, .inl a2), (3, .inl x1)]) [1, 2, 3, 0] rfl ?_
  obtain rfl := Option.some.inj h
  exact hk
set_option maxRecDepth 20000 in
theorem lX6_verdictOf_4 (a1 : Nat) (ha1 : a1 < 3) (a2 : Int32) (a3 : Int32) (σ σ0 τ : mm) (hσ : σ = σ0) {r : Option mv} {M' : mm × mm} {v9 : (Int32 × Int32) ⊕ (Int32)} (h : fX6_verdictOf_4 a1 a2 a3 σ = some v9) (hk : (Sum.elim (fun z : Int32 × Int32 => Vm mX6_verdictOf 4 4 [(0, .inr (.inr (6, 0))), (1, .inr (.inr (0, a1))), (2, .inl z.1), (3, .inl z.2)] [] (σ, τ) r M') (fun q : Int32 => r = some (.inl q) ∧ M' = (σ0, τ))) v9) : Vm mX6_verdictOf 4 4 [(0, .inr (.inr (6, 0))), (1, .inr (.inr (0, a1))), (2, .inl a2), (3, .inl a3)] [] (σ, τ) r M' := by
  unfold fX6_verdictOf_4 at h
  refine Vm.iload_n (n := 5) 3 dX6_verdictOf_4 rfl rfl ?_
  refine Vm.aload_n (n := 6) 1 dX6_verdictOf_5 rfl rfl ?_
  refine Vm.gX (n := 9) dX6_verdictOf_6 rfl wf_RX6_74 (ink ik_0 (by omega)) rfl (by decide) rfl (by decide) ?_
  refine Vm.icmp_ge (n := 12) 93 dX6_verdictOf_9 rfl rfl (fun c9 => ?_) (fun c9 => ?_)
  · replace h := (if_pos c9).symm.trans h
    refine Vm.iload_n (n := 94) 2 dX6_verdictOf_93 rfl rfl ?_
    obtain rfl := Option.some.inj h
    exact Vm.iret dX6_verdictOf_94 rfl hk.1 (by rw [hσ]; exact hk.2.symm)
  · replace h := (if_neg c9).symm.trans h
    refine Vm.aload_n (n := 13) 1 dX6_verdictOf_12 rfl rfl ?_
    refine Vm.getR (n := 16) dX6_verdictOf_13 rfl wf_RX6_77 (ink ik_0 (by omega)) rfl (by decide) rfl ?_
    refine Vm.iload_n (n := 17) 3 dX6_verdictOf_16 rfl rfl ?_
    replace h := Option.bind_eq_some_iff.mp h
    obtain ⟨k1, h1, h⟩ := h
    refine Vm.aald (n := 18) dX6_verdictOf_17 rfl (ink ik_27 (by omega)) rfl rfl (by decide) (fun _ => rfl) rfl h1 ?_
    have g1 := rdR_lt h1
    refine Vm.astore (n := 20) (lv' := [(4, .inr (.inr (4, (8 * a1 + k1)))), (0, .inr (.inr (6, 0))), (1, .inr (.inr (0, a1))), (2, .inl a2), (3, .inl a3)]) dX6_verdictOf_18 rfl (Nat.le_of_ble_eq_true rfl) rfl ?_
    refine Vm.aload (n := 22) 0 dX6_verdictOf_20 rfl rfl ?_
    refine Vm.aload_n (n := 23) 1 dX6_verdictOf_22 rfl rfl ?_
    refine Vm.getR (n := 26) dX6_verdictOf_23 rfl wf_RX6_32 in_6 rfl (by decide) rfl ?_
    refine Vm.aload_n (n := 27) 1 dX6_verdictOf_26 rfl rfl ?_
    refine Vm.getR (n := 30) dX6_verdictOf_27 rfl wf_RX6_36 in_6 rfl (by decide) rfl ?_
    refine Vm.aload_n (n := 31) 2 dX6_verdictOf_30 rfl rfl ?_
    refine Vm.gX (n := 34) dX6_verdictOf_31 rfl wf_RX6_57 (ink ik_0 (by omega)) rfl (by decide) rfl (by decide) ?_
    replace h := Option.bind_eq_some_iff.mp h
    obtain ⟨q2, h2, h⟩ := h
    refine Vm.callV (Y := mX4_leastIn) (n := 37) [.inr (.inr (15, 0)), .inr (.inr (16, 0)), .inl (σ.1 0 a1 0)] dX6_verdictOf_34 rfl wv_RX6_81 omX4_leastIn rfl (ink ik_4 (by omega)) rfl rfl rfl (Nat.le_of_ble_eq_true rfl) (by decide) (kX4_leastIn_15_16 (8 * a1 + k1) (by omega) (σ.1 0 a1 0) σ τ h2) ?_
    refine Vm.istore (n := 39) (lv' := [(5, .inl q2), (4, .inr (.inr (4, (8 * a1 + k1)))), (0, .inr (.inr (6, 0))), (1, .inr (.inr (0, a1))), (2, .inl a2), (3, .inl a3)]) dX6_verdictOf_37 rfl (Nat.le_of_ble_eq_true rfl) rfl ?_
    refine Vm.aload (n := 41) 1 dX6_verdictOf_39 rfl rfl ?_
    refine Vm.aload_n (n := 42) 2 dX6_verdictOf_41 rfl rfl ?_
    refine Vm.getR (n := 45) dX6_verdictOf_42 rfl wf_RX6_32 in_6 rfl (by decide) rfl ?_
    refine Vm.aload_n (n := 46) 2 dX6_verdictOf_45 rfl rfl ?_
    refine Vm.getR (n := 49) dX6_verdictOf_46 rfl wf_RX6_36 in_6 rfl (by decide) rfl ?_
    refine Vm.aload_n (n := 50) 3 dX6_verdictOf_49 rfl rfl ?_
    refine Vm.gX (n := 53) dX6_verdictOf_50 rfl wf_RX6_57 (ink ik_0 (by omega)) rfl (by decide) rfl (by decide) ?_
    replace h := Option.bind_eq_some_iff.mp h
    obtain ⟨q3, h3, h⟩ := h
    refine Vm.callV (Y := mX4_mostIn) (n := 56) [.inr (.inr (15, 0)), .inr (.inr (16, 0)), .inl (σ.1 0 a1 0)] dX6_verdictOf_53 rfl wv_RX6_87 omX4_mostIn rfl (ink ik_4 (by omega)) rfl rfl rfl (Nat.le_of_ble_eq_true rfl) (by decide) (kX4_mostIn_15_16 (8 * a1 + k1) (by omega) (σ.1 0 a1 0) σ τ h3) ?_
    refine Vm.istore (n := 58) (lv' := [(6, .inl q3), (5, .inl q2), (4, .inr (.inr (4, (8 * a1 + k1)))), (0, .inr (.inr (6, 0))), (1, .inr (.inr (0, a1))), (2, .inl a2), (3, .inl a3)]) dX6_verdictOf_56 rfl (Nat.le_of_ble_eq_true rfl) rfl ?_
    refine Vm.aload (n := 60) 2 dX6_verdictOf_58 rfl rfl ?_
    refine Vm.iload (n := 62) 1 dX6_verdictOf_60 rfl rfl ?_
    refine Vm.iload (n := 64) 0 dX6_verdictOf_62 rfl rfl ?_
    replace h := Option.bind_eq_some_iff.mp h
    obtain ⟨q4, h4, h⟩ := h
    refine Vm.callV (Y := mX4_isDead) (n := 67) [.inl q2, .inl q3] dX6_verdictOf_64 rfl wv_RX6_90 omX4_isDead rfl (ink ik_4 (by omega)) rfl rfl rfl (Nat.le_of_ble_eq_true rfl) (by decide) (kX4_isDead (8 * a1 + k1) (by omega) q2 q3 σ τ h4) ?_
    refine Vm.if_eq (n := 70) 72 dX6_verdictOf_67 rfl rfl (fun c9 => ?_) (fun c9 => ?_)
    · replace h := (if_pos c9).symm.trans h
      refine Vm.aload (n := 74) 2 dX6_verdictOf_72 rfl rfl ?_
      refine Vm.iload (n := 76) 1 dX6_verdictOf_74 rfl rfl ?_
      refine Vm.iload (n := 78) 0 dX6_verdictOf_76 rfl rfl ?_
      replace h := Option.bind_eq_some_iff.mp h
      obtain ⟨q5, h5, h⟩ := h
      refine Vm.callV (Y := mX4_isWhole) (n := 81) [.inl q2, .inl q3] dX6_verdictOf_78 rfl wv_RX6_94 omX4_isWhole rfl (ink ik_4 (by omega)) rfl rfl rfl (Nat.le_of_ble_eq_true rfl) (by decide) (kX4_isWhole (8 * a1 + k1) (by omega) q2 q3 σ τ h5) ?_
      refine Vm.if_ne (n := 84) 87 dX6_verdictOf_81 rfl rfl (fun c9 => ?_) (fun c9 => ?_)
      · replace h := (if_neg c9).symm.trans h
        refine Vm.sub (lv' := [(0, .inr (.inr (6, 0))), (1, .inr (.inr (0, a1))), (2, .inl a2), (3, .inl a3)]) [3, 4, 5, 6] rfl ?_
        exact lX6_verdictOf_87 a1 (by omega) a2 a3 σ σ0 τ hσ h hk
      · replace h := (if_pos c9).symm.trans h
        refine Vm.bipush (n := 86) (v := (-2 : Int32)) dX6_verdictOf_84 rfl (by decide) ?_
        refine Vm.istore_n (n := 87) (lv' := [(2, .inl (-2 : Int32)), (6, .inl q3), (5, .inl q2), (4, .inr (.inr (4, (8 * a1 + k1)))), (0, .inr (.inr (6, 0))), (1, .inr (.inr (0, a1))), (3, .inl a3)]) dX6_verdictOf_86 rfl (Nat.le_of_ble_eq_true rfl) rfl ?_
        refine Vm.sub (lv' := [(0, .inr (.inr (6, 0))), (1, .inr (.inr (0, a1))), (2, .inl (-2 : Int32)), (3, .inl a3)]) [4, 5, 0, 6] rfl ?_
        exact lX6_verdictOf_87 a1 (by omega) (-2 : Int32) a3 σ σ0 τ hσ h hk
    · replace h := (if_neg c9).symm.trans h
      refine Vm.iload_n (n := 71) 6 dX6_verdictOf_70 rfl rfl ?_
      obtain rfl := Option.some.inj h
      exact Vm.iret dX6_verdictOf_71 rfl hk.1 (by rw [hσ]; exact hk.2.symm)
theorem lX6_verdictOf_4_L (a1 : Nat) (ha1 : a1 < 3) (σ σ0 τ : mm) (hσ : σ = σ0) {r : Option mv} {M' : mm × mm} (z : Int32 × Int32) (w9 : Int32) (h : lp (fX6_verdictOf_4_L a1 σ) z = some w9) (hk : (fun q : Int32 => r = some (.inl q) ∧ M' = (σ0, τ)) w9) : Vm mX6_verdictOf 4 4 [(0, .inr (.inr (6, 0))), (1, .inr (.inr (0, a1))), (2, .inl z.1), (3, .inl z.2)] [] (σ, τ) r M' :=
  lp_link (S := Int32 × Int32) (R := Int32) (body := fX6_verdictOf_4_L a1 σ) (A := fun z : Int32 × Int32 => Vm mX6_verdictOf 4 4 [(0, .inr (.inr (6, 0))), (1, .inr (.inr (0, a1))), (2, .inl z.1), (3, .inl z.2)] [] (σ, τ) r M') (B := fun w : Int32 => (fun q : Int32 => r = some (.inl q) ∧ M' = (σ0, τ)) w) (fun z v hb hv => lX6_verdictOf_4 a1 ha1 z.1 z.2 σ σ0 τ hσ hb hv) z w9 h hk
set_option maxRecDepth 20000 in
theorem lX6_verdictOf_0 (a1 : Nat) (ha1 : a1 < 3) (σ σ0 τ : mm) (hσ : σ = σ0) {r : Option mv} {M' : mm × mm} {v9 : Int32} (h : fX6_verdictOf_0 a1 σ = some v9) (hk : (fun q : Int32 => r = some (.inl q) ∧ M' = (σ0, τ)) v9) : Vm mX6_verdictOf 4 0 [(0, .inr (.inr (6, 0))), (1, .inr (.inr (0, a1)))] [] (σ, τ) r M' := by
  unfold fX6_verdictOf_0 at h
  refine Vm.iconst (n := 1) (v := (-1 : Int32)) dX6_verdictOf_0 rfl (by decide) ?_
  refine Vm.istore_n (n := 2) (lv' := [(2, .inl (-1 : Int32)), (0, .inr (.inr (6, 0))), (1, .inr (.inr (0, a1)))]) dX6_verdictOf_1 rfl (Nat.le_of_ble_eq_true rfl) rfl ?_
  refine Vm.iconst (n := 3) (v := (0 : Int32)) dX6_verdictOf_2 rfl (by decide) ?_
  refine Vm.istore_n (n := 4) (lv' := [(3, .inl (0 : Int32)), (2, .inl (-1 : Int32)), (0, .inr (.inr (6, 0))), (1, .inr (.inr (0, a1)))]) dX6_verdictOf_3 rfl (Nat.le_of_ble_eq_true rfl) rfl ?_
  refine Vm.sub (lv' := [(0, .inr (.inr (6, 0))), (1, .inr (.inr (0, a1))), (2, .inl (-1 : Int32)), (3, .inl (0 : Int32))]) [2, 3, 1, 0] rfl ?_
  exact lX6_verdictOf_4_L a1 (by omega) σ σ0 τ hσ ((-1 : Int32), (0 : Int32)) _ h hk
theorem kX6_verdictOf (a1 : Nat) (ha1 : a1 < 3) (σ τ : mm) {q : Int32} (h : fX6_verdictOf a1 σ = some q) : Cx mX6_verdictOf 4 [.inr (.inr (6, 0)), .inr (.inr (0, a1))] (σ, τ) (some (.inl q)) (σ, τ) :=
  Cx.of (lv := [(0, .inr (.inr (6, 0))), (1, .inr (.inr (0, a1)))]) (by decide) (fun ad => Nat.le_of_ble_eq_true rfl) (fun ad => rfl) (lX6_verdictOf_0 a1 ha1 σ σ τ rfl h ⟨rfl, rfl⟩)
-- ThinBodies pack ([II)I
noncomputable def fX7_pack_15_4 (a1 : Int32) (a2 : Int32) (a3 : Int32) (σ : mm) : Option ((Int32 × Int32) ⊕ (Int32)) :=
  if a1 ≤ a3 then
  some (.inr (a2))
  else
  Option.bind (rdI σ 15 0 4 a3) fun x1 =>
  Option.bind (some (a2 ||| ((x1 + (9 : Int32)) <<< (((5 : Int32) * a3) &&& 31)))) fun x2 =>
  Option.bind (some (a3 + (1 : Int32))) fun x3 =>
  some (.inl (x2, x3))
noncomputable def fX7_pack_15_4_L (a1 : Int32) (σ : mm) : Int32 × Int32 → Option ((Int32 × Int32) ⊕ (Int32)) := fun z => fX7_pack_15_4 a1 z.1 z.2 σ
noncomputable def fX7_pack_15_0 (a1 : Int32) (σ : mm) : Option (Int32) :=
  lp (fX7_pack_15_4_L a1 σ) ((0 : Int32), (0 : Int32))
noncomputable def fX7_pack_15 (a1 : Int32) (σ : mm) : Option (Int32) := fX7_pack_15_0 a1 σ
set_option maxRecDepth 20000 in
theorem lX7_pack_15_4 (a1 : Int32) (a2 : Int32) (a3 : Int32) (σ σ0 τ : mm) (hσ : σ = σ0) {r : Option mv} {M' : mm × mm} {v9 : (Int32 × Int32) ⊕ (Int32)} (h : fX7_pack_15_4 a1 a2 a3 σ = some v9) (hk : (Sum.elim (fun z : Int32 × Int32 => Vm mX7_pack 0 4 [(0, .inr (.inr (15, 0))), (1, .inl a1), (2, .inl z.1), (3, .inl z.2)] [] (σ, τ) r M') (fun q : Int32 => r = some (.inl q) ∧ M' = (σ0, τ))) v9) : Vm mX7_pack 0 4 [(0, .inr (.inr (15, 0))), (1, .inl a1), (2, .inl a2), (3, .inl a3)] [] (σ, τ) r M' := by
  unfold fX7_pack_15_4 at h
  refine Vm.iload_n (n := 5) 3 dX7_pack_4 rfl rfl ?_
  refine Vm.iload_n (n := 6) 1 dX7_pack_5 rfl rfl ?_
  refine Vm.icmp_ge (n := 9) 28 dX7_pack_6 rfl rfl (fun c9 => ?_) (fun c9 => ?_)
  · replace h := (if_pos c9).symm.trans h
    refine Vm.iload_n (n := 29) 2 dX7_pack_28 rfl rfl ?_
    obtain rfl := Option.some.inj h
    exact Vm.iret dX7_pack_29 rfl hk.1 (by rw [hσ]; exact hk.2.symm)
  · replace h := (if_neg c9).symm.trans h
    refine Vm.iload_n (n := 10) 2 dX7_pack_9 rfl rfl ?_
    refine Vm.aload_n (n := 11) 0 dX7_pack_10 rfl rfl ?_
    refine Vm.iload_n (n := 12) 3 dX7_pack_11 rfl rfl ?_
    replace h := Option.bind_eq_some_iff.mp h
    obtain ⟨x1, h1, h⟩ := h
    refine Vm.ialdx (n := 13) dX7_pack_12 rfl in_15 rfl rfl (by decide) h1 ?_
    refine Vm.bipush (n := 15) (v := (9 : Int32)) dX7_pack_13 rfl (by decide) ?_
    refine Vm.iadd (n := 16) dX7_pack_15 rfl ?_
    refine Vm.iconst (n := 17) (v := (5 : Int32)) dX7_pack_16 rfl (by decide) ?_
    refine Vm.iload_n (n := 18) 3 dX7_pack_17 rfl rfl ?_
    refine Vm.imul (n := 19) dX7_pack_18 rfl ?_
    refine Vm.ishl (n := 20) dX7_pack_19 rfl ?_
    refine Vm.ior (n := 21) dX7_pack_20 rfl ?_
    replace h := Option.bind_eq_some_iff.mp h
    obtain ⟨x2, e2, h⟩ := h
    replace e2 := Option.some.inj e2
    refine Vm.top e2 ?_
    refine Vm.istore_n (n := 22) (lv' := [(2, .inl x2), (0, .inr (.inr (15, 0))), (1, .inl a1), (3, .inl a3)]) dX7_pack_21 rfl (Nat.le_of_ble_eq_true rfl) rfl ?_
    replace h := Option.bind_eq_some_iff.mp h
    obtain ⟨x3, e3, h⟩ := h
    replace e3 := Option.some.inj e3
    refine Vm.iinc (n := 25) (v := x3) (lv' := [(3, .inl x3), (2, .inl x2), (0, .inr (.inr (15, 0))), (1, .inl a1)]) 3 dX7_pack_22 rfl rfl e3 (Nat.le_of_ble_eq_true rfl) rfl ?_
    refine Vm.goto 4 dX7_pack_25 rfl ?_
    refine Vm.sub (lv' := [(0, .inr (.inr (15, 0))), (1, .inl a1), (2, .inl x2), (3, .inl x3)]) [2, 3, 1, 0] rfl ?_
    obtain rfl := Option.some.inj h
    exact hk
theorem lX7_pack_15_4_L (a1 : Int32) (σ σ0 τ : mm) (hσ : σ = σ0) {r : Option mv} {M' : mm × mm} (z : Int32 × Int32) (w9 : Int32) (h : lp (fX7_pack_15_4_L a1 σ) z = some w9) (hk : (fun q : Int32 => r = some (.inl q) ∧ M' = (σ0, τ)) w9) : Vm mX7_pack 0 4 [(0, .inr (.inr (15, 0))), (1, .inl a1), (2, .inl z.1), (3, .inl z.2)] [] (σ, τ) r M' :=
  lp_link (S := Int32 × Int32) (R := Int32) (body := fX7_pack_15_4_L a1 σ) (A := fun z : Int32 × Int32 => Vm mX7_pack 0 4 [(0, .inr (.inr (15, 0))), (1, .inl a1), (2, .inl z.1), (3, .inl z.2)] [] (σ, τ) r M') (B := fun w : Int32 => (fun q : Int32 => r = some (.inl q) ∧ M' = (σ0, τ)) w) (fun z v hb hv => lX7_pack_15_4 a1 z.1 z.2 σ σ0 τ hσ hb hv) z w9 h hk
set_option maxRecDepth 20000 in
theorem lX7_pack_15_0 (a1 : Int32) (σ σ0 τ : mm) (hσ : σ = σ0) {r : Option mv} {M' : mm × mm} {v9 : Int32} (h : fX7_pack_15_0 a1 σ = some v9) (hk : (fun q : Int32 => r = some (.inl q) ∧ M' = (σ0, τ)) v9) : Vm mX7_pack 0 0 [(0, .inr (.inr (15, 0))), (1, .inl a1)] [] (σ, τ) r M' := by
  unfold fX7_pack_15_0 at h
  refine Vm.iconst (n := 1) (v := (0 : Int32)) dX7_pack_0 rfl (by decide) ?_
  refine Vm.istore_n (n := 2) (lv' := [(2, .inl (0 : Int32)), (0, .inr (.inr (15, 0))), (1, .inl a1)]) dX7_pack_1 rfl (Nat.le_of_ble_eq_true rfl) rfl ?_
  refine Vm.iconst (n := 3) (v := (0 : Int32)) dX7_pack_2 rfl (by decide) ?_
  refine Vm.istore_n (n := 4) (lv' := [(3, .inl (0 : Int32)), (2, .inl (0 : Int32)), (0, .inr (.inr (15, 0))), (1, .inl a1)]) dX7_pack_3 rfl (Nat.le_of_ble_eq_true rfl) rfl ?_
  refine Vm.sub (lv' := [(0, .inr (.inr (15, 0))), (1, .inl a1), (2, .inl (0 : Int32)), (3, .inl (0 : Int32))]) [2, 3, 1, 0] rfl ?_
  exact lX7_pack_15_4_L a1 σ σ0 τ hσ ((0 : Int32), (0 : Int32)) _ h hk
theorem kX7_pack_15 (a1 : Int32) (σ τ : mm) {q : Int32} (h : fX7_pack_15 a1 σ = some q) : Cx mX7_pack 0 [.inr (.inr (15, 0)), .inl a1] (σ, τ) (some (.inl q)) (σ, τ) :=
  Cx.of (lv := [(0, .inr (.inr (15, 0))), (1, .inl a1)]) (by decide) (fun ad => Nat.le_of_ble_eq_true rfl) (fun ad => rfl) (lX7_pack_15_0 a1 σ σ τ rfl h ⟨rfl, rfl⟩)
-- ThinBodies pack ([II)I
noncomputable def fX7_pack_16_4 (a1 : Int32) (a2 : Int32) (a3 : Int32) (σ : mm) : Option ((Int32 × Int32) ⊕ (Int32)) :=
  if a1 ≤ a3 then
  some (.inr (a2))
  else
  Option.bind (rdI σ 16 0 4 a3) fun x1 =>
  Option.bind (some (a2 ||| ((x1 + (9 : Int32)) <<< (((5 : Int32) * a3) &&& 31)))) fun x2 =>
  Option.bind (some (a3 + (1 : Int32))) fun x3 =>
  some (.inl (x2, x3))
noncomputable def fX7_pack_16_4_L (a1 : Int32) (σ : mm) : Int32 × Int32 → Option ((Int32 × Int32) ⊕ (Int32)) := fun z => fX7_pack_16_4 a1 z.1 z.2 σ
noncomputable def fX7_pack_16_0 (a1 : Int32) (σ : mm) : Option (Int32) :=
  lp (fX7_pack_16_4_L a1 σ) ((0 : Int32), (0 : Int32))
noncomputable def fX7_pack_16 (a1 : Int32) (σ : mm) : Option (Int32) := fX7_pack_16_0 a1 σ
set_option maxRecDepth 20000 in
theorem lX7_pack_16_4 (a1 : Int32) (a2 : Int32) (a3 : Int32) (σ σ0 τ : mm) (hσ : σ = σ0) {r : Option mv} {M' : mm × mm} {v9 : (Int32 × Int32) ⊕ (Int32)} (h : fX7_pack_16_4 a1 a2 a3 σ = some v9) (hk : (Sum.elim (fun z : Int32 × Int32 => Vm mX7_pack 0 4 [(0, .inr (.inr (16, 0))), (1, .inl a1), (2, .inl z.1), (3, .inl z.2)] [] (σ, τ) r M') (fun q : Int32 => r = some (.inl q) ∧ M' = (σ0, τ))) v9) : Vm mX7_pack 0 4 [(0, .inr (.inr (16, 0))), (1, .inl a1), (2, .inl a2), (3, .inl a3)] [] (σ, τ) r M' := by
  unfold fX7_pack_16_4 at h
  refine Vm.iload_n (n := 5) 3 dX7_pack_4 rfl rfl ?_
  refine Vm.iload_n (n := 6) 1 dX7_pack_5 rfl rfl ?_
  refine Vm.icmp_ge (n := 9) 28 dX7_pack_6 rfl rfl (fun c9 => ?_) (fun c9 => ?_)
  · replace h := (if_pos c9).symm.trans h
    refine Vm.iload_n (n := 29) 2 dX7_pack_28 rfl rfl ?_
    obtain rfl := Option.some.inj h
    exact Vm.iret dX7_pack_29 rfl hk.1 (by rw [hσ]; exact hk.2.symm)
  · replace h := (if_neg c9).symm.trans h
    refine Vm.iload_n (n := 10) 2 dX7_pack_9 rfl rfl ?_
    refine Vm.aload_n (n := 11) 0 dX7_pack_10 rfl rfl ?_
    refine Vm.iload_n (n := 12) 3 dX7_pack_11 rfl rfl ?_
    replace h := Option.bind_eq_some_iff.mp h
    obtain ⟨x1, h1, h⟩ := h
    refine Vm.ialdx (n := 13) dX7_pack_12 rfl in_16 rfl rfl (by decide) h1 ?_
    refine Vm.bipush (n := 15) (v := (9 : Int32)) dX7_pack_13 rfl (by decide) ?_
    refine Vm.iadd (n := 16) dX7_pack_15 rfl ?_
    refine Vm.iconst (n := 17) (v := (5 : Int32)) dX7_pack_16 rfl (by decide) ?_
    refine Vm.iload_n (n := 18) 3 dX7_pack_17 rfl rfl ?_
    refine Vm.imul (n := 19) dX7_pack_18 rfl ?_
    refine Vm.ishl (n := 20) dX7_pack_19 rfl ?_
    refine Vm.ior (n := 21) dX7_pack_20 rfl ?_
    replace h := Option.bind_eq_some_iff.mp h
    obtain ⟨x2, e2, h⟩ := h
    replace e2 := Option.some.inj e2
    refine Vm.top e2 ?_
    refine Vm.istore_n (n := 22) (lv' := [(2, .inl x2), (0, .inr (.inr (16, 0))), (1, .inl a1), (3, .inl a3)]) dX7_pack_21 rfl (Nat.le_of_ble_eq_true rfl) rfl ?_
    replace h := Option.bind_eq_some_iff.mp h
    obtain ⟨x3, e3, h⟩ := h
    replace e3 := Option.some.inj e3
    refine Vm.iinc (n := 25) (v := x3) (lv' := [(3, .inl x3), (2, .inl x2), (0, .inr (.inr (16, 0))), (1, .inl a1)]) 3 dX7_pack_22 rfl rfl e3 (Nat.le_of_ble_eq_true rfl) rfl ?_
    refine Vm.goto 4 dX7_pack_25 rfl ?_
    refine Vm.sub (lv' := [(0, .inr (.inr (16, 0))), (1, .inl a1), (2, .inl x2), (3, .inl x3)]) [2, 3, 1, 0] rfl ?_
    obtain rfl := Option.some.inj h
    exact hk
theorem lX7_pack_16_4_L (a1 : Int32) (σ σ0 τ : mm) (hσ : σ = σ0) {r : Option mv} {M' : mm × mm} (z : Int32 × Int32) (w9 : Int32) (h : lp (fX7_pack_16_4_L a1 σ) z = some w9) (hk : (fun q : Int32 => r = some (.inl q) ∧ M' = (σ0, τ)) w9) : Vm mX7_pack 0 4 [(0, .inr (.inr (16, 0))), (1, .inl a1), (2, .inl z.1), (3, .inl z.2)] [] (σ, τ) r M' :=
  lp_link (S := Int32 × Int32) (R := Int32) (body := fX7_pack_16_4_L a1 σ) (A := fun z : Int32 × Int32 => Vm mX7_pack 0 4 [(0, .inr (.inr (16, 0))), (1, .inl a1), (2, .inl z.1), (3, .inl z.2)] [] (σ, τ) r M') (B := fun w : Int32 => (fun q : Int32 => r = some (.inl q) ∧ M' = (σ0, τ)) w) (fun z v hb hv => lX7_pack_16_4 a1 z.1 z.2 σ σ0 τ hσ hb hv) z w9 h hk
set_option maxRecDepth 20000 in
theorem lX7_pack_16_0 (a1 : Int32) (σ σ0 τ : mm) (hσ : σ = σ0) {r : Option mv} {M' : mm × mm} {v9 : Int32} (h : fX7_pack_16_0 a1 σ = some v9) (hk : (fun q : Int32 => r = some (.inl q) ∧ M' = (σ0, τ)) v9) : Vm mX7_pack 0 0 [(0, .inr (.inr (16, 0))), (1, .inl a1)] [] (σ, τ) r M' := by
  unfold fX7_pack_16_0 at h
  refine Vm.iconst (n := 1) (v := (0 : Int32)) dX7_pack_0 rfl (by decide) ?_
  refine Vm.istore_n (n := 2) (lv' := [(2, .inl (0 : Int32)), (0, .inr (.inr (16, 0))), (1, .inl a1)]) dX7_pack_1 rfl (Nat.le_of_ble_eq_true rfl) rfl ?_
  refine Vm.iconst (n := 3) (v := (0 : Int32)) dX7_pack_2 rfl (by decide) ?_
  refine Vm.istore_n (n := 4) (lv' := [(3, .inl (0 : Int32)), (2, .inl (0 : Int32)), (0, .inr (.inr (16, 0))), (1, .inl a1)]) dX7_pack_3 rfl (Nat.le_of_ble_eq_true rfl) rfl ?_
  refine Vm.sub (lv' := [(0, .inr (.inr (16, 0))), (1, .inl a1), (2, .inl (0 : Int32)), (3, .inl (0 : Int32))]) [2, 3, 1, 0] rfl ?_
  exact lX7_pack_16_4_L a1 σ σ0 τ hσ ((0 : Int32), (0 : Int32)) _ h hk
theorem kX7_pack_16 (a1 : Int32) (σ τ : mm) {q : Int32} (h : fX7_pack_16 a1 σ = some q) : Cx mX7_pack 0 [.inr (.inr (16, 0)), .inl a1] (σ, τ) (some (.inl q)) (σ, τ) :=
  Cx.of (lv := [(0, .inr (.inr (16, 0))), (1, .inl a1)]) (by decide) (fun ad => Nat.le_of_ble_eq_true rfl) (fun ad => rfl) (lX7_pack_16_0 a1 σ σ τ rfl h ⟨rfl, rfl⟩)
-- ThinBodies$Tree addLeaf (III)V
noncomputable def fX6_addLeaf_78 (a2 : Int32) (s1 : Int32) (s2 : Int32) (σ : mm) : Option (mm) :=
  Option.bind (some (s1 + s2)) fun x1 =>
  Option.bind (some (stI σ 6 0 3 x1)) fun σ2 =>
  Option.bind (some ((fJ9_max_7cf53 (σ2.1 6 0 4) a2))) fun x3 =>
  Option.bind (some (stI σ2 6 0 4 x3)) fun σ4 =>
  some (σ4)
noncomputable def fX6_addLeaf_0 (a1 : Int32) (a2 : Int32) (a3 : Int32) (σ : mm) : Option (mm) :=
  if (σ.1 6 0 2) < (4096 : Int32) then
  Option.bind (fX7_pack_15 a3 σ) fun q1 =>
  Option.bind (fX7_pack_16 a3 σ) fun q2 =>
  Option.bind (some (q1.toInt64 ||| (q2.toInt64 <<< ((20 : Int32).toInt64 &&& 63)))) fun x3 =>
  Option.bind (wrL σ 22 0 4096 (σ.1 6 0 2) (x3 ||| (((a1 + (1 : Int32)).toInt64) <<< ((40 : Int32).toInt64 &&& 63)))) fun σ4 =>
  Option.bind (some ((σ4.1 6 0 2) + (1 : Int32))) fun x5 =>
  Option.bind (some (stI σ4 6 0 2 x5)) fun σ6 =>
  if a1 < (0 : Int32) then
  fX6_addLeaf_78 a2 (σ6.1 6 0 3) (0 : Int32) σ6
  else
  fX6_addLeaf_78 a2 (σ6.1 6 0 3) (1 : Int32) σ6
  else
  some (σ)
noncomputable def fX6_addLeaf (a1 : Int32) (a2 : Int32) (a3 : Int32) (σ : mm) : Option (mm) := fX6_addLeaf_0 a1 a2 a3 σ
set_option maxRecDepth 20000 in
theorem lX6_addLeaf_78 (a2 : Int32) (s1 : Int32) (s2 : Int32) (σ τ : mm) {r : Option mv} {M' : mm × mm} {v9 : mm} (h : fX6_addLeaf_78 a2 s1 s2 σ = some v9) (hk : (fun q : mm => r = none ∧ M' = (q, τ)) v9) : Vm mX6_addLeaf 1 78 [(0, .inr (.inr (6, 0))), (2, .inl a2)] [.inl s2, .inl s1, .inr (.inr (6, 0))] (σ, τ) r M' := by
  unfold fX6_addLeaf_78 at h
  refine Vm.iadd (n := 79) dX6_addLeaf_78 rfl ?_
  replace h := Option.bind_eq_some_iff.mp h
  obtain ⟨x1, e1, h⟩ := h
  replace e1 := Option.some.inj e1
  refine Vm.top e1 ?_
  refine Vm.pX (n := 82) (ty := .int) dX6_addLeaf_79 rfl wf_RX6_22 in_6 rfl (by decide) rfl (by decide) rfl rfl rfl rfl ?_
  replace h := Option.bind_eq_some_iff.mp h
  obtain ⟨σ2, e2, h⟩ := h
  replace e2 := Option.some.inj e2
  refine Vm.mem (congrArg (fun z => (z, τ)) e2) ?_
  refine Vm.aload_n (n := 83) 0 dX6_addLeaf_82 rfl rfl ?_
  refine Vm.aload_n (n := 84) 0 dX6_addLeaf_83 rfl rfl ?_
  refine Vm.gX (n := 87) dX6_addLeaf_84 rfl wf_RX6_25 in_6 rfl (by decide) rfl (by decide) ?_
  refine Vm.iload_n (n := 88) 1 dX6_addLeaf_87 rfl rfl ?_
  refine Vm.callS (Y := mJ9_max_7cf53) (n := 91) [.inl (σ2.1 6 0 4), .inl a2] dX6_addLeaf_88 rfl wv_RX6_101 omJ9_max_7cf53 rfl rfl (Nat.le_of_ble_eq_true rfl) (by decide) (kJ9_max_7cf53 (σ2.1 6 0 4) a2 rfl) ?_
  replace h := Option.bind_eq_some_iff.mp h
  obtain ⟨x3, e3, h⟩ := h
  replace e3 := Option.some.inj e3
  refine Vm.top e3 ?_
  refine Vm.pX (n := 94) (ty := .int) dX6_addLeaf_91 rfl wf_RX6_25 in_6 rfl (by decide) rfl (by decide) rfl rfl rfl rfl ?_
  replace h := Option.bind_eq_some_iff.mp h
  obtain ⟨σ4, e4, h⟩ := h
  replace e4 := Option.some.inj e4
  refine Vm.mem (congrArg (fun z => (z, τ)) e4) ?_
  obtain rfl := Option.some.inj h
  exact Vm.vret dX6_addLeaf_94 rfl hk.1 hk.2.symm
set_option maxRecDepth 20000 in
theorem lX6_addLeaf_0 (a1 : Int32) (a2 : Int32) (a3 : Int32) (σ τ : mm) {r : Option mv} {M' : mm × mm} {v9 : mm} (h : fX6_addLeaf_0 a1 a2 a3 σ = some v9) (hk : (fun q : mm => r = none ∧ M' = (q, τ)) v9) : Vm mX6_addLeaf 1 0 [(0, .inr (.inr (6, 0))), (1, .inl a1), (2, .inl a2), (3, .inl a3)] [] (σ, τ) r M' := by
  unfold fX6_addLeaf_0 at h
  refine Vm.aload_n (n := 1) 0 dX6_addLeaf_0 rfl rfl ?_
  refine Vm.gX (n := 4) dX6_addLeaf_1 rfl wf_RX6_19 in_6 rfl (by decide) rfl (by decide) ?_
  refine Vm.sipush (n := 7) (v := (4096 : Int32)) dX6_addLeaf_4 rfl (by decide) ?_
  refine Vm.icmp_lt (n := 10) 11 dX6_addLeaf_7 rfl rfl (fun c9 => ?_) (fun c9 => ?_)
  · replace h := (if_pos c9).symm.trans h
    refine Vm.aload_n (n := 12) 0 dX6_addLeaf_11 rfl rfl ?_
    refine Vm.getR (n := 15) dX6_addLeaf_12 rfl wf_RX6_32 in_6 rfl (by decide) rfl ?_
    refine Vm.iload_n (n := 16) 3 dX6_addLeaf_15 rfl rfl ?_
    replace h := Option.bind_eq_some_iff.mp h
    obtain ⟨q1, h1, h⟩ := h
    refine Vm.callN (Y := mX7_pack) (n := 19) [.inr (.inr (15, 0)), .inl a3] dX6_addLeaf_16 rfl wv_RX6_97 omX7_pack rfl rfl (Nat.le_of_ble_eq_true rfl) (by decide) (kX7_pack_15 a3 σ τ h1) ?_
    refine Vm.i2l (n := 20) dX6_addLeaf_19 rfl ?_
    refine Vm.aload_n (n := 21) 0 dX6_addLeaf_20 rfl rfl ?_
    refine Vm.getR (n := 24) dX6_addLeaf_21 rfl wf_RX6_36 in_6 rfl (by decide) rfl ?_
    refine Vm.iload_n (n := 25) 3 dX6_addLeaf_24 rfl rfl ?_
    replace h := Option.bind_eq_some_iff.mp h
    obtain ⟨q2, h2, h⟩ := h
    refine Vm.callN (Y := mX7_pack) (n := 28) [.inr (.inr (16, 0)), .inl a3] dX6_addLeaf_25 rfl wv_RX6_97 omX7_pack rfl rfl (Nat.le_of_ble_eq_true rfl) (by decide) (kX7_pack_16 a3 σ τ h2) ?_
    refine Vm.i2l (n := 29) dX6_addLeaf_28 rfl ?_
    refine Vm.bipush (n := 31) (v := (20 : Int32)) dX6_addLeaf_29 rfl (by decide) ?_
    refine Vm.lshl (n := 32) dX6_addLeaf_31 rfl ?_
    refine Vm.lor (n := 33) dX6_addLeaf_32 rfl ?_
    replace h := Option.bind_eq_some_iff.mp h
    obtain ⟨x3, e3, h⟩ := h
    replace e3 := Option.some.inj e3
    refine Vm.topl e3 ?_
    refine Vm.lstore (n := 35) (lv' := [(4, .inr (.inl x3)), (0, .inr (.inr (6, 0))), (1, .inl a1), (2, .inl a2), (3, .inl a3)]) dX6_addLeaf_33 rfl (Nat.le_of_ble_eq_true rfl) rfl ?_
    refine Vm.aload_n (n := 36) 1 dX6_addLeaf_35 rfl rfl ?_
    refine Vm.getR (n := 39) dX6_addLeaf_36 rfl wf_RX6_28 in_6 rfl (by decide) rfl ?_
    refine Vm.aload_n (n := 40) 1 dX6_addLeaf_39 rfl rfl ?_
    refine Vm.gX (n := 43) dX6_addLeaf_40 rfl wf_RX6_19 in_6 rfl (by decide) rfl (by decide) ?_
    refine Vm.lload (n := 45) 0 dX6_addLeaf_43 rfl rfl ?_
    refine Vm.iload_n (n := 46) 2 dX6_addLeaf_45 rfl rfl ?_
    refine Vm.iconst (n := 47) (v := (1 : Int32)) dX6_addLeaf_46 rfl (by decide) ?_
    refine Vm.iadd (n := 48) dX6_addLeaf_47 rfl ?_
    refine Vm.i2l (n := 49) dX6_addLeaf_48 rfl ?_
    refine Vm.bipush (n := 51) (v := (40 : Int32)) dX6_addLeaf_49 rfl (by decide) ?_
    refine Vm.lshl (n := 52) dX6_addLeaf_51 rfl ?_
    refine Vm.lor (n := 53) dX6_addLeaf_52 rfl ?_
    replace h := Option.bind_eq_some_iff.mp h
    obtain ⟨σ4, h4, h⟩ := h
    refine Vm.lastx (n := 54) dX6_addLeaf_53 rfl in_22 rfl rfl (by decide) h4 ?_
    refine Vm.aload_n (n := 55) 1 dX6_addLeaf_54 rfl rfl ?_
    refine Vm.dup (n := 56) dX6_addLeaf_55 rfl rfl ?_
    refine Vm.gX (n := 59) dX6_addLeaf_56 rfl wf_RX6_19 in_6 rfl (by decide) rfl (by decide) ?_
    refine Vm.iconst (n := 60) (v := (1 : Int32)) dX6_addLeaf_59 rfl (by decide) ?_
    refine Vm.iadd (n := 61) dX6_addLeaf_60 rfl ?_
    replace h := Option.bind_eq_some_iff.mp h
    obtain ⟨x5, e5, h⟩ := h
    replace e5 := Option.some.inj e5
    refine Vm.top e5 ?_
    refine Vm.pX (n := 64) (ty := .int) dX6_addLeaf_61 rfl wf_RX6_19 in_6 rfl (by decide) rfl (by decide) rfl rfl rfl rfl ?_
    replace h := Option.bind_eq_some_iff.mp h
    obtain ⟨σ6, e6, h⟩ := h
    replace e6 := Option.some.inj e6
    refine Vm.mem (congrArg (fun z => (z, τ)) e6) ?_
    refine Vm.aload_n (n := 65) 1 dX6_addLeaf_64 rfl rfl ?_
    refine Vm.dup (n := 66) dX6_addLeaf_65 rfl rfl ?_
    refine Vm.gX (n := 69) dX6_addLeaf_66 rfl wf_RX6_22 in_6 rfl (by decide) rfl (by decide) ?_
    refine Vm.iload_n (n := 70) 2 dX6_addLeaf_69 rfl rfl ?_
    refine Vm.if_lt (n := 73) 77 dX6_addLeaf_70 rfl rfl (fun c9 => ?_) (fun c9 => ?_)
    · replace h := (if_pos c9).symm.trans h
      refine Vm.iconst (n := 78) (v := (0 : Int32)) dX6_addLeaf_77 rfl (by decide) ?_
      refine Vm.sub (lv' := [(0, .inr (.inr (6, 0))), (2, .inl a2)]) [1, 3] rfl ?_
      exact lX6_addLeaf_78 a2 (σ6.1 6 0 3) (0 : Int32) σ6 τ h hk
    · replace h := (if_neg c9).symm.trans h
      refine Vm.iconst (n := 74) (v := (1 : Int32)) dX6_addLeaf_73 rfl (by decide) ?_
      refine Vm.goto 78 dX6_addLeaf_74 rfl ?_
      refine Vm.sub (lv' := [(0, .inr (.inr (6, 0))), (2, .inl a2)]) [1, 3] rfl ?_
      exact lX6_addLeaf_78 a2 (σ6.1 6 0 3) (1 : Int32) σ6 τ h hk
  · replace h := (if_neg c9).symm.trans h
    obtain rfl := Option.some.inj h
    exact Vm.vret dX6_addLeaf_10 rfl hk.1 hk.2.symm
theorem kX6_addLeaf (a1 : Int32) (a2 : Int32) (a3 : Int32) (σ τ : mm) {q : mm} (h : fX6_addLeaf a1 a2 a3 σ = some q) : Cx mX6_addLeaf 1 [.inr (.inr (6, 0)), .inl a1, .inl a2, .inl a3] (σ, τ) (none) (q, τ) :=
  Cx.of (lv := [(0, .inr (.inr (6, 0))), (1, .inl a1), (2, .inl a2), (3, .inl a3)]) (by decide) (fun ad => Nat.le_of_ble_eq_true rfl) (fun ad => rfl) (lX6_addLeaf_0 a1 a2 a3 σ τ h ⟨rfl, rfl⟩)
-- ThinBodies$Tree widest (I)I
noncomputable def fX6_widest_40 (a1 : Int32) (a2 : Int32) (a3 : Int32) (σ : mm) : Option ((Int32 × Int32) ⊕ (Int32)) :=
  Option.bind (some (a3 + (1 : Int32))) fun x1 =>
  some (.inl (a2, x1))
noncomputable def fX6_widest_4 (a1 : Int32) (a2 : Int32) (a3 : Int32) (σ : mm) : Option ((Int32 × Int32) ⊕ (Int32)) :=
  if a1 ≤ a3 then
  some (.inr (a2))
  else
  Option.bind (rdI σ 16 0 4 a3) fun x1 =>
  Option.bind (rdI σ 15 0 4 a3) fun x2 =>
  Option.bind (rdI σ 16 0 4 a2) fun x3 =>
  Option.bind (rdI σ 15 0 4 a2) fun x4 =>
  if (x1 - x2) ≤ (x3 - x4) then
  fX6_widest_40 a1 a2 a3 σ
  else
  fX6_widest_40 a1 a3 a3 σ
noncomputable def fX6_widest_4_L (a1 : Int32) (σ : mm) : Int32 × Int32 → Option ((Int32 × Int32) ⊕ (Int32)) := fun z => fX6_widest_4 a1 z.1 z.2 σ
noncomputable def fX6_widest_0 (a1 : Int32) (σ : mm) : Option (Int32) :=
  lp (fX6_widest_4_L a1 σ) ((0 : Int32), (1 : Int32))
noncomputable def fX6_widest (a1 : Int32) (σ : mm) : Option (Int32) := fX6_widest_0 a1 σ
set_option maxRecDepth 20000 in
theorem lX6_widest_40 (a1 : Int32) (a2 : Int32) (a3 : Int32) (σ σ0 τ : mm) (hσ : σ = σ0) {r : Option mv} {M' : mm × mm} {v9 : (Int32 × Int32) ⊕ (Int32)} (h : fX6_widest_40 a1 a2 a3 σ = some v9) (hk : (Sum.elim (fun z : Int32 × Int32 => Vm mX6_widest 0 4 [(0, .inr (.inr (6, 0))), (1, .inl a1), (2, .inl z.1), (3, .inl z.2)] [] (σ, τ) r M') (fun q : Int32 => r = some (.inl q) ∧ M' = (σ0, τ))) v9) : Vm mX6_widest 0 40 [(0, .inr (.inr (6, 0))), (1, .inl a1), (2, .inl a2), (3, .inl a3)] [] (σ, τ) r M' := by
  unfold fX6_widest_40 at h
  replace h := Option.bind_eq_some_iff.mp h
  obtain ⟨x1, e1, h⟩ := h
  replace e1 := Option.some.inj e1
  refine Vm.iinc (n := 43) (v := x1) (lv' := [(3, .inl x1), (0, .inr (.inr (6, 0))), (1, .inl a1), (2, .inl a2)]) 3 dX6_widest_40 rfl rfl e1 (Nat.le_of_ble_eq_true rfl) rfl ?_
  refine Vm.goto 4 dX6_widest_43 rfl ?_
  refine Vm.sub (lv' := [(0, .inr (.inr (6, 0))), (1, .inl a1), (2, .inl a2), (3, .inl x1)]) [1, 2, 3, 0] rfl ?_
  obtain rfl := Option.some.inj h
  exact hk
set_option maxRecDepth 20000 in
theorem lX6_widest_4 (a1 : Int32) (a2 : Int32) (a3 : Int32) (σ σ0 τ : mm) (hσ : σ = σ0) {r : Option mv} {M' : mm × mm} {v9 : (Int32 × Int32) ⊕ (Int32)} (h : fX6_widest_4 a1 a2 a3 σ = some v9) (hk : (Sum.elim (fun z : Int32 × Int32 => Vm mX6_widest 0 4 [(0, .inr (.inr (6, 0))), (1, .inl a1), (2, .inl z.1), (3, .inl z.2)] [] (σ, τ) r M') (fun q : Int32 => r = some (.inl q) ∧ M' = (σ0, τ))) v9) : Vm mX6_widest 0 4 [(0, .inr (.inr (6, 0))), (1, .inl a1), (2, .inl a2), (3, .inl a3)] [] (σ, τ) r M' := by
  unfold fX6_widest_4 at h
  refine Vm.iload_n (n := 5) 3 dX6_widest_4 rfl rfl ?_
  refine Vm.iload_n (n := 6) 1 dX6_widest_5 rfl rfl ?_
  refine Vm.icmp_ge (n := 9) 46 dX6_widest_6 rfl rfl (fun c9 => ?_) (fun c9 => ?_)
  · replace h := (if_pos c9).symm.trans h
    refine Vm.iload_n (n := 47) 2 dX6_widest_46 rfl rfl ?_
    obtain rfl := Option.some.inj h
    exact Vm.iret dX6_widest_47 rfl hk.1 (by rw [hσ]; exact hk.2.symm)
  · replace h := (if_neg c9).symm.trans h
    refine Vm.aload_n (n := 10) 0 dX6_widest_9 rfl rfl ?_
    refine Vm.getR (n := 13) dX6_widest_10 rfl wf_RX6_36 in_6 rfl (by decide) rfl ?_
    refine Vm.iload_n (n := 14) 3 dX6_widest_13 rfl rfl ?_
    replace h := Option.bind_eq_some_iff.mp h
    obtain ⟨x1, h1, h⟩ := h
    refine Vm.ialdx (n := 15) dX6_widest_14 rfl in_16 rfl rfl (by decide) h1 ?_
    refine Vm.aload_n (n := 16) 0 dX6_widest_15 rfl rfl ?_
    refine Vm.getR (n := 19) dX6_widest_16 rfl wf_RX6_32 in_6 rfl (by decide) rfl ?_
    refine Vm.iload_n (n := 20) 3 dX6_widest_19 rfl rfl ?_
    replace h := Option.bind_eq_some_iff.mp h
    obtain ⟨x2, h2, h⟩ := h
    refine Vm.ialdx (n := 21) dX6_widest_20 rfl in_15 rfl rfl (by decide) h2 ?_
    refine Vm.isub (n := 22) dX6_widest_21 rfl ?_
    refine Vm.aload_n (n := 23) 0 dX6_widest_22 rfl rfl ?_
    refine Vm.getR (n := 26) dX6_widest_23 rfl wf_RX6_36 in_6 rfl (by decide) rfl ?_
    refine Vm.iload_n (n := 27) 2 dX6_widest_26 rfl rfl ?_
    replace h := Option.bind_eq_some_iff.mp h
    obtain ⟨x3, h3, h⟩ := h
    refine Vm.ialdx (n := 28) dX6_widest_27 rfl in_16 rfl rfl (by decide) h3 ?_
    refine Vm.aload_n (n := 29) 0 dX6_widest_28 rfl rfl ?_
    refine Vm.getR (n := 32) dX6_widest_29 rfl wf_RX6_32 in_6 rfl (by decide) rfl ?_
    refine Vm.iload_n (n := 33) 2 dX6_widest_32 rfl rfl ?_
    replace h := Option.bind_eq_some_iff.mp h
    obtain ⟨x4, h4, h⟩ := h
    refine Vm.ialdx (n := 34) dX6_widest_33 rfl in_15 rfl rfl (by decide) h4 ?_
    refine Vm.isub (n := 35) dX6_widest_34 rfl ?_
    refine Vm.icmp_le (n := 38) 40 dX6_widest_35 rfl rfl (fun c9 => ?_) (fun c9 => ?_)
    · replace h := (if_pos c9).symm.trans h
      exact lX6_widest_40 a1 a2 a3 σ σ0 τ hσ h hk
    · replace h := (if_neg c9).symm.trans h
      refine Vm.iload_n (n := 39) 3 dX6_widest_38 rfl rfl ?_
      refine Vm.istore_n (n := 40) (lv' := [(2, .inl a3), (0, .inr (.inr (6, 0))), (1, .inl a1), (3, .inl a3)]) dX6_widest_39 rfl (Nat.le_of_ble_eq_true rfl) rfl ?_
      refine Vm.sub (lv' := [(0, .inr (.inr (6, 0))), (1, .inl a1), (2, .inl a3), (3, .inl a3)]) [1, 2, 0, 3] rfl ?_
      exact lX6_widest_40 a1 a3 a3 σ σ0 τ hσ h hk
theorem lX6_widest_4_L (a1 : Int32) (σ σ0 τ : mm) (hσ : σ = σ0) {r : Option mv} {M' : mm × mm} (z : Int32 × Int32) (w9 : Int32) (h : lp (fX6_widest_4_L a1 σ) z = some w9) (hk : (fun q : Int32 => r = some (.inl q) ∧ M' = (σ0, τ)) w9) : Vm mX6_widest 0 4 [(0, .inr (.inr (6, 0))), (1, .inl a1), (2, .inl z.1), (3, .inl z.2)] [] (σ, τ) r M' :=
  lp_link (S := Int32 × Int32) (R := Int32) (body := fX6_widest_4_L a1 σ) (A := fun z : Int32 × Int32 => Vm mX6_widest 0 4 [(0, .inr (.inr (6, 0))), (1, .inl a1), (2, .inl z.1), (3, .inl z.2)] [] (σ, τ) r M') (B := fun w : Int32 => (fun q : Int32 => r = some (.inl q) ∧ M' = (σ0, τ)) w) (fun z v hb hv => lX6_widest_4 a1 z.1 z.2 σ σ0 τ hσ hb hv) z w9 h hk
set_option maxRecDepth 20000 in
theorem lX6_widest_0 (a1 : Int32) (σ σ0 τ : mm) (hσ : σ = σ0) {r : Option mv} {M' : mm × mm} {v9 : Int32} (h : fX6_widest_0 a1 σ = some v9) (hk : (fun q : Int32 => r = some (.inl q) ∧ M' = (σ0, τ)) v9) : Vm mX6_widest 0 0 [(0, .inr (.inr (6, 0))), (1, .inl a1)] [] (σ, τ) r M' := by
  unfold fX6_widest_0 at h
  refine Vm.iconst (n := 1) (v := (0 : Int32)) dX6_widest_0 rfl (by decide) ?_
  refine Vm.istore_n (n := 2) (lv' := [(2, .inl (0 : Int32)), (0, .inr (.inr (6, 0))), (1, .inl a1)]) dX6_widest_1 rfl (Nat.le_of_ble_eq_true rfl) rfl ?_
  refine Vm.iconst (n := 3) (v := (1 : Int32)) dX6_widest_2 rfl (by decide) ?_
  refine Vm.istore_n (n := 4) (lv' := [(3, .inl (1 : Int32)), (2, .inl (0 : Int32)), (0, .inr (.inr (6, 0))), (1, .inl a1)]) dX6_widest_3 rfl (Nat.le_of_ble_eq_true rfl) rfl ?_
  refine Vm.sub (lv' := [(0, .inr (.inr (6, 0))), (1, .inl a1), (2, .inl (0 : Int32)), (3, .inl (1 : Int32))]) [2, 3, 1, 0] rfl ?_
  exact lX6_widest_4_L a1 σ σ0 τ hσ ((0 : Int32), (1 : Int32)) _ h hk
theorem kX6_widest (a1 : Int32) (σ τ : mm) {q : Int32} (h : fX6_widest a1 σ = some q) : Cx mX6_widest 0 [.inr (.inr (6, 0)), .inl a1] (σ, τ) (some (.inl q)) (σ, τ) :=
  Cx.of (lv := [(0, .inr (.inr (6, 0))), (1, .inl a1)]) (by decide) (fun ad => Nat.le_of_ble_eq_true rfl) (fun ad => rfl) (lX6_widest_0 a1 σ σ τ rfl h ⟨rfl, rfl⟩)
