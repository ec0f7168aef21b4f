-- ThinBodiesModel row (III)I
noncomputable def fX8_row_24 (σ : mm) : Option (Int32 × mm) :=
  Option.bind (fX8_finds (-1000000001 : Int32) σ) fun q1 =>
  some ((q1.1, q1.2))
noncomputable def fX8_row_0 (a1 : Int32) (a2 : Int32) (a3 : Int32) (σ : mm) : Option (Int32 × mm) :=
  if (bi (fX8_isOf (0 : Int32) a1)) = (0 : Int32) then
  fX8_row_24 σ
  else
  if (bi (fX8_isOf (1 : Int32) a2)) = (0 : Int32) then
  fX8_row_24 σ
  else
  if (bi (fX8_isOf (2 : Int32) a3)) = (0 : Int32) then
  fX8_row_24 σ
  else
  if (σ.1 32 0 4) = (8 : Int32) then
  Option.bind (fX8_finds (-1000000002 : Int32) σ) fun q2 =>
  some ((q2.1, q2.2))
  else
  Option.bind (fX8_adds a1 a2 a3 σ) fun q1 =>
  some (((q1.1 32 0 4) - (1 : Int32), q1))
noncomputable def fX8_row (a1 : Int32) (a2 : Int32) (a3 : Int32) (σ : mm) : Option (Int32 × mm) := fX8_row_0 a1 a2 a3 σ
set_option maxRecDepth 20000 in
theorem lX8_row_24 (σ τ : mm) {r : Option mv} {M' : mm × mm} {v9 : Int32 × mm} (h : fX8_row_24 σ = some v9) (hk : (fun q : Int32 × mm => r = some (.inl q.1) ∧ M' = (τ, q.2)) v9) : Vm mX8_row 2 24 [(0, .inr (.inr (32, 0)))] [] (τ, σ) r M' := by
  unfold fX8_row_24 at h
  refine Vm.aload_n (n := 25) 0 dX8_row_24 rfl rfl ?_
  refine Vm.ldc (n := 27) dX8_row_25 rfl wc_RX8_92 ?_
  replace h := Option.bind_eq_some_iff.mp h
  obtain ⟨q1, h1, h⟩ := h
  refine Vm.callV (Y := mX8_finds) (n := 30) [.inl (-1000000001 : Int32)] dX8_row_27 rfl wv_RX8_102 omX8_finds rfl in_32 rfl rfl rfl (Nat.le_of_ble_eq_true rfl) (by decide) (kX8_finds (-1000000001 : Int32) σ τ h1) ?_
  obtain rfl := Option.some.inj h
  exact Vm.iret dX8_row_30 rfl hk.1 hk.2.symm
set_option maxRecDepth 20000 in
theorem lX8_row_0 (a1 : Int32) (a2 : Int32) (a3 : Int32) (σ τ : mm) {r : Option mv} {M' : mm × mm} {v9 : Int32 × mm} (h : fX8_row_0 a1 a2 a3 σ = some v9) (hk : (fun q : Int32 × mm => r = some (.inl q.1) ∧ M' = (τ, q.2)) v9) : Vm mX8_row 2 0 [(0, .inr (.inr (32, 0))), (1, .inl a1), (2, .inl a2), (3, .inl a3)] [] (τ, σ) r M' := by
  unfold fX8_row_0 at h
  refine Vm.iconst (n := 1) (v := (0 : Int32)) dX8_row_0 rfl (by decide) ?_
  refine Vm.iload_n (n := 2) 1 dX8_row_1 rfl rfl ?_
  refine Vm.callS (Y := mX8_isOf) (n := 5) [.inl (0 : Int32), .inl a1] dX8_row_2 rfl wv_RX8_134 omX8_isOf rfl rfl (Nat.le_of_ble_eq_true rfl) (by decide) (kX8_isOf (0 : Int32) a1 rfl) ?_
  refine Vm.if_eq (n := 8) 24 dX8_row_5 rfl rfl (fun c9 => ?_) (fun c9 => ?_)
  · replace h := (if_pos c9).symm.trans h
    refine Vm.sub (lv' := [(0, .inr (.inr (32, 0)))]) [0] rfl ?_
    exact lX8_row_24 σ τ h hk
  · replace h := (if_neg c9).symm.trans h
    refine Vm.iconst (n := 9) (v := (1 : Int32)) dX8_row_8 rfl (by decide) ?_
    refine Vm.iload_n (n := 10) 2 dX8_row_9 rfl rfl ?_
    refine Vm.callS (Y := mX8_isOf) (n := 13) [.inl (1 : Int32), .inl a2] dX8_row_10 rfl wv_RX8_134 omX8_isOf rfl rfl (Nat.le_of_ble_eq_true rfl) (by decide) (kX8_isOf (1 : Int32) a2 rfl) ?_
    refine Vm.if_eq (n := 16) 24 dX8_row_13 rfl rfl (fun c9 => ?_) (fun c9 => ?_)
    · replace h := (if_pos c9).symm.trans h
      refine Vm.sub (lv' := [(0, .inr (.inr (32, 0)))]) [0] rfl ?_
      exact lX8_row_24 σ τ h hk
    · replace h := (if_neg c9).symm.trans h
      refine Vm.iconst (n := 17) (v := (2 : Int32)) dX8_row_16 rfl (by decide) ?_
      refine Vm.iload_n (n := 18) 3 dX8_row_17 rfl rfl ?_
      refine Vm.callS (Y := mX8_isOf) (n := 21) [.inl (2 : Int32), .inl a3] dX8_row_18 rfl wv_RX8_134 omX8_isOf rfl rfl (Nat.le_of_ble_eq_true rfl) (by decide) (kX8_isOf (2 : Int32) a3 rfl) ?_
      refine Vm.if_ne (n := 24) 31 dX8_row_21 rfl rfl (fun c9 => ?_) (fun c9 => ?_)
      · replace h := (if_neg c9).symm.trans h
        refine Vm.aload_n (n := 32) 0 dX8_row_31 rfl rfl ?_
        refine Vm.gM (n := 35) dX8_row_32 rfl wf_RX8_97 in_32 rfl (by decide) rfl (by decide) ?_
        refine Vm.bipush (n := 37) (v := (8 : Int32)) dX8_row_35 rfl (by decide) ?_
        refine Vm.icmp_ne (n := 40) 47 dX8_row_37 rfl rfl (fun c9 => ?_) (fun c9 => ?_)
        · replace h := (if_neg c9).symm.trans h
          refine Vm.aload_n (n := 48) 0 dX8_row_47 rfl rfl ?_
          refine Vm.iload_n (n := 49) 1 dX8_row_48 rfl rfl ?_
          refine Vm.iload_n (n := 50) 2 dX8_row_49 rfl rfl ?_
          refine Vm.iload_n (n := 51) 3 dX8_row_50 rfl rfl ?_
          replace h := Option.bind_eq_some_iff.mp h
          obtain ⟨q1, h1, h⟩ := h
          refine Vm.callVv (Y := mX8_adds) (n := 54) [.inl a1, .inl a2, .inl a3] dX8_row_51 rfl wv_RX8_138 omX8_adds rfl in_32 rfl rfl rfl (Nat.le_of_ble_eq_true rfl) (by decide) (kX8_adds a1 a2 a3 σ τ h1) ?_
          refine Vm.aload_n (n := 55) 0 dX8_row_54 rfl rfl ?_
          refine Vm.gM (n := 58) dX8_row_55 rfl wf_RX8_97 in_32 rfl (by decide) rfl (by decide) ?_
          refine Vm.iconst (n := 59) (v := (1 : Int32)) dX8_row_58 rfl (by decide) ?_
          refine Vm.isub (n := 60) dX8_row_59 rfl ?_
          obtain rfl := Option.some.inj h
          exact Vm.iret dX8_row_60 rfl hk.1 hk.2.symm
        · replace h := (if_pos c9).symm.trans h
          refine Vm.aload_n (n := 41) 0 dX8_row_40 rfl rfl ?_
          refine Vm.ldc (n := 43) dX8_row_41 rfl wc_RX8_110 ?_
          replace h := Option.bind_eq_some_iff.mp h
          obtain ⟨q2, h2, h⟩ := h
          refine Vm.callV (Y := mX8_finds) (n := 46) [.inl (-1000000002 : Int32)] dX8_row_43 rfl wv_RX8_102 omX8_finds rfl in_32 rfl rfl rfl (Nat.le_of_ble_eq_true rfl) (by decide) (kX8_finds (-1000000002 : Int32) σ τ h2) ?_
          obtain rfl := Option.some.inj h
          exact Vm.iret dX8_row_46 rfl hk.1 hk.2.symm
      · replace h := (if_pos c9).symm.trans h
        refine Vm.sub (lv' := [(0, .inr (.inr (32, 0)))]) [0] rfl ?_
        exact lX8_row_24 σ τ h hk
theorem kX8_row (a1 : Int32) (a2 : Int32) (a3 : Int32) (σ τ : mm) {q : Int32 × mm} (h : fX8_row a1 a2 a3 σ = some q) : Cx mX8_row 2 [.inr (.inr (32, 0)), .inl a1, .inl a2, .inl a3] (τ, σ) (some (.inl q.1)) (τ, q.2) :=
  Cx.of (lv := [(0, .inr (.inr (32, 0))), (1, .inl a1), (2, .inl a2), (3, .inl a3)]) (by decide) (fun ad => Nat.le_of_ble_eq_true rfl) (fun ad => rfl) (lX8_row_0 a1 a2 a3 σ τ h ⟨rfl, rfl⟩)
-- ThinBodiesModel isRow (I)Z
def fX8_isRow_0 (a1 : Int32) (σ : mm) : Bool :=
  (fX8_in a1.toInt64 (0 : Int64) (((σ.1 32 0 4) - (1 : Int32)).toInt64))
def fX8_isRow (a1 : Int32) (σ : mm) : Bool := fX8_isRow_0 a1 σ
set_option maxRecDepth 20000 in
theorem lX8_isRow_0 (a1 : Int32) (σ σ0 τ : mm) (hσ : σ = σ0) {r : Option mv} {M' : mm × mm} {v9 : Bool} (h : fX8_isRow_0 a1 σ = v9) (hk : (fun q : Bool => r = some (.inl (bi q)) ∧ M' = (τ, σ0)) v9) : Vm mX8_isRow 1 0 [(0, .inr (.inr (32, 0))), (1, .inl a1)] [] (τ, σ) r M' := by
  unfold fX8_isRow_0 at h
  refine Vm.iload_n (n := 1) 1 dX8_isRow_0 rfl rfl ?_
  refine Vm.i2l (n := 2) dX8_isRow_1 rfl ?_
  refine Vm.lconst (n := 3) (v := (0 : Int64)) dX8_isRow_2 rfl (by decide) ?_
  refine Vm.aload_n (n := 4) 0 dX8_isRow_3 rfl rfl ?_
  refine Vm.gM (n := 7) dX8_isRow_4 rfl wf_RX8_97 in_32 rfl (by decide) rfl (by decide) ?_
  refine Vm.iconst (n := 8) (v := (1 : Int32)) dX8_isRow_7 rfl (by decide) ?_
  refine Vm.isub (n := 9) dX8_isRow_8 rfl ?_
  refine Vm.i2l (n := 10) dX8_isRow_9 rfl ?_
  refine Vm.callS (Y := mX8_in) (n := 13) [.inr (.inl a1.toInt64), .inr (.inl (0 : Int64)), .inr (.inl (((σ.1 32 0 4) - (1 : Int32)).toInt64))] dX8_isRow_10 rfl wv_RX8_93 omX8_in rfl rfl (Nat.le_of_ble_eq_true rfl) (by decide) (kX8_in a1.toInt64 (0 : Int64) (((σ.1 32 0 4) - (1 : Int32)).toInt64) rfl) ?_
  subst h
  exact Vm.zret (b := (fX8_in a1.toInt64 (0 : Int64) (((σ.1 32 0 4) - (1 : Int32)).toInt64))) dX8_isRow_13 rfl rfl hk.1 (by rw [hσ]; exact hk.2.symm)
theorem kX8_isRow (a1 : Int32) (σ τ : mm) {q : Bool} (h : fX8_isRow a1 σ = q) : Cx mX8_isRow 1 [.inr (.inr (32, 0)), .inl a1] (τ, σ) (some (.inl (bi q))) (τ, σ) :=
  Cx.of (lv := [(0, .inr (.inr (32, 0))), (1, .inl a1)]) (by decide) (fun ad => Nat.le_of_ble_eq_true rfl) (fun ad => rfl) (lX8_isRow_0 a1 σ σ τ rfl h ⟨rfl, rfl⟩)
-- ThinBodiesModel whole ()V
noncomputable def fX8_whole_2 (a1 : Int32) (σ : mm) : Option ((Int32 × mm) ⊕ (mm)) :=
  if (4 : Int32) ≤ a1 then
  some (.inr (σ))
  else
  Option.bind (rdI σ 42 0 4 a1) fun x1 =>
  Option.bind (wrI σ 47 0 400 ((2 : Int32) * a1) x1) fun σ2 =>
  Option.bind (rdI σ2 43 0 4 a1) fun x3 =>
  Option.bind (wrI σ2 47 0 400 (((2 : Int32) * a1) + (1 : Int32)) x3) fun σ4 =>
  Option.bind (some (a1 + (1 : Int32))) fun x5 =>
  some (.inl (x5, σ4))
noncomputable def fX8_whole_2_L : Int32 × mm → Option ((Int32 × mm) ⊕ (mm)) := fun z => fX8_whole_2 z.1 z.2
noncomputable def fX8_whole_0 (σ : mm) : Option (mm) :=
  lp (fX8_whole_2_L) ((0 : Int32), σ)
noncomputable def fX8_whole (σ : mm) : Option (mm) := fX8_whole_0 σ
set_option maxRecDepth 20000 in
theorem lX8_whole_2 (a1 : Int32) (σ τ : mm) {r : Option mv} {M' : mm × mm} {v9 : (Int32 × mm) ⊕ (mm)} (h : fX8_whole_2 a1 σ = some v9) (hk : (Sum.elim (fun z : Int32 × mm => Vm mX8_whole 0 2 [(0, .inr (.inr (32, 0))), (1, .inl z.1)] [] (τ, z.2) r M') (fun q : mm => r = none ∧ M' = (τ, q))) v9) : Vm mX8_whole 0 2 [(0, .inr (.inr (32, 0))), (1, .inl a1)] [] (τ, σ) r M' := by
  unfold fX8_whole_2 at h
  refine Vm.iload_n (n := 3) 1 dX8_whole_2 rfl rfl ?_
  refine Vm.iconst (n := 4) (v := (4 : Int32)) dX8_whole_3 rfl (by decide) ?_
  refine Vm.icmp_ge (n := 7) 43 dX8_whole_4 rfl rfl (fun c9 => ?_) (fun c9 => ?_)
  · replace h := (if_pos c9).symm.trans h
    obtain rfl := Option.some.inj h
    exact Vm.vret dX8_whole_43 rfl hk.1 hk.2.symm
  · replace h := (if_neg c9).symm.trans h
    refine Vm.aload_n (n := 8) 0 dX8_whole_7 rfl rfl ?_
    refine Vm.getR (n := 11) dX8_whole_8 rfl wf_RX8_29 in_32 rfl (by decide) rfl ?_
    refine Vm.iconst (n := 12) (v := (2 : Int32)) dX8_whole_11 rfl (by decide) ?_
    refine Vm.iload_n (n := 13) 1 dX8_whole_12 rfl rfl ?_
    refine Vm.imul (n := 14) dX8_whole_13 rfl ?_
    refine Vm.aload_n (n := 15) 0 dX8_whole_14 rfl rfl ?_
    refine Vm.getR (n := 18) dX8_whole_15 rfl wf_RX8_17 in_32 rfl (by decide) rfl ?_
    refine Vm.iload_n (n := 19) 1 dX8_whole_18 rfl rfl ?_
    replace h := Option.bind_eq_some_iff.mp h
    obtain ⟨x1, h1, h⟩ := h
    refine Vm.ialdm (n := 20) dX8_whole_19 rfl in_42 rfl rfl (by decide) h1 ?_
    replace h := Option.bind_eq_some_iff.mp h
    obtain ⟨σ2, h2, h⟩ := h
    refine Vm.iastm (n := 21) dX8_whole_20 rfl in_47 rfl rfl (by decide) h2 ?_
    refine Vm.aload_n (n := 22) 0 dX8_whole_21 rfl rfl ?_
    refine Vm.getR (n := 25) dX8_whole_22 rfl wf_RX8_29 in_32 rfl (by decide) rfl ?_
    refine Vm.iconst (n := 26) (v := (2 : Int32)) dX8_whole_25 rfl (by decide) ?_
    refine Vm.iload_n (n := 27) 1 dX8_whole_26 rfl rfl ?_
    refine Vm.imul (n := 28) dX8_whole_27 rfl ?_
    refine Vm.iconst (n := 29) (v := (1 : Int32)) dX8_whole_28 rfl (by decide) ?_
    refine Vm.iadd (n := 30) dX8_whole_29 rfl ?_
    refine Vm.aload_n (n := 31) 0 dX8_whole_30 rfl rfl ?_
    refine Vm.getR (n := 34) dX8_whole_31 rfl wf_RX8_20 in_32 rfl (by decide) rfl ?_
    refine Vm.iload_n (n := 35) 1 dX8_whole_34 rfl rfl ?_
    replace h := Option.bind_eq_some_iff.mp h
    obtain ⟨x3, h3, h⟩ := h
    refine Vm.ialdm (n := 36) dX8_whole_35 rfl in_43 rfl rfl (by decide) h3 ?_
    replace h := Option.bind_eq_some_iff.mp h
    obtain ⟨σ4, h4, h⟩ := h
    refine Vm.iastm (n := 37) dX8_whole_36 rfl in_47 rfl rfl (by decide) h4 ?_
    replace h := Option.bind_eq_some_iff.mp h
    obtain ⟨x5, e5, h⟩ := h
    replace e5 := Option.some.inj e5
    refine Vm.iinc (n := 40) (v := x5) (lv' := [(1, .inl x5), (0, .inr (.inr (32, 0)))]) 1 dX8_whole_37 rfl rfl e5 (Nat.le_of_ble_eq_true rfl) rfl ?_
    refine Vm.goto 2 dX8_whole_40 rfl ?_
    refine Vm.sub (lv' := [(0, .inr (.inr (32, 0))), (1, .inl x5)]) [1, 0] rfl ?_
    obtain rfl := Option.some.inj h
    exact hk
theorem lX8_whole_2_L (τ : mm) {r : Option mv} {M' : mm × mm} (z : Int32 × mm) (w9 : mm) (h : lp (fX8_whole_2_L) z = some w9) (hk : (fun q : mm => r = none ∧ M' = (τ, q)) w9) : Vm mX8_whole 0 2 [(0, .inr (.inr (32, 0))), (1, .inl z.1)] [] (τ, z.2) r M' :=
  lp_link (S := Int32 × mm) (R := mm) (body := fX8_whole_2_L) (A := fun z : Int32 × mm => Vm mX8_whole 0 2 [(0, .inr (.inr (32, 0))), (1, .inl z.1)] [] (τ, z.2) r M') (B := fun w : mm => (fun q : mm => r = none ∧ M' = (τ, q)) w) (fun z v hb hv => lX8_whole_2 z.1 z.2 τ hb hv) z w9 h hk
set_option maxRecDepth 20000 in
theorem lX8_whole_0 (σ τ : mm) {r : Option mv} {M' : mm × mm} {v9 : mm} (h : fX8_whole_0 σ = some v9) (hk : (fun q : mm => r = none ∧ M' = (τ, q)) v9) : Vm mX8_whole 0 0 [(0, .inr (.inr (32, 0)))] [] (τ, σ) r M' := by
  unfold fX8_whole_0 at h
  refine Vm.iconst (n := 1) (v := (0 : Int32)) dX8_whole_0 rfl (by decide) ?_
  refine Vm.istore_n (n := 2) (lv' := [(1, .inl (0 : Int32)), (0, .inr (.inr (32, 0)))]) dX8_whole_1 rfl (Nat.le_of_ble_eq_true rfl) rfl ?_
  refine Vm.sub (lv' := [(0, .inr (.inr (32, 0))), (1, .inl (0 : Int32))]) [1, 0] rfl ?_
  exact lX8_whole_2_L τ ((0 : Int32), σ) _ h hk
theorem kX8_whole (σ τ : mm) {q : mm} (h : fX8_whole σ = some q) : Cx mX8_whole 0 [.inr (.inr (32, 0))] (τ, σ) (none) (τ, q) :=
  Cx.of (lv := [(0, .inr (.inr (32, 0)))]) (by decide) (fun ad => Nat.le_of_ble_eq_true rfl) (fun ad => rfl) (lX8_whole_0 σ τ h ⟨rfl, rfl⟩)
-- ThinBodiesModel at (II)I
def fX8_at_0 (a1 : Int32) (a2 : Int32) (σ : mm) : Option (Int32) :=
  Option.bind (rdI σ 45 0 56 (((7 : Int32) * a1) + a2)) fun x1 =>
  some (x1)
def fX8_at (a1 : Int32) (a2 : Int32) (σ : mm) : Option (Int32) := fX8_at_0 a1 a2 σ
set_option maxRecDepth 20000 in
theorem lX8_at_0 (a1 : Int32) (a2 : Int32) (σ σ0 τ : mm) (hσ : σ = σ0) {r : Option mv} {M' : mm × mm} {v9 : Int32} (h : fX8_at_0 a1 a2 σ = some v9) (hk : (fun q : Int32 => r = some (.inl q) ∧ M' = (τ, σ0)) v9) : Vm mX8_at 0 0 [(0, .inr (.inr (32, 0))), (1, .inl a1), (2, .inl a2)] [] (τ, σ) r M' := by
  unfold fX8_at_0 at h
  refine Vm.aload_n (n := 1) 0 dX8_at_0 rfl rfl ?_
  refine Vm.getR (n := 4) dX8_at_1 rfl wf_RX8_23 in_32 rfl (by decide) rfl ?_
  refine Vm.bipush (n := 6) (v := (7 : Int32)) dX8_at_4 rfl (by decide) ?_
  refine Vm.iload_n (n := 7) 1 dX8_at_6 rfl rfl ?_
  refine Vm.imul (n := 8) dX8_at_7 rfl ?_
  refine Vm.iload_n (n := 9) 2 dX8_at_8 rfl rfl ?_
  refine Vm.iadd (n := 10) dX8_at_9 rfl ?_
  replace h := Option.bind_eq_some_iff.mp h
  obtain ⟨x1, h1, h⟩ := h
  refine Vm.ialdm (n := 11) dX8_at_10 rfl in_45 rfl rfl (by decide) h1 ?_
  obtain rfl := Option.some.inj h
  exact Vm.iret dX8_at_11 rfl hk.1 (by rw [hσ]; exact hk.2.symm)
theorem kX8_at (a1 : Int32) (a2 : Int32) (σ τ : mm) {q : Int32} (h : fX8_at a1 a2 σ = some q) : Cx mX8_at 0 [.inr (.inr (32, 0)), .inl a1, .inl a2] (τ, σ) (some (.inl q)) (τ, σ) :=
  Cx.of (lv := [(0, .inr (.inr (32, 0))), (1, .inl a1), (2, .inl a2)]) (by decide) (fun ad => Nat.le_of_ble_eq_true rfl) (fun ad => rfl) (lX8_at_0 a1 a2 σ σ τ rfl h ⟨rfl, rfl⟩)
-- ThinBodiesModel edge (III)I
def fX8_edge_0 (a1 : Int32) (a2 : Int32) (a3 : Int32) (σ : mm) : Option (Int32) :=
  Option.bind (rdI σ 47 0 400 ((((8 : Int32) * a1) + ((2 : Int32) * a2)) + a3)) fun x1 =>
  some (x1)
def fX8_edge (a1 : Int32) (a2 : Int32) (a3 : Int32) (σ : mm) : Option (Int32) := fX8_edge_0 a1 a2 a3 σ
set_option maxRecDepth 20000 in
theorem lX8_edge_0 (a1 : Int32) (a2 : Int32) (a3 : Int32) (σ σ0 τ : mm) (hσ : σ = σ0) {r : Option mv} {M' : mm × mm} {v9 : Int32} (h : fX8_edge_0 a1 a2 a3 σ = some v9) (hk : (fun q : Int32 => r = some (.inl q) ∧ M' = (τ, σ0)) v9) : Vm mX8_edge 0 0 [(0, .inr (.inr (32, 0))), (1, .inl a1), (2, .inl a2), (3, .inl a3)] [] (τ, σ) r M' := by
  unfold fX8_edge_0 at h
  refine Vm.aload_n (n := 1) 0 dX8_edge_0 rfl rfl ?_
  refine Vm.getR (n := 4) dX8_edge_1 rfl wf_RX8_29 in_32 rfl (by decide) rfl ?_
  refine Vm.bipush (n := 6) (v := (8 : Int32)) dX8_edge_4 rfl (by decide) ?_
  refine Vm.iload_n (n := 7) 1 dX8_edge_6 rfl rfl ?_
  refine Vm.imul (n := 8) dX8_edge_7 rfl ?_
  refine Vm.iconst (n := 9) (v := (2 : Int32)) dX8_edge_8 rfl (by decide) ?_
  refine Vm.iload_n (n := 10) 2 dX8_edge_9 rfl rfl ?_
  refine Vm.imul (n := 11) dX8_edge_10 rfl ?_
  refine Vm.iadd (n := 12) dX8_edge_11 rfl ?_
  refine Vm.iload_n (n := 13) 3 dX8_edge_12 rfl rfl ?_
  refine Vm.iadd (n := 14) dX8_edge_13 rfl ?_
  replace h := Option.bind_eq_some_iff.mp h
  obtain ⟨x1, h1, h⟩ := h
  refine Vm.ialdm (n := 15) dX8_edge_14 rfl in_47 rfl rfl (by decide) h1 ?_
  obtain rfl := Option.some.inj h
  exact Vm.iret dX8_edge_15 rfl hk.1 (by rw [hσ]; exact hk.2.symm)
theorem kX8_edge (a1 : Int32) (a2 : Int32) (a3 : Int32) (σ τ : mm) {q : Int32} (h : fX8_edge a1 a2 a3 σ = some q) : Cx mX8_edge 0 [.inr (.inr (32, 0)), .inl a1, .inl a2, .inl a3] (τ, σ) (some (.inl q)) (τ, σ) :=
  Cx.of (lv := [(0, .inr (.inr (32, 0))), (1, .inl a1), (2, .inl a2), (3, .inl a3)]) (by decide) (fun ad => Nat.le_of_ble_eq_true rfl) (fun ad => rfl) (lX8_edge_0 a1 a2 a3 σ σ τ rfl h ⟨rfl, rfl⟩)
-- ThinBodiesModel least (II)I
noncomputable def fX8_least_42 (a1 : Int32) (a2 : Int32) (a4 : Int32) (s0 : Int32) (s1 : Int32) (s3 : Int32) (s4 : Int32) (s5 : Int32) (σ : mm) : Option ((Int32 × Int32) ⊕ (Int32)) :=
  Option.bind (fX8_edge s3 s4 s5 σ) fun q1 =>
  Option.bind (some (s0 + (s1 * q1))) fun x2 =>
  Option.bind (some (a4 + (1 : Int32))) fun x3 =>
  some (.inl (x2, x3))
noncomputable def fX8_least_5 (a1 : Int32) (a2 : Int32) (a3 : Int32) (a4 : Int32) (σ : mm) : Option ((Int32 × Int32) ⊕ (Int32)) :=
  if (σ.1 32 0 1) ≤ a4 then
  some (.inr (a3))
  else
  Option.bind (fX8_at a1 ((3 : Int32) + a4) σ) fun q1 =>
  if (0 : Int32) ≤ q1 then
  fX8_least_42 a1 a2 a4 a3 q1 a2 a4 (0 : Int32) σ
  else
  fX8_least_42 a1 a2 a4 a3 q1 a2 a4 (1 : Int32) σ
noncomputable def fX8_least_5_L (a1 : Int32) (a2 : Int32) (σ : mm) : Int32 × Int32 → Option ((Int32 × Int32) ⊕ (Int32)) := fun z => fX8_least_5 a1 a2 z.1 z.2 σ
noncomputable def fX8_least_0 (a1 : Int32) (a2 : Int32) (σ : mm) : Option (Int32) :=
  lp (fX8_least_5_L a1 a2 σ) ((0 : Int32), (0 : Int32))
noncomputable def fX8_least (a1 : Int32) (a2 : Int32) (σ : mm) : Option (Int32) := fX8_least_0 a1 a2 σ
set_option maxRecDepth 20000 in
theorem lX8_least_42 (a1 : Int32) (a2 : Int32) (a4 : Int32) (s0 : Int32) (s1 : Int32) (s3 : Int32) (s4 : Int32) (s5 : Int32) (σ σ0 τ : mm) (hσ : σ = σ0) {r : Option mv} {M' : mm × mm} {v9 : (Int32 × Int32) ⊕ (Int32)} (h : fX8_least_42 a1 a2 a4 s0 s1 s3 s4 s5 σ = some v9) (hk : (Sum.elim (fun z : Int32 × Int32 => Vm mX8_least 1 5 [(0, .inr (.inr (32, 0))), (1, .inl a1), (2, .inl a2), (3, .inl z.1), (4, .inl z.2)] [] (τ, σ) r M') (fun q : Int32 => r = some (.inl q) ∧ M' = (τ, σ0))) v9) : Vm mX8_least 1 42 [(0, .inr (.inr (32, 0))), (1, .inl a1), (2, .inl a2), (4, .inl a4)] [.inl s5, .inl s4, .inl s3, .inr (.inr (32, 0)), .inl s1, .inl s0] (τ, σ) r M' := by
  unfold fX8_least_42 at h
  replace h := Option.bind_eq_some_iff.mp h
  obtain ⟨q1, h1, h⟩ := h
  refine Vm.callV (Y := mX8_edge) (n := 45) [.inl s3, .inl s4, .inl s5] dX8_least_42 rfl wv_RX8_146 omX8_edge rfl in_32 rfl rfl rfl (Nat.le_of_ble_eq_true rfl) (by decide) (kX8_edge s3 s4 s5 σ τ h1) ?_
  refine Vm.imul (n := 46) dX8_least_45 rfl ?_
  refine Vm.iadd (n := 47) dX8_least_46 rfl ?_
  replace h := Option.bind_eq_some_iff.mp h
  obtain ⟨x2, e2, h⟩ := h
  replace e2 := Option.some.inj e2
  refine Vm.top e2 ?_
  refine Vm.istore_n (n := 48) (lv' := [(3, .inl x2), (0, .inr (.inr (32, 0))), (1, .inl a1), (2, .inl a2), (4, .inl a4)]) dX8_least_47 rfl (Nat.le_of_ble_eq_true rfl) rfl ?_
  replace h := Option.bind_eq_some_iff.mp h
  obtain ⟨x3, e3, h⟩ := h
  replace e3 := Option.some.inj e3
  refine Vm.iinc (n := 51) (v := x3) (lv' := [(4, .inl x3), (3, .inl x2), (0, .inr (.inr (32, 0))), (1, .inl a1), (2, .inl a2)]) 4 dX8_least_48 rfl rfl e3 (Nat.le_of_ble_eq_true rfl) rfl ?_
  refine Vm.goto 5 dX8_least_51 rfl ?_
  refine Vm.sub (lv' := [(0, .inr (.inr (32, 0))), (1, .inl a1), (2, .inl a2), (3, .inl x2), (4, .inl x3)]) [2, 3, 4, 1, 0] rfl ?_
  obtain rfl := Option.some.inj h
  exact hk
set_option maxRecDepth 20000 in
theorem lX8_least_5 (a1 : Int32) (a2 : Int32) (a3 : Int32) (a4 : Int32) (σ σ0 τ : mm) (hσ : σ = σ0) {r : Option mv} {M' : mm × mm} {v9 : (Int32 × Int32) ⊕ (Int32)} (h : fX8_least_5 a1 a2 a3 a4 σ = some v9) (hk : (Sum.elim (fun z : Int32 × Int32 => Vm mX8_least 1 5 [(0, .inr (.inr (32, 0))), (1, .inl a1), (2, .inl a2), (3, .inl z.1), (4, .inl z.2)] [] (τ, σ) r M') (fun q : Int32 => r = some (.inl q) ∧ M' = (τ, σ0))) v9) : Vm mX8_least 1 5 [(0, .inr (.inr (32, 0))), (1, .inl a1), (2, .inl a2), (3, .inl a3), (4, .inl a4)] [] (τ, σ) r M' := by
  unfold fX8_least_5 at h
  refine Vm.iload (n := 7) 4 dX8_least_5 rfl rfl ?_
  refine Vm.aload_n (n := 8) 0 dX8_least_7 rfl rfl ?_
  refine Vm.gM (n := 11) dX8_least_8 rfl wf_RX8_13 in_32 rfl (by decide) rfl (by decide) ?_
  refine Vm.icmp_ge (n := 14) 54 dX8_least_11 rfl rfl (fun c9 => ?_) (fun c9 => ?_)
  · replace h := (if_pos c9).symm.trans h
    refine Vm.iload_n (n := 55) 3 dX8_least_54 rfl rfl ?_
    obtain rfl := Option.some.inj h
    exact Vm.iret dX8_least_55 rfl hk.1 (by rw [hσ]; exact hk.2.symm)
  · replace h := (if_neg c9).symm.trans h
    refine Vm.aload_n (n := 15) 0 dX8_least_14 rfl rfl ?_
    refine Vm.iload_n (n := 16) 1 dX8_least_15 rfl rfl ?_
    refine Vm.iconst (n := 17) (v := (3 : Int32)) dX8_least_16 rfl (by decide) ?_
    refine Vm.iload (n := 19) 4 dX8_least_17 rfl rfl ?_
    refine Vm.iadd (n := 20) dX8_least_19 rfl ?_
    replace h := Option.bind_eq_some_iff.mp h
    obtain ⟨q1, h1, h⟩ := h
    refine Vm.callV (Y := mX8_at) (n := 23) [.inl a1, .inl ((3 : Int32) + a4)] dX8_least_20 rfl wv_RX8_142 omX8_at rfl in_32 rfl rfl rfl (Nat.le_of_ble_eq_true rfl) (by decide) (kX8_at a1 ((3 : Int32) + a4) σ τ h1) ?_
    refine Vm.istore (n := 25) (lv' := [(5, .inl q1), (0, .inr (.inr (32, 0))), (1, .inl a1), (2, .inl a2), (3, .inl a3), (4, .inl a4)]) dX8_least_23 rfl (Nat.le_of_ble_eq_true rfl) rfl ?_
    refine Vm.iload_n (n := 26) 4 dX8_least_25 rfl rfl ?_
    refine Vm.iload (n := 28) 0 dX8_least_26 rfl rfl ?_
    refine Vm.aload_n (n := 29) 1 dX8_least_28 rfl rfl ?_
    refine Vm.iload_n (n := 30) 3 dX8_least_29 rfl rfl ?_
    refine Vm.iload (n := 32) 5 dX8_least_30 rfl rfl ?_
    refine Vm.iload (n := 34) 0 dX8_least_32 rfl rfl ?_
    refine Vm.if_ge (n := 37) 41 dX8_least_34 rfl rfl (fun c9 => ?_) (fun c9 => ?_)
    · replace h := (if_pos c9).symm.trans h
      refine Vm.iconst (n := 42) (v := (0 : Int32)) dX8_least_41 rfl (by decide) ?_
      refine Vm.sub (lv' := [(0, .inr (.inr (32, 0))), (1, .inl a1), (2, .inl a2), (4, .inl a4)]) [1, 2, 3, 5] rfl ?_
      exact lX8_least_42 a1 a2 a4 a3 q1 a2 a4 (0 : Int32) σ σ0 τ hσ h hk
    · replace h := (if_neg c9).symm.trans h
      refine Vm.iconst (n := 38) (v := (1 : Int32)) dX8_least_37 rfl (by decide) ?_
      refine Vm.goto 42 dX8_least_38 rfl ?_
      refine Vm.sub (lv' := [(0, .inr (.inr (32, 0))), (1, .inl a1), (2, .inl a2), (4, .inl a4)]) [1, 2, 3, 5] rfl ?_
      exact lX8_least_42 a1 a2 a4 a3 q1 a2 a4 (1 : Int32) σ σ0 τ hσ h hk
theorem lX8_least_5_L (a1 : Int32) (a2 : Int32) (σ σ0 τ : mm) (hσ : σ = σ0) {r : Option mv} {M' : mm × mm} (z : Int32 × Int32) (w9 : Int32) (h : lp (fX8_least_5_L a1 a2 σ) z = some w9) (hk : (fun q : Int32 => r = some (.inl q) ∧ M' = (τ, σ0)) w9) : Vm mX8_least 1 5 [(0, .inr (.inr (32, 0))), (1, .inl a1), (2, .inl a2), (3, .inl z.1), (4, .inl z.2)] [] (τ, σ) r M' :=
  lp_link (S := Int32 × Int32) (R := Int32) (body := fX8_least_5_L a1 a2 σ) (A := fun z : Int32 × Int32 => Vm mX8_least 1 5 [(0, .inr (.inr (32, 0))), (1, .inl a1), (2, .inl a2), (3, .inl z.1), (4, .inl z.2)] [] (τ, σ) r M') (B := fun w : Int32 => (fun q : Int32 => r = some (.inl q) ∧ M' = (τ, σ0)) w) (fun z v hb hv => lX8_least_5 a1 a2 z.1 z.2 σ σ0 τ hσ hb hv) z w9 h hk
set_option maxRecDepth 20000 in
theorem lX8_least_0 (a1 : Int32) (a2 : Int32) (σ σ0 τ : mm) (hσ : σ = σ0) {r : Option mv} {M' : mm × mm} {v9 : Int32} (h : fX8_least_0 a1 a2 σ = some v9) (hk : (fun q : Int32 => r = some (.inl q) ∧ M' = (τ, σ0)) v9) : Vm mX8_least 1 0 [(0, .inr (.inr (32, 0))), (1, .inl a1), (2, .inl a2)] [] (τ, σ) r M' := by
  unfold fX8_least_0 at h
  refine Vm.iconst (n := 1) (v := (0 : Int32)) dX8_least_0 rfl (by decide) ?_
  refine Vm.istore_n (n := 2) (lv' := [(3, .inl (0 : Int32)), (0, .inr (.inr (32, 0))), (1, .inl a1), (2, .inl a2)]) dX8_least_1 rfl (Nat.le_of_ble_eq_true rfl) rfl ?_
  refine Vm.iconst (n := 3) (v := (0 : Int32)) dX8_least_2 rfl (by decide) ?_
  refine Vm.istore (n := 5) (lv' := [(4, .inl (0 : Int32)), (3, .inl (0 : Int32)), (0, .inr (.inr (32, 0))), (1, .inl a1), (2, .inl a2)]) dX8_least_3 rfl (Nat.le_of_ble_eq_true rfl) rfl ?_
  refine Vm.sub (lv' := [(0, .inr (.inr (32, 0))), (1, .inl a1), (2, .inl a2), (3, .inl (0 : Int32)), (4, .inl (0 : Int32))]) [2, 3, 4, 1, 0] rfl ?_
  exact lX8_least_5_L a1 a2 σ σ0 τ hσ ((0 : Int32), (0 : Int32)) _ h hk
theorem kX8_least (a1 : Int32) (a2 : Int32) (σ τ : mm) {q : Int32} (h : fX8_least a1 a2 σ = some q) : Cx mX8_least 1 [.inr (.inr (32, 0)), .inl a1, .inl a2] (τ, σ) (some (.inl q)) (τ, σ) :=
  Cx.of (lv := [(0, .inr (.inr (32, 0))), (1, .inl a1), (2, .inl a2)]) (by decide) (fun ad => Nat.le_of_ble_eq_true rfl) (fun ad => rfl) (lX8_least_0 a1 a2 σ σ τ rfl h ⟨rfl, rfl⟩)
-- ThinBodiesModel most (II)I
noncomputable def fX8_most_42 (a1 : Int32) (a2 : Int32) (a4 : Int32) (s0 : Int32) (s1 : Int32) (s3 : Int32) (s4 : Int32) (s5 : Int32) (σ : mm) : Option ((Int32 × Int32) ⊕ (Int32)) :=
  Option.bind (fX8_edge s3 s4 s5 σ) fun q1 =>
  Option.bind (some (s0 + (s1 * q1))) fun x2 =>
  Option.bind (some (a4 + (1 : Int32))) fun x3 =>
  some (.inl (x2, x3))
noncomputable def fX8_most_5 (a1 : Int32) (a2 : Int32) (a3 : Int32) (a4 : Int32) (σ : mm) : Option ((Int32 × Int32) ⊕ (Int32)) :=
  if (σ.1 32 0 1) ≤ a4 then
  some (.inr (a3))
  else
  Option.bind (fX8_at a1 ((3 : Int32) + a4) σ) fun q1 =>
  if (0 : Int32) ≤ q1 then
  fX8_most_42 a1 a2 a4 a3 q1 a2 a4 (1 : Int32) σ
  else
  fX8_most_42 a1 a2 a4 a3 q1 a2 a4 (0 : Int32) σ
noncomputable def fX8_most_5_L (a1 : Int32) (a2 : Int32) (σ : mm) : Int32 × Int32 → Option ((Int32 × Int32) ⊕ (Int32)) := fun z => fX8_most_5 a1 a2 z.1 z.2 σ
noncomputable def fX8_most_0 (a1 : Int32) (a2 : Int32) (σ : mm) : Option (Int32) :=
  lp (fX8_most_5_L a1 a2 σ) ((0 : Int32), (0 : Int32))
noncomputable def fX8_most (a1 : Int32) (a2 : Int32) (σ : mm) : Option (Int32) := fX8_most_0 a1 a2 σ
set_option maxRecDepth 20000 in
theorem lX8_most_42 (a1 : Int32) (a2 : Int32) (a4 : Int32) (s0 : Int32) (s1 : Int32) (s3 : Int32) (s4 : Int32) (s5 : Int32) (σ σ0 τ : mm) (hσ : σ = σ0) {r : Option mv} {M' : mm × mm} {v9 : (Int32 × Int32) ⊕ (Int32)} (h : fX8_most_42 a1 a2 a4 s0 s1 s3 s4 s5 σ = some v9) (hk : (Sum.elim (fun z : Int32 × Int32 => Vm mX8_most 1 5 [(0, .inr (.inr (32, 0))), (1, .inl a1), (2, .inl a2), (3, .inl z.1), (4, .inl z.2)] [] (τ, σ) r M') (fun q : Int32 => r = some (.inl q) ∧ M' = (τ, σ0))) v9) : Vm mX8_most 1 42 [(0, .inr (.inr (32, 0))), (1, .inl a1), (2, .inl a2), (4, .inl a4)] [.inl s5, .inl s4, .inl s3, .inr (.inr (32, 0)), .inl s1, .inl s0] (τ, σ) r M' := by
  unfold fX8_most_42 at h
  replace h := Option.bind_eq_some_iff.mp h
  obtain ⟨q1, h1, h⟩ := h
  refine Vm.callV (Y := mX8_edge) (n := 45) [.inl s3, .inl s4, .inl s5] dX8_most_42 rfl wv_RX8_146 omX8_edge rfl in_32 rfl rfl rfl (Nat.le_of_ble_eq_true rfl) (by decide) (kX8_edge s3 s4 s5 σ τ h1) ?_
  refine Vm.imul (n := 46) dX8_most_45 rfl ?_
  refine Vm.iadd (n := 47) dX8_most_46 rfl ?_
  replace h := Option.bind_eq_some_iff.mp h
  obtain ⟨x2, e2, h⟩ := h
  replace e2 := Option.some.inj e2
  refine Vm.top e2 ?_
  refine Vm.istore_n (n := 48) (lv' := [(3, .inl x2), (0, .inr (.inr (32, 0))), (1, .inl a1), (2, .inl a2), (4, .inl a4)]) dX8_most_47 rfl (Nat.le_of_ble_eq_true rfl) rfl ?_
  replace h := Option.bind_eq_some_iff.mp h
  obtain ⟨x3, e3, h⟩ := h
  replace e3 := Option.some.inj e3
  refine Vm.iinc (n := 51) (v := x3) (lv' := [(4, .inl x3), (3, .inl x2), (0, .inr (.inr (32, 0))), (1, .inl a1), (2, .inl a2)]) 4 dX8_most_48 rfl rfl e3 (Nat.le_of_ble_eq_true rfl) rfl ?_
  refine Vm.goto 5 dX8_most_51 rfl ?_
  refine Vm.sub (lv' := [(0, .inr (.inr (32, 0))), (1, .inl a1), (2, .inl a2), (3, .inl x2), (4, .inl x3)]) [2, 3, 4, 1, 0] rfl ?_
  obtain rfl := Option.some.inj h
  exact hk
set_option maxRecDepth 20000 in
theorem lX8_most_5 (a1 : Int32) (a2 : Int32) (a3 : Int32) (a4 : Int32) (σ σ0 τ : mm) (hσ : σ = σ0) {r : Option mv} {M' : mm × mm} {v9 : (Int32 × Int32) ⊕ (Int32)} (h : fX8_most_5 a1 a2 a3 a4 σ = some v9) (hk : (Sum.elim (fun z : Int32 × Int32 => Vm mX8_most 1 5 [(0, .inr (.inr (32, 0))), (1, .inl a1), (2, .inl a2), (3, .inl z.1), (4, .inl z.2)] [] (τ, σ) r M') (fun q : Int32 => r = some (.inl q) ∧ M' = (τ, σ0))) v9) : Vm mX8_most 1 5 [(0, .inr (.inr (32, 0))), (1, .inl a1), (2, .inl a2), (3, .inl a3), (4, .inl a4)] [] (τ, σ) r M' := by
  unfold fX8_most_5 at h
  refine Vm.iload (n := 7) 4 dX8_most_5 rfl rfl ?_
  refine Vm.aload_n (n := 8) 0 dX8_most_7 rfl rfl ?_
  refine Vm.gM (n := 11) dX8_most_8 rfl wf_RX8_13 in_32 rfl (by decide) rfl (by decide) ?_
  refine Vm.icmp_ge (n := 14) 54 dX8_most_11 rfl rfl (fun c9 => ?_) (fun c9 => ?_)
  · replace h := (if_pos c9).symm.trans h
    refine Vm.iload_n (n := 55) 3 dX8_most_54 rfl rfl ?_
    obtain rfl := Option.some.inj h
    exact Vm.iret dX8_most_55 rfl hk.1 (by rw [hσ]; exact hk.2.symm)
  · replace h := (if_neg c9).symm.trans h
    refine Vm.aload_n (n := 15) 0 dX8_most_14 rfl rfl ?_
    refine Vm.iload_n (n := 16) 1 dX8_most_15 rfl rfl ?_
    refine Vm.iconst (n := 17) (v := (3 : Int32)) dX8_most_16 rfl (by decide) ?_
    refine Vm.iload (n := 19) 4 dX8_most_17 rfl rfl ?_
    refine Vm.iadd (n := 20) dX8_most_19 rfl ?_
    replace h := Option.bind_eq_some_iff.mp h
    obtain ⟨q1, h1, h⟩ := h
    refine Vm.callV (Y := mX8_at) (n := 23) [.inl a1, .inl ((3 : Int32) + a4)] dX8_most_20 rfl wv_RX8_142 omX8_at rfl in_32 rfl rfl rfl (Nat.le_of_ble_eq_true rfl) (by decide) (kX8_at a1 ((3 : Int32) + a4) σ τ h1) ?_
    refine Vm.istore (n := 25) (lv' := [(5, .inl q1), (0, .inr (.inr (32, 0))), (1, .inl a1), (2, .inl a2), (3, .inl a3), (4, .inl a4)]) dX8_most_23 rfl (Nat.le_of_ble_eq_true rfl) rfl ?_
    refine Vm.iload_n (n := 26) 4 dX8_most_25 rfl rfl ?_
    refine Vm.iload (n := 28) 0 dX8_most_26 rfl rfl ?_
    refine Vm.aload_n (n := 29) 1 dX8_most_28 rfl rfl ?_
    refine Vm.iload_n (n := 30) 3 dX8_most_29 rfl rfl ?_
    refine Vm.iload (n := 32) 5 dX8_most_30 rfl rfl ?_
    refine Vm.iload (n := 34) 0 dX8_most_32 rfl rfl ?_
    refine Vm.if_ge (n := 37) 41 dX8_most_34 rfl rfl (fun c9 => ?_) (fun c9 => ?_)
    · replace h := (if_pos c9).symm.trans h
      refine Vm.iconst (n := 42) (v := (1 : Int32)) dX8_most_41 rfl (by decide) ?_
      refine Vm.sub (lv' := [(0, .inr (.inr (32, 0))), (1, .inl a1), (2, .inl a2), (4, .inl a4)]) [1, 2, 3, 5] rfl ?_
      exact lX8_most_42 a1 a2 a4 a3 q1 a2 a4 (1 : Int32) σ σ0 τ hσ h hk
    · replace h := (if_neg c9).symm.trans h
      refine Vm.iconst (n := 38) (v := (0 : Int32)) dX8_most_37 rfl (by decide) ?_
      refine Vm.goto 42 dX8_most_38 rfl ?_
      refine Vm.sub (lv' := [(0, .inr (.inr (32, 0))), (1, .inl a1), (2, .inl a2), (4, .inl a4)]) [1, 2, 3, 5] rfl ?_
      exact lX8_most_42 a1 a2 a4 a3 q1 a2 a4 (0 : Int32) σ σ0 τ hσ h hk
theorem lX8_most_5_L (a1 : Int32) (a2 : Int32) (σ σ0 τ : mm) (hσ : σ = σ0) {r : Option mv} {M' : mm × mm} (z : Int32 × Int32) (w9 : Int32) (h : lp (fX8_most_5_L a1 a2 σ) z = some w9) (hk : (fun q : Int32 => r = some (.inl q) ∧ M' = (τ, σ0)) w9) : Vm mX8_most 1 5 [(0, .inr (.inr (32, 0))), (1, .inl a1), (2, .inl a2), (3, .inl z.1), (4, .inl z.2)] [] (τ, σ) r M' :=
  lp_link (S := Int32 × Int32) (R := Int32) (body := fX8_most_5_L a1 a2 σ) (A := fun z : Int32 × Int32 => Vm mX8_most 1 5 [(0, .inr (.inr (32, 0))), (1, .inl a1), (2, .inl a2), (3, .inl z.1), (4, .inl z.2)] [] (τ, σ) r M') (B := fun w : Int32 => (fun q : Int32 => r = some (.inl q) ∧ M' = (τ, σ0)) w) (fun z v hb hv => lX8_most_5 a1 a2 z.1 z.2 σ σ0 τ hσ hb hv) z w9 h hk
set_option maxRecDepth 20000 in
theorem lX8_most_0 (a1 : Int32) (a2 : Int32) (σ σ0 τ : mm) (hσ : σ = σ0) {r : Option mv} {M' : mm × mm} {v9 : Int32} (h : fX8_most_0 a1 a2 σ = some v9) (hk : (fun q : Int32 => r = some (.inl q) ∧ M' = (τ, σ0)) v9) : Vm mX8_most 1 0 [(0, .inr (.inr (32, 0))), (1, .inl a1), (2, .inl a2)] [] (τ, σ) r M' := by
  unfold fX8_most_0 at h
  refine Vm.iconst (n := 1) (v := (0 : Int32)) dX8_most_0 rfl (by decide) ?_
  refine Vm.istore_n (n := 2) (lv' := [(3, .inl (0 : Int32)), (0, .inr (.inr (32, 0))), (1, .inl a1), (2, .inl a2)]) dX8_most_1 rfl (Nat.le_of_ble_eq_true rfl) rfl ?_
  refine Vm.iconst (n := 3) (v := (0 : Int32)) dX8_most_2 rfl (by decide) ?_
  refine Vm.istore (n := 5) (lv' := [(4, .inl (0 : Int32)), (3, .inl (0 : Int32)), (0, .inr (.inr (32, 0))), (1, .inl a1), (2, .inl a2)]) dX8_most_3 rfl (Nat.le_of_ble_eq_true rfl) rfl ?_
  refine Vm.sub (lv' := [(0, .inr (.inr (32, 0))), (1, .inl a1), (2, .inl a2), (3, .inl (0 : Int32)), (4, .inl (0 : Int32))]) [2, 3, 4, 1, 0] rfl ?_
  exact lX8_most_5_L a1 a2 σ σ0 τ hσ ((0 : Int32), (0 : Int32)) _ h hk
theorem kX8_most (a1 : Int32) (a2 : Int32) (σ τ : mm) {q : Int32} (h : fX8_most a1 a2 σ = some q) : Cx mX8_most 1 [.inr (.inr (32, 0)), .inl a1, .inl a2] (τ, σ) (some (.inl q)) (τ, σ) :=
  Cx.of (lv := [(0, .inr (.inr (32, 0))), (1, .inl a1), (2, .inl a2)]) (by decide) (fun ad => Nat.le_of_ble_eq_true rfl) (fun ad => rfl) (lX8_most_0 a1 a2 σ σ τ rfl h ⟨rfl, rfl⟩)
-- ThinBodiesModel of (II)I
noncomputable def fX8_of_20 (σ : mm) : Option (Int32 × mm) :=
  Option.bind (fX8_finds (-1000000001 : Int32) σ) fun q1 =>
  some ((q1.1, q1.2))
noncomputable def fX8_of_0 (a1 : Int32) (a2 : Int32) (σ : mm) : Option (Int32 × mm) :=
  if (bi (fX8_isRow a1 σ)) = (0 : Int32) then
  fX8_of_20 σ
  else
  if (bi (fX8_in a2.toInt64 (0 : Int64) (8 : Int64))) = (0 : Int32) then
  fX8_of_20 σ
  else
  Option.bind (fX8_whole σ) fun q1 =>
  if (7 : Int32) ≤ a2 then
  if a2 = (7 : Int32) then
  Option.bind (fX8_least a1 (0 : Int32) q1) fun q3 =>
  some ((q3, q1))
  else
  Option.bind (fX8_most a1 (0 : Int32) q1) fun q2 =>
  some ((q2, q1))
  else
  Option.bind (fX8_at a1 a2 q1) fun q4 =>
  some ((q4, q1))
noncomputable def fX8_of (a1 : Int32) (a2 : Int32) (σ : mm) : Option (Int32 × mm) := fX8_of_0 a1 a2 σ
set_option maxRecDepth 20000 in
theorem lX8_of_20 (σ τ : mm) {r : Option mv} {M' : mm × mm} {v9 : Int32 × mm} (h : fX8_of_20 σ = some v9) (hk : (fun q : Int32 × mm => r = some (.inl q.1) ∧ M' = (τ, q.2)) v9) : Vm mX8_of 2 20 [(0, .inr (.inr (32, 0)))] [] (τ, σ) r M' := by
  unfold fX8_of_20 at h
  refine Vm.aload_n (n := 21) 0 dX8_of_20 rfl rfl ?_
  refine Vm.ldc (n := 23) dX8_of_21 rfl wc_RX8_92 ?_
  replace h := Option.bind_eq_some_iff.mp h
  obtain ⟨q1, h1, h⟩ := h
  refine Vm.callV (Y := mX8_finds) (n := 26) [.inl (-1000000001 : Int32)] dX8_of_23 rfl wv_RX8_102 omX8_finds rfl in_32 rfl rfl rfl (Nat.le_of_ble_eq_true rfl) (by decide) (kX8_finds (-1000000001 : Int32) σ τ h1) ?_
  obtain rfl := Option.some.inj h
  exact Vm.iret dX8_of_26 rfl hk.1 hk.2.symm
set_option maxRecDepth 20000 in
theorem lX8_of_0 (a1 : Int32) (a2 : Int32) (σ τ : mm) {r : Option mv} {M' : mm × mm} {v9 : Int32 × mm} (h : fX8_of_0 a1 a2 σ = some v9) (hk : (fun q : Int32 × mm => r = some (.inl q.1) ∧ M' = (τ, q.2)) v9) : Vm mX8_of 2 0 [(0, .inr (.inr (32, 0))), (1, .inl a1), (2, .inl a2)] [] (τ, σ) r M' := by
  unfold fX8_of_0 at h
  refine Vm.aload_n (n := 1) 0 dX8_of_0 rfl rfl ?_
  refine Vm.iload_n (n := 2) 1 dX8_of_1 rfl rfl ?_
  refine Vm.callV (Y := mX8_isRow) (n := 5) [.inl a1] dX8_of_2 rfl wv_RX8_150 omX8_isRow rfl in_32 rfl rfl rfl (Nat.le_of_ble_eq_true rfl) (by decide) (kX8_isRow a1 σ τ rfl) ?_
  refine Vm.if_eq (n := 8) 20 dX8_of_5 rfl rfl (fun c9 => ?_) (fun c9 => ?_)
  · replace h := (if_pos c9).symm.trans h
    refine Vm.sub (lv' := [(0, .inr (.inr (32, 0)))]) [0] rfl ?_
    exact lX8_of_20 σ τ h hk
  · replace h := (if_neg c9).symm.trans h
    refine Vm.iload_n (n := 9) 2 dX8_of_8 rfl rfl ?_
    refine Vm.i2l (n := 10) dX8_of_9 rfl ?_
    refine Vm.lconst (n := 11) (v := (0 : Int64)) dX8_of_10 rfl (by decide) ?_
    refine Vm.ldc2 (n := 14) dX8_of_11 rfl wl_RX8_153 ?_
    refine Vm.callS (Y := mX8_in) (n := 17) [.inr (.inl a2.toInt64), .inr (.inl (0 : Int64)), .inr (.inl (8 : Int64))] dX8_of_14 rfl wv_RX8_93 omX8_in rfl rfl (Nat.le_of_ble_eq_true rfl) (by decide) (kX8_in a2.toInt64 (0 : Int64) (8 : Int64) rfl) ?_
    refine Vm.if_ne (n := 20) 27 dX8_of_17 rfl rfl (fun c9 => ?_) (fun c9 => ?_)
    · replace h := (if_neg c9).symm.trans h
      refine Vm.aload_n (n := 28) 0 dX8_of_27 rfl rfl ?_
      replace h := Option.bind_eq_some_iff.mp h
      obtain ⟨q1, h1, h⟩ := h
      refine Vm.callVv (Y := mX8_whole) (n := 31) [] dX8_of_28 rfl wv_RX8_155 omX8_whole rfl in_32 rfl rfl rfl (Nat.le_of_ble_eq_true rfl) (by decide) (kX8_whole σ τ h1) ?_
      refine Vm.iload_n (n := 32) 2 dX8_of_31 rfl rfl ?_
      refine Vm.bipush (n := 34) (v := (7 : Int32)) dX8_of_32 rfl (by decide) ?_
      refine Vm.icmp_ge (n := 37) 46 dX8_of_34 rfl rfl (fun c9 => ?_) (fun c9 => ?_)
      · replace h := (if_pos c9).symm.trans h
        refine Vm.iload_n (n := 47) 2 dX8_of_46 rfl rfl ?_
        refine Vm.bipush (n := 49) (v := (7 : Int32)) dX8_of_47 rfl (by decide) ?_
        refine Vm.icmp_ne (n := 52) 61 dX8_of_49 rfl rfl (fun c9 => ?_) (fun c9 => ?_)
        · replace h := (if_neg c9).symm.trans h
          refine Vm.aload_n (n := 62) 0 dX8_of_61 rfl rfl ?_
          refine Vm.iload_n (n := 63) 1 dX8_of_62 rfl rfl ?_
          refine Vm.iconst (n := 64) (v := (0 : Int32)) dX8_of_63 rfl (by decide) ?_
          replace h := Option.bind_eq_some_iff.mp h
          obtain ⟨q2, h2, h⟩ := h
          refine Vm.callV (Y := mX8_most) (n := 67) [.inl a1, .inl (0 : Int32)] dX8_of_64 rfl wv_RX8_161 omX8_most rfl in_32 rfl rfl rfl (Nat.le_of_ble_eq_true rfl) (by decide) (kX8_most a1 (0 : Int32) q1 τ h2) ?_
          obtain rfl := Option.some.inj h
          exact Vm.iret dX8_of_67 rfl hk.1 hk.2.symm
        · replace h := (if_pos c9).symm.trans h
          refine Vm.aload_n (n := 53) 0 dX8_of_52 rfl rfl ?_
          refine Vm.iload_n (n := 54) 1 dX8_of_53 rfl rfl ?_
          refine Vm.iconst (n := 55) (v := (0 : Int32)) dX8_of_54 rfl (by decide) ?_
          replace h := Option.bind_eq_some_iff.mp h
          obtain ⟨q3, h3, h⟩ := h
          refine Vm.callV (Y := mX8_least) (n := 58) [.inl a1, .inl (0 : Int32)] dX8_of_55 rfl wv_RX8_158 omX8_least rfl in_32 rfl rfl rfl (Nat.le_of_ble_eq_true rfl) (by decide) (kX8_least a1 (0 : Int32) q1 τ h3) ?_
          refine Vm.goto 67 dX8_of_58 rfl ?_
          obtain rfl := Option.some.inj h
          exact Vm.iret dX8_of_67 rfl hk.1 hk.2.symm
      · replace h := (if_neg c9).symm.trans h
        refine Vm.aload_n (n := 38) 0 dX8_of_37 rfl rfl ?_
        refine Vm.iload_n (n := 39) 1 dX8_of_38 rfl rfl ?_
        refine Vm.iload_n (n := 40) 2 dX8_of_39 rfl rfl ?_
        replace h := Option.bind_eq_some_iff.mp h
        obtain ⟨q4, h4, h⟩ := h
        refine Vm.callV (Y := mX8_at) (n := 43) [.inl a1, .inl a2] dX8_of_40 rfl wv_RX8_142 omX8_at rfl in_32 rfl rfl rfl (Nat.le_of_ble_eq_true rfl) (by decide) (kX8_at a1 a2 q1 τ h4) ?_
        refine Vm.goto 67 dX8_of_43 rfl ?_
        obtain rfl := Option.some.inj h
        exact Vm.iret dX8_of_67 rfl hk.1 hk.2.symm
    · replace h := (if_pos c9).symm.trans h
      refine Vm.sub (lv' := [(0, .inr (.inr (32, 0)))]) [0] rfl ?_
      exact lX8_of_20 σ τ h hk
theorem kX8_of (a1 : Int32) (a2 : Int32) (σ τ : mm) {q : Int32 × mm} (h : fX8_of a1 a2 σ = some q) : Cx mX8_of 2 [.inr (.inr (32, 0)), .inl a1, .inl a2] (τ, σ) (some (.inl q.1)) (τ, q.2) :=
  Cx.of (lv := [(0, .inr (.inr (32, 0))), (1, .inl a1), (2, .inl a2)]) (by decide) (fun ad => Nat.le_of_ble_eq_true rfl) (fun ad => rfl) (lX8_of_0 a1 a2 σ τ h ⟨rfl, rfl⟩)
-- ThinBodiesModel change (III)I
def fX8_change_28 (σ : mm) : Option (Int32 × mm) :=
  Option.bind (fX8_finds (-1000000001 : Int32) σ) fun q1 =>
  some ((q1.1, q1.2))
def fX8_change_0 (a1 : Int32) (a2 : Int32) (a3 : Int32) (σ : mm) : Option (Int32 × mm) :=
  if (bi (fX8_isRow a1 σ)) = (0 : Int32) then
  fX8_change_28 σ
  else
  if (bi (fX8_in a2.toInt64 (0 : Int64) (6 : Int64))) = (0 : Int32) then
  fX8_change_28 σ
  else
  if (bi (fX8_isOf a2 a3)) = (0 : Int32) then
  fX8_change_28 σ
  else
  Option.bind (fX8_at a1 a2 σ) fun q1 =>
  Option.bind (wrI σ 45 0 56 (((7 : Int32) * a1) + a2) a3) fun σ2 =>
  some ((q1, σ2))
def fX8_change (a1 : Int32) (a2 : Int32) (a3 : Int32) (σ : mm) : Option (Int32 × mm) := fX8_change_0 a1 a2 a3 σ
set_option maxRecDepth 20000 in
theorem lX8_change_28 (σ τ : mm) {r : Option mv} {M' : mm × mm} {v9 : Int32 × mm} (h : fX8_change_28 σ = some v9) (hk : (fun q : Int32 × mm => r = some (.inl q.1) ∧ M' = (τ, q.2)) v9) : Vm mX8_change 2 28 [(0, .inr (.inr (32, 0)))] [] (τ, σ) r M' := by
  unfold fX8_change_28 at h
  refine Vm.aload_n (n := 29) 0 dX8_change_28 rfl rfl ?_
  refine Vm.ldc (n := 31) dX8_change_29 rfl wc_RX8_92 ?_
  replace h := Option.bind_eq_some_iff.mp h
  obtain ⟨q1, h1, h⟩ := h
  refine Vm.callV (Y := mX8_finds) (n := 34) [.inl (-1000000001 : Int32)] dX8_change_31 rfl wv_RX8_102 omX8_finds rfl in_32 rfl rfl rfl (Nat.le_of_ble_eq_true rfl) (by decide) (kX8_finds (-1000000001 : Int32) σ τ h1) ?_
  obtain rfl := Option.some.inj h
  exact Vm.iret dX8_change_34 rfl hk.1 hk.2.symm
set_option maxRecDepth 20000 in
theorem lX8_change_0 (a1 : Int32) (a2 : Int32) (a3 : Int32) (σ τ : mm) {r : Option mv} {M' : mm × mm} {v9 : Int32 × mm} (h : fX8_change_0 a1 a2 a3 σ = some v9) (hk : (fun q : Int32 × mm => r = some (.inl q.1) ∧ M' = (τ, q.2)) v9) : Vm mX8_change 2 0 [(0, .inr (.inr (32, 0))), (1, .inl a1), (2, .inl a2), (3, .inl a3)] [] (τ, σ) r M' := by
  unfold fX8_change_0 at h
  refine Vm.aload_n (n := 1) 0 dX8_change_0 rfl rfl ?_
  refine Vm.iload_n (n := 2) 1 dX8_change_1 rfl rfl ?_
  refine Vm.callV (Y := mX8_isRow) (n := 5) [.inl a1] dX8_change_2 rfl wv_RX8_150 omX8_isRow rfl in_32 rfl rfl rfl (Nat.le_of_ble_eq_true rfl) (by decide) (kX8_isRow a1 σ τ rfl) ?_
  refine Vm.if_eq (n := 8) 28 dX8_change_5 rfl rfl (fun c9 => ?_) (fun c9 => ?_)
  · replace h := (if_pos c9).symm.trans h
    refine Vm.sub (lv' := [(0, .inr (.inr (32, 0)))]) [0] rfl ?_
    exact lX8_change_28 σ τ h hk
  · replace h := (if_neg c9).symm.trans h
    refine Vm.iload_n (n := 9) 2 dX8_change_8 rfl rfl ?_
    refine Vm.i2l (n := 10) dX8_change_9 rfl ?_
    refine Vm.lconst (n := 11) (v := (0 : Int64)) dX8_change_10 rfl (by decide) ?_
    refine Vm.ldc2 (n := 14) dX8_change_11 rfl wl_RX8_164 ?_
    refine Vm.callS (Y := mX8_in) (n := 17) [.inr (.inl a2.toInt64), .inr (.inl (0 : Int64)), .inr (.inl (6 : Int64))] dX8_change_14 rfl wv_RX8_93 omX8_in rfl rfl (Nat.le_of_ble_eq_true rfl) (by decide) (kX8_in a2.toInt64 (0 : Int64) (6 : Int64) rfl) ?_
    refine Vm.if_eq (n := 20) 28 dX8_change_17 rfl rfl (fun c9 => ?_) (fun c9 => ?_)
    · replace h := (if_pos c9).symm.trans h
      refine Vm.sub (lv' := [(0, .inr (.inr (32, 0)))]) [0] rfl ?_
      exact lX8_change_28 σ τ h hk
    · replace h := (if_neg c9).symm.trans h
      refine Vm.iload_n (n := 21) 2 dX8_change_20 rfl rfl ?_
      refine Vm.iload_n (n := 22) 3 dX8_change_21 rfl rfl ?_
      refine Vm.callS (Y := mX8_isOf) (n := 25) [.inl a2, .inl a3] dX8_change_22 rfl wv_RX8_134 omX8_isOf rfl rfl (Nat.le_of_ble_eq_true rfl) (by decide) (kX8_isOf a2 a3 rfl) ?_
      refine Vm.if_ne (n := 28) 35 dX8_change_25 rfl rfl (fun c9 => ?_) (fun c9 => ?_)
      · replace h := (if_neg c9).symm.trans h
        refine Vm.aload_n (n := 36) 0 dX8_change_35 rfl rfl ?_
        refine Vm.iload_n (n := 37) 1 dX8_change_36 rfl rfl ?_
        refine Vm.iload_n (n := 38) 2 dX8_change_37 rfl rfl ?_
        replace h := Option.bind_eq_some_iff.mp h
        obtain ⟨q1, h1, h⟩ := h
        refine Vm.callV (Y := mX8_at) (n := 41) [.inl a1, .inl a2] dX8_change_38 rfl wv_RX8_142 omX8_at rfl in_32 rfl rfl rfl (Nat.le_of_ble_eq_true rfl) (by decide) (kX8_at a1 a2 σ τ h1) ?_
        refine Vm.istore (n := 43) (lv' := [(4, .inl q1), (0, .inr (.inr (32, 0))), (1, .inl a1), (2, .inl a2), (3, .inl a3)]) dX8_change_41 rfl (Nat.le_of_ble_eq_true rfl) rfl ?_
        refine Vm.aload_n (n := 44) 1 dX8_change_43 rfl rfl ?_
        refine Vm.getR (n := 47) dX8_change_44 rfl wf_RX8_23 in_32 rfl (by decide) rfl ?_
        refine Vm.bipush (n := 49) (v := (7 : Int32)) dX8_change_47 rfl (by decide) ?_
        refine Vm.iload_n (n := 50) 2 dX8_change_49 rfl rfl ?_
        refine Vm.imul (n := 51) dX8_change_50 rfl ?_
        refine Vm.iload_n (n := 52) 3 dX8_change_51 rfl rfl ?_
        refine Vm.iadd (n := 53) dX8_change_52 rfl ?_
        refine Vm.iload_n (n := 54) 4 dX8_change_53 rfl rfl ?_
        replace h := Option.bind_eq_some_iff.mp h
        obtain ⟨σ2, h2, h⟩ := h
        refine Vm.iastm (n := 55) dX8_change_54 rfl in_45 rfl rfl (by decide) h2 ?_
        refine Vm.iload (n := 57) 0 dX8_change_55 rfl rfl ?_
        obtain rfl := Option.some.inj h
        exact Vm.iret dX8_change_57 rfl hk.1 hk.2.symm
      · replace h := (if_pos c9).symm.trans h
        refine Vm.sub (lv' := [(0, .inr (.inr (32, 0)))]) [0] rfl ?_
        exact lX8_change_28 σ τ h hk
theorem kX8_change (a1 : Int32) (a2 : Int32) (a3 : Int32) (σ τ : mm) {q : Int32 × mm} (h : fX8_change a1 a2 a3 σ = some q) : Cx mX8_change 2 [.inr (.inr (32, 0)), .inl a1, .inl a2, .inl a3] (τ, σ) (some (.inl q.1)) (τ, q.2) :=
  Cx.of (lv := [(0, .inr (.inr (32, 0))), (1, .inl a1), (2, .inl a2), (3, .inl a3)]) (by decide) (fun ad => Nat.le_of_ble_eq_true rfl) (fun ad => rfl) (lX8_change_0 a1 a2 a3 σ τ h ⟨rfl, rfl⟩)
-- ThinBodiesModel as (II)I
def fX8_as_68 (a1 : Int32) (s0 : Int32) (σ : mm) : Option (Int32 × mm) :=
  if s0 = (0 : Int32) then
  Option.bind (fX8_finds (-1000000003 : Int32) σ) fun q1 =>
  some ((q1.1, q1.2))
  else
  Option.bind (fX8_at a1 (1 : Int32) σ) fun q2 =>
  some ((q2, σ))
def fX8_as_67 (a1 : Int32) (σ : mm) : Option (Int32 × mm) :=
  fX8_as_68 a1 (0 : Int32) σ
def fX8_as_63 (a1 : Int32) (σ : mm) : Option (Int32 × mm) :=
  fX8_as_68 a1 (1 : Int32) σ
def fX8_as_53 (a1 : Int32) (a2 : Int32) (a3 : Int32) (σ : mm) : Option (Int32 × mm) :=
  if a2 = (2 : Int32) then
  if a3 = (4 : Int32) then
  fX8_as_63 a1 σ
  else
  fX8_as_67 a1 σ
  else
  fX8_as_67 a1 σ
def fX8_as_20 (σ : mm) : Option (Int32 × mm) :=
  Option.bind (fX8_finds (-1000000001 : Int32) σ) fun q1 =>
  some ((q1.1, q1.2))
def fX8_as_0 (a1 : Int32) (a2 : Int32) (σ : mm) : Option (Int32 × mm) :=
  if (bi (fX8_isRow a1 σ)) = (0 : Int32) then
  fX8_as_20 σ
  else
  if (bi (fX8_in a2.toInt64 (0 : Int64) (5 : Int64))) = (0 : Int32) then
  fX8_as_20 σ
  else
  Option.bind (fX8_at a1 (0 : Int32) σ) fun q1 =>
  if a2 = (0 : Int32) then
  fX8_as_63 a1 σ
  else
  if a2 = q1 then
  fX8_as_63 a1 σ
  else
  if a2 = (1 : Int32) then
  if q1 = (3 : Int32) then
  fX8_as_63 a1 σ
  else
  fX8_as_53 a1 a2 q1 σ
  else
  fX8_as_53 a1 a2 q1 σ
def fX8_as (a1 : Int32) (a2 : Int32) (σ : mm) : Option (Int32 × mm) := fX8_as_0 a1 a2 σ
set_option maxRecDepth 20000 in
theorem lX8_as_68 (a1 : Int32) (s0 : Int32) (σ τ : mm) {r : Option mv} {M' : mm × mm} {v9 : Int32 × mm} (h : fX8_as_68 a1 s0 σ = some v9) (hk : (fun q : Int32 × mm => r = some (.inl q.1) ∧ M' = (τ, q.2)) v9) : Vm mX8_as 2 68 [(0, .inr (.inr (32, 0))), (1, .inl a1)] [.inl s0] (τ, σ) r M' := by
  unfold fX8_as_68 at h
  refine Vm.istore (n := 70) (lv' := [(4, .inl s0), (0, .inr (.inr (32, 0))), (1, .inl a1)]) dX8_as_68 rfl (Nat.le_of_ble_eq_true rfl) rfl ?_
  refine Vm.iload (n := 72) 0 dX8_as_70 rfl rfl ?_
  refine Vm.if_eq (n := 75) 84 dX8_as_72 rfl rfl (fun c9 => ?_) (fun c9 => ?_)
  · replace h := (if_pos c9).symm.trans h
    refine Vm.aload_n (n := 85) 1 dX8_as_84 rfl rfl ?_
    refine Vm.ldc (n := 87) dX8_as_85 rfl wc_RX8_166 ?_
    replace h := Option.bind_eq_some_iff.mp h
    obtain ⟨q1, h1, h⟩ := h
    refine Vm.callV (Y := mX8_finds) (n := 90) [.inl (-1000000003 : Int32)] dX8_as_87 rfl wv_RX8_102 omX8_finds rfl in_32 rfl rfl rfl (Nat.le_of_ble_eq_true rfl) (by decide) (kX8_finds (-1000000003 : Int32) σ τ h1) ?_
    obtain rfl := Option.some.inj h
    exact Vm.iret dX8_as_90 rfl hk.1 hk.2.symm
  · replace h := (if_neg c9).symm.trans h
    refine Vm.aload_n (n := 76) 1 dX8_as_75 rfl rfl ?_
    refine Vm.iload_n (n := 77) 2 dX8_as_76 rfl rfl ?_
    refine Vm.iconst (n := 78) (v := (1 : Int32)) dX8_as_77 rfl (by decide) ?_
    replace h := Option.bind_eq_some_iff.mp h
    obtain ⟨q2, h2, h⟩ := h
    refine Vm.callV (Y := mX8_at) (n := 81) [.inl a1, .inl (1 : Int32)] dX8_as_78 rfl wv_RX8_142 omX8_at rfl in_32 rfl rfl rfl (Nat.le_of_ble_eq_true rfl) (by decide) (kX8_at a1 (1 : Int32) σ τ h2) ?_
    refine Vm.goto 90 dX8_as_81 rfl ?_
    obtain rfl := Option.some.inj h
    exact Vm.iret dX8_as_90 rfl hk.1 hk.2.symm
set_option maxRecDepth 20000 in
theorem lX8_as_67 (a1 : Int32) (σ τ : mm) {r : Option mv} {M' : mm × mm} {v9 : Int32 × mm} (h : fX8_as_67 a1 σ = some v9) (hk : (fun q : Int32 × mm => r = some (.inl q.1) ∧ M' = (τ, q.2)) v9) : Vm mX8_as 2 67 [(0, .inr (.inr (32, 0))), (1, .inl a1)] [] (τ, σ) r M' := by
  unfold fX8_as_67 at h
  refine Vm.iconst (n := 68) (v := (0 : Int32)) dX8_as_67 rfl (by decide) ?_
  exact lX8_as_68 a1 (0 : Int32) σ τ h hk
set_option maxRecDepth 20000 in
theorem lX8_as_63 (a1 : Int32) (σ τ : mm) {r : Option mv} {M' : mm × mm} {v9 : Int32 × mm} (h : fX8_as_63 a1 σ = some v9) (hk : (fun q : Int32 × mm => r = some (.inl q.1) ∧ M' = (τ, q.2)) v9) : Vm mX8_as 2 63 [(0, .inr (.inr (32, 0))), (1, .inl a1)] [] (τ, σ) r M' := by
  unfold fX8_as_63 at h
  refine Vm.iconst (n := 64) (v := (1 : Int32)) dX8_as_63 rfl (by decide) ?_
  refine Vm.goto 68 dX8_as_64 rfl ?_
  exact lX8_as_68 a1 (1 : Int32) σ τ h hk
set_option maxRecDepth 20000 in
theorem lX8_as_53 (a1 : Int32) (a2 : Int32) (a3 : Int32) (σ τ : mm) {r : Option mv} {M' : mm × mm} {v9 : Int32 × mm} (h : fX8_as_53 a1 a2 a3 σ = some v9) (hk : (fun q : Int32 × mm => r = some (.inl q.1) ∧ M' = (τ, q.2)) v9) : Vm mX8_as 2 53 [(0, .inr (.inr (32, 0))), (1, .inl a1), (2, .inl a2), (3, .inl a3)] [] (τ, σ) r M' := by
  unfold fX8_as_53 at h
  refine Vm.iload_n (n := 54) 2 dX8_as_53 rfl rfl ?_
  refine Vm.iconst (n := 55) (v := (2 : Int32)) dX8_as_54 rfl (by decide) ?_
  refine Vm.icmp_ne (n := 58) 67 dX8_as_55 rfl rfl (fun c9 => ?_) (fun c9 => ?_)
  · replace h := (if_neg c9).symm.trans h
    refine Vm.sub (lv' := [(0, .inr (.inr (32, 0))), (1, .inl a1)]) [0, 1] rfl ?_
    exact lX8_as_67 a1 σ τ h hk
  · replace h := (if_pos c9).symm.trans h
    refine Vm.iload_n (n := 59) 3 dX8_as_58 rfl rfl ?_
    refine Vm.iconst (n := 60) (v := (4 : Int32)) dX8_as_59 rfl (by decide) ?_
    refine Vm.icmp_ne (n := 63) 67 dX8_as_60 rfl rfl (fun c9 => ?_) (fun c9 => ?_)
    · replace h := (if_neg c9).symm.trans h
      refine Vm.sub (lv' := [(0, .inr (.inr (32, 0))), (1, .inl a1)]) [0, 1] rfl ?_
      exact lX8_as_67 a1 σ τ h hk
    · replace h := (if_pos c9).symm.trans h
      refine Vm.sub (lv' := [(0, .inr (.inr (32, 0))), (1, .inl a1)]) [0, 1] rfl ?_
      exact lX8_as_63 a1 σ τ h hk
set_option maxRecDepth 20000 in
theorem lX8_as_20 (σ τ : mm) {r : Option mv} {M' : mm × mm} {v9 : Int32 × mm} (h : fX8_as_20 σ = some v9) (hk : (fun q : Int32 × mm => r = some (.inl q.1) ∧ M' = (τ, q.2)) v9) : Vm mX8_as 2 20 [(0, .inr (.inr (32, 0)))] [] (τ, σ) r M' := by
  unfold fX8_as_20 at h
  refine Vm.aload_n (n := 21) 0 dX8_as_20 rfl rfl ?_
  refine Vm.ldc (n := 23) dX8_as_21 rfl wc_RX8_92 ?_
  replace h := Option.bind_eq_some_iff.mp h
  obtain ⟨q1, h1, h⟩ := h
  refine Vm.callV (Y := mX8_finds) (n := 26) [.inl (-1000000001 : Int32)] dX8_as_23 rfl wv_RX8_102 omX8_finds rfl in_32 rfl rfl rfl (Nat.le_of_ble_eq_true rfl) (by decide) (kX8_finds (-1000000001 : Int32) σ τ h1) ?_
  obtain rfl := Option.some.inj h
  exact Vm.iret dX8_as_26 rfl hk.1 hk.2.symm
set_option maxRecDepth 20000 in
theorem lX8_as_0 (a1 : Int32) (a2 : Int32) (σ τ : mm) {r : Option mv} {M' : mm × mm} {v9 : Int32 × mm} (h : fX8_as_0 a1 a2 σ = some v9) (hk : (fun q : Int32 × mm => r = some (.inl q.1) ∧ M' = (τ, q.2)) v9) : Vm mX8_as 2 0 [(0, .inr (.inr (32, 0))), (1, .inl a1), (2, .inl a2)] [] (τ, σ) r M' := by
  unfold fX8_as_0 at h
  refine Vm.aload_n (n := 1) 0 dX8_as_0 rfl rfl ?_
  refine Vm.iload_n (n := 2) 1 dX8_as_1 rfl rfl ?_
  refine Vm.callV (Y := mX8_isRow) (n := 5) [.inl a1] dX8_as_2 rfl wv_RX8_150 omX8_isRow rfl in_32 rfl rfl rfl (Nat.le_of_ble_eq_true rfl) (by decide) (kX8_isRow a1 σ τ rfl) ?_
  refine Vm.if_eq (n := 8) 20 dX8_as_5 rfl rfl (fun c9 => ?_) (fun c9 => ?_)
  · replace h := (if_pos c9).symm.trans h
    refine Vm.sub (lv' := [(0, .inr (.inr (32, 0)))]) [0] rfl ?_
    exact lX8_as_20 σ τ h hk
  · replace h := (if_neg c9).symm.trans h
    refine Vm.iload_n (n := 9) 2 dX8_as_8 rfl rfl ?_
    refine Vm.i2l (n := 10) dX8_as_9 rfl ?_
    refine Vm.lconst (n := 11) (v := (0 : Int64)) dX8_as_10 rfl (by decide) ?_
    refine Vm.ldc2 (n := 14) dX8_as_11 rfl wl_RX8_126 ?_
    refine Vm.callS (Y := mX8_in) (n := 17) [.inr (.inl a2.toInt64), .inr (.inl (0 : Int64)), .inr (.inl (5 : Int64))] dX8_as_14 rfl wv_RX8_93 omX8_in rfl rfl (Nat.le_of_ble_eq_true rfl) (by decide) (kX8_in a2.toInt64 (0 : Int64) (5 : Int64) rfl) ?_
    refine Vm.if_ne (n := 20) 27 dX8_as_17 rfl rfl (fun c9 => ?_) (fun c9 => ?_)
    · replace h := (if_neg c9).symm.trans h
      refine Vm.aload_n (n := 28) 0 dX8_as_27 rfl rfl ?_
      refine Vm.iload_n (n := 29) 1 dX8_as_28 rfl rfl ?_
      refine Vm.iconst (n := 30) (v := (0 : Int32)) dX8_as_29 rfl (by decide) ?_
      replace h := Option.bind_eq_some_iff.mp h
      obtain ⟨q1, h1, h⟩ := h
      refine Vm.callV (Y := mX8_at) (n := 33) [.inl a1, .inl (0 : Int32)] dX8_as_30 rfl wv_RX8_142 omX8_at rfl in_32 rfl rfl rfl (Nat.le_of_ble_eq_true rfl) (by decide) (kX8_at a1 (0 : Int32) σ τ h1) ?_
      refine Vm.istore_n (n := 34) (lv' := [(3, .inl q1), (0, .inr (.inr (32, 0))), (1, .inl a1), (2, .inl a2)]) dX8_as_33 rfl (Nat.le_of_ble_eq_true rfl) rfl ?_
      refine Vm.iload_n (n := 35) 3 dX8_as_34 rfl rfl ?_
      refine Vm.if_eq (n := 38) 63 dX8_as_35 rfl rfl (fun c9 => ?_) (fun c9 => ?_)
      · replace h := (if_pos c9).symm.trans h
        refine Vm.sub (lv' := [(0, .inr (.inr (32, 0))), (1, .inl a1)]) [1, 2] rfl ?_
        exact lX8_as_63 a1 σ τ h hk
      · replace h := (if_neg c9).symm.trans h
        refine Vm.iload_n (n := 39) 3 dX8_as_38 rfl rfl ?_
        refine Vm.iload_n (n := 40) 0 dX8_as_39 rfl rfl ?_
        refine Vm.icmp_eq (n := 43) 63 dX8_as_40 rfl rfl (fun c9 => ?_) (fun c9 => ?_)
        · replace h := (if_pos c9).symm.trans h
          refine Vm.sub (lv' := [(0, .inr (.inr (32, 0))), (1, .inl a1)]) [1, 2] rfl ?_
          exact lX8_as_63 a1 σ τ h hk
        · replace h := (if_neg c9).symm.trans h
          refine Vm.iload_n (n := 44) 3 dX8_as_43 rfl rfl ?_
          refine Vm.iconst (n := 45) (v := (1 : Int32)) dX8_as_44 rfl (by decide) ?_
          refine Vm.icmp_ne (n := 48) 53 dX8_as_45 rfl rfl (fun c9 => ?_) (fun c9 => ?_)
          · replace h := (if_neg c9).symm.trans h
            refine Vm.sub (lv' := [(0, .inr (.inr (32, 0))), (1, .inl a1), (2, .inl a2), (3, .inl q1)]) [1, 2, 3, 0] rfl ?_
            exact lX8_as_53 a1 a2 q1 σ τ h hk
          · replace h := (if_pos c9).symm.trans h
            refine Vm.iload_n (n := 49) 0 dX8_as_48 rfl rfl ?_
            refine Vm.iconst (n := 50) (v := (3 : Int32)) dX8_as_49 rfl (by decide) ?_
            refine Vm.icmp_eq (n := 53) 63 dX8_as_50 rfl rfl (fun c9 => ?_) (fun c9 => ?_)
            · replace h := (if_pos c9).symm.trans h
              refine Vm.sub (lv' := [(0, .inr (.inr (32, 0))), (1, .inl a1)]) [1, 2] rfl ?_
              exact lX8_as_63 a1 σ τ h hk
            · replace h := (if_neg c9).symm.trans h
              refine Vm.sub (lv' := [(0, .inr (.inr (32, 0))), (1, .inl a1), (2, .inl a2), (3, .inl q1)]) [1, 2, 3, 0] rfl ?_
              exact lX8_as_53 a1 a2 q1 σ τ h hk
    · replace h := (if_pos c9).symm.trans h
      refine Vm.sub (lv' := [(0, .inr (.inr (32, 0)))]) [0] rfl ?_
      exact lX8_as_20 σ τ h hk
theorem kX8_as (a1 : Int32) (a2 : Int32) (σ τ : mm) {q : Int32 × mm} (h : fX8_as a1 a2 σ = some q) : Cx mX8_as 2 [.inr (.inr (32, 0)), .inl a1, .inl a2] (τ, σ) (some (.inl q.1)) (τ, q.2) :=
  Cx.of (lv := [(0, .inr (.inr (32, 0))), (1, .inl a1), (2, .inl a2)]) (by decide) (fun ad => Nat.le_of_ble_eq_true rfl) (fun ad => rfl) (lX8_as_0 a1 a2 σ τ h ⟨rfl, rfl⟩)
-- ThinBodiesModel drop ()I
def fX8_drop_0 (σ : mm) : Option (Int32 × mm) :=
  if (σ.1 32 0 4) = (0 : Int32) then
  Option.bind (fX8_finds (-1000000004 : Int32) σ) fun q3 =>
  some ((q3.1, q3.2))
  else
  Option.bind (some ((σ.1 32 0 4) - (1 : Int32))) fun x1 =>
  Option.bind (some (stI σ 32 0 4 x1)) fun σ2 =>
  some ((σ2.1 32 0 4, σ2))
def fX8_drop (σ : mm) : Option (Int32 × mm) := fX8_drop_0 σ
set_option maxRecDepth 20000 in
theorem lX8_drop_0 (σ τ : mm) {r : Option mv} {M' : mm × mm} {v9 : Int32 × mm} (h : fX8_drop_0 σ = some v9) (hk : (fun q : Int32 × mm => r = some (.inl q.1) ∧ M' = (τ, q.2)) v9) : Vm mX8_drop 1 0 [(0, .inr (.inr (32, 0)))] [] (τ, σ) r M' := by
  unfold fX8_drop_0 at h
  refine Vm.aload_n (n := 1) 0 dX8_drop_0 rfl rfl ?_
  refine Vm.gM (n := 4) dX8_drop_1 rfl wf_RX8_97 in_32 rfl (by decide) rfl (by decide) ?_
  refine Vm.if_ne (n := 7) 14 dX8_drop_4 rfl rfl (fun c9 => ?_) (fun c9 => ?_)
  · replace h := (if_neg c9).symm.trans h
    refine Vm.aload_n (n := 15) 0 dX8_drop_14 rfl rfl ?_
    refine Vm.dup (n := 16) dX8_drop_15 rfl rfl ?_
    refine Vm.gM (n := 19) dX8_drop_16 rfl wf_RX8_97 in_32 rfl (by decide) rfl (by decide) ?_
    refine Vm.iconst (n := 20) (v := (1 : Int32)) dX8_drop_19 rfl (by decide) ?_
    refine Vm.isub (n := 21) dX8_drop_20 rfl ?_
    replace h := Option.bind_eq_some_iff.mp h
    obtain ⟨x1, e1, h⟩ := h
    replace e1 := Option.some.inj e1
    refine Vm.top e1 ?_
    refine Vm.pM (n := 24) (ty := .int) dX8_drop_21 rfl wf_RX8_97 in_32 rfl (by decide) rfl (by decide) rfl rfl rfl rfl ?_
    replace h := Option.bind_eq_some_iff.mp h
    obtain ⟨σ2, e2, h⟩ := h
    replace e2 := Option.some.inj e2
    refine Vm.mem (congrArg (fun z => (τ, z)) e2) ?_
    refine Vm.aload_n (n := 25) 0 dX8_drop_24 rfl rfl ?_
    refine Vm.gM (n := 28) dX8_drop_25 rfl wf_RX8_97 in_32 rfl (by decide) rfl (by decide) ?_
    obtain rfl := Option.some.inj h
    exact Vm.iret dX8_drop_28 rfl hk.1 hk.2.symm
  · replace h := (if_pos c9).symm.trans h
    refine Vm.aload_n (n := 8) 0 dX8_drop_7 rfl rfl ?_
    refine Vm.ldc (n := 10) dX8_drop_8 rfl wc_RX8_167 ?_
    replace h := Option.bind_eq_some_iff.mp h
    obtain ⟨q3, h3, h⟩ := h
    refine Vm.callV (Y := mX8_finds) (n := 13) [.inl (-1000000004 : Int32)] dX8_drop_10 rfl wv_RX8_102 omX8_finds rfl in_32 rfl rfl rfl (Nat.le_of_ble_eq_true rfl) (by decide) (kX8_finds (-1000000004 : Int32) σ τ h3) ?_
    obtain rfl := Option.some.inj h
    exact Vm.iret dX8_drop_13 rfl hk.1 hk.2.symm
theorem kX8_drop (σ τ : mm) {q : Int32 × mm} (h : fX8_drop σ = some q) : Cx mX8_drop 1 [.inr (.inr (32, 0))] (τ, σ) (some (.inl q.1)) (τ, q.2) :=
  Cx.of (lv := [(0, .inr (.inr (32, 0)))]) (by decide) (fun ad => Nat.le_of_ble_eq_true rfl) (fun ad => rfl) (lX8_drop_0 σ τ h ⟨rfl, rfl⟩)
-- ThinBodiesModel goesTo (I)V
noncomputable def fX8_goesTo_9 (a2 : Int32) (a3 : Int32) (σ : mm) : Option ((Int32 × Int32 × mm) ⊕ (mm)) :=
  if a3 < (0 : Int32) then
  some (.inr (σ))
  else
  Option.bind (rdI σ 43 0 4 a3) fun x1 =>
  Option.bind (rdI σ 42 0 4 a3) fun x2 =>
  Option.bind (some ((x1 - x2) + (1 : Int32))) fun x3 =>
  Option.bind (rdI σ 42 0 4 a3) fun x4 =>
  Option.bind (rmI a2 x3) fun x5 =>
  Option.bind (wrL σ 48 0 4 a3 ((x4 + x5).toInt64)) fun σ6 =>
  Option.bind (dvI a2 x3) fun x7 =>
  Option.bind (some (a3 + (-1 : Int32))) fun x8 =>
  some (.inl (x7, x8, σ6))
noncomputable def fX8_goesTo_9_L : Int32 × Int32 × mm → Option ((Int32 × Int32 × mm) ⊕ (mm)) := fun z => fX8_goesTo_9 z.1 z.2.1 z.2.2
noncomputable def fX8_goesTo_0 (a1 : Int32) (σ : mm) : Option (mm) :=
  Option.bind (some ((σ.1 32 0 1) - (1 : Int32))) fun x1 =>
  lp (fX8_goesTo_9_L) (a1, x1, σ)
noncomputable def fX8_goesTo (a1 : Int32) (σ : mm) : Option (mm) := fX8_goesTo_0 a1 σ
set_option maxRecDepth 20000 in
theorem lX8_goesTo_9 (a2 : Int32) (a3 : Int32) (σ τ : mm) {r : Option mv} {M' : mm × mm} {v9 : (Int32 × Int32 × mm) ⊕ (mm)} (h : fX8_goesTo_9 a2 a3 σ = some v9) (hk : (Sum.elim (fun z : Int32 × Int32 × mm => Vm mX8_goesTo 0 9 [(0, .inr (.inr (32, 0))), (2, .inl z.1), (3, .inl z.2.1)] [] (τ, z.2.2) r M') (fun q : mm => r = none ∧ M' = (τ, q))) v9) : Vm mX8_goesTo 0 9 [(0, .inr (.inr (32, 0))), (2, .inl a2), (3, .inl a3)] [] (τ, σ) r M' := by
  unfold fX8_goesTo_9 at h
  refine Vm.iload_n (n := 10) 2 dX8_goesTo_9 rfl rfl ?_
  refine Vm.if_lt (n := 13) 59 dX8_goesTo_10 rfl rfl (fun c9 => ?_) (fun c9 => ?_)
  · replace h := (if_pos c9).symm.trans h
    obtain rfl := Option.some.inj h
    exact Vm.vret dX8_goesTo_59 rfl hk.1 hk.2.symm
  · replace h := (if_neg c9).symm.trans h
    refine Vm.aload_n (n := 14) 0 dX8_goesTo_13 rfl rfl ?_
    refine Vm.getR (n := 17) dX8_goesTo_14 rfl wf_RX8_20 in_32 rfl (by decide) rfl ?_
    refine Vm.iload_n (n := 18) 2 dX8_goesTo_17 rfl rfl ?_
    replace h := Option.bind_eq_some_iff.mp h
    obtain ⟨x1, h1, h⟩ := h
    refine Vm.ialdm (n := 19) dX8_goesTo_18 rfl in_43 rfl rfl (by decide) h1 ?_
    refine Vm.aload_n (n := 20) 0 dX8_goesTo_19 rfl rfl ?_
    refine Vm.getR (n := 23) dX8_goesTo_20 rfl wf_RX8_17 in_32 rfl (by decide) rfl ?_
    refine Vm.iload_n (n := 24) 2 dX8_goesTo_23 rfl rfl ?_
    replace h := Option.bind_eq_some_iff.mp h
    obtain ⟨x2, h2, h⟩ := h
    refine Vm.ialdm (n := 25) dX8_goesTo_24 rfl in_42 rfl rfl (by decide) h2 ?_
    refine Vm.isub (n := 26) dX8_goesTo_25 rfl ?_
    refine Vm.iconst (n := 27) (v := (1 : Int32)) dX8_goesTo_26 rfl (by decide) ?_
    refine Vm.iadd (n := 28) dX8_goesTo_27 rfl ?_
    replace h := Option.bind_eq_some_iff.mp h
    obtain ⟨x3, e3, h⟩ := h
    replace e3 := Option.some.inj e3
    refine Vm.top e3 ?_
    refine Vm.istore (n := 30) (lv' := [(4, .inl x3), (0, .inr (.inr (32, 0))), (2, .inl a2), (3, .inl a3)]) dX8_goesTo_28 rfl (Nat.le_of_ble_eq_true rfl) rfl ?_
    refine Vm.aload_n (n := 31) 1 dX8_goesTo_30 rfl rfl ?_
    refine Vm.getR (n := 34) dX8_goesTo_31 rfl wf_RX8_32 in_32 rfl (by decide) rfl ?_
    refine Vm.iload_n (n := 35) 3 dX8_goesTo_34 rfl rfl ?_
    refine Vm.aload_n (n := 36) 1 dX8_goesTo_35 rfl rfl ?_
    refine Vm.getR (n := 39) dX8_goesTo_36 rfl wf_RX8_17 in_32 rfl (by decide) rfl ?_
    refine Vm.iload_n (n := 40) 3 dX8_goesTo_39 rfl rfl ?_
    replace h := Option.bind_eq_some_iff.mp h
    obtain ⟨x4, h4, h⟩ := h
    refine Vm.ialdm (n := 41) dX8_goesTo_40 rfl in_42 rfl rfl (by decide) h4 ?_
    refine Vm.iload_n (n := 42) 2 dX8_goesTo_41 rfl rfl ?_
    refine Vm.iload (n := 44) 0 dX8_goesTo_42 rfl rfl ?_
    replace h := Option.bind_eq_some_iff.mp h
    obtain ⟨x5, h5, h⟩ := h
    refine Vm.irem (n := 45) dX8_goesTo_44 rfl h5 ?_
    refine Vm.iadd (n := 46) dX8_goesTo_45 rfl ?_
    refine Vm.i2l (n := 47) dX8_goesTo_46 rfl ?_
    replace h := Option.bind_eq_some_iff.mp h
    obtain ⟨σ6, h6, h⟩ := h
    refine Vm.lastm (n := 48) dX8_goesTo_47 rfl in_48 rfl rfl (by decide) h6 ?_
    refine Vm.iload_n (n := 49) 2 dX8_goesTo_48 rfl rfl ?_
    refine Vm.iload (n := 51) 0 dX8_goesTo_49 rfl rfl ?_
    replace h := Option.bind_eq_some_iff.mp h
    obtain ⟨x7, h7, h⟩ := h
    refine Vm.idiv (n := 52) dX8_goesTo_51 rfl h7 ?_
    refine Vm.istore_n (n := 53) (lv' := [(2, .inl x7), (4, .inl x3), (0, .inr (.inr (32, 0))), (3, .inl a3)]) dX8_goesTo_52 rfl (Nat.le_of_ble_eq_true rfl) rfl ?_
    replace h := Option.bind_eq_some_iff.mp h
    obtain ⟨x8, e8, h⟩ := h
    replace e8 := Option.some.inj e8
    refine Vm.iinc (n := 56) (v := x8) (lv' := [(3, .inl x8), (2, .inl x7), (4, .inl x3), (0, .inr (.inr (32, 0)))]) 3 dX8_goesTo_53 rfl rfl e8 (Nat.le_of_ble_eq_true rfl) rfl ?_
    refine Vm.goto 9 dX8_goesTo_56 rfl ?_
    refine Vm.sub (lv' := [(0, .inr (.inr (32, 0))), (2, .inl x7), (3, .inl x8)]) [3, 1, 0] rfl ?_
    obtain rfl := Option.some.inj h
    exact hk
theorem lX8_goesTo_9_L (τ : mm) {r : Option mv} {M' : mm × mm} (z : Int32 × Int32 × mm) (w9 : mm) (h : lp (fX8_goesTo_9_L) z = some w9) (hk : (fun q : mm => r = none ∧ M' = (τ, q)) w9) : Vm mX8_goesTo 0 9 [(0, .inr (.inr (32, 0))), (2, .inl z.1), (3, .inl z.2.1)] [] (τ, z.2.2) r M' :=
  lp_link (S := Int32 × Int32 × mm) (R := mm) (body := fX8_goesTo_9_L) (A := fun z : Int32 × Int32 × mm => Vm mX8_goesTo 0 9 [(0, .inr (.inr (32, 0))), (2, .inl z.1), (3, .inl z.2.1)] [] (τ, z.2.2) r M') (B := fun w : mm => (fun q : mm => r = none ∧ M' = (τ, q)) w) (fun z v hb hv => lX8_goesTo_9 z.1 z.2.1 z.2.2 τ hb hv) z w9 h hk
set_option maxRecDepth 20000 in
theorem lX8_goesTo_0 (a1 : Int32) (σ τ : mm) {r : Option mv} {M' : mm × mm} {v9 : mm} (h : fX8_goesTo_0 a1 σ = some v9) (hk : (fun q : mm => r = none ∧ M' = (τ, q)) v9) : Vm mX8_goesTo 0 0 [(0, .inr (.inr (32, 0))), (1, .inl a1)] [] (τ, σ) r M' := by
  unfold fX8_goesTo_0 at h
  refine Vm.iload_n (n := 1) 1 dX8_goesTo_0 rfl rfl ?_
  refine Vm.istore_n (n := 2) (lv' := [(2, .inl a1), (0, .inr (.inr (32, 0))), (1, .inl a1)]) dX8_goesTo_1 rfl (Nat.le_of_ble_eq_true rfl) rfl ?_
  refine Vm.aload_n (n := 3) 1 dX8_goesTo_2 rfl rfl ?_
  refine Vm.gM (n := 6) dX8_goesTo_3 rfl wf_RX8_13 in_32 rfl (by decide) rfl (by decide) ?_
  refine Vm.iconst (n := 7) (v := (1 : Int32)) dX8_goesTo_6 rfl (by decide) ?_
  refine Vm.isub (n := 8) dX8_goesTo_7 rfl ?_
  replace h := Option.bind_eq_some_iff.mp h
  obtain ⟨x1, e1, h⟩ := h
  replace e1 := Option.some.inj e1
  refine Vm.top e1 ?_
  refine Vm.istore_n (n := 9) (lv' := [(3, .inl x1), (2, .inl a1), (0, .inr (.inr (32, 0))), (1, .inl a1)]) dX8_goesTo_8 rfl (Nat.le_of_ble_eq_true rfl) rfl ?_
  refine Vm.sub (lv' := [(0, .inr (.inr (32, 0))), (2, .inl a1), (3, .inl x1)]) [2, 1, 0] rfl ?_
  exact lX8_goesTo_9_L τ (a1, x1, σ) _ h hk
theorem kX8_goesTo (a1 : Int32) (σ τ : mm) {q : mm} (h : fX8_goesTo a1 σ = some q) : Cx mX8_goesTo 0 [.inr (.inr (32, 0)), .inl a1] (τ, σ) (none) (τ, q) :=
  Cx.of (lv := [(0, .inr (.inr (32, 0))), (1, .inl a1)]) (by decide) (fun ad => Nat.le_of_ble_eq_true rfl) (fun ad => rfl) (lX8_goesTo_0 a1 σ τ h ⟨rfl, rfl⟩)
-- ThinBodiesModel sumOf (I)J
noncomputable def fX8_sumOf_5 (a1 : Int32) (a2 : Int64) (a4 : Int32) (σ : mm) : Option ((Int64 × Int32) ⊕ (Int64)) :=
  if (σ.1 32 0 1) ≤ a4 then
  some (.inr (a2))
  else
  Option.bind (fX8_at a1 ((3 : Int32) + a4) σ) fun q1 =>
  Option.bind (rdL σ 48 0 4 a4) fun x2 =>
  Option.bind (some (a2 + (q1.toInt64 * x2))) fun x3 =>
  Option.bind (some (a4 + (1 : Int32))) fun x4 =>
  some (.inl (x3, x4))
noncomputable def fX8_sumOf_5_L (a1 : Int32) (σ : mm) : Int64 × Int32 → Option ((Int64 × Int32) ⊕ (Int64)) := fun z => fX8_sumOf_5 a1 z.1 z.2 σ
noncomputable def fX8_sumOf_0 (a1 : Int32) (σ : mm) : Option (Int64) :=
  lp (fX8_sumOf_5_L a1 σ) ((0 : Int64), (0 : Int32))
noncomputable def fX8_sumOf (a1 : Int32) (σ : mm) : Option (Int64) := fX8_sumOf_0 a1 σ
set_option maxRecDepth 20000 in
theorem lX8_sumOf_5 (a1 : Int32) (a2 : Int64) (a4 : Int32) (σ σ0 τ : mm) (hσ : σ = σ0) {r : Option mv} {M' : mm × mm} {v9 : (Int64 × Int32) ⊕ (Int64)} (h : fX8_sumOf_5 a1 a2 a4 σ = some v9) (hk : (Sum.elim (fun z : Int64 × Int32 => Vm mX8_sumOf 1 5 [(0, .inr (.inr (32, 0))), (1, .inl a1), (2, .inr (.inl z.1)), (4, .inl z.2)] [] (τ, σ) r M') (fun q : Int64 => r = some (.inr (.inl q)) ∧ M' = (τ, σ0))) v9) : Vm mX8_sumOf 1 5 [(0, .inr (.inr (32, 0))), (1, .inl a1), (2, .inr (.inl a2)), (4, .inl a4)] [] (τ, σ) r M' := by
  unfold fX8_sumOf_5 at h
  refine Vm.iload (n := 7) 3 dX8_sumOf_5 rfl rfl ?_
  refine Vm.aload_n (n := 8) 0 dX8_sumOf_7 rfl rfl ?_
  refine Vm.gM (n := 11) dX8_sumOf_8 rfl wf_RX8_13 in_32 rfl (by decide) rfl (by decide) ?_
  refine Vm.icmp_ge (n := 14) 41 dX8_sumOf_11 rfl rfl (fun c9 => ?_) (fun c9 => ?_)
  · replace h := (if_pos c9).symm.trans h
    refine Vm.lload_n (n := 42) 2 dX8_sumOf_41 rfl rfl ?_
    obtain rfl := Option.some.inj h
    exact Vm.lret dX8_sumOf_42 rfl hk.1 (by rw [hσ]; exact hk.2.symm)
  · replace h := (if_neg c9).symm.trans h
    refine Vm.lload_n (n := 15) 2 dX8_sumOf_14 rfl rfl ?_
    refine Vm.aload_n (n := 16) 0 dX8_sumOf_15 rfl rfl ?_
    refine Vm.iload_n (n := 17) 1 dX8_sumOf_16 rfl rfl ?_
    refine Vm.iconst (n := 18) (v := (3 : Int32)) dX8_sumOf_17 rfl (by decide) ?_
    refine Vm.iload (n := 20) 3 dX8_sumOf_18 rfl rfl ?_
    refine Vm.iadd (n := 21) dX8_sumOf_20 rfl ?_
    replace h := Option.bind_eq_some_iff.mp h
    obtain ⟨q1, h1, h⟩ := h
    refine Vm.callV (Y := mX8_at) (n := 24) [.inl a1, .inl ((3 : Int32) + a4)] dX8_sumOf_21 rfl wv_RX8_142 omX8_at rfl in_32 rfl rfl rfl (Nat.le_of_ble_eq_true rfl) (by decide) (kX8_at a1 ((3 : Int32) + a4) σ τ h1) ?_
    refine Vm.i2l (n := 25) dX8_sumOf_24 rfl ?_
    refine Vm.aload_n (n := 26) 0 dX8_sumOf_25 rfl rfl ?_
    refine Vm.getR (n := 29) dX8_sumOf_26 rfl wf_RX8_32 in_32 rfl (by decide) rfl ?_
    refine Vm.iload (n := 31) 3 dX8_sumOf_29 rfl rfl ?_
    replace h := Option.bind_eq_some_iff.mp h
    obtain ⟨x2, h2, h⟩ := h
    refine Vm.laldm (n := 32) dX8_sumOf_31 rfl in_48 rfl rfl (by decide) h2 ?_
    refine Vm.lmul (n := 33) dX8_sumOf_32 rfl ?_
    refine Vm.ladd (n := 34) dX8_sumOf_33 rfl ?_
    replace h := Option.bind_eq_some_iff.mp h
    obtain ⟨x3, e3, h⟩ := h
    replace e3 := Option.some.inj e3
    refine Vm.topl e3 ?_
    refine Vm.lstore_n (n := 35) (lv' := [(2, .inr (.inl x3)), (0, .inr (.inr (32, 0))), (1, .inl a1), (4, .inl a4)]) dX8_sumOf_34 rfl (Nat.le_of_ble_eq_true rfl) rfl ?_
    replace h := Option.bind_eq_some_iff.mp h
    obtain ⟨x4, e4, h⟩ := h
    replace e4 := Option.some.inj e4
    refine Vm.iinc (n := 38) (v := x4) (lv' := [(4, .inl x4), (2, .inr (.inl x3)), (0, .inr (.inr (32, 0))), (1, .inl a1)]) 3 dX8_sumOf_35 rfl rfl e4 (Nat.le_of_ble_eq_true rfl) rfl ?_
    refine Vm.goto 5 dX8_sumOf_38 rfl ?_
    refine Vm.sub (lv' := [(0, .inr (.inr (32, 0))), (1, .inl a1), (2, .inr (.inl x3)), (4, .inl x4)]) [2, 3, 1, 0] rfl ?_
    obtain rfl := Option.some.inj h
    exact hk
theorem lX8_sumOf_5_L (a1 : Int32) (σ σ0 τ : mm) (hσ : σ = σ0) {r : Option mv} {M' : mm × mm} (z : Int64 × Int32) (w9 : Int64) (h : lp (fX8_sumOf_5_L a1 σ) z = some w9) (hk : (fun q : Int64 => r = some (.inr (.inl q)) ∧ M' = (τ, σ0)) w9) : Vm mX8_sumOf 1 5 [(0, .inr (.inr (32, 0))), (1, .inl a1), (2, .inr (.inl z.1)), (4, .inl z.2)] [] (τ, σ) r M' :=
  lp_link (S := Int64 × Int32) (R := Int64) (body := fX8_sumOf_5_L a1 σ) (A := fun z : Int64 × Int32 => Vm mX8_sumOf 1 5 [(0, .inr (.inr (32, 0))), (1, .inl a1), (2, .inr (.inl z.1)), (4, .inl z.2)] [] (τ, σ) r M') (B := fun w : Int64 => (fun q : Int64 => r = some (.inr (.inl q)) ∧ M' = (τ, σ0)) w) (fun z v hb hv => lX8_sumOf_5 a1 z.1 z.2 σ σ0 τ hσ hb hv) z w9 h hk
set_option maxRecDepth 20000 in
theorem lX8_sumOf_0 (a1 : Int32) (σ σ0 τ : mm) (hσ : σ = σ0) {r : Option mv} {M' : mm × mm} {v9 : Int64} (h : fX8_sumOf_0 a1 σ = some v9) (hk : (fun q : Int64 => r = some (.inr (.inl q)) ∧ M' = (τ, σ0)) v9) : Vm mX8_sumOf 1 0 [(0, .inr (.inr (32, 0))), (1, .inl a1)] [] (τ, σ) r M' := by
  unfold fX8_sumOf_0 at h
  refine Vm.lconst (n := 1) (v := (0 : Int64)) dX8_sumOf_0 rfl (by decide) ?_
  refine Vm.lstore_n (n := 2) (lv' := [(2, .inr (.inl (0 : Int64))), (0, .inr (.inr (32, 0))), (1, .inl a1)]) dX8_sumOf_1 rfl (Nat.le_of_ble_eq_true rfl) rfl ?_
  refine Vm.iconst (n := 3) (v := (0 : Int32)) dX8_sumOf_2 rfl (by decide) ?_
  refine Vm.istore (n := 5) (lv' := [(4, .inl (0 : Int32)), (2, .inr (.inl (0 : Int64))), (0, .inr (.inr (32, 0))), (1, .inl a1)]) dX8_sumOf_3 rfl (Nat.le_of_ble_eq_true rfl) rfl ?_
  refine Vm.sub (lv' := [(0, .inr (.inr (32, 0))), (1, .inl a1), (2, .inr (.inl (0 : Int64))), (4, .inl (0 : Int32))]) [2, 3, 1, 0] rfl ?_
  exact lX8_sumOf_5_L a1 σ σ0 τ hσ ((0 : Int64), (0 : Int32)) _ h hk
theorem kX8_sumOf (a1 : Int32) (σ τ : mm) {q : Int64} (h : fX8_sumOf a1 σ = some q) : Cx mX8_sumOf 1 [.inr (.inr (32, 0)), .inl a1] (τ, σ) (some (.inr (.inl q))) (τ, σ) :=
  Cx.of (lv := [(0, .inr (.inr (32, 0))), (1, .inl a1)]) (by decide) (fun ad => Nat.le_of_ble_eq_true rfl) (fun ad => rfl) (lX8_sumOf_0 a1 σ σ τ rfl h ⟨rfl, rfl⟩)
-- ThinBodiesModel holdsBy (IIJ)Z
def fX8_holdsBy_0 (a0 : Int32) (a1 : Int32) (a2 : Int64) : Option (Bool) :=
  if a0.toInt = (1 : Int) then
  if (lg_cmp a2 (0 : Int64)) = (0 : Int32) then
  some (true)
  else
  some (false)
  else if a0.toInt = (2 : Int) then
  some ((fX8_in a2 ((-a1).toInt64) a1.toInt64))
  else if a0.toInt = (3 : Int) then
  Option.bind (rmL a2 a1.toInt64) fun x1 =>
  if (lg_cmp x1 (0 : Int64)) = (0 : Int32) then
  some (true)
  else
  some (false)
  else if a0.toInt = (4 : Int) then
  if (bi (fX8_in a2 ((-a1).toInt64) a1.toInt64)) = (0 : Int32) then
  some (true)
  else
  some (false)
  else if a0.toInt = (5 : Int) then
  if (lg_cmp a2 (0 : Int64)) < (0 : Int32) then
  some (false)
  else
  some (true)
  else 
  if (0 : Int32) < (lg_cmp a2 (0 : Int64)) then
  some (false)
  else
  some (true)
def fX8_holdsBy (a0 : Int32) (a1 : Int32) (a2 : Int64) : Option (Bool) := fX8_holdsBy_0 a0 a1 a2
set_option maxRecDepth 20000 in
theorem lX8_holdsBy_0 (a0 : Int32) (a1 : Int32) (a2 : Int64) {M : mm × mm} {r : Option mv} {M' : mm × mm} {v9 : Bool} (h : fX8_holdsBy_0 a0 a1 a2 = some v9) (hk : (fun q : Bool => r = some (.inl (bi q)) ∧ M' = M) v9) : Vm mX8_holdsBy 1 0 [(0, .inl a0), (1, .inl a1), (2, .inr (.inl a2))] [] M r M' := by
  unfold fX8_holdsBy_0 at h
  refine Vm.iload_n (n := 1) 0 dX8_holdsBy_0 rfl rfl ?_
  by_cases c51 : a0.toInt = (1 : Int)
  · replace h := (if_pos c51).symm.trans h
    refine Vm.tswI (1) 36 dX8_holdsBy_1 c51 (by decide) rfl rfl ?_
    refine Vm.lload_n (n := 37) 2 dX8_holdsBy_36 rfl rfl ?_
    refine Vm.lconst (n := 38) (v := (0 : Int64)) dX8_holdsBy_37 rfl (by decide) ?_
    refine Vm.lcmp (n := 39) dX8_holdsBy_38 rfl ?_
    refine Vm.if_ne (n := 42) 46 dX8_holdsBy_39 rfl rfl (fun c9 => ?_) (fun c9 => ?_)
    · replace h := (if_neg c9).symm.trans h
      refine Vm.iconst (n := 47) (v := (0 : Int32)) dX8_holdsBy_46 rfl (by decide) ?_
      obtain rfl := Option.some.inj h
      exact Vm.zret (b := false) dX8_holdsBy_47 rfl rfl hk.1 hk.2.symm
    · replace h := (if_pos c9).symm.trans h
      refine Vm.iconst (n := 43) (v := (1 : Int32)) dX8_holdsBy_42 rfl (by decide) ?_
      refine Vm.goto 47 dX8_holdsBy_43 rfl ?_
      obtain rfl := Option.some.inj h
      exact Vm.zret (b := true) dX8_holdsBy_47 rfl rfl hk.1 hk.2.symm
  · replace h := (if_neg c51).symm.trans h
    by_cases c52 : a0.toInt = (2 : Int)
    · replace h := (if_pos c52).symm.trans h
      refine Vm.tswI (2) 48 dX8_holdsBy_1 c52 (by decide) rfl rfl ?_
      refine Vm.lload_n (n := 49) 2 dX8_holdsBy_48 rfl rfl ?_
      refine Vm.iload_n (n := 50) 1 dX8_holdsBy_49 rfl rfl ?_
      refine Vm.ineg (n := 51) dX8_holdsBy_50 rfl ?_
      refine Vm.i2l (n := 52) dX8_holdsBy_51 rfl ?_
      refine Vm.iload_n (n := 53) 1 dX8_holdsBy_52 rfl rfl ?_
      refine Vm.i2l (n := 54) dX8_holdsBy_53 rfl ?_
      refine Vm.callS (Y := mX8_in) (n := 57) [.inr (.inl a2), .inr (.inl ((-a1).toInt64)), .inr (.inl a1.toInt64)] dX8_holdsBy_54 rfl wv_RX8_93 omX8_in rfl rfl (Nat.le_of_ble_eq_true rfl) (by decide) (kX8_in a2 ((-a1).toInt64) a1.toInt64 rfl) ?_
      obtain rfl := Option.some.inj h
      exact Vm.zret (b := (fX8_in a2 ((-a1).toInt64) a1.toInt64)) dX8_holdsBy_57 rfl rfl hk.1 hk.2.symm
    · replace h := (if_neg c52).symm.trans h
      by_cases c53 : a0.toInt = (3 : Int)
      · replace h := (if_pos c53).symm.trans h
        refine Vm.tswI (3) 58 dX8_holdsBy_1 c53 (by decide) rfl rfl ?_
        refine Vm.lload_n (n := 59) 2 dX8_holdsBy_58 rfl rfl ?_
        refine Vm.iload_n (n := 60) 1 dX8_holdsBy_59 rfl rfl ?_
        refine Vm.i2l (n := 61) dX8_holdsBy_60 rfl ?_
        replace h := Option.bind_eq_some_iff.mp h
        obtain ⟨x1, h1, h⟩ := h
        refine Vm.lrem (n := 62) dX8_holdsBy_61 rfl h1 ?_
        refine Vm.lconst (n := 63) (v := (0 : Int64)) dX8_holdsBy_62 rfl (by decide) ?_
        refine Vm.lcmp (n := 64) dX8_holdsBy_63 rfl ?_
        refine Vm.if_ne (n := 67) 71 dX8_holdsBy_64 rfl rfl (fun c9 => ?_) (fun c9 => ?_)
        · replace h := (if_neg c9).symm.trans h
          refine Vm.iconst (n := 72) (v := (0 : Int32)) dX8_holdsBy_71 rfl (by decide) ?_
          obtain rfl := Option.some.inj h
          exact Vm.zret (b := false) dX8_holdsBy_72 rfl rfl hk.1 hk.2.symm
        · replace h := (if_pos c9).symm.trans h
          refine Vm.iconst (n := 68) (v := (1 : Int32)) dX8_holdsBy_67 rfl (by decide) ?_
          refine Vm.goto 72 dX8_holdsBy_68 rfl ?_
          obtain rfl := Option.some.inj h
          exact Vm.zret (b := true) dX8_holdsBy_72 rfl rfl hk.1 hk.2.symm
      · replace h := (if_neg c53).symm.trans h
        by_cases c54 : a0.toInt = (4 : Int)
        · replace h := (if_pos c54).symm.trans h
          refine Vm.tswI (4) 73 dX8_holdsBy_1 c54 (by decide) rfl rfl ?_
          refine Vm.lload_n (n := 74) 2 dX8_holdsBy_73 rfl rfl ?_
          refine Vm.iload_n (n := 75) 1 dX8_holdsBy_74 rfl rfl ?_
          refine Vm.ineg (n := 76) dX8_holdsBy_75 rfl ?_
          refine Vm.i2l (n := 77) dX8_holdsBy_76 rfl ?_
          refine Vm.iload_n (n := 78) 1 dX8_holdsBy_77 rfl rfl ?_
          refine Vm.i2l (n := 79) dX8_holdsBy_78 rfl ?_
          refine Vm.callS (Y := mX8_in) (n := 82) [.inr (.inl a2), .inr (.inl ((-a1).toInt64)), .inr (.inl a1.toInt64)] dX8_holdsBy_79 rfl wv_RX8_93 omX8_in rfl rfl (Nat.le_of_ble_eq_true rfl) (by decide) (kX8_in a2 ((-a1).toInt64) a1.toInt64 rfl) ?_
          refine Vm.if_ne (n := 85) 89 dX8_holdsBy_82 rfl rfl (fun c9 => ?_) (fun c9 => ?_)
          · replace h := (if_neg c9).symm.trans h
            refine Vm.iconst (n := 90) (v := (0 : Int32)) dX8_holdsBy_89 rfl (by decide) ?_
            obtain rfl := Option.some.inj h
            exact Vm.zret (b := false) dX8_holdsBy_90 rfl rfl hk.1 hk.2.symm
          · replace h := (if_pos c9).symm.trans h
            refine Vm.iconst (n := 86) (v := (1 : Int32)) dX8_holdsBy_85 rfl (by decide) ?_
            refine Vm.goto 90 dX8_holdsBy_86 rfl ?_
            obtain rfl := Option.some.inj h
            exact Vm.zret (b := true) dX8_holdsBy_90 rfl rfl hk.1 hk.2.symm
        · replace h := (if_neg c54).symm.trans h
          by_cases c55 : a0.toInt = (5 : Int)
          · replace h := (if_pos c55).symm.trans h
            refine Vm.tswI (5) 91 dX8_holdsBy_1 c55 (by decide) rfl rfl ?_
            refine Vm.lload_n (n := 92) 2 dX8_holdsBy_91 rfl rfl ?_
            refine Vm.lconst (n := 93) (v := (0 : Int64)) dX8_holdsBy_92 rfl (by decide) ?_
            refine Vm.lcmp (n := 94) dX8_holdsBy_93 rfl ?_
            refine Vm.if_lt (n := 97) 101 dX8_holdsBy_94 rfl rfl (fun c9 => ?_) (fun c9 => ?_)
            · replace h := (if_pos c9).symm.trans h
              refine Vm.iconst (n := 102) (v := (0 : Int32)) dX8_holdsBy_101 rfl (by decide) ?_
              obtain rfl := Option.some.inj h
              exact Vm.zret (b := false) dX8_holdsBy_102 rfl rfl hk.1 hk.2.symm
            · replace h := (if_neg c9).symm.trans h
              refine Vm.iconst (n := 98) (v := (1 : Int32)) dX8_holdsBy_97 rfl (by decide) ?_
              refine Vm.goto 102 dX8_holdsBy_98 rfl ?_
              obtain rfl := Option.some.inj h
              exact Vm.zret (b := true) dX8_holdsBy_102 rfl rfl hk.1 hk.2.symm
          · replace h := (if_neg c55).symm.trans h
            refine Vm.tswO 103 dX8_holdsBy_1 (by omega) rfl ?_
            refine Vm.lload_n (n := 104) 2 dX8_holdsBy_103 rfl rfl ?_
            refine Vm.lconst (n := 105) (v := (0 : Int64)) dX8_holdsBy_104 rfl (by decide) ?_
            refine Vm.lcmp (n := 106) dX8_holdsBy_105 rfl ?_
            refine Vm.if_gt (n := 109) 113 dX8_holdsBy_106 rfl rfl (fun c9 => ?_) (fun c9 => ?_)
            · replace h := (if_pos c9).symm.trans h
              refine Vm.iconst (n := 114) (v := (0 : Int32)) dX8_holdsBy_113 rfl (by decide) ?_
              obtain rfl := Option.some.inj h
              exact Vm.zret (b := false) dX8_holdsBy_114 rfl rfl hk.1 hk.2.symm
            · replace h := (if_neg c9).symm.trans h
              refine Vm.iconst (n := 110) (v := (1 : Int32)) dX8_holdsBy_109 rfl (by decide) ?_
              refine Vm.goto 114 dX8_holdsBy_110 rfl ?_
              obtain rfl := Option.some.inj h
              exact Vm.zret (b := true) dX8_holdsBy_114 rfl rfl hk.1 hk.2.symm
theorem kX8_holdsBy (a0 : Int32) (a1 : Int32) (a2 : Int64) {M : mm × mm} {q : Bool} (h : fX8_holdsBy a0 a1 a2 = some q) : Cx mX8_holdsBy 1 [.inl a0, .inl a1, .inr (.inl a2)] M (some (.inl (bi q))) M :=
  Cx.of (lv := [(0, .inl a0), (1, .inl a1), (2, .inr (.inl a2))]) (by decide) (fun ad => Nat.le_of_ble_eq_true rfl) (fun ad => rfl) (lX8_holdsBy_0 a0 a1 a2 h ⟨rfl, rfl⟩)
-- ThinBodiesModel holding ()I
noncomputable def fX8_holding_51 (a2 : Int32) (s0 : Int32) (s1 : Int32) (σ : mm) : Option ((Int32 × Int32) ⊕ (Int32)) :=
  Option.bind (some (s0 ||| s1)) fun x1 =>
  Option.bind (some (a2 + (1 : Int32))) fun x2 =>
  some (.inl (x1, x2))
noncomputable def fX8_holding_4 (a1 : Int32) (a2 : Int32) (σ : mm) : Option ((Int32 × Int32) ⊕ (Int32)) :=
  if (σ.1 32 0 4) ≤ a2 then
  some (.inr (a1))
  else
  Option.bind (fX8_at a2 (0 : Int32) σ) fun q1 =>
  Option.bind (fX8_at a2 (2 : Int32) σ) fun q2 =>
  Option.bind (fX8_sumOf a2 σ) fun q3 =>
  Option.bind (fX8_at a2 (1 : Int32) σ) fun q4 =>
  Option.bind (fX8_holdsBy q1 q2 (q3 - q4.toInt64)) fun q5 =>
  if (bi q5) = (0 : Int32) then
  fX8_holding_51 a2 a1 (0 : Int32) σ
  else
  fX8_holding_51 a2 a1 ((1 : Int32) <<< (a2 &&& 31)) σ
noncomputable def fX8_holding_4_L (σ : mm) : Int32 × Int32 → Option ((Int32 × Int32) ⊕ (Int32)) := fun z => fX8_holding_4 z.1 z.2 σ
noncomputable def fX8_holding_0 (σ : mm) : Option (Int32) :=
  lp (fX8_holding_4_L σ) ((0 : Int32), (0 : Int32))
noncomputable def fX8_holding (σ : mm) : Option (Int32) := fX8_holding_0 σ
set_option maxRecDepth 20000 in
theorem lX8_holding_51 (a2 : Int32) (s0 : Int32) (s1 : Int32) (σ σ0 τ : mm) (hσ : σ = σ0) {r : Option mv} {M' : mm × mm} {v9 : (Int32 × Int32) ⊕ (Int32)} (h : fX8_holding_51 a2 s0 s1 σ = some v9) (hk : (Sum.elim (fun z : Int32 × Int32 => Vm mX8_holding 2 4 [(0, .inr (.inr (32, 0))), (1, .inl z.1), (2, .inl z.2)] [] (τ, σ) r M') (fun q : Int32 => r = some (.inl q) ∧ M' = (τ, σ0))) v9) : Vm mX8_holding 2 51 [(0, .inr (.inr (32, 0))), (2, .inl a2)] [.inl s1, .inl s0] (τ, σ) r M' := by
  unfold fX8_holding_51 at h
  refine Vm.ior (n := 52) dX8_holding_51 rfl ?_
  replace h := Option.bind_eq_some_iff.mp h
  obtain ⟨x1, e1, h⟩ := h
  replace e1 := Option.some.inj e1
  refine Vm.top e1 ?_
  refine Vm.istore_n (n := 53) (lv' := [(1, .inl x1), (0, .inr (.inr (32, 0))), (2, .inl a2)]) dX8_holding_52 rfl (Nat.le_of_ble_eq_true rfl) rfl ?_
  replace h := Option.bind_eq_some_iff.mp h
  obtain ⟨x2, e2, h⟩ := h
  replace e2 := Option.some.inj e2
  refine Vm.iinc (n := 56) (v := x2) (lv' := [(2, .inl x2), (1, .inl x1), (0, .inr (.inr (32, 0)))]) 2 dX8_holding_53 rfl rfl e2 (Nat.le_of_ble_eq_true rfl) rfl ?_
  refine Vm.goto 4 dX8_holding_56 rfl ?_
  refine Vm.sub (lv' := [(0, .inr (.inr (32, 0))), (1, .inl x1), (2, .inl x2)]) [2, 1, 0] rfl ?_
  obtain rfl := Option.some.inj h
  exact hk
set_option maxRecDepth 20000 in
theorem lX8_holding_4 (a1 : Int32) (a2 : Int32) (σ σ0 τ : mm) (hσ : σ = σ0) {r : Option mv} {M' : mm × mm} {v9 : (Int32 × Int32) ⊕ (Int32)} (h : fX8_holding_4 a1 a2 σ = some v9) (hk : (Sum.elim (fun z : Int32 × Int32 => Vm mX8_holding 2 4 [(0, .inr (.inr (32, 0))), (1, .inl z.1), (2, .inl z.2)] [] (τ, σ) r M') (fun q : Int32 => r = some (.inl q) ∧ M' = (τ, σ0))) v9) : Vm mX8_holding 2 4 [(0, .inr (.inr (32, 0))), (1, .inl a1), (2, .inl a2)] [] (τ, σ) r M' := by
  unfold fX8_holding_4 at h
  refine Vm.iload_n (n := 5) 2 dX8_holding_4 rfl rfl ?_
  refine Vm.aload_n (n := 6) 0 dX8_holding_5 rfl rfl ?_
  refine Vm.gM (n := 9) dX8_holding_6 rfl wf_RX8_97 in_32 rfl (by decide) rfl (by decide) ?_
  refine Vm.icmp_ge (n := 12) 59 dX8_holding_9 rfl rfl (fun c9 => ?_) (fun c9 => ?_)
  · replace h := (if_pos c9).symm.trans h
    refine Vm.iload_n (n := 60) 1 dX8_holding_59 rfl rfl ?_
    obtain rfl := Option.some.inj h
    exact Vm.iret dX8_holding_60 rfl hk.1 (by rw [hσ]; exact hk.2.symm)
  · replace h := (if_neg c9).symm.trans h
    refine Vm.iload_n (n := 13) 1 dX8_holding_12 rfl rfl ?_
    refine Vm.aload_n (n := 14) 0 dX8_holding_13 rfl rfl ?_
    refine Vm.iload_n (n := 15) 2 dX8_holding_14 rfl rfl ?_
    refine Vm.iconst (n := 16) (v := (0 : Int32)) dX8_holding_15 rfl (by decide) ?_
    replace h := Option.bind_eq_some_iff.mp h
    obtain ⟨q1, h1, h⟩ := h
    refine Vm.callV (Y := mX8_at) (n := 19) [.inl a2, .inl (0 : Int32)] dX8_holding_16 rfl wv_RX8_142 omX8_at rfl in_32 rfl rfl rfl (Nat.le_of_ble_eq_true rfl) (by decide) (kX8_at a2 (0 : Int32) σ τ h1) ?_
    refine Vm.aload_n (n := 20) 0 dX8_holding_19 rfl rfl ?_
    refine Vm.iload_n (n := 21) 2 dX8_holding_20 rfl rfl ?_
    refine Vm.iconst (n := 22) (v := (2 : Int32)) dX8_holding_21 rfl (by decide) ?_
    replace h := Option.bind_eq_some_iff.mp h
    obtain ⟨q2, h2, h⟩ := h
    refine Vm.callV (Y := mX8_at) (n := 25) [.inl a2, .inl (2 : Int32)] dX8_holding_22 rfl wv_RX8_142 omX8_at rfl in_32 rfl rfl rfl (Nat.le_of_ble_eq_true rfl) (by decide) (kX8_at a2 (2 : Int32) σ τ h2) ?_
    refine Vm.aload_n (n := 26) 0 dX8_holding_25 rfl rfl ?_
    refine Vm.iload_n (n := 27) 2 dX8_holding_26 rfl rfl ?_
    replace h := Option.bind_eq_some_iff.mp h
    obtain ⟨q3, h3, h⟩ := h
    refine Vm.callV (Y := mX8_sumOf) (n := 30) [.inl a2] dX8_holding_27 rfl wv_RX8_168 omX8_sumOf rfl in_32 rfl rfl rfl (Nat.le_of_ble_eq_true rfl) (by decide) (kX8_sumOf a2 σ τ h3) ?_
    refine Vm.aload_n (n := 31) 0 dX8_holding_30 rfl rfl ?_
    refine Vm.iload_n (n := 32) 2 dX8_holding_31 rfl rfl ?_
    refine Vm.iconst (n := 33) (v := (1 : Int32)) dX8_holding_32 rfl (by decide) ?_
    replace h := Option.bind_eq_some_iff.mp h
    obtain ⟨q4, h4, h⟩ := h
    refine Vm.callV (Y := mX8_at) (n := 36) [.inl a2, .inl (1 : Int32)] dX8_holding_33 rfl wv_RX8_142 omX8_at rfl in_32 rfl rfl rfl (Nat.le_of_ble_eq_true rfl) (by decide) (kX8_at a2 (1 : Int32) σ τ h4) ?_
    refine Vm.i2l (n := 37) dX8_holding_36 rfl ?_
    refine Vm.lsub (n := 38) dX8_holding_37 rfl ?_
    replace h := Option.bind_eq_some_iff.mp h
    obtain ⟨q5, h5, h⟩ := h
    refine Vm.callS (Y := mX8_holdsBy) (n := 41) [.inl q1, .inl q2, .inr (.inl (q3 - q4.toInt64))] dX8_holding_38 rfl wv_RX8_172 omX8_holdsBy rfl rfl (Nat.le_of_ble_eq_true rfl) (by decide) (kX8_holdsBy q1 q2 (q3 - q4.toInt64) h5) ?_
    refine Vm.if_eq (n := 44) 50 dX8_holding_41 rfl rfl (fun c9 => ?_) (fun c9 => ?_)
    · replace h := (if_pos c9).symm.trans h
      refine Vm.iconst (n := 51) (v := (0 : Int32)) dX8_holding_50 rfl (by decide) ?_
      refine Vm.sub (lv' := [(0, .inr (.inr (32, 0))), (2, .inl a2)]) [0, 2] rfl ?_
      exact lX8_holding_51 a2 a1 (0 : Int32) σ σ0 τ hσ h hk
    · replace h := (if_neg c9).symm.trans h
      refine Vm.iconst (n := 45) (v := (1 : Int32)) dX8_holding_44 rfl (by decide) ?_
      refine Vm.iload_n (n := 46) 2 dX8_holding_45 rfl rfl ?_
      refine Vm.ishl (n := 47) dX8_holding_46 rfl ?_
      refine Vm.goto 51 dX8_holding_47 rfl ?_
      refine Vm.sub (lv' := [(0, .inr (.inr (32, 0))), (2, .inl a2)]) [0, 2] rfl ?_
      exact lX8_holding_51 a2 a1 ((1 : Int32) <<< (a2 &&& 31)) σ σ0 τ hσ h hk
theorem lX8_holding_4_L (σ σ0 τ : mm) (hσ : σ = σ0) {r : Option mv} {M' : mm × mm} (z : Int32 × Int32) (w9 : Int32) (h : lp (fX8_holding_4_L σ) z = some w9) (hk : (fun q : Int32 => r = some (.inl q) ∧ M' = (τ, σ0)) w9) : Vm mX8_holding 2 4 [(0, .inr (.inr (32, 0))), (1, .inl z.1), (2, .inl z.2)] [] (τ, σ) r M' :=
  lp_link (S := Int32 × Int32) (R := Int32) (body := fX8_holding_4_L σ) (A := fun z : Int32 × Int32 => Vm mX8_holding 2 4 [(0, .inr (.inr (32, 0))), (1, .inl z.1), (2, .inl z.2)] [] (τ, σ) r M') (B := fun w : Int32 => (fun q : Int32 => r = some (.inl q) ∧ M' = (τ, σ0)) w) (fun z v hb hv => lX8_holding_4 z.1 z.2 σ σ0 τ hσ hb hv) z w9 h hk
set_option maxRecDepth 20000 in
theorem lX8_holding_0 (σ σ0 τ : mm) (hσ : σ = σ0) {r : Option mv} {M' : mm × mm} {v9 : Int32} (h : fX8_holding_0 σ = some v9) (hk : (fun q : Int32 => r = some (.inl q) ∧ M' = (τ, σ0)) v9) : Vm mX8_holding 2 0 [(0, .inr (.inr (32, 0)))] [] (τ, σ) r M' := by
  unfold fX8_holding_0 at h
  refine Vm.iconst (n := 1) (v := (0 : Int32)) dX8_holding_0 rfl (by decide) ?_
  refine Vm.istore_n (n := 2) (lv' := [(1, .inl (0 : Int32)), (0, .inr (.inr (32, 0)))]) dX8_holding_1 rfl (Nat.le_of_ble_eq_true rfl) rfl ?_
  refine Vm.iconst (n := 3) (v := (0 : Int32)) dX8_holding_2 rfl (by decide) ?_
  refine Vm.istore_n (n := 4) (lv' := [(2, .inl (0 : Int32)), (1, .inl (0 : Int32)), (0, .inr (.inr (32, 0)))]) dX8_holding_3 rfl (Nat.le_of_ble_eq_true rfl) rfl ?_
  refine Vm.sub (lv' := [(0, .inr (.inr (32, 0))), (1, .inl (0 : Int32)), (2, .inl (0 : Int32))]) [2, 1, 0] rfl ?_
  exact lX8_holding_4_L σ σ0 τ hσ ((0 : Int32), (0 : Int32)) _ h hk
theorem kX8_holding (σ τ : mm) {q : Int32} (h : fX8_holding σ = some q) : Cx mX8_holding 2 [.inr (.inr (32, 0))] (τ, σ) (some (.inl q)) (τ, σ) :=
  Cx.of (lv := [(0, .inr (.inr (32, 0)))]) (by decide) (fun ad => Nat.le_of_ble_eq_true rfl) (fun ad => rfl) (lX8_holding_0 σ σ τ rfl h ⟨rfl, rfl⟩)
-- ThinBodiesModel allRows ()I
def fX8_allRows_0 (σ : mm) : Int32 :=
  ((1 : Int32) <<< ((σ.1 32 0 4) &&& 31)) - (1 : Int32)
def fX8_allRows (σ : mm) : Int32 := fX8_allRows_0 σ
set_option maxRecDepth 20000 in
theorem lX8_allRows_0 (σ σ0 τ : mm) (hσ : σ = σ0) {r : Option mv} {M' : mm × mm} {v9 : Int32} (h : fX8_allRows_0 σ = v9) (hk : (fun q : Int32 => r = some (.inl q) ∧ M' = (τ, σ0)) v9) : Vm mX8_allRows 0 0 [(0, .inr (.inr (32, 0)))] [] (τ, σ) r M' := by
  unfold fX8_allRows_0 at h
  refine Vm.iconst (n := 1) (v := (1 : Int32)) dX8_allRows_0 rfl (by decide) ?_
  refine Vm.aload_n (n := 2) 0 dX8_allRows_1 rfl rfl ?_
  refine Vm.gM (n := 5) dX8_allRows_2 rfl wf_RX8_97 in_32 rfl (by decide) rfl (by decide) ?_
  refine Vm.ishl (n := 6) dX8_allRows_5 rfl ?_
  refine Vm.iconst (n := 7) (v := (1 : Int32)) dX8_allRows_6 rfl (by decide) ?_
  refine Vm.isub (n := 8) dX8_allRows_7 rfl ?_
  subst h
  exact Vm.iret dX8_allRows_8 rfl hk.1 (by rw [hσ]; exact hk.2.symm)
theorem kX8_allRows (σ τ : mm) {q : Int32} (h : fX8_allRows σ = q) : Cx mX8_allRows 0 [.inr (.inr (32, 0))] (τ, σ) (some (.inl q)) (τ, σ) :=
  Cx.of (lv := [(0, .inr (.inr (32, 0)))]) (by decide) (fun ad => Nat.le_of_ble_eq_true rfl) (fun ad => rfl) (lX8_allRows_0 σ σ τ rfl h ⟨rfl, rfl⟩)
-- ThinBodiesModel looks ()V
noncomputable def fX8_looks_65 (a1 : Int32) (a2 : Int32) (σ : mm) : Option ((Int32 × mm) ⊕ (mm)) :=
  Option.bind (some (a2 + (1 : Int32))) fun x1 =>
  some (.inl (x1, σ))
noncomputable def fX8_looks_12 (a1 : Int32) (a2 : Int32) (σ : mm) : Option ((Int32 × mm) ⊕ (mm)) :=
  if a1 ≤ a2 then
  some (.inr (σ))
  else
  Option.bind (fX8_goesTo a2 σ) fun q1 =>
  Option.bind (fX8_holding q1) fun q2 =>
  Option.bind (wrI q1 49 0 4096 a2 q2) fun σ3 =>
  Option.bind (rdI σ3 49 0 4096 a2) fun x4 =>
  if x4 = (fX8_allRows σ3) then
  Option.bind (wrI σ3 50 0 4096 (σ3.1 32 0 11) a2) fun σ5 =>
  Option.bind (some ((σ5.1 32 0 11) + (1 : Int32))) fun x6 =>
  Option.bind (some (stI σ5 32 0 11 x6)) fun σ7 =>
  fX8_looks_65 a1 a2 σ7
  else
  fX8_looks_65 a1 a2 σ3
noncomputable def fX8_looks_12_L (a1 : Int32) : Int32 × mm → Option ((Int32 × mm) ⊕ (mm)) := fun z => fX8_looks_12 a1 z.1 z.2
noncomputable def fX8_looks_0 (σ : mm) : Option (mm) :=
  Option.bind (some (stI σ 32 0 11 (0 : Int32))) fun σ1 =>
  Option.bind (fX8_points σ1) fun q2 =>
  lp (fX8_looks_12_L q2) ((0 : Int32), σ1)
noncomputable def fX8_looks (σ : mm) : Option (mm) := fX8_looks_0 σ
set_option maxRecDepth 20000 in
theorem lX8_looks_65 (a1 : Int32) (a2 : Int32) (σ τ : mm) {r : Option mv} {M' : mm × mm} {v9 : (Int32 × mm) ⊕ (mm)} (h : fX8_looks_65 a1 a2 σ = some v9) (hk : (Sum.elim (fun z : Int32 × mm => Vm mX8_looks 3 12 [(0, .inr (.inr (32, 0))), (1, .inl a1), (2, .inl z.1)] [] (τ, z.2) r M') (fun q : mm => r = none ∧ M' = (τ, q))) v9) : Vm mX8_looks 3 65 [(0, .inr (.inr (32, 0))), (1, .inl a1), (2, .inl a2)] [] (τ, σ) r M' := by
  unfold fX8_looks_65 at h
  replace h := Option.bind_eq_some_iff.mp h
  obtain ⟨x1, e1, h⟩ := h
  replace e1 := Option.some.inj e1
  refine Vm.iinc (n := 68) (v := x1) (lv' := [(2, .inl x1), (0, .inr (.inr (32, 0))), (1, .inl a1)]) 2 dX8_looks_65 rfl rfl e1 (Nat.le_of_ble_eq_true rfl) rfl ?_
  refine Vm.goto 12 dX8_looks_68 rfl ?_
  refine Vm.sub (lv' := [(0, .inr (.inr (32, 0))), (1, .inl a1), (2, .inl x1)]) [1, 2, 0] rfl ?_
  obtain rfl := Option.some.inj h
  exact hk
set_option maxRecDepth 20000 in
theorem lX8_looks_12 (a1 : Int32) (a2 : Int32) (σ τ : mm) {r : Option mv} {M' : mm × mm} {v9 : (Int32 × mm) ⊕ (mm)} (h : fX8_looks_12 a1 a2 σ = some v9) (hk : (Sum.elim (fun z : Int32 × mm => Vm mX8_looks 3 12 [(0, .inr (.inr (32, 0))), (1, .inl a1), (2, .inl z.1)] [] (τ, z.2) r M') (fun q : mm => r = none ∧ M' = (τ, q))) v9) : Vm mX8_looks 3 12 [(0, .inr (.inr (32, 0))), (1, .inl a1), (2, .inl a2)] [] (τ, σ) r M' := by
  unfold fX8_looks_12 at h
  refine Vm.iload_n (n := 13) 2 dX8_looks_12 rfl rfl ?_
  refine Vm.iload_n (n := 14) 1 dX8_looks_13 rfl rfl ?_
  refine Vm.icmp_ge (n := 17) 71 dX8_looks_14 rfl rfl (fun c9 => ?_) (fun c9 => ?_)
  · replace h := (if_pos c9).symm.trans h
    obtain rfl := Option.some.inj h
    exact Vm.vret dX8_looks_71 rfl hk.1 hk.2.symm
  · replace h := (if_neg c9).symm.trans h
    refine Vm.aload_n (n := 18) 0 dX8_looks_17 rfl rfl ?_
    refine Vm.iload_n (n := 19) 2 dX8_looks_18 rfl rfl ?_
    replace h := Option.bind_eq_some_iff.mp h
    obtain ⟨q1, h1, h⟩ := h
    refine Vm.callVv (Y := mX8_goesTo) (n := 22) [.inl a2] dX8_looks_19 rfl wv_RX8_179 omX8_goesTo rfl in_32 rfl rfl rfl (Nat.le_of_ble_eq_true rfl) (by decide) (kX8_goesTo a2 σ τ h1) ?_
    refine Vm.aload_n (n := 23) 0 dX8_looks_22 rfl rfl ?_
    refine Vm.getR (n := 26) dX8_looks_23 rfl wf_RX8_36 in_32 rfl (by decide) rfl ?_
    refine Vm.iload_n (n := 27) 2 dX8_looks_26 rfl rfl ?_
    refine Vm.aload_n (n := 28) 0 dX8_looks_27 rfl rfl ?_
    replace h := Option.bind_eq_some_iff.mp h
    obtain ⟨q2, h2, h⟩ := h
    refine Vm.callV (Y := mX8_holding) (n := 31) [] dX8_looks_28 rfl wv_RX8_183 omX8_holding rfl in_32 rfl rfl rfl (Nat.le_of_ble_eq_true rfl) (by decide) (kX8_holding q1 τ h2) ?_
    replace h := Option.bind_eq_some_iff.mp h
    obtain ⟨σ3, h3, h⟩ := h
    refine Vm.iastm (n := 32) dX8_looks_31 rfl in_49 rfl rfl (by decide) h3 ?_
    refine Vm.aload_n (n := 33) 0 dX8_looks_32 rfl rfl ?_
    refine Vm.getR (n := 36) dX8_looks_33 rfl wf_RX8_36 in_32 rfl (by decide) rfl ?_
    refine Vm.iload_n (n := 37) 2 dX8_looks_36 rfl rfl ?_
    replace h := Option.bind_eq_some_iff.mp h
    obtain ⟨x4, h4, h⟩ := h
    refine Vm.ialdm (n := 38) dX8_looks_37 rfl in_49 rfl rfl (by decide) h4 ?_
    refine Vm.aload_n (n := 39) 0 dX8_looks_38 rfl rfl ?_
    refine Vm.callV (Y := mX8_allRows) (n := 42) [] dX8_looks_39 rfl wv_RX8_186 omX8_allRows rfl in_32 rfl rfl rfl (Nat.le_of_ble_eq_true rfl) (by decide) (kX8_allRows σ3 τ rfl) ?_
    refine Vm.icmp_ne (n := 45) 65 dX8_looks_42 rfl rfl (fun c9 => ?_) (fun c9 => ?_)
    · replace h := (if_neg c9).symm.trans h
      exact lX8_looks_65 a1 a2 σ3 τ h hk
    · replace h := (if_pos c9).symm.trans h
      refine Vm.aload_n (n := 46) 0 dX8_looks_45 rfl rfl ?_
      refine Vm.getR (n := 49) dX8_looks_46 rfl wf_RX8_39 in_32 rfl (by decide) rfl ?_
      refine Vm.aload_n (n := 50) 0 dX8_looks_49 rfl rfl ?_
      refine Vm.gM (n := 53) dX8_looks_50 rfl wf_RX8_176 in_32 rfl (by decide) rfl (by decide) ?_
      refine Vm.iload_n (n := 54) 2 dX8_looks_53 rfl rfl ?_
      replace h := Option.bind_eq_some_iff.mp h
      obtain ⟨σ5, h5, h⟩ := h
      refine Vm.iastm (n := 55) dX8_looks_54 rfl in_50 rfl rfl (by decide) h5 ?_
      refine Vm.aload_n (n := 56) 0 dX8_looks_55 rfl rfl ?_
      refine Vm.dup (n := 57) dX8_looks_56 rfl rfl ?_
      refine Vm.gM (n := 60) dX8_looks_57 rfl wf_RX8_176 in_32 rfl (by decide) rfl (by decide) ?_
      refine Vm.iconst (n := 61) (v := (1 : Int32)) dX8_looks_60 rfl (by decide) ?_
      refine Vm.iadd (n := 62) dX8_looks_61 rfl ?_
      replace h := Option.bind_eq_some_iff.mp h
      obtain ⟨x6, e6, h⟩ := h
      replace e6 := Option.some.inj e6
      refine Vm.top e6 ?_
      refine Vm.pM (n := 65) (ty := .int) dX8_looks_62 rfl wf_RX8_176 in_32 rfl (by decide) rfl (by decide) rfl rfl rfl rfl ?_
      replace h := Option.bind_eq_some_iff.mp h
      obtain ⟨σ7, e7, h⟩ := h
      replace e7 := Option.some.inj e7
      refine Vm.mem (congrArg (fun z => (τ, z)) e7) ?_
      exact lX8_looks_65 a1 a2 σ7 τ h hk
theorem lX8_looks_12_L (a1 : Int32) (τ : mm) {r : Option mv} {M' : mm × mm} (z : Int32 × mm) (w9 : mm) (h : lp (fX8_looks_12_L a1) z = some w9) (hk : (fun q : mm => r = none ∧ M' = (τ, q)) w9) : Vm mX8_looks 3 12 [(0, .inr (.inr (32, 0))), (1, .inl a1), (2, .inl z.1)] [] (τ, z.2) r M' :=
  lp_link (S := Int32 × mm) (R := mm) (body := fX8_looks_12_L a1) (A := fun z : Int32 × mm => Vm mX8_looks 3 12 [(0, .inr (.inr (32, 0))), (1, .inl a1), (2, .inl z.1)] [] (τ, z.2) r M') (B := fun w : mm => (fun q : mm => r = none ∧ M' = (τ, q)) w) (fun z v hb hv => lX8_looks_12 a1 z.1 z.2 τ hb hv) z w9 h hk
set_option maxRecDepth 20000 in
theorem lX8_looks_0 (σ τ : mm) {r : Option mv} {M' : mm × mm} {v9 : mm} (h : fX8_looks_0 σ = some v9) (hk : (fun q : mm => r = none ∧ M' = (τ, q)) v9) : Vm mX8_looks 3 0 [(0, .inr (.inr (32, 0)))] [] (τ, σ) r M' := by
  unfold fX8_looks_0 at h
  refine Vm.aload_n (n := 1) 0 dX8_looks_0 rfl rfl ?_
  refine Vm.iconst (n := 2) (v := (0 : Int32)) dX8_looks_1 rfl (by decide) ?_
  refine Vm.pM (n := 5) (ty := .int) dX8_looks_2 rfl wf_RX8_176 in_32 rfl (by decide) rfl (by decide) rfl rfl rfl rfl ?_
  replace h := Option.bind_eq_some_iff.mp h
  obtain ⟨σ1, e1, h⟩ := h
  replace e1 := Option.some.inj e1
  refine Vm.mem (congrArg (fun z => (τ, z)) e1) ?_
  refine Vm.aload_n (n := 6) 0 dX8_looks_5 rfl rfl ?_
  replace h := Option.bind_eq_some_iff.mp h
  obtain ⟨q2, h2, h⟩ := h
  refine Vm.callV (Y := mX8_points) (n := 9) [] dX8_looks_6 rfl wv_RX8_111 omX8_points rfl in_32 rfl rfl rfl (Nat.le_of_ble_eq_true rfl) (by decide) (kX8_points σ1 τ h2) ?_
  refine Vm.istore_n (n := 10) (lv' := [(1, .inl q2), (0, .inr (.inr (32, 0)))]) dX8_looks_9 rfl (Nat.le_of_ble_eq_true rfl) rfl ?_
  refine Vm.iconst (n := 11) (v := (0 : Int32)) dX8_looks_10 rfl (by decide) ?_
  refine Vm.istore_n (n := 12) (lv' := [(2, .inl (0 : Int32)), (1, .inl q2), (0, .inr (.inr (32, 0)))]) dX8_looks_11 rfl (Nat.le_of_ble_eq_true rfl) rfl ?_
  refine Vm.sub (lv' := [(0, .inr (.inr (32, 0))), (1, .inl q2), (2, .inl (0 : Int32))]) [2, 1, 0] rfl ?_
  exact lX8_looks_12_L q2 τ ((0 : Int32), σ1) _ h hk
theorem kX8_looks (σ τ : mm) {q : mm} (h : fX8_looks σ = some q) : Cx mX8_looks 3 [.inr (.inr (32, 0))] (τ, σ) (none) (τ, q) :=
  Cx.of (lv := [(0, .inr (.inr (32, 0)))]) (by decide) (fun ad => Nat.le_of_ble_eq_true rfl) (fun ad => rfl) (lX8_looks_0 σ τ h ⟨rfl, rfl⟩)
-- ThinBodiesModel many ()I
noncomputable def fX8_many_0 (σ : mm) : Option (Int32 × mm) :=
  Option.bind (fX8_looks σ) fun q1 =>
  some ((q1.1 32 0 11, q1))
noncomputable def fX8_many (σ : mm) : Option (Int32 × mm) := fX8_many_0 σ
set_option maxRecDepth 20000 in
theorem lX8_many_0 (σ τ : mm) {r : Option mv} {M' : mm × mm} {v9 : Int32 × mm} (h : fX8_many_0 σ = some v9) (hk : (fun q : Int32 × mm => r = some (.inl q.1) ∧ M' = (τ, q.2)) v9) : Vm mX8_many 4 0 [(0, .inr (.inr (32, 0)))] [] (τ, σ) r M' := by
  unfold fX8_many_0 at h
  refine Vm.aload_n (n := 1) 0 dX8_many_0 rfl rfl ?_
  replace h := Option.bind_eq_some_iff.mp h
  obtain ⟨q1, h1, h⟩ := h
  refine Vm.callVv (Y := mX8_looks) (n := 4) [] dX8_many_1 rfl wv_RX8_189 omX8_looks rfl in_32 rfl rfl rfl (Nat.le_of_ble_eq_true rfl) (by decide) (kX8_looks σ τ h1) ?_
  refine Vm.aload_n (n := 5) 0 dX8_many_4 rfl rfl ?_
  refine Vm.gM (n := 8) dX8_many_5 rfl wf_RX8_176 in_32 rfl (by decide) rfl (by decide) ?_
  obtain rfl := Option.some.inj h
  exact Vm.iret dX8_many_8 rfl hk.1 hk.2.symm
theorem kX8_many (σ τ : mm) {q : Int32 × mm} (h : fX8_many σ = some q) : Cx mX8_many 4 [.inr (.inr (32, 0))] (τ, σ) (some (.inl q.1)) (τ, q.2) :=
  Cx.of (lv := [(0, .inr (.inr (32, 0)))]) (by decide) (fun ad => Nat.le_of_ble_eq_true rfl) (fun ad => rfl) (lX8_many_0 σ τ h ⟨rfl, rfl⟩)
-- ThinBodiesModel isIn (I)Z
noncomputable def fX8_isIn_0 (a1 : Int32) (σ : mm) : Option (Bool × mm) :=
  Option.bind (fX8_looks σ) fun q1 =>
  if (bi (fX8_in a1.toInt64 (0 : Int64) (((q1.1 32 0 11) - (1 : Int32)).toInt64))) = (0 : Int32) then
  some ((false, q1))
  else
  Option.bind (rdI q1 50 0 4096 a1) fun x2 =>
  Option.bind (fX8_goesTo x2 q1) fun q3 =>
  some ((true, q3))
noncomputable def fX8_isIn (a1 : Int32) (σ : mm) : Option (Bool × mm) := fX8_isIn_0 a1 σ
set_option maxRecDepth 20000 in
theorem lX8_isIn_0 (a1 : Int32) (σ τ : mm) {r : Option mv} {M' : mm × mm} {v9 : Bool × mm} (h : fX8_isIn_0 a1 σ = some v9) (hk : (fun q : Bool × mm => r = some (.inl (bi q.1)) ∧ M' = (τ, q.2)) v9) : Vm mX8_isIn 4 0 [(0, .inr (.inr (32, 0))), (1, .inl a1)] [] (τ, σ) r M' := by
  unfold fX8_isIn_0 at h
  refine Vm.aload_n (n := 1) 0 dX8_isIn_0 rfl rfl ?_
  replace h := Option.bind_eq_some_iff.mp h
  obtain ⟨q1, h1, h⟩ := h
  refine Vm.callVv (Y := mX8_looks) (n := 4) [] dX8_isIn_1 rfl wv_RX8_189 omX8_looks rfl in_32 rfl rfl rfl (Nat.le_of_ble_eq_true rfl) (by decide) (kX8_looks σ τ h1) ?_
  refine Vm.iload_n (n := 5) 1 dX8_isIn_4 rfl rfl ?_
  refine Vm.i2l (n := 6) dX8_isIn_5 rfl ?_
  refine Vm.lconst (n := 7) (v := (0 : Int64)) dX8_isIn_6 rfl (by decide) ?_
  refine Vm.aload_n (n := 8) 0 dX8_isIn_7 rfl rfl ?_
  refine Vm.gM (n := 11) dX8_isIn_8 rfl wf_RX8_176 in_32 rfl (by decide) rfl (by decide) ?_
  refine Vm.iconst (n := 12) (v := (1 : Int32)) dX8_isIn_11 rfl (by decide) ?_
  refine Vm.isub (n := 13) dX8_isIn_12 rfl ?_
  refine Vm.i2l (n := 14) dX8_isIn_13 rfl ?_
  refine Vm.callS (Y := mX8_in) (n := 17) [.inr (.inl a1.toInt64), .inr (.inl (0 : Int64)), .inr (.inl (((q1.1 32 0 11) - (1 : Int32)).toInt64))] dX8_isIn_14 rfl wv_RX8_93 omX8_in rfl rfl (Nat.le_of_ble_eq_true rfl) (by decide) (kX8_in a1.toInt64 (0 : Int64) (((q1.1 32 0 11) - (1 : Int32)).toInt64) rfl) ?_
  refine Vm.if_ne (n := 20) 22 dX8_isIn_17 rfl rfl (fun c9 => ?_) (fun c9 => ?_)
  · replace h := (if_neg c9).symm.trans h
    refine Vm.aload_n (n := 23) 0 dX8_isIn_22 rfl rfl ?_
    refine Vm.aload_n (n := 24) 0 dX8_isIn_23 rfl rfl ?_
    refine Vm.getR (n := 27) dX8_isIn_24 rfl wf_RX8_39 in_32 rfl (by decide) rfl ?_
    refine Vm.iload_n (n := 28) 1 dX8_isIn_27 rfl rfl ?_
    replace h := Option.bind_eq_some_iff.mp h
    obtain ⟨x2, h2, h⟩ := h
    refine Vm.ialdm (n := 29) dX8_isIn_28 rfl in_50 rfl rfl (by decide) h2 ?_
    replace h := Option.bind_eq_some_iff.mp h
    obtain ⟨q3, h3, h⟩ := h
    refine Vm.callVv (Y := mX8_goesTo) (n := 32) [.inl x2] dX8_isIn_29 rfl wv_RX8_179 omX8_goesTo rfl in_32 rfl rfl rfl (Nat.le_of_ble_eq_true rfl) (by decide) (kX8_goesTo x2 q1 τ h3) ?_
    refine Vm.iconst (n := 33) (v := (1 : Int32)) dX8_isIn_32 rfl (by decide) ?_
    obtain rfl := Option.some.inj h
    exact Vm.zret (b := true) dX8_isIn_33 rfl rfl hk.1 hk.2.symm
  · replace h := (if_pos c9).symm.trans h
    refine Vm.iconst (n := 21) (v := (0 : Int32)) dX8_isIn_20 rfl (by decide) ?_
    obtain rfl := Option.some.inj h
    exact Vm.zret (b := false) dX8_isIn_21 rfl rfl hk.1 hk.2.symm
theorem kX8_isIn (a1 : Int32) (σ τ : mm) {q : Bool × mm} (h : fX8_isIn a1 σ = some q) : Cx mX8_isIn 4 [.inr (.inr (32, 0)), .inl a1] (τ, σ) (some (.inl (bi q.1))) (τ, q.2) :=
  Cx.of (lv := [(0, .inr (.inr (32, 0))), (1, .inl a1)]) (by decide) (fun ad => Nat.le_of_ble_eq_true rfl) (fun ad => rfl) (lX8_isIn_0 a1 σ τ h ⟨rfl, rfl⟩)
-- ThinBodiesModel point (II)I
noncomputable def fX8_point_0 (a1 : Int32) (a2 : Int32) (σ : mm) : Option (Int32 × mm) :=
  if (bi (fX8_isLetter a2 σ)) = (0 : Int32) then
  Option.bind (fX8_finds (-1000000001 : Int32) σ) fun q4 =>
  some ((q4.1, q4.2))
  else
  Option.bind (fX8_isIn a1 σ) fun q1 =>
  if (bi q1.1) = (0 : Int32) then
  Option.bind (fX8_finds (-1000000004 : Int32) q1.2) fun q2 =>
  some ((q2.1, q2.2))
  else
  Option.bind (rdL q1.2 48 0 4 a2) fun x3 =>
  some ((x3.toInt32, q1.2))
noncomputable def fX8_point (a1 : Int32) (a2 : Int32) (σ : mm) : Option (Int32 × mm) := fX8_point_0 a1 a2 σ
set_option maxRecDepth 20000 in
theorem lX8_point_0 (a1 : Int32) (a2 : Int32) (σ τ : mm) {r : Option mv} {M' : mm × mm} {v9 : Int32 × mm} (h : fX8_point_0 a1 a2 σ = some v9) (hk : (fun q : Int32 × mm => r = some (.inl q.1) ∧ M' = (τ, q.2)) v9) : Vm mX8_point 5 0 [(0, .inr (.inr (32, 0))), (1, .inl a1), (2, .inl a2)] [] (τ, σ) r M' := by
  unfold fX8_point_0 at h
  refine Vm.aload_n (n := 1) 0 dX8_point_0 rfl rfl ?_
  refine Vm.iload_n (n := 2) 2 dX8_point_1 rfl rfl ?_
  refine Vm.callV (Y := mX8_isLetter) (n := 5) [.inl a2] dX8_point_2 rfl wv_RX8_115 omX8_isLetter rfl in_32 rfl rfl rfl (Nat.le_of_ble_eq_true rfl) (by decide) (kX8_isLetter a2 σ τ rfl) ?_
  refine Vm.if_ne (n := 8) 15 dX8_point_5 rfl rfl (fun c9 => ?_) (fun c9 => ?_)
  · replace h := (if_neg c9).symm.trans h
    refine Vm.aload_n (n := 16) 0 dX8_point_15 rfl rfl ?_
    refine Vm.iload_n (n := 17) 1 dX8_point_16 rfl rfl ?_
    replace h := Option.bind_eq_some_iff.mp h
    obtain ⟨q1, h1, h⟩ := h
    refine Vm.callV (Y := mX8_isIn) (n := 20) [.inl a1] dX8_point_17 rfl wv_RX8_192 omX8_isIn rfl in_32 rfl rfl rfl (Nat.le_of_ble_eq_true rfl) (by decide) (kX8_isIn a1 σ τ h1) ?_
    refine Vm.if_eq (n := 23) 33 dX8_point_20 rfl rfl (fun c9 => ?_) (fun c9 => ?_)
    · replace h := (if_pos c9).symm.trans h
      refine Vm.aload_n (n := 34) 0 dX8_point_33 rfl rfl ?_
      refine Vm.ldc (n := 36) dX8_point_34 rfl wc_RX8_167 ?_
      replace h := Option.bind_eq_some_iff.mp h
      obtain ⟨q2, h2, h⟩ := h
      refine Vm.callV (Y := mX8_finds) (n := 39) [.inl (-1000000004 : Int32)] dX8_point_36 rfl wv_RX8_102 omX8_finds rfl in_32 rfl rfl rfl (Nat.le_of_ble_eq_true rfl) (by decide) (kX8_finds (-1000000004 : Int32) q1.2 τ h2) ?_
      obtain rfl := Option.some.inj h
      exact Vm.iret dX8_point_39 rfl hk.1 hk.2.symm
    · replace h := (if_neg c9).symm.trans h
      refine Vm.aload_n (n := 24) 0 dX8_point_23 rfl rfl ?_
      refine Vm.getR (n := 27) dX8_point_24 rfl wf_RX8_32 in_32 rfl (by decide) rfl ?_
      refine Vm.iload_n (n := 28) 2 dX8_point_27 rfl rfl ?_
      replace h := Option.bind_eq_some_iff.mp h
      obtain ⟨x3, h3, h⟩ := h
      refine Vm.laldm (n := 29) dX8_point_28 rfl in_48 rfl rfl (by decide) h3 ?_
      refine Vm.l2i (n := 30) dX8_point_29 rfl ?_
      refine Vm.goto 39 dX8_point_30 rfl ?_
      obtain rfl := Option.some.inj h
      exact Vm.iret dX8_point_39 rfl hk.1 hk.2.symm
  · replace h := (if_pos c9).symm.trans h
    refine Vm.aload_n (n := 9) 0 dX8_point_8 rfl rfl ?_
    refine Vm.ldc (n := 11) dX8_point_9 rfl wc_RX8_92 ?_
    replace h := Option.bind_eq_some_iff.mp h
    obtain ⟨q4, h4, h⟩ := h
    refine Vm.callV (Y := mX8_finds) (n := 14) [.inl (-1000000001 : Int32)] dX8_point_11 rfl wv_RX8_102 omX8_finds rfl in_32 rfl rfl rfl (Nat.le_of_ble_eq_true rfl) (by decide) (kX8_finds (-1000000001 : Int32) σ τ h4) ?_
    obtain rfl := Option.some.inj h
    exact Vm.iret dX8_point_14 rfl hk.1 hk.2.symm
theorem kX8_point (a1 : Int32) (a2 : Int32) (σ τ : mm) {q : Int32 × mm} (h : fX8_point a1 a2 σ = some q) : Cx mX8_point 5 [.inr (.inr (32, 0)), .inl a1, .inl a2] (τ, σ) (some (.inl q.1)) (τ, q.2) :=
  Cx.of (lv := [(0, .inr (.inr (32, 0))), (1, .inl a1), (2, .inl a2)]) (by decide) (fun ad => Nat.le_of_ble_eq_true rfl) (fun ad => rfl) (lX8_point_0 a1 a2 σ τ h ⟨rfl, rfl⟩)
-- ThinBodiesModel isSheet (I)Z
def fX8_isSheet_0 (a0 : Int32) : Bool :=
  (fX8_in a0.toInt64 (0 : Int64) (3 : Int64))
def fX8_isSheet (a0 : Int32) : Bool := fX8_isSheet_0 a0
set_option maxRecDepth 20000 in
theorem lX8_isSheet_0 (a0 : Int32) {M : mm × mm} {r : Option mv} {M' : mm × mm} {v9 : Bool} (h : fX8_isSheet_0 a0 = v9) (hk : (fun q : Bool => r = some (.inl (bi q)) ∧ M' = M) v9) : Vm mX8_isSheet 1 0 [(0, .inl a0)] [] M r M' := by
  unfold fX8_isSheet_0 at h
  refine Vm.iload_n (n := 1) 0 dX8_isSheet_0 rfl rfl ?_
  refine Vm.i2l (n := 2) dX8_isSheet_1 rfl ?_
  refine Vm.lconst (n := 3) (v := (0 : Int64)) dX8_isSheet_2 rfl (by decide) ?_
  refine Vm.ldc2 (n := 6) dX8_isSheet_3 rfl wl_RX8_265 ?_
  refine Vm.callS (Y := mX8_in) (n := 9) [.inr (.inl a0.toInt64), .inr (.inl (0 : Int64)), .inr (.inl (3 : Int64))] dX8_isSheet_6 rfl wv_RX8_93 omX8_in rfl rfl (Nat.le_of_ble_eq_true rfl) (by decide) (kX8_in a0.toInt64 (0 : Int64) (3 : Int64) rfl) ?_
  subst h
  exact Vm.zret (b := (fX8_in a0.toInt64 (0 : Int64) (3 : Int64))) dX8_isSheet_9 rfl rfl hk.1 hk.2.symm
theorem kX8_isSheet (a0 : Int32) {M : mm × mm} {q : Bool} (h : fX8_isSheet a0 = q) : Cx mX8_isSheet 1 [.inl a0] M (some (.inl (bi q))) M :=
  Cx.of (lv := [(0, .inl a0)]) (by decide) (fun ad => Nat.le_of_ble_eq_true rfl) (fun ad => rfl) (lX8_isSheet_0 a0 h ⟨rfl, rfl⟩)
-- ThinBodiesModel takes (I)I
noncomputable def fX8_takes_40 (a1 : Int32) (a2 : Int32) (σ : mm) : Option ((Int32 × mm) ⊕ (Int32 × mm)) :=
  if (σ.1 32 0 1) ≤ a2 then
  some (.inr (((0 : Int32), σ)))
  else
  Option.bind (rdL σ 77 0 160 (((40 : Int32) * a1) + a2)) fun x1 =>
  Option.bind (wrL σ 48 0 4 a2 x1) fun σ2 =>
  Option.bind (some (a2 + (1 : Int32))) fun x3 =>
  some (.inl (x3, σ2))
noncomputable def fX8_takes_40_L (a1 : Int32) : Int32 × mm → Option ((Int32 × mm) ⊕ (Int32 × mm)) := fun z => fX8_takes_40 a1 z.1 z.2
noncomputable def fX8_takes_0 (a1 : Int32) (σ : mm) : Option (Int32 × mm) :=
  if (bi (fX8_isSheet a1)) = (0 : Int32) then
  some (((-1000000001 : Int32), σ))
  else
  Option.bind (rdI σ 75 0 4 a1) fun x1 =>
  if x1 = (0 : Int32) then
  some (((-1000000006 : Int32), σ))
  else
  Option.bind (rdI σ 76 0 4 a1) fun x2 =>
  if (σ.1 32 0 1) ≤ x2 then
  lp (fX8_takes_40_L a1) ((0 : Int32), σ)
  else
  some (((-1000000007 : Int32), σ))
noncomputable def fX8_takes (a1 : Int32) (σ : mm) : Option (Int32 × mm) := fX8_takes_0 a1 σ
set_option maxRecDepth 20000 in
theorem lX8_takes_40 (a1 : Int32) (a2 : Int32) (σ τ : mm) {r : Option mv} {M' : mm × mm} {v9 : (Int32 × mm) ⊕ (Int32 × mm)} (h : fX8_takes_40 a1 a2 σ = some v9) (hk : (Sum.elim (fun z : Int32 × mm => Vm mX8_takes 2 40 [(0, .inr (.inr (32, 0))), (1, .inl a1), (2, .inl z.1)] [] (τ, z.2) r M') (fun q : Int32 × mm => r = some (.inl q.1) ∧ M' = (τ, q.2))) v9) : Vm mX8_takes 2 40 [(0, .inr (.inr (32, 0))), (1, .inl a1), (2, .inl a2)] [] (τ, σ) r M' := by
  unfold fX8_takes_40 at h
  refine Vm.iload_n (n := 41) 2 dX8_takes_40 rfl rfl ?_
  refine Vm.aload_n (n := 42) 0 dX8_takes_41 rfl rfl ?_
  refine Vm.gM (n := 45) dX8_takes_42 rfl wf_RX8_13 in_32 rfl (by decide) rfl (by decide) ?_
  refine Vm.icmp_ge (n := 48) 71 dX8_takes_45 rfl rfl (fun c9 => ?_) (fun c9 => ?_)
  · replace h := (if_pos c9).symm.trans h
    refine Vm.iconst (n := 72) (v := (0 : Int32)) dX8_takes_71 rfl (by decide) ?_
    obtain rfl := Option.some.inj h
    exact Vm.iret dX8_takes_72 rfl hk.1 hk.2.symm
  · replace h := (if_neg c9).symm.trans h
    refine Vm.aload_n (n := 49) 0 dX8_takes_48 rfl rfl ?_
    refine Vm.getR (n := 52) dX8_takes_49 rfl wf_RX8_32 in_32 rfl (by decide) rfl ?_
    refine Vm.iload_n (n := 53) 2 dX8_takes_52 rfl rfl ?_
    refine Vm.aload_n (n := 54) 0 dX8_takes_53 rfl rfl ?_
    refine Vm.getR (n := 57) dX8_takes_54 rfl wf_RX8_77 in_32 rfl (by decide) rfl ?_
    refine Vm.bipush (n := 59) (v := (40 : Int32)) dX8_takes_57 rfl (by decide) ?_
    refine Vm.iload_n (n := 60) 1 dX8_takes_59 rfl rfl ?_
    refine Vm.imul (n := 61) dX8_takes_60 rfl ?_
    refine Vm.iload_n (n := 62) 2 dX8_takes_61 rfl rfl ?_
    refine Vm.iadd (n := 63) dX8_takes_62 rfl ?_
    replace h := Option.bind_eq_some_iff.mp h
    obtain ⟨x1, h1, h⟩ := h
    refine Vm.laldm (n := 64) dX8_takes_63 rfl in_77 rfl rfl (by decide) h1 ?_
    replace h := Option.bind_eq_some_iff.mp h
    obtain ⟨σ2, h2, h⟩ := h
    refine Vm.lastm (n := 65) dX8_takes_64 rfl in_48 rfl rfl (by decide) h2 ?_
    replace h := Option.bind_eq_some_iff.mp h
    obtain ⟨x3, e3, h⟩ := h
    replace e3 := Option.some.inj e3
    refine Vm.iinc (n := 68) (v := x3) (lv' := [(2, .inl x3), (0, .inr (.inr (32, 0))), (1, .inl a1)]) 2 dX8_takes_65 rfl rfl e3 (Nat.le_of_ble_eq_true rfl) rfl ?_
    refine Vm.goto 40 dX8_takes_68 rfl ?_
    refine Vm.sub (lv' := [(0, .inr (.inr (32, 0))), (1, .inl a1), (2, .inl x3)]) [1, 2, 0] rfl ?_
    obtain rfl := Option.some.inj h
    exact hk
theorem lX8_takes_40_L (a1 : Int32) (τ : mm) {r : Option mv} {M' : mm × mm} (z : Int32 × mm) (w9 : Int32 × mm) (h : lp (fX8_takes_40_L a1) z = some w9) (hk : (fun q : Int32 × mm => r = some (.inl q.1) ∧ M' = (τ, q.2)) w9) : Vm mX8_takes 2 40 [(0, .inr (.inr (32, 0))), (1, .inl a1), (2, .inl z.1)] [] (τ, z.2) r M' :=
  lp_link (S := Int32 × mm) (R := Int32 × mm) (body := fX8_takes_40_L a1) (A := fun z : Int32 × mm => Vm mX8_takes 2 40 [(0, .inr (.inr (32, 0))), (1, .inl a1), (2, .inl z.1)] [] (τ, z.2) r M') (B := fun w : Int32 × mm => (fun q : Int32 × mm => r = some (.inl q.1) ∧ M' = (τ, q.2)) w) (fun z v hb hv => lX8_takes_40 a1 z.1 z.2 τ hb hv) z w9 h hk
set_option maxRecDepth 20000 in
theorem lX8_takes_0 (a1 : Int32) (σ τ : mm) {r : Option mv} {M' : mm × mm} {v9 : Int32 × mm} (h : fX8_takes_0 a1 σ = some v9) (hk : (fun q : Int32 × mm => r = some (.inl q.1) ∧ M' = (τ, q.2)) v9) : Vm mX8_takes 2 0 [(0, .inr (.inr (32, 0))), (1, .inl a1)] [] (τ, σ) r M' := by
  unfold fX8_takes_0 at h
  refine Vm.iload_n (n := 1) 1 dX8_takes_0 rfl rfl ?_
  refine Vm.callS (Y := mX8_isSheet) (n := 4) [.inl a1] dX8_takes_1 rfl wv_RX8_195 omX8_isSheet rfl rfl (Nat.le_of_ble_eq_true rfl) (by decide) (kX8_isSheet a1 rfl) ?_
  refine Vm.if_ne (n := 7) 10 dX8_takes_4 rfl rfl (fun c9 => ?_) (fun c9 => ?_)
  · replace h := (if_neg c9).symm.trans h
    refine Vm.aload_n (n := 11) 0 dX8_takes_10 rfl rfl ?_
    refine Vm.getR (n := 14) dX8_takes_11 rfl wf_RX8_71 in_32 rfl (by decide) rfl ?_
    refine Vm.iload_n (n := 15) 1 dX8_takes_14 rfl rfl ?_
    replace h := Option.bind_eq_some_iff.mp h
    obtain ⟨x1, h1, h⟩ := h
    refine Vm.ialdm (n := 16) dX8_takes_15 rfl in_75 rfl rfl (by decide) h1 ?_
    refine Vm.if_ne (n := 19) 22 dX8_takes_16 rfl rfl (fun c9 => ?_) (fun c9 => ?_)
    · replace h := (if_neg c9).symm.trans h
      refine Vm.aload_n (n := 23) 0 dX8_takes_22 rfl rfl ?_
      refine Vm.getR (n := 26) dX8_takes_23 rfl wf_RX8_74 in_32 rfl (by decide) rfl ?_
      refine Vm.iload_n (n := 27) 1 dX8_takes_26 rfl rfl ?_
      replace h := Option.bind_eq_some_iff.mp h
      obtain ⟨x2, h2, h⟩ := h
      refine Vm.ialdm (n := 28) dX8_takes_27 rfl in_76 rfl rfl (by decide) h2 ?_
      refine Vm.aload_n (n := 29) 0 dX8_takes_28 rfl rfl ?_
      refine Vm.gM (n := 32) dX8_takes_29 rfl wf_RX8_13 in_32 rfl (by decide) rfl (by decide) ?_
      refine Vm.icmp_ge (n := 35) 38 dX8_takes_32 rfl rfl (fun c9 => ?_) (fun c9 => ?_)
      · replace h := (if_pos c9).symm.trans h
        refine Vm.iconst (n := 39) (v := (0 : Int32)) dX8_takes_38 rfl (by decide) ?_
        refine Vm.istore_n (n := 40) (lv' := [(2, .inl (0 : Int32)), (0, .inr (.inr (32, 0))), (1, .inl a1)]) dX8_takes_39 rfl (Nat.le_of_ble_eq_true rfl) rfl ?_
        refine Vm.sub (lv' := [(0, .inr (.inr (32, 0))), (1, .inl a1), (2, .inl (0 : Int32))]) [1, 2, 0] rfl ?_
        exact lX8_takes_40_L a1 τ ((0 : Int32), σ) _ h hk
      · replace h := (if_neg c9).symm.trans h
        refine Vm.ldc (n := 37) dX8_takes_35 rfl wc_RX8_199 ?_
        obtain rfl := Option.some.inj h
        exact Vm.iret dX8_takes_37 rfl hk.1 hk.2.symm
    · replace h := (if_pos c9).symm.trans h
      refine Vm.ldc (n := 21) dX8_takes_19 rfl wc_RX8_198 ?_
      obtain rfl := Option.some.inj h
      exact Vm.iret dX8_takes_21 rfl hk.1 hk.2.symm
  · replace h := (if_pos c9).symm.trans h
    refine Vm.ldc (n := 9) dX8_takes_7 rfl wc_RX8_92 ?_
    obtain rfl := Option.some.inj h
    exact Vm.iret dX8_takes_9 rfl hk.1 hk.2.symm
theorem kX8_takes (a1 : Int32) (σ τ : mm) {q : Int32 × mm} (h : fX8_takes a1 σ = some q) : Cx mX8_takes 2 [.inr (.inr (32, 0)), .inl a1] (τ, σ) (some (.inl q.1)) (τ, q.2) :=
  Cx.of (lv := [(0, .inr (.inr (32, 0))), (1, .inl a1)]) (by decide) (fun ad => Nat.le_of_ble_eq_true rfl) (fun ad => rfl) (lX8_takes_0 a1 σ τ h ⟨rfl, rfl⟩)
-- ThinBodiesModel isNear ()Z
noncomputable def fX8_isNear_39 (a2 : Int32) (s0 : Int32) (σ : mm) : Option ((Int32 × Int32) ⊕ (Bool)) :=
  Option.bind (some (a2 + (1 : Int32))) fun x1 =>
  some (.inl (s0, x1))
noncomputable def fX8_isNear_38 (a2 : Int32) (σ : mm) : Option ((Int32 × Int32) ⊕ (Bool)) :=
  fX8_isNear_39 a2 (0 : Int32) σ
noncomputable def fX8_isNear_4 (a1 : Int32) (a2 : Int32) (σ : mm) : Option ((Int32 × Int32) ⊕ (Bool)) :=
  if (σ.1 32 0 1) ≤ a2 then
  Option.bind (zr a1) fun b1 =>
  some (.inr (b1))
  else
  if a1 = (0 : Int32) then
  fX8_isNear_38 a2 σ
  else
  Option.bind (rdL σ 48 0 4 a2) fun x2 =>
  if (bi (fX8_in x2 (-999 : Int64) (999 : Int64))) = (0 : Int32) then
  fX8_isNear_38 a2 σ
  else
  fX8_isNear_39 a2 (1 : Int32) σ
noncomputable def fX8_isNear_4_L (σ : mm) : Int32 × Int32 → Option ((Int32 × Int32) ⊕ (Bool)) := fun z => fX8_isNear_4 z.1 z.2 σ
noncomputable def fX8_isNear_0 (σ : mm) : Option (Bool) :=
  lp (fX8_isNear_4_L σ) ((1 : Int32), (0 : Int32))
noncomputable def fX8_isNear (σ : mm) : Option (Bool) := fX8_isNear_0 σ
set_option maxRecDepth 20000 in
theorem lX8_isNear_39 (a2 : Int32) (s0 : Int32) (σ σ0 τ : mm) (hσ : σ = σ0) {r : Option mv} {M' : mm × mm} {v9 : (Int32 × Int32) ⊕ (Bool)} (h : fX8_isNear_39 a2 s0 σ = some v9) (hk : (Sum.elim (fun z : Int32 × Int32 => Vm mX8_isNear 1 4 [(0, .inr (.inr (32, 0))), (1, .inl z.1), (2, .inl z.2)] [] (τ, σ) r M') (fun q : Bool => r = some (.inl (bi q)) ∧ M' = (τ, σ0))) v9) : Vm mX8_isNear 1 39 [(0, .inr (.inr (32, 0))), (2, .inl a2)] [.inl s0] (τ, σ) r M' := by
  unfold fX8_isNear_39 at h
  refine Vm.istore_n (n := 40) (lv' := [(1, .inl s0), (0, .inr (.inr (32, 0))), (2, .inl a2)]) dX8_isNear_39 rfl (Nat.le_of_ble_eq_true rfl) rfl ?_
  replace h := Option.bind_eq_some_iff.mp h
  obtain ⟨x1, e1, h⟩ := h
  replace e1 := Option.some.inj e1
  refine Vm.iinc (n := 43) (v := x1) (lv' := [(2, .inl x1), (1, .inl s0), (0, .inr (.inr (32, 0)))]) 2 dX8_isNear_40 rfl rfl e1 (Nat.le_of_ble_eq_true rfl) rfl ?_
  refine Vm.goto 4 dX8_isNear_43 rfl ?_
  refine Vm.sub (lv' := [(0, .inr (.inr (32, 0))), (1, .inl s0), (2, .inl x1)]) [2, 1, 0] rfl ?_
  obtain rfl := Option.some.inj h
  exact hk
set_option maxRecDepth 20000 in
theorem lX8_isNear_38 (a2 : Int32) (σ σ0 τ : mm) (hσ : σ = σ0) {r : Option mv} {M' : mm × mm} {v9 : (Int32 × Int32) ⊕ (Bool)} (h : fX8_isNear_38 a2 σ = some v9) (hk : (Sum.elim (fun z : Int32 × Int32 => Vm mX8_isNear 1 4 [(0, .inr (.inr (32, 0))), (1, .inl z.1), (2, .inl z.2)] [] (τ, σ) r M') (fun q : Bool => r = some (.inl (bi q)) ∧ M' = (τ, σ0))) v9) : Vm mX8_isNear 1 38 [(0, .inr (.inr (32, 0))), (2, .inl a2)] [] (τ, σ) r M' := by
  unfold fX8_isNear_38 at h
  refine Vm.iconst (n := 39) (v := (0 : Int32)) dX8_isNear_38 rfl (by decide) ?_
  exact lX8_isNear_39 a2 (0 : Int32) σ σ0 τ hσ h hk
set_option maxRecDepth 20000 in
theorem lX8_isNear_4 (a1 : Int32) (a2 : Int32) (σ σ0 τ : mm) (hσ : σ = σ0) {r : Option mv} {M' : mm × mm} {v9 : (Int32 × Int32) ⊕ (Bool)} (h : fX8_isNear_4 a1 a2 σ = some v9) (hk : (Sum.elim (fun z : Int32 × Int32 => Vm mX8_isNear 1 4 [(0, .inr (.inr (32, 0))), (1, .inl z.1), (2, .inl z.2)] [] (τ, σ) r M') (fun q : Bool => r = some (.inl (bi q)) ∧ M' = (τ, σ0))) v9) : Vm mX8_isNear 1 4 [(0, .inr (.inr (32, 0))), (1, .inl a1), (2, .inl a2)] [] (τ, σ) r M' := by
  unfold fX8_isNear_4 at h
  refine Vm.iload_n (n := 5) 2 dX8_isNear_4 rfl rfl ?_
  refine Vm.aload_n (n := 6) 0 dX8_isNear_5 rfl rfl ?_
  refine Vm.gM (n := 9) dX8_isNear_6 rfl wf_RX8_13 in_32 rfl (by decide) rfl (by decide) ?_
  refine Vm.icmp_ge (n := 12) 46 dX8_isNear_9 rfl rfl (fun c9 => ?_) (fun c9 => ?_)
  · replace h := (if_pos c9).symm.trans h
    refine Vm.iload_n (n := 47) 1 dX8_isNear_46 rfl rfl ?_
    replace h := Option.bind_eq_some_iff.mp h
    obtain ⟨b1, h1, h⟩ := h
    obtain rfl := Option.some.inj h
    exact Vm.zret (b := b1) dX8_isNear_47 rfl (zr_bi h1) hk.1 (by rw [hσ]; exact hk.2.symm)
  · replace h := (if_neg c9).symm.trans h
    refine Vm.iload_n (n := 13) 1 dX8_isNear_12 rfl rfl ?_
    refine Vm.if_eq (n := 16) 38 dX8_isNear_13 rfl rfl (fun c9 => ?_) (fun c9 => ?_)
    · replace h := (if_pos c9).symm.trans h
      refine Vm.sub (lv' := [(0, .inr (.inr (32, 0))), (2, .inl a2)]) [0, 2] rfl ?_
      exact lX8_isNear_38 a2 σ σ0 τ hσ h hk
    · replace h := (if_neg c9).symm.trans h
      refine Vm.aload_n (n := 17) 0 dX8_isNear_16 rfl rfl ?_
      refine Vm.getR (n := 20) dX8_isNear_17 rfl wf_RX8_32 in_32 rfl (by decide) rfl ?_
      refine Vm.iload_n (n := 21) 2 dX8_isNear_20 rfl rfl ?_
      replace h := Option.bind_eq_some_iff.mp h
      obtain ⟨x2, h2, h⟩ := h
      refine Vm.laldm (n := 22) dX8_isNear_21 rfl in_48 rfl rfl (by decide) h2 ?_
      refine Vm.ldc2 (n := 25) dX8_isNear_22 rfl wl_RX8_128 ?_
      refine Vm.ldc2 (n := 28) dX8_isNear_25 rfl wl_RX8_130 ?_
      refine Vm.callS (Y := mX8_in) (n := 31) [.inr (.inl x2), .inr (.inl (-999 : Int64)), .inr (.inl (999 : Int64))] dX8_isNear_28 rfl wv_RX8_93 omX8_in rfl rfl (Nat.le_of_ble_eq_true rfl) (by decide) (kX8_in x2 (-999 : Int64) (999 : Int64) rfl) ?_
      refine Vm.if_eq (n := 34) 38 dX8_isNear_31 rfl rfl (fun c9 => ?_) (fun c9 => ?_)
      · replace h := (if_pos c9).symm.trans h
        refine Vm.sub (lv' := [(0, .inr (.inr (32, 0))), (2, .inl a2)]) [0, 2] rfl ?_
        exact lX8_isNear_38 a2 σ σ0 τ hσ h hk
      · replace h := (if_neg c9).symm.trans h
        refine Vm.iconst (n := 35) (v := (1 : Int32)) dX8_isNear_34 rfl (by decide) ?_
        refine Vm.goto 39 dX8_isNear_35 rfl ?_
        refine Vm.sub (lv' := [(0, .inr (.inr (32, 0))), (2, .inl a2)]) [0, 2] rfl ?_
        exact lX8_isNear_39 a2 (1 : Int32) σ σ0 τ hσ h hk
theorem lX8_isNear_4_L (σ σ0 τ : mm) (hσ : σ = σ0) {r : Option mv} {M' : mm × mm} (z : Int32 × Int32) (w9 : Bool) (h : lp (fX8_isNear_4_L σ) z = some w9) (hk : (fun q : Bool => r = some (.inl (bi q)) ∧ M' = (τ, σ0)) w9) : Vm mX8_isNear 1 4 [(0, .inr (.inr (32, 0))), (1, .inl z.1), (2, .inl z.2)] [] (τ, σ) r M' :=
  lp_link (S := Int32 × Int32) (R := Bool) (body := fX8_isNear_4_L σ) (A := fun z : Int32 × Int32 => Vm mX8_isNear 1 4 [(0, .inr (.inr (32, 0))), (1, .inl z.1), (2, .inl z.2)] [] (τ, σ) r M') (B := fun w : Bool => (fun q : Bool => r = some (.inl (bi q)) ∧ M' = (τ, σ0)) w) (fun z v hb hv => lX8_isNear_4 z.1 z.2 σ σ0 τ hσ hb hv) z w9 h hk
set_option maxRecDepth 20000 in
theorem lX8_isNear_0 (σ σ0 τ : mm) (hσ : σ = σ0) {r : Option mv} {M' : mm × mm} {v9 : Bool} (h : fX8_isNear_0 σ = some v9) (hk : (fun q : Bool => r = some (.inl (bi q)) ∧ M' = (τ, σ0)) v9) : Vm mX8_isNear 1 0 [(0, .inr (.inr (32, 0)))] [] (τ, σ) r M' := by
  unfold fX8_isNear_0 at h
  refine Vm.iconst (n := 1) (v := (1 : Int32)) dX8_isNear_0 rfl (by decide) ?_
  refine Vm.istore_n (n := 2) (lv' := [(1, .inl (1 : Int32)), (0, .inr (.inr (32, 0)))]) dX8_isNear_1 rfl (Nat.le_of_ble_eq_true rfl) rfl ?_
  refine Vm.iconst (n := 3) (v := (0 : Int32)) dX8_isNear_2 rfl (by decide) ?_
  refine Vm.istore_n (n := 4) (lv' := [(2, .inl (0 : Int32)), (1, .inl (1 : Int32)), (0, .inr (.inr (32, 0)))]) dX8_isNear_3 rfl (Nat.le_of_ble_eq_true rfl) rfl ?_
  refine Vm.sub (lv' := [(0, .inr (.inr (32, 0))), (1, .inl (1 : Int32)), (2, .inl (0 : Int32))]) [2, 1, 0] rfl ?_
  exact lX8_isNear_4_L σ σ0 τ hσ ((1 : Int32), (0 : Int32)) _ h hk
theorem kX8_isNear (σ τ : mm) {q : Bool} (h : fX8_isNear σ = some q) : Cx mX8_isNear 1 [.inr (.inr (32, 0))] (τ, σ) (some (.inl (bi q))) (τ, σ) :=
  Cx.of (lv := [(0, .inr (.inr (32, 0)))]) (by decide) (fun ad => Nat.le_of_ble_eq_true rfl) (fun ad => rfl) (lX8_isNear_0 σ σ τ rfl h ⟨rfl, rfl⟩)
-- ThinBodiesModel holds (I)I
noncomputable def fX8_holds_0 (a1 : Int32) (σ : mm) : Option (Int32 × mm) :=
  Option.bind (fX8_takes a1 σ) fun q1 =>
  if q1.1 = (0 : Int32) then
  Option.bind (fX8_isNear q1.2) fun q2 =>
  if (bi q2) = (0 : Int32) then
  Option.bind (fX8_finds (-1000000005 : Int32) q1.2) fun q3 =>
  some ((q3.1, q3.2))
  else
  Option.bind (fX8_holding q1.2) fun q4 =>
  some ((q4, q1.2))
  else
  Option.bind (fX8_finds q1.1 q1.2) fun q5 =>
  some ((q5.1, q5.2))
noncomputable def fX8_holds (a1 : Int32) (σ : mm) : Option (Int32 × mm) := fX8_holds_0 a1 σ
set_option maxRecDepth 20000 in
theorem lX8_holds_0 (a1 : Int32) (σ τ : mm) {r : Option mv} {M' : mm × mm} {v9 : Int32 × mm} (h : fX8_holds_0 a1 σ = some v9) (hk : (fun q : Int32 × mm => r = some (.inl q.1) ∧ M' = (τ, q.2)) v9) : Vm mX8_holds 3 0 [(0, .inr (.inr (32, 0))), (1, .inl a1)] [] (τ, σ) r M' := by
  unfold fX8_holds_0 at h
  refine Vm.aload_n (n := 1) 0 dX8_holds_0 rfl rfl ?_
  refine Vm.iload_n (n := 2) 1 dX8_holds_1 rfl rfl ?_
  replace h := Option.bind_eq_some_iff.mp h
  obtain ⟨q1, h1, h⟩ := h
  refine Vm.callV (Y := mX8_takes) (n := 5) [.inl a1] dX8_holds_2 rfl wv_RX8_200 omX8_takes rfl in_32 rfl rfl rfl (Nat.le_of_ble_eq_true rfl) (by decide) (kX8_takes a1 σ τ h1) ?_
  refine Vm.istore_n (n := 6) (lv' := [(2, .inl q1.1), (0, .inr (.inr (32, 0))), (1, .inl a1)]) dX8_holds_5 rfl (Nat.le_of_ble_eq_true rfl) rfl ?_
  refine Vm.iload_n (n := 7) 0 dX8_holds_6 rfl rfl ?_
  refine Vm.if_eq (n := 10) 16 dX8_holds_7 rfl rfl (fun c9 => ?_) (fun c9 => ?_)
  · replace h := (if_pos c9).symm.trans h
    refine Vm.aload_n (n := 17) 1 dX8_holds_16 rfl rfl ?_
    replace h := Option.bind_eq_some_iff.mp h
    obtain ⟨q2, h2, h⟩ := h
    refine Vm.callV (Y := mX8_isNear) (n := 20) [] dX8_holds_17 rfl wv_RX8_203 omX8_isNear rfl in_32 rfl rfl rfl (Nat.le_of_ble_eq_true rfl) (by decide) (kX8_isNear q1.2 τ h2) ?_
    refine Vm.if_eq (n := 23) 30 dX8_holds_20 rfl rfl (fun c9 => ?_) (fun c9 => ?_)
    · replace h := (if_pos c9).symm.trans h
      refine Vm.aload_n (n := 31) 1 dX8_holds_30 rfl rfl ?_
      refine Vm.ldc (n := 33) dX8_holds_31 rfl wc_RX8_207 ?_
      replace h := Option.bind_eq_some_iff.mp h
      obtain ⟨q3, h3, h⟩ := h
      refine Vm.callV (Y := mX8_finds) (n := 36) [.inl (-1000000005 : Int32)] dX8_holds_33 rfl wv_RX8_102 omX8_finds rfl in_32 rfl rfl rfl (Nat.le_of_ble_eq_true rfl) (by decide) (kX8_finds (-1000000005 : Int32) q1.2 τ h3) ?_
      obtain rfl := Option.some.inj h
      exact Vm.iret dX8_holds_36 rfl hk.1 hk.2.symm
    · replace h := (if_neg c9).symm.trans h
      refine Vm.aload_n (n := 24) 1 dX8_holds_23 rfl rfl ?_
      replace h := Option.bind_eq_some_iff.mp h
      obtain ⟨q4, h4, h⟩ := h
      refine Vm.callV (Y := mX8_holding) (n := 27) [] dX8_holds_24 rfl wv_RX8_183 omX8_holding rfl in_32 rfl rfl rfl (Nat.le_of_ble_eq_true rfl) (by decide) (kX8_holding q1.2 τ h4) ?_
      refine Vm.goto 36 dX8_holds_27 rfl ?_
      obtain rfl := Option.some.inj h
      exact Vm.iret dX8_holds_36 rfl hk.1 hk.2.symm
  · replace h := (if_neg c9).symm.trans h
    refine Vm.aload_n (n := 11) 1 dX8_holds_10 rfl rfl ?_
    refine Vm.iload_n (n := 12) 0 dX8_holds_11 rfl rfl ?_
    replace h := Option.bind_eq_some_iff.mp h
    obtain ⟨q5, h5, h⟩ := h
    refine Vm.callV (Y := mX8_finds) (n := 15) [.inl q1.1] dX8_holds_12 rfl wv_RX8_102 omX8_finds rfl in_32 rfl rfl rfl (Nat.le_of_ble_eq_true rfl) (by decide) (kX8_finds q1.1 q1.2 τ h5) ?_
    obtain rfl := Option.some.inj h
    exact Vm.iret dX8_holds_15 rfl hk.1 hk.2.symm
theorem kX8_holds (a1 : Int32) (σ τ : mm) {q : Int32 × mm} (h : fX8_holds a1 σ = some q) : Cx mX8_holds 3 [.inr (.inr (32, 0)), .inl a1] (τ, σ) (some (.inl q.1)) (τ, q.2) :=
  Cx.of (lv := [(0, .inr (.inr (32, 0))), (1, .inl a1)]) (by decide) (fun ad => Nat.le_of_ble_eq_true rfl) (fun ad => rfl) (lX8_holds_0 a1 σ τ h ⟨rfl, rfl⟩)
-- ThinBodiesModel directions ()I
noncomputable def fX8_directions_4 (a1 : Int32) (a2 : Int32) (σ : mm) : Option ((Int32 × Int32) ⊕ (Int32)) :=
  if (σ.1 32 0 1) ≤ a2 then
  some (.inr (a1))
  else
  Option.bind (some (a1 * (5 : Int32))) fun x1 =>
  Option.bind (some (a2 + (1 : Int32))) fun x2 =>
  some (.inl (x1, x2))
noncomputable def fX8_directions_4_L (σ : mm) : Int32 × Int32 → Option ((Int32 × Int32) ⊕ (Int32)) := fun z => fX8_directions_4 z.1 z.2 σ
noncomputable def fX8_directions_0 (σ : mm) : Option (Int32) :=
  lp (fX8_directions_4_L σ) ((1 : Int32), (0 : Int32))
noncomputable def fX8_directions (σ : mm) : Option (Int32) := fX8_directions_0 σ
set_option maxRecDepth 20000 in
theorem lX8_directions_4 (a1 : Int32) (a2 : Int32) (σ σ0 τ : mm) (hσ : σ = σ0) {r : Option mv} {M' : mm × mm} {v9 : (Int32 × Int32) ⊕ (Int32)} (h : fX8_directions_4 a1 a2 σ = some v9) (hk : (Sum.elim (fun z : Int32 × Int32 => Vm mX8_directions 0 4 [(0, .inr (.inr (32, 0))), (1, .inl z.1), (2, .inl z.2)] [] (τ, σ) r M') (fun q : Int32 => r = some (.inl q) ∧ M' = (τ, σ0))) v9) : Vm mX8_directions 0 4 [(0, .inr (.inr (32, 0))), (1, .inl a1), (2, .inl a2)] [] (τ, σ) r M' := by
  unfold fX8_directions_4 at h
  refine Vm.iload_n (n := 5) 2 dX8_directions_4 rfl rfl ?_
  refine Vm.aload_n (n := 6) 0 dX8_directions_5 rfl rfl ?_
  refine Vm.gM (n := 9) dX8_directions_6 rfl wf_RX8_13 in_32 rfl (by decide) rfl (by decide) ?_
  refine Vm.icmp_ge (n := 12) 22 dX8_directions_9 rfl rfl (fun c9 => ?_) (fun c9 => ?_)
  · replace h := (if_pos c9).symm.trans h
    refine Vm.iload_n (n := 23) 1 dX8_directions_22 rfl rfl ?_
    obtain rfl := Option.some.inj h
    exact Vm.iret dX8_directions_23 rfl hk.1 (by rw [hσ]; exact hk.2.symm)
  · replace h := (if_neg c9).symm.trans h
    refine Vm.iload_n (n := 13) 1 dX8_directions_12 rfl rfl ?_
    refine Vm.iconst (n := 14) (v := (5 : Int32)) dX8_directions_13 rfl (by decide) ?_
    refine Vm.imul (n := 15) dX8_directions_14 rfl ?_
    replace h := Option.bind_eq_some_iff.mp h
    obtain ⟨x1, e1, h⟩ := h
    replace e1 := Option.some.inj e1
    refine Vm.top e1 ?_
    refine Vm.istore_n (n := 16) (lv' := [(1, .inl x1), (0, .inr (.inr (32, 0))), (2, .inl a2)]) dX8_directions_15 rfl (Nat.le_of_ble_eq_true rfl) rfl ?_
    replace h := Option.bind_eq_some_iff.mp h
    obtain ⟨x2, e2, h⟩ := h
    replace e2 := Option.some.inj e2
    refine Vm.iinc (n := 19) (v := x2) (lv' := [(2, .inl x2), (1, .inl x1), (0, .inr (.inr (32, 0)))]) 2 dX8_directions_16 rfl rfl e2 (Nat.le_of_ble_eq_true rfl) rfl ?_
    refine Vm.goto 4 dX8_directions_19 rfl ?_
    refine Vm.sub (lv' := [(0, .inr (.inr (32, 0))), (1, .inl x1), (2, .inl x2)]) [2, 1, 0] rfl ?_
    obtain rfl := Option.some.inj h
    exact hk
theorem lX8_directions_4_L (σ σ0 τ : mm) (hσ : σ = σ0) {r : Option mv} {M' : mm × mm} (z : Int32 × Int32) (w9 : Int32) (h : lp (fX8_directions_4_L σ) z = some w9) (hk : (fun q : Int32 => r = some (.inl q) ∧ M' = (τ, σ0)) w9) : Vm mX8_directions 0 4 [(0, .inr (.inr (32, 0))), (1, .inl z.1), (2, .inl z.2)] [] (τ, σ) r M' :=
  lp_link (S := Int32 × Int32) (R := Int32) (body := fX8_directions_4_L σ) (A := fun z : Int32 × Int32 => Vm mX8_directions 0 4 [(0, .inr (.inr (32, 0))), (1, .inl z.1), (2, .inl z.2)] [] (τ, σ) r M') (B := fun w : Int32 => (fun q : Int32 => r = some (.inl q) ∧ M' = (τ, σ0)) w) (fun z v hb hv => lX8_directions_4 z.1 z.2 σ σ0 τ hσ hb hv) z w9 h hk
set_option maxRecDepth 20000 in
theorem lX8_directions_0 (σ σ0 τ : mm) (hσ : σ = σ0) {r : Option mv} {M' : mm × mm} {v9 : Int32} (h : fX8_directions_0 σ = some v9) (hk : (fun q : Int32 => r = some (.inl q) ∧ M' = (τ, σ0)) v9) : Vm mX8_directions 0 0 [(0, .inr (.inr (32, 0)))] [] (τ, σ) r M' := by
  unfold fX8_directions_0 at h
  refine Vm.iconst (n := 1) (v := (1 : Int32)) dX8_directions_0 rfl (by decide) ?_
  refine Vm.istore_n (n := 2) (lv' := [(1, .inl (1 : Int32)), (0, .inr (.inr (32, 0)))]) dX8_directions_1 rfl (Nat.le_of_ble_eq_true rfl) rfl ?_
  refine Vm.iconst (n := 3) (v := (0 : Int32)) dX8_directions_2 rfl (by decide) ?_
  refine Vm.istore_n (n := 4) (lv' := [(2, .inl (0 : Int32)), (1, .inl (1 : Int32)), (0, .inr (.inr (32, 0)))]) dX8_directions_3 rfl (Nat.le_of_ble_eq_true rfl) rfl ?_
  refine Vm.sub (lv' := [(0, .inr (.inr (32, 0))), (1, .inl (1 : Int32)), (2, .inl (0 : Int32))]) [2, 1, 0] rfl ?_
  exact lX8_directions_4_L σ σ0 τ hσ ((1 : Int32), (0 : Int32)) _ h hk
theorem kX8_directions (σ τ : mm) {q : Int32} (h : fX8_directions σ = some q) : Cx mX8_directions 0 [.inr (.inr (32, 0))] (τ, σ) (some (.inl q)) (τ, σ) :=
  Cx.of (lv := [(0, .inr (.inr (32, 0)))]) (by decide) (fun ad => Nat.le_of_ble_eq_true rfl) (fun ad => rfl) (lX8_directions_0 σ σ τ rfl h ⟨rfl, rfl⟩)
-- ThinBodiesModel measures (I)V
noncomputable def fX8_measures_144 (a4 : Int32) (s0 : Int32) (σ : mm) : Option ((Int32 × Int32 × mm) ⊕ (mm)) :=
  Option.bind (some (a4 + (1 : Int32))) fun x1 =>
  some (.inl (s0, x1, σ))
noncomputable def fX8_measures_138 (a4 : Int32) (a5 : Int32) (σ : mm) : Option ((Int32 × Int32 × mm) ⊕ (mm)) :=
  fX8_measures_144 a4 a5 σ
noncomputable def fX8_measures_127 (a3 : Int32) (a4 : Int32) (a5 : Int32) (σ : mm) : Option ((Int32 × Int32 × mm) ⊕ (mm)) :=
  if a4 = (0 : Int32) then
  fX8_measures_138 a4 a5 σ
  else
  if a3 ≤ a5 then
  fX8_measures_144 a4 a3 σ
  else
  fX8_measures_138 a4 a5 σ
noncomputable def fX8_measures_115 (a3 : Int32) (a4 : Int32) (a5 : Int32) (σ : mm) : Option ((Int32 × Int32 × mm) ⊕ (mm)) :=
  Option.bind (some (stI σ 32 0 12 a5)) fun σ1 =>
  Option.bind (some (stI σ1 32 0 13 a4)) fun σ2 =>
  fX8_measures_127 a3 a4 a5 σ2
noncomputable def fX8_measures_65 (a3 : Int32) (a4 : Int32) (a5 : Int32) (a6 : Int32) (σ : mm) : Option ((Int32 × Int32) ⊕ ((Int32 × Int32 × mm) ⊕ (mm))) :=
  if (σ.1 32 0 1) ≤ a6 then
  if a4 = (0 : Int32) then
  Option.map Sum.inr (fX8_measures_115 a3 a4 a5 σ)
  else
  if a5 ≤ (σ.1 32 0 12) then
  Option.map Sum.inr (fX8_measures_127 a3 a4 a5 σ)
  else
  Option.map Sum.inr (fX8_measures_115 a3 a4 a5 σ)
  else
  Option.bind (rdI σ 55 0 4 a6) fun x1 =>
  Option.bind (rdL σ 48 0 4 a6) fun x2 =>
  Option.bind (some (a5 + (x1 * x2.toInt32))) fun x3 =>
  Option.bind (some (a6 + (1 : Int32))) fun x4 =>
  some (.inl (x3, x4))
noncomputable def fX8_measures_65_L (a3 : Int32) (a4 : Int32) (σ : mm) : Int32 × Int32 → Option ((Int32 × Int32) ⊕ ((Int32 × Int32 × mm) ⊕ (mm))) := fun z => fX8_measures_65 a3 a4 z.1 z.2 σ
noncomputable def fX8_measures_39 (a3 : Int32) (a4 : Int32) (σ : mm) : Option ((Int32 × Int32 × mm) ⊕ (mm)) :=
  if (σ.1 32 0 11) ≤ a4 then
  Option.bind (some ((σ.1 32 0 12) - a3)) fun x1 =>
  Option.bind (some (stI σ 32 0 14 x1)) fun σ2 =>
  some (.inr (σ2))
  else
  Option.bind (rdI σ 50 0 4096 a4) fun x3 =>
  Option.bind (fX8_goesTo x3 σ) fun q4 =>
  lp (fX8_measures_65_L a3 a4 q4) ((0 : Int32), (0 : Int32))
noncomputable def fX8_measures_39_L : Int32 × Int32 × mm → Option ((Int32 × Int32 × mm) ⊕ (mm)) := fun z => fX8_measures_39 z.1 z.2.1 z.2.2
noncomputable def fX8_measures_9 (a2 : Int32) (a3 : Int32) (σ : mm) : Option ((Int32 × Int32 × mm) ⊕ (mm)) :=
  if a3 < (0 : Int32) then
  Option.map Sum.inr (lp (fX8_measures_39_L) ((0 : Int32), (0 : Int32), σ))
  else
  Option.bind (rmI a2 (5 : Int32)) fun x1 =>
  Option.bind (wrI σ 55 0 4 a3 (x1 - (2 : Int32))) fun σ2 =>
  Option.bind (dvI a2 (5 : Int32)) fun x3 =>
  Option.bind (some (a3 + (-1 : Int32))) fun x4 =>
  some (.inl (x3, x4, σ2))
noncomputable def fX8_measures_9_L : Int32 × Int32 × mm → Option ((Int32 × Int32 × mm) ⊕ (mm)) := fun z => fX8_measures_9 z.1 z.2.1 z.2.2
noncomputable def fX8_measures_0 (a1 : Int32) (σ : mm) : Option (mm) :=
  Option.bind (some ((σ.1 32 0 1) - (1 : Int32))) fun x1 =>
  lp (fX8_measures_9_L) (a1, x1, σ)
noncomputable def fX8_measures (a1 : Int32) (σ : mm) : Option (mm) := fX8_measures_0 a1 σ
set_option maxRecDepth 20000 in
theorem lX8_measures_144 (a4 : Int32) (s0 : Int32) (σ τ : mm) {r : Option mv} {M' : mm × mm} {v9 : (Int32 × Int32 × mm) ⊕ (mm)} (h : fX8_measures_144 a4 s0 σ = some v9) (hk : (Sum.elim (fun z : Int32 × Int32 × mm => Vm mX8_measures 1 39 [(0, .inr (.inr (32, 0))), (3, .inl z.1), (4, .inl z.2.1)] [] (τ, z.2.2) r M') (fun q : mm => r = none ∧ M' = (τ, q))) v9) : Vm mX8_measures 1 144 [(0, .inr (.inr (32, 0))), (4, .inl a4)] [.inl s0] (τ, σ) r M' := by
  unfold fX8_measures_144 at h
  refine Vm.istore_n (n := 145) (lv' := [(3, .inl s0), (0, .inr (.inr (32, 0))), (4, .inl a4)]) dX8_measures_144 rfl (Nat.le_of_ble_eq_true rfl) rfl ?_
  replace h := Option.bind_eq_some_iff.mp h
  obtain ⟨x1, e1, h⟩ := h
  replace e1 := Option.some.inj e1
  refine Vm.iinc (n := 148) (v := x1) (lv' := [(4, .inl x1), (3, .inl s0), (0, .inr (.inr (32, 0)))]) 2 dX8_measures_145 rfl rfl e1 (Nat.le_of_ble_eq_true rfl) rfl ?_
  refine Vm.goto 39 dX8_measures_148 rfl ?_
  refine Vm.sub (lv' := [(0, .inr (.inr (32, 0))), (3, .inl s0), (4, .inl x1)]) [2, 1, 0] rfl ?_
  obtain rfl := Option.some.inj h
  exact hk
set_option maxRecDepth 20000 in
theorem lX8_measures_138 (a4 : Int32) (a5 : Int32) (σ τ : mm) {r : Option mv} {M' : mm × mm} {v9 : (Int32 × Int32 × mm) ⊕ (mm)} (h : fX8_measures_138 a4 a5 σ = some v9) (hk : (Sum.elim (fun z : Int32 × Int32 × mm => Vm mX8_measures 1 39 [(0, .inr (.inr (32, 0))), (3, .inl z.1), (4, .inl z.2.1)] [] (τ, z.2.2) r M') (fun q : mm => r = none ∧ M' = (τ, q))) v9) : Vm mX8_measures 1 138 [(0, .inr (.inr (32, 0))), (4, .inl a4), (5, .inl a5)] [] (τ, σ) r M' := by
  unfold fX8_measures_138 at h
  refine Vm.iload (n := 140) 2 dX8_measures_138 rfl rfl ?_
  refine Vm.goto 144 dX8_measures_140 rfl ?_
  refine Vm.sub (lv' := [(0, .inr (.inr (32, 0))), (4, .inl a4)]) [0, 1] rfl ?_
  exact lX8_measures_144 a4 a5 σ τ h hk
set_option maxRecDepth 20000 in
theorem lX8_measures_127 (a3 : Int32) (a4 : Int32) (a5 : Int32) (σ τ : mm) {r : Option mv} {M' : mm × mm} {v9 : (Int32 × Int32 × mm) ⊕ (mm)} (h : fX8_measures_127 a3 a4 a5 σ = some v9) (hk : (Sum.elim (fun z : Int32 × Int32 × mm => Vm mX8_measures 1 39 [(0, .inr (.inr (32, 0))), (3, .inl z.1), (4, .inl z.2.1)] [] (τ, z.2.2) r M') (fun q : mm => r = none ∧ M' = (τ, q))) v9) : Vm mX8_measures 1 127 [(0, .inr (.inr (32, 0))), (3, .inl a3), (4, .inl a4), (5, .inl a5)] [] (τ, σ) r M' := by
  unfold fX8_measures_127 at h
  refine Vm.iload (n := 129) 2 dX8_measures_127 rfl rfl ?_
  refine Vm.if_eq (n := 132) 138 dX8_measures_129 rfl rfl (fun c9 => ?_) (fun c9 => ?_)
  · replace h := (if_pos c9).symm.trans h
    refine Vm.sub (lv' := [(0, .inr (.inr (32, 0))), (4, .inl a4), (5, .inl a5)]) [0, 2, 3] rfl ?_
    exact lX8_measures_138 a4 a5 σ τ h hk
  · replace h := (if_neg c9).symm.trans h
    refine Vm.iload (n := 134) 3 dX8_measures_132 rfl rfl ?_
    refine Vm.iload_n (n := 135) 1 dX8_measures_134 rfl rfl ?_
    refine Vm.icmp_ge (n := 138) 143 dX8_measures_135 rfl rfl (fun c9 => ?_) (fun c9 => ?_)
    · replace h := (if_pos c9).symm.trans h
      refine Vm.iload_n (n := 144) 1 dX8_measures_143 rfl rfl ?_
      refine Vm.sub (lv' := [(0, .inr (.inr (32, 0))), (4, .inl a4)]) [0, 2] rfl ?_
      exact lX8_measures_144 a4 a3 σ τ h hk
    · replace h := (if_neg c9).symm.trans h
      refine Vm.sub (lv' := [(0, .inr (.inr (32, 0))), (4, .inl a4), (5, .inl a5)]) [0, 2, 3] rfl ?_
      exact lX8_measures_138 a4 a5 σ τ h hk
set_option maxRecDepth 20000 in
theorem lX8_measures_115 (a3 : Int32) (a4 : Int32) (a5 : Int32) (σ τ : mm) {r : Option mv} {M' : mm × mm} {v9 : (Int32 × Int32 × mm) ⊕ (mm)} (h : fX8_measures_115 a3 a4 a5 σ = some v9) (hk : (Sum.elim (fun z : Int32 × Int32 × mm => Vm mX8_measures 1 39 [(0, .inr (.inr (32, 0))), (3, .inl z.1), (4, .inl z.2.1)] [] (τ, z.2.2) r M') (fun q : mm => r = none ∧ M' = (τ, q))) v9) : Vm mX8_measures 1 115 [(0, .inr (.inr (32, 0))), (3, .inl a3), (4, .inl a4), (5, .inl a5)] [] (τ, σ) r M' := by
  unfold fX8_measures_115 at h
  refine Vm.aload_n (n := 116) 0 dX8_measures_115 rfl rfl ?_
  refine Vm.iload (n := 118) 3 dX8_measures_116 rfl rfl ?_
  refine Vm.pM (n := 121) (ty := .int) dX8_measures_118 rfl wf_RX8_208 in_32 rfl (by decide) rfl (by decide) rfl rfl rfl rfl ?_
  replace h := Option.bind_eq_some_iff.mp h
  obtain ⟨σ1, e1, h⟩ := h
  replace e1 := Option.some.inj e1
  refine Vm.mem (congrArg (fun z => (τ, z)) e1) ?_
  refine Vm.aload_n (n := 122) 0 dX8_measures_121 rfl rfl ?_
  refine Vm.iload (n := 124) 2 dX8_measures_122 rfl rfl ?_
  refine Vm.pM (n := 127) (ty := .int) dX8_measures_124 rfl wf_RX8_211 in_32 rfl (by decide) rfl (by decide) rfl rfl rfl rfl ?_
  replace h := Option.bind_eq_some_iff.mp h
  obtain ⟨σ2, e2, h⟩ := h
  replace e2 := Option.some.inj e2
  refine Vm.mem (congrArg (fun z => (τ, z)) e2) ?_
  exact lX8_measures_127 a3 a4 a5 σ2 τ h hk
set_option maxRecDepth 20000 in
theorem lX8_measures_65 (a3 : Int32) (a4 : Int32) (a5 : Int32) (a6 : Int32) (σ τ : mm) {r : Option mv} {M' : mm × mm} {v9 : (Int32 × Int32) ⊕ ((Int32 × Int32 × mm) ⊕ (mm))} (h : fX8_measures_65 a3 a4 a5 a6 σ = some v9) (hk : (Sum.elim (fun z : Int32 × Int32 => Vm mX8_measures 1 65 [(0, .inr (.inr (32, 0))), (3, .inl a3), (4, .inl a4), (5, .inl z.1), (6, .inl z.2)] [] (τ, σ) r M') (Sum.elim (fun z : Int32 × Int32 × mm => Vm mX8_measures 1 39 [(0, .inr (.inr (32, 0))), (3, .inl z.1), (4, .inl z.2.1)] [] (τ, z.2.2) r M') (fun q : mm => r = none ∧ M' = (τ, q)))) v9) : Vm mX8_measures 1 65 [(0, .inr (.inr (32, 0))), (3, .inl a3), (4, .inl a4), (5, .inl a5), (6, .inl a6)] [] (τ, σ) r M' := by
  unfold fX8_measures_65 at h
  refine Vm.iload (n := 67) 4 dX8_measures_65 rfl rfl ?_
  refine Vm.aload_n (n := 68) 0 dX8_measures_67 rfl rfl ?_
  refine Vm.gM (n := 71) dX8_measures_68 rfl wf_RX8_13 in_32 rfl (by decide) rfl (by decide) ?_
  refine Vm.icmp_ge (n := 74) 101 dX8_measures_71 rfl rfl (fun c9 => ?_) (fun c9 => ?_)
  · replace h := (if_pos c9).symm.trans h
    refine Vm.iload (n := 103) 2 dX8_measures_101 rfl rfl ?_
    refine Vm.if_eq (n := 106) 115 dX8_measures_103 rfl rfl (fun c9 => ?_) (fun c9 => ?_)
    · replace h := (if_pos c9).symm.trans h
      refine Vm.sub (lv' := [(0, .inr (.inr (32, 0))), (3, .inl a3), (4, .inl a4), (5, .inl a5)]) [0, 1, 2, 3] rfl ?_
      replace h := Option.map_eq_some_iff.mp h
      obtain ⟨w9, h, e8⟩ := h
      subst e8
      exact lX8_measures_115 a3 a4 a5 σ τ h hk
    · replace h := (if_neg c9).symm.trans h
      refine Vm.iload (n := 108) 3 dX8_measures_106 rfl rfl ?_
      refine Vm.aload_n (n := 109) 0 dX8_measures_108 rfl rfl ?_
      refine Vm.gM (n := 112) dX8_measures_109 rfl wf_RX8_208 in_32 rfl (by decide) rfl (by decide) ?_
      refine Vm.icmp_le (n := 115) 127 dX8_measures_112 rfl rfl (fun c9 => ?_) (fun c9 => ?_)
      · replace h := (if_pos c9).symm.trans h
        refine Vm.sub (lv' := [(0, .inr (.inr (32, 0))), (3, .inl a3), (4, .inl a4), (5, .inl a5)]) [0, 1, 2, 3] rfl ?_
        replace h := Option.map_eq_some_iff.mp h
        obtain ⟨w9, h, e8⟩ := h
        subst e8
        exact lX8_measures_127 a3 a4 a5 σ τ h hk
      · replace h := (if_neg c9).symm.trans h
        refine Vm.sub (lv' := [(0, .inr (.inr (32, 0))), (3, .inl a3), (4, .inl a4), (5, .inl a5)]) [0, 1, 2, 3] rfl ?_
        replace h := Option.map_eq_some_iff.mp h
        obtain ⟨w9, h, e8⟩ := h
        subst e8
        exact lX8_measures_115 a3 a4 a5 σ τ h hk
  · replace h := (if_neg c9).symm.trans h
    refine Vm.iload (n := 76) 3 dX8_measures_74 rfl rfl ?_
    refine Vm.aload_n (n := 77) 0 dX8_measures_76 rfl rfl ?_
    refine Vm.getR (n := 80) dX8_measures_77 rfl wf_RX8_42 in_32 rfl (by decide) rfl ?_
    refine Vm.iload (n := 82) 4 dX8_measures_80 rfl rfl ?_
    replace h := Option.bind_eq_some_iff.mp h
    obtain ⟨x1, h1, h⟩ := h
    refine Vm.ialdm (n := 83) dX8_measures_82 rfl in_55 rfl rfl (by decide) h1 ?_
    refine Vm.aload_n (n := 84) 0 dX8_measures_83 rfl rfl ?_
    refine Vm.getR (n := 87) dX8_measures_84 rfl wf_RX8_32 in_32 rfl (by decide) rfl ?_
    refine Vm.iload (n := 89) 4 dX8_measures_87 rfl rfl ?_
    replace h := Option.bind_eq_some_iff.mp h
    obtain ⟨x2, h2, h⟩ := h
    refine Vm.laldm (n := 90) dX8_measures_89 rfl in_48 rfl rfl (by decide) h2 ?_
    refine Vm.l2i (n := 91) dX8_measures_90 rfl ?_
    refine Vm.imul (n := 92) dX8_measures_91 rfl ?_
    refine Vm.iadd (n := 93) dX8_measures_92 rfl ?_
    replace h := Option.bind_eq_some_iff.mp h
    obtain ⟨x3, e3, h⟩ := h
    replace e3 := Option.some.inj e3
    refine Vm.top e3 ?_
    refine Vm.istore (n := 95) (lv' := [(5, .inl x3), (0, .inr (.inr (32, 0))), (3, .inl a3), (4, .inl a4), (6, .inl a6)]) dX8_measures_93 rfl (Nat.le_of_ble_eq_true rfl) rfl ?_
    replace h := Option.bind_eq_some_iff.mp h
    obtain ⟨x4, e4, h⟩ := h
    replace e4 := Option.some.inj e4
    refine Vm.iinc (n := 98) (v := x4) (lv' := [(6, .inl x4), (5, .inl x3), (0, .inr (.inr (32, 0))), (3, .inl a3), (4, .inl a4)]) 4 dX8_measures_95 rfl rfl e4 (Nat.le_of_ble_eq_true rfl) rfl ?_
    refine Vm.goto 65 dX8_measures_98 rfl ?_
    refine Vm.sub (lv' := [(0, .inr (.inr (32, 0))), (3, .inl a3), (4, .inl a4), (5, .inl x3), (6, .inl x4)]) [2, 3, 4, 1, 0] rfl ?_
    obtain rfl := Option.some.inj h
    exact hk
theorem lX8_measures_65_L (a3 : Int32) (a4 : Int32) (σ τ : mm) {r : Option mv} {M' : mm × mm} (z : Int32 × Int32) (w9 : (Int32 × Int32 × mm) ⊕ (mm)) (h : lp (fX8_measures_65_L a3 a4 σ) z = some w9) (hk : (Sum.elim (fun z : Int32 × Int32 × mm => Vm mX8_measures 1 39 [(0, .inr (.inr (32, 0))), (3, .inl z.1), (4, .inl z.2.1)] [] (τ, z.2.2) r M') (fun q : mm => r = none ∧ M' = (τ, q))) w9) : Vm mX8_measures 1 65 [(0, .inr (.inr (32, 0))), (3, .inl a3), (4, .inl a4), (5, .inl z.1), (6, .inl z.2)] [] (τ, σ) r M' :=
  lp_link (S := Int32 × Int32) (R := (Int32 × Int32 × mm) ⊕ (mm)) (body := fX8_measures_65_L a3 a4 σ) (A := fun z : Int32 × Int32 => Vm mX8_measures 1 65 [(0, .inr (.inr (32, 0))), (3, .inl a3), (4, .inl a4), (5, .inl z.1), (6, .inl z.2)] [] (τ, σ) r M') (B := fun w : (Int32 × Int32 × mm) ⊕ (mm) => (Sum.elim (fun z : Int32 × Int32 × mm => Vm mX8_measures 1 39 [(0, .inr (.inr (32, 0))), (3, .inl z.1), (4, .inl z.2.1)] [] (τ, z.2.2) r M') (fun q : mm => r = none ∧ M' = (τ, q))) w) (fun z v hb hv => lX8_measures_65 a3 a4 z.1 z.2 σ τ hb hv) z w9 h hk
set_option maxRecDepth 20000 in
theorem lX8_measures_39 (a3 : Int32) (a4 : Int32) (σ τ : mm) {r : Option mv} {M' : mm × mm} {v9 : (Int32 × Int32 × mm) ⊕ (mm)} (h : fX8_measures_39 a3 a4 σ = some v9) (hk : (Sum.elim (fun z : Int32 × Int32 × mm => Vm mX8_measures 1 39 [(0, .inr (.inr (32, 0))), (3, .inl z.1), (4, .inl z.2.1)] [] (τ, z.2.2) r M') (fun q : mm => r = none ∧ M' = (τ, q))) v9) : Vm mX8_measures 1 39 [(0, .inr (.inr (32, 0))), (3, .inl a3), (4, .inl a4)] [] (τ, σ) r M' := by
  unfold fX8_measures_39 at h
  refine Vm.iload (n := 41) 2 dX8_measures_39 rfl rfl ?_
  refine Vm.aload_n (n := 42) 0 dX8_measures_41 rfl rfl ?_
  refine Vm.gM (n := 45) dX8_measures_42 rfl wf_RX8_176 in_32 rfl (by decide) rfl (by decide) ?_
  refine Vm.icmp_ge (n := 48) 151 dX8_measures_45 rfl rfl (fun c9 => ?_) (fun c9 => ?_)
  · replace h := (if_pos c9).symm.trans h
    refine Vm.aload_n (n := 152) 0 dX8_measures_151 rfl rfl ?_
    refine Vm.aload_n (n := 153) 0 dX8_measures_152 rfl rfl ?_
    refine Vm.gM (n := 156) dX8_measures_153 rfl wf_RX8_208 in_32 rfl (by decide) rfl (by decide) ?_
    refine Vm.iload_n (n := 157) 1 dX8_measures_156 rfl rfl ?_
    refine Vm.isub (n := 158) dX8_measures_157 rfl ?_
    replace h := Option.bind_eq_some_iff.mp h
    obtain ⟨x1, e1, h⟩ := h
    replace e1 := Option.some.inj e1
    refine Vm.top e1 ?_
    refine Vm.pM (n := 161) (ty := .int) dX8_measures_158 rfl wf_RX8_214 in_32 rfl (by decide) rfl (by decide) rfl rfl rfl rfl ?_
    replace h := Option.bind_eq_some_iff.mp h
    obtain ⟨σ2, e2, h⟩ := h
    replace e2 := Option.some.inj e2
    refine Vm.mem (congrArg (fun z => (τ, z)) e2) ?_
    obtain rfl := Option.some.inj h
    exact Vm.vret dX8_measures_161 rfl hk.1 hk.2.symm
  · replace h := (if_neg c9).symm.trans h
    refine Vm.aload_n (n := 49) 0 dX8_measures_48 rfl rfl ?_
    refine Vm.aload_n (n := 50) 0 dX8_measures_49 rfl rfl ?_
    refine Vm.getR (n := 53) dX8_measures_50 rfl wf_RX8_39 in_32 rfl (by decide) rfl ?_
    refine Vm.iload (n := 55) 2 dX8_measures_53 rfl rfl ?_
    replace h := Option.bind_eq_some_iff.mp h
    obtain ⟨x3, h3, h⟩ := h
    refine Vm.ialdm (n := 56) dX8_measures_55 rfl in_50 rfl rfl (by decide) h3 ?_
    replace h := Option.bind_eq_some_iff.mp h
    obtain ⟨q4, h4, h⟩ := h
    refine Vm.callVv (Y := mX8_goesTo) (n := 59) [.inl x3] dX8_measures_56 rfl wv_RX8_179 omX8_goesTo rfl in_32 rfl rfl rfl (Nat.le_of_ble_eq_true rfl) (by decide) (kX8_goesTo x3 σ τ h4) ?_
    refine Vm.iconst (n := 60) (v := (0 : Int32)) dX8_measures_59 rfl (by decide) ?_
    refine Vm.istore (n := 62) (lv' := [(5, .inl (0 : Int32)), (0, .inr (.inr (32, 0))), (3, .inl a3), (4, .inl a4)]) dX8_measures_60 rfl (Nat.le_of_ble_eq_true rfl) rfl ?_
    refine Vm.iconst (n := 63) (v := (0 : Int32)) dX8_measures_62 rfl (by decide) ?_
    refine Vm.istore (n := 65) (lv' := [(6, .inl (0 : Int32)), (5, .inl (0 : Int32)), (0, .inr (.inr (32, 0))), (3, .inl a3), (4, .inl a4)]) dX8_measures_63 rfl (Nat.le_of_ble_eq_true rfl) rfl ?_
    refine Vm.sub (lv' := [(0, .inr (.inr (32, 0))), (3, .inl a3), (4, .inl a4), (5, .inl (0 : Int32)), (6, .inl (0 : Int32))]) [2, 3, 4, 1, 0] rfl ?_
    exact lX8_measures_65_L a3 a4 q4 τ ((0 : Int32), (0 : Int32)) _ h hk
theorem lX8_measures_39_L (τ : mm) {r : Option mv} {M' : mm × mm} (z : Int32 × Int32 × mm) (w9 : mm) (h : lp (fX8_measures_39_L) z = some w9) (hk : (fun q : mm => r = none ∧ M' = (τ, q)) w9) : Vm mX8_measures 1 39 [(0, .inr (.inr (32, 0))), (3, .inl z.1), (4, .inl z.2.1)] [] (τ, z.2.2) r M' :=
  lp_link (S := Int32 × Int32 × mm) (R := mm) (body := fX8_measures_39_L) (A := fun z : Int32 × Int32 × mm => Vm mX8_measures 1 39 [(0, .inr (.inr (32, 0))), (3, .inl z.1), (4, .inl z.2.1)] [] (τ, z.2.2) r M') (B := fun w : mm => (fun q : mm => r = none ∧ M' = (τ, q)) w) (fun z v hb hv => lX8_measures_39 z.1 z.2.1 z.2.2 τ hb hv) z w9 h hk
set_option maxRecDepth 20000 in
theorem lX8_measures_9 (a2 : Int32) (a3 : Int32) (σ τ : mm) {r : Option mv} {M' : mm × mm} {v9 : (Int32 × Int32 × mm) ⊕ (mm)} (h : fX8_measures_9 a2 a3 σ = some v9) (hk : (Sum.elim (fun z : Int32 × Int32 × mm => Vm mX8_measures 1 9 [(0, .inr (.inr (32, 0))), (2, .inl z.1), (3, .inl z.2.1)] [] (τ, z.2.2) r M') (fun q : mm => r = none ∧ M' = (τ, q))) v9) : Vm mX8_measures 1 9 [(0, .inr (.inr (32, 0))), (2, .inl a2), (3, .inl a3)] [] (τ, σ) r M' := by
  unfold fX8_measures_9 at h
  refine Vm.iload_n (n := 10) 2 dX8_measures_9 rfl rfl ?_
  refine Vm.if_lt (n := 13) 34 dX8_measures_10 rfl rfl (fun c9 => ?_) (fun c9 => ?_)
  · replace h := (if_pos c9).symm.trans h
    refine Vm.iconst (n := 35) (v := (0 : Int32)) dX8_measures_34 rfl (by decide) ?_
    refine Vm.istore_n (n := 36) (lv' := [(3, .inl (0 : Int32)), (0, .inr (.inr (32, 0))), (2, .inl a2)]) dX8_measures_35 rfl (Nat.le_of_ble_eq_true rfl) rfl ?_
    refine Vm.iconst (n := 37) (v := (0 : Int32)) dX8_measures_36 rfl (by decide) ?_
    refine Vm.istore (n := 39) (lv' := [(4, .inl (0 : Int32)), (3, .inl (0 : Int32)), (0, .inr (.inr (32, 0))), (2, .inl a2)]) dX8_measures_37 rfl (Nat.le_of_ble_eq_true rfl) rfl ?_
    refine Vm.sub (lv' := [(0, .inr (.inr (32, 0))), (3, .inl (0 : Int32)), (4, .inl (0 : Int32))]) [2, 1, 0] rfl ?_
    replace h := Option.map_eq_some_iff.mp h
    obtain ⟨w9, h, e8⟩ := h
    subst e8
    exact lX8_measures_39_L τ ((0 : Int32), (0 : Int32), σ) _ h hk
  · replace h := (if_neg c9).symm.trans h
    refine Vm.aload_n (n := 14) 0 dX8_measures_13 rfl rfl ?_
    refine Vm.getR (n := 17) dX8_measures_14 rfl wf_RX8_42 in_32 rfl (by decide) rfl ?_
    refine Vm.iload_n (n := 18) 2 dX8_measures_17 rfl rfl ?_
    refine Vm.iload_n (n := 19) 1 dX8_measures_18 rfl rfl ?_
    refine Vm.iconst (n := 20) (v := (5 : Int32)) dX8_measures_19 rfl (by decide) ?_
    replace h := Option.bind_eq_some_iff.mp h
    obtain ⟨x1, h1, h⟩ := h
    refine Vm.irem (n := 21) dX8_measures_20 rfl h1 ?_
    refine Vm.iconst (n := 22) (v := (2 : Int32)) dX8_measures_21 rfl (by decide) ?_
    refine Vm.isub (n := 23) dX8_measures_22 rfl ?_
    replace h := Option.bind_eq_some_iff.mp h
    obtain ⟨σ2, h2, h⟩ := h
    refine Vm.iastm (n := 24) dX8_measures_23 rfl in_55 rfl rfl (by decide) h2 ?_
    refine Vm.iload_n (n := 25) 1 dX8_measures_24 rfl rfl ?_
    refine Vm.iconst (n := 26) (v := (5 : Int32)) dX8_measures_25 rfl (by decide) ?_
    replace h := Option.bind_eq_some_iff.mp h
    obtain ⟨x3, h3, h⟩ := h
    refine Vm.idiv (n := 27) dX8_measures_26 rfl h3 ?_
    refine Vm.istore_n (n := 28) (lv' := [(2, .inl x3), (0, .inr (.inr (32, 0))), (3, .inl a3)]) dX8_measures_27 rfl (Nat.le_of_ble_eq_true rfl) rfl ?_
    replace h := Option.bind_eq_some_iff.mp h
    obtain ⟨x4, e4, h⟩ := h
    replace e4 := Option.some.inj e4
    refine Vm.iinc (n := 31) (v := x4) (lv' := [(3, .inl x4), (2, .inl x3), (0, .inr (.inr (32, 0)))]) 2 dX8_measures_28 rfl rfl e4 (Nat.le_of_ble_eq_true rfl) rfl ?_
    refine Vm.goto 9 dX8_measures_31 rfl ?_
    refine Vm.sub (lv' := [(0, .inr (.inr (32, 0))), (2, .inl x3), (3, .inl x4)]) [2, 1, 0] rfl ?_
    obtain rfl := Option.some.inj h
    exact hk
theorem lX8_measures_9_L (τ : mm) {r : Option mv} {M' : mm × mm} (z : Int32 × Int32 × mm) (w9 : mm) (h : lp (fX8_measures_9_L) z = some w9) (hk : (fun q : mm => r = none ∧ M' = (τ, q)) w9) : Vm mX8_measures 1 9 [(0, .inr (.inr (32, 0))), (2, .inl z.1), (3, .inl z.2.1)] [] (τ, z.2.2) r M' :=
  lp_link (S := Int32 × Int32 × mm) (R := mm) (body := fX8_measures_9_L) (A := fun z : Int32 × Int32 × mm => Vm mX8_measures 1 9 [(0, .inr (.inr (32, 0))), (2, .inl z.1), (3, .inl z.2.1)] [] (τ, z.2.2) r M') (B := fun w : mm => (fun q : mm => r = none ∧ M' = (τ, q)) w) (fun z v hb hv => lX8_measures_9 z.1 z.2.1 z.2.2 τ hb hv) z w9 h hk
set_option maxRecDepth 20000 in
theorem lX8_measures_0 (a1 : Int32) (σ τ : mm) {r : Option mv} {M' : mm × mm} {v9 : mm} (h : fX8_measures_0 a1 σ = some v9) (hk : (fun q : mm => r = none ∧ M' = (τ, q)) v9) : Vm mX8_measures 1 0 [(0, .inr (.inr (32, 0))), (1, .inl a1)] [] (τ, σ) r M' := by
  unfold fX8_measures_0 at h
  refine Vm.iload_n (n := 1) 1 dX8_measures_0 rfl rfl ?_
  refine Vm.istore_n (n := 2) (lv' := [(2, .inl a1), (0, .inr (.inr (32, 0))), (1, .inl a1)]) dX8_measures_1 rfl (Nat.le_of_ble_eq_true rfl) rfl ?_
  refine Vm.aload_n (n := 3) 1 dX8_measures_2 rfl rfl ?_
  refine Vm.gM (n := 6) dX8_measures_3 rfl wf_RX8_13 in_32 rfl (by decide) rfl (by decide) ?_
  refine Vm.iconst (n := 7) (v := (1 : Int32)) dX8_measures_6 rfl (by decide) ?_
  refine Vm.isub (n := 8) dX8_measures_7 rfl ?_
  replace h := Option.bind_eq_some_iff.mp h
  obtain ⟨x1, e1, h⟩ := h
  replace e1 := Option.some.inj e1
  refine Vm.top e1 ?_
  refine Vm.istore_n (n := 9) (lv' := [(3, .inl x1), (2, .inl a1), (0, .inr (.inr (32, 0))), (1, .inl a1)]) dX8_measures_8 rfl (Nat.le_of_ble_eq_true rfl) rfl ?_
  refine Vm.sub (lv' := [(0, .inr (.inr (32, 0))), (2, .inl a1), (3, .inl x1)]) [2, 1, 0] rfl ?_
  exact lX8_measures_9_L τ (a1, x1, σ) _ h hk
theorem kX8_measures (a1 : Int32) (σ τ : mm) {q : mm} (h : fX8_measures a1 σ = some q) : Cx mX8_measures 1 [.inr (.inr (32, 0)), .inl a1] (τ, σ) (none) (τ, q) :=
  Cx.of (lv := [(0, .inr (.inr (32, 0))), (1, .inl a1)]) (by decide) (fun ad => Nat.le_of_ble_eq_true rfl) (fun ad => rfl) (lX8_measures_0 a1 σ τ h ⟨rfl, rfl⟩)
