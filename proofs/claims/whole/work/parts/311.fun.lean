-- ThinBodiesModel byteAt (I)I
def fX8_byteAt_0 (a1 : Int32) (σ : mm) : Option (Int32) :=
  if (σ.1 32 0 28) ≤ a1 then
  some ((-1 : Int32))
  else
  Option.bind (rdI σ 67 0 120 a1) fun x1 =>
  some (x1)
def fX8_byteAt (a1 : Int32) (σ : mm) : Option (Int32) := fX8_byteAt_0 a1 σ
set_option maxRecDepth 20000 in
theorem lX8_byteAt_0 (a1 : Int32) (σ σ0 τ : mm) (hσ : σ = σ0) {r : Option mv} {M' : mm × mm} {v9 : Int32} (h : fX8_byteAt_0 a1 σ = some v9) (hk : (fun q : Int32 => r = some (.inl q) ∧ M' = (τ, σ0)) v9) : Vm mX8_byteAt 0 0 [(0, .inr (.inr (32, 0))), (1, .inl a1)] [] (τ, σ) r M' := by
  unfold fX8_byteAt_0 at h
  refine Vm.iload_n (n := 1) 1 dX8_byteAt_0 rfl rfl ?_
  refine Vm.aload_n (n := 2) 0 dX8_byteAt_1 rfl rfl ?_
  refine Vm.gM (n := 5) dX8_byteAt_2 rfl wf_RX8_301 in_32 rfl (by decide) rfl (by decide) ?_
  refine Vm.icmp_ge (n := 8) 17 dX8_byteAt_5 rfl rfl (fun c9 => ?_) (fun c9 => ?_)
  · replace h := (if_pos c9).symm.trans h
    refine Vm.iconst (n := 18) (v := (-1 : Int32)) dX8_byteAt_17 rfl (by decide) ?_
    obtain rfl := Option.some.inj h
    exact Vm.iret dX8_byteAt_18 rfl hk.1 (by rw [hσ]; exact hk.2.symm)
  · replace h := (if_neg c9).symm.trans h
    refine Vm.aload_n (n := 9) 0 dX8_byteAt_8 rfl rfl ?_
    refine Vm.getR (n := 12) dX8_byteAt_9 rfl wf_RX8_64 in_32 rfl (by decide) rfl ?_
    refine Vm.iload_n (n := 13) 1 dX8_byteAt_12 rfl rfl ?_
    replace h := Option.bind_eq_some_iff.mp h
    obtain ⟨x1, h1, h⟩ := h
    refine Vm.ialdm (n := 14) dX8_byteAt_13 rfl in_67 rfl rfl (by decide) h1 ?_
    refine Vm.goto 18 dX8_byteAt_14 rfl ?_
    obtain rfl := Option.some.inj h
    exact Vm.iret dX8_byteAt_18 rfl hk.1 (by rw [hσ]; exact hk.2.symm)
theorem kX8_byteAt (a1 : Int32) (σ τ : mm) {q : Int32} (h : fX8_byteAt a1 σ = some q) : Cx mX8_byteAt 0 [.inr (.inr (32, 0)), .inl a1] (τ, σ) (some (.inl q)) (τ, σ) :=
  Cx.of (lv := [(0, .inr (.inr (32, 0))), (1, .inl a1)]) (by decide) (fun ad => Nat.le_of_ble_eq_true rfl) (fun ad => rfl) (lX8_byteAt_0 a1 σ σ τ rfl h ⟨rfl, rfl⟩)
-- ThinBodiesModel isWordFrom (I)Z
noncomputable def fX8_isWordFrom_79 (a1 : Int32) (a3 : Int32) (s0 : Int32) (σ : mm) : Option ((Int32 × Int32) ⊕ (Bool)) :=
  Option.bind (some (a3 + (1 : Int32))) fun x1 =>
  some (.inl (s0, x1))
noncomputable def fX8_isWordFrom_71 (a1 : Int32) (a3 : Int32) (s0 : Int32) (s1 : Int32) (σ : mm) : Option ((Int32 × Int32) ⊕ (Bool)) :=
  if s0 = s1 then
  fX8_isWordFrom_79 a1 a3 (1 : Int32) σ
  else
  fX8_isWordFrom_79 a1 a3 (0 : Int32) σ
noncomputable def fX8_isWordFrom_22 (a1 : Int32) (a2 : Int32) (a3 : Int32) (σ : mm) : Option ((Int32 × Int32) ⊕ (Bool)) :=
  if (8 : Int32) ≤ a3 then
  Option.bind (zr a2) fun b1 =>
  some (.inr (b1))
  else
  if a2 = (0 : Int32) then
  Option.bind (zr a2) fun b2 =>
  some (.inr (b2))
  else
  Option.bind (rdI σ 74 0 80 (((8 : Int32) * a1) + a3)) fun x3 =>
  if (σ.1 32 0 29) ≤ ((σ.1 32 0 30) + a3) then
  fX8_isWordFrom_71 a1 a3 x3 (32 : Int32) σ
  else
  Option.bind (fX8_byteAt ((σ.1 32 0 30) + a3) σ) fun q4 =>
  fX8_isWordFrom_71 a1 a3 x3 q4 σ
noncomputable def fX8_isWordFrom_22_L (a1 : Int32) (σ : mm) : Int32 × Int32 → Option ((Int32 × Int32) ⊕ (Bool)) := fun z => fX8_isWordFrom_22 a1 z.1 z.2 σ
noncomputable def fX8_isWordFrom_19 (a1 : Int32) (s0 : Int32) (σ : mm) : Option (Bool) :=
  lp (fX8_isWordFrom_22_L a1 σ) (s0, (0 : Int32))
noncomputable def fX8_isWordFrom_0 (a1 : Int32) (σ : mm) : Option (Bool) :=
  if (8 : Int32) < ((σ.1 32 0 29) - (σ.1 32 0 30)) then
  fX8_isWordFrom_19 a1 (0 : Int32) σ
  else
  fX8_isWordFrom_19 a1 (1 : Int32) σ
noncomputable def fX8_isWordFrom (a1 : Int32) (σ : mm) : Option (Bool) := fX8_isWordFrom_0 a1 σ
set_option maxRecDepth 20000 in
theorem lX8_isWordFrom_79 (a1 : Int32) (a3 : Int32) (s0 : Int32) (σ σ0 τ : mm) (hσ : σ = σ0) {r : Option mv} {M' : mm × mm} {v9 : (Int32 × Int32) ⊕ (Bool)} (h : fX8_isWordFrom_79 a1 a3 s0 σ = some v9) (hk : (Sum.elim (fun z : Int32 × Int32 => Vm mX8_isWordFrom 1 22 [(0, .inr (.inr (32, 0))), (1, .inl a1), (2, .inl z.1), (3, .inl z.2)] [] (τ, σ) r M') (fun q : Bool => r = some (.inl (bi q)) ∧ M' = (τ, σ0))) v9) : Vm mX8_isWordFrom 1 79 [(0, .inr (.inr (32, 0))), (1, .inl a1), (3, .inl a3)] [.inl s0] (τ, σ) r M' := by
  unfold fX8_isWordFrom_79 at h
  refine Vm.istore_n (n := 80) (lv' := [(2, .inl s0), (0, .inr (.inr (32, 0))), (1, .inl a1), (3, .inl a3)]) dX8_isWordFrom_79 rfl (Nat.le_of_ble_eq_true rfl) rfl ?_
  replace h := Option.bind_eq_some_iff.mp h
  obtain ⟨x1, e1, h⟩ := h
  replace e1 := Option.some.inj e1
  refine Vm.iinc (n := 83) (v := x1) (lv' := [(3, .inl x1), (2, .inl s0), (0, .inr (.inr (32, 0))), (1, .inl a1)]) 3 dX8_isWordFrom_80 rfl rfl e1 (Nat.le_of_ble_eq_true rfl) rfl ?_
  refine Vm.goto 22 dX8_isWordFrom_83 rfl ?_
  refine Vm.sub (lv' := [(0, .inr (.inr (32, 0))), (1, .inl a1), (2, .inl s0), (3, .inl x1)]) [2, 3, 1, 0] rfl ?_
  obtain rfl := Option.some.inj h
  exact hk
set_option maxRecDepth 20000 in
theorem lX8_isWordFrom_71 (a1 : Int32) (a3 : Int32) (s0 : Int32) (s1 : Int32) (σ σ0 τ : mm) (hσ : σ = σ0) {r : Option mv} {M' : mm × mm} {v9 : (Int32 × Int32) ⊕ (Bool)} (h : fX8_isWordFrom_71 a1 a3 s0 s1 σ = some v9) (hk : (Sum.elim (fun z : Int32 × Int32 => Vm mX8_isWordFrom 1 22 [(0, .inr (.inr (32, 0))), (1, .inl a1), (2, .inl z.1), (3, .inl z.2)] [] (τ, σ) r M') (fun q : Bool => r = some (.inl (bi q)) ∧ M' = (τ, σ0))) v9) : Vm mX8_isWordFrom 1 71 [(0, .inr (.inr (32, 0))), (1, .inl a1), (3, .inl a3)] [.inl s1, .inl s0] (τ, σ) r M' := by
  unfold fX8_isWordFrom_71 at h
  refine Vm.icmp_ne (n := 74) 78 dX8_isWordFrom_71 rfl rfl (fun c9 => ?_) (fun c9 => ?_)
  · replace h := (if_neg c9).symm.trans h
    refine Vm.iconst (n := 79) (v := (0 : Int32)) dX8_isWordFrom_78 rfl (by decide) ?_
    exact lX8_isWordFrom_79 a1 a3 (0 : Int32) σ σ0 τ hσ h hk
  · replace h := (if_pos c9).symm.trans h
    refine Vm.iconst (n := 75) (v := (1 : Int32)) dX8_isWordFrom_74 rfl (by decide) ?_
    refine Vm.goto 79 dX8_isWordFrom_75 rfl ?_
    exact lX8_isWordFrom_79 a1 a3 (1 : Int32) σ σ0 τ hσ h hk
set_option maxRecDepth 20000 in
theorem lX8_isWordFrom_22 (a1 : Int32) (a2 : Int32) (a3 : Int32) (σ σ0 τ : mm) (hσ : σ = σ0) {r : Option mv} {M' : mm × mm} {v9 : (Int32 × Int32) ⊕ (Bool)} (h : fX8_isWordFrom_22 a1 a2 a3 σ = some v9) (hk : (Sum.elim (fun z : Int32 × Int32 => Vm mX8_isWordFrom 1 22 [(0, .inr (.inr (32, 0))), (1, .inl a1), (2, .inl z.1), (3, .inl z.2)] [] (τ, σ) r M') (fun q : Bool => r = some (.inl (bi q)) ∧ M' = (τ, σ0))) v9) : Vm mX8_isWordFrom 1 22 [(0, .inr (.inr (32, 0))), (1, .inl a1), (2, .inl a2), (3, .inl a3)] [] (τ, σ) r M' := by
  unfold fX8_isWordFrom_22 at h
  refine Vm.iload_n (n := 23) 3 dX8_isWordFrom_22 rfl rfl ?_
  refine Vm.bipush (n := 25) (v := (8 : Int32)) dX8_isWordFrom_23 rfl (by decide) ?_
  refine Vm.icmp_ge (n := 28) 86 dX8_isWordFrom_25 rfl rfl (fun c9 => ?_) (fun c9 => ?_)
  · replace h := (if_pos c9).symm.trans h
    refine Vm.iload_n (n := 87) 2 dX8_isWordFrom_86 rfl rfl ?_
    replace h := Option.bind_eq_some_iff.mp h
    obtain ⟨b1, h1, h⟩ := h
    obtain rfl := Option.some.inj h
    exact Vm.zret (b := b1) dX8_isWordFrom_87 rfl (zr_bi h1) hk.1 (by rw [hσ]; exact hk.2.symm)
  · replace h := (if_neg c9).symm.trans h
    refine Vm.iload_n (n := 29) 2 dX8_isWordFrom_28 rfl rfl ?_
    refine Vm.if_eq (n := 32) 86 dX8_isWordFrom_29 rfl rfl (fun c9 => ?_) (fun c9 => ?_)
    · replace h := (if_pos c9).symm.trans h
      refine Vm.iload_n (n := 87) 2 dX8_isWordFrom_86 rfl rfl ?_
      replace h := Option.bind_eq_some_iff.mp h
      obtain ⟨b2, h2, h⟩ := h
      obtain rfl := Option.some.inj h
      exact Vm.zret (b := b2) dX8_isWordFrom_87 rfl (zr_bi h2) hk.1 (by rw [hσ]; exact hk.2.symm)
    · replace h := (if_neg c9).symm.trans h
      refine Vm.aload_n (n := 33) 0 dX8_isWordFrom_32 rfl rfl ?_
      refine Vm.getR (n := 36) dX8_isWordFrom_33 rfl wf_RX8_67 in_32 rfl (by decide) rfl ?_
      refine Vm.bipush (n := 38) (v := (8 : Int32)) dX8_isWordFrom_36 rfl (by decide) ?_
      refine Vm.iload_n (n := 39) 1 dX8_isWordFrom_38 rfl rfl ?_
      refine Vm.imul (n := 40) dX8_isWordFrom_39 rfl ?_
      refine Vm.iload_n (n := 41) 3 dX8_isWordFrom_40 rfl rfl ?_
      refine Vm.iadd (n := 42) dX8_isWordFrom_41 rfl ?_
      replace h := Option.bind_eq_some_iff.mp h
      obtain ⟨x3, h3, h⟩ := h
      refine Vm.caldm (n := 43) dX8_isWordFrom_42 rfl in_74 rfl rfl (by decide) h3 ?_
      refine Vm.aload_n (n := 44) 0 dX8_isWordFrom_43 rfl rfl ?_
      refine Vm.gM (n := 47) dX8_isWordFrom_44 rfl wf_RX8_307 in_32 rfl (by decide) rfl (by decide) ?_
      refine Vm.iload_n (n := 48) 3 dX8_isWordFrom_47 rfl rfl ?_
      refine Vm.iadd (n := 49) dX8_isWordFrom_48 rfl ?_
      refine Vm.aload_n (n := 50) 0 dX8_isWordFrom_49 rfl rfl ?_
      refine Vm.gM (n := 53) dX8_isWordFrom_50 rfl wf_RX8_304 in_32 rfl (by decide) rfl (by decide) ?_
      refine Vm.icmp_ge (n := 56) 69 dX8_isWordFrom_53 rfl rfl (fun c9 => ?_) (fun c9 => ?_)
      · replace h := (if_pos c9).symm.trans h
        refine Vm.bipush (n := 71) (v := (32 : Int32)) dX8_isWordFrom_69 rfl (by decide) ?_
        refine Vm.sub (lv' := [(0, .inr (.inr (32, 0))), (1, .inl a1), (3, .inl a3)]) [0, 1, 3] rfl ?_
        exact lX8_isWordFrom_71 a1 a3 x3 (32 : Int32) σ σ0 τ hσ h hk
      · replace h := (if_neg c9).symm.trans h
        refine Vm.aload_n (n := 57) 0 dX8_isWordFrom_56 rfl rfl ?_
        refine Vm.aload_n (n := 58) 0 dX8_isWordFrom_57 rfl rfl ?_
        refine Vm.gM (n := 61) dX8_isWordFrom_58 rfl wf_RX8_307 in_32 rfl (by decide) rfl (by decide) ?_
        refine Vm.iload_n (n := 62) 3 dX8_isWordFrom_61 rfl rfl ?_
        refine Vm.iadd (n := 63) dX8_isWordFrom_62 rfl ?_
        replace h := Option.bind_eq_some_iff.mp h
        obtain ⟨q4, h4, h⟩ := h
        refine Vm.callV (Y := mX8_byteAt) (n := 66) [.inl ((σ.1 32 0 30) + a3)] dX8_isWordFrom_63 rfl wv_RX8_310 omX8_byteAt rfl in_32 rfl rfl rfl (Nat.le_of_ble_eq_true rfl) (by decide) (kX8_byteAt ((σ.1 32 0 30) + a3) σ τ h4) ?_
        refine Vm.goto 71 dX8_isWordFrom_66 rfl ?_
        refine Vm.sub (lv' := [(0, .inr (.inr (32, 0))), (1, .inl a1), (3, .inl a3)]) [0, 1, 3] rfl ?_
        exact lX8_isWordFrom_71 a1 a3 x3 q4 σ σ0 τ hσ h hk
theorem lX8_isWordFrom_22_L (a1 : Int32) (σ σ0 τ : mm) (hσ : σ = σ0) {r : Option mv} {M' : mm × mm} (z : Int32 × Int32) (w9 : Bool) (h : lp (fX8_isWordFrom_22_L a1 σ) z = some w9) (hk : (fun q : Bool => r = some (.inl (bi q)) ∧ M' = (τ, σ0)) w9) : Vm mX8_isWordFrom 1 22 [(0, .inr (.inr (32, 0))), (1, .inl a1), (2, .inl z.1), (3, .inl z.2)] [] (τ, σ) r M' :=
  lp_link (S := Int32 × Int32) (R := Bool) (body := fX8_isWordFrom_22_L a1 σ) (A := fun z : Int32 × Int32 => Vm mX8_isWordFrom 1 22 [(0, .inr (.inr (32, 0))), (1, .inl a1), (2, .inl z.1), (3, .inl z.2)] [] (τ, σ) r M') (B := fun w : Bool => (fun q : Bool => r = some (.inl (bi q)) ∧ M' = (τ, σ0)) w) (fun z v hb hv => lX8_isWordFrom_22 a1 z.1 z.2 σ σ0 τ hσ hb hv) z w9 h hk
set_option maxRecDepth 20000 in
theorem lX8_isWordFrom_19 (a1 : Int32) (s0 : Int32) (σ σ0 τ : mm) (hσ : σ = σ0) {r : Option mv} {M' : mm × mm} {v9 : Bool} (h : fX8_isWordFrom_19 a1 s0 σ = some v9) (hk : (fun q : Bool => r = some (.inl (bi q)) ∧ M' = (τ, σ0)) v9) : Vm mX8_isWordFrom 1 19 [(0, .inr (.inr (32, 0))), (1, .inl a1)] [.inl s0] (τ, σ) r M' := by
  unfold fX8_isWordFrom_19 at h
  refine Vm.istore_n (n := 20) (lv' := [(2, .inl s0), (0, .inr (.inr (32, 0))), (1, .inl a1)]) dX8_isWordFrom_19 rfl (Nat.le_of_ble_eq_true rfl) rfl ?_
  refine Vm.iconst (n := 21) (v := (0 : Int32)) dX8_isWordFrom_20 rfl (by decide) ?_
  refine Vm.istore_n (n := 22) (lv' := [(3, .inl (0 : Int32)), (2, .inl s0), (0, .inr (.inr (32, 0))), (1, .inl a1)]) dX8_isWordFrom_21 rfl (Nat.le_of_ble_eq_true rfl) rfl ?_
  refine Vm.sub (lv' := [(0, .inr (.inr (32, 0))), (1, .inl a1), (2, .inl s0), (3, .inl (0 : Int32))]) [2, 3, 1, 0] rfl ?_
  exact lX8_isWordFrom_22_L a1 σ σ0 τ hσ (s0, (0 : Int32)) _ h hk
set_option maxRecDepth 20000 in
theorem lX8_isWordFrom_0 (a1 : Int32) (σ σ0 τ : mm) (hσ : σ = σ0) {r : Option mv} {M' : mm × mm} {v9 : Bool} (h : fX8_isWordFrom_0 a1 σ = some v9) (hk : (fun q : Bool => r = some (.inl (bi q)) ∧ M' = (τ, σ0)) v9) : Vm mX8_isWordFrom 1 0 [(0, .inr (.inr (32, 0))), (1, .inl a1)] [] (τ, σ) r M' := by
  unfold fX8_isWordFrom_0 at h
  refine Vm.aload_n (n := 1) 0 dX8_isWordFrom_0 rfl rfl ?_
  refine Vm.gM (n := 4) dX8_isWordFrom_1 rfl wf_RX8_304 in_32 rfl (by decide) rfl (by decide) ?_
  refine Vm.aload_n (n := 5) 0 dX8_isWordFrom_4 rfl rfl ?_
  refine Vm.gM (n := 8) dX8_isWordFrom_5 rfl wf_RX8_307 in_32 rfl (by decide) rfl (by decide) ?_
  refine Vm.isub (n := 9) dX8_isWordFrom_8 rfl ?_
  refine Vm.bipush (n := 11) (v := (8 : Int32)) dX8_isWordFrom_9 rfl (by decide) ?_
  refine Vm.icmp_gt (n := 14) 18 dX8_isWordFrom_11 rfl rfl (fun c9 => ?_) (fun c9 => ?_)
  · replace h := (if_pos c9).symm.trans h
    refine Vm.iconst (n := 19) (v := (0 : Int32)) dX8_isWordFrom_18 rfl (by decide) ?_
    exact lX8_isWordFrom_19 a1 (0 : Int32) σ σ0 τ hσ h hk
  · replace h := (if_neg c9).symm.trans h
    refine Vm.iconst (n := 15) (v := (1 : Int32)) dX8_isWordFrom_14 rfl (by decide) ?_
    refine Vm.goto 19 dX8_isWordFrom_15 rfl ?_
    exact lX8_isWordFrom_19 a1 (1 : Int32) σ σ0 τ hσ h hk
theorem kX8_isWordFrom (a1 : Int32) (σ τ : mm) {q : Bool} (h : fX8_isWordFrom a1 σ = some q) : Cx mX8_isWordFrom 1 [.inr (.inr (32, 0)), .inl a1] (τ, σ) (some (.inl (bi q))) (τ, σ) :=
  Cx.of (lv := [(0, .inr (.inr (32, 0))), (1, .inl a1)]) (by decide) (fun ad => Nat.le_of_ble_eq_true rfl) (fun ad => rfl) (lX8_isWordFrom_0 a1 σ σ τ rfl h ⟨rfl, rfl⟩)
-- ThinBodiesModel next ()V
noncomputable def fX8_next_275 (s1 : Int32) (σ : mm) : Option (mm) :=
  Option.bind (some (stI σ 32 0 31 s1)) fun σ1 =>
  some (σ1)
noncomputable def fX8_next_242 (s1 : Int32) (σ : mm) : Option ((mm) ⊕ (mm)) :=
  Option.bind (some (stI σ 32 0 32 s1)) fun σ1 =>
  Option.bind (some ((σ1.1 32 0 29) + (1 : Int32))) fun x2 =>
  Option.bind (some (stI σ1 32 0 29 x2)) fun σ3 =>
  some (.inl (σ3))
noncomputable def fX8_next_184 (σ : mm) : Option ((mm) ⊕ (mm)) :=
  Option.bind (fX8_byteAt (σ.1 32 0 29) σ) fun q1 =>
  if (bi (fX8_in q1.toInt64 (48 : Int64) (57 : Int64))) = (0 : Int32) then
  if (σ.1 32 0 32) ≤ (999 : Int32) then
  Option.map Sum.inr (fX8_next_275 (1 : Int32) σ)
  else
  Option.map Sum.inr (fX8_next_275 (-2 : Int32) σ)
  else
  if (σ.1 32 0 32) ≤ (999 : Int32) then
  Option.bind (fX8_byteAt (σ.1 32 0 29) σ) fun q2 =>
  fX8_next_242 ((((10 : Int32) * (σ.1 32 0 32)) + q2) - (48 : Int32)) σ
  else
  fX8_next_242 (σ.1 32 0 32) σ
noncomputable def fX8_next_184_L : mm → Option ((mm) ⊕ (mm)) := fun z => fX8_next_184 z
noncomputable def fX8_next_153 (a2 : Int32) (s1 : Int32) (σ : mm) : Option ((Int32 × mm) ⊕ (mm)) :=
  Option.bind (some (stI σ 32 0 31 s1)) fun σ1 =>
  Option.bind (some (a2 + (1 : Int32))) fun x2 =>
  some (.inl (x2, σ1))
noncomputable def fX8_next_127 (a2 : Int32) (σ : mm) : Option ((Int32 × mm) ⊕ (mm)) :=
  if (10 : Int32) ≤ a2 then
  some (.inr (σ))
  else
  Option.bind (fX8_isWordFrom a2 σ) fun q1 =>
  if (bi q1) = (0 : Int32) then
  fX8_next_153 a2 (σ.1 32 0 31) σ
  else
  fX8_next_153 a2 ((10 : Int32) + a2) σ
noncomputable def fX8_next_127_L : Int32 × mm → Option ((Int32 × mm) ⊕ (mm)) := fun z => fX8_next_127 z.1 z.2
noncomputable def fX8_next_91 (σ : mm) : Option ((mm) ⊕ (mm)) :=
  Option.bind (fX8_byteAt (σ.1 32 0 29) σ) fun q1 =>
  if (bi (fX8_in q1.toInt64 (97 : Int64) (122 : Int64))) = (0 : Int32) then
  Option.map Sum.inr (lp (fX8_next_127_L) ((0 : Int32), σ))
  else
  Option.bind (some ((σ.1 32 0 29) + (1 : Int32))) fun x2 =>
  Option.bind (some (stI σ 32 0 29 x2)) fun σ3 =>
  some (.inl (σ3))
noncomputable def fX8_next_91_L : mm → Option ((mm) ⊕ (mm)) := fun z => fX8_next_91 z
noncomputable def fX8_next_74 (a1 : Int32) (s1 : Int32) (σ : mm) : Option (mm) :=
  Option.bind (some (stI σ 32 0 31 s1)) fun σ1 =>
  if (bi (fX8_in a1.toInt64 (97 : Int64) (122 : Int64))) = (0 : Int32) then
  if (bi (fX8_in a1.toInt64 (48 : Int64) (57 : Int64))) = (0 : Int32) then
  if a1 < (0 : Int32) then
  some (σ1)
  else
  Option.bind (some ((σ1.1 32 0 29) + (1 : Int32))) fun x2 =>
  Option.bind (some (stI σ1 32 0 29 x2)) fun σ3 =>
  some (σ3)
  else
  Option.bind (some (stI σ1 32 0 32 (0 : Int32))) fun σ4 =>
  lp (fX8_next_184_L) (σ4)
  else
  lp (fX8_next_91_L) (σ1)
noncomputable def fX8_next_0 (σ : mm) : Option ((mm) ⊕ (mm)) :=
  Option.bind (fX8_byteAt (σ.1 32 0 29) σ) fun q1 =>
  if q1 = (32 : Int32) then
  Option.bind (some ((σ.1 32 0 29) + (1 : Int32))) fun x5 =>
  Option.bind (some (stI σ 32 0 29 x5)) fun σ6 =>
  some (.inl (σ6))
  else
  Option.bind (some (σ.1 32 0 29)) fun x2 =>
  Option.bind (some (stI σ 32 0 30 x2)) fun σ3 =>
  Option.bind (fX8_byteAt (σ3.1 32 0 29) σ3) fun q4 =>
  if (0 : Int32) ≤ q4 then
  if q4 = (59 : Int32) then
  Option.map Sum.inr (fX8_next_74 q4 (0 : Int32) σ3)
  else
  if q4 = (45 : Int32) then
  Option.map Sum.inr (fX8_next_74 q4 (2 : Int32) σ3)
  else
  Option.map Sum.inr (fX8_next_74 q4 (-2 : Int32) σ3)
  else
  Option.map Sum.inr (fX8_next_74 q4 (-1 : Int32) σ3)
noncomputable def fX8_next_0_L : mm → Option ((mm) ⊕ (mm)) := fun z => fX8_next_0 z
noncomputable def fX8_next (σ : mm) : Option (mm) := lp (fX8_next_0_L ) (σ)
set_option maxRecDepth 20000 in
theorem lX8_next_275 (s1 : Int32) (σ τ : mm) {r : Option mv} {M' : mm × mm} {v9 : mm} (h : fX8_next_275 s1 σ = some v9) (hk : (fun q : mm => r = none ∧ M' = (τ, q)) v9) : Vm mX8_next 2 275 [] [.inl s1, .inr (.inr (32, 0))] (τ, σ) r M' := by
  unfold fX8_next_275 at h
  refine Vm.pM (n := 278) (ty := .int) dX8_next_275 rfl wf_RX8_313 in_32 rfl (by decide) rfl (by decide) rfl rfl rfl rfl ?_
  replace h := Option.bind_eq_some_iff.mp h
  obtain ⟨σ1, e1, h⟩ := h
  replace e1 := Option.some.inj e1
  refine Vm.mem (congrArg (fun z => (τ, z)) e1) ?_
  refine Vm.goto 295 dX8_next_278 rfl ?_
  obtain rfl := Option.some.inj h
  exact Vm.vret dX8_next_295 rfl hk.1 hk.2.symm
set_option maxRecDepth 20000 in
theorem lX8_next_242 (s1 : Int32) (σ τ : mm) {r : Option mv} {M' : mm × mm} {v9 : (mm) ⊕ (mm)} (h : fX8_next_242 s1 σ = some v9) (hk : (Sum.elim (fun z : mm => Vm mX8_next 2 184 [(0, .inr (.inr (32, 0)))] [] (τ, z) r M') (fun q : mm => r = none ∧ M' = (τ, q))) v9) : Vm mX8_next 2 242 [(0, .inr (.inr (32, 0)))] [.inl s1, .inr (.inr (32, 0))] (τ, σ) r M' := by
  unfold fX8_next_242 at h
  refine Vm.pM (n := 245) (ty := .int) dX8_next_242 rfl wf_RX8_327 in_32 rfl (by decide) rfl (by decide) rfl rfl rfl rfl ?_
  replace h := Option.bind_eq_some_iff.mp h
  obtain ⟨σ1, e1, h⟩ := h
  replace e1 := Option.some.inj e1
  refine Vm.mem (congrArg (fun z => (τ, z)) e1) ?_
  refine Vm.aload_n (n := 246) 0 dX8_next_245 rfl rfl ?_
  refine Vm.dup (n := 247) dX8_next_246 rfl rfl ?_
  refine Vm.gM (n := 250) dX8_next_247 rfl wf_RX8_304 in_32 rfl (by decide) rfl (by decide) ?_
  refine Vm.iconst (n := 251) (v := (1 : Int32)) dX8_next_250 rfl (by decide) ?_
  refine Vm.iadd (n := 252) dX8_next_251 rfl ?_
  replace h := Option.bind_eq_some_iff.mp h
  obtain ⟨x2, e2, h⟩ := h
  replace e2 := Option.some.inj e2
  refine Vm.top e2 ?_
  refine Vm.pM (n := 255) (ty := .int) dX8_next_252 rfl wf_RX8_304 in_32 rfl (by decide) rfl (by decide) rfl rfl rfl rfl ?_
  replace h := Option.bind_eq_some_iff.mp h
  obtain ⟨σ3, e3, h⟩ := h
  replace e3 := Option.some.inj e3
  refine Vm.mem (congrArg (fun z => (τ, z)) e3) ?_
  refine Vm.goto 184 dX8_next_255 rfl ?_
  obtain rfl := Option.some.inj h
  exact hk
set_option maxRecDepth 20000 in
theorem lX8_next_184 (σ τ : mm) {r : Option mv} {M' : mm × mm} {v9 : (mm) ⊕ (mm)} (h : fX8_next_184 σ = some v9) (hk : (Sum.elim (fun z : mm => Vm mX8_next 2 184 [(0, .inr (.inr (32, 0)))] [] (τ, z) r M') (fun q : mm => r = none ∧ M' = (τ, q))) v9) : Vm mX8_next 2 184 [(0, .inr (.inr (32, 0)))] [] (τ, σ) r M' := by
  unfold fX8_next_184 at h
  refine Vm.aload_n (n := 185) 0 dX8_next_184 rfl rfl ?_
  refine Vm.aload_n (n := 186) 0 dX8_next_185 rfl rfl ?_
  refine Vm.gM (n := 189) dX8_next_186 rfl wf_RX8_304 in_32 rfl (by decide) rfl (by decide) ?_
  replace h := Option.bind_eq_some_iff.mp h
  obtain ⟨q1, h1, h⟩ := h
  refine Vm.callV (Y := mX8_byteAt) (n := 192) [.inl (σ.1 32 0 29)] dX8_next_189 rfl wv_RX8_310 omX8_byteAt rfl in_32 rfl rfl rfl (Nat.le_of_ble_eq_true rfl) (by decide) (kX8_byteAt (σ.1 32 0 29) σ τ h1) ?_
  refine Vm.i2l (n := 193) dX8_next_192 rfl ?_
  refine Vm.ldc2 (n := 196) dX8_next_193 rfl wl_RX8_323 ?_
  refine Vm.ldc2 (n := 199) dX8_next_196 rfl wl_RX8_325 ?_
  refine Vm.callS (Y := mX8_in) (n := 202) [.inr (.inl q1.toInt64), .inr (.inl (48 : Int64)), .inr (.inl (57 : Int64))] dX8_next_199 rfl wv_RX8_93 omX8_in rfl rfl (Nat.le_of_ble_eq_true rfl) (by decide) (kX8_in q1.toInt64 (48 : Int64) (57 : Int64) rfl) ?_
  refine Vm.if_eq (n := 205) 258 dX8_next_202 rfl rfl (fun c9 => ?_) (fun c9 => ?_)
  · replace h := (if_pos c9).symm.trans h
    refine Vm.aload_n (n := 259) 0 dX8_next_258 rfl rfl ?_
    refine Vm.aload_n (n := 260) 0 dX8_next_259 rfl rfl ?_
    refine Vm.gM (n := 263) dX8_next_260 rfl wf_RX8_327 in_32 rfl (by decide) rfl (by decide) ?_
    refine Vm.sipush (n := 266) (v := (999 : Int32)) dX8_next_263 rfl (by decide) ?_
    refine Vm.icmp_le (n := 269) 274 dX8_next_266 rfl rfl (fun c9 => ?_) (fun c9 => ?_)
    · replace h := (if_pos c9).symm.trans h
      refine Vm.iconst (n := 275) (v := (1 : Int32)) dX8_next_274 rfl (by decide) ?_
      refine Vm.sub (lv' := []) [] rfl ?_
      replace h := Option.map_eq_some_iff.mp h
      obtain ⟨w9, h, e8⟩ := h
      subst e8
      exact lX8_next_275 (1 : Int32) σ τ h hk
    · replace h := (if_neg c9).symm.trans h
      refine Vm.bipush (n := 271) (v := (-2 : Int32)) dX8_next_269 rfl (by decide) ?_
      refine Vm.goto 275 dX8_next_271 rfl ?_
      refine Vm.sub (lv' := []) [] rfl ?_
      replace h := Option.map_eq_some_iff.mp h
      obtain ⟨w9, h, e8⟩ := h
      subst e8
      exact lX8_next_275 (-2 : Int32) σ τ h hk
  · replace h := (if_neg c9).symm.trans h
    refine Vm.aload_n (n := 206) 0 dX8_next_205 rfl rfl ?_
    refine Vm.aload_n (n := 207) 0 dX8_next_206 rfl rfl ?_
    refine Vm.gM (n := 210) dX8_next_207 rfl wf_RX8_327 in_32 rfl (by decide) rfl (by decide) ?_
    refine Vm.sipush (n := 213) (v := (999 : Int32)) dX8_next_210 rfl (by decide) ?_
    refine Vm.icmp_le (n := 216) 223 dX8_next_213 rfl rfl (fun c9 => ?_) (fun c9 => ?_)
    · replace h := (if_pos c9).symm.trans h
      refine Vm.bipush (n := 225) (v := (10 : Int32)) dX8_next_223 rfl (by decide) ?_
      refine Vm.aload_n (n := 226) 0 dX8_next_225 rfl rfl ?_
      refine Vm.gM (n := 229) dX8_next_226 rfl wf_RX8_327 in_32 rfl (by decide) rfl (by decide) ?_
      refine Vm.imul (n := 230) dX8_next_229 rfl ?_
      refine Vm.aload_n (n := 231) 0 dX8_next_230 rfl rfl ?_
      refine Vm.aload_n (n := 232) 0 dX8_next_231 rfl rfl ?_
      refine Vm.gM (n := 235) dX8_next_232 rfl wf_RX8_304 in_32 rfl (by decide) rfl (by decide) ?_
      replace h := Option.bind_eq_some_iff.mp h
      obtain ⟨q2, h2, h⟩ := h
      refine Vm.callV (Y := mX8_byteAt) (n := 238) [.inl (σ.1 32 0 29)] dX8_next_235 rfl wv_RX8_310 omX8_byteAt rfl in_32 rfl rfl rfl (Nat.le_of_ble_eq_true rfl) (by decide) (kX8_byteAt (σ.1 32 0 29) σ τ h2) ?_
      refine Vm.iadd (n := 239) dX8_next_238 rfl ?_
      refine Vm.bipush (n := 241) (v := (48 : Int32)) dX8_next_239 rfl (by decide) ?_
      refine Vm.isub (n := 242) dX8_next_241 rfl ?_
      exact lX8_next_242 ((((10 : Int32) * (σ.1 32 0 32)) + q2) - (48 : Int32)) σ τ h hk
    · replace h := (if_neg c9).symm.trans h
      refine Vm.aload_n (n := 217) 0 dX8_next_216 rfl rfl ?_
      refine Vm.gM (n := 220) dX8_next_217 rfl wf_RX8_327 in_32 rfl (by decide) rfl (by decide) ?_
      refine Vm.goto 242 dX8_next_220 rfl ?_
      exact lX8_next_242 (σ.1 32 0 32) σ τ h hk
theorem lX8_next_184_L (τ : mm) {r : Option mv} {M' : mm × mm} (z : mm) (w9 : mm) (h : lp (fX8_next_184_L) z = some w9) (hk : (fun q : mm => r = none ∧ M' = (τ, q)) w9) : Vm mX8_next 2 184 [(0, .inr (.inr (32, 0)))] [] (τ, z) r M' :=
  lp_link (S := mm) (R := mm) (body := fX8_next_184_L) (A := fun z : mm => Vm mX8_next 2 184 [(0, .inr (.inr (32, 0)))] [] (τ, z) r M') (B := fun w : mm => (fun q : mm => r = none ∧ M' = (τ, q)) w) (fun z v hb hv => lX8_next_184 z τ hb hv) z w9 h hk
set_option maxRecDepth 20000 in
theorem lX8_next_153 (a2 : Int32) (s1 : Int32) (σ τ : mm) {r : Option mv} {M' : mm × mm} {v9 : (Int32 × mm) ⊕ (mm)} (h : fX8_next_153 a2 s1 σ = some v9) (hk : (Sum.elim (fun z : Int32 × mm => Vm mX8_next 2 127 [(0, .inr (.inr (32, 0))), (2, .inl z.1)] [] (τ, z.2) r M') (fun q : mm => r = none ∧ M' = (τ, q))) v9) : Vm mX8_next 2 153 [(0, .inr (.inr (32, 0))), (2, .inl a2)] [.inl s1, .inr (.inr (32, 0))] (τ, σ) r M' := by
  unfold fX8_next_153 at h
  refine Vm.pM (n := 156) (ty := .int) dX8_next_153 rfl wf_RX8_313 in_32 rfl (by decide) rfl (by decide) rfl rfl rfl rfl ?_
  replace h := Option.bind_eq_some_iff.mp h
  obtain ⟨σ1, e1, h⟩ := h
  replace e1 := Option.some.inj e1
  refine Vm.mem (congrArg (fun z => (τ, z)) e1) ?_
  replace h := Option.bind_eq_some_iff.mp h
  obtain ⟨x2, e2, h⟩ := h
  replace e2 := Option.some.inj e2
  refine Vm.iinc (n := 159) (v := x2) (lv' := [(2, .inl x2), (0, .inr (.inr (32, 0)))]) 1 dX8_next_156 rfl rfl e2 (Nat.le_of_ble_eq_true rfl) rfl ?_
  refine Vm.goto 127 dX8_next_159 rfl ?_
  refine Vm.sub (lv' := [(0, .inr (.inr (32, 0))), (2, .inl x2)]) [1, 0] rfl ?_
  obtain rfl := Option.some.inj h
  exact hk
set_option maxRecDepth 20000 in
theorem lX8_next_127 (a2 : Int32) (σ τ : mm) {r : Option mv} {M' : mm × mm} {v9 : (Int32 × mm) ⊕ (mm)} (h : fX8_next_127 a2 σ = some v9) (hk : (Sum.elim (fun z : Int32 × mm => Vm mX8_next 2 127 [(0, .inr (.inr (32, 0))), (2, .inl z.1)] [] (τ, z.2) r M') (fun q : mm => r = none ∧ M' = (τ, q))) v9) : Vm mX8_next 2 127 [(0, .inr (.inr (32, 0))), (2, .inl a2)] [] (τ, σ) r M' := by
  unfold fX8_next_127 at h
  refine Vm.iload_n (n := 128) 1 dX8_next_127 rfl rfl ?_
  refine Vm.bipush (n := 130) (v := (10 : Int32)) dX8_next_128 rfl (by decide) ?_
  refine Vm.icmp_ge (n := 133) 162 dX8_next_130 rfl rfl (fun c9 => ?_) (fun c9 => ?_)
  · replace h := (if_pos c9).symm.trans h
    refine Vm.goto 295 dX8_next_162 rfl ?_
    obtain rfl := Option.some.inj h
    exact Vm.vret dX8_next_295 rfl hk.1 hk.2.symm
  · replace h := (if_neg c9).symm.trans h
    refine Vm.aload_n (n := 134) 0 dX8_next_133 rfl rfl ?_
    refine Vm.aload_n (n := 135) 0 dX8_next_134 rfl rfl ?_
    refine Vm.iload_n (n := 136) 1 dX8_next_135 rfl rfl ?_
    replace h := Option.bind_eq_some_iff.mp h
    obtain ⟨q1, h1, h⟩ := h
    refine Vm.callV (Y := mX8_isWordFrom) (n := 139) [.inl a2] dX8_next_136 rfl wv_RX8_320 omX8_isWordFrom rfl in_32 rfl rfl rfl (Nat.le_of_ble_eq_true rfl) (by decide) (kX8_isWordFrom a2 σ τ h1) ?_
    refine Vm.if_eq (n := 142) 149 dX8_next_139 rfl rfl (fun c9 => ?_) (fun c9 => ?_)
    · replace h := (if_pos c9).symm.trans h
      refine Vm.aload_n (n := 150) 0 dX8_next_149 rfl rfl ?_
      refine Vm.gM (n := 153) dX8_next_150 rfl wf_RX8_313 in_32 rfl (by decide) rfl (by decide) ?_
      exact lX8_next_153 a2 (σ.1 32 0 31) σ τ h hk
    · replace h := (if_neg c9).symm.trans h
      refine Vm.bipush (n := 144) (v := (10 : Int32)) dX8_next_142 rfl (by decide) ?_
      refine Vm.iload_n (n := 145) 1 dX8_next_144 rfl rfl ?_
      refine Vm.iadd (n := 146) dX8_next_145 rfl ?_
      refine Vm.goto 153 dX8_next_146 rfl ?_
      exact lX8_next_153 a2 ((10 : Int32) + a2) σ τ h hk
theorem lX8_next_127_L (τ : mm) {r : Option mv} {M' : mm × mm} (z : Int32 × mm) (w9 : mm) (h : lp (fX8_next_127_L) z = some w9) (hk : (fun q : mm => r = none ∧ M' = (τ, q)) w9) : Vm mX8_next 2 127 [(0, .inr (.inr (32, 0))), (2, .inl z.1)] [] (τ, z.2) r M' :=
  lp_link (S := Int32 × mm) (R := mm) (body := fX8_next_127_L) (A := fun z : Int32 × mm => Vm mX8_next 2 127 [(0, .inr (.inr (32, 0))), (2, .inl z.1)] [] (τ, z.2) r M') (B := fun w : mm => (fun q : mm => r = none ∧ M' = (τ, q)) w) (fun z v hb hv => lX8_next_127 z.1 z.2 τ hb hv) z w9 h hk
set_option maxRecDepth 20000 in
theorem lX8_next_91 (σ τ : mm) {r : Option mv} {M' : mm × mm} {v9 : (mm) ⊕ (mm)} (h : fX8_next_91 σ = some v9) (hk : (Sum.elim (fun z : mm => Vm mX8_next 2 91 [(0, .inr (.inr (32, 0)))] [] (τ, z) r M') (fun q : mm => r = none ∧ M' = (τ, q))) v9) : Vm mX8_next 2 91 [(0, .inr (.inr (32, 0)))] [] (τ, σ) r M' := by
  unfold fX8_next_91 at h
  refine Vm.aload_n (n := 92) 0 dX8_next_91 rfl rfl ?_
  refine Vm.aload_n (n := 93) 0 dX8_next_92 rfl rfl ?_
  refine Vm.gM (n := 96) dX8_next_93 rfl wf_RX8_304 in_32 rfl (by decide) rfl (by decide) ?_
  replace h := Option.bind_eq_some_iff.mp h
  obtain ⟨q1, h1, h⟩ := h
  refine Vm.callV (Y := mX8_byteAt) (n := 99) [.inl (σ.1 32 0 29)] dX8_next_96 rfl wv_RX8_310 omX8_byteAt rfl in_32 rfl rfl rfl (Nat.le_of_ble_eq_true rfl) (by decide) (kX8_byteAt (σ.1 32 0 29) σ τ h1) ?_
  refine Vm.i2l (n := 100) dX8_next_99 rfl ?_
  refine Vm.ldc2 (n := 103) dX8_next_100 rfl wl_RX8_316 ?_
  refine Vm.ldc2 (n := 106) dX8_next_103 rfl wl_RX8_318 ?_
  refine Vm.callS (Y := mX8_in) (n := 109) [.inr (.inl q1.toInt64), .inr (.inl (97 : Int64)), .inr (.inl (122 : Int64))] dX8_next_106 rfl wv_RX8_93 omX8_in rfl rfl (Nat.le_of_ble_eq_true rfl) (by decide) (kX8_in q1.toInt64 (97 : Int64) (122 : Int64) rfl) ?_
  refine Vm.if_eq (n := 112) 125 dX8_next_109 rfl rfl (fun c9 => ?_) (fun c9 => ?_)
  · replace h := (if_pos c9).symm.trans h
    refine Vm.iconst (n := 126) (v := (0 : Int32)) dX8_next_125 rfl (by decide) ?_
    refine Vm.istore_n (n := 127) (lv' := [(2, .inl (0 : Int32)), (0, .inr (.inr (32, 0)))]) dX8_next_126 rfl (Nat.le_of_ble_eq_true rfl) rfl ?_
    refine Vm.sub (lv' := [(0, .inr (.inr (32, 0))), (2, .inl (0 : Int32))]) [1, 0] rfl ?_
    replace h := Option.map_eq_some_iff.mp h
    obtain ⟨w9, h, e8⟩ := h
    subst e8
    exact lX8_next_127_L τ ((0 : Int32), σ) _ h hk
  · replace h := (if_neg c9).symm.trans h
    refine Vm.aload_n (n := 113) 0 dX8_next_112 rfl rfl ?_
    refine Vm.dup (n := 114) dX8_next_113 rfl rfl ?_
    refine Vm.gM (n := 117) dX8_next_114 rfl wf_RX8_304 in_32 rfl (by decide) rfl (by decide) ?_
    refine Vm.iconst (n := 118) (v := (1 : Int32)) dX8_next_117 rfl (by decide) ?_
    refine Vm.iadd (n := 119) dX8_next_118 rfl ?_
    replace h := Option.bind_eq_some_iff.mp h
    obtain ⟨x2, e2, h⟩ := h
    replace e2 := Option.some.inj e2
    refine Vm.top e2 ?_
    refine Vm.pM (n := 122) (ty := .int) dX8_next_119 rfl wf_RX8_304 in_32 rfl (by decide) rfl (by decide) rfl rfl rfl rfl ?_
    replace h := Option.bind_eq_some_iff.mp h
    obtain ⟨σ3, e3, h⟩ := h
    replace e3 := Option.some.inj e3
    refine Vm.mem (congrArg (fun z => (τ, z)) e3) ?_
    refine Vm.goto 91 dX8_next_122 rfl ?_
    obtain rfl := Option.some.inj h
    exact hk
theorem lX8_next_91_L (τ : mm) {r : Option mv} {M' : mm × mm} (z : mm) (w9 : mm) (h : lp (fX8_next_91_L) z = some w9) (hk : (fun q : mm => r = none ∧ M' = (τ, q)) w9) : Vm mX8_next 2 91 [(0, .inr (.inr (32, 0)))] [] (τ, z) r M' :=
  lp_link (S := mm) (R := mm) (body := fX8_next_91_L) (A := fun z : mm => Vm mX8_next 2 91 [(0, .inr (.inr (32, 0)))] [] (τ, z) r M') (B := fun w : mm => (fun q : mm => r = none ∧ M' = (τ, q)) w) (fun z v hb hv => lX8_next_91 z τ hb hv) z w9 h hk
set_option maxRecDepth 20000 in
theorem lX8_next_74 (a1 : Int32) (s1 : Int32) (σ τ : mm) {r : Option mv} {M' : mm × mm} {v9 : mm} (h : fX8_next_74 a1 s1 σ = some v9) (hk : (fun q : mm => r = none ∧ M' = (τ, q)) v9) : Vm mX8_next 2 74 [(0, .inr (.inr (32, 0))), (1, .inl a1)] [.inl s1, .inr (.inr (32, 0))] (τ, σ) r M' := by
  unfold fX8_next_74 at h
  refine Vm.pM (n := 77) (ty := .int) dX8_next_74 rfl wf_RX8_313 in_32 rfl (by decide) rfl (by decide) rfl rfl rfl rfl ?_
  replace h := Option.bind_eq_some_iff.mp h
  obtain ⟨σ1, e1, h⟩ := h
  replace e1 := Option.some.inj e1
  refine Vm.mem (congrArg (fun z => (τ, z)) e1) ?_
  refine Vm.iload_n (n := 78) 1 dX8_next_77 rfl rfl ?_
  refine Vm.i2l (n := 79) dX8_next_78 rfl ?_
  refine Vm.ldc2 (n := 82) dX8_next_79 rfl wl_RX8_316 ?_
  refine Vm.ldc2 (n := 85) dX8_next_82 rfl wl_RX8_318 ?_
  refine Vm.callS (Y := mX8_in) (n := 88) [.inr (.inl a1.toInt64), .inr (.inl (97 : Int64)), .inr (.inl (122 : Int64))] dX8_next_85 rfl wv_RX8_93 omX8_in rfl rfl (Nat.le_of_ble_eq_true rfl) (by decide) (kX8_in a1.toInt64 (97 : Int64) (122 : Int64) rfl) ?_
  refine Vm.if_eq (n := 91) 165 dX8_next_88 rfl rfl (fun c9 => ?_) (fun c9 => ?_)
  · replace h := (if_pos c9).symm.trans h
    refine Vm.iload_n (n := 166) 1 dX8_next_165 rfl rfl ?_
    refine Vm.i2l (n := 167) dX8_next_166 rfl ?_
    refine Vm.ldc2 (n := 170) dX8_next_167 rfl wl_RX8_323 ?_
    refine Vm.ldc2 (n := 173) dX8_next_170 rfl wl_RX8_325 ?_
    refine Vm.callS (Y := mX8_in) (n := 176) [.inr (.inl a1.toInt64), .inr (.inl (48 : Int64)), .inr (.inl (57 : Int64))] dX8_next_173 rfl wv_RX8_93 omX8_in rfl rfl (Nat.le_of_ble_eq_true rfl) (by decide) (kX8_in a1.toInt64 (48 : Int64) (57 : Int64) rfl) ?_
    refine Vm.if_eq (n := 179) 281 dX8_next_176 rfl rfl (fun c9 => ?_) (fun c9 => ?_)
    · replace h := (if_pos c9).symm.trans h
      refine Vm.iload_n (n := 282) 1 dX8_next_281 rfl rfl ?_
      refine Vm.if_lt (n := 285) 295 dX8_next_282 rfl rfl (fun c9 => ?_) (fun c9 => ?_)
      · replace h := (if_pos c9).symm.trans h
        obtain rfl := Option.some.inj h
        exact Vm.vret dX8_next_295 rfl hk.1 hk.2.symm
      · replace h := (if_neg c9).symm.trans h
        refine Vm.aload_n (n := 286) 0 dX8_next_285 rfl rfl ?_
        refine Vm.dup (n := 287) dX8_next_286 rfl rfl ?_
        refine Vm.gM (n := 290) dX8_next_287 rfl wf_RX8_304 in_32 rfl (by decide) rfl (by decide) ?_
        refine Vm.iconst (n := 291) (v := (1 : Int32)) dX8_next_290 rfl (by decide) ?_
        refine Vm.iadd (n := 292) dX8_next_291 rfl ?_
        replace h := Option.bind_eq_some_iff.mp h
        obtain ⟨x2, e2, h⟩ := h
        replace e2 := Option.some.inj e2
        refine Vm.top e2 ?_
        refine Vm.pM (n := 295) (ty := .int) dX8_next_292 rfl wf_RX8_304 in_32 rfl (by decide) rfl (by decide) rfl rfl rfl rfl ?_
        replace h := Option.bind_eq_some_iff.mp h
        obtain ⟨σ3, e3, h⟩ := h
        replace e3 := Option.some.inj e3
        refine Vm.mem (congrArg (fun z => (τ, z)) e3) ?_
        obtain rfl := Option.some.inj h
        exact Vm.vret dX8_next_295 rfl hk.1 hk.2.symm
    · replace h := (if_neg c9).symm.trans h
      refine Vm.aload_n (n := 180) 0 dX8_next_179 rfl rfl ?_
      refine Vm.iconst (n := 181) (v := (0 : Int32)) dX8_next_180 rfl (by decide) ?_
      refine Vm.pM (n := 184) (ty := .int) dX8_next_181 rfl wf_RX8_327 in_32 rfl (by decide) rfl (by decide) rfl rfl rfl rfl ?_
      replace h := Option.bind_eq_some_iff.mp h
      obtain ⟨σ4, e4, h⟩ := h
      replace e4 := Option.some.inj e4
      refine Vm.mem (congrArg (fun z => (τ, z)) e4) ?_
      refine Vm.sub (lv' := [(0, .inr (.inr (32, 0)))]) [0] rfl ?_
      exact lX8_next_184_L τ (σ4) _ h hk
  · replace h := (if_neg c9).symm.trans h
    refine Vm.sub (lv' := [(0, .inr (.inr (32, 0)))]) [0] rfl ?_
    exact lX8_next_91_L τ (σ1) _ h hk
set_option maxRecDepth 20000 in
theorem lX8_next_0 (σ τ : mm) {r : Option mv} {M' : mm × mm} {v9 : (mm) ⊕ (mm)} (h : fX8_next_0 σ = some v9) (hk : (Sum.elim (fun z : mm => Vm mX8_next 2 0 [(0, .inr (.inr (32, 0)))] [] (τ, z) r M') (fun q : mm => r = none ∧ M' = (τ, q))) v9) : Vm mX8_next 2 0 [(0, .inr (.inr (32, 0)))] [] (τ, σ) r M' := by
  unfold fX8_next_0 at h
  refine Vm.aload_n (n := 1) 0 dX8_next_0 rfl rfl ?_
  refine Vm.aload_n (n := 2) 0 dX8_next_1 rfl rfl ?_
  refine Vm.gM (n := 5) dX8_next_2 rfl wf_RX8_304 in_32 rfl (by decide) rfl (by decide) ?_
  replace h := Option.bind_eq_some_iff.mp h
  obtain ⟨q1, h1, h⟩ := h
  refine Vm.callV (Y := mX8_byteAt) (n := 8) [.inl (σ.1 32 0 29)] dX8_next_5 rfl wv_RX8_310 omX8_byteAt rfl in_32 rfl rfl rfl (Nat.le_of_ble_eq_true rfl) (by decide) (kX8_byteAt (σ.1 32 0 29) σ τ h1) ?_
  refine Vm.bipush (n := 10) (v := (32 : Int32)) dX8_next_8 rfl (by decide) ?_
  refine Vm.icmp_ne (n := 13) 26 dX8_next_10 rfl rfl (fun c9 => ?_) (fun c9 => ?_)
  · replace h := (if_neg c9).symm.trans h
    refine Vm.aload_n (n := 27) 0 dX8_next_26 rfl rfl ?_
    refine Vm.aload_n (n := 28) 0 dX8_next_27 rfl rfl ?_
    refine Vm.gM (n := 31) dX8_next_28 rfl wf_RX8_304 in_32 rfl (by decide) rfl (by decide) ?_
    replace h := Option.bind_eq_some_iff.mp h
    obtain ⟨x2, e2, h⟩ := h
    replace e2 := Option.some.inj e2
    refine Vm.top e2 ?_
    refine Vm.pM (n := 34) (ty := .int) dX8_next_31 rfl wf_RX8_307 in_32 rfl (by decide) rfl (by decide) rfl rfl rfl rfl ?_
    replace h := Option.bind_eq_some_iff.mp h
    obtain ⟨σ3, e3, h⟩ := h
    replace e3 := Option.some.inj e3
    refine Vm.mem (congrArg (fun z => (τ, z)) e3) ?_
    refine Vm.aload_n (n := 35) 0 dX8_next_34 rfl rfl ?_
    refine Vm.aload_n (n := 36) 0 dX8_next_35 rfl rfl ?_
    refine Vm.gM (n := 39) dX8_next_36 rfl wf_RX8_304 in_32 rfl (by decide) rfl (by decide) ?_
    replace h := Option.bind_eq_some_iff.mp h
    obtain ⟨q4, h4, h⟩ := h
    refine Vm.callV (Y := mX8_byteAt) (n := 42) [.inl (σ3.1 32 0 29)] dX8_next_39 rfl wv_RX8_310 omX8_byteAt rfl in_32 rfl rfl rfl (Nat.le_of_ble_eq_true rfl) (by decide) (kX8_byteAt (σ3.1 32 0 29) σ3 τ h4) ?_
    refine Vm.istore_n (n := 43) (lv' := [(1, .inl q4), (0, .inr (.inr (32, 0)))]) dX8_next_42 rfl (Nat.le_of_ble_eq_true rfl) rfl ?_
    refine Vm.aload_n (n := 44) 1 dX8_next_43 rfl rfl ?_
    refine Vm.iload_n (n := 45) 0 dX8_next_44 rfl rfl ?_
    refine Vm.if_ge (n := 48) 52 dX8_next_45 rfl rfl (fun c9 => ?_) (fun c9 => ?_)
    · replace h := (if_pos c9).symm.trans h
      refine Vm.iload_n (n := 53) 0 dX8_next_52 rfl rfl ?_
      refine Vm.bipush (n := 55) (v := (59 : Int32)) dX8_next_53 rfl (by decide) ?_
      refine Vm.icmp_ne (n := 58) 62 dX8_next_55 rfl rfl (fun c9 => ?_) (fun c9 => ?_)
      · replace h := (if_neg c9).symm.trans h
        refine Vm.iload_n (n := 63) 0 dX8_next_62 rfl rfl ?_
        refine Vm.bipush (n := 65) (v := (45 : Int32)) dX8_next_63 rfl (by decide) ?_
        refine Vm.icmp_ne (n := 68) 72 dX8_next_65 rfl rfl (fun c9 => ?_) (fun c9 => ?_)
        · replace h := (if_neg c9).symm.trans h
          refine Vm.bipush (n := 74) (v := (-2 : Int32)) dX8_next_72 rfl (by decide) ?_
          refine Vm.sub (lv' := [(0, .inr (.inr (32, 0))), (1, .inl q4)]) [1, 0] rfl ?_
          replace h := Option.map_eq_some_iff.mp h
          obtain ⟨w9, h, e8⟩ := h
          subst e8
          exact lX8_next_74 q4 (-2 : Int32) σ3 τ h hk
        · replace h := (if_pos c9).symm.trans h
          refine Vm.iconst (n := 69) (v := (2 : Int32)) dX8_next_68 rfl (by decide) ?_
          refine Vm.goto 74 dX8_next_69 rfl ?_
          refine Vm.sub (lv' := [(0, .inr (.inr (32, 0))), (1, .inl q4)]) [1, 0] rfl ?_
          replace h := Option.map_eq_some_iff.mp h
          obtain ⟨w9, h, e8⟩ := h
          subst e8
          exact lX8_next_74 q4 (2 : Int32) σ3 τ h hk
      · replace h := (if_pos c9).symm.trans h
        refine Vm.iconst (n := 59) (v := (0 : Int32)) dX8_next_58 rfl (by decide) ?_
        refine Vm.goto 74 dX8_next_59 rfl ?_
        refine Vm.sub (lv' := [(0, .inr (.inr (32, 0))), (1, .inl q4)]) [1, 0] rfl ?_
        replace h := Option.map_eq_some_iff.mp h
        obtain ⟨w9, h, e8⟩ := h
        subst e8
        exact lX8_next_74 q4 (0 : Int32) σ3 τ h hk
    · replace h := (if_neg c9).symm.trans h
      refine Vm.iconst (n := 49) (v := (-1 : Int32)) dX8_next_48 rfl (by decide) ?_
      refine Vm.goto 74 dX8_next_49 rfl ?_
      refine Vm.sub (lv' := [(0, .inr (.inr (32, 0))), (1, .inl q4)]) [1, 0] rfl ?_
      replace h := Option.map_eq_some_iff.mp h
      obtain ⟨w9, h, e8⟩ := h
      subst e8
      exact lX8_next_74 q4 (-1 : Int32) σ3 τ h hk
  · replace h := (if_pos c9).symm.trans h
    refine Vm.aload_n (n := 14) 0 dX8_next_13 rfl rfl ?_
    refine Vm.dup (n := 15) dX8_next_14 rfl rfl ?_
    refine Vm.gM (n := 18) dX8_next_15 rfl wf_RX8_304 in_32 rfl (by decide) rfl (by decide) ?_
    refine Vm.iconst (n := 19) (v := (1 : Int32)) dX8_next_18 rfl (by decide) ?_
    refine Vm.iadd (n := 20) dX8_next_19 rfl ?_
    replace h := Option.bind_eq_some_iff.mp h
    obtain ⟨x5, e5, h⟩ := h
    replace e5 := Option.some.inj e5
    refine Vm.top e5 ?_
    refine Vm.pM (n := 23) (ty := .int) dX8_next_20 rfl wf_RX8_304 in_32 rfl (by decide) rfl (by decide) rfl rfl rfl rfl ?_
    replace h := Option.bind_eq_some_iff.mp h
    obtain ⟨σ6, e6, h⟩ := h
    replace e6 := Option.some.inj e6
    refine Vm.mem (congrArg (fun z => (τ, z)) e6) ?_
    refine Vm.goto 0 dX8_next_23 rfl ?_
    obtain rfl := Option.some.inj h
    exact hk
theorem lX8_next_0_L (τ : mm) {r : Option mv} {M' : mm × mm} (z : mm) (w9 : mm) (h : lp (fX8_next_0_L) z = some w9) (hk : (fun q : mm => r = none ∧ M' = (τ, q)) w9) : Vm mX8_next 2 0 [(0, .inr (.inr (32, 0)))] [] (τ, z) r M' :=
  lp_link (S := mm) (R := mm) (body := fX8_next_0_L) (A := fun z : mm => Vm mX8_next 2 0 [(0, .inr (.inr (32, 0)))] [] (τ, z) r M') (B := fun w : mm => (fun q : mm => r = none ∧ M' = (τ, q)) w) (fun z v hb hv => lX8_next_0 z τ hb hv) z w9 h hk
theorem kX8_next (σ τ : mm) {q : mm} (h : fX8_next σ = some q) : Cx mX8_next 2 [.inr (.inr (32, 0))] (τ, σ) (none) (τ, q) :=
  Cx.of (lv := [(0, .inr (.inr (32, 0)))]) (by decide) (fun ad => Nat.le_of_ble_eq_true rfl) (fun ad => rfl) (lX8_next_0_L τ (σ) _ h ⟨rfl, rfl⟩)
-- ThinBodiesModel seesNumber (III)Z
def fX8_seesNumber_0 (a1 : Int32) (a2 : Int32) (a3 : Int32) (σ : mm) : Bool × mm :=
  if ((stI σ 32 0 33 (a1 * (σ.1 32 0 32))).1 32 0 31) = (1 : Int32) then
  if (bi (fX8_in (((stI σ 32 0 33 (a1 * (σ.1 32 0 32))).1 32 0 33).toInt64) a2.toInt64 a3.toInt64)) = (0 : Int32) then
  (false, (stI σ 32 0 33 (a1 * (σ.1 32 0 32))))
  else
  (true, (stI σ 32 0 33 (a1 * (σ.1 32 0 32))))
  else
  (false, (stI σ 32 0 33 (a1 * (σ.1 32 0 32))))
def fX8_seesNumber (a1 : Int32) (a2 : Int32) (a3 : Int32) (σ : mm) : Bool × mm := fX8_seesNumber_0 a1 a2 a3 σ
set_option maxRecDepth 20000 in
theorem lX8_seesNumber_0 (a1 : Int32) (a2 : Int32) (a3 : Int32) (σ τ : mm) {r : Option mv} {M' : mm × mm} {v9 : Bool × mm} (h : fX8_seesNumber_0 a1 a2 a3 σ = v9) (hk : (fun q : Bool × mm => r = some (.inl (bi q.1)) ∧ M' = (τ, q.2)) v9) : Vm mX8_seesNumber 1 0 [(0, .inr (.inr (32, 0))), (1, .inl a1), (2, .inl a2), (3, .inl a3)] [] (τ, σ) r M' := by
  unfold fX8_seesNumber_0 at h
  refine Vm.aload_n (n := 1) 0 dX8_seesNumber_0 rfl rfl ?_
  refine Vm.iload_n (n := 2) 1 dX8_seesNumber_1 rfl rfl ?_
  refine Vm.aload_n (n := 3) 0 dX8_seesNumber_2 rfl rfl ?_
  refine Vm.gM (n := 6) dX8_seesNumber_3 rfl wf_RX8_327 in_32 rfl (by decide) rfl (by decide) ?_
  refine Vm.imul (n := 7) dX8_seesNumber_6 rfl ?_
  refine Vm.pM (n := 10) (ty := .int) dX8_seesNumber_7 rfl wf_RX8_330 in_32 rfl (by decide) rfl (by decide) rfl rfl rfl rfl ?_
  refine Vm.aload_n (n := 11) 0 dX8_seesNumber_10 rfl rfl ?_
  refine Vm.gM (n := 14) dX8_seesNumber_11 rfl wf_RX8_313 in_32 rfl (by decide) rfl (by decide) ?_
  refine Vm.iconst (n := 15) (v := (1 : Int32)) dX8_seesNumber_14 rfl (by decide) ?_
  refine Vm.icmp_ne (n := 18) 37 dX8_seesNumber_15 rfl rfl (fun c9 => ?_) (fun c9 => ?_)
  · replace h := (if_neg c9).symm.trans h
    refine Vm.iconst (n := 38) (v := (0 : Int32)) dX8_seesNumber_37 rfl (by decide) ?_
    subst h
    exact Vm.zret (b := false) dX8_seesNumber_38 rfl rfl hk.1 hk.2.symm
  · replace h := (if_pos c9).symm.trans h
    refine Vm.aload_n (n := 19) 0 dX8_seesNumber_18 rfl rfl ?_
    refine Vm.gM (n := 22) dX8_seesNumber_19 rfl wf_RX8_330 in_32 rfl (by decide) rfl (by decide) ?_
    refine Vm.i2l (n := 23) dX8_seesNumber_22 rfl ?_
    refine Vm.iload_n (n := 24) 2 dX8_seesNumber_23 rfl rfl ?_
    refine Vm.i2l (n := 25) dX8_seesNumber_24 rfl ?_
    refine Vm.iload_n (n := 26) 3 dX8_seesNumber_25 rfl rfl ?_
    refine Vm.i2l (n := 27) dX8_seesNumber_26 rfl ?_
    refine Vm.callS (Y := mX8_in) (n := 30) [.inr (.inl (((stI σ 32 0 33 (a1 * (σ.1 32 0 32))).1 32 0 33).toInt64)), .inr (.inl a2.toInt64), .inr (.inl a3.toInt64)] dX8_seesNumber_27 rfl wv_RX8_93 omX8_in rfl rfl (Nat.le_of_ble_eq_true rfl) (by decide) (kX8_in (((stI σ 32 0 33 (a1 * (σ.1 32 0 32))).1 32 0 33).toInt64) a2.toInt64 a3.toInt64 rfl) ?_
    refine Vm.if_eq (n := 33) 37 dX8_seesNumber_30 rfl rfl (fun c9 => ?_) (fun c9 => ?_)
    · replace h := (if_pos c9).symm.trans h
      refine Vm.iconst (n := 38) (v := (0 : Int32)) dX8_seesNumber_37 rfl (by decide) ?_
      subst h
      exact Vm.zret (b := false) dX8_seesNumber_38 rfl rfl hk.1 hk.2.symm
    · replace h := (if_neg c9).symm.trans h
      refine Vm.iconst (n := 34) (v := (1 : Int32)) dX8_seesNumber_33 rfl (by decide) ?_
      refine Vm.goto 38 dX8_seesNumber_34 rfl ?_
      subst h
      exact Vm.zret (b := true) dX8_seesNumber_38 rfl rfl hk.1 hk.2.symm
theorem kX8_seesNumber (a1 : Int32) (a2 : Int32) (a3 : Int32) (σ τ : mm) {q : Bool × mm} (h : fX8_seesNumber a1 a2 a3 σ = q) : Cx mX8_seesNumber 1 [.inr (.inr (32, 0)), .inl a1, .inl a2, .inl a3] (τ, σ) (some (.inl (bi q.1))) (τ, q.2) :=
  Cx.of (lv := [(0, .inr (.inr (32, 0))), (1, .inl a1), (2, .inl a2), (3, .inl a3)]) (by decide) (fun ad => Nat.le_of_ble_eq_true rfl) (fun ad => rfl) (lX8_seesNumber_0 a1 a2 a3 σ τ h ⟨rfl, rfl⟩)
-- ThinBodiesModel seesSigned (II)Z
noncomputable def fX8_seesSigned_16 (a1 : Int32) (a2 : Int32) (a3 : Int32) (σ : mm) : Option (Bool × mm) :=
  some (((fX8_seesNumber a3 a1 a2 σ).1, (fX8_seesNumber a3 a1 a2 σ).2))
noncomputable def fX8_seesSigned_0 (a1 : Int32) (a2 : Int32) (σ : mm) : Option (Bool × mm) :=
  if (σ.1 32 0 31) = (2 : Int32) then
  Option.bind (fX8_next σ) fun q1 =>
  fX8_seesSigned_16 a1 a2 (-1 : Int32) q1
  else
  fX8_seesSigned_16 a1 a2 (1 : Int32) σ
noncomputable def fX8_seesSigned (a1 : Int32) (a2 : Int32) (σ : mm) : Option (Bool × mm) := fX8_seesSigned_0 a1 a2 σ
set_option maxRecDepth 20000 in
theorem lX8_seesSigned_16 (a1 : Int32) (a2 : Int32) (a3 : Int32) (σ τ : mm) {r : Option mv} {M' : mm × mm} {v9 : Bool × mm} (h : fX8_seesSigned_16 a1 a2 a3 σ = some v9) (hk : (fun q : Bool × mm => r = some (.inl (bi q.1)) ∧ M' = (τ, q.2)) v9) : Vm mX8_seesSigned 3 16 [(0, .inr (.inr (32, 0))), (1, .inl a1), (2, .inl a2), (3, .inl a3)] [] (τ, σ) r M' := by
  unfold fX8_seesSigned_16 at h
  refine Vm.aload_n (n := 17) 0 dX8_seesSigned_16 rfl rfl ?_
  refine Vm.iload_n (n := 18) 3 dX8_seesSigned_17 rfl rfl ?_
  refine Vm.iload_n (n := 19) 1 dX8_seesSigned_18 rfl rfl ?_
  refine Vm.iload_n (n := 20) 2 dX8_seesSigned_19 rfl rfl ?_
  refine Vm.callV (Y := mX8_seesNumber) (n := 23) [.inl a3, .inl a1, .inl a2] dX8_seesSigned_20 rfl wv_RX8_333 omX8_seesNumber rfl in_32 rfl rfl rfl (Nat.le_of_ble_eq_true rfl) (by decide) (kX8_seesNumber a3 a1 a2 σ τ rfl) ?_
  obtain rfl := Option.some.inj h
  exact Vm.zret (b := (fX8_seesNumber a3 a1 a2 σ).1) dX8_seesSigned_23 rfl rfl hk.1 hk.2.symm
set_option maxRecDepth 20000 in
theorem lX8_seesSigned_0 (a1 : Int32) (a2 : Int32) (σ τ : mm) {r : Option mv} {M' : mm × mm} {v9 : Bool × mm} (h : fX8_seesSigned_0 a1 a2 σ = some v9) (hk : (fun q : Bool × mm => r = some (.inl (bi q.1)) ∧ M' = (τ, q.2)) v9) : Vm mX8_seesSigned 3 0 [(0, .inr (.inr (32, 0))), (1, .inl a1), (2, .inl a2)] [] (τ, σ) r M' := by
  unfold fX8_seesSigned_0 at h
  refine Vm.iconst (n := 1) (v := (1 : Int32)) dX8_seesSigned_0 rfl (by decide) ?_
  refine Vm.istore_n (n := 2) (lv' := [(3, .inl (1 : Int32)), (0, .inr (.inr (32, 0))), (1, .inl a1), (2, .inl a2)]) dX8_seesSigned_1 rfl (Nat.le_of_ble_eq_true rfl) rfl ?_
  refine Vm.aload_n (n := 3) 1 dX8_seesSigned_2 rfl rfl ?_
  refine Vm.gM (n := 6) dX8_seesSigned_3 rfl wf_RX8_313 in_32 rfl (by decide) rfl (by decide) ?_
  refine Vm.iconst (n := 7) (v := (2 : Int32)) dX8_seesSigned_6 rfl (by decide) ?_
  refine Vm.icmp_ne (n := 10) 16 dX8_seesSigned_7 rfl rfl (fun c9 => ?_) (fun c9 => ?_)
  · replace h := (if_neg c9).symm.trans h
    refine Vm.sub (lv' := [(0, .inr (.inr (32, 0))), (1, .inl a1), (2, .inl a2), (3, .inl (1 : Int32))]) [1, 2, 3, 0] rfl ?_
    exact lX8_seesSigned_16 a1 a2 (1 : Int32) σ τ h hk
  · replace h := (if_pos c9).symm.trans h
    refine Vm.iconst (n := 11) (v := (-1 : Int32)) dX8_seesSigned_10 rfl (by decide) ?_
    refine Vm.istore_n (n := 12) (lv' := [(3, .inl (-1 : Int32)), (0, .inr (.inr (32, 0))), (1, .inl a1), (2, .inl a2)]) dX8_seesSigned_11 rfl (Nat.le_of_ble_eq_true rfl) rfl ?_
    refine Vm.aload_n (n := 13) 1 dX8_seesSigned_12 rfl rfl ?_
    replace h := Option.bind_eq_some_iff.mp h
    obtain ⟨q1, h1, h⟩ := h
    refine Vm.callVv (Y := mX8_next) (n := 16) [] dX8_seesSigned_13 rfl wv_RX8_336 omX8_next rfl in_32 rfl rfl rfl (Nat.le_of_ble_eq_true rfl) (by decide) (kX8_next σ τ h1) ?_
    refine Vm.sub (lv' := [(0, .inr (.inr (32, 0))), (1, .inl a1), (2, .inl a2), (3, .inl (-1 : Int32))]) [1, 2, 3, 0] rfl ?_
    exact lX8_seesSigned_16 a1 a2 (-1 : Int32) q1 τ h hk
theorem kX8_seesSigned (a1 : Int32) (a2 : Int32) (σ τ : mm) {q : Bool × mm} (h : fX8_seesSigned a1 a2 σ = some q) : Cx mX8_seesSigned 3 [.inr (.inr (32, 0)), .inl a1, .inl a2] (τ, σ) (some (.inl (bi q.1))) (τ, q.2) :=
  Cx.of (lv := [(0, .inr (.inr (32, 0))), (1, .inl a1), (2, .inl a2)]) (by decide) (fun ad => Nat.le_of_ble_eq_true rfl) (fun ad => rfl) (lX8_seesSigned_0 a1 a2 σ τ h ⟨rfl, rfl⟩)
-- ThinBodiesModel takesSigned (II)Z
noncomputable def fX8_takesSigned_0 (a1 : Int32) (a2 : Int32) (σ : mm) : Option (Bool × mm) :=
  Option.bind (fX8_seesSigned a1 a2 σ) fun q1 =>
  if (bi q1.1) = (0 : Int32) then
  some ((false, q1.2))
  else
  Option.bind (fX8_next q1.2) fun q2 =>
  some ((true, q2))
noncomputable def fX8_takesSigned (a1 : Int32) (a2 : Int32) (σ : mm) : Option (Bool × mm) := fX8_takesSigned_0 a1 a2 σ
set_option maxRecDepth 20000 in
theorem lX8_takesSigned_0 (a1 : Int32) (a2 : Int32) (σ τ : mm) {r : Option mv} {M' : mm × mm} {v9 : Bool × mm} (h : fX8_takesSigned_0 a1 a2 σ = some v9) (hk : (fun q : Bool × mm => r = some (.inl (bi q.1)) ∧ M' = (τ, q.2)) v9) : Vm mX8_takesSigned 4 0 [(0, .inr (.inr (32, 0))), (1, .inl a1), (2, .inl a2)] [] (τ, σ) r M' := by
  unfold fX8_takesSigned_0 at h
  refine Vm.aload_n (n := 1) 0 dX8_takesSigned_0 rfl rfl ?_
  refine Vm.iload_n (n := 2) 1 dX8_takesSigned_1 rfl rfl ?_
  refine Vm.iload_n (n := 3) 2 dX8_takesSigned_2 rfl rfl ?_
  replace h := Option.bind_eq_some_iff.mp h
  obtain ⟨q1, h1, h⟩ := h
  refine Vm.callV (Y := mX8_seesSigned) (n := 6) [.inl a1, .inl a2] dX8_takesSigned_3 rfl wv_RX8_339 omX8_seesSigned rfl in_32 rfl rfl rfl (Nat.le_of_ble_eq_true rfl) (by decide) (kX8_seesSigned a1 a2 σ τ h1) ?_
  refine Vm.if_ne (n := 9) 11 dX8_takesSigned_6 rfl rfl (fun c9 => ?_) (fun c9 => ?_)
  · replace h := (if_neg c9).symm.trans h
    refine Vm.aload_n (n := 12) 0 dX8_takesSigned_11 rfl rfl ?_
    replace h := Option.bind_eq_some_iff.mp h
    obtain ⟨q2, h2, h⟩ := h
    refine Vm.callVv (Y := mX8_next) (n := 15) [] dX8_takesSigned_12 rfl wv_RX8_336 omX8_next rfl in_32 rfl rfl rfl (Nat.le_of_ble_eq_true rfl) (by decide) (kX8_next q1.2 τ h2) ?_
    refine Vm.iconst (n := 16) (v := (1 : Int32)) dX8_takesSigned_15 rfl (by decide) ?_
    obtain rfl := Option.some.inj h
    exact Vm.zret (b := true) dX8_takesSigned_16 rfl rfl hk.1 hk.2.symm
  · replace h := (if_pos c9).symm.trans h
    refine Vm.iconst (n := 10) (v := (0 : Int32)) dX8_takesSigned_9 rfl (by decide) ?_
    obtain rfl := Option.some.inj h
    exact Vm.zret (b := false) dX8_takesSigned_10 rfl rfl hk.1 hk.2.symm
theorem kX8_takesSigned (a1 : Int32) (a2 : Int32) (σ τ : mm) {q : Bool × mm} (h : fX8_takesSigned a1 a2 σ = some q) : Cx mX8_takesSigned 4 [.inr (.inr (32, 0)), .inl a1, .inl a2] (τ, σ) (some (.inl (bi q.1))) (τ, q.2) :=
  Cx.of (lv := [(0, .inr (.inr (32, 0))), (1, .inl a1), (2, .inl a2)]) (by decide) (fun ad => Nat.le_of_ble_eq_true rfl) (fun ad => rfl) (lX8_takesSigned_0 a1 a2 σ τ h ⟨rfl, rfl⟩)
-- ThinBodiesModel isWord (I)Z
def fX8_isWord_0 (a1 : Int32) (σ : mm) : Bool :=
  if (σ.1 32 0 31) = ((10 : Int32) + a1) then
  true
  else
  false
def fX8_isWord (a1 : Int32) (σ : mm) : Bool := fX8_isWord_0 a1 σ
set_option maxRecDepth 20000 in
theorem lX8_isWord_0 (a1 : Int32) (σ σ0 τ : mm) (hσ : σ = σ0) {r : Option mv} {M' : mm × mm} {v9 : Bool} (h : fX8_isWord_0 a1 σ = v9) (hk : (fun q : Bool => r = some (.inl (bi q)) ∧ M' = (τ, σ0)) v9) : Vm mX8_isWord 0 0 [(0, .inr (.inr (32, 0))), (1, .inl a1)] [] (τ, σ) r M' := by
  unfold fX8_isWord_0 at h
  refine Vm.aload_n (n := 1) 0 dX8_isWord_0 rfl rfl ?_
  refine Vm.gM (n := 4) dX8_isWord_1 rfl wf_RX8_313 in_32 rfl (by decide) rfl (by decide) ?_
  refine Vm.bipush (n := 6) (v := (10 : Int32)) dX8_isWord_4 rfl (by decide) ?_
  refine Vm.iload_n (n := 7) 1 dX8_isWord_6 rfl rfl ?_
  refine Vm.iadd (n := 8) dX8_isWord_7 rfl ?_
  refine Vm.icmp_ne (n := 11) 15 dX8_isWord_8 rfl rfl (fun c9 => ?_) (fun c9 => ?_)
  · replace h := (if_neg c9).symm.trans h
    refine Vm.iconst (n := 16) (v := (0 : Int32)) dX8_isWord_15 rfl (by decide) ?_
    subst h
    exact Vm.zret (b := false) dX8_isWord_16 rfl rfl hk.1 (by rw [hσ]; exact hk.2.symm)
  · replace h := (if_pos c9).symm.trans h
    refine Vm.iconst (n := 12) (v := (1 : Int32)) dX8_isWord_11 rfl (by decide) ?_
    refine Vm.goto 16 dX8_isWord_12 rfl ?_
    subst h
    exact Vm.zret (b := true) dX8_isWord_16 rfl rfl hk.1 (by rw [hσ]; exact hk.2.symm)
theorem kX8_isWord (a1 : Int32) (σ τ : mm) {q : Bool} (h : fX8_isWord a1 σ = q) : Cx mX8_isWord 0 [.inr (.inr (32, 0)), .inl a1] (τ, σ) (some (.inl (bi q))) (τ, σ) :=
  Cx.of (lv := [(0, .inr (.inr (32, 0))), (1, .inl a1)]) (by decide) (fun ad => Nat.le_of_ble_eq_true rfl) (fun ad => rfl) (lX8_isWord_0 a1 σ σ τ rfl h ⟨rfl, rfl⟩)
-- ThinBodiesModel takesNumber (II)Z
noncomputable def fX8_takesNumber_0 (a1 : Int32) (a2 : Int32) (σ : mm) : Option (Bool × mm) :=
  if (bi ((fX8_seesNumber (1 : Int32) a1 a2 σ).1)) = (0 : Int32) then
  some ((false, (fX8_seesNumber (1 : Int32) a1 a2 σ).2))
  else
  Option.bind (fX8_next ((fX8_seesNumber (1 : Int32) a1 a2 σ).2)) fun q1 =>
  some ((true, q1))
noncomputable def fX8_takesNumber (a1 : Int32) (a2 : Int32) (σ : mm) : Option (Bool × mm) := fX8_takesNumber_0 a1 a2 σ
set_option maxRecDepth 20000 in
theorem lX8_takesNumber_0 (a1 : Int32) (a2 : Int32) (σ τ : mm) {r : Option mv} {M' : mm × mm} {v9 : Bool × mm} (h : fX8_takesNumber_0 a1 a2 σ = some v9) (hk : (fun q : Bool × mm => r = some (.inl (bi q.1)) ∧ M' = (τ, q.2)) v9) : Vm mX8_takesNumber 3 0 [(0, .inr (.inr (32, 0))), (1, .inl a1), (2, .inl a2)] [] (τ, σ) r M' := by
  unfold fX8_takesNumber_0 at h
  refine Vm.aload_n (n := 1) 0 dX8_takesNumber_0 rfl rfl ?_
  refine Vm.iconst (n := 2) (v := (1 : Int32)) dX8_takesNumber_1 rfl (by decide) ?_
  refine Vm.iload_n (n := 3) 1 dX8_takesNumber_2 rfl rfl ?_
  refine Vm.iload_n (n := 4) 2 dX8_takesNumber_3 rfl rfl ?_
  refine Vm.callV (Y := mX8_seesNumber) (n := 7) [.inl (1 : Int32), .inl a1, .inl a2] dX8_takesNumber_4 rfl wv_RX8_333 omX8_seesNumber rfl in_32 rfl rfl rfl (Nat.le_of_ble_eq_true rfl) (by decide) (kX8_seesNumber (1 : Int32) a1 a2 σ τ rfl) ?_
  refine Vm.if_ne (n := 10) 12 dX8_takesNumber_7 rfl rfl (fun c9 => ?_) (fun c9 => ?_)
  · replace h := (if_neg c9).symm.trans h
    refine Vm.aload_n (n := 13) 0 dX8_takesNumber_12 rfl rfl ?_
    replace h := Option.bind_eq_some_iff.mp h
    obtain ⟨q1, h1, h⟩ := h
    refine Vm.callVv (Y := mX8_next) (n := 16) [] dX8_takesNumber_13 rfl wv_RX8_336 omX8_next rfl in_32 rfl rfl rfl (Nat.le_of_ble_eq_true rfl) (by decide) (kX8_next ((fX8_seesNumber (1 : Int32) a1 a2 σ).2) τ h1) ?_
    refine Vm.iconst (n := 17) (v := (1 : Int32)) dX8_takesNumber_16 rfl (by decide) ?_
    obtain rfl := Option.some.inj h
    exact Vm.zret (b := true) dX8_takesNumber_17 rfl rfl hk.1 hk.2.symm
  · replace h := (if_pos c9).symm.trans h
    refine Vm.iconst (n := 11) (v := (0 : Int32)) dX8_takesNumber_10 rfl (by decide) ?_
    obtain rfl := Option.some.inj h
    exact Vm.zret (b := false) dX8_takesNumber_11 rfl rfl hk.1 hk.2.symm
theorem kX8_takesNumber (a1 : Int32) (a2 : Int32) (σ τ : mm) {q : Bool × mm} (h : fX8_takesNumber a1 a2 σ = some q) : Cx mX8_takesNumber 3 [.inr (.inr (32, 0)), .inl a1, .inl a2] (τ, σ) (some (.inl (bi q.1))) (τ, q.2) :=
  Cx.of (lv := [(0, .inr (.inr (32, 0))), (1, .inl a1), (2, .inl a2)]) (by decide) (fun ad => Nat.le_of_ble_eq_true rfl) (fun ad => rfl) (lX8_takesNumber_0 a1 a2 σ τ h ⟨rfl, rfl⟩)
-- ThinBodiesModel readsRow (I)Z
noncomputable def fX8_readsRow_115 (a2 : Int32) (σ : mm) : Option (Bool × mm) :=
  if (bi (fX8_isWord (9 : Int32) σ)) = (0 : Int32) then
  some ((true, σ))
  else
  Option.bind (fX8_next σ) fun q1 =>
  Option.bind (fX8_takesNumber (1 : Int32) (99 : Int32) q1) fun q2 =>
  if (bi q2.1) = (0 : Int32) then
  some ((false, q2.2))
  else
  Option.bind (wrI q2.2 45 0 56 (a2 + (2 : Int32)) (q2.2.1 32 0 33)) fun σ3 =>
  some ((true, σ3))
noncomputable def fX8_readsRow_34 (a2 : Int32) (a3 : Int32) (σ : mm) : Option ((Int32 × mm) ⊕ (Bool × mm)) :=
  if (σ.1 32 0 1) ≤ a3 then
  if (bi (fX8_isWord (8 : Int32) σ)) = (0 : Int32) then
  Option.map Sum.inr (fX8_readsRow_115 a2 σ)
  else
  Option.bind (fX8_next σ) fun q1 =>
  Option.bind (fX8_takesSigned (-999 : Int32) (999 : Int32) q1) fun q2 =>
  if (bi q2.1) = (0 : Int32) then
  some (.inr ((false, q2.2)))
  else
  Option.bind (wrI q2.2 45 0 56 (a2 + (1 : Int32)) (q2.2.1 32 0 33)) fun σ3 =>
  Option.map Sum.inr (fX8_readsRow_115 a2 σ3)
  else
  Option.bind (fX8_takesSigned (-9 : Int32) (9 : Int32) σ) fun q4 =>
  if (bi q4.1) = (0 : Int32) then
  some (.inr ((false, q4.2)))
  else
  Option.bind (wrI q4.2 45 0 56 ((a2 + (3 : Int32)) + a3) (q4.2.1 32 0 33)) fun σ5 =>
  Option.bind (some (a3 + (1 : Int32))) fun x6 =>
  some (.inl (x6, σ5))
noncomputable def fX8_readsRow_34_L (a2 : Int32) : Int32 × mm → Option ((Int32 × mm) ⊕ (Bool × mm)) := fun z => fX8_readsRow_34 a2 z.1 z.2
noncomputable def fX8_readsRow_0 (a1 : Int32) (σ : mm) : Option (Bool × mm) :=
  if (σ.1 32 0 4) = (8 : Int32) then
  some ((false, σ))
  else
  Option.bind (fX8_next σ) fun q1 =>
  Option.bind (fX8_adds a1 (0 : Int32) (1 : Int32) q1) fun q2 =>
  Option.bind (some ((7 : Int32) * ((q2.1 32 0 4) - (1 : Int32)))) fun x3 =>
  lp (fX8_readsRow_34_L x3) ((0 : Int32), q2)
noncomputable def fX8_readsRow (a1 : Int32) (σ : mm) : Option (Bool × mm) := fX8_readsRow_0 a1 σ
set_option maxRecDepth 20000 in
theorem lX8_readsRow_115 (a2 : Int32) (σ τ : mm) {r : Option mv} {M' : mm × mm} {v9 : Bool × mm} (h : fX8_readsRow_115 a2 σ = some v9) (hk : (fun q : Bool × mm => r = some (.inl (bi q.1)) ∧ M' = (τ, q.2)) v9) : Vm mX8_readsRow 5 115 [(0, .inr (.inr (32, 0))), (2, .inl a2)] [] (τ, σ) r M' := by
  unfold fX8_readsRow_115 at h
  refine Vm.aload_n (n := 116) 0 dX8_readsRow_115 rfl rfl ?_
  refine Vm.bipush (n := 118) (v := (9 : Int32)) dX8_readsRow_116 rfl (by decide) ?_
  refine Vm.callV (Y := mX8_isWord) (n := 121) [.inl (9 : Int32)] dX8_readsRow_118 rfl wv_RX8_348 omX8_isWord rfl in_32 rfl rfl rfl (Nat.le_of_ble_eq_true rfl) (by decide) (kX8_isWord (9 : Int32) σ τ rfl) ?_
  refine Vm.if_eq (n := 124) 152 dX8_readsRow_121 rfl rfl (fun c9 => ?_) (fun c9 => ?_)
  · replace h := (if_pos c9).symm.trans h
    refine Vm.iconst (n := 153) (v := (1 : Int32)) dX8_readsRow_152 rfl (by decide) ?_
    obtain rfl := Option.some.inj h
    exact Vm.zret (b := true) dX8_readsRow_153 rfl rfl hk.1 hk.2.symm
  · replace h := (if_neg c9).symm.trans h
    refine Vm.aload_n (n := 125) 0 dX8_readsRow_124 rfl rfl ?_
    replace h := Option.bind_eq_some_iff.mp h
    obtain ⟨q1, h1, h⟩ := h
    refine Vm.callVv (Y := mX8_next) (n := 128) [] dX8_readsRow_125 rfl wv_RX8_336 omX8_next rfl in_32 rfl rfl rfl (Nat.le_of_ble_eq_true rfl) (by decide) (kX8_next σ τ h1) ?_
    refine Vm.aload_n (n := 129) 0 dX8_readsRow_128 rfl rfl ?_
    refine Vm.iconst (n := 130) (v := (1 : Int32)) dX8_readsRow_129 rfl (by decide) ?_
    refine Vm.bipush (n := 132) (v := (99 : Int32)) dX8_readsRow_130 rfl (by decide) ?_
    replace h := Option.bind_eq_some_iff.mp h
    obtain ⟨q2, h2, h⟩ := h
    refine Vm.callV (Y := mX8_takesNumber) (n := 135) [.inl (1 : Int32), .inl (99 : Int32)] dX8_readsRow_132 rfl wv_RX8_342 omX8_takesNumber rfl in_32 rfl rfl rfl (Nat.le_of_ble_eq_true rfl) (by decide) (kX8_takesNumber (1 : Int32) (99 : Int32) q1 τ h2) ?_
    refine Vm.if_ne (n := 138) 140 dX8_readsRow_135 rfl rfl (fun c9 => ?_) (fun c9 => ?_)
    · replace h := (if_neg c9).symm.trans h
      refine Vm.aload_n (n := 141) 0 dX8_readsRow_140 rfl rfl ?_
      refine Vm.getR (n := 144) dX8_readsRow_141 rfl wf_RX8_23 in_32 rfl (by decide) rfl ?_
      refine Vm.iload_n (n := 145) 1 dX8_readsRow_144 rfl rfl ?_
      refine Vm.iconst (n := 146) (v := (2 : Int32)) dX8_readsRow_145 rfl (by decide) ?_
      refine Vm.iadd (n := 147) dX8_readsRow_146 rfl ?_
      refine Vm.aload_n (n := 148) 0 dX8_readsRow_147 rfl rfl ?_
      refine Vm.gM (n := 151) dX8_readsRow_148 rfl wf_RX8_330 in_32 rfl (by decide) rfl (by decide) ?_
      replace h := Option.bind_eq_some_iff.mp h
      obtain ⟨σ3, h3, h⟩ := h
      refine Vm.iastm (n := 152) dX8_readsRow_151 rfl in_45 rfl rfl (by decide) h3 ?_
      refine Vm.iconst (n := 153) (v := (1 : Int32)) dX8_readsRow_152 rfl (by decide) ?_
      obtain rfl := Option.some.inj h
      exact Vm.zret (b := true) dX8_readsRow_153 rfl rfl hk.1 hk.2.symm
    · replace h := (if_pos c9).symm.trans h
      refine Vm.iconst (n := 139) (v := (0 : Int32)) dX8_readsRow_138 rfl (by decide) ?_
      obtain rfl := Option.some.inj h
      exact Vm.zret (b := false) dX8_readsRow_139 rfl rfl hk.1 hk.2.symm
set_option maxRecDepth 20000 in
theorem lX8_readsRow_34 (a2 : Int32) (a3 : Int32) (σ τ : mm) {r : Option mv} {M' : mm × mm} {v9 : (Int32 × mm) ⊕ (Bool × mm)} (h : fX8_readsRow_34 a2 a3 σ = some v9) (hk : (Sum.elim (fun z : Int32 × mm => Vm mX8_readsRow 5 34 [(0, .inr (.inr (32, 0))), (2, .inl a2), (3, .inl z.1)] [] (τ, z.2) r M') (fun q : Bool × mm => r = some (.inl (bi q.1)) ∧ M' = (τ, q.2))) v9) : Vm mX8_readsRow 5 34 [(0, .inr (.inr (32, 0))), (2, .inl a2), (3, .inl a3)] [] (τ, σ) r M' := by
  unfold fX8_readsRow_34 at h
  refine Vm.iload_n (n := 35) 2 dX8_readsRow_34 rfl rfl ?_
  refine Vm.aload_n (n := 36) 0 dX8_readsRow_35 rfl rfl ?_
  refine Vm.gM (n := 39) dX8_readsRow_36 rfl wf_RX8_13 in_32 rfl (by decide) rfl (by decide) ?_
  refine Vm.icmp_ge (n := 42) 75 dX8_readsRow_39 rfl rfl (fun c9 => ?_) (fun c9 => ?_)
  · replace h := (if_pos c9).symm.trans h
    refine Vm.aload_n (n := 76) 0 dX8_readsRow_75 rfl rfl ?_
    refine Vm.bipush (n := 78) (v := (8 : Int32)) dX8_readsRow_76 rfl (by decide) ?_
    refine Vm.callV (Y := mX8_isWord) (n := 81) [.inl (8 : Int32)] dX8_readsRow_78 rfl wv_RX8_348 omX8_isWord rfl in_32 rfl rfl rfl (Nat.le_of_ble_eq_true rfl) (by decide) (kX8_isWord (8 : Int32) σ τ rfl) ?_
    refine Vm.if_eq (n := 84) 115 dX8_readsRow_81 rfl rfl (fun c9 => ?_) (fun c9 => ?_)
    · replace h := (if_pos c9).symm.trans h
      refine Vm.sub (lv' := [(0, .inr (.inr (32, 0))), (2, .inl a2)]) [0, 1] rfl ?_
      replace h := Option.map_eq_some_iff.mp h
      obtain ⟨w9, h, e8⟩ := h
      subst e8
      exact lX8_readsRow_115 a2 σ τ h hk
    · replace h := (if_neg c9).symm.trans h
      refine Vm.aload_n (n := 85) 0 dX8_readsRow_84 rfl rfl ?_
      replace h := Option.bind_eq_some_iff.mp h
      obtain ⟨q1, h1, h⟩ := h
      refine Vm.callVv (Y := mX8_next) (n := 88) [] dX8_readsRow_85 rfl wv_RX8_336 omX8_next rfl in_32 rfl rfl rfl (Nat.le_of_ble_eq_true rfl) (by decide) (kX8_next σ τ h1) ?_
      refine Vm.aload_n (n := 89) 0 dX8_readsRow_88 rfl rfl ?_
      refine Vm.sipush (n := 92) (v := (-999 : Int32)) dX8_readsRow_89 rfl (by decide) ?_
      refine Vm.sipush (n := 95) (v := (999 : Int32)) dX8_readsRow_92 rfl (by decide) ?_
      replace h := Option.bind_eq_some_iff.mp h
      obtain ⟨q2, h2, h⟩ := h
      refine Vm.callV (Y := mX8_takesSigned) (n := 98) [.inl (-999 : Int32), .inl (999 : Int32)] dX8_readsRow_95 rfl wv_RX8_345 omX8_takesSigned rfl in_32 rfl rfl rfl (Nat.le_of_ble_eq_true rfl) (by decide) (kX8_takesSigned (-999 : Int32) (999 : Int32) q1 τ h2) ?_
      refine Vm.if_ne (n := 101) 103 dX8_readsRow_98 rfl rfl (fun c9 => ?_) (fun c9 => ?_)
      · replace h := (if_neg c9).symm.trans h
        refine Vm.aload_n (n := 104) 0 dX8_readsRow_103 rfl rfl ?_
        refine Vm.getR (n := 107) dX8_readsRow_104 rfl wf_RX8_23 in_32 rfl (by decide) rfl ?_
        refine Vm.iload_n (n := 108) 1 dX8_readsRow_107 rfl rfl ?_
        refine Vm.iconst (n := 109) (v := (1 : Int32)) dX8_readsRow_108 rfl (by decide) ?_
        refine Vm.iadd (n := 110) dX8_readsRow_109 rfl ?_
        refine Vm.aload_n (n := 111) 0 dX8_readsRow_110 rfl rfl ?_
        refine Vm.gM (n := 114) dX8_readsRow_111 rfl wf_RX8_330 in_32 rfl (by decide) rfl (by decide) ?_
        replace h := Option.bind_eq_some_iff.mp h
        obtain ⟨σ3, h3, h⟩ := h
        refine Vm.iastm (n := 115) dX8_readsRow_114 rfl in_45 rfl rfl (by decide) h3 ?_
        refine Vm.sub (lv' := [(0, .inr (.inr (32, 0))), (2, .inl a2)]) [0, 1] rfl ?_
        replace h := Option.map_eq_some_iff.mp h
        obtain ⟨w9, h, e8⟩ := h
        subst e8
        exact lX8_readsRow_115 a2 σ3 τ h hk
      · replace h := (if_pos c9).symm.trans h
        refine Vm.iconst (n := 102) (v := (0 : Int32)) dX8_readsRow_101 rfl (by decide) ?_
        obtain rfl := Option.some.inj h
        exact Vm.zret (b := false) dX8_readsRow_102 rfl rfl hk.1 hk.2.symm
  · replace h := (if_neg c9).symm.trans h
    refine Vm.aload_n (n := 43) 0 dX8_readsRow_42 rfl rfl ?_
    refine Vm.bipush (n := 45) (v := (-9 : Int32)) dX8_readsRow_43 rfl (by decide) ?_
    refine Vm.bipush (n := 47) (v := (9 : Int32)) dX8_readsRow_45 rfl (by decide) ?_
    replace h := Option.bind_eq_some_iff.mp h
    obtain ⟨q4, h4, h⟩ := h
    refine Vm.callV (Y := mX8_takesSigned) (n := 50) [.inl (-9 : Int32), .inl (9 : Int32)] dX8_readsRow_47 rfl wv_RX8_345 omX8_takesSigned rfl in_32 rfl rfl rfl (Nat.le_of_ble_eq_true rfl) (by decide) (kX8_takesSigned (-9 : Int32) (9 : Int32) σ τ h4) ?_
    refine Vm.if_ne (n := 53) 55 dX8_readsRow_50 rfl rfl (fun c9 => ?_) (fun c9 => ?_)
    · replace h := (if_neg c9).symm.trans h
      refine Vm.aload_n (n := 56) 0 dX8_readsRow_55 rfl rfl ?_
      refine Vm.getR (n := 59) dX8_readsRow_56 rfl wf_RX8_23 in_32 rfl (by decide) rfl ?_
      refine Vm.iload_n (n := 60) 1 dX8_readsRow_59 rfl rfl ?_
      refine Vm.iconst (n := 61) (v := (3 : Int32)) dX8_readsRow_60 rfl (by decide) ?_
      refine Vm.iadd (n := 62) dX8_readsRow_61 rfl ?_
      refine Vm.iload_n (n := 63) 2 dX8_readsRow_62 rfl rfl ?_
      refine Vm.iadd (n := 64) dX8_readsRow_63 rfl ?_
      refine Vm.aload_n (n := 65) 0 dX8_readsRow_64 rfl rfl ?_
      refine Vm.gM (n := 68) dX8_readsRow_65 rfl wf_RX8_330 in_32 rfl (by decide) rfl (by decide) ?_
      replace h := Option.bind_eq_some_iff.mp h
      obtain ⟨σ5, h5, h⟩ := h
      refine Vm.iastm (n := 69) dX8_readsRow_68 rfl in_45 rfl rfl (by decide) h5 ?_
      replace h := Option.bind_eq_some_iff.mp h
      obtain ⟨x6, e6, h⟩ := h
      replace e6 := Option.some.inj e6
      refine Vm.iinc (n := 72) (v := x6) (lv' := [(3, .inl x6), (0, .inr (.inr (32, 0))), (2, .inl a2)]) 2 dX8_readsRow_69 rfl rfl e6 (Nat.le_of_ble_eq_true rfl) rfl ?_
      refine Vm.goto 34 dX8_readsRow_72 rfl ?_
      refine Vm.sub (lv' := [(0, .inr (.inr (32, 0))), (2, .inl a2), (3, .inl x6)]) [1, 2, 0] rfl ?_
      obtain rfl := Option.some.inj h
      exact hk
    · replace h := (if_pos c9).symm.trans h
      refine Vm.iconst (n := 54) (v := (0 : Int32)) dX8_readsRow_53 rfl (by decide) ?_
      obtain rfl := Option.some.inj h
      exact Vm.zret (b := false) dX8_readsRow_54 rfl rfl hk.1 hk.2.symm
theorem lX8_readsRow_34_L (a2 : Int32) (τ : mm) {r : Option mv} {M' : mm × mm} (z : Int32 × mm) (w9 : Bool × mm) (h : lp (fX8_readsRow_34_L a2) z = some w9) (hk : (fun q : Bool × mm => r = some (.inl (bi q.1)) ∧ M' = (τ, q.2)) w9) : Vm mX8_readsRow 5 34 [(0, .inr (.inr (32, 0))), (2, .inl a2), (3, .inl z.1)] [] (τ, z.2) r M' :=
  lp_link (S := Int32 × mm) (R := Bool × mm) (body := fX8_readsRow_34_L a2) (A := fun z : Int32 × mm => Vm mX8_readsRow 5 34 [(0, .inr (.inr (32, 0))), (2, .inl a2), (3, .inl z.1)] [] (τ, z.2) r M') (B := fun w : Bool × mm => (fun q : Bool × mm => r = some (.inl (bi q.1)) ∧ M' = (τ, q.2)) w) (fun z v hb hv => lX8_readsRow_34 a2 z.1 z.2 τ hb hv) z w9 h hk
set_option maxRecDepth 20000 in
theorem lX8_readsRow_0 (a1 : Int32) (σ τ : mm) {r : Option mv} {M' : mm × mm} {v9 : Bool × mm} (h : fX8_readsRow_0 a1 σ = some v9) (hk : (fun q : Bool × mm => r = some (.inl (bi q.1)) ∧ M' = (τ, q.2)) v9) : Vm mX8_readsRow 5 0 [(0, .inr (.inr (32, 0))), (1, .inl a1)] [] (τ, σ) r M' := by
  unfold fX8_readsRow_0 at h
  refine Vm.aload_n (n := 1) 0 dX8_readsRow_0 rfl rfl ?_
  refine Vm.gM (n := 4) dX8_readsRow_1 rfl wf_RX8_97 in_32 rfl (by decide) rfl (by decide) ?_
  refine Vm.bipush (n := 6) (v := (8 : Int32)) dX8_readsRow_4 rfl (by decide) ?_
  refine Vm.icmp_ne (n := 9) 11 dX8_readsRow_6 rfl rfl (fun c9 => ?_) (fun c9 => ?_)
  · replace h := (if_neg c9).symm.trans h
    refine Vm.aload_n (n := 12) 0 dX8_readsRow_11 rfl rfl ?_
    replace h := Option.bind_eq_some_iff.mp h
    obtain ⟨q1, h1, h⟩ := h
    refine Vm.callVv (Y := mX8_next) (n := 15) [] dX8_readsRow_12 rfl wv_RX8_336 omX8_next rfl in_32 rfl rfl rfl (Nat.le_of_ble_eq_true rfl) (by decide) (kX8_next σ τ h1) ?_
    refine Vm.aload_n (n := 16) 0 dX8_readsRow_15 rfl rfl ?_
    refine Vm.iload_n (n := 17) 1 dX8_readsRow_16 rfl rfl ?_
    refine Vm.iconst (n := 18) (v := (0 : Int32)) dX8_readsRow_17 rfl (by decide) ?_
    refine Vm.iconst (n := 19) (v := (1 : Int32)) dX8_readsRow_18 rfl (by decide) ?_
    replace h := Option.bind_eq_some_iff.mp h
    obtain ⟨q2, h2, h⟩ := h
    refine Vm.callVv (Y := mX8_adds) (n := 22) [.inl a1, .inl (0 : Int32), .inl (1 : Int32)] dX8_readsRow_19 rfl wv_RX8_138 omX8_adds rfl in_32 rfl rfl rfl (Nat.le_of_ble_eq_true rfl) (by decide) (kX8_adds a1 (0 : Int32) (1 : Int32) q1 τ h2) ?_
    refine Vm.bipush (n := 24) (v := (7 : Int32)) dX8_readsRow_22 rfl (by decide) ?_
    refine Vm.aload_n (n := 25) 0 dX8_readsRow_24 rfl rfl ?_
    refine Vm.gM (n := 28) dX8_readsRow_25 rfl wf_RX8_97 in_32 rfl (by decide) rfl (by decide) ?_
    refine Vm.iconst (n := 29) (v := (1 : Int32)) dX8_readsRow_28 rfl (by decide) ?_
    refine Vm.isub (n := 30) dX8_readsRow_29 rfl ?_
    refine Vm.imul (n := 31) dX8_readsRow_30 rfl ?_
    replace h := Option.bind_eq_some_iff.mp h
    obtain ⟨x3, e3, h⟩ := h
    replace e3 := Option.some.inj e3
    refine Vm.top e3 ?_
    refine Vm.istore_n (n := 32) (lv' := [(2, .inl x3), (0, .inr (.inr (32, 0))), (1, .inl a1)]) dX8_readsRow_31 rfl (Nat.le_of_ble_eq_true rfl) rfl ?_
    refine Vm.iconst (n := 33) (v := (0 : Int32)) dX8_readsRow_32 rfl (by decide) ?_
    refine Vm.istore_n (n := 34) (lv' := [(3, .inl (0 : Int32)), (2, .inl x3), (0, .inr (.inr (32, 0))), (1, .inl a1)]) dX8_readsRow_33 rfl (Nat.le_of_ble_eq_true rfl) rfl ?_
    refine Vm.sub (lv' := [(0, .inr (.inr (32, 0))), (2, .inl x3), (3, .inl (0 : Int32))]) [2, 1, 0] rfl ?_
    exact lX8_readsRow_34_L x3 τ ((0 : Int32), q2) _ h hk
  · replace h := (if_pos c9).symm.trans h
    refine Vm.iconst (n := 10) (v := (0 : Int32)) dX8_readsRow_9 rfl (by decide) ?_
    obtain rfl := Option.some.inj h
    exact Vm.zret (b := false) dX8_readsRow_10 rfl rfl hk.1 hk.2.symm
theorem kX8_readsRow (a1 : Int32) (σ τ : mm) {q : Bool × mm} (h : fX8_readsRow a1 σ = some q) : Cx mX8_readsRow 5 [.inr (.inr (32, 0)), .inl a1] (τ, σ) (some (.inl (bi q.1))) (τ, q.2) :=
  Cx.of (lv := [(0, .inr (.inr (32, 0))), (1, .inl a1)]) (by decide) (fun ad => Nat.le_of_ble_eq_true rfl) (fun ad => rfl) (lX8_readsRow_0 a1 σ τ h ⟨rfl, rfl⟩)
-- ThinBodiesModel readsLetters ()Z
noncomputable def fX8_readsLetters_0 (σ : mm) : Option (Bool × mm) :=
  Option.bind (fX8_next σ) fun q1 =>
  if (bi ((fX8_seesNumber (1 : Int32) (1 : Int32) (4 : Int32) q1).1)) = (0 : Int32) then
  some ((false, (fX8_seesNumber (1 : Int32) (1 : Int32) (4 : Int32) q1).2))
  else
  Option.bind (fX8_hasLetters ((fX8_seesNumber (1 : Int32) (1 : Int32) (4 : Int32) q1).2.1 32 0 33) ((fX8_seesNumber (1 : Int32) (1 : Int32) (4 : Int32) q1).2)) fun q2 =>
  if (bi q2.1) = (0 : Int32) then
  some ((false, q2.2))
  else
  Option.bind (fX8_next q2.2) fun q3 =>
  some ((true, q3))
noncomputable def fX8_readsLetters (σ : mm) : Option (Bool × mm) := fX8_readsLetters_0 σ
set_option maxRecDepth 20000 in
theorem lX8_readsLetters_0 (σ τ : mm) {r : Option mv} {M' : mm × mm} {v9 : Bool × mm} (h : fX8_readsLetters_0 σ = some v9) (hk : (fun q : Bool × mm => r = some (.inl (bi q.1)) ∧ M' = (τ, q.2)) v9) : Vm mX8_readsLetters 3 0 [(0, .inr (.inr (32, 0)))] [] (τ, σ) r M' := by
  unfold fX8_readsLetters_0 at h
  refine Vm.aload_n (n := 1) 0 dX8_readsLetters_0 rfl rfl ?_
  replace h := Option.bind_eq_some_iff.mp h
  obtain ⟨q1, h1, h⟩ := h
  refine Vm.callVv (Y := mX8_next) (n := 4) [] dX8_readsLetters_1 rfl wv_RX8_336 omX8_next rfl in_32 rfl rfl rfl (Nat.le_of_ble_eq_true rfl) (by decide) (kX8_next σ τ h1) ?_
  refine Vm.aload_n (n := 5) 0 dX8_readsLetters_4 rfl rfl ?_
  refine Vm.iconst (n := 6) (v := (1 : Int32)) dX8_readsLetters_5 rfl (by decide) ?_
  refine Vm.iconst (n := 7) (v := (1 : Int32)) dX8_readsLetters_6 rfl (by decide) ?_
  refine Vm.iconst (n := 8) (v := (4 : Int32)) dX8_readsLetters_7 rfl (by decide) ?_
  refine Vm.callV (Y := mX8_seesNumber) (n := 11) [.inl (1 : Int32), .inl (1 : Int32), .inl (4 : Int32)] dX8_readsLetters_8 rfl wv_RX8_333 omX8_seesNumber rfl in_32 rfl rfl rfl (Nat.le_of_ble_eq_true rfl) (by decide) (kX8_seesNumber (1 : Int32) (1 : Int32) (4 : Int32) q1 τ rfl) ?_
  refine Vm.if_eq (n := 14) 25 dX8_readsLetters_11 rfl rfl (fun c9 => ?_) (fun c9 => ?_)
  · replace h := (if_pos c9).symm.trans h
    refine Vm.iconst (n := 26) (v := (0 : Int32)) dX8_readsLetters_25 rfl (by decide) ?_
    obtain rfl := Option.some.inj h
    exact Vm.zret (b := false) dX8_readsLetters_26 rfl rfl hk.1 hk.2.symm
  · replace h := (if_neg c9).symm.trans h
    refine Vm.aload_n (n := 15) 0 dX8_readsLetters_14 rfl rfl ?_
    refine Vm.aload_n (n := 16) 0 dX8_readsLetters_15 rfl rfl ?_
    refine Vm.gM (n := 19) dX8_readsLetters_16 rfl wf_RX8_330 in_32 rfl (by decide) rfl (by decide) ?_
    replace h := Option.bind_eq_some_iff.mp h
    obtain ⟨q2, h2, h⟩ := h
    refine Vm.callV (Y := mX8_hasLetters) (n := 22) [.inl ((fX8_seesNumber (1 : Int32) (1 : Int32) (4 : Int32) q1).2.1 32 0 33)] dX8_readsLetters_19 rfl wv_RX8_106 omX8_hasLetters rfl in_32 rfl rfl rfl (Nat.le_of_ble_eq_true rfl) (by decide) (kX8_hasLetters ((fX8_seesNumber (1 : Int32) (1 : Int32) (4 : Int32) q1).2.1 32 0 33) ((fX8_seesNumber (1 : Int32) (1 : Int32) (4 : Int32) q1).2) τ h2) ?_
    refine Vm.if_ne (n := 25) 27 dX8_readsLetters_22 rfl rfl (fun c9 => ?_) (fun c9 => ?_)
    · replace h := (if_neg c9).symm.trans h
      refine Vm.aload_n (n := 28) 0 dX8_readsLetters_27 rfl rfl ?_
      replace h := Option.bind_eq_some_iff.mp h
      obtain ⟨q3, h3, h⟩ := h
      refine Vm.callVv (Y := mX8_next) (n := 31) [] dX8_readsLetters_28 rfl wv_RX8_336 omX8_next rfl in_32 rfl rfl rfl (Nat.le_of_ble_eq_true rfl) (by decide) (kX8_next q2.2 τ h3) ?_
      refine Vm.iconst (n := 32) (v := (1 : Int32)) dX8_readsLetters_31 rfl (by decide) ?_
      obtain rfl := Option.some.inj h
      exact Vm.zret (b := true) dX8_readsLetters_32 rfl rfl hk.1 hk.2.symm
    · replace h := (if_pos c9).symm.trans h
      refine Vm.iconst (n := 26) (v := (0 : Int32)) dX8_readsLetters_25 rfl (by decide) ?_
      obtain rfl := Option.some.inj h
      exact Vm.zret (b := false) dX8_readsLetters_26 rfl rfl hk.1 hk.2.symm
theorem kX8_readsLetters (σ τ : mm) {q : Bool × mm} (h : fX8_readsLetters σ = some q) : Cx mX8_readsLetters 3 [.inr (.inr (32, 0))] (τ, σ) (some (.inl (bi q.1))) (τ, q.2) :=
  Cx.of (lv := [(0, .inr (.inr (32, 0)))]) (by decide) (fun ad => Nat.le_of_ble_eq_true rfl) (fun ad => rfl) (lX8_readsLetters_0 σ τ h ⟨rfl, rfl⟩)
-- ThinBodiesModel readsBox ()Z
noncomputable def fX8_readsBox_0 (σ : mm) : Option (Bool × mm) :=
  Option.bind (fX8_next σ) fun q1 =>
  Option.bind (fX8_takesNumber (0 : Int32) ((q1.1 32 0 1) - (1 : Int32)) q1) fun q2 =>
  if (bi q2.1) = (0 : Int32) then
  some ((false, q2.2))
  else
  Option.bind (some (q2.2.1 32 0 33)) fun x3 =>
  Option.bind (fX8_takesSigned (-9 : Int32) (9 : Int32) q2.2) fun q4 =>
  if (bi q4.1) = (0 : Int32) then
  some ((false, q4.2))
  else
  Option.bind (some (q4.2.1 32 0 33)) fun x5 =>
  Option.bind (fX8_seesSigned x5 (9 : Int32) q4.2) fun q6 =>
  if (bi q6.1) = (0 : Int32) then
  some ((false, q6.2))
  else
  Option.bind (fX8_hasBox x3 x5 (q6.2.1 32 0 33) q6.2) fun q7 =>
  if (bi q7.1) = (0 : Int32) then
  some ((false, q7.2))
  else
  Option.bind (fX8_next q7.2) fun q8 =>
  some ((true, q8))
noncomputable def fX8_readsBox (σ : mm) : Option (Bool × mm) := fX8_readsBox_0 σ
set_option maxRecDepth 20000 in
theorem lX8_readsBox_0 (σ τ : mm) {r : Option mv} {M' : mm × mm} {v9 : Bool × mm} (h : fX8_readsBox_0 σ = some v9) (hk : (fun q : Bool × mm => r = some (.inl (bi q.1)) ∧ M' = (τ, q.2)) v9) : Vm mX8_readsBox 5 0 [(0, .inr (.inr (32, 0)))] [] (τ, σ) r M' := by
  unfold fX8_readsBox_0 at h
  refine Vm.aload_n (n := 1) 0 dX8_readsBox_0 rfl rfl ?_
  replace h := Option.bind_eq_some_iff.mp h
  obtain ⟨q1, h1, h⟩ := h
  refine Vm.callVv (Y := mX8_next) (n := 4) [] dX8_readsBox_1 rfl wv_RX8_336 omX8_next rfl in_32 rfl rfl rfl (Nat.le_of_ble_eq_true rfl) (by decide) (kX8_next σ τ h1) ?_
  refine Vm.aload_n (n := 5) 0 dX8_readsBox_4 rfl rfl ?_
  refine Vm.iconst (n := 6) (v := (0 : Int32)) dX8_readsBox_5 rfl (by decide) ?_
  refine Vm.aload_n (n := 7) 0 dX8_readsBox_6 rfl rfl ?_
  refine Vm.gM (n := 10) dX8_readsBox_7 rfl wf_RX8_13 in_32 rfl (by decide) rfl (by decide) ?_
  refine Vm.iconst (n := 11) (v := (1 : Int32)) dX8_readsBox_10 rfl (by decide) ?_
  refine Vm.isub (n := 12) dX8_readsBox_11 rfl ?_
  replace h := Option.bind_eq_some_iff.mp h
  obtain ⟨q2, h2, h⟩ := h
  refine Vm.callV (Y := mX8_takesNumber) (n := 15) [.inl (0 : Int32), .inl ((q1.1 32 0 1) - (1 : Int32))] dX8_readsBox_12 rfl wv_RX8_342 omX8_takesNumber rfl in_32 rfl rfl rfl (Nat.le_of_ble_eq_true rfl) (by decide) (kX8_takesNumber (0 : Int32) ((q1.1 32 0 1) - (1 : Int32)) q1 τ h2) ?_
  refine Vm.if_ne (n := 18) 20 dX8_readsBox_15 rfl rfl (fun c9 => ?_) (fun c9 => ?_)
  · replace h := (if_neg c9).symm.trans h
    refine Vm.aload_n (n := 21) 0 dX8_readsBox_20 rfl rfl ?_
    refine Vm.gM (n := 24) dX8_readsBox_21 rfl wf_RX8_330 in_32 rfl (by decide) rfl (by decide) ?_
    replace h := Option.bind_eq_some_iff.mp h
    obtain ⟨x3, e3, h⟩ := h
    replace e3 := Option.some.inj e3
    refine Vm.top e3 ?_
    refine Vm.istore_n (n := 25) (lv' := [(1, .inl x3), (0, .inr (.inr (32, 0)))]) dX8_readsBox_24 rfl (Nat.le_of_ble_eq_true rfl) rfl ?_
    refine Vm.aload_n (n := 26) 1 dX8_readsBox_25 rfl rfl ?_
    refine Vm.bipush (n := 28) (v := (-9 : Int32)) dX8_readsBox_26 rfl (by decide) ?_
    refine Vm.bipush (n := 30) (v := (9 : Int32)) dX8_readsBox_28 rfl (by decide) ?_
    replace h := Option.bind_eq_some_iff.mp h
    obtain ⟨q4, h4, h⟩ := h
    refine Vm.callV (Y := mX8_takesSigned) (n := 33) [.inl (-9 : Int32), .inl (9 : Int32)] dX8_readsBox_30 rfl wv_RX8_345 omX8_takesSigned rfl in_32 rfl rfl rfl (Nat.le_of_ble_eq_true rfl) (by decide) (kX8_takesSigned (-9 : Int32) (9 : Int32) q2.2 τ h4) ?_
    refine Vm.if_ne (n := 36) 38 dX8_readsBox_33 rfl rfl (fun c9 => ?_) (fun c9 => ?_)
    · replace h := (if_neg c9).symm.trans h
      refine Vm.aload_n (n := 39) 1 dX8_readsBox_38 rfl rfl ?_
      refine Vm.gM (n := 42) dX8_readsBox_39 rfl wf_RX8_330 in_32 rfl (by decide) rfl (by decide) ?_
      replace h := Option.bind_eq_some_iff.mp h
      obtain ⟨x5, e5, h⟩ := h
      replace e5 := Option.some.inj e5
      refine Vm.top e5 ?_
      refine Vm.istore_n (n := 43) (lv' := [(2, .inl x5), (1, .inl x3), (0, .inr (.inr (32, 0)))]) dX8_readsBox_42 rfl (Nat.le_of_ble_eq_true rfl) rfl ?_
      refine Vm.aload_n (n := 44) 2 dX8_readsBox_43 rfl rfl ?_
      refine Vm.iload_n (n := 45) 0 dX8_readsBox_44 rfl rfl ?_
      refine Vm.bipush (n := 47) (v := (9 : Int32)) dX8_readsBox_45 rfl (by decide) ?_
      replace h := Option.bind_eq_some_iff.mp h
      obtain ⟨q6, h6, h⟩ := h
      refine Vm.callV (Y := mX8_seesSigned) (n := 50) [.inl x5, .inl (9 : Int32)] dX8_readsBox_47 rfl wv_RX8_339 omX8_seesSigned rfl in_32 rfl rfl rfl (Nat.le_of_ble_eq_true rfl) (by decide) (kX8_seesSigned x5 (9 : Int32) q4.2 τ h6) ?_
      refine Vm.if_eq (n := 53) 66 dX8_readsBox_50 rfl rfl (fun c9 => ?_) (fun c9 => ?_)
      · replace h := (if_pos c9).symm.trans h
        refine Vm.iconst (n := 67) (v := (0 : Int32)) dX8_readsBox_66 rfl (by decide) ?_
        obtain rfl := Option.some.inj h
        exact Vm.zret (b := false) dX8_readsBox_67 rfl rfl hk.1 hk.2.symm
      · replace h := (if_neg c9).symm.trans h
        refine Vm.aload_n (n := 54) 2 dX8_readsBox_53 rfl rfl ?_
        refine Vm.iload_n (n := 55) 1 dX8_readsBox_54 rfl rfl ?_
        refine Vm.iload_n (n := 56) 0 dX8_readsBox_55 rfl rfl ?_
        refine Vm.aload_n (n := 57) 2 dX8_readsBox_56 rfl rfl ?_
        refine Vm.gM (n := 60) dX8_readsBox_57 rfl wf_RX8_330 in_32 rfl (by decide) rfl (by decide) ?_
        replace h := Option.bind_eq_some_iff.mp h
        obtain ⟨q7, h7, h⟩ := h
        refine Vm.callV (Y := mX8_hasBox) (n := 63) [.inl x3, .inl x5, .inl (q6.2.1 32 0 33)] dX8_readsBox_60 rfl wv_RX8_122 omX8_hasBox rfl in_32 rfl rfl rfl (Nat.le_of_ble_eq_true rfl) (by decide) (kX8_hasBox x3 x5 (q6.2.1 32 0 33) q6.2 τ h7) ?_
        refine Vm.if_ne (n := 66) 68 dX8_readsBox_63 rfl rfl (fun c9 => ?_) (fun c9 => ?_)
        · replace h := (if_neg c9).symm.trans h
          refine Vm.aload_n (n := 69) 2 dX8_readsBox_68 rfl rfl ?_
          replace h := Option.bind_eq_some_iff.mp h
          obtain ⟨q8, h8, h⟩ := h
          refine Vm.callVv (Y := mX8_next) (n := 72) [] dX8_readsBox_69 rfl wv_RX8_336 omX8_next rfl in_32 rfl rfl rfl (Nat.le_of_ble_eq_true rfl) (by decide) (kX8_next q7.2 τ h8) ?_
          refine Vm.iconst (n := 73) (v := (1 : Int32)) dX8_readsBox_72 rfl (by decide) ?_
          obtain rfl := Option.some.inj h
          exact Vm.zret (b := true) dX8_readsBox_73 rfl rfl hk.1 hk.2.symm
        · replace h := (if_pos c9).symm.trans h
          refine Vm.iconst (n := 67) (v := (0 : Int32)) dX8_readsBox_66 rfl (by decide) ?_
          obtain rfl := Option.some.inj h
          exact Vm.zret (b := false) dX8_readsBox_67 rfl rfl hk.1 hk.2.symm
    · replace h := (if_pos c9).symm.trans h
      refine Vm.iconst (n := 37) (v := (0 : Int32)) dX8_readsBox_36 rfl (by decide) ?_
      obtain rfl := Option.some.inj h
      exact Vm.zret (b := false) dX8_readsBox_37 rfl rfl hk.1 hk.2.symm
  · replace h := (if_pos c9).symm.trans h
    refine Vm.iconst (n := 19) (v := (0 : Int32)) dX8_readsBox_18 rfl (by decide) ?_
    obtain rfl := Option.some.inj h
    exact Vm.zret (b := false) dX8_readsBox_19 rfl rfl hk.1 hk.2.symm
theorem kX8_readsBox (σ τ : mm) {q : Bool × mm} (h : fX8_readsBox σ = some q) : Cx mX8_readsBox 5 [.inr (.inr (32, 0))] (τ, σ) (some (.inl (bi q.1))) (τ, q.2) :=
  Cx.of (lv := [(0, .inr (.inr (32, 0)))]) (by decide) (fun ad => Nat.le_of_ble_eq_true rfl) (fun ad => rfl) (lX8_readsBox_0 σ τ h ⟨rfl, rfl⟩)
-- ThinBodiesModel readsItem ()Z
noncomputable def fX8_readsItem_0 (σ : mm) : Option (Bool × mm) :=
  Option.bind (some ((σ.1 32 0 31) - (10 : Int32))) fun x1 =>
  if (bi (fX8_in x1.toInt64 (0 : Int64) (5 : Int64))) = (0 : Int32) then
  if x1 = (6 : Int32) then
  Option.bind (fX8_readsLetters σ) fun q3 =>
  some ((q3.1, q3.2))
  else
  if x1 = (7 : Int32) then
  Option.bind (fX8_readsBox σ) fun q2 =>
  if (bi q2.1) = (0 : Int32) then
  some ((false, q2.2))
  else
  some ((true, q2.2))
  else
  some ((false, σ))
  else
  Option.bind (fX8_readsRow x1 σ) fun q4 =>
  some ((q4.1, q4.2))
noncomputable def fX8_readsItem (σ : mm) : Option (Bool × mm) := fX8_readsItem_0 σ
set_option maxRecDepth 20000 in
theorem lX8_readsItem_0 (σ τ : mm) {r : Option mv} {M' : mm × mm} {v9 : Bool × mm} (h : fX8_readsItem_0 σ = some v9) (hk : (fun q : Bool × mm => r = some (.inl (bi q.1)) ∧ M' = (τ, q.2)) v9) : Vm mX8_readsItem 6 0 [(0, .inr (.inr (32, 0)))] [] (τ, σ) r M' := by
  unfold fX8_readsItem_0 at h
  refine Vm.aload_n (n := 1) 0 dX8_readsItem_0 rfl rfl ?_
  refine Vm.gM (n := 4) dX8_readsItem_1 rfl wf_RX8_313 in_32 rfl (by decide) rfl (by decide) ?_
  refine Vm.bipush (n := 6) (v := (10 : Int32)) dX8_readsItem_4 rfl (by decide) ?_
  refine Vm.isub (n := 7) dX8_readsItem_6 rfl ?_
  replace h := Option.bind_eq_some_iff.mp h
  obtain ⟨x1, e1, h⟩ := h
  replace e1 := Option.some.inj e1
  refine Vm.top e1 ?_
  refine Vm.istore_n (n := 8) (lv' := [(1, .inl x1), (0, .inr (.inr (32, 0)))]) dX8_readsItem_7 rfl (Nat.le_of_ble_eq_true rfl) rfl ?_
  refine Vm.iload_n (n := 9) 0 dX8_readsItem_8 rfl rfl ?_
  refine Vm.i2l (n := 10) dX8_readsItem_9 rfl ?_
  refine Vm.lconst (n := 11) (v := (0 : Int64)) dX8_readsItem_10 rfl (by decide) ?_
  refine Vm.ldc2 (n := 14) dX8_readsItem_11 rfl wl_RX8_126 ?_
  refine Vm.callS (Y := mX8_in) (n := 17) [.inr (.inl x1.toInt64), .inr (.inl (0 : Int64)), .inr (.inl (5 : Int64))] dX8_readsItem_14 rfl wv_RX8_93 omX8_in rfl rfl (Nat.le_of_ble_eq_true rfl) (by decide) (kX8_in x1.toInt64 (0 : Int64) (5 : Int64) rfl) ?_
  refine Vm.if_eq (n := 20) 28 dX8_readsItem_17 rfl rfl (fun c9 => ?_) (fun c9 => ?_)
  · replace h := (if_pos c9).symm.trans h
    refine Vm.iload_n (n := 29) 0 dX8_readsItem_28 rfl rfl ?_
    refine Vm.bipush (n := 31) (v := (6 : Int32)) dX8_readsItem_29 rfl (by decide) ?_
    refine Vm.icmp_ne (n := 34) 41 dX8_readsItem_31 rfl rfl (fun c9 => ?_) (fun c9 => ?_)
    · replace h := (if_neg c9).symm.trans h
      refine Vm.iload_n (n := 42) 0 dX8_readsItem_41 rfl rfl ?_
      refine Vm.bipush (n := 44) (v := (7 : Int32)) dX8_readsItem_42 rfl (by decide) ?_
      refine Vm.icmp_ne (n := 47) 58 dX8_readsItem_44 rfl rfl (fun c9 => ?_) (fun c9 => ?_)
      · replace h := (if_neg c9).symm.trans h
        refine Vm.iconst (n := 59) (v := (0 : Int32)) dX8_readsItem_58 rfl (by decide) ?_
        obtain rfl := Option.some.inj h
        exact Vm.zret (b := false) dX8_readsItem_59 rfl rfl hk.1 hk.2.symm
      · replace h := (if_pos c9).symm.trans h
        refine Vm.aload_n (n := 48) 1 dX8_readsItem_47 rfl rfl ?_
        replace h := Option.bind_eq_some_iff.mp h
        obtain ⟨q2, h2, h⟩ := h
        refine Vm.callV (Y := mX8_readsBox) (n := 51) [] dX8_readsItem_48 rfl wv_RX8_357 omX8_readsBox rfl in_32 rfl rfl rfl (Nat.le_of_ble_eq_true rfl) (by decide) (kX8_readsBox σ τ h2) ?_
        refine Vm.if_eq (n := 54) 58 dX8_readsItem_51 rfl rfl (fun c9 => ?_) (fun c9 => ?_)
        · replace h := (if_pos c9).symm.trans h
          refine Vm.iconst (n := 59) (v := (0 : Int32)) dX8_readsItem_58 rfl (by decide) ?_
          obtain rfl := Option.some.inj h
          exact Vm.zret (b := false) dX8_readsItem_59 rfl rfl hk.1 hk.2.symm
        · replace h := (if_neg c9).symm.trans h
          refine Vm.iconst (n := 55) (v := (1 : Int32)) dX8_readsItem_54 rfl (by decide) ?_
          refine Vm.goto 59 dX8_readsItem_55 rfl ?_
          obtain rfl := Option.some.inj h
          exact Vm.zret (b := true) dX8_readsItem_59 rfl rfl hk.1 hk.2.symm
    · replace h := (if_pos c9).symm.trans h
      refine Vm.aload_n (n := 35) 1 dX8_readsItem_34 rfl rfl ?_
      replace h := Option.bind_eq_some_iff.mp h
      obtain ⟨q3, h3, h⟩ := h
      refine Vm.callV (Y := mX8_readsLetters) (n := 38) [] dX8_readsItem_35 rfl wv_RX8_354 omX8_readsLetters rfl in_32 rfl rfl rfl (Nat.le_of_ble_eq_true rfl) (by decide) (kX8_readsLetters σ τ h3) ?_
      refine Vm.goto 59 dX8_readsItem_38 rfl ?_
      obtain rfl := Option.some.inj h
      exact Vm.zret (b := q3.1) dX8_readsItem_59 rfl rfl hk.1 hk.2.symm
  · replace h := (if_neg c9).symm.trans h
    refine Vm.aload_n (n := 21) 1 dX8_readsItem_20 rfl rfl ?_
    refine Vm.iload_n (n := 22) 0 dX8_readsItem_21 rfl rfl ?_
    replace h := Option.bind_eq_some_iff.mp h
    obtain ⟨q4, h4, h⟩ := h
    refine Vm.callV (Y := mX8_readsRow) (n := 25) [.inl x1] dX8_readsItem_22 rfl wv_RX8_351 omX8_readsRow rfl in_32 rfl rfl rfl (Nat.le_of_ble_eq_true rfl) (by decide) (kX8_readsRow x1 σ τ h4) ?_
    refine Vm.goto 59 dX8_readsItem_25 rfl ?_
    obtain rfl := Option.some.inj h
    exact Vm.zret (b := q4.1) dX8_readsItem_59 rfl rfl hk.1 hk.2.symm
theorem kX8_readsItem (σ τ : mm) {q : Bool × mm} (h : fX8_readsItem σ = some q) : Cx mX8_readsItem 6 [.inr (.inr (32, 0))] (τ, σ) (some (.inl (bi q.1))) (τ, q.2) :=
  Cx.of (lv := [(0, .inr (.inr (32, 0)))]) (by decide) (fun ad => Nat.le_of_ble_eq_true rfl) (fun ad => rfl) (lX8_readsItem_0 σ τ h ⟨rfl, rfl⟩)
-- ThinBodiesModel comesBack ([I)V
noncomputable def fX8_comesBack_80_78 (a2 : Int32) (σ : mm) : Option ((Int32 × mm) ⊕ (mm)) :=
  if (16 : Int32) ≤ a2 then
  some (.inr (σ))
  else
  Option.bind (rdI σ 80 0 82 ((66 : Int32) + a2)) fun x1 =>
  Option.bind (wrI σ 46 0 16 a2 x1) fun σ2 =>
  Option.bind (some (a2 + (1 : Int32))) fun x3 =>
  some (.inl (x3, σ2))
noncomputable def fX8_comesBack_80_78_L : Int32 × mm → Option ((Int32 × mm) ⊕ (mm)) := fun z => fX8_comesBack_80_78 z.1 z.2
noncomputable def fX8_comesBack_80_52 (a2 : Int32) (σ : mm) : Option ((Int32 × mm) ⊕ (mm)) :=
  if (56 : Int32) ≤ a2 then
  Option.map Sum.inr (lp (fX8_comesBack_80_78_L) ((0 : Int32), σ))
  else
  Option.bind (rdI σ 80 0 82 ((10 : Int32) + a2)) fun x1 =>
  Option.bind (wrI σ 45 0 56 a2 x1) fun σ2 =>
  Option.bind (some (a2 + (1 : Int32))) fun x3 =>
  some (.inl (x3, σ2))
noncomputable def fX8_comesBack_80_52_L : Int32 × mm → Option ((Int32 × mm) ⊕ (mm)) := fun z => fX8_comesBack_80_52 z.1 z.2
noncomputable def fX8_comesBack_80_16 (a2 : Int32) (σ : mm) : Option ((Int32 × mm) ⊕ (mm)) :=
  if (4 : Int32) ≤ a2 then
  Option.map Sum.inr (lp (fX8_comesBack_80_52_L) ((0 : Int32), σ))
  else
  Option.bind (rdI σ 80 0 82 ((2 : Int32) + a2)) fun x1 =>
  Option.bind (wrI σ 42 0 4 a2 x1) fun σ2 =>
  Option.bind (rdI σ2 80 0 82 ((6 : Int32) + a2)) fun x3 =>
  Option.bind (wrI σ2 43 0 4 a2 x3) fun σ4 =>
  Option.bind (some (a2 + (1 : Int32))) fun x5 =>
  some (.inl (x5, σ4))
noncomputable def fX8_comesBack_80_16_L : Int32 × mm → Option ((Int32 × mm) ⊕ (mm)) := fun z => fX8_comesBack_80_16 z.1 z.2
noncomputable def fX8_comesBack_80_0 (σ : mm) : Option (mm) :=
  Option.bind (rdI σ 80 0 82 (0 : Int32)) fun x1 =>
  Option.bind (some (stI σ 32 0 1 x1)) fun σ2 =>
  Option.bind (rdI σ2 80 0 82 (1 : Int32)) fun x3 =>
  Option.bind (some (stI σ2 32 0 4 x3)) fun σ4 =>
  lp (fX8_comesBack_80_16_L) ((0 : Int32), σ4)
noncomputable def fX8_comesBack_80 (σ : mm) : Option (mm) := fX8_comesBack_80_0 σ
set_option maxRecDepth 20000 in
theorem lX8_comesBack_80_78 (a2 : Int32) (σ τ : mm) {r : Option mv} {M' : mm × mm} {v9 : (Int32 × mm) ⊕ (mm)} (h : fX8_comesBack_80_78 a2 σ = some v9) (hk : (Sum.elim (fun z : Int32 × mm => Vm mX8_comesBack 0 78 [(0, .inr (.inr (32, 0))), (1, .inr (.inr (80, 0))), (2, .inl z.1)] [] (τ, z.2) r M') (fun q : mm => r = none ∧ M' = (τ, q))) v9) : Vm mX8_comesBack 0 78 [(0, .inr (.inr (32, 0))), (1, .inr (.inr (80, 0))), (2, .inl a2)] [] (τ, σ) r M' := by
  unfold fX8_comesBack_80_78 at h
  refine Vm.iload_n (n := 79) 2 dX8_comesBack_78 rfl rfl ?_
  refine Vm.bipush (n := 81) (v := (16 : Int32)) dX8_comesBack_79 rfl (by decide) ?_
  refine Vm.icmp_ge (n := 84) 102 dX8_comesBack_81 rfl rfl (fun c9 => ?_) (fun c9 => ?_)
  · replace h := (if_pos c9).symm.trans h
    obtain rfl := Option.some.inj h
    exact Vm.vret dX8_comesBack_102 rfl hk.1 hk.2.symm
  · replace h := (if_neg c9).symm.trans h
    refine Vm.aload_n (n := 85) 0 dX8_comesBack_84 rfl rfl ?_
    refine Vm.getR (n := 88) dX8_comesBack_85 rfl wf_RX8_26 in_32 rfl (by decide) rfl ?_
    refine Vm.iload_n (n := 89) 2 dX8_comesBack_88 rfl rfl ?_
    refine Vm.aload_n (n := 90) 1 dX8_comesBack_89 rfl rfl ?_
    refine Vm.bipush (n := 92) (v := (66 : Int32)) dX8_comesBack_90 rfl (by decide) ?_
    refine Vm.iload_n (n := 93) 2 dX8_comesBack_92 rfl rfl ?_
    refine Vm.iadd (n := 94) dX8_comesBack_93 rfl ?_
    replace h := Option.bind_eq_some_iff.mp h
    obtain ⟨x1, h1, h⟩ := h
    refine Vm.ialdm (n := 95) dX8_comesBack_94 rfl in_80 rfl rfl (by decide) h1 ?_
    replace h := Option.bind_eq_some_iff.mp h
    obtain ⟨σ2, h2, h⟩ := h
    refine Vm.iastm (n := 96) dX8_comesBack_95 rfl in_46 rfl rfl (by decide) h2 ?_
    replace h := Option.bind_eq_some_iff.mp h
    obtain ⟨x3, e3, h⟩ := h
    replace e3 := Option.some.inj e3
    refine Vm.iinc (n := 99) (v := x3) (lv' := [(2, .inl x3), (0, .inr (.inr (32, 0))), (1, .inr (.inr (80, 0)))]) 2 dX8_comesBack_96 rfl rfl e3 (Nat.le_of_ble_eq_true rfl) rfl ?_
    refine Vm.goto 78 dX8_comesBack_99 rfl ?_
    refine Vm.sub (lv' := [(0, .inr (.inr (32, 0))), (1, .inr (.inr (80, 0))), (2, .inl x3)]) [1, 2, 0] rfl ?_
    obtain rfl := Option.some.inj h
    exact hk
theorem lX8_comesBack_80_78_L (τ : mm) {r : Option mv} {M' : mm × mm} (z : Int32 × mm) (w9 : mm) (h : lp (fX8_comesBack_80_78_L) z = some w9) (hk : (fun q : mm => r = none ∧ M' = (τ, q)) w9) : Vm mX8_comesBack 0 78 [(0, .inr (.inr (32, 0))), (1, .inr (.inr (80, 0))), (2, .inl z.1)] [] (τ, z.2) r M' :=
  lp_link (S := Int32 × mm) (R := mm) (body := fX8_comesBack_80_78_L) (A := fun z : Int32 × mm => Vm mX8_comesBack 0 78 [(0, .inr (.inr (32, 0))), (1, .inr (.inr (80, 0))), (2, .inl z.1)] [] (τ, z.2) r M') (B := fun w : mm => (fun q : mm => r = none ∧ M' = (τ, q)) w) (fun z v hb hv => lX8_comesBack_80_78 z.1 z.2 τ hb hv) z w9 h hk
set_option maxRecDepth 20000 in
theorem lX8_comesBack_80_52 (a2 : Int32) (σ τ : mm) {r : Option mv} {M' : mm × mm} {v9 : (Int32 × mm) ⊕ (mm)} (h : fX8_comesBack_80_52 a2 σ = some v9) (hk : (Sum.elim (fun z : Int32 × mm => Vm mX8_comesBack 0 52 [(0, .inr (.inr (32, 0))), (1, .inr (.inr (80, 0))), (2, .inl z.1)] [] (τ, z.2) r M') (fun q : mm => r = none ∧ M' = (τ, q))) v9) : Vm mX8_comesBack 0 52 [(0, .inr (.inr (32, 0))), (1, .inr (.inr (80, 0))), (2, .inl a2)] [] (τ, σ) r M' := by
  unfold fX8_comesBack_80_52 at h
  refine Vm.iload_n (n := 53) 2 dX8_comesBack_52 rfl rfl ?_
  refine Vm.bipush (n := 55) (v := (56 : Int32)) dX8_comesBack_53 rfl (by decide) ?_
  refine Vm.icmp_ge (n := 58) 76 dX8_comesBack_55 rfl rfl (fun c9 => ?_) (fun c9 => ?_)
  · replace h := (if_pos c9).symm.trans h
    refine Vm.iconst (n := 77) (v := (0 : Int32)) dX8_comesBack_76 rfl (by decide) ?_
    refine Vm.istore_n (n := 78) (lv' := [(2, .inl (0 : Int32)), (0, .inr (.inr (32, 0))), (1, .inr (.inr (80, 0)))]) dX8_comesBack_77 rfl (Nat.le_of_ble_eq_true rfl) rfl ?_
    refine Vm.sub (lv' := [(0, .inr (.inr (32, 0))), (1, .inr (.inr (80, 0))), (2, .inl (0 : Int32))]) [1, 2, 0] rfl ?_
    replace h := Option.map_eq_some_iff.mp h
    obtain ⟨w9, h, e8⟩ := h
    subst e8
    exact lX8_comesBack_80_78_L τ ((0 : Int32), σ) _ h hk
  · replace h := (if_neg c9).symm.trans h
    refine Vm.aload_n (n := 59) 0 dX8_comesBack_58 rfl rfl ?_
    refine Vm.getR (n := 62) dX8_comesBack_59 rfl wf_RX8_23 in_32 rfl (by decide) rfl ?_
    refine Vm.iload_n (n := 63) 2 dX8_comesBack_62 rfl rfl ?_
    refine Vm.aload_n (n := 64) 1 dX8_comesBack_63 rfl rfl ?_
    refine Vm.bipush (n := 66) (v := (10 : Int32)) dX8_comesBack_64 rfl (by decide) ?_
    refine Vm.iload_n (n := 67) 2 dX8_comesBack_66 rfl rfl ?_
    refine Vm.iadd (n := 68) dX8_comesBack_67 rfl ?_
    replace h := Option.bind_eq_some_iff.mp h
    obtain ⟨x1, h1, h⟩ := h
    refine Vm.ialdm (n := 69) dX8_comesBack_68 rfl in_80 rfl rfl (by decide) h1 ?_
    replace h := Option.bind_eq_some_iff.mp h
    obtain ⟨σ2, h2, h⟩ := h
    refine Vm.iastm (n := 70) dX8_comesBack_69 rfl in_45 rfl rfl (by decide) h2 ?_
    replace h := Option.bind_eq_some_iff.mp h
    obtain ⟨x3, e3, h⟩ := h
    replace e3 := Option.some.inj e3
    refine Vm.iinc (n := 73) (v := x3) (lv' := [(2, .inl x3), (0, .inr (.inr (32, 0))), (1, .inr (.inr (80, 0)))]) 2 dX8_comesBack_70 rfl rfl e3 (Nat.le_of_ble_eq_true rfl) rfl ?_
    refine Vm.goto 52 dX8_comesBack_73 rfl ?_
    refine Vm.sub (lv' := [(0, .inr (.inr (32, 0))), (1, .inr (.inr (80, 0))), (2, .inl x3)]) [1, 2, 0] rfl ?_
    obtain rfl := Option.some.inj h
    exact hk
theorem lX8_comesBack_80_52_L (τ : mm) {r : Option mv} {M' : mm × mm} (z : Int32 × mm) (w9 : mm) (h : lp (fX8_comesBack_80_52_L) z = some w9) (hk : (fun q : mm => r = none ∧ M' = (τ, q)) w9) : Vm mX8_comesBack 0 52 [(0, .inr (.inr (32, 0))), (1, .inr (.inr (80, 0))), (2, .inl z.1)] [] (τ, z.2) r M' :=
  lp_link (S := Int32 × mm) (R := mm) (body := fX8_comesBack_80_52_L) (A := fun z : Int32 × mm => Vm mX8_comesBack 0 52 [(0, .inr (.inr (32, 0))), (1, .inr (.inr (80, 0))), (2, .inl z.1)] [] (τ, z.2) r M') (B := fun w : mm => (fun q : mm => r = none ∧ M' = (τ, q)) w) (fun z v hb hv => lX8_comesBack_80_52 z.1 z.2 τ hb hv) z w9 h hk
set_option maxRecDepth 20000 in
theorem lX8_comesBack_80_16 (a2 : Int32) (σ τ : mm) {r : Option mv} {M' : mm × mm} {v9 : (Int32 × mm) ⊕ (mm)} (h : fX8_comesBack_80_16 a2 σ = some v9) (hk : (Sum.elim (fun z : Int32 × mm => Vm mX8_comesBack 0 16 [(0, .inr (.inr (32, 0))), (1, .inr (.inr (80, 0))), (2, .inl z.1)] [] (τ, z.2) r M') (fun q : mm => r = none ∧ M' = (τ, q))) v9) : Vm mX8_comesBack 0 16 [(0, .inr (.inr (32, 0))), (1, .inr (.inr (80, 0))), (2, .inl a2)] [] (τ, σ) r M' := by
  unfold fX8_comesBack_80_16 at h
  refine Vm.iload_n (n := 17) 2 dX8_comesBack_16 rfl rfl ?_
  refine Vm.iconst (n := 18) (v := (4 : Int32)) dX8_comesBack_17 rfl (by decide) ?_
  refine Vm.icmp_ge (n := 21) 50 dX8_comesBack_18 rfl rfl (fun c9 => ?_) (fun c9 => ?_)
  · replace h := (if_pos c9).symm.trans h
    refine Vm.iconst (n := 51) (v := (0 : Int32)) dX8_comesBack_50 rfl (by decide) ?_
    refine Vm.istore_n (n := 52) (lv' := [(2, .inl (0 : Int32)), (0, .inr (.inr (32, 0))), (1, .inr (.inr (80, 0)))]) dX8_comesBack_51 rfl (Nat.le_of_ble_eq_true rfl) rfl ?_
    refine Vm.sub (lv' := [(0, .inr (.inr (32, 0))), (1, .inr (.inr (80, 0))), (2, .inl (0 : Int32))]) [1, 2, 0] rfl ?_
    replace h := Option.map_eq_some_iff.mp h
    obtain ⟨w9, h, e8⟩ := h
    subst e8
    exact lX8_comesBack_80_52_L τ ((0 : Int32), σ) _ h hk
  · replace h := (if_neg c9).symm.trans h
    refine Vm.aload_n (n := 22) 0 dX8_comesBack_21 rfl rfl ?_
    refine Vm.getR (n := 25) dX8_comesBack_22 rfl wf_RX8_17 in_32 rfl (by decide) rfl ?_
    refine Vm.iload_n (n := 26) 2 dX8_comesBack_25 rfl rfl ?_
    refine Vm.aload_n (n := 27) 1 dX8_comesBack_26 rfl rfl ?_
    refine Vm.iconst (n := 28) (v := (2 : Int32)) dX8_comesBack_27 rfl (by decide) ?_
    refine Vm.iload_n (n := 29) 2 dX8_comesBack_28 rfl rfl ?_
    refine Vm.iadd (n := 30) dX8_comesBack_29 rfl ?_
    replace h := Option.bind_eq_some_iff.mp h
    obtain ⟨x1, h1, h⟩ := h
    refine Vm.ialdm (n := 31) dX8_comesBack_30 rfl in_80 rfl rfl (by decide) h1 ?_
    replace h := Option.bind_eq_some_iff.mp h
    obtain ⟨σ2, h2, h⟩ := h
    refine Vm.iastm (n := 32) dX8_comesBack_31 rfl in_42 rfl rfl (by decide) h2 ?_
    refine Vm.aload_n (n := 33) 0 dX8_comesBack_32 rfl rfl ?_
    refine Vm.getR (n := 36) dX8_comesBack_33 rfl wf_RX8_20 in_32 rfl (by decide) rfl ?_
    refine Vm.iload_n (n := 37) 2 dX8_comesBack_36 rfl rfl ?_
    refine Vm.aload_n (n := 38) 1 dX8_comesBack_37 rfl rfl ?_
    refine Vm.bipush (n := 40) (v := (6 : Int32)) dX8_comesBack_38 rfl (by decide) ?_
    refine Vm.iload_n (n := 41) 2 dX8_comesBack_40 rfl rfl ?_
    refine Vm.iadd (n := 42) dX8_comesBack_41 rfl ?_
    replace h := Option.bind_eq_some_iff.mp h
    obtain ⟨x3, h3, h⟩ := h
    refine Vm.ialdm (n := 43) dX8_comesBack_42 rfl in_80 rfl rfl (by decide) h3 ?_
    replace h := Option.bind_eq_some_iff.mp h
    obtain ⟨σ4, h4, h⟩ := h
    refine Vm.iastm (n := 44) dX8_comesBack_43 rfl in_43 rfl rfl (by decide) h4 ?_
    replace h := Option.bind_eq_some_iff.mp h
    obtain ⟨x5, e5, h⟩ := h
    replace e5 := Option.some.inj e5
    refine Vm.iinc (n := 47) (v := x5) (lv' := [(2, .inl x5), (0, .inr (.inr (32, 0))), (1, .inr (.inr (80, 0)))]) 2 dX8_comesBack_44 rfl rfl e5 (Nat.le_of_ble_eq_true rfl) rfl ?_
    refine Vm.goto 16 dX8_comesBack_47 rfl ?_
    refine Vm.sub (lv' := [(0, .inr (.inr (32, 0))), (1, .inr (.inr (80, 0))), (2, .inl x5)]) [1, 2, 0] rfl ?_
    obtain rfl := Option.some.inj h
    exact hk
theorem lX8_comesBack_80_16_L (τ : mm) {r : Option mv} {M' : mm × mm} (z : Int32 × mm) (w9 : mm) (h : lp (fX8_comesBack_80_16_L) z = some w9) (hk : (fun q : mm => r = none ∧ M' = (τ, q)) w9) : Vm mX8_comesBack 0 16 [(0, .inr (.inr (32, 0))), (1, .inr (.inr (80, 0))), (2, .inl z.1)] [] (τ, z.2) r M' :=
  lp_link (S := Int32 × mm) (R := mm) (body := fX8_comesBack_80_16_L) (A := fun z : Int32 × mm => Vm mX8_comesBack 0 16 [(0, .inr (.inr (32, 0))), (1, .inr (.inr (80, 0))), (2, .inl z.1)] [] (τ, z.2) r M') (B := fun w : mm => (fun q : mm => r = none ∧ M' = (τ, q)) w) (fun z v hb hv => lX8_comesBack_80_16 z.1 z.2 τ hb hv) z w9 h hk
set_option maxRecDepth 20000 in
theorem lX8_comesBack_80_0 (σ τ : mm) {r : Option mv} {M' : mm × mm} {v9 : mm} (h : fX8_comesBack_80_0 σ = some v9) (hk : (fun q : mm => r = none ∧ M' = (τ, q)) v9) : Vm mX8_comesBack 0 0 [(0, .inr (.inr (32, 0))), (1, .inr (.inr (80, 0)))] [] (τ, σ) r M' := by
  unfold fX8_comesBack_80_0 at h
  refine Vm.aload_n (n := 1) 0 dX8_comesBack_0 rfl rfl ?_
  refine Vm.aload_n (n := 2) 1 dX8_comesBack_1 rfl rfl ?_
  refine Vm.iconst (n := 3) (v := (0 : Int32)) dX8_comesBack_2 rfl (by decide) ?_
  replace h := Option.bind_eq_some_iff.mp h
  obtain ⟨x1, h1, h⟩ := h
  refine Vm.ialdm (n := 4) dX8_comesBack_3 rfl in_80 rfl rfl (by decide) h1 ?_
  refine Vm.pM (n := 7) (ty := .int) dX8_comesBack_4 rfl wf_RX8_13 in_32 rfl (by decide) rfl (by decide) rfl rfl rfl rfl ?_
  replace h := Option.bind_eq_some_iff.mp h
  obtain ⟨σ2, e2, h⟩ := h
  replace e2 := Option.some.inj e2
  refine Vm.mem (congrArg (fun z => (τ, z)) e2) ?_
  refine Vm.aload_n (n := 8) 0 dX8_comesBack_7 rfl rfl ?_
  refine Vm.aload_n (n := 9) 1 dX8_comesBack_8 rfl rfl ?_
  refine Vm.iconst (n := 10) (v := (1 : Int32)) dX8_comesBack_9 rfl (by decide) ?_
  replace h := Option.bind_eq_some_iff.mp h
  obtain ⟨x3, h3, h⟩ := h
  refine Vm.ialdm (n := 11) dX8_comesBack_10 rfl in_80 rfl rfl (by decide) h3 ?_
  refine Vm.pM (n := 14) (ty := .int) dX8_comesBack_11 rfl wf_RX8_97 in_32 rfl (by decide) rfl (by decide) rfl rfl rfl rfl ?_
  replace h := Option.bind_eq_some_iff.mp h
  obtain ⟨σ4, e4, h⟩ := h
  replace e4 := Option.some.inj e4
  refine Vm.mem (congrArg (fun z => (τ, z)) e4) ?_
  refine Vm.iconst (n := 15) (v := (0 : Int32)) dX8_comesBack_14 rfl (by decide) ?_
  refine Vm.istore_n (n := 16) (lv' := [(2, .inl (0 : Int32)), (0, .inr (.inr (32, 0))), (1, .inr (.inr (80, 0)))]) dX8_comesBack_15 rfl (Nat.le_of_ble_eq_true rfl) rfl ?_
  refine Vm.sub (lv' := [(0, .inr (.inr (32, 0))), (1, .inr (.inr (80, 0))), (2, .inl (0 : Int32))]) [1, 2, 0] rfl ?_
  exact lX8_comesBack_80_16_L τ ((0 : Int32), σ4) _ h hk
theorem kX8_comesBack_80 (σ τ : mm) {q : mm} (h : fX8_comesBack_80 σ = some q) : Cx mX8_comesBack 0 [.inr (.inr (32, 0)), .inr (.inr (80, 0))] (τ, σ) (none) (τ, q) :=
  Cx.of (lv := [(0, .inr (.inr (32, 0))), (1, .inr (.inr (80, 0)))]) (by decide) (fun ad => Nat.le_of_ble_eq_true rfl) (fun ad => rfl) (lX8_comesBack_80_0 σ τ h ⟨rfl, rfl⟩)
-- ThinBodiesModel text ()I
noncomputable def fX8_text_67 (a1 : Int32) (s0 : Int32) (σ : mm) : Option (Int32 × mm) :=
  Option.bind (some (stI σ 32 0 28 (0 : Int32))) fun σ1 =>
  if s0 = (0 : Int32) then
  Option.bind (fX8_comesBack_80 σ1) fun q2 =>
  some (((-1 : Int32) - (q2.1 32 0 30), q2))
  else
  some ((a1, σ1))
noncomputable def fX8_text_66 (a1 : Int32) (σ : mm) : Option (Int32 × mm) :=
  fX8_text_67 a1 (0 : Int32) σ
noncomputable def fX8_text_50 (a1 : Int32) (a2 : Int32) (σ : mm) : Option (Int32 × mm) :=
  if a2 = (0 : Int32) then
  fX8_text_66 a1 σ
  else
  if (σ.1 32 0 31) = (-1 : Int32) then
  fX8_text_67 a1 (1 : Int32) σ
  else
  fX8_text_66 a1 σ
noncomputable def fX8_text_24 (a1 : Int32) (a2 : Int32) (σ : mm) : Option ((Int32 × Int32 × mm) ⊕ (Int32 × mm)) :=
  if a2 = (0 : Int32) then
  Option.map Sum.inr (fX8_text_50 a1 a2 σ)
  else
  if (σ.1 32 0 31) = (0 : Int32) then
  Option.bind (fX8_next σ) fun q1 =>
  Option.bind (fX8_readsItem q1) fun q2 =>
  Option.bind (some (bi q2.1)) fun x3 =>
  Option.bind (some (a1 + (1 : Int32))) fun x4 =>
  some (.inl (x4, x3, q2.2))
  else
  Option.map Sum.inr (fX8_text_50 a1 a2 σ)
noncomputable def fX8_text_24_L : Int32 × Int32 × mm → Option ((Int32 × Int32 × mm) ⊕ (Int32 × mm)) := fun z => fX8_text_24 z.1 z.2.1 z.2.2
noncomputable def fX8_text_0 (σ : mm) : Option (Int32 × mm) :=
  Option.bind (fX8_keeps_80 σ) fun q1 =>
  Option.bind (some (stI q1 32 0 29 (0 : Int32))) fun σ2 =>
  Option.bind (fX8_next σ2) fun q3 =>
  Option.bind (fX8_readsItem q3) fun q4 =>
  Option.bind (some (bi q4.1)) fun x5 =>
  lp (fX8_text_24_L) ((1 : Int32), x5, q4.2)
noncomputable def fX8_text (σ : mm) : Option (Int32 × mm) := fX8_text_0 σ
set_option maxRecDepth 20000 in
theorem lX8_text_67 (a1 : Int32) (s0 : Int32) (σ τ : mm) {r : Option mv} {M' : mm × mm} {v9 : Int32 × mm} (h : fX8_text_67 a1 s0 σ = some v9) (hk : (fun q : Int32 × mm => r = some (.inl q.1) ∧ M' = (τ, q.2)) v9) : Vm mX8_text 7 67 [(0, .inr (.inr (32, 0))), (1, .inl a1)] [.inl s0] (τ, σ) r M' := by
  unfold fX8_text_67 at h
  refine Vm.istore_n (n := 68) (lv' := [(2, .inl s0), (0, .inr (.inr (32, 0))), (1, .inl a1)]) dX8_text_67 rfl (Nat.le_of_ble_eq_true rfl) rfl ?_
  refine Vm.aload_n (n := 69) 1 dX8_text_68 rfl rfl ?_
  refine Vm.iconst (n := 70) (v := (0 : Int32)) dX8_text_69 rfl (by decide) ?_
  refine Vm.pM (n := 73) (ty := .int) dX8_text_70 rfl wf_RX8_301 in_32 rfl (by decide) rfl (by decide) rfl rfl rfl rfl ?_
  replace h := Option.bind_eq_some_iff.mp h
  obtain ⟨σ1, e1, h⟩ := h
  replace e1 := Option.some.inj e1
  refine Vm.mem (congrArg (fun z => (τ, z)) e1) ?_
  refine Vm.iload_n (n := 74) 0 dX8_text_73 rfl rfl ?_
  refine Vm.if_eq (n := 77) 79 dX8_text_74 rfl rfl (fun c9 => ?_) (fun c9 => ?_)
  · replace h := (if_pos c9).symm.trans h
    refine Vm.aload_n (n := 80) 1 dX8_text_79 rfl rfl ?_
    refine Vm.aload_n (n := 81) 1 dX8_text_80 rfl rfl ?_
    refine Vm.getR (n := 84) dX8_text_81 rfl wf_RX8_86 in_32 rfl (by decide) rfl ?_
    replace h := Option.bind_eq_some_iff.mp h
    obtain ⟨q2, h2, h⟩ := h
    refine Vm.callVv (Y := mX8_comesBack) (n := 87) [.inr (.inr (80, 0))] dX8_text_84 rfl wv_RX8_367 omX8_comesBack rfl in_32 rfl rfl rfl (Nat.le_of_ble_eq_true rfl) (by decide) (kX8_comesBack_80 σ1 τ h2) ?_
    refine Vm.iconst (n := 88) (v := (-1 : Int32)) dX8_text_87 rfl (by decide) ?_
    refine Vm.aload_n (n := 89) 1 dX8_text_88 rfl rfl ?_
    refine Vm.gM (n := 92) dX8_text_89 rfl wf_RX8_307 in_32 rfl (by decide) rfl (by decide) ?_
    refine Vm.isub (n := 93) dX8_text_92 rfl ?_
    obtain rfl := Option.some.inj h
    exact Vm.iret dX8_text_93 rfl hk.1 hk.2.symm
  · replace h := (if_neg c9).symm.trans h
    refine Vm.iload_n (n := 78) 2 dX8_text_77 rfl rfl ?_
    obtain rfl := Option.some.inj h
    exact Vm.iret dX8_text_78 rfl hk.1 hk.2.symm
set_option maxRecDepth 20000 in
theorem lX8_text_66 (a1 : Int32) (σ τ : mm) {r : Option mv} {M' : mm × mm} {v9 : Int32 × mm} (h : fX8_text_66 a1 σ = some v9) (hk : (fun q : Int32 × mm => r = some (.inl q.1) ∧ M' = (τ, q.2)) v9) : Vm mX8_text 7 66 [(0, .inr (.inr (32, 0))), (1, .inl a1)] [] (τ, σ) r M' := by
  unfold fX8_text_66 at h
  refine Vm.iconst (n := 67) (v := (0 : Int32)) dX8_text_66 rfl (by decide) ?_
  exact lX8_text_67 a1 (0 : Int32) σ τ h hk
set_option maxRecDepth 20000 in
theorem lX8_text_50 (a1 : Int32) (a2 : Int32) (σ τ : mm) {r : Option mv} {M' : mm × mm} {v9 : Int32 × mm} (h : fX8_text_50 a1 a2 σ = some v9) (hk : (fun q : Int32 × mm => r = some (.inl q.1) ∧ M' = (τ, q.2)) v9) : Vm mX8_text 7 50 [(0, .inr (.inr (32, 0))), (1, .inl a1), (2, .inl a2)] [] (τ, σ) r M' := by
  unfold fX8_text_50 at h
  refine Vm.iload_n (n := 51) 2 dX8_text_50 rfl rfl ?_
  refine Vm.if_eq (n := 54) 66 dX8_text_51 rfl rfl (fun c9 => ?_) (fun c9 => ?_)
  · replace h := (if_pos c9).symm.trans h
    refine Vm.sub (lv' := [(0, .inr (.inr (32, 0))), (1, .inl a1)]) [0, 1] rfl ?_
    exact lX8_text_66 a1 σ τ h hk
  · replace h := (if_neg c9).symm.trans h
    refine Vm.aload_n (n := 55) 0 dX8_text_54 rfl rfl ?_
    refine Vm.gM (n := 58) dX8_text_55 rfl wf_RX8_313 in_32 rfl (by decide) rfl (by decide) ?_
    refine Vm.iconst (n := 59) (v := (-1 : Int32)) dX8_text_58 rfl (by decide) ?_
    refine Vm.icmp_ne (n := 62) 66 dX8_text_59 rfl rfl (fun c9 => ?_) (fun c9 => ?_)
    · replace h := (if_neg c9).symm.trans h
      refine Vm.sub (lv' := [(0, .inr (.inr (32, 0))), (1, .inl a1)]) [0, 1] rfl ?_
      exact lX8_text_66 a1 σ τ h hk
    · replace h := (if_pos c9).symm.trans h
      refine Vm.iconst (n := 63) (v := (1 : Int32)) dX8_text_62 rfl (by decide) ?_
      refine Vm.goto 67 dX8_text_63 rfl ?_
      refine Vm.sub (lv' := [(0, .inr (.inr (32, 0))), (1, .inl a1)]) [0, 1] rfl ?_
      exact lX8_text_67 a1 (1 : Int32) σ τ h hk
set_option maxRecDepth 20000 in
theorem lX8_text_24 (a1 : Int32) (a2 : Int32) (σ τ : mm) {r : Option mv} {M' : mm × mm} {v9 : (Int32 × Int32 × mm) ⊕ (Int32 × mm)} (h : fX8_text_24 a1 a2 σ = some v9) (hk : (Sum.elim (fun z : Int32 × Int32 × mm => Vm mX8_text 7 24 [(0, .inr (.inr (32, 0))), (1, .inl z.1), (2, .inl z.2.1)] [] (τ, z.2.2) r M') (fun q : Int32 × mm => r = some (.inl q.1) ∧ M' = (τ, q.2))) v9) : Vm mX8_text 7 24 [(0, .inr (.inr (32, 0))), (1, .inl a1), (2, .inl a2)] [] (τ, σ) r M' := by
  unfold fX8_text_24 at h
  refine Vm.iload_n (n := 25) 2 dX8_text_24 rfl rfl ?_
  refine Vm.if_eq (n := 28) 50 dX8_text_25 rfl rfl (fun c9 => ?_) (fun c9 => ?_)
  · replace h := (if_pos c9).symm.trans h
    replace h := Option.map_eq_some_iff.mp h
    obtain ⟨w9, h, e8⟩ := h
    subst e8
    exact lX8_text_50 a1 a2 σ τ h hk
  · replace h := (if_neg c9).symm.trans h
    refine Vm.aload_n (n := 29) 0 dX8_text_28 rfl rfl ?_
    refine Vm.gM (n := 32) dX8_text_29 rfl wf_RX8_313 in_32 rfl (by decide) rfl (by decide) ?_
    refine Vm.if_ne (n := 35) 50 dX8_text_32 rfl rfl (fun c9 => ?_) (fun c9 => ?_)
    · replace h := (if_neg c9).symm.trans h
      replace h := Option.map_eq_some_iff.mp h
      obtain ⟨w9, h, e8⟩ := h
      subst e8
      exact lX8_text_50 a1 a2 σ τ h hk
    · replace h := (if_pos c9).symm.trans h
      refine Vm.aload_n (n := 36) 0 dX8_text_35 rfl rfl ?_
      replace h := Option.bind_eq_some_iff.mp h
      obtain ⟨q1, h1, h⟩ := h
      refine Vm.callVv (Y := mX8_next) (n := 39) [] dX8_text_36 rfl wv_RX8_336 omX8_next rfl in_32 rfl rfl rfl (Nat.le_of_ble_eq_true rfl) (by decide) (kX8_next σ τ h1) ?_
      refine Vm.aload_n (n := 40) 0 dX8_text_39 rfl rfl ?_
      replace h := Option.bind_eq_some_iff.mp h
      obtain ⟨q2, h2, h⟩ := h
      refine Vm.callV (Y := mX8_readsItem) (n := 43) [] dX8_text_40 rfl wv_RX8_364 omX8_readsItem rfl in_32 rfl rfl rfl (Nat.le_of_ble_eq_true rfl) (by decide) (kX8_readsItem q1 τ h2) ?_
      replace h := Option.bind_eq_some_iff.mp h
      obtain ⟨x3, e3, h⟩ := h
      replace e3 := Option.some.inj e3
      refine Vm.top e3 ?_
      refine Vm.istore_n (n := 44) (lv' := [(2, .inl x3), (0, .inr (.inr (32, 0))), (1, .inl a1)]) dX8_text_43 rfl (Nat.le_of_ble_eq_true rfl) rfl ?_
      replace h := Option.bind_eq_some_iff.mp h
      obtain ⟨x4, e4, h⟩ := h
      replace e4 := Option.some.inj e4
      refine Vm.iinc (n := 47) (v := x4) (lv' := [(1, .inl x4), (2, .inl x3), (0, .inr (.inr (32, 0)))]) 2 dX8_text_44 rfl rfl e4 (Nat.le_of_ble_eq_true rfl) rfl ?_
      refine Vm.goto 24 dX8_text_47 rfl ?_
      refine Vm.sub (lv' := [(0, .inr (.inr (32, 0))), (1, .inl x4), (2, .inl x3)]) [2, 0, 1] rfl ?_
      obtain rfl := Option.some.inj h
      exact hk
theorem lX8_text_24_L (τ : mm) {r : Option mv} {M' : mm × mm} (z : Int32 × Int32 × mm) (w9 : Int32 × mm) (h : lp (fX8_text_24_L) z = some w9) (hk : (fun q : Int32 × mm => r = some (.inl q.1) ∧ M' = (τ, q.2)) w9) : Vm mX8_text 7 24 [(0, .inr (.inr (32, 0))), (1, .inl z.1), (2, .inl z.2.1)] [] (τ, z.2.2) r M' :=
  lp_link (S := Int32 × Int32 × mm) (R := Int32 × mm) (body := fX8_text_24_L) (A := fun z : Int32 × Int32 × mm => Vm mX8_text 7 24 [(0, .inr (.inr (32, 0))), (1, .inl z.1), (2, .inl z.2.1)] [] (τ, z.2.2) r M') (B := fun w : Int32 × mm => (fun q : Int32 × mm => r = some (.inl q.1) ∧ M' = (τ, q.2)) w) (fun z v hb hv => lX8_text_24 z.1 z.2.1 z.2.2 τ hb hv) z w9 h hk
set_option maxRecDepth 20000 in
theorem lX8_text_0 (σ τ : mm) {r : Option mv} {M' : mm × mm} {v9 : Int32 × mm} (h : fX8_text_0 σ = some v9) (hk : (fun q : Int32 × mm => r = some (.inl q.1) ∧ M' = (τ, q.2)) v9) : Vm mX8_text 7 0 [(0, .inr (.inr (32, 0)))] [] (τ, σ) r M' := by
  unfold fX8_text_0 at h
  refine Vm.aload_n (n := 1) 0 dX8_text_0 rfl rfl ?_
  refine Vm.aload_n (n := 2) 0 dX8_text_1 rfl rfl ?_
  refine Vm.getR (n := 5) dX8_text_2 rfl wf_RX8_86 in_32 rfl (by decide) rfl ?_
  replace h := Option.bind_eq_some_iff.mp h
  obtain ⟨q1, h1, h⟩ := h
  refine Vm.callVv (Y := mX8_keeps) (n := 8) [.inr (.inr (80, 0))] dX8_text_5 rfl wv_RX8_360 omX8_keeps rfl in_32 rfl rfl rfl (Nat.le_of_ble_eq_true rfl) (by decide) (kX8_keeps_80 σ τ h1) ?_
  refine Vm.aload_n (n := 9) 0 dX8_text_8 rfl rfl ?_
  refine Vm.iconst (n := 10) (v := (0 : Int32)) dX8_text_9 rfl (by decide) ?_
  refine Vm.pM (n := 13) (ty := .int) dX8_text_10 rfl wf_RX8_304 in_32 rfl (by decide) rfl (by decide) rfl rfl rfl rfl ?_
  replace h := Option.bind_eq_some_iff.mp h
  obtain ⟨σ2, e2, h⟩ := h
  replace e2 := Option.some.inj e2
  refine Vm.mem (congrArg (fun z => (τ, z)) e2) ?_
  refine Vm.aload_n (n := 14) 0 dX8_text_13 rfl rfl ?_
  replace h := Option.bind_eq_some_iff.mp h
  obtain ⟨q3, h3, h⟩ := h
  refine Vm.callVv (Y := mX8_next) (n := 17) [] dX8_text_14 rfl wv_RX8_336 omX8_next rfl in_32 rfl rfl rfl (Nat.le_of_ble_eq_true rfl) (by decide) (kX8_next σ2 τ h3) ?_
  refine Vm.iconst (n := 18) (v := (1 : Int32)) dX8_text_17 rfl (by decide) ?_
  refine Vm.istore_n (n := 19) (lv' := [(1, .inl (1 : Int32)), (0, .inr (.inr (32, 0)))]) dX8_text_18 rfl (Nat.le_of_ble_eq_true rfl) rfl ?_
  refine Vm.aload_n (n := 20) 1 dX8_text_19 rfl rfl ?_
  replace h := Option.bind_eq_some_iff.mp h
  obtain ⟨q4, h4, h⟩ := h
  refine Vm.callV (Y := mX8_readsItem) (n := 23) [] dX8_text_20 rfl wv_RX8_364 omX8_readsItem rfl in_32 rfl rfl rfl (Nat.le_of_ble_eq_true rfl) (by decide) (kX8_readsItem q3 τ h4) ?_
  replace h := Option.bind_eq_some_iff.mp h
  obtain ⟨x5, e5, h⟩ := h
  replace e5 := Option.some.inj e5
  refine Vm.top e5 ?_
  refine Vm.istore_n (n := 24) (lv' := [(2, .inl x5), (1, .inl (1 : Int32)), (0, .inr (.inr (32, 0)))]) dX8_text_23 rfl (Nat.le_of_ble_eq_true rfl) rfl ?_
  refine Vm.sub (lv' := [(0, .inr (.inr (32, 0))), (1, .inl (1 : Int32)), (2, .inl x5)]) [2, 1, 0] rfl ?_
  exact lX8_text_24_L τ ((1 : Int32), x5, q4.2) _ h hk
theorem kX8_text (σ τ : mm) {q : Int32 × mm} (h : fX8_text σ = some q) : Cx mX8_text 7 [.inr (.inr (32, 0))] (τ, σ) (some (.inl q.1)) (τ, q.2) :=
  Cx.of (lv := [(0, .inr (.inr (32, 0)))]) (by decide) (fun ad => Nat.le_of_ble_eq_true rfl) (fun ad => rfl) (lX8_text_0 σ τ h ⟨rfl, rfl⟩)
-- ThinBodiesModel sheet (III)I
noncomputable def fX8_sheet_93 (a1 : Int32) (a4 : Int32) (σ : mm) : Option ((Int32 × mm) ⊕ (Int32 × mm)) :=
  if (40 : Int32) ≤ a4 then
  Option.bind (rdI σ 76 0 4 a1) fun x1 =>
  some (.inr ((x1, σ)))
  else
  Option.bind (wrL σ 77 0 160 (((40 : Int32) * a1) + a4) (0 : Int64)) fun σ2 =>
  Option.bind (some (a4 + (1 : Int32))) fun x3 =>
  some (.inl (x3, σ2))
noncomputable def fX8_sheet_93_L (a1 : Int32) : Int32 × mm → Option ((Int32 × mm) ⊕ (Int32 × mm)) := fun z => fX8_sheet_93 a1 z.1 z.2
noncomputable def fX8_sheet_89 (a1 : Int32) (s1 : Int32) (s2 : Int32) (σ : mm) : Option (Int32 × mm) :=
  Option.bind (wrI σ 76 0 4 s1 s2) fun σ1 =>
  lp (fX8_sheet_93_L a1) ((0 : Int32), σ1)
noncomputable def fX8_sheet_68 (a1 : Int32) (a2 : Int32) (a3 : Int32) (σ : mm) : Option (Int32 × mm) :=
  Option.bind (wrI σ 75 0 4 a1 a2) fun σ1 =>
  if a2 = (0 : Int32) then
  fX8_sheet_89 a1 a1 (0 : Int32) σ1
  else
  fX8_sheet_89 a1 a1 a3 σ1
noncomputable def fX8_sheet_51 (a1 : Int32) (a2 : Int32) (a3 : Int32) (σ : mm) : Option (Int32 × mm) :=
  if a2 = (0 : Int32) then
  fX8_sheet_68 a1 a2 a3 σ
  else
  if a3 ≤ (40 : Int32) then
  fX8_sheet_68 a1 a2 a3 σ
  else
  Option.bind (fX8_finds (-1000000001 : Int32) σ) fun q1 =>
  some ((q1.1, q1.2))
noncomputable def fX8_sheet_36 (a1 : Int32) (a2 : Int32) (a3 : Int32) (σ : mm) : Option (Int32 × mm) :=
  if a2 = (0 : Int32) then
  fX8_sheet_51 a1 a2 a3 σ
  else
  if (0 : Int32) ≤ a3 then
  fX8_sheet_51 a1 a2 a3 σ
  else
  Option.bind (fX8_finds (-1000000007 : Int32) σ) fun q1 =>
  some ((q1.1, q1.2))
noncomputable def fX8_sheet_29 (σ : mm) : Option (Int32 × mm) :=
  Option.bind (fX8_finds (-1000000001 : Int32) σ) fun q1 =>
  some ((q1.1, q1.2))
noncomputable def fX8_sheet_0 (a1 : Int32) (a2 : Int32) (a3 : Int32) (σ : mm) : Option (Int32 × mm) :=
  if (bi (fX8_isSheet a1)) = (0 : Int32) then
  fX8_sheet_29 σ
  else
  if a2 = (0 : Int32) then
  fX8_sheet_36 a1 a2 a3 σ
  else
  if a2 = (8 : Int32) then
  fX8_sheet_36 a1 a2 a3 σ
  else
  if a2 = (16 : Int32) then
  fX8_sheet_36 a1 a2 a3 σ
  else
  if a2 = (64 : Int32) then
  fX8_sheet_36 a1 a2 a3 σ
  else
  fX8_sheet_29 σ
noncomputable def fX8_sheet (a1 : Int32) (a2 : Int32) (a3 : Int32) (σ : mm) : Option (Int32 × mm) := fX8_sheet_0 a1 a2 a3 σ
set_option maxRecDepth 20000 in
theorem lX8_sheet_93 (a1 : Int32) (a4 : Int32) (σ τ : mm) {r : Option mv} {M' : mm × mm} {v9 : (Int32 × mm) ⊕ (Int32 × mm)} (h : fX8_sheet_93 a1 a4 σ = some v9) (hk : (Sum.elim (fun z : Int32 × mm => Vm mX8_sheet 2 93 [(0, .inr (.inr (32, 0))), (1, .inl a1), (4, .inl z.1)] [] (τ, z.2) r M') (fun q : Int32 × mm => r = some (.inl q.1) ∧ M' = (τ, q.2))) v9) : Vm mX8_sheet 2 93 [(0, .inr (.inr (32, 0))), (1, .inl a1), (4, .inl a4)] [] (τ, σ) r M' := by
  unfold fX8_sheet_93 at h
  refine Vm.iload (n := 95) 2 dX8_sheet_93 rfl rfl ?_
  refine Vm.bipush (n := 97) (v := (40 : Int32)) dX8_sheet_95 rfl (by decide) ?_
  refine Vm.icmp_ge (n := 100) 119 dX8_sheet_97 rfl rfl (fun c9 => ?_) (fun c9 => ?_)
  · replace h := (if_pos c9).symm.trans h
    refine Vm.aload_n (n := 120) 0 dX8_sheet_119 rfl rfl ?_
    refine Vm.getR (n := 123) dX8_sheet_120 rfl wf_RX8_74 in_32 rfl (by decide) rfl ?_
    refine Vm.iload_n (n := 124) 1 dX8_sheet_123 rfl rfl ?_
    replace h := Option.bind_eq_some_iff.mp h
    obtain ⟨x1, h1, h⟩ := h
    refine Vm.ialdm (n := 125) dX8_sheet_124 rfl in_76 rfl rfl (by decide) h1 ?_
    obtain rfl := Option.some.inj h
    exact Vm.iret dX8_sheet_125 rfl hk.1 hk.2.symm
  · replace h := (if_neg c9).symm.trans h
    refine Vm.aload_n (n := 101) 0 dX8_sheet_100 rfl rfl ?_
    refine Vm.getR (n := 104) dX8_sheet_101 rfl wf_RX8_77 in_32 rfl (by decide) rfl ?_
    refine Vm.bipush (n := 106) (v := (40 : Int32)) dX8_sheet_104 rfl (by decide) ?_
    refine Vm.iload_n (n := 107) 1 dX8_sheet_106 rfl rfl ?_
    refine Vm.imul (n := 108) dX8_sheet_107 rfl ?_
    refine Vm.iload (n := 110) 2 dX8_sheet_108 rfl rfl ?_
    refine Vm.iadd (n := 111) dX8_sheet_110 rfl ?_
    refine Vm.lconst (n := 112) (v := (0 : Int64)) dX8_sheet_111 rfl (by decide) ?_
    replace h := Option.bind_eq_some_iff.mp h
    obtain ⟨σ2, h2, h⟩ := h
    refine Vm.lastm (n := 113) dX8_sheet_112 rfl in_77 rfl rfl (by decide) h2 ?_
    replace h := Option.bind_eq_some_iff.mp h
    obtain ⟨x3, e3, h⟩ := h
    replace e3 := Option.some.inj e3
    refine Vm.iinc (n := 116) (v := x3) (lv' := [(4, .inl x3), (0, .inr (.inr (32, 0))), (1, .inl a1)]) 2 dX8_sheet_113 rfl rfl e3 (Nat.le_of_ble_eq_true rfl) rfl ?_
    refine Vm.goto 93 dX8_sheet_116 rfl ?_
    refine Vm.sub (lv' := [(0, .inr (.inr (32, 0))), (1, .inl a1), (4, .inl x3)]) [1, 2, 0] rfl ?_
    obtain rfl := Option.some.inj h
    exact hk
theorem lX8_sheet_93_L (a1 : Int32) (τ : mm) {r : Option mv} {M' : mm × mm} (z : Int32 × mm) (w9 : Int32 × mm) (h : lp (fX8_sheet_93_L a1) z = some w9) (hk : (fun q : Int32 × mm => r = some (.inl q.1) ∧ M' = (τ, q.2)) w9) : Vm mX8_sheet 2 93 [(0, .inr (.inr (32, 0))), (1, .inl a1), (4, .inl z.1)] [] (τ, z.2) r M' :=
  lp_link (S := Int32 × mm) (R := Int32 × mm) (body := fX8_sheet_93_L a1) (A := fun z : Int32 × mm => Vm mX8_sheet 2 93 [(0, .inr (.inr (32, 0))), (1, .inl a1), (4, .inl z.1)] [] (τ, z.2) r M') (B := fun w : Int32 × mm => (fun q : Int32 × mm => r = some (.inl q.1) ∧ M' = (τ, q.2)) w) (fun z v hb hv => lX8_sheet_93 a1 z.1 z.2 τ hb hv) z w9 h hk
set_option maxRecDepth 20000 in
theorem lX8_sheet_89 (a1 : Int32) (s1 : Int32) (s2 : Int32) (σ τ : mm) {r : Option mv} {M' : mm × mm} {v9 : Int32 × mm} (h : fX8_sheet_89 a1 s1 s2 σ = some v9) (hk : (fun q : Int32 × mm => r = some (.inl q.1) ∧ M' = (τ, q.2)) v9) : Vm mX8_sheet 2 89 [(0, .inr (.inr (32, 0))), (1, .inl a1)] [.inl s2, .inl s1, .inr (.inr (76, 0))] (τ, σ) r M' := by
  unfold fX8_sheet_89 at h
  replace h := Option.bind_eq_some_iff.mp h
  obtain ⟨σ1, h1, h⟩ := h
  refine Vm.iastm (n := 90) dX8_sheet_89 rfl in_76 rfl rfl (by decide) h1 ?_
  refine Vm.iconst (n := 91) (v := (0 : Int32)) dX8_sheet_90 rfl (by decide) ?_
  refine Vm.istore (n := 93) (lv' := [(4, .inl (0 : Int32)), (0, .inr (.inr (32, 0))), (1, .inl a1)]) dX8_sheet_91 rfl (Nat.le_of_ble_eq_true rfl) rfl ?_
  refine Vm.sub (lv' := [(0, .inr (.inr (32, 0))), (1, .inl a1), (4, .inl (0 : Int32))]) [1, 2, 0] rfl ?_
  exact lX8_sheet_93_L a1 τ ((0 : Int32), σ1) _ h hk
set_option maxRecDepth 20000 in
theorem lX8_sheet_68 (a1 : Int32) (a2 : Int32) (a3 : Int32) (σ τ : mm) {r : Option mv} {M' : mm × mm} {v9 : Int32 × mm} (h : fX8_sheet_68 a1 a2 a3 σ = some v9) (hk : (fun q : Int32 × mm => r = some (.inl q.1) ∧ M' = (τ, q.2)) v9) : Vm mX8_sheet 2 68 [(0, .inr (.inr (32, 0))), (1, .inl a1), (2, .inl a2), (3, .inl a3)] [] (τ, σ) r M' := by
  unfold fX8_sheet_68 at h
  refine Vm.aload_n (n := 69) 0 dX8_sheet_68 rfl rfl ?_
  refine Vm.getR (n := 72) dX8_sheet_69 rfl wf_RX8_71 in_32 rfl (by decide) rfl ?_
  refine Vm.iload_n (n := 73) 1 dX8_sheet_72 rfl rfl ?_
  refine Vm.iload_n (n := 74) 2 dX8_sheet_73 rfl rfl ?_
  replace h := Option.bind_eq_some_iff.mp h
  obtain ⟨σ1, h1, h⟩ := h
  refine Vm.iastm (n := 75) dX8_sheet_74 rfl in_75 rfl rfl (by decide) h1 ?_
  refine Vm.aload_n (n := 76) 0 dX8_sheet_75 rfl rfl ?_
  refine Vm.getR (n := 79) dX8_sheet_76 rfl wf_RX8_74 in_32 rfl (by decide) rfl ?_
  refine Vm.iload_n (n := 80) 1 dX8_sheet_79 rfl rfl ?_
  refine Vm.iload_n (n := 81) 2 dX8_sheet_80 rfl rfl ?_
  refine Vm.if_ne (n := 84) 88 dX8_sheet_81 rfl rfl (fun c9 => ?_) (fun c9 => ?_)
  · replace h := (if_neg c9).symm.trans h
    refine Vm.iload_n (n := 89) 3 dX8_sheet_88 rfl rfl ?_
    refine Vm.sub (lv' := [(0, .inr (.inr (32, 0))), (1, .inl a1)]) [0, 1] rfl ?_
    exact lX8_sheet_89 a1 a1 a3 σ1 τ h hk
  · replace h := (if_pos c9).symm.trans h
    refine Vm.iconst (n := 85) (v := (0 : Int32)) dX8_sheet_84 rfl (by decide) ?_
    refine Vm.goto 89 dX8_sheet_85 rfl ?_
    refine Vm.sub (lv' := [(0, .inr (.inr (32, 0))), (1, .inl a1)]) [0, 1] rfl ?_
    exact lX8_sheet_89 a1 a1 (0 : Int32) σ1 τ h hk
set_option maxRecDepth 20000 in
theorem lX8_sheet_51 (a1 : Int32) (a2 : Int32) (a3 : Int32) (σ τ : mm) {r : Option mv} {M' : mm × mm} {v9 : Int32 × mm} (h : fX8_sheet_51 a1 a2 a3 σ = some v9) (hk : (fun q : Int32 × mm => r = some (.inl q.1) ∧ M' = (τ, q.2)) v9) : Vm mX8_sheet 2 51 [(0, .inr (.inr (32, 0))), (1, .inl a1), (2, .inl a2), (3, .inl a3)] [] (τ, σ) r M' := by
  unfold fX8_sheet_51 at h
  refine Vm.iload_n (n := 52) 2 dX8_sheet_51 rfl rfl ?_
  refine Vm.if_eq (n := 55) 68 dX8_sheet_52 rfl rfl (fun c9 => ?_) (fun c9 => ?_)
  · replace h := (if_pos c9).symm.trans h
    exact lX8_sheet_68 a1 a2 a3 σ τ h hk
  · replace h := (if_neg c9).symm.trans h
    refine Vm.iload_n (n := 56) 3 dX8_sheet_55 rfl rfl ?_
    refine Vm.bipush (n := 58) (v := (40 : Int32)) dX8_sheet_56 rfl (by decide) ?_
    refine Vm.icmp_le (n := 61) 68 dX8_sheet_58 rfl rfl (fun c9 => ?_) (fun c9 => ?_)
    · replace h := (if_pos c9).symm.trans h
      exact lX8_sheet_68 a1 a2 a3 σ τ h hk
    · replace h := (if_neg c9).symm.trans h
      refine Vm.aload_n (n := 62) 0 dX8_sheet_61 rfl rfl ?_
      refine Vm.ldc (n := 64) dX8_sheet_62 rfl wc_RX8_92 ?_
      replace h := Option.bind_eq_some_iff.mp h
      obtain ⟨q1, h1, h⟩ := h
      refine Vm.callV (Y := mX8_finds) (n := 67) [.inl (-1000000001 : Int32)] dX8_sheet_64 rfl wv_RX8_102 omX8_finds rfl in_32 rfl rfl rfl (Nat.le_of_ble_eq_true rfl) (by decide) (kX8_finds (-1000000001 : Int32) σ τ h1) ?_
      obtain rfl := Option.some.inj h
      exact Vm.iret dX8_sheet_67 rfl hk.1 hk.2.symm
set_option maxRecDepth 20000 in
theorem lX8_sheet_36 (a1 : Int32) (a2 : Int32) (a3 : Int32) (σ τ : mm) {r : Option mv} {M' : mm × mm} {v9 : Int32 × mm} (h : fX8_sheet_36 a1 a2 a3 σ = some v9) (hk : (fun q : Int32 × mm => r = some (.inl q.1) ∧ M' = (τ, q.2)) v9) : Vm mX8_sheet 2 36 [(0, .inr (.inr (32, 0))), (1, .inl a1), (2, .inl a2), (3, .inl a3)] [] (τ, σ) r M' := by
  unfold fX8_sheet_36 at h
  refine Vm.iload_n (n := 37) 2 dX8_sheet_36 rfl rfl ?_
  refine Vm.if_eq (n := 40) 51 dX8_sheet_37 rfl rfl (fun c9 => ?_) (fun c9 => ?_)
  · replace h := (if_pos c9).symm.trans h
    exact lX8_sheet_51 a1 a2 a3 σ τ h hk
  · replace h := (if_neg c9).symm.trans h
    refine Vm.iload_n (n := 41) 3 dX8_sheet_40 rfl rfl ?_
    refine Vm.if_ge (n := 44) 51 dX8_sheet_41 rfl rfl (fun c9 => ?_) (fun c9 => ?_)
    · replace h := (if_pos c9).symm.trans h
      exact lX8_sheet_51 a1 a2 a3 σ τ h hk
    · replace h := (if_neg c9).symm.trans h
      refine Vm.aload_n (n := 45) 0 dX8_sheet_44 rfl rfl ?_
      refine Vm.ldc (n := 47) dX8_sheet_45 rfl wc_RX8_199 ?_
      replace h := Option.bind_eq_some_iff.mp h
      obtain ⟨q1, h1, h⟩ := h
      refine Vm.callV (Y := mX8_finds) (n := 50) [.inl (-1000000007 : Int32)] dX8_sheet_47 rfl wv_RX8_102 omX8_finds rfl in_32 rfl rfl rfl (Nat.le_of_ble_eq_true rfl) (by decide) (kX8_finds (-1000000007 : Int32) σ τ h1) ?_
      obtain rfl := Option.some.inj h
      exact Vm.iret dX8_sheet_50 rfl hk.1 hk.2.symm
set_option maxRecDepth 20000 in
theorem lX8_sheet_29 (σ τ : mm) {r : Option mv} {M' : mm × mm} {v9 : Int32 × mm} (h : fX8_sheet_29 σ = some v9) (hk : (fun q : Int32 × mm => r = some (.inl q.1) ∧ M' = (τ, q.2)) v9) : Vm mX8_sheet 2 29 [(0, .inr (.inr (32, 0)))] [] (τ, σ) r M' := by
  unfold fX8_sheet_29 at h
  refine Vm.aload_n (n := 30) 0 dX8_sheet_29 rfl rfl ?_
  refine Vm.ldc (n := 32) dX8_sheet_30 rfl wc_RX8_92 ?_
  replace h := Option.bind_eq_some_iff.mp h
  obtain ⟨q1, h1, h⟩ := h
  refine Vm.callV (Y := mX8_finds) (n := 35) [.inl (-1000000001 : Int32)] dX8_sheet_32 rfl wv_RX8_102 omX8_finds rfl in_32 rfl rfl rfl (Nat.le_of_ble_eq_true rfl) (by decide) (kX8_finds (-1000000001 : Int32) σ τ h1) ?_
  obtain rfl := Option.some.inj h
  exact Vm.iret dX8_sheet_35 rfl hk.1 hk.2.symm
set_option maxRecDepth 20000 in
theorem lX8_sheet_0 (a1 : Int32) (a2 : Int32) (a3 : Int32) (σ τ : mm) {r : Option mv} {M' : mm × mm} {v9 : Int32 × mm} (h : fX8_sheet_0 a1 a2 a3 σ = some v9) (hk : (fun q : Int32 × mm => r = some (.inl q.1) ∧ M' = (τ, q.2)) v9) : Vm mX8_sheet 2 0 [(0, .inr (.inr (32, 0))), (1, .inl a1), (2, .inl a2), (3, .inl a3)] [] (τ, σ) r M' := by
  unfold fX8_sheet_0 at h
  refine Vm.iload_n (n := 1) 1 dX8_sheet_0 rfl rfl ?_
  refine Vm.callS (Y := mX8_isSheet) (n := 4) [.inl a1] dX8_sheet_1 rfl wv_RX8_195 omX8_isSheet rfl rfl (Nat.le_of_ble_eq_true rfl) (by decide) (kX8_isSheet a1 rfl) ?_
  refine Vm.if_eq (n := 7) 29 dX8_sheet_4 rfl rfl (fun c9 => ?_) (fun c9 => ?_)
  · replace h := (if_pos c9).symm.trans h
    refine Vm.sub (lv' := [(0, .inr (.inr (32, 0)))]) [0] rfl ?_
    exact lX8_sheet_29 σ τ h hk
  · replace h := (if_neg c9).symm.trans h
    refine Vm.iload_n (n := 8) 2 dX8_sheet_7 rfl rfl ?_
    refine Vm.if_eq (n := 11) 36 dX8_sheet_8 rfl rfl (fun c9 => ?_) (fun c9 => ?_)
    · replace h := (if_pos c9).symm.trans h
      exact lX8_sheet_36 a1 a2 a3 σ τ h hk
    · replace h := (if_neg c9).symm.trans h
      refine Vm.iload_n (n := 12) 2 dX8_sheet_11 rfl rfl ?_
      refine Vm.bipush (n := 14) (v := (8 : Int32)) dX8_sheet_12 rfl (by decide) ?_
      refine Vm.icmp_eq (n := 17) 36 dX8_sheet_14 rfl rfl (fun c9 => ?_) (fun c9 => ?_)
      · replace h := (if_pos c9).symm.trans h
        exact lX8_sheet_36 a1 a2 a3 σ τ h hk
      · replace h := (if_neg c9).symm.trans h
        refine Vm.iload_n (n := 18) 2 dX8_sheet_17 rfl rfl ?_
        refine Vm.bipush (n := 20) (v := (16 : Int32)) dX8_sheet_18 rfl (by decide) ?_
        refine Vm.icmp_eq (n := 23) 36 dX8_sheet_20 rfl rfl (fun c9 => ?_) (fun c9 => ?_)
        · replace h := (if_pos c9).symm.trans h
          exact lX8_sheet_36 a1 a2 a3 σ τ h hk
        · replace h := (if_neg c9).symm.trans h
          refine Vm.iload_n (n := 24) 2 dX8_sheet_23 rfl rfl ?_
          refine Vm.bipush (n := 26) (v := (64 : Int32)) dX8_sheet_24 rfl (by decide) ?_
          refine Vm.icmp_eq (n := 29) 36 dX8_sheet_26 rfl rfl (fun c9 => ?_) (fun c9 => ?_)
          · replace h := (if_pos c9).symm.trans h
            exact lX8_sheet_36 a1 a2 a3 σ τ h hk
          · replace h := (if_neg c9).symm.trans h
            refine Vm.sub (lv' := [(0, .inr (.inr (32, 0)))]) [0] rfl ?_
            exact lX8_sheet_29 σ τ h hk
theorem kX8_sheet (a1 : Int32) (a2 : Int32) (a3 : Int32) (σ τ : mm) {q : Int32 × mm} (h : fX8_sheet a1 a2 a3 σ = some q) : Cx mX8_sheet 2 [.inr (.inr (32, 0)), .inl a1, .inl a2, .inl a3] (τ, σ) (some (.inl q.1)) (τ, q.2) :=
  Cx.of (lv := [(0, .inr (.inr (32, 0))), (1, .inl a1), (2, .inl a2), (3, .inl a3)]) (by decide) (fun ad => Nat.le_of_ble_eq_true rfl) (fun ad => rfl) (lX8_sheet_0 a1 a2 a3 σ τ h ⟨rfl, rfl⟩)
-- ThinBodiesModel narrow (IJ)J
def fX8_narrow_0 (a0 : Int32) (a1 : Int64) : Int64 :=
  if a0 = (8 : Int32) then
  a1.toInt32.toInt8.toInt32.toInt64
  else
  if a0 = (16 : Int32) then
  a1.toInt32.toInt16.toInt32.toInt64
  else
  a1
def fX8_narrow (a0 : Int32) (a1 : Int64) : Int64 := fX8_narrow_0 a0 a1
set_option maxRecDepth 20000 in
theorem lX8_narrow_0 (a0 : Int32) (a1 : Int64) {M : mm × mm} {r : Option mv} {M' : mm × mm} {v9 : Int64} (h : fX8_narrow_0 a0 a1 = v9) (hk : (fun q : Int64 => r = some (.inr (.inl q)) ∧ M' = M) v9) : Vm mX8_narrow 0 0 [(0, .inl a0), (1, .inr (.inl a1))] [] M r M' := by
  unfold fX8_narrow_0 at h
  refine Vm.iload_n (n := 1) 0 dX8_narrow_0 rfl rfl ?_
  refine Vm.bipush (n := 3) (v := (8 : Int32)) dX8_narrow_1 rfl (by decide) ?_
  refine Vm.icmp_ne (n := 6) 13 dX8_narrow_3 rfl rfl (fun c9 => ?_) (fun c9 => ?_)
  · replace h := (if_neg c9).symm.trans h
    refine Vm.iload_n (n := 14) 0 dX8_narrow_13 rfl rfl ?_
    refine Vm.bipush (n := 16) (v := (16 : Int32)) dX8_narrow_14 rfl (by decide) ?_
    refine Vm.icmp_ne (n := 19) 26 dX8_narrow_16 rfl rfl (fun c9 => ?_) (fun c9 => ?_)
    · replace h := (if_neg c9).symm.trans h
      refine Vm.lload_n (n := 27) 1 dX8_narrow_26 rfl rfl ?_
      subst h
      exact Vm.lret dX8_narrow_27 rfl hk.1 hk.2.symm
    · replace h := (if_pos c9).symm.trans h
      refine Vm.lload_n (n := 20) 1 dX8_narrow_19 rfl rfl ?_
      refine Vm.l2i (n := 21) dX8_narrow_20 rfl ?_
      refine Vm.i2s (n := 22) dX8_narrow_21 rfl ?_
      refine Vm.i2l (n := 23) dX8_narrow_22 rfl ?_
      refine Vm.goto 27 dX8_narrow_23 rfl ?_
      subst h
      exact Vm.lret dX8_narrow_27 rfl hk.1 hk.2.symm
  · replace h := (if_pos c9).symm.trans h
    refine Vm.lload_n (n := 7) 1 dX8_narrow_6 rfl rfl ?_
    refine Vm.l2i (n := 8) dX8_narrow_7 rfl ?_
    refine Vm.i2b (n := 9) dX8_narrow_8 rfl ?_
    refine Vm.i2l (n := 10) dX8_narrow_9 rfl ?_
    refine Vm.goto 27 dX8_narrow_10 rfl ?_
    subst h
    exact Vm.lret dX8_narrow_27 rfl hk.1 hk.2.symm
theorem kX8_narrow (a0 : Int32) (a1 : Int64) {M : mm × mm} {q : Int64} (h : fX8_narrow a0 a1 = q) : Cx mX8_narrow 0 [.inl a0, .inr (.inl a1)] M (some (.inr (.inl q))) M :=
  Cx.of (lv := [(0, .inl a0), (1, .inr (.inl a1))]) (by decide) (fun ad => Nat.le_of_ble_eq_true rfl) (fun ad => rfl) (lX8_narrow_0 a0 a1 h ⟨rfl, rfl⟩)
-- ThinBodiesModel write (IIJ)J
def fX8_write_0 (a1 : Int32) (a2 : Int32) (a3 : Int64) (σ : mm) : Option (Int64 × mm) :=
  if (bi (fX8_isSheet a1)) = (0 : Int32) then
  Option.bind (fX8_finds (-1000000001 : Int32) σ) fun q8 =>
  some ((q8.1.toInt64, q8.2))
  else
  Option.bind (rdI σ 75 0 4 a1) fun x1 =>
  if x1 = (0 : Int32) then
  Option.bind (fX8_finds (-1000000006 : Int32) σ) fun q7 =>
  some ((q7.1.toInt64, q7.2))
  else
  Option.bind (rdI σ 76 0 4 a1) fun x2 =>
  if (bi (fX8_in a2.toInt64 (0 : Int64) ((x2 - (1 : Int32)).toInt64))) = (0 : Int32) then
  Option.bind (fX8_finds (-1000000001 : Int32) σ) fun q6 =>
  some ((q6.1.toInt64, q6.2))
  else
  Option.bind (rdL σ 77 0 160 (((40 : Int32) * a1) + a2)) fun x3 =>
  Option.bind (rdI σ 75 0 4 a1) fun x4 =>
  Option.bind (wrL σ 77 0 160 (((40 : Int32) * a1) + a2) (fX8_narrow x4 a3)) fun σ5 =>
  some ((x3, σ5))
def fX8_write (a1 : Int32) (a2 : Int32) (a3 : Int64) (σ : mm) : Option (Int64 × mm) := fX8_write_0 a1 a2 a3 σ
set_option maxRecDepth 20000 in
theorem lX8_write_0 (a1 : Int32) (a2 : Int32) (a3 : Int64) (σ τ : mm) {r : Option mv} {M' : mm × mm} {v9 : Int64 × mm} (h : fX8_write_0 a1 a2 a3 σ = some v9) (hk : (fun q : Int64 × mm => r = some (.inr (.inl q.1)) ∧ M' = (τ, q.2)) v9) : Vm mX8_write 2 0 [(0, .inr (.inr (32, 0))), (1, .inl a1), (2, .inl a2), (3, .inr (.inl a3))] [] (τ, σ) r M' := by
  unfold fX8_write_0 at h
  refine Vm.iload_n (n := 1) 1 dX8_write_0 rfl rfl ?_
  refine Vm.callS (Y := mX8_isSheet) (n := 4) [.inl a1] dX8_write_1 rfl wv_RX8_195 omX8_isSheet rfl rfl (Nat.le_of_ble_eq_true rfl) (by decide) (kX8_isSheet a1 rfl) ?_
  refine Vm.if_ne (n := 7) 15 dX8_write_4 rfl rfl (fun c9 => ?_) (fun c9 => ?_)
  · replace h := (if_neg c9).symm.trans h
    refine Vm.aload_n (n := 16) 0 dX8_write_15 rfl rfl ?_
    refine Vm.getR (n := 19) dX8_write_16 rfl wf_RX8_71 in_32 rfl (by decide) rfl ?_
    refine Vm.iload_n (n := 20) 1 dX8_write_19 rfl rfl ?_
    replace h := Option.bind_eq_some_iff.mp h
    obtain ⟨x1, h1, h⟩ := h
    refine Vm.ialdm (n := 21) dX8_write_20 rfl in_75 rfl rfl (by decide) h1 ?_
    refine Vm.if_ne (n := 24) 32 dX8_write_21 rfl rfl (fun c9 => ?_) (fun c9 => ?_)
    · replace h := (if_neg c9).symm.trans h
      refine Vm.iload_n (n := 33) 2 dX8_write_32 rfl rfl ?_
      refine Vm.i2l (n := 34) dX8_write_33 rfl ?_
      refine Vm.lconst (n := 35) (v := (0 : Int64)) dX8_write_34 rfl (by decide) ?_
      refine Vm.aload_n (n := 36) 0 dX8_write_35 rfl rfl ?_
      refine Vm.getR (n := 39) dX8_write_36 rfl wf_RX8_74 in_32 rfl (by decide) rfl ?_
      refine Vm.iload_n (n := 40) 1 dX8_write_39 rfl rfl ?_
      replace h := Option.bind_eq_some_iff.mp h
      obtain ⟨x2, h2, h⟩ := h
      refine Vm.ialdm (n := 41) dX8_write_40 rfl in_76 rfl rfl (by decide) h2 ?_
      refine Vm.iconst (n := 42) (v := (1 : Int32)) dX8_write_41 rfl (by decide) ?_
      refine Vm.isub (n := 43) dX8_write_42 rfl ?_
      refine Vm.i2l (n := 44) dX8_write_43 rfl ?_
      refine Vm.callS (Y := mX8_in) (n := 47) [.inr (.inl a2.toInt64), .inr (.inl (0 : Int64)), .inr (.inl ((x2 - (1 : Int32)).toInt64))] dX8_write_44 rfl wv_RX8_93 omX8_in rfl rfl (Nat.le_of_ble_eq_true rfl) (by decide) (kX8_in a2.toInt64 (0 : Int64) ((x2 - (1 : Int32)).toInt64) rfl) ?_
      refine Vm.if_ne (n := 50) 58 dX8_write_47 rfl rfl (fun c9 => ?_) (fun c9 => ?_)
      · replace h := (if_neg c9).symm.trans h
        refine Vm.aload_n (n := 59) 0 dX8_write_58 rfl rfl ?_
        refine Vm.getR (n := 62) dX8_write_59 rfl wf_RX8_77 in_32 rfl (by decide) rfl ?_
        refine Vm.bipush (n := 64) (v := (40 : Int32)) dX8_write_62 rfl (by decide) ?_
        refine Vm.iload_n (n := 65) 1 dX8_write_64 rfl rfl ?_
        refine Vm.imul (n := 66) dX8_write_65 rfl ?_
        refine Vm.iload_n (n := 67) 2 dX8_write_66 rfl rfl ?_
        refine Vm.iadd (n := 68) dX8_write_67 rfl ?_
        replace h := Option.bind_eq_some_iff.mp h
        obtain ⟨x3, h3, h⟩ := h
        refine Vm.laldm (n := 69) dX8_write_68 rfl in_77 rfl rfl (by decide) h3 ?_
        refine Vm.lstore (n := 71) (lv' := [(5, .inr (.inl x3)), (0, .inr (.inr (32, 0))), (1, .inl a1), (2, .inl a2), (3, .inr (.inl a3))]) dX8_write_69 rfl (Nat.le_of_ble_eq_true rfl) rfl ?_
        refine Vm.aload_n (n := 72) 1 dX8_write_71 rfl rfl ?_
        refine Vm.getR (n := 75) dX8_write_72 rfl wf_RX8_77 in_32 rfl (by decide) rfl ?_
        refine Vm.bipush (n := 77) (v := (40 : Int32)) dX8_write_75 rfl (by decide) ?_
        refine Vm.iload_n (n := 78) 2 dX8_write_77 rfl rfl ?_
        refine Vm.imul (n := 79) dX8_write_78 rfl ?_
        refine Vm.iload_n (n := 80) 3 dX8_write_79 rfl rfl ?_
        refine Vm.iadd (n := 81) dX8_write_80 rfl ?_
        refine Vm.aload_n (n := 82) 1 dX8_write_81 rfl rfl ?_
        refine Vm.getR (n := 85) dX8_write_82 rfl wf_RX8_71 in_32 rfl (by decide) rfl ?_
        refine Vm.iload_n (n := 86) 2 dX8_write_85 rfl rfl ?_
        replace h := Option.bind_eq_some_iff.mp h
        obtain ⟨x4, h4, h⟩ := h
        refine Vm.ialdm (n := 87) dX8_write_86 rfl in_75 rfl rfl (by decide) h4 ?_
        refine Vm.lload_n (n := 88) 4 dX8_write_87 rfl rfl ?_
        refine Vm.callS (Y := mX8_narrow) (n := 91) [.inl x4, .inr (.inl a3)] dX8_write_88 rfl wv_RX8_370 omX8_narrow rfl rfl (Nat.le_of_ble_eq_true rfl) (by decide) (kX8_narrow x4 a3 rfl) ?_
        replace h := Option.bind_eq_some_iff.mp h
        obtain ⟨σ5, h5, h⟩ := h
        refine Vm.lastm (n := 92) dX8_write_91 rfl in_77 rfl rfl (by decide) h5 ?_
        refine Vm.lload (n := 94) 0 dX8_write_92 rfl rfl ?_
        obtain rfl := Option.some.inj h
        exact Vm.lret dX8_write_94 rfl hk.1 hk.2.symm
      · replace h := (if_pos c9).symm.trans h
        refine Vm.aload_n (n := 51) 0 dX8_write_50 rfl rfl ?_
        refine Vm.ldc (n := 53) dX8_write_51 rfl wc_RX8_92 ?_
        replace h := Option.bind_eq_some_iff.mp h
        obtain ⟨q6, h6, h⟩ := h
        refine Vm.callV (Y := mX8_finds) (n := 56) [.inl (-1000000001 : Int32)] dX8_write_53 rfl wv_RX8_102 omX8_finds rfl in_32 rfl rfl rfl (Nat.le_of_ble_eq_true rfl) (by decide) (kX8_finds (-1000000001 : Int32) σ τ h6) ?_
        refine Vm.i2l (n := 57) dX8_write_56 rfl ?_
        obtain rfl := Option.some.inj h
        exact Vm.lret dX8_write_57 rfl hk.1 hk.2.symm
    · replace h := (if_pos c9).symm.trans h
      refine Vm.aload_n (n := 25) 0 dX8_write_24 rfl rfl ?_
      refine Vm.ldc (n := 27) dX8_write_25 rfl wc_RX8_198 ?_
      replace h := Option.bind_eq_some_iff.mp h
      obtain ⟨q7, h7, h⟩ := h
      refine Vm.callV (Y := mX8_finds) (n := 30) [.inl (-1000000006 : Int32)] dX8_write_27 rfl wv_RX8_102 omX8_finds rfl in_32 rfl rfl rfl (Nat.le_of_ble_eq_true rfl) (by decide) (kX8_finds (-1000000006 : Int32) σ τ h7) ?_
      refine Vm.i2l (n := 31) dX8_write_30 rfl ?_
      obtain rfl := Option.some.inj h
      exact Vm.lret dX8_write_31 rfl hk.1 hk.2.symm
  · replace h := (if_pos c9).symm.trans h
    refine Vm.aload_n (n := 8) 0 dX8_write_7 rfl rfl ?_
    refine Vm.ldc (n := 10) dX8_write_8 rfl wc_RX8_92 ?_
    replace h := Option.bind_eq_some_iff.mp h
    obtain ⟨q8, h8, h⟩ := h
    refine Vm.callV (Y := mX8_finds) (n := 13) [.inl (-1000000001 : Int32)] dX8_write_10 rfl wv_RX8_102 omX8_finds rfl in_32 rfl rfl rfl (Nat.le_of_ble_eq_true rfl) (by decide) (kX8_finds (-1000000001 : Int32) σ τ h8) ?_
    refine Vm.i2l (n := 14) dX8_write_13 rfl ?_
    obtain rfl := Option.some.inj h
    exact Vm.lret dX8_write_14 rfl hk.1 hk.2.symm
theorem kX8_write (a1 : Int32) (a2 : Int32) (a3 : Int64) (σ τ : mm) {q : Int64 × mm} (h : fX8_write a1 a2 a3 σ = some q) : Cx mX8_write 2 [.inr (.inr (32, 0)), .inl a1, .inl a2, .inr (.inl a3)] (τ, σ) (some (.inr (.inl q.1))) (τ, q.2) :=
  Cx.of (lv := [(0, .inr (.inr (32, 0))), (1, .inl a1), (2, .inl a2), (3, .inr (.inl a3))]) (by decide) (fun ad => Nat.le_of_ble_eq_true rfl) (fun ad => rfl) (lX8_write_0 a1 a2 a3 σ τ h ⟨rfl, rfl⟩)
-- ThinBodiesModel copy (IIIII)I
noncomputable def fX8_copy_156 (a3 : Int32) (a4 : Int32) (a5 : Int32) (a6 : Int32) (σ : mm) : Option ((Int32 × mm) ⊕ (Int32 × mm)) :=
  if a5 ≤ a6 then
  some (.inr ((a5, σ)))
  else
  Option.bind (rdL σ 78 0 40 a6) fun x1 =>
  Option.bind (wrL σ 77 0 160 ((((40 : Int32) * a3) + a4) + a6) x1) fun σ2 =>
  Option.bind (some (a6 + (1 : Int32))) fun x3 =>
  some (.inl (x3, σ2))
noncomputable def fX8_copy_156_L (a3 : Int32) (a4 : Int32) (a5 : Int32) : Int32 × mm → Option ((Int32 × mm) ⊕ (Int32 × mm)) := fun z => fX8_copy_156 a3 a4 a5 z.1 z.2
noncomputable def fX8_copy_119 (a1 : Int32) (a2 : Int32) (a3 : Int32) (a4 : Int32) (a5 : Int32) (a6 : Int32) (σ : mm) : Option ((Int32 × mm) ⊕ (Int32 × mm)) :=
  if a5 ≤ a6 then
  Option.map Sum.inr (lp (fX8_copy_156_L a3 a4 a5) ((0 : Int32), σ))
  else
  Option.bind (rdL σ 77 0 160 ((((40 : Int32) * a1) + a2) + a6)) fun x1 =>
  Option.bind (wrL σ 78 0 40 a6 x1) fun σ2 =>
  Option.bind (some (a6 + (1 : Int32))) fun x3 =>
  some (.inl (x3, σ2))
noncomputable def fX8_copy_119_L (a1 : Int32) (a2 : Int32) (a3 : Int32) (a4 : Int32) (a5 : Int32) : Int32 × mm → Option ((Int32 × mm) ⊕ (Int32 × mm)) := fun z => fX8_copy_119 a1 a2 a3 a4 a5 z.1 z.2
noncomputable def fX8_copy_109 (σ : mm) : Option (Int32 × mm) :=
  Option.bind (fX8_finds (-1000000001 : Int32) σ) fun q1 =>
  some ((q1.1, q1.2))
noncomputable def fX8_copy_39 (σ : mm) : Option (Int32 × mm) :=
  Option.bind (fX8_finds (-1000000006 : Int32) σ) fun q1 =>
  some ((q1.1, q1.2))
noncomputable def fX8_copy_14 (σ : mm) : Option (Int32 × mm) :=
  Option.bind (fX8_finds (-1000000001 : Int32) σ) fun q1 =>
  some ((q1.1, q1.2))
noncomputable def fX8_copy_0 (a1 : Int32) (a2 : Int32) (a3 : Int32) (a4 : Int32) (a5 : Int32) (σ : mm) : Option (Int32 × mm) :=
  if (bi (fX8_isSheet a1)) = (0 : Int32) then
  fX8_copy_14 σ
  else
  if (bi (fX8_isSheet a3)) = (0 : Int32) then
  fX8_copy_14 σ
  else
  Option.bind (rdI σ 75 0 4 a1) fun x1 =>
  if x1 = (0 : Int32) then
  fX8_copy_39 σ
  else
  Option.bind (rdI σ 75 0 4 a3) fun x2 =>
  if x2 = (0 : Int32) then
  fX8_copy_39 σ
  else
  Option.bind (rdI σ 75 0 4 a1) fun x3 =>
  Option.bind (rdI σ 75 0 4 a3) fun x4 =>
  if x3 = x4 then
  if a5 < (0 : Int32) then
  fX8_copy_109 σ
  else
  if a2 < (0 : Int32) then
  fX8_copy_109 σ
  else
  if a4 < (0 : Int32) then
  fX8_copy_109 σ
  else
  Option.bind (rdI σ 76 0 4 a1) fun x5 =>
  if (x5 - a5) < a2 then
  fX8_copy_109 σ
  else
  Option.bind (rdI σ 76 0 4 a3) fun x6 =>
  if a4 ≤ (x6 - a5) then
  lp (fX8_copy_119_L a1 a2 a3 a4 a5) ((0 : Int32), σ)
  else
  fX8_copy_109 σ
  else
  Option.bind (fX8_finds (-1000000003 : Int32) σ) fun q7 =>
  some ((q7.1, q7.2))
noncomputable def fX8_copy (a1 : Int32) (a2 : Int32) (a3 : Int32) (a4 : Int32) (a5 : Int32) (σ : mm) : Option (Int32 × mm) := fX8_copy_0 a1 a2 a3 a4 a5 σ
set_option maxRecDepth 20000 in
theorem lX8_copy_156 (a3 : Int32) (a4 : Int32) (a5 : Int32) (a6 : Int32) (σ τ : mm) {r : Option mv} {M' : mm × mm} {v9 : (Int32 × mm) ⊕ (Int32 × mm)} (h : fX8_copy_156 a3 a4 a5 a6 σ = some v9) (hk : (Sum.elim (fun z : Int32 × mm => Vm mX8_copy 2 156 [(0, .inr (.inr (32, 0))), (3, .inl a3), (4, .inl a4), (5, .inl a5), (6, .inl z.1)] [] (τ, z.2) r M') (fun q : Int32 × mm => r = some (.inl q.1) ∧ M' = (τ, q.2))) v9) : Vm mX8_copy 2 156 [(0, .inr (.inr (32, 0))), (3, .inl a3), (4, .inl a4), (5, .inl a5), (6, .inl a6)] [] (τ, σ) r M' := by
  unfold fX8_copy_156 at h
  refine Vm.iload (n := 158) 4 dX8_copy_156 rfl rfl ?_
  refine Vm.iload (n := 160) 3 dX8_copy_158 rfl rfl ?_
  refine Vm.icmp_ge (n := 163) 191 dX8_copy_160 rfl rfl (fun c9 => ?_) (fun c9 => ?_)
  · replace h := (if_pos c9).symm.trans h
    refine Vm.iload (n := 193) 3 dX8_copy_191 rfl rfl ?_
    obtain rfl := Option.some.inj h
    exact Vm.iret dX8_copy_193 rfl hk.1 hk.2.symm
  · replace h := (if_neg c9).symm.trans h
    refine Vm.aload_n (n := 164) 0 dX8_copy_163 rfl rfl ?_
    refine Vm.getR (n := 167) dX8_copy_164 rfl wf_RX8_77 in_32 rfl (by decide) rfl ?_
    refine Vm.bipush (n := 169) (v := (40 : Int32)) dX8_copy_167 rfl (by decide) ?_
    refine Vm.iload_n (n := 170) 1 dX8_copy_169 rfl rfl ?_
    refine Vm.imul (n := 171) dX8_copy_170 rfl ?_
    refine Vm.iload (n := 173) 2 dX8_copy_171 rfl rfl ?_
    refine Vm.iadd (n := 174) dX8_copy_173 rfl ?_
    refine Vm.iload (n := 176) 4 dX8_copy_174 rfl rfl ?_
    refine Vm.iadd (n := 177) dX8_copy_176 rfl ?_
    refine Vm.aload_n (n := 178) 0 dX8_copy_177 rfl rfl ?_
    refine Vm.getR (n := 181) dX8_copy_178 rfl wf_RX8_80 in_32 rfl (by decide) rfl ?_
    refine Vm.iload (n := 183) 4 dX8_copy_181 rfl rfl ?_
    replace h := Option.bind_eq_some_iff.mp h
    obtain ⟨x1, h1, h⟩ := h
    refine Vm.laldm (n := 184) dX8_copy_183 rfl in_78 rfl rfl (by decide) h1 ?_
    replace h := Option.bind_eq_some_iff.mp h
    obtain ⟨σ2, h2, h⟩ := h
    refine Vm.lastm (n := 185) dX8_copy_184 rfl in_77 rfl rfl (by decide) h2 ?_
    replace h := Option.bind_eq_some_iff.mp h
    obtain ⟨x3, e3, h⟩ := h
    replace e3 := Option.some.inj e3
    refine Vm.iinc (n := 188) (v := x3) (lv' := [(6, .inl x3), (0, .inr (.inr (32, 0))), (3, .inl a3), (4, .inl a4), (5, .inl a5)]) 4 dX8_copy_185 rfl rfl e3 (Nat.le_of_ble_eq_true rfl) rfl ?_
    refine Vm.goto 156 dX8_copy_188 rfl ?_
    refine Vm.sub (lv' := [(0, .inr (.inr (32, 0))), (3, .inl a3), (4, .inl a4), (5, .inl a5), (6, .inl x3)]) [1, 2, 3, 4, 0] rfl ?_
    obtain rfl := Option.some.inj h
    exact hk
theorem lX8_copy_156_L (a3 : Int32) (a4 : Int32) (a5 : Int32) (τ : mm) {r : Option mv} {M' : mm × mm} (z : Int32 × mm) (w9 : Int32 × mm) (h : lp (fX8_copy_156_L a3 a4 a5) z = some w9) (hk : (fun q : Int32 × mm => r = some (.inl q.1) ∧ M' = (τ, q.2)) w9) : Vm mX8_copy 2 156 [(0, .inr (.inr (32, 0))), (3, .inl a3), (4, .inl a4), (5, .inl a5), (6, .inl z.1)] [] (τ, z.2) r M' :=
  lp_link (S := Int32 × mm) (R := Int32 × mm) (body := fX8_copy_156_L a3 a4 a5) (A := fun z : Int32 × mm => Vm mX8_copy 2 156 [(0, .inr (.inr (32, 0))), (3, .inl a3), (4, .inl a4), (5, .inl a5), (6, .inl z.1)] [] (τ, z.2) r M') (B := fun w : Int32 × mm => (fun q : Int32 × mm => r = some (.inl q.1) ∧ M' = (τ, q.2)) w) (fun z v hb hv => lX8_copy_156 a3 a4 a5 z.1 z.2 τ hb hv) z w9 h hk
set_option maxRecDepth 20000 in
theorem lX8_copy_119 (a1 : Int32) (a2 : Int32) (a3 : Int32) (a4 : Int32) (a5 : Int32) (a6 : Int32) (σ τ : mm) {r : Option mv} {M' : mm × mm} {v9 : (Int32 × mm) ⊕ (Int32 × mm)} (h : fX8_copy_119 a1 a2 a3 a4 a5 a6 σ = some v9) (hk : (Sum.elim (fun z : Int32 × mm => Vm mX8_copy 2 119 [(0, .inr (.inr (32, 0))), (1, .inl a1), (2, .inl a2), (3, .inl a3), (4, .inl a4), (5, .inl a5), (6, .inl z.1)] [] (τ, z.2) r M') (fun q : Int32 × mm => r = some (.inl q.1) ∧ M' = (τ, q.2))) v9) : Vm mX8_copy 2 119 [(0, .inr (.inr (32, 0))), (1, .inl a1), (2, .inl a2), (3, .inl a3), (4, .inl a4), (5, .inl a5), (6, .inl a6)] [] (τ, σ) r M' := by
  unfold fX8_copy_119 at h
  refine Vm.iload (n := 121) 6 dX8_copy_119 rfl rfl ?_
  refine Vm.iload (n := 123) 5 dX8_copy_121 rfl rfl ?_
  refine Vm.icmp_ge (n := 126) 153 dX8_copy_123 rfl rfl (fun c9 => ?_) (fun c9 => ?_)
  · replace h := (if_pos c9).symm.trans h
    refine Vm.iconst (n := 154) (v := (0 : Int32)) dX8_copy_153 rfl (by decide) ?_
    refine Vm.istore (n := 156) (lv' := [(6, .inl (0 : Int32)), (0, .inr (.inr (32, 0))), (1, .inl a1), (2, .inl a2), (3, .inl a3), (4, .inl a4), (5, .inl a5)]) dX8_copy_154 rfl (Nat.le_of_ble_eq_true rfl) rfl ?_
    refine Vm.sub (lv' := [(0, .inr (.inr (32, 0))), (3, .inl a3), (4, .inl a4), (5, .inl a5), (6, .inl (0 : Int32))]) [1, 4, 5, 6, 0] rfl ?_
    replace h := Option.map_eq_some_iff.mp h
    obtain ⟨w9, h, e8⟩ := h
    subst e8
    exact lX8_copy_156_L a3 a4 a5 τ ((0 : Int32), σ) _ h hk
  · replace h := (if_neg c9).symm.trans h
    refine Vm.aload_n (n := 127) 0 dX8_copy_126 rfl rfl ?_
    refine Vm.getR (n := 130) dX8_copy_127 rfl wf_RX8_80 in_32 rfl (by decide) rfl ?_
    refine Vm.iload (n := 132) 6 dX8_copy_130 rfl rfl ?_
    refine Vm.aload_n (n := 133) 0 dX8_copy_132 rfl rfl ?_
    refine Vm.getR (n := 136) dX8_copy_133 rfl wf_RX8_77 in_32 rfl (by decide) rfl ?_
    refine Vm.bipush (n := 138) (v := (40 : Int32)) dX8_copy_136 rfl (by decide) ?_
    refine Vm.iload_n (n := 139) 1 dX8_copy_138 rfl rfl ?_
    refine Vm.imul (n := 140) dX8_copy_139 rfl ?_
    refine Vm.iload_n (n := 141) 2 dX8_copy_140 rfl rfl ?_
    refine Vm.iadd (n := 142) dX8_copy_141 rfl ?_
    refine Vm.iload (n := 144) 6 dX8_copy_142 rfl rfl ?_
    refine Vm.iadd (n := 145) dX8_copy_144 rfl ?_
    replace h := Option.bind_eq_some_iff.mp h
    obtain ⟨x1, h1, h⟩ := h
    refine Vm.laldm (n := 146) dX8_copy_145 rfl in_77 rfl rfl (by decide) h1 ?_
    replace h := Option.bind_eq_some_iff.mp h
    obtain ⟨σ2, h2, h⟩ := h
    refine Vm.lastm (n := 147) dX8_copy_146 rfl in_78 rfl rfl (by decide) h2 ?_
    replace h := Option.bind_eq_some_iff.mp h
    obtain ⟨x3, e3, h⟩ := h
    replace e3 := Option.some.inj e3
    refine Vm.iinc (n := 150) (v := x3) (lv' := [(6, .inl x3), (0, .inr (.inr (32, 0))), (1, .inl a1), (2, .inl a2), (3, .inl a3), (4, .inl a4), (5, .inl a5)]) 6 dX8_copy_147 rfl rfl e3 (Nat.le_of_ble_eq_true rfl) rfl ?_
    refine Vm.goto 119 dX8_copy_150 rfl ?_
    refine Vm.sub (lv' := [(0, .inr (.inr (32, 0))), (1, .inl a1), (2, .inl a2), (3, .inl a3), (4, .inl a4), (5, .inl a5), (6, .inl x3)]) [1, 2, 3, 4, 5, 6, 0] rfl ?_
    obtain rfl := Option.some.inj h
    exact hk
theorem lX8_copy_119_L (a1 : Int32) (a2 : Int32) (a3 : Int32) (a4 : Int32) (a5 : Int32) (τ : mm) {r : Option mv} {M' : mm × mm} (z : Int32 × mm) (w9 : Int32 × mm) (h : lp (fX8_copy_119_L a1 a2 a3 a4 a5) z = some w9) (hk : (fun q : Int32 × mm => r = some (.inl q.1) ∧ M' = (τ, q.2)) w9) : Vm mX8_copy 2 119 [(0, .inr (.inr (32, 0))), (1, .inl a1), (2, .inl a2), (3, .inl a3), (4, .inl a4), (5, .inl a5), (6, .inl z.1)] [] (τ, z.2) r M' :=
  lp_link (S := Int32 × mm) (R := Int32 × mm) (body := fX8_copy_119_L a1 a2 a3 a4 a5) (A := fun z : Int32 × mm => Vm mX8_copy 2 119 [(0, .inr (.inr (32, 0))), (1, .inl a1), (2, .inl a2), (3, .inl a3), (4, .inl a4), (5, .inl a5), (6, .inl z.1)] [] (τ, z.2) r M') (B := fun w : Int32 × mm => (fun q : Int32 × mm => r = some (.inl q.1) ∧ M' = (τ, q.2)) w) (fun z v hb hv => lX8_copy_119 a1 a2 a3 a4 a5 z.1 z.2 τ hb hv) z w9 h hk
set_option maxRecDepth 20000 in
theorem lX8_copy_109 (σ τ : mm) {r : Option mv} {M' : mm × mm} {v9 : Int32 × mm} (h : fX8_copy_109 σ = some v9) (hk : (fun q : Int32 × mm => r = some (.inl q.1) ∧ M' = (τ, q.2)) v9) : Vm mX8_copy 2 109 [(0, .inr (.inr (32, 0)))] [] (τ, σ) r M' := by
  unfold fX8_copy_109 at h
  refine Vm.aload_n (n := 110) 0 dX8_copy_109 rfl rfl ?_
  refine Vm.ldc (n := 112) dX8_copy_110 rfl wc_RX8_92 ?_
  replace h := Option.bind_eq_some_iff.mp h
  obtain ⟨q1, h1, h⟩ := h
  refine Vm.callV (Y := mX8_finds) (n := 115) [.inl (-1000000001 : Int32)] dX8_copy_112 rfl wv_RX8_102 omX8_finds rfl in_32 rfl rfl rfl (Nat.le_of_ble_eq_true rfl) (by decide) (kX8_finds (-1000000001 : Int32) σ τ h1) ?_
  obtain rfl := Option.some.inj h
  exact Vm.iret dX8_copy_115 rfl hk.1 hk.2.symm
set_option maxRecDepth 20000 in
theorem lX8_copy_39 (σ τ : mm) {r : Option mv} {M' : mm × mm} {v9 : Int32 × mm} (h : fX8_copy_39 σ = some v9) (hk : (fun q : Int32 × mm => r = some (.inl q.1) ∧ M' = (τ, q.2)) v9) : Vm mX8_copy 2 39 [(0, .inr (.inr (32, 0)))] [] (τ, σ) r M' := by
  unfold fX8_copy_39 at h
  refine Vm.aload_n (n := 40) 0 dX8_copy_39 rfl rfl ?_
  refine Vm.ldc (n := 42) dX8_copy_40 rfl wc_RX8_198 ?_
  replace h := Option.bind_eq_some_iff.mp h
  obtain ⟨q1, h1, h⟩ := h
  refine Vm.callV (Y := mX8_finds) (n := 45) [.inl (-1000000006 : Int32)] dX8_copy_42 rfl wv_RX8_102 omX8_finds rfl in_32 rfl rfl rfl (Nat.le_of_ble_eq_true rfl) (by decide) (kX8_finds (-1000000006 : Int32) σ τ h1) ?_
  obtain rfl := Option.some.inj h
  exact Vm.iret dX8_copy_45 rfl hk.1 hk.2.symm
set_option maxRecDepth 20000 in
theorem lX8_copy_14 (σ τ : mm) {r : Option mv} {M' : mm × mm} {v9 : Int32 × mm} (h : fX8_copy_14 σ = some v9) (hk : (fun q : Int32 × mm => r = some (.inl q.1) ∧ M' = (τ, q.2)) v9) : Vm mX8_copy 2 14 [(0, .inr (.inr (32, 0)))] [] (τ, σ) r M' := by
  unfold fX8_copy_14 at h
  refine Vm.aload_n (n := 15) 0 dX8_copy_14 rfl rfl ?_
  refine Vm.ldc (n := 17) dX8_copy_15 rfl wc_RX8_92 ?_
  replace h := Option.bind_eq_some_iff.mp h
  obtain ⟨q1, h1, h⟩ := h
  refine Vm.callV (Y := mX8_finds) (n := 20) [.inl (-1000000001 : Int32)] dX8_copy_17 rfl wv_RX8_102 omX8_finds rfl in_32 rfl rfl rfl (Nat.le_of_ble_eq_true rfl) (by decide) (kX8_finds (-1000000001 : Int32) σ τ h1) ?_
  obtain rfl := Option.some.inj h
  exact Vm.iret dX8_copy_20 rfl hk.1 hk.2.symm
set_option maxRecDepth 20000 in
theorem lX8_copy_0 (a1 : Int32) (a2 : Int32) (a3 : Int32) (a4 : Int32) (a5 : Int32) (σ τ : mm) {r : Option mv} {M' : mm × mm} {v9 : Int32 × mm} (h : fX8_copy_0 a1 a2 a3 a4 a5 σ = some v9) (hk : (fun q : Int32 × mm => r = some (.inl q.1) ∧ M' = (τ, q.2)) v9) : Vm mX8_copy 2 0 [(0, .inr (.inr (32, 0))), (1, .inl a1), (2, .inl a2), (3, .inl a3), (4, .inl a4), (5, .inl a5)] [] (τ, σ) r M' := by
  unfold fX8_copy_0 at h
  refine Vm.iload_n (n := 1) 1 dX8_copy_0 rfl rfl ?_
  refine Vm.callS (Y := mX8_isSheet) (n := 4) [.inl a1] dX8_copy_1 rfl wv_RX8_195 omX8_isSheet rfl rfl (Nat.le_of_ble_eq_true rfl) (by decide) (kX8_isSheet a1 rfl) ?_
  refine Vm.if_eq (n := 7) 14 dX8_copy_4 rfl rfl (fun c9 => ?_) (fun c9 => ?_)
  · replace h := (if_pos c9).symm.trans h
    refine Vm.sub (lv' := [(0, .inr (.inr (32, 0)))]) [0] rfl ?_
    exact lX8_copy_14 σ τ h hk
  · replace h := (if_neg c9).symm.trans h
    refine Vm.iload_n (n := 8) 3 dX8_copy_7 rfl rfl ?_
    refine Vm.callS (Y := mX8_isSheet) (n := 11) [.inl a3] dX8_copy_8 rfl wv_RX8_195 omX8_isSheet rfl rfl (Nat.le_of_ble_eq_true rfl) (by decide) (kX8_isSheet a3 rfl) ?_
    refine Vm.if_ne (n := 14) 21 dX8_copy_11 rfl rfl (fun c9 => ?_) (fun c9 => ?_)
    · replace h := (if_neg c9).symm.trans h
      refine Vm.aload_n (n := 22) 0 dX8_copy_21 rfl rfl ?_
      refine Vm.getR (n := 25) dX8_copy_22 rfl wf_RX8_71 in_32 rfl (by decide) rfl ?_
      refine Vm.iload_n (n := 26) 1 dX8_copy_25 rfl rfl ?_
      replace h := Option.bind_eq_some_iff.mp h
      obtain ⟨x1, h1, h⟩ := h
      refine Vm.ialdm (n := 27) dX8_copy_26 rfl in_75 rfl rfl (by decide) h1 ?_
      refine Vm.if_eq (n := 30) 39 dX8_copy_27 rfl rfl (fun c9 => ?_) (fun c9 => ?_)
      · replace h := (if_pos c9).symm.trans h
        refine Vm.sub (lv' := [(0, .inr (.inr (32, 0)))]) [0] rfl ?_
        exact lX8_copy_39 σ τ h hk
      · replace h := (if_neg c9).symm.trans h
        refine Vm.aload_n (n := 31) 0 dX8_copy_30 rfl rfl ?_
        refine Vm.getR (n := 34) dX8_copy_31 rfl wf_RX8_71 in_32 rfl (by decide) rfl ?_
        refine Vm.iload_n (n := 35) 3 dX8_copy_34 rfl rfl ?_
        replace h := Option.bind_eq_some_iff.mp h
        obtain ⟨x2, h2, h⟩ := h
        refine Vm.ialdm (n := 36) dX8_copy_35 rfl in_75 rfl rfl (by decide) h2 ?_
        refine Vm.if_ne (n := 39) 46 dX8_copy_36 rfl rfl (fun c9 => ?_) (fun c9 => ?_)
        · replace h := (if_neg c9).symm.trans h
          refine Vm.aload_n (n := 47) 0 dX8_copy_46 rfl rfl ?_
          refine Vm.getR (n := 50) dX8_copy_47 rfl wf_RX8_71 in_32 rfl (by decide) rfl ?_
          refine Vm.iload_n (n := 51) 1 dX8_copy_50 rfl rfl ?_
          replace h := Option.bind_eq_some_iff.mp h
          obtain ⟨x3, h3, h⟩ := h
          refine Vm.ialdm (n := 52) dX8_copy_51 rfl in_75 rfl rfl (by decide) h3 ?_
          refine Vm.aload_n (n := 53) 0 dX8_copy_52 rfl rfl ?_
          refine Vm.getR (n := 56) dX8_copy_53 rfl wf_RX8_71 in_32 rfl (by decide) rfl ?_
          refine Vm.iload_n (n := 57) 3 dX8_copy_56 rfl rfl ?_
          replace h := Option.bind_eq_some_iff.mp h
          obtain ⟨x4, h4, h⟩ := h
          refine Vm.ialdm (n := 58) dX8_copy_57 rfl in_75 rfl rfl (by decide) h4 ?_
          refine Vm.icmp_eq (n := 61) 68 dX8_copy_58 rfl rfl (fun c9 => ?_) (fun c9 => ?_)
          · replace h := (if_pos c9).symm.trans h
            refine Vm.iload (n := 70) 5 dX8_copy_68 rfl rfl ?_
            refine Vm.if_lt (n := 73) 109 dX8_copy_70 rfl rfl (fun c9 => ?_) (fun c9 => ?_)
            · replace h := (if_pos c9).symm.trans h
              refine Vm.sub (lv' := [(0, .inr (.inr (32, 0)))]) [0] rfl ?_
              exact lX8_copy_109 σ τ h hk
            · replace h := (if_neg c9).symm.trans h
              refine Vm.iload_n (n := 74) 2 dX8_copy_73 rfl rfl ?_
              refine Vm.if_lt (n := 77) 109 dX8_copy_74 rfl rfl (fun c9 => ?_) (fun c9 => ?_)
              · replace h := (if_pos c9).symm.trans h
                refine Vm.sub (lv' := [(0, .inr (.inr (32, 0)))]) [0] rfl ?_
                exact lX8_copy_109 σ τ h hk
              · replace h := (if_neg c9).symm.trans h
                refine Vm.iload (n := 79) 4 dX8_copy_77 rfl rfl ?_
                refine Vm.if_lt (n := 82) 109 dX8_copy_79 rfl rfl (fun c9 => ?_) (fun c9 => ?_)
                · replace h := (if_pos c9).symm.trans h
                  refine Vm.sub (lv' := [(0, .inr (.inr (32, 0)))]) [0] rfl ?_
                  exact lX8_copy_109 σ τ h hk
                · replace h := (if_neg c9).symm.trans h
                  refine Vm.iload_n (n := 83) 2 dX8_copy_82 rfl rfl ?_
                  refine Vm.aload_n (n := 84) 0 dX8_copy_83 rfl rfl ?_
                  refine Vm.getR (n := 87) dX8_copy_84 rfl wf_RX8_74 in_32 rfl (by decide) rfl ?_
                  refine Vm.iload_n (n := 88) 1 dX8_copy_87 rfl rfl ?_
                  replace h := Option.bind_eq_some_iff.mp h
                  obtain ⟨x5, h5, h⟩ := h
                  refine Vm.ialdm (n := 89) dX8_copy_88 rfl in_76 rfl rfl (by decide) h5 ?_
                  refine Vm.iload (n := 91) 5 dX8_copy_89 rfl rfl ?_
                  refine Vm.isub (n := 92) dX8_copy_91 rfl ?_
                  refine Vm.icmp_gt (n := 95) 109 dX8_copy_92 rfl rfl (fun c9 => ?_) (fun c9 => ?_)
                  · replace h := (if_pos c9).symm.trans h
                    refine Vm.sub (lv' := [(0, .inr (.inr (32, 0)))]) [0] rfl ?_
                    exact lX8_copy_109 σ τ h hk
                  · replace h := (if_neg c9).symm.trans h
                    refine Vm.iload (n := 97) 4 dX8_copy_95 rfl rfl ?_
                    refine Vm.aload_n (n := 98) 0 dX8_copy_97 rfl rfl ?_
                    refine Vm.getR (n := 101) dX8_copy_98 rfl wf_RX8_74 in_32 rfl (by decide) rfl ?_
                    refine Vm.iload_n (n := 102) 3 dX8_copy_101 rfl rfl ?_
                    replace h := Option.bind_eq_some_iff.mp h
                    obtain ⟨x6, h6, h⟩ := h
                    refine Vm.ialdm (n := 103) dX8_copy_102 rfl in_76 rfl rfl (by decide) h6 ?_
                    refine Vm.iload (n := 105) 5 dX8_copy_103 rfl rfl ?_
                    refine Vm.isub (n := 106) dX8_copy_105 rfl ?_
                    refine Vm.icmp_le (n := 109) 116 dX8_copy_106 rfl rfl (fun c9 => ?_) (fun c9 => ?_)
                    · replace h := (if_pos c9).symm.trans h
                      refine Vm.iconst (n := 117) (v := (0 : Int32)) dX8_copy_116 rfl (by decide) ?_
                      refine Vm.istore (n := 119) (lv' := [(6, .inl (0 : Int32)), (0, .inr (.inr (32, 0))), (1, .inl a1), (2, .inl a2), (3, .inl a3), (4, .inl a4), (5, .inl a5)]) dX8_copy_117 rfl (Nat.le_of_ble_eq_true rfl) rfl ?_
                      refine Vm.sub (lv' := [(0, .inr (.inr (32, 0))), (1, .inl a1), (2, .inl a2), (3, .inl a3), (4, .inl a4), (5, .inl a5), (6, .inl (0 : Int32))]) [1, 2, 3, 4, 5, 6, 0] rfl ?_
                      exact lX8_copy_119_L a1 a2 a3 a4 a5 τ ((0 : Int32), σ) _ h hk
                    · replace h := (if_neg c9).symm.trans h
                      refine Vm.sub (lv' := [(0, .inr (.inr (32, 0)))]) [0] rfl ?_
                      exact lX8_copy_109 σ τ h hk
          · replace h := (if_neg c9).symm.trans h
            refine Vm.aload_n (n := 62) 0 dX8_copy_61 rfl rfl ?_
            refine Vm.ldc (n := 64) dX8_copy_62 rfl wc_RX8_166 ?_
            replace h := Option.bind_eq_some_iff.mp h
            obtain ⟨q7, h7, h⟩ := h
            refine Vm.callV (Y := mX8_finds) (n := 67) [.inl (-1000000003 : Int32)] dX8_copy_64 rfl wv_RX8_102 omX8_finds rfl in_32 rfl rfl rfl (Nat.le_of_ble_eq_true rfl) (by decide) (kX8_finds (-1000000003 : Int32) σ τ h7) ?_
            obtain rfl := Option.some.inj h
            exact Vm.iret dX8_copy_67 rfl hk.1 hk.2.symm
        · replace h := (if_pos c9).symm.trans h
          refine Vm.sub (lv' := [(0, .inr (.inr (32, 0)))]) [0] rfl ?_
          exact lX8_copy_39 σ τ h hk
    · replace h := (if_pos c9).symm.trans h
      refine Vm.sub (lv' := [(0, .inr (.inr (32, 0)))]) [0] rfl ?_
      exact lX8_copy_14 σ τ h hk
theorem kX8_copy (a1 : Int32) (a2 : Int32) (a3 : Int32) (a4 : Int32) (a5 : Int32) (σ τ : mm) {q : Int32 × mm} (h : fX8_copy a1 a2 a3 a4 a5 σ = some q) : Cx mX8_copy 2 [.inr (.inr (32, 0)), .inl a1, .inl a2, .inl a3, .inl a4, .inl a5] (τ, σ) (some (.inl q.1)) (τ, q.2) :=
  Cx.of (lv := [(0, .inr (.inr (32, 0))), (1, .inl a1), (2, .inl a2), (3, .inl a3), (4, .inl a4), (5, .inl a5)]) (by decide) (fun ad => Nat.le_of_ble_eq_true rfl) (fun ad => rfl) (lX8_copy_0 a1 a2 a3 a4 a5 σ τ h ⟨rfl, rfl⟩)
