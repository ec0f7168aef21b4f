-- ThinBodies$Reader readItem (LThinBodies$Body;)Z
noncomputable def fX3_readItem_0 (a1 : Nat) (σ : mm) : Option (Bool × mm) :=
  Option.bind (fX3_isWord 0 σ) fun q1 =>
  if (bi q1) = (0 : Int32) then
  Option.bind (fX3_isWord 1 σ) fun q2 =>
  if (bi q2) = (0 : Int32) then
  Option.bind (fX3_kindOfWord σ) fun q3 =>
  if q3 < (0 : Int32) then
  some ((false, σ))
  else
  Option.bind (fX3_readRow a1 q3 σ) fun q4 =>
  if (bi q4.1) = (0 : Int32) then
  some ((false, q4.2))
  else
  some ((true, q4.2))
  else
  Option.bind (fX3_readBox a1 σ) fun q5 =>
  some ((q5.1, q5.2))
  else
  Option.bind (fX3_readLetters a1 σ) fun q6 =>
  some ((q6.1, q6.2))
noncomputable def fX3_readItem (a1 : Nat) (σ : mm) : Option (Bool × mm) := fX3_readItem_0 a1 σ
set_option maxRecDepth 20000 in
theorem lX3_readItem_0 (a1 : Nat) (ha1 : a1 < 3) (σ τ : mm) {r : Option mv} {M' : mm × mm} {v9 : Bool × mm} (h : fX3_readItem_0 a1 σ = some v9) (hk : (fun q : Bool × mm => r = some (.inl (bi q.1)) ∧ M' = (q.2, τ)) v9) : Vm mX3_readItem 8 0 [(0, .inr (.inr (3, 0))), (1, .inr (.inr (0, a1)))] [] (σ, τ) r M' := by
  unfold fX3_readItem_0 at h
  refine Vm.aload_n (n := 1) 0 dX3_readItem_0 rfl rfl ?_
  refine Vm.ldcs (n := 3)  0 dX3_readItem_1 rfl (by decide) rfl ?_
  replace h := Option.bind_eq_some_iff.mp h
  obtain ⟨q1, h1, h⟩ := h
  refine Vm.callV (Y := mX3_isWord) (n := 6) [.inr (.inr (92, 0))] dX3_readItem_3 rfl wv_RX3_59 omX3_isWord rfl in_3 rfl rfl rfl (Nat.le_of_ble_eq_true rfl) (by decide) (kX3_isWord 0 (by decide) σ τ h1) ?_
  refine Vm.if_eq (n := 9) 15 dX3_readItem_6 rfl rfl (fun c9 => ?_) (fun c9 => ?_)
  · replace h := (if_pos c9).symm.trans h
    refine Vm.aload_n (n := 16) 0 dX3_readItem_15 rfl rfl ?_
    refine Vm.ldcs (n := 18)  1 dX3_readItem_16 rfl (by decide) rfl ?_
    replace h := Option.bind_eq_some_iff.mp h
    obtain ⟨q2, h2, h⟩ := h
    refine Vm.callV (Y := mX3_isWord) (n := 21) [.inr (.inr (92, 1))] dX3_readItem_18 rfl wv_RX3_59 omX3_isWord rfl in_3 rfl rfl rfl (Nat.le_of_ble_eq_true rfl) (by decide) (kX3_isWord 1 (by decide) σ τ h2) ?_
    refine Vm.if_eq (n := 24) 30 dX3_readItem_21 rfl rfl (fun c9 => ?_) (fun c9 => ?_)
    · replace h := (if_pos c9).symm.trans h
      refine Vm.aload_n (n := 31) 0 dX3_readItem_30 rfl rfl ?_
      replace h := Option.bind_eq_some_iff.mp h
      obtain ⟨q3, h3, h⟩ := h
      refine Vm.callV (Y := mX3_kindOfWord) (n := 34) [] dX3_readItem_31 rfl wv_RX3_83 omX3_kindOfWord rfl in_3 rfl rfl rfl (Nat.le_of_ble_eq_true rfl) (by decide) (kX3_kindOfWord σ τ h3) ?_
      refine Vm.istore_n (n := 35) (lv' := [(2, .inl q3), (0, .inr (.inr (3, 0))), (1, .inr (.inr (0, a1)))]) dX3_readItem_34 rfl (Nat.le_of_ble_eq_true rfl) rfl ?_
      refine Vm.iload_n (n := 36) 0 dX3_readItem_35 rfl rfl ?_
      refine Vm.if_lt (n := 39) 52 dX3_readItem_36 rfl rfl (fun c9 => ?_) (fun c9 => ?_)
      · replace h := (if_pos c9).symm.trans h
        refine Vm.iconst (n := 53) (v := (0 : Int32)) dX3_readItem_52 rfl (by decide) ?_
        obtain rfl := Option.some.inj h
        exact Vm.zret (b := false) dX3_readItem_53 rfl rfl hk.1 hk.2.symm
      · replace h := (if_neg c9).symm.trans h
        refine Vm.aload_n (n := 40) 1 dX3_readItem_39 rfl rfl ?_
        refine Vm.aload_n (n := 41) 2 dX3_readItem_40 rfl rfl ?_
        refine Vm.iload_n (n := 42) 0 dX3_readItem_41 rfl rfl ?_
        replace h := Option.bind_eq_some_iff.mp h
        obtain ⟨q4, h4, h⟩ := h
        refine Vm.callV (Y := mX3_readRow) (n := 45) [.inr (.inr (0, a1)), .inl q3] dX3_readItem_42 rfl wv_RX3_86 omX3_readRow rfl in_3 rfl rfl rfl (Nat.le_of_ble_eq_true rfl) (by decide) (kX3_readRow a1 (by omega) q3 σ τ h4) ?_
        refine Vm.if_eq (n := 48) 52 dX3_readItem_45 rfl rfl (fun c9 => ?_) (fun c9 => ?_)
        · replace h := (if_pos c9).symm.trans h
          refine Vm.iconst (n := 53) (v := (0 : Int32)) dX3_readItem_52 rfl (by decide) ?_
          obtain rfl := Option.some.inj h
          exact Vm.zret (b := false) dX3_readItem_53 rfl rfl hk.1 hk.2.symm
        · replace h := (if_neg c9).symm.trans h
          refine Vm.iconst (n := 49) (v := (1 : Int32)) dX3_readItem_48 rfl (by decide) ?_
          refine Vm.goto 53 dX3_readItem_49 rfl ?_
          obtain rfl := Option.some.inj h
          exact Vm.zret (b := true) dX3_readItem_53 rfl rfl hk.1 hk.2.symm
    · replace h := (if_neg c9).symm.trans h
      refine Vm.aload_n (n := 25) 0 dX3_readItem_24 rfl rfl ?_
      refine Vm.aload_n (n := 26) 1 dX3_readItem_25 rfl rfl ?_
      replace h := Option.bind_eq_some_iff.mp h
      obtain ⟨q5, h5, h⟩ := h
      refine Vm.callV (Y := mX3_readBox) (n := 29) [.inr (.inr (0, a1))] dX3_readItem_26 rfl wv_RX3_80 omX3_readBox rfl in_3 rfl rfl rfl (Nat.le_of_ble_eq_true rfl) (by decide) (kX3_readBox a1 (by omega) σ τ h5) ?_
      obtain rfl := Option.some.inj h
      exact Vm.zret (b := q5.1) dX3_readItem_29 rfl rfl hk.1 hk.2.symm
  · replace h := (if_neg c9).symm.trans h
    refine Vm.aload_n (n := 10) 0 dX3_readItem_9 rfl rfl ?_
    refine Vm.aload_n (n := 11) 1 dX3_readItem_10 rfl rfl ?_
    replace h := Option.bind_eq_some_iff.mp h
    obtain ⟨q6, h6, h⟩ := h
    refine Vm.callV (Y := mX3_readLetters) (n := 14) [.inr (.inr (0, a1))] dX3_readItem_11 rfl wv_RX3_75 omX3_readLetters rfl in_3 rfl rfl rfl (Nat.le_of_ble_eq_true rfl) (by decide) (kX3_readLetters a1 (by omega) σ τ h6) ?_
    obtain rfl := Option.some.inj h
    exact Vm.zret (b := q6.1) dX3_readItem_14 rfl rfl hk.1 hk.2.symm
theorem kX3_readItem (a1 : Nat) (ha1 : a1 < 3) (σ τ : mm) {q : Bool × mm} (h : fX3_readItem a1 σ = some q) : Cx mX3_readItem 8 [.inr (.inr (3, 0)), .inr (.inr (0, a1))] (σ, τ) (some (.inl (bi q.1))) (q.2, τ) :=
  Cx.of (lv := [(0, .inr (.inr (3, 0))), (1, .inr (.inr (0, a1)))]) (by decide) (fun ad => Nat.le_of_ble_eq_true rfl) (fun ad => rfl) (lX3_readItem_0 a1 ha1 σ τ h ⟨rfl, rfl⟩)
-- ThinBodies$Reader read (LThinBodies$Body;)I
noncomputable def fX3_read_11 (a1 : Nat) (a2 : Int32) (σ : mm) : Option ((Int32 × mm) ⊕ (Int32 × mm)) :=
  if (120 : Int32) < a2 then
  some (.inr (((-1 : Int32) - (σ.1 3 0 3), σ)))
  else
  Option.bind (fX3_readItem a1 σ) fun q1 =>
  if (bi q1.1) = (0 : Int32) then
  some (.inr (((-1 : Int32) - (q1.2.1 3 0 3), q1.2)))
  else
  if (q1.2.1 3 0 2) = (0 : Int32) then
  some (.inr ((a2, q1.2)))
  else
  if (q1.2.1 3 0 2) = (3 : Int32) then
  Option.bind (fX3_nextToken q1.2) fun q2 =>
  Option.bind (some (a2 + (1 : Int32))) fun x3 =>
  some (.inl (x3, q2))
  else
  some (.inr (((-1 : Int32) - (q1.2.1 3 0 3), q1.2)))
noncomputable def fX3_read_11_L (a1 : Nat) : Int32 × mm → Option ((Int32 × mm) ⊕ (Int32 × mm)) := fun z => fX3_read_11 a1 z.1 z.2
noncomputable def fX3_read_0 (a1 : Nat) (σ : mm) : Option (Int32 × mm) :=
  Option.bind (some (stI σ 3 0 4 (0 : Int32))) fun σ1 =>
  Option.bind (fX3_nextToken σ1) fun q2 =>
  lp (fX3_read_11_L a1) ((1 : Int32), q2)
noncomputable def fX3_read (a1 : Nat) (σ : mm) : Option (Int32 × mm) := fX3_read_0 a1 σ
set_option maxRecDepth 20000 in
theorem lX3_read_11 (a1 : Nat) (ha1 : a1 < 3) (a2 : Int32) (σ τ : mm) {r : Option mv} {M' : mm × mm} {v9 : (Int32 × mm) ⊕ (Int32 × mm)} (h : fX3_read_11 a1 a2 σ = some v9) (hk : (Sum.elim (fun z : Int32 × mm => Vm mX3_read 9 11 [(0, .inr (.inr (3, 0))), (1, .inr (.inr (0, a1))), (2, .inl z.1)] [] (z.2, τ) r M') (fun q : Int32 × mm => r = some (.inl q.1) ∧ M' = (q.2, τ))) v9) : Vm mX3_read 9 11 [(0, .inr (.inr (3, 0))), (1, .inr (.inr (0, a1))), (2, .inl a2)] [] (σ, τ) r M' := by
  unfold fX3_read_11 at h
  refine Vm.iload_n (n := 12) 2 dX3_read_11 rfl rfl ?_
  refine Vm.bipush (n := 14) (v := (120 : Int32)) dX3_read_12 rfl (by decide) ?_
  refine Vm.icmp_gt (n := 17) 66 dX3_read_14 rfl rfl (fun c9 => ?_) (fun c9 => ?_)
  · replace h := (if_pos c9).symm.trans h
    refine Vm.iconst (n := 67) (v := (-1 : Int32)) dX3_read_66 rfl (by decide) ?_
    refine Vm.aload_n (n := 68) 0 dX3_read_67 rfl rfl ?_
    refine Vm.gX (n := 71) dX3_read_68 rfl wf_RX3_22 in_3 rfl (by decide) rfl (by decide) ?_
    refine Vm.isub (n := 72) dX3_read_71 rfl ?_
    obtain rfl := Option.some.inj h
    exact Vm.iret dX3_read_72 rfl hk.1 hk.2.symm
  · replace h := (if_neg c9).symm.trans h
    refine Vm.aload_n (n := 18) 0 dX3_read_17 rfl rfl ?_
    refine Vm.aload_n (n := 19) 1 dX3_read_18 rfl rfl ?_
    replace h := Option.bind_eq_some_iff.mp h
    obtain ⟨q1, h1, h⟩ := h
    refine Vm.callV (Y := mX3_readItem) (n := 22) [.inr (.inr (0, a1))] dX3_read_19 rfl wv_RX3_34 omX3_readItem rfl in_3 rfl rfl rfl (Nat.le_of_ble_eq_true rfl) (by decide) (kX3_readItem a1 (by omega) σ τ h1) ?_
    refine Vm.if_ne (n := 25) 32 dX3_read_22 rfl rfl (fun c9 => ?_) (fun c9 => ?_)
    · replace h := (if_neg c9).symm.trans h
      refine Vm.aload_n (n := 33) 0 dX3_read_32 rfl rfl ?_
      refine Vm.gX (n := 36) dX3_read_33 rfl wf_RX3_19 in_3 rfl (by decide) rfl (by decide) ?_
      refine Vm.if_ne (n := 39) 41 dX3_read_36 rfl rfl (fun c9 => ?_) (fun c9 => ?_)
      · replace h := (if_neg c9).symm.trans h
        refine Vm.aload_n (n := 42) 0 dX3_read_41 rfl rfl ?_
        refine Vm.gX (n := 45) dX3_read_42 rfl wf_RX3_19 in_3 rfl (by decide) rfl (by decide) ?_
        refine Vm.iconst (n := 46) (v := (3 : Int32)) dX3_read_45 rfl (by decide) ?_
        refine Vm.icmp_eq (n := 49) 56 dX3_read_46 rfl rfl (fun c9 => ?_) (fun c9 => ?_)
        · replace h := (if_pos c9).symm.trans h
          refine Vm.aload_n (n := 57) 0 dX3_read_56 rfl rfl ?_
          replace h := Option.bind_eq_some_iff.mp h
          obtain ⟨q2, h2, h⟩ := h
          refine Vm.callVv (Y := mX3_nextToken) (n := 60) [] dX3_read_57 rfl wv_RX3_31 omX3_nextToken rfl in_3 rfl rfl rfl (Nat.le_of_ble_eq_true rfl) (by decide) (kX3_nextToken q1.2 τ h2) ?_
          replace h := Option.bind_eq_some_iff.mp h
          obtain ⟨x3, e3, h⟩ := h
          replace e3 := Option.some.inj e3
          refine Vm.iinc (n := 63) (v := x3) (lv' := [(2, .inl x3), (0, .inr (.inr (3, 0))), (1, .inr (.inr (0, a1)))]) 2 dX3_read_60 rfl rfl e3 (Nat.le_of_ble_eq_true rfl) rfl ?_
          refine Vm.goto 11 dX3_read_63 rfl ?_
          refine Vm.sub (lv' := [(0, .inr (.inr (3, 0))), (1, .inr (.inr (0, a1))), (2, .inl x3)]) [1, 2, 0] rfl ?_
          obtain rfl := Option.some.inj h
          exact hk
        · replace h := (if_neg c9).symm.trans h
          refine Vm.iconst (n := 50) (v := (-1 : Int32)) dX3_read_49 rfl (by decide) ?_
          refine Vm.aload_n (n := 51) 0 dX3_read_50 rfl rfl ?_
          refine Vm.gX (n := 54) dX3_read_51 rfl wf_RX3_22 in_3 rfl (by decide) rfl (by decide) ?_
          refine Vm.isub (n := 55) dX3_read_54 rfl ?_
          obtain rfl := Option.some.inj h
          exact Vm.iret dX3_read_55 rfl hk.1 hk.2.symm
      · replace h := (if_pos c9).symm.trans h
        refine Vm.iload_n (n := 40) 2 dX3_read_39 rfl rfl ?_
        obtain rfl := Option.some.inj h
        exact Vm.iret dX3_read_40 rfl hk.1 hk.2.symm
    · replace h := (if_pos c9).symm.trans h
      refine Vm.iconst (n := 26) (v := (-1 : Int32)) dX3_read_25 rfl (by decide) ?_
      refine Vm.aload_n (n := 27) 0 dX3_read_26 rfl rfl ?_
      refine Vm.gX (n := 30) dX3_read_27 rfl wf_RX3_22 in_3 rfl (by decide) rfl (by decide) ?_
      refine Vm.isub (n := 31) dX3_read_30 rfl ?_
      obtain rfl := Option.some.inj h
      exact Vm.iret dX3_read_31 rfl hk.1 hk.2.symm
theorem lX3_read_11_L (a1 : Nat) (ha1 : a1 < 3) (τ : mm) {r : Option mv} {M' : mm × mm} (z : Int32 × mm) (w9 : Int32 × mm) (h : lp (fX3_read_11_L a1) z = some w9) (hk : (fun q : Int32 × mm => r = some (.inl q.1) ∧ M' = (q.2, τ)) w9) : Vm mX3_read 9 11 [(0, .inr (.inr (3, 0))), (1, .inr (.inr (0, a1))), (2, .inl z.1)] [] (z.2, τ) r M' :=
  lp_link (S := Int32 × mm) (R := Int32 × mm) (body := fX3_read_11_L a1) (A := fun z : Int32 × mm => Vm mX3_read 9 11 [(0, .inr (.inr (3, 0))), (1, .inr (.inr (0, a1))), (2, .inl z.1)] [] (z.2, τ) r M') (B := fun w : Int32 × mm => (fun q : Int32 × mm => r = some (.inl q.1) ∧ M' = (q.2, τ)) w) (fun z v hb hv => lX3_read_11 a1 ha1 z.1 z.2 τ hb hv) z w9 h hk
set_option maxRecDepth 20000 in
theorem lX3_read_0 (a1 : Nat) (ha1 : a1 < 3) (σ τ : mm) {r : Option mv} {M' : mm × mm} {v9 : Int32 × mm} (h : fX3_read_0 a1 σ = some v9) (hk : (fun q : Int32 × mm => r = some (.inl q.1) ∧ M' = (q.2, τ)) v9) : Vm mX3_read 9 0 [(0, .inr (.inr (3, 0))), (1, .inr (.inr (0, a1)))] [] (σ, τ) r M' := by
  unfold fX3_read_0 at h
  refine Vm.aload_n (n := 1) 0 dX3_read_0 rfl rfl ?_
  refine Vm.iconst (n := 2) (v := (0 : Int32)) dX3_read_1 rfl (by decide) ?_
  refine Vm.pX (n := 5) (ty := .int) dX3_read_2 rfl wf_RX3_25 in_3 rfl (by decide) rfl (by decide) rfl rfl rfl rfl ?_
  replace h := Option.bind_eq_some_iff.mp h
  obtain ⟨σ1, e1, h⟩ := h
  replace e1 := Option.some.inj e1
  refine Vm.mem (congrArg (fun z => (z, τ)) e1) ?_
  refine Vm.aload_n (n := 6) 0 dX3_read_5 rfl rfl ?_
  replace h := Option.bind_eq_some_iff.mp h
  obtain ⟨q2, h2, h⟩ := h
  refine Vm.callVv (Y := mX3_nextToken) (n := 9) [] dX3_read_6 rfl wv_RX3_31 omX3_nextToken rfl in_3 rfl rfl rfl (Nat.le_of_ble_eq_true rfl) (by decide) (kX3_nextToken σ1 τ h2) ?_
  refine Vm.iconst (n := 10) (v := (1 : Int32)) dX3_read_9 rfl (by decide) ?_
  refine Vm.istore_n (n := 11) (lv' := [(2, .inl (1 : Int32)), (0, .inr (.inr (3, 0))), (1, .inr (.inr (0, a1)))]) dX3_read_10 rfl (Nat.le_of_ble_eq_true rfl) rfl ?_
  refine Vm.sub (lv' := [(0, .inr (.inr (3, 0))), (1, .inr (.inr (0, a1))), (2, .inl (1 : Int32))]) [1, 2, 0] rfl ?_
  exact lX3_read_11_L a1 (by omega) τ ((1 : Int32), q2) _ h hk
theorem kX3_read (a1 : Nat) (ha1 : a1 < 3) (σ τ : mm) {q : Int32 × mm} (h : fX3_read a1 σ = some q) : Cx mX3_read 9 [.inr (.inr (3, 0)), .inr (.inr (0, a1))] (σ, τ) (some (.inl q.1)) (q.2, τ) :=
  Cx.of (lv := [(0, .inr (.inr (3, 0))), (1, .inr (.inr (0, a1)))]) (by decide) (fun ad => Nat.le_of_ble_eq_true rfl) (fun ad => rfl) (lX3_read_0 a1 ha1 σ τ h ⟨rfl, rfl⟩)
-- ThinBodies text ()I
noncomputable def fX7_text_0 (σ : mm) : Option (Int32 × mm) :=
  Option.bind (fX0_take 2 0 σ) fun q1 =>
  Option.bind (fX3_read 2 q1) fun q2 =>
  Option.bind (some (stI q2.2 3 0 0 (0 : Int32))) fun σ3 =>
  if q2.1 < (0 : Int32) then
  some ((q2.1, σ3))
  else
  Option.bind (fX0_take 0 2 σ3) fun q4 =>
  some ((q2.1, (fX7_bodyChanged q4)))
noncomputable def fX7_text (σ : mm) : Option (Int32 × mm) := fX7_text_0 σ
set_option maxRecDepth 20000 in
theorem lX7_text_0 (σ τ : mm) {r : Option mv} {M' : mm × mm} {v9 : Int32 × mm} (h : fX7_text_0 σ = some v9) (hk : (fun q : Int32 × mm => r = some (.inl q.1) ∧ M' = (q.2, τ)) v9) : Vm mX7_text 10 0 [(0, .inr (.inr (7, 0)))] [] (σ, τ) r M' := by
  unfold fX7_text_0 at h
  refine Vm.aload_n (n := 1) 0 dX7_text_0 rfl rfl ?_
  refine Vm.getR (n := 4) dX7_text_1 rfl wf_RX7_19 in_7 rfl (by decide) rfl ?_
  refine Vm.aload_n (n := 5) 0 dX7_text_4 rfl rfl ?_
  refine Vm.getR (n := 8) dX7_text_5 rfl wf_RX7_12 in_7 rfl (by decide) rfl ?_
  replace h := Option.bind_eq_some_iff.mp h
  obtain ⟨q1, h1, h⟩ := h
  refine Vm.callVv (Y := mX0_take) (n := 11) [.inr (.inr (0, 0))] dX7_text_8 rfl wv_RX7_332 omX0_take rfl (ink ik_0 (by decide)) rfl rfl rfl (Nat.le_of_ble_eq_true rfl) (by decide) (kX0_take 2 (by decide) 0 (by decide) σ τ h1) ?_
  refine Vm.aload_n (n := 12) 0 dX7_text_11 rfl rfl ?_
  refine Vm.getR (n := 15) dX7_text_12 rfl wf_RX7_50 in_7 rfl (by decide) rfl ?_
  refine Vm.aload_n (n := 16) 0 dX7_text_15 rfl rfl ?_
  refine Vm.getR (n := 19) dX7_text_16 rfl wf_RX7_19 in_7 rfl (by decide) rfl ?_
  replace h := Option.bind_eq_some_iff.mp h
  obtain ⟨q2, h2, h⟩ := h
  refine Vm.callV (Y := mX3_read) (n := 22) [.inr (.inr (0, 2))] dX7_text_19 rfl wv_RX7_335 omX3_read rfl in_3 rfl rfl rfl (Nat.le_of_ble_eq_true rfl) (by decide) (kX3_read 2 (by decide) q1 τ h2) ?_
  refine Vm.istore_n (n := 23) (lv' := [(1, .inl q2.1), (0, .inr (.inr (7, 0)))]) dX7_text_22 rfl (Nat.le_of_ble_eq_true rfl) rfl ?_
  refine Vm.aload_n (n := 24) 1 dX7_text_23 rfl rfl ?_
  refine Vm.getR (n := 27) dX7_text_24 rfl wf_RX7_50 in_7 rfl (by decide) rfl ?_
  refine Vm.iconst (n := 28) (v := (0 : Int32)) dX7_text_27 rfl (by decide) ?_
  refine Vm.pX (n := 31) (ty := .int) dX7_text_28 rfl wf_RX7_325 in_3 rfl (by decide) rfl (by decide) rfl rfl rfl rfl ?_
  replace h := Option.bind_eq_some_iff.mp h
  obtain ⟨σ3, e3, h⟩ := h
  replace e3 := Option.some.inj e3
  refine Vm.mem (congrArg (fun z => (z, τ)) e3) ?_
  refine Vm.iload_n (n := 32) 0 dX7_text_31 rfl rfl ?_
  refine Vm.if_lt (n := 35) 50 dX7_text_32 rfl rfl (fun c9 => ?_) (fun c9 => ?_)
  · replace h := (if_pos c9).symm.trans h
    refine Vm.iload_n (n := 51) 0 dX7_text_50 rfl rfl ?_
    obtain rfl := Option.some.inj h
    exact Vm.iret dX7_text_51 rfl hk.1 hk.2.symm
  · replace h := (if_neg c9).symm.trans h
    refine Vm.aload_n (n := 36) 1 dX7_text_35 rfl rfl ?_
    refine Vm.getR (n := 39) dX7_text_36 rfl wf_RX7_12 in_7 rfl (by decide) rfl ?_
    refine Vm.aload_n (n := 40) 1 dX7_text_39 rfl rfl ?_
    refine Vm.getR (n := 43) dX7_text_40 rfl wf_RX7_19 in_7 rfl (by decide) rfl ?_
    replace h := Option.bind_eq_some_iff.mp h
    obtain ⟨q4, h4, h⟩ := h
    refine Vm.callVv (Y := mX0_take) (n := 46) [.inr (.inr (0, 2))] dX7_text_43 rfl wv_RX7_332 omX0_take rfl (ink ik_0 (by decide)) rfl rfl rfl (Nat.le_of_ble_eq_true rfl) (by decide) (kX0_take 0 (by decide) 2 (by decide) σ3 τ h4) ?_
    refine Vm.aload_n (n := 47) 1 dX7_text_46 rfl rfl ?_
    refine Vm.callVv (Y := mX7_bodyChanged) (n := 50) [] dX7_text_47 rfl wv_RX7_83 omX7_bodyChanged rfl in_7 rfl rfl rfl (Nat.le_of_ble_eq_true rfl) (by decide) (kX7_bodyChanged q4 τ rfl) ?_
    refine Vm.iload_n (n := 51) 0 dX7_text_50 rfl rfl ?_
    obtain rfl := Option.some.inj h
    exact Vm.iret dX7_text_51 rfl hk.1 hk.2.symm
theorem kX7_text (σ τ : mm) {q : Int32 × mm} (h : fX7_text σ = some q) : Cx mX7_text 10 [.inr (.inr (7, 0))] (σ, τ) (some (.inl q.1)) (q.2, τ) :=
  Cx.of (lv := [(0, .inr (.inr (7, 0)))]) (by decide) (fun ad => Nat.le_of_ble_eq_true rfl) (fun ad => rfl) (lX7_text_0 σ τ h ⟨rfl, rfl⟩)
-- ThinBodies$Sheet begin (II)V
noncomputable def fX5_begin_12 (a0 : Nat) (a3 : Int32) (σ : mm) : Option ((Int32 × mm) ⊕ (mm)) :=
  if (40 : Int32) ≤ a3 then
  some (.inr (σ))
  else
  Option.bind (wrL σ 26 a0 40 a3 (0 : Int64)) fun σ1 =>
  Option.bind (some (a3 + (1 : Int32))) fun x2 =>
  some (.inl (x2, σ1))
noncomputable def fX5_begin_12_L (a0 : Nat) : Int32 × mm → Option ((Int32 × mm) ⊕ (mm)) := fun z => fX5_begin_12 a0 z.1 z.2
noncomputable def fX5_begin_0 (a0 : Nat) (a1 : Int32) (a2 : Int32) (σ : mm) : Option (mm) :=
  Option.bind (some (stI σ 5 a0 0 a1)) fun σ1 =>
  Option.bind (some (stI σ1 5 a0 1 a2)) fun σ2 =>
  lp (fX5_begin_12_L a0) ((0 : Int32), σ2)
noncomputable def fX5_begin (a0 : Nat) (a1 : Int32) (a2 : Int32) (σ : mm) : Option (mm) := fX5_begin_0 a0 a1 a2 σ
set_option maxRecDepth 20000 in
theorem lX5_begin_12 (a0 : Nat) (ha0 : a0 < 4) (a3 : Int32) (σ τ : mm) {r : Option mv} {M' : mm × mm} {v9 : (Int32 × mm) ⊕ (mm)} (h : fX5_begin_12 a0 a3 σ = some v9) (hk : (Sum.elim (fun z : Int32 × mm => Vm mX5_begin 0 12 [(0, .inr (.inr (5, a0))), (3, .inl z.1)] [] (z.2, τ) r M') (fun q : mm => r = none ∧ M' = (q, τ))) v9) : Vm mX5_begin 0 12 [(0, .inr (.inr (5, a0))), (3, .inl a3)] [] (σ, τ) r M' := by
  unfold fX5_begin_12 at h
  refine Vm.iload_n (n := 13) 1 dX5_begin_12 rfl rfl ?_
  refine Vm.bipush (n := 15) (v := (40 : Int32)) dX5_begin_13 rfl (by decide) ?_
  refine Vm.icmp_ge (n := 18) 31 dX5_begin_15 rfl rfl (fun c9 => ?_) (fun c9 => ?_)
  · replace h := (if_pos c9).symm.trans h
    obtain rfl := Option.some.inj h
    exact Vm.vret dX5_begin_31 rfl hk.1 hk.2.symm
  · replace h := (if_neg c9).symm.trans h
    refine Vm.aload_n (n := 19) 0 dX5_begin_18 rfl rfl ?_
    refine Vm.getR (n := 22) dX5_begin_19 rfl wf_RX5_18 (ink ik_5 (by omega)) rfl (by decide) rfl ?_
    refine Vm.iload_n (n := 23) 1 dX5_begin_22 rfl rfl ?_
    refine Vm.lconst (n := 24) (v := (0 : Int64)) dX5_begin_23 rfl (by decide) ?_
    replace h := Option.bind_eq_some_iff.mp h
    obtain ⟨σ1, h1, h⟩ := h
    refine Vm.lastx (n := 25) dX5_begin_24 rfl (ink ik_26 (by omega)) rfl rfl (by decide) h1 ?_
    replace h := Option.bind_eq_some_iff.mp h
    obtain ⟨x2, e2, h⟩ := h
    replace e2 := Option.some.inj e2
    refine Vm.iinc (n := 28) (v := x2) (lv' := [(3, .inl x2), (0, .inr (.inr (5, a0)))]) 1 dX5_begin_25 rfl rfl e2 (Nat.le_of_ble_eq_true rfl) rfl ?_
    refine Vm.goto 12 dX5_begin_28 rfl ?_
    refine Vm.sub (lv' := [(0, .inr (.inr (5, a0))), (3, .inl x2)]) [1, 0] rfl ?_
    obtain rfl := Option.some.inj h
    exact hk
theorem lX5_begin_12_L (a0 : Nat) (ha0 : a0 < 4) (τ : mm) {r : Option mv} {M' : mm × mm} (z : Int32 × mm) (w9 : mm) (h : lp (fX5_begin_12_L a0) z = some w9) (hk : (fun q : mm => r = none ∧ M' = (q, τ)) w9) : Vm mX5_begin 0 12 [(0, .inr (.inr (5, a0))), (3, .inl z.1)] [] (z.2, τ) r M' :=
  lp_link (S := Int32 × mm) (R := mm) (body := fX5_begin_12_L a0) (A := fun z : Int32 × mm => Vm mX5_begin 0 12 [(0, .inr (.inr (5, a0))), (3, .inl z.1)] [] (z.2, τ) r M') (B := fun w : mm => (fun q : mm => r = none ∧ M' = (q, τ)) w) (fun z v hb hv => lX5_begin_12 a0 ha0 z.1 z.2 τ hb hv) z w9 h hk
set_option maxRecDepth 20000 in
theorem lX5_begin_0 (a0 : Nat) (ha0 : a0 < 4) (a1 : Int32) (a2 : Int32) (σ τ : mm) {r : Option mv} {M' : mm × mm} {v9 : mm} (h : fX5_begin_0 a0 a1 a2 σ = some v9) (hk : (fun q : mm => r = none ∧ M' = (q, τ)) v9) : Vm mX5_begin 0 0 [(0, .inr (.inr (5, a0))), (1, .inl a1), (2, .inl a2)] [] (σ, τ) r M' := by
  unfold fX5_begin_0 at h
  refine Vm.aload_n (n := 1) 0 dX5_begin_0 rfl rfl ?_
  refine Vm.iload_n (n := 2) 1 dX5_begin_1 rfl rfl ?_
  refine Vm.pX (n := 5) (ty := .int) dX5_begin_2 rfl wf_RX5_9 (ink ik_5 (by omega)) rfl (by decide) rfl (by decide) rfl rfl rfl rfl ?_
  replace h := Option.bind_eq_some_iff.mp h
  obtain ⟨σ1, e1, h⟩ := h
  replace e1 := Option.some.inj e1
  refine Vm.mem (congrArg (fun z => (z, τ)) e1) ?_
  refine Vm.aload_n (n := 6) 0 dX5_begin_5 rfl rfl ?_
  refine Vm.iload_n (n := 7) 2 dX5_begin_6 rfl rfl ?_
  refine Vm.pX (n := 10) (ty := .int) dX5_begin_7 rfl wf_RX5_15 (ink ik_5 (by omega)) rfl (by decide) rfl (by decide) rfl rfl rfl rfl ?_
  replace h := Option.bind_eq_some_iff.mp h
  obtain ⟨σ2, e2, h⟩ := h
  replace e2 := Option.some.inj e2
  refine Vm.mem (congrArg (fun z => (z, τ)) e2) ?_
  refine Vm.iconst (n := 11) (v := (0 : Int32)) dX5_begin_10 rfl (by decide) ?_
  refine Vm.istore_n (n := 12) (lv' := [(3, .inl (0 : Int32)), (0, .inr (.inr (5, a0))), (1, .inl a1), (2, .inl a2)]) dX5_begin_11 rfl (Nat.le_of_ble_eq_true rfl) rfl ?_
  refine Vm.sub (lv' := [(0, .inr (.inr (5, a0))), (3, .inl (0 : Int32))]) [1, 0] rfl ?_
  exact lX5_begin_12_L a0 (by omega) τ ((0 : Int32), σ2) _ h hk
theorem kX5_begin (a0 : Nat) (ha0 : a0 < 4) (a1 : Int32) (a2 : Int32) (σ τ : mm) {q : mm} (h : fX5_begin a0 a1 a2 σ = some q) : Cx mX5_begin 0 [.inr (.inr (5, a0)), .inl a1, .inl a2] (σ, τ) (none) (q, τ) :=
  Cx.of (lv := [(0, .inr (.inr (5, a0))), (1, .inl a1), (2, .inl a2)]) (by decide) (fun ad => Nat.le_of_ble_eq_true rfl) (fun ad => rfl) (lX5_begin_0 a0 ha0 a1 a2 σ τ h ⟨rfl, rfl⟩)
-- ThinBodies sheet (III)I
noncomputable def fX7_sheet_82 (a1 : Int32) (s0 : Nat) (s1 : Int32) (s2 : Int32) (σ : mm) : Option (Int32 × mm) :=
  Option.bind (fX5_begin s0 s1 s2 σ) fun q1 =>
  Option.bind (rdR 4 a1) fun k2 =>
  some ((q1.1 5 k2 1, q1))
noncomputable def fX7_sheet_66 (a1 : Int32) (a2 : Int32) (a3 : Int32) (σ : mm) : Option (Int32 × mm) :=
  Option.bind (rdR 4 a1) fun k1 =>
  if a2 = (0 : Int32) then
  fX7_sheet_82 a1 k1 a2 (0 : Int32) σ
  else
  fX7_sheet_82 a1 k1 a2 a3 σ
noncomputable def fX7_sheet_50 (a1 : Int32) (a2 : Int32) (a3 : Int32) (σ : mm) : Option (Int32 × mm) :=
  if a2 = (0 : Int32) then
  fX7_sheet_66 a1 a2 a3 σ
  else
  if a3 ≤ (40 : Int32) then
  fX7_sheet_66 a1 a2 a3 σ
  else
  Option.bind (fX7_finding (0 : Int32) σ) fun q1 =>
  some ((q1.1, q1.2))
noncomputable def fX7_sheet_35 (a1 : Int32) (a2 : Int32) (a3 : Int32) (σ : mm) : Option (Int32 × mm) :=
  if a2 = (0 : Int32) then
  fX7_sheet_50 a1 a2 a3 σ
  else
  if (0 : Int32) ≤ a3 then
  fX7_sheet_50 a1 a2 a3 σ
  else
  Option.bind (fX7_finding (6 : Int32) σ) fun q1 =>
  some ((q1.1, q1.2))
noncomputable def fX7_sheet_29 (σ : mm) : Option (Int32 × mm) :=
  Option.bind (fX7_finding (0 : Int32) σ) fun q1 =>
  some ((q1.1, q1.2))
noncomputable def fX7_sheet_0 (a1 : Int32) (a2 : Int32) (a3 : Int32) (σ : mm) : Option (Int32 × mm) :=
  if (bi (fX7_isSheet a1)) = (0 : Int32) then
  fX7_sheet_29 σ
  else
  if a2 = (0 : Int32) then
  fX7_sheet_35 a1 a2 a3 σ
  else
  if a2 = (8 : Int32) then
  fX7_sheet_35 a1 a2 a3 σ
  else
  if a2 = (16 : Int32) then
  fX7_sheet_35 a1 a2 a3 σ
  else
  if a2 = (64 : Int32) then
  fX7_sheet_35 a1 a2 a3 σ
  else
  fX7_sheet_29 σ
noncomputable def fX7_sheet (a1 : Int32) (a2 : Int32) (a3 : Int32) (σ : mm) : Option (Int32 × mm) := fX7_sheet_0 a1 a2 a3 σ
set_option maxRecDepth 20000 in
theorem lX7_sheet_82 (a1 : Int32) (s0 : Nat) (hs0 : s0 < 4) (s1 : Int32) (s2 : Int32) (σ τ : mm) {r : Option mv} {M' : mm × mm} {v9 : Int32 × mm} (h : fX7_sheet_82 a1 s0 s1 s2 σ = some v9) (hk : (fun q : Int32 × mm => r = some (.inl q.1) ∧ M' = (q.2, τ)) v9) : Vm mX7_sheet 1 82 [(0, .inr (.inr (7, 0))), (1, .inl a1)] [.inl s2, .inl s1, .inr (.inr (5, s0))] (σ, τ) r M' := by
  unfold fX7_sheet_82 at h
  replace h := Option.bind_eq_some_iff.mp h
  obtain ⟨q1, h1, h⟩ := h
  refine Vm.callVv (Y := mX5_begin) (n := 85) [.inl s1, .inl s2] dX7_sheet_82 rfl wv_RX7_341 omX5_begin rfl (ink ik_5 (by omega)) rfl rfl rfl (Nat.le_of_ble_eq_true rfl) (by decide) (kX5_begin s0 (by omega) s1 s2 σ τ h1) ?_
  refine Vm.aload_n (n := 86) 0 dX7_sheet_85 rfl rfl ?_
  refine Vm.getR (n := 89) dX7_sheet_86 rfl wf_RX7_56 in_7 rfl (by decide) rfl ?_
  refine Vm.iload_n (n := 90) 1 dX7_sheet_89 rfl rfl ?_
  replace h := Option.bind_eq_some_iff.mp h
  obtain ⟨k2, h2, h⟩ := h
  refine Vm.aald (n := 91) dX7_sheet_90 rfl in_30 rfl rfl (by decide) (fun _ => rfl) rfl h2 ?_
  have g2 := rdR_lt h2
  refine Vm.gX (n := 94) dX7_sheet_91 rfl wf_RX7_270 (ink ik_5 (by omega)) rfl (by decide) rfl (by decide) ?_
  obtain rfl := Option.some.inj h
  exact Vm.iret dX7_sheet_94 rfl hk.1 hk.2.symm
set_option maxRecDepth 20000 in
theorem lX7_sheet_66 (a1 : Int32) (a2 : Int32) (a3 : Int32) (σ τ : mm) {r : Option mv} {M' : mm × mm} {v9 : Int32 × mm} (h : fX7_sheet_66 a1 a2 a3 σ = some v9) (hk : (fun q : Int32 × mm => r = some (.inl q.1) ∧ M' = (q.2, τ)) v9) : Vm mX7_sheet 1 66 [(0, .inr (.inr (7, 0))), (1, .inl a1), (2, .inl a2), (3, .inl a3)] [] (σ, τ) r M' := by
  unfold fX7_sheet_66 at h
  refine Vm.aload_n (n := 67) 0 dX7_sheet_66 rfl rfl ?_
  refine Vm.getR (n := 70) dX7_sheet_67 rfl wf_RX7_56 in_7 rfl (by decide) rfl ?_
  refine Vm.iload_n (n := 71) 1 dX7_sheet_70 rfl rfl ?_
  replace h := Option.bind_eq_some_iff.mp h
  obtain ⟨k1, h1, h⟩ := h
  refine Vm.aald (n := 72) dX7_sheet_71 rfl in_30 rfl rfl (by decide) (fun _ => rfl) rfl h1 ?_
  have g1 := rdR_lt h1
  refine Vm.iload_n (n := 73) 2 dX7_sheet_72 rfl rfl ?_
  refine Vm.iload_n (n := 74) 2 dX7_sheet_73 rfl rfl ?_
  refine Vm.if_ne (n := 77) 81 dX7_sheet_74 rfl rfl (fun c9 => ?_) (fun c9 => ?_)
  · replace h := (if_neg c9).symm.trans h
    refine Vm.iload_n (n := 82) 3 dX7_sheet_81 rfl rfl ?_
    refine Vm.sub (lv' := [(0, .inr (.inr (7, 0))), (1, .inl a1)]) [0, 1] rfl ?_
    exact lX7_sheet_82 a1 k1 (by omega) a2 a3 σ τ h hk
  · replace h := (if_pos c9).symm.trans h
    refine Vm.iconst (n := 78) (v := (0 : Int32)) dX7_sheet_77 rfl (by decide) ?_
    refine Vm.goto 82 dX7_sheet_78 rfl ?_
    refine Vm.sub (lv' := [(0, .inr (.inr (7, 0))), (1, .inl a1)]) [0, 1] rfl ?_
    exact lX7_sheet_82 a1 k1 (by omega) a2 (0 : Int32) σ τ h hk
set_option maxRecDepth 20000 in
theorem lX7_sheet_50 (a1 : Int32) (a2 : Int32) (a3 : Int32) (σ τ : mm) {r : Option mv} {M' : mm × mm} {v9 : Int32 × mm} (h : fX7_sheet_50 a1 a2 a3 σ = some v9) (hk : (fun q : Int32 × mm => r = some (.inl q.1) ∧ M' = (q.2, τ)) v9) : Vm mX7_sheet 1 50 [(0, .inr (.inr (7, 0))), (1, .inl a1), (2, .inl a2), (3, .inl a3)] [] (σ, τ) r M' := by
  unfold fX7_sheet_50 at h
  refine Vm.iload_n (n := 51) 2 dX7_sheet_50 rfl rfl ?_
  refine Vm.if_eq (n := 54) 66 dX7_sheet_51 rfl rfl (fun c9 => ?_) (fun c9 => ?_)
  · replace h := (if_pos c9).symm.trans h
    exact lX7_sheet_66 a1 a2 a3 σ τ h hk
  · replace h := (if_neg c9).symm.trans h
    refine Vm.iload_n (n := 55) 3 dX7_sheet_54 rfl rfl ?_
    refine Vm.bipush (n := 57) (v := (40 : Int32)) dX7_sheet_55 rfl (by decide) ?_
    refine Vm.icmp_le (n := 60) 66 dX7_sheet_57 rfl rfl (fun c9 => ?_) (fun c9 => ?_)
    · replace h := (if_pos c9).symm.trans h
      exact lX7_sheet_66 a1 a2 a3 σ τ h hk
    · replace h := (if_neg c9).symm.trans h
      refine Vm.aload_n (n := 61) 0 dX7_sheet_60 rfl rfl ?_
      refine Vm.iconst (n := 62) (v := (0 : Int32)) dX7_sheet_61 rfl (by decide) ?_
      replace h := Option.bind_eq_some_iff.mp h
      obtain ⟨q1, h1, h⟩ := h
      refine Vm.callV (Y := mX7_finding) (n := 65) [.inl (0 : Int32)] dX7_sheet_62 rfl wv_RX7_68 omX7_finding rfl in_7 rfl rfl rfl (Nat.le_of_ble_eq_true rfl) (by decide) (kX7_finding (0 : Int32) σ τ h1) ?_
      obtain rfl := Option.some.inj h
      exact Vm.iret dX7_sheet_65 rfl hk.1 hk.2.symm
set_option maxRecDepth 20000 in
theorem lX7_sheet_35 (a1 : Int32) (a2 : Int32) (a3 : Int32) (σ τ : mm) {r : Option mv} {M' : mm × mm} {v9 : Int32 × mm} (h : fX7_sheet_35 a1 a2 a3 σ = some v9) (hk : (fun q : Int32 × mm => r = some (.inl q.1) ∧ M' = (q.2, τ)) v9) : Vm mX7_sheet 1 35 [(0, .inr (.inr (7, 0))), (1, .inl a1), (2, .inl a2), (3, .inl a3)] [] (σ, τ) r M' := by
  unfold fX7_sheet_35 at h
  refine Vm.iload_n (n := 36) 2 dX7_sheet_35 rfl rfl ?_
  refine Vm.if_eq (n := 39) 50 dX7_sheet_36 rfl rfl (fun c9 => ?_) (fun c9 => ?_)
  · replace h := (if_pos c9).symm.trans h
    exact lX7_sheet_50 a1 a2 a3 σ τ h hk
  · replace h := (if_neg c9).symm.trans h
    refine Vm.iload_n (n := 40) 3 dX7_sheet_39 rfl rfl ?_
    refine Vm.if_ge (n := 43) 50 dX7_sheet_40 rfl rfl (fun c9 => ?_) (fun c9 => ?_)
    · replace h := (if_pos c9).symm.trans h
      exact lX7_sheet_50 a1 a2 a3 σ τ h hk
    · replace h := (if_neg c9).symm.trans h
      refine Vm.aload_n (n := 44) 0 dX7_sheet_43 rfl rfl ?_
      refine Vm.bipush (n := 46) (v := (6 : Int32)) dX7_sheet_44 rfl (by decide) ?_
      replace h := Option.bind_eq_some_iff.mp h
      obtain ⟨q1, h1, h⟩ := h
      refine Vm.callV (Y := mX7_finding) (n := 49) [.inl (6 : Int32)] dX7_sheet_46 rfl wv_RX7_68 omX7_finding rfl in_7 rfl rfl rfl (Nat.le_of_ble_eq_true rfl) (by decide) (kX7_finding (6 : Int32) σ τ h1) ?_
      obtain rfl := Option.some.inj h
      exact Vm.iret dX7_sheet_49 rfl hk.1 hk.2.symm
set_option maxRecDepth 20000 in
theorem lX7_sheet_29 (σ τ : mm) {r : Option mv} {M' : mm × mm} {v9 : Int32 × mm} (h : fX7_sheet_29 σ = some v9) (hk : (fun q : Int32 × mm => r = some (.inl q.1) ∧ M' = (q.2, τ)) v9) : Vm mX7_sheet 1 29 [(0, .inr (.inr (7, 0)))] [] (σ, τ) r M' := by
  unfold fX7_sheet_29 at h
  refine Vm.aload_n (n := 30) 0 dX7_sheet_29 rfl rfl ?_
  refine Vm.iconst (n := 31) (v := (0 : Int32)) dX7_sheet_30 rfl (by decide) ?_
  replace h := Option.bind_eq_some_iff.mp h
  obtain ⟨q1, h1, h⟩ := h
  refine Vm.callV (Y := mX7_finding) (n := 34) [.inl (0 : Int32)] dX7_sheet_31 rfl wv_RX7_68 omX7_finding rfl in_7 rfl rfl rfl (Nat.le_of_ble_eq_true rfl) (by decide) (kX7_finding (0 : Int32) σ τ h1) ?_
  obtain rfl := Option.some.inj h
  exact Vm.iret dX7_sheet_34 rfl hk.1 hk.2.symm
set_option maxRecDepth 20000 in
theorem lX7_sheet_0 (a1 : Int32) (a2 : Int32) (a3 : Int32) (σ τ : mm) {r : Option mv} {M' : mm × mm} {v9 : Int32 × mm} (h : fX7_sheet_0 a1 a2 a3 σ = some v9) (hk : (fun q : Int32 × mm => r = some (.inl q.1) ∧ M' = (q.2, τ)) v9) : Vm mX7_sheet 1 0 [(0, .inr (.inr (7, 0))), (1, .inl a1), (2, .inl a2), (3, .inl a3)] [] (σ, τ) r M' := by
  unfold fX7_sheet_0 at h
  refine Vm.iload_n (n := 1) 1 dX7_sheet_0 rfl rfl ?_
  refine Vm.callS (Y := mX7_isSheet) (n := 4) [.inl a1] dX7_sheet_1 rfl wv_RX7_338 omX7_isSheet rfl rfl (Nat.le_of_ble_eq_true rfl) (by decide) (kX7_isSheet a1 rfl) ?_
  refine Vm.if_eq (n := 7) 29 dX7_sheet_4 rfl rfl (fun c9 => ?_) (fun c9 => ?_)
  · replace h := (if_pos c9).symm.trans h
    refine Vm.sub (lv' := [(0, .inr (.inr (7, 0)))]) [0] rfl ?_
    exact lX7_sheet_29 σ τ h hk
  · replace h := (if_neg c9).symm.trans h
    refine Vm.iload_n (n := 8) 2 dX7_sheet_7 rfl rfl ?_
    refine Vm.if_eq (n := 11) 35 dX7_sheet_8 rfl rfl (fun c9 => ?_) (fun c9 => ?_)
    · replace h := (if_pos c9).symm.trans h
      exact lX7_sheet_35 a1 a2 a3 σ τ h hk
    · replace h := (if_neg c9).symm.trans h
      refine Vm.iload_n (n := 12) 2 dX7_sheet_11 rfl rfl ?_
      refine Vm.bipush (n := 14) (v := (8 : Int32)) dX7_sheet_12 rfl (by decide) ?_
      refine Vm.icmp_eq (n := 17) 35 dX7_sheet_14 rfl rfl (fun c9 => ?_) (fun c9 => ?_)
      · replace h := (if_pos c9).symm.trans h
        exact lX7_sheet_35 a1 a2 a3 σ τ h hk
      · replace h := (if_neg c9).symm.trans h
        refine Vm.iload_n (n := 18) 2 dX7_sheet_17 rfl rfl ?_
        refine Vm.bipush (n := 20) (v := (16 : Int32)) dX7_sheet_18 rfl (by decide) ?_
        refine Vm.icmp_eq (n := 23) 35 dX7_sheet_20 rfl rfl (fun c9 => ?_) (fun c9 => ?_)
        · replace h := (if_pos c9).symm.trans h
          exact lX7_sheet_35 a1 a2 a3 σ τ h hk
        · replace h := (if_neg c9).symm.trans h
          refine Vm.iload_n (n := 24) 2 dX7_sheet_23 rfl rfl ?_
          refine Vm.bipush (n := 26) (v := (64 : Int32)) dX7_sheet_24 rfl (by decide) ?_
          refine Vm.icmp_eq (n := 29) 35 dX7_sheet_26 rfl rfl (fun c9 => ?_) (fun c9 => ?_)
          · replace h := (if_pos c9).symm.trans h
            exact lX7_sheet_35 a1 a2 a3 σ τ h hk
          · replace h := (if_neg c9).symm.trans h
            refine Vm.sub (lv' := [(0, .inr (.inr (7, 0)))]) [0] rfl ?_
            exact lX7_sheet_29 σ τ h hk
theorem kX7_sheet (a1 : Int32) (a2 : Int32) (a3 : Int32) (σ τ : mm) {q : Int32 × mm} (h : fX7_sheet a1 a2 a3 σ = some q) : Cx mX7_sheet 1 [.inr (.inr (7, 0)), .inl a1, .inl a2, .inl a3] (σ, τ) (some (.inl q.1)) (q.2, τ) :=
  Cx.of (lv := [(0, .inr (.inr (7, 0))), (1, .inl a1), (2, .inl a2), (3, .inl a3)]) (by decide) (fun ad => Nat.le_of_ble_eq_true rfl) (fun ad => rfl) (lX7_sheet_0 a1 a2 a3 σ τ h ⟨rfl, rfl⟩)
-- ThinBodies$Sheet put (IJ)V
def fX5_put_0 (a0 : Nat) (a1 : Int32) (a2 : Int64) (σ : mm) : Option (mm) :=
  if (σ.1 5 a0 0) = (8 : Int32) then
  Option.bind (wrL σ 26 a0 40 a1 a2.toInt32.toInt8.toInt32.toInt64) fun σ3 =>
  some (σ3)
  else
  if (σ.1 5 a0 0) = (16 : Int32) then
  Option.bind (wrL σ 26 a0 40 a1 a2.toInt32.toInt16.toInt32.toInt64) fun σ2 =>
  some (σ2)
  else
  Option.bind (wrL σ 26 a0 40 a1 a2) fun σ1 =>
  some (σ1)
def fX5_put (a0 : Nat) (a1 : Int32) (a2 : Int64) (σ : mm) : Option (mm) := fX5_put_0 a0 a1 a2 σ
set_option maxRecDepth 20000 in
theorem lX5_put_0 (a0 : Nat) (ha0 : a0 < 4) (a1 : Int32) (a2 : Int64) (σ τ : mm) {r : Option mv} {M' : mm × mm} {v9 : mm} (h : fX5_put_0 a0 a1 a2 σ = some v9) (hk : (fun q : mm => r = none ∧ M' = (q, τ)) v9) : Vm mX5_put 0 0 [(0, .inr (.inr (5, a0))), (1, .inl a1), (2, .inr (.inl a2))] [] (σ, τ) r M' := by
  unfold fX5_put_0 at h
  refine Vm.aload_n (n := 1) 0 dX5_put_0 rfl rfl ?_
  refine Vm.gX (n := 4) dX5_put_1 rfl wf_RX5_9 (ink ik_5 (by omega)) rfl (by decide) rfl (by decide) ?_
  refine Vm.bipush (n := 6) (v := (8 : Int32)) dX5_put_4 rfl (by decide) ?_
  refine Vm.icmp_ne (n := 9) 22 dX5_put_6 rfl rfl (fun c9 => ?_) (fun c9 => ?_)
  · replace h := (if_neg c9).symm.trans h
    refine Vm.aload_n (n := 23) 0 dX5_put_22 rfl rfl ?_
    refine Vm.gX (n := 26) dX5_put_23 rfl wf_RX5_9 (ink ik_5 (by omega)) rfl (by decide) rfl (by decide) ?_
    refine Vm.bipush (n := 28) (v := (16 : Int32)) dX5_put_26 rfl (by decide) ?_
    refine Vm.icmp_ne (n := 31) 44 dX5_put_28 rfl rfl (fun c9 => ?_) (fun c9 => ?_)
    · replace h := (if_neg c9).symm.trans h
      refine Vm.aload_n (n := 45) 0 dX5_put_44 rfl rfl ?_
      refine Vm.getR (n := 48) dX5_put_45 rfl wf_RX5_18 (ink ik_5 (by omega)) rfl (by decide) rfl ?_
      refine Vm.iload_n (n := 49) 1 dX5_put_48 rfl rfl ?_
      refine Vm.lload_n (n := 50) 2 dX5_put_49 rfl rfl ?_
      replace h := Option.bind_eq_some_iff.mp h
      obtain ⟨σ1, h1, h⟩ := h
      refine Vm.lastx (n := 51) dX5_put_50 rfl (ink ik_26 (by omega)) rfl rfl (by decide) h1 ?_
      obtain rfl := Option.some.inj h
      exact Vm.vret dX5_put_51 rfl hk.1 hk.2.symm
    · replace h := (if_pos c9).symm.trans h
      refine Vm.aload_n (n := 32) 0 dX5_put_31 rfl rfl ?_
      refine Vm.getR (n := 35) dX5_put_32 rfl wf_RX5_18 (ink ik_5 (by omega)) rfl (by decide) rfl ?_
      refine Vm.iload_n (n := 36) 1 dX5_put_35 rfl rfl ?_
      refine Vm.lload_n (n := 37) 2 dX5_put_36 rfl rfl ?_
      refine Vm.l2i (n := 38) dX5_put_37 rfl ?_
      refine Vm.i2s (n := 39) dX5_put_38 rfl ?_
      refine Vm.i2l (n := 40) dX5_put_39 rfl ?_
      replace h := Option.bind_eq_some_iff.mp h
      obtain ⟨σ2, h2, h⟩ := h
      refine Vm.lastx (n := 41) dX5_put_40 rfl (ink ik_26 (by omega)) rfl rfl (by decide) h2 ?_
      refine Vm.goto 51 dX5_put_41 rfl ?_
      obtain rfl := Option.some.inj h
      exact Vm.vret dX5_put_51 rfl hk.1 hk.2.symm
  · replace h := (if_pos c9).symm.trans h
    refine Vm.aload_n (n := 10) 0 dX5_put_9 rfl rfl ?_
    refine Vm.getR (n := 13) dX5_put_10 rfl wf_RX5_18 (ink ik_5 (by omega)) rfl (by decide) rfl ?_
    refine Vm.iload_n (n := 14) 1 dX5_put_13 rfl rfl ?_
    refine Vm.lload_n (n := 15) 2 dX5_put_14 rfl rfl ?_
    refine Vm.l2i (n := 16) dX5_put_15 rfl ?_
    refine Vm.i2b (n := 17) dX5_put_16 rfl ?_
    refine Vm.i2l (n := 18) dX5_put_17 rfl ?_
    replace h := Option.bind_eq_some_iff.mp h
    obtain ⟨σ3, h3, h⟩ := h
    refine Vm.lastx (n := 19) dX5_put_18 rfl (ink ik_26 (by omega)) rfl rfl (by decide) h3 ?_
    refine Vm.goto 51 dX5_put_19 rfl ?_
    obtain rfl := Option.some.inj h
    exact Vm.vret dX5_put_51 rfl hk.1 hk.2.symm
theorem kX5_put (a0 : Nat) (ha0 : a0 < 4) (a1 : Int32) (a2 : Int64) (σ τ : mm) {q : mm} (h : fX5_put a0 a1 a2 σ = some q) : Cx mX5_put 0 [.inr (.inr (5, a0)), .inl a1, .inr (.inl a2)] (σ, τ) (none) (q, τ) :=
  Cx.of (lv := [(0, .inr (.inr (5, a0))), (1, .inl a1), (2, .inr (.inl a2))]) (by decide) (fun ad => Nat.le_of_ble_eq_true rfl) (fun ad => rfl) (lX5_put_0 a0 ha0 a1 a2 σ τ h ⟨rfl, rfl⟩)
-- ThinBodies write (IIJ)J
def fX7_write_42 (σ : mm) : Option (Int64 × mm) :=
  Option.bind (fX7_finding (0 : Int32) σ) fun q1 =>
  some ((q1.1.toInt64, q1.2))
def fX7_write_0 (a1 : Int32) (a2 : Int32) (a3 : Int64) (σ : mm) : Option (Int64 × mm) :=
  Option.bind (fX7_sheetTrouble a1 σ) fun q1 =>
  if q1 = (-1 : Int32) then
  Option.bind (rdR 4 a1) fun k2 =>
  if a2 < (0 : Int32) then
  fX7_write_42 σ
  else
  if a2 < (σ.1 5 k2 1) then
  Option.bind (rdL σ 26 k2 40 a2) fun x3 =>
  Option.bind (fX5_put k2 a2 a3 σ) fun q4 =>
  some ((x3, q4))
  else
  fX7_write_42 σ
  else
  Option.bind (fX7_finding q1 σ) fun q5 =>
  some ((q5.1.toInt64, q5.2))
def fX7_write (a1 : Int32) (a2 : Int32) (a3 : Int64) (σ : mm) : Option (Int64 × mm) := fX7_write_0 a1 a2 a3 σ
set_option maxRecDepth 20000 in
theorem lX7_write_42 (σ τ : mm) {r : Option mv} {M' : mm × mm} {v9 : Int64 × mm} (h : fX7_write_42 σ = some v9) (hk : (fun q : Int64 × mm => r = some (.inr (.inl q.1)) ∧ M' = (q.2, τ)) v9) : Vm mX7_write 2 42 [(0, .inr (.inr (7, 0)))] [] (σ, τ) r M' := by
  unfold fX7_write_42 at h
  refine Vm.aload_n (n := 43) 0 dX7_write_42 rfl rfl ?_
  refine Vm.iconst (n := 44) (v := (0 : Int32)) dX7_write_43 rfl (by decide) ?_
  replace h := Option.bind_eq_some_iff.mp h
  obtain ⟨q1, h1, h⟩ := h
  refine Vm.callV (Y := mX7_finding) (n := 47) [.inl (0 : Int32)] dX7_write_44 rfl wv_RX7_68 omX7_finding rfl in_7 rfl rfl rfl (Nat.le_of_ble_eq_true rfl) (by decide) (kX7_finding (0 : Int32) σ τ h1) ?_
  refine Vm.i2l (n := 48) dX7_write_47 rfl ?_
  obtain rfl := Option.some.inj h
  exact Vm.lret dX7_write_48 rfl hk.1 hk.2.symm
set_option maxRecDepth 20000 in
theorem lX7_write_0 (a1 : Int32) (a2 : Int32) (a3 : Int64) (σ τ : mm) {r : Option mv} {M' : mm × mm} {v9 : Int64 × mm} (h : fX7_write_0 a1 a2 a3 σ = some v9) (hk : (fun q : Int64 × mm => r = some (.inr (.inl q.1)) ∧ M' = (q.2, τ)) v9) : Vm mX7_write 2 0 [(0, .inr (.inr (7, 0))), (1, .inl a1), (2, .inl a2), (3, .inr (.inl a3))] [] (σ, τ) r M' := by
  unfold fX7_write_0 at h
  refine Vm.aload_n (n := 1) 0 dX7_write_0 rfl rfl ?_
  refine Vm.iload_n (n := 2) 1 dX7_write_1 rfl rfl ?_
  replace h := Option.bind_eq_some_iff.mp h
  obtain ⟨q1, h1, h⟩ := h
  refine Vm.callV (Y := mX7_sheetTrouble) (n := 5) [.inl a1] dX7_write_2 rfl wv_RX7_267 omX7_sheetTrouble rfl in_7 rfl rfl rfl (Nat.le_of_ble_eq_true rfl) (by decide) (kX7_sheetTrouble a1 σ τ h1) ?_
  refine Vm.istore (n := 7) (lv' := [(5, .inl q1), (0, .inr (.inr (7, 0))), (1, .inl a1), (2, .inl a2), (3, .inr (.inl a3))]) dX7_write_5 rfl (Nat.le_of_ble_eq_true rfl) rfl ?_
  refine Vm.iload (n := 9) 0 dX7_write_7 rfl rfl ?_
  refine Vm.iconst (n := 10) (v := (-1 : Int32)) dX7_write_9 rfl (by decide) ?_
  refine Vm.icmp_eq (n := 13) 21 dX7_write_10 rfl rfl (fun c9 => ?_) (fun c9 => ?_)
  · replace h := (if_pos c9).symm.trans h
    refine Vm.aload_n (n := 22) 1 dX7_write_21 rfl rfl ?_
    refine Vm.getR (n := 25) dX7_write_22 rfl wf_RX7_56 in_7 rfl (by decide) rfl ?_
    refine Vm.iload_n (n := 26) 2 dX7_write_25 rfl rfl ?_
    replace h := Option.bind_eq_some_iff.mp h
    obtain ⟨k2, h2, h⟩ := h
    refine Vm.aald (n := 27) dX7_write_26 rfl in_30 rfl rfl (by decide) (fun _ => rfl) rfl h2 ?_
    have g2 := rdR_lt h2
    refine Vm.astore (n := 29) (lv' := [(6, .inr (.inr (5, k2))), (5, .inl q1), (0, .inr (.inr (7, 0))), (1, .inl a1), (2, .inl a2), (3, .inr (.inl a3))]) dX7_write_27 rfl (Nat.le_of_ble_eq_true rfl) rfl ?_
    refine Vm.iload_n (n := 30) 4 dX7_write_29 rfl rfl ?_
    refine Vm.if_lt (n := 33) 42 dX7_write_30 rfl rfl (fun c9 => ?_) (fun c9 => ?_)
    · replace h := (if_pos c9).symm.trans h
      refine Vm.sub (lv' := [(0, .inr (.inr (7, 0)))]) [2] rfl ?_
      exact lX7_write_42 σ τ h hk
    · replace h := (if_neg c9).symm.trans h
      refine Vm.iload_n (n := 34) 4 dX7_write_33 rfl rfl ?_
      refine Vm.aload (n := 36) 0 dX7_write_34 rfl rfl ?_
      refine Vm.gX (n := 39) dX7_write_36 rfl wf_RX7_270 (ink ik_5 (by omega)) rfl (by decide) rfl (by decide) ?_
      refine Vm.icmp_lt (n := 42) 49 dX7_write_39 rfl rfl (fun c9 => ?_) (fun c9 => ?_)
      · replace h := (if_pos c9).symm.trans h
        refine Vm.aload (n := 51) 0 dX7_write_49 rfl rfl ?_
        refine Vm.getR (n := 54) dX7_write_51 rfl wf_RX7_259 (ink ik_5 (by omega)) rfl (by decide) rfl ?_
        refine Vm.iload_n (n := 55) 4 dX7_write_54 rfl rfl ?_
        replace h := Option.bind_eq_some_iff.mp h
        obtain ⟨x3, h3, h⟩ := h
        refine Vm.laldx (n := 56) dX7_write_55 rfl (ink ik_26 (by omega)) rfl rfl (by decide) h3 ?_
        refine Vm.lstore (n := 58) (lv' := [(7, .inr (.inl x3)), (6, .inr (.inr (5, k2))), (5, .inl q1), (0, .inr (.inr (7, 0))), (1, .inl a1), (2, .inl a2), (3, .inr (.inl a3))]) dX7_write_56 rfl (Nat.le_of_ble_eq_true rfl) rfl ?_
        refine Vm.aload (n := 60) 1 dX7_write_58 rfl rfl ?_
        refine Vm.iload_n (n := 61) 5 dX7_write_60 rfl rfl ?_
        refine Vm.lload_n (n := 62) 6 dX7_write_61 rfl rfl ?_
        replace h := Option.bind_eq_some_iff.mp h
        obtain ⟨q4, h4, h⟩ := h
        refine Vm.callVv (Y := mX5_put) (n := 65) [.inl a2, .inr (.inl a3)] dX7_write_62 rfl wv_RX7_344 omX5_put rfl (ink ik_5 (by omega)) rfl rfl rfl (Nat.le_of_ble_eq_true rfl) (by decide) (kX5_put k2 (by omega) a2 a3 σ τ h4) ?_
        refine Vm.lload (n := 67) 0 dX7_write_65 rfl rfl ?_
        obtain rfl := Option.some.inj h
        exact Vm.lret dX7_write_67 rfl hk.1 hk.2.symm
      · replace h := (if_neg c9).symm.trans h
        refine Vm.sub (lv' := [(0, .inr (.inr (7, 0)))]) [2] rfl ?_
        exact lX7_write_42 σ τ h hk
  · replace h := (if_neg c9).symm.trans h
    refine Vm.aload_n (n := 14) 1 dX7_write_13 rfl rfl ?_
    refine Vm.iload (n := 16) 0 dX7_write_14 rfl rfl ?_
    replace h := Option.bind_eq_some_iff.mp h
    obtain ⟨q5, h5, h⟩ := h
    refine Vm.callV (Y := mX7_finding) (n := 19) [.inl q1] dX7_write_16 rfl wv_RX7_68 omX7_finding rfl in_7 rfl rfl rfl (Nat.le_of_ble_eq_true rfl) (by decide) (kX7_finding q1 σ τ h5) ?_
    refine Vm.i2l (n := 20) dX7_write_19 rfl ?_
    obtain rfl := Option.some.inj h
    exact Vm.lret dX7_write_20 rfl hk.1 hk.2.symm
theorem kX7_write (a1 : Int32) (a2 : Int32) (a3 : Int64) (σ τ : mm) {q : Int64 × mm} (h : fX7_write a1 a2 a3 σ = some q) : Cx mX7_write 2 [.inr (.inr (7, 0)), .inl a1, .inl a2, .inr (.inl a3)] (σ, τ) (some (.inr (.inl q.1))) (q.2, τ) :=
  Cx.of (lv := [(0, .inr (.inr (7, 0))), (1, .inl a1), (2, .inl a2), (3, .inr (.inl a3))]) (by decide) (fun ad => Nat.le_of_ble_eq_true rfl) (fun ad => rfl) (lX7_write_0 a1 a2 a3 σ τ h ⟨rfl, rfl⟩)
-- ThinBodies$Sheet hasRange (II)Z
def fX5_hasRange_0 (a0 : Nat) (a1 : Int32) (a2 : Int32) (σ : mm) : Bool :=
  if a1 < (0 : Int32) then
  false
  else
  if a2 < (0 : Int32) then
  false
  else
  if (σ.1 5 a0 1) < a1 then
  false
  else
  if ((σ.1 5 a0 1) - a1) < a2 then
  false
  else
  true
def fX5_hasRange (a0 : Nat) (a1 : Int32) (a2 : Int32) (σ : mm) : Bool := fX5_hasRange_0 a0 a1 a2 σ
set_option maxRecDepth 20000 in
theorem lX5_hasRange_0 (a0 : Nat) (ha0 : a0 < 4) (a1 : Int32) (a2 : Int32) (σ σ0 τ : mm) (hσ : σ = σ0) {r : Option mv} {M' : mm × mm} {v9 : Bool} (h : fX5_hasRange_0 a0 a1 a2 σ = v9) (hk : (fun q : Bool => r = some (.inl (bi q)) ∧ M' = (σ0, τ)) v9) : Vm mX5_hasRange 0 0 [(0, .inr (.inr (5, a0))), (1, .inl a1), (2, .inl a2)] [] (σ, τ) r M' := by
  unfold fX5_hasRange_0 at h
  refine Vm.iload_n (n := 1) 1 dX5_hasRange_0 rfl rfl ?_
  refine Vm.if_lt (n := 4) 30 dX5_hasRange_1 rfl rfl (fun c9 => ?_) (fun c9 => ?_)
  · replace h := (if_pos c9).symm.trans h
    refine Vm.iconst (n := 31) (v := (0 : Int32)) dX5_hasRange_30 rfl (by decide) ?_
    subst h
    exact Vm.zret (b := false) dX5_hasRange_31 rfl rfl hk.1 (by rw [hσ]; exact hk.2.symm)
  · replace h := (if_neg c9).symm.trans h
    refine Vm.iload_n (n := 5) 2 dX5_hasRange_4 rfl rfl ?_
    refine Vm.if_lt (n := 8) 30 dX5_hasRange_5 rfl rfl (fun c9 => ?_) (fun c9 => ?_)
    · replace h := (if_pos c9).symm.trans h
      refine Vm.iconst (n := 31) (v := (0 : Int32)) dX5_hasRange_30 rfl (by decide) ?_
      subst h
      exact Vm.zret (b := false) dX5_hasRange_31 rfl rfl hk.1 (by rw [hσ]; exact hk.2.symm)
    · replace h := (if_neg c9).symm.trans h
      refine Vm.iload_n (n := 9) 1 dX5_hasRange_8 rfl rfl ?_
      refine Vm.aload_n (n := 10) 0 dX5_hasRange_9 rfl rfl ?_
      refine Vm.gX (n := 13) dX5_hasRange_10 rfl wf_RX5_15 (ink ik_5 (by omega)) rfl (by decide) rfl (by decide) ?_
      refine Vm.icmp_gt (n := 16) 30 dX5_hasRange_13 rfl rfl (fun c9 => ?_) (fun c9 => ?_)
      · replace h := (if_pos c9).symm.trans h
        refine Vm.iconst (n := 31) (v := (0 : Int32)) dX5_hasRange_30 rfl (by decide) ?_
        subst h
        exact Vm.zret (b := false) dX5_hasRange_31 rfl rfl hk.1 (by rw [hσ]; exact hk.2.symm)
      · replace h := (if_neg c9).symm.trans h
        refine Vm.iload_n (n := 17) 2 dX5_hasRange_16 rfl rfl ?_
        refine Vm.aload_n (n := 18) 0 dX5_hasRange_17 rfl rfl ?_
        refine Vm.gX (n := 21) dX5_hasRange_18 rfl wf_RX5_15 (ink ik_5 (by omega)) rfl (by decide) rfl (by decide) ?_
        refine Vm.iload_n (n := 22) 1 dX5_hasRange_21 rfl rfl ?_
        refine Vm.isub (n := 23) dX5_hasRange_22 rfl ?_
        refine Vm.icmp_gt (n := 26) 30 dX5_hasRange_23 rfl rfl (fun c9 => ?_) (fun c9 => ?_)
        · replace h := (if_pos c9).symm.trans h
          refine Vm.iconst (n := 31) (v := (0 : Int32)) dX5_hasRange_30 rfl (by decide) ?_
          subst h
          exact Vm.zret (b := false) dX5_hasRange_31 rfl rfl hk.1 (by rw [hσ]; exact hk.2.symm)
        · replace h := (if_neg c9).symm.trans h
          refine Vm.iconst (n := 27) (v := (1 : Int32)) dX5_hasRange_26 rfl (by decide) ?_
          refine Vm.goto 31 dX5_hasRange_27 rfl ?_
          subst h
          exact Vm.zret (b := true) dX5_hasRange_31 rfl rfl hk.1 (by rw [hσ]; exact hk.2.symm)
theorem kX5_hasRange (a0 : Nat) (ha0 : a0 < 4) (a1 : Int32) (a2 : Int32) (σ τ : mm) {q : Bool} (h : fX5_hasRange a0 a1 a2 σ = q) : Cx mX5_hasRange 0 [.inr (.inr (5, a0)), .inl a1, .inl a2] (σ, τ) (some (.inl (bi q))) (σ, τ) :=
  Cx.of (lv := [(0, .inr (.inr (5, a0))), (1, .inl a1), (2, .inl a2)]) (by decide) (fun ad => Nat.le_of_ble_eq_true rfl) (fun ad => rfl) (lX5_hasRange_0 a0 ha0 a1 a2 σ σ τ rfl h ⟨rfl, rfl⟩)
-- ThinBodies copy (IIIII)I
def fX7_copy_100 (σ : mm) : Option (Int32 × mm) :=
  Option.bind (fX7_finding (0 : Int32) σ) fun q1 =>
  some ((q1.1, q1.2))
def fX7_copy_52 (σ : mm) : Option (Int32 × mm) :=
  Option.bind (fX7_finding (5 : Int32) σ) fun q1 =>
  some ((q1.1, q1.2))
def fX7_copy_14 (σ : mm) : Option (Int32 × mm) :=
  Option.bind (fX7_finding (0 : Int32) σ) fun q1 =>
  some ((q1.1, q1.2))
def fX7_copy_0 (a1 : Int32) (a2 : Int32) (a3 : Int32) (a4 : Int32) (a5 : Int32) (σ : mm) : Option (Int32 × mm) :=
  if (bi (fX7_isSheet a1)) = (0 : Int32) then
  fX7_copy_14 σ
  else
  if (bi (fX7_isSheet a3)) = (0 : Int32) then
  fX7_copy_14 σ
  else
  Option.bind (rdR 4 a1) fun k1 =>
  Option.bind (rdR 4 a3) fun k2 =>
  if (σ.1 5 k1 0) = (0 : Int32) then
  fX7_copy_52 σ
  else
  if (σ.1 5 k2 0) = (0 : Int32) then
  fX7_copy_52 σ
  else
  if (σ.1 5 k1 0) = (σ.1 5 k2 0) then
  if (bi (fX5_hasRange k1 a2 a5 σ)) = (0 : Int32) then
  fX7_copy_100 σ
  else
  if (bi (fX5_hasRange k2 a4 a5 σ)) = (0 : Int32) then
  fX7_copy_100 σ
  else
  Option.bind (cpL σ 26 k1 40 26 k2 40 a2 a4 a5) fun σ3 =>
  some ((a5, σ3))
  else
  Option.bind (fX7_finding (2 : Int32) σ) fun q4 =>
  some ((q4.1, q4.2))
def fX7_copy (a1 : Int32) (a2 : Int32) (a3 : Int32) (a4 : Int32) (a5 : Int32) (σ : mm) : Option (Int32 × mm) := fX7_copy_0 a1 a2 a3 a4 a5 σ
set_option maxRecDepth 20000 in
theorem lX7_copy_100 (σ τ : mm) {r : Option mv} {M' : mm × mm} {v9 : Int32 × mm} (h : fX7_copy_100 σ = some v9) (hk : (fun q : Int32 × mm => r = some (.inl q.1) ∧ M' = (q.2, τ)) v9) : Vm mX7_copy 1 100 [(0, .inr (.inr (7, 0)))] [] (σ, τ) r M' := by
  unfold fX7_copy_100 at h
  refine Vm.aload_n (n := 101) 0 dX7_copy_100 rfl rfl ?_
  refine Vm.iconst (n := 102) (v := (0 : Int32)) dX7_copy_101 rfl (by decide) ?_
  replace h := Option.bind_eq_some_iff.mp h
  obtain ⟨q1, h1, h⟩ := h
  refine Vm.callV (Y := mX7_finding) (n := 105) [.inl (0 : Int32)] dX7_copy_102 rfl wv_RX7_68 omX7_finding rfl in_7 rfl rfl rfl (Nat.le_of_ble_eq_true rfl) (by decide) (kX7_finding (0 : Int32) σ τ h1) ?_
  obtain rfl := Option.some.inj h
  exact Vm.iret dX7_copy_105 rfl hk.1 hk.2.symm
set_option maxRecDepth 20000 in
theorem lX7_copy_52 (σ τ : mm) {r : Option mv} {M' : mm × mm} {v9 : Int32 × mm} (h : fX7_copy_52 σ = some v9) (hk : (fun q : Int32 × mm => r = some (.inl q.1) ∧ M' = (q.2, τ)) v9) : Vm mX7_copy 1 52 [(0, .inr (.inr (7, 0)))] [] (σ, τ) r M' := by
  unfold fX7_copy_52 at h
  refine Vm.aload_n (n := 53) 0 dX7_copy_52 rfl rfl ?_
  refine Vm.iconst (n := 54) (v := (5 : Int32)) dX7_copy_53 rfl (by decide) ?_
  replace h := Option.bind_eq_some_iff.mp h
  obtain ⟨q1, h1, h⟩ := h
  refine Vm.callV (Y := mX7_finding) (n := 57) [.inl (5 : Int32)] dX7_copy_54 rfl wv_RX7_68 omX7_finding rfl in_7 rfl rfl rfl (Nat.le_of_ble_eq_true rfl) (by decide) (kX7_finding (5 : Int32) σ τ h1) ?_
  obtain rfl := Option.some.inj h
  exact Vm.iret dX7_copy_57 rfl hk.1 hk.2.symm
set_option maxRecDepth 20000 in
theorem lX7_copy_14 (σ τ : mm) {r : Option mv} {M' : mm × mm} {v9 : Int32 × mm} (h : fX7_copy_14 σ = some v9) (hk : (fun q : Int32 × mm => r = some (.inl q.1) ∧ M' = (q.2, τ)) v9) : Vm mX7_copy 1 14 [(0, .inr (.inr (7, 0)))] [] (σ, τ) r M' := by
  unfold fX7_copy_14 at h
  refine Vm.aload_n (n := 15) 0 dX7_copy_14 rfl rfl ?_
  refine Vm.iconst (n := 16) (v := (0 : Int32)) dX7_copy_15 rfl (by decide) ?_
  replace h := Option.bind_eq_some_iff.mp h
  obtain ⟨q1, h1, h⟩ := h
  refine Vm.callV (Y := mX7_finding) (n := 19) [.inl (0 : Int32)] dX7_copy_16 rfl wv_RX7_68 omX7_finding rfl in_7 rfl rfl rfl (Nat.le_of_ble_eq_true rfl) (by decide) (kX7_finding (0 : Int32) σ τ h1) ?_
  obtain rfl := Option.some.inj h
  exact Vm.iret dX7_copy_19 rfl hk.1 hk.2.symm
set_option maxRecDepth 20000 in
theorem lX7_copy_0 (a1 : Int32) (a2 : Int32) (a3 : Int32) (a4 : Int32) (a5 : Int32) (σ τ : mm) {r : Option mv} {M' : mm × mm} {v9 : Int32 × mm} (h : fX7_copy_0 a1 a2 a3 a4 a5 σ = some v9) (hk : (fun q : Int32 × mm => r = some (.inl q.1) ∧ M' = (q.2, τ)) v9) : Vm mX7_copy 1 0 [(0, .inr (.inr (7, 0))), (1, .inl a1), (2, .inl a2), (3, .inl a3), (4, .inl a4), (5, .inl a5)] [] (σ, τ) r M' := by
  unfold fX7_copy_0 at h
  refine Vm.iload_n (n := 1) 1 dX7_copy_0 rfl rfl ?_
  refine Vm.callS (Y := mX7_isSheet) (n := 4) [.inl a1] dX7_copy_1 rfl wv_RX7_338 omX7_isSheet rfl rfl (Nat.le_of_ble_eq_true rfl) (by decide) (kX7_isSheet a1 rfl) ?_
  refine Vm.if_eq (n := 7) 14 dX7_copy_4 rfl rfl (fun c9 => ?_) (fun c9 => ?_)
  · replace h := (if_pos c9).symm.trans h
    refine Vm.sub (lv' := [(0, .inr (.inr (7, 0)))]) [0] rfl ?_
    exact lX7_copy_14 σ τ h hk
  · replace h := (if_neg c9).symm.trans h
    refine Vm.iload_n (n := 8) 3 dX7_copy_7 rfl rfl ?_
    refine Vm.callS (Y := mX7_isSheet) (n := 11) [.inl a3] dX7_copy_8 rfl wv_RX7_338 omX7_isSheet rfl rfl (Nat.le_of_ble_eq_true rfl) (by decide) (kX7_isSheet a3 rfl) ?_
    refine Vm.if_ne (n := 14) 20 dX7_copy_11 rfl rfl (fun c9 => ?_) (fun c9 => ?_)
    · replace h := (if_neg c9).symm.trans h
      refine Vm.aload_n (n := 21) 0 dX7_copy_20 rfl rfl ?_
      refine Vm.getR (n := 24) dX7_copy_21 rfl wf_RX7_56 in_7 rfl (by decide) rfl ?_
      refine Vm.iload_n (n := 25) 1 dX7_copy_24 rfl rfl ?_
      replace h := Option.bind_eq_some_iff.mp h
      obtain ⟨k1, h1, h⟩ := h
      refine Vm.aald (n := 26) dX7_copy_25 rfl in_30 rfl rfl (by decide) (fun _ => rfl) rfl h1 ?_
      have g1 := rdR_lt h1
      refine Vm.astore (n := 28) (lv' := [(6, .inr (.inr (5, k1))), (0, .inr (.inr (7, 0))), (1, .inl a1), (2, .inl a2), (3, .inl a3), (4, .inl a4), (5, .inl a5)]) dX7_copy_26 rfl (Nat.le_of_ble_eq_true rfl) rfl ?_
      refine Vm.aload_n (n := 29) 1 dX7_copy_28 rfl rfl ?_
      refine Vm.getR (n := 32) dX7_copy_29 rfl wf_RX7_56 in_7 rfl (by decide) rfl ?_
      refine Vm.iload_n (n := 33) 4 dX7_copy_32 rfl rfl ?_
      replace h := Option.bind_eq_some_iff.mp h
      obtain ⟨k2, h2, h⟩ := h
      refine Vm.aald (n := 34) dX7_copy_33 rfl in_30 rfl rfl (by decide) (fun _ => rfl) rfl h2 ?_
      have g2 := rdR_lt h2
      refine Vm.astore (n := 36) (lv' := [(7, .inr (.inr (5, k2))), (6, .inr (.inr (5, k1))), (0, .inr (.inr (7, 0))), (1, .inl a1), (2, .inl a2), (3, .inl a3), (4, .inl a4), (5, .inl a5)]) dX7_copy_34 rfl (Nat.le_of_ble_eq_true rfl) rfl ?_
      refine Vm.aload (n := 38) 1 dX7_copy_36 rfl rfl ?_
      refine Vm.gX (n := 41) dX7_copy_38 rfl wf_RX7_348 (ink ik_5 (by omega)) rfl (by decide) rfl (by decide) ?_
      refine Vm.if_eq (n := 44) 52 dX7_copy_41 rfl rfl (fun c9 => ?_) (fun c9 => ?_)
      · replace h := (if_pos c9).symm.trans h
        refine Vm.sub (lv' := [(0, .inr (.inr (7, 0)))]) [2] rfl ?_
        exact lX7_copy_52 σ τ h hk
      · replace h := (if_neg c9).symm.trans h
        refine Vm.aload (n := 46) 0 dX7_copy_44 rfl rfl ?_
        refine Vm.gX (n := 49) dX7_copy_46 rfl wf_RX7_348 (ink ik_5 (by omega)) rfl (by decide) rfl (by decide) ?_
        refine Vm.if_ne (n := 52) 58 dX7_copy_49 rfl rfl (fun c9 => ?_) (fun c9 => ?_)
        · replace h := (if_neg c9).symm.trans h
          refine Vm.aload (n := 60) 1 dX7_copy_58 rfl rfl ?_
          refine Vm.gX (n := 63) dX7_copy_60 rfl wf_RX7_348 (ink ik_5 (by omega)) rfl (by decide) rfl (by decide) ?_
          refine Vm.aload (n := 65) 0 dX7_copy_63 rfl rfl ?_
          refine Vm.gX (n := 68) dX7_copy_65 rfl wf_RX7_348 (ink ik_5 (by omega)) rfl (by decide) rfl (by decide) ?_
          refine Vm.icmp_eq (n := 71) 77 dX7_copy_68 rfl rfl (fun c9 => ?_) (fun c9 => ?_)
          · replace h := (if_pos c9).symm.trans h
            refine Vm.aload (n := 79) 1 dX7_copy_77 rfl rfl ?_
            refine Vm.iload_n (n := 80) 4 dX7_copy_79 rfl rfl ?_
            refine Vm.iload (n := 82) 7 dX7_copy_80 rfl rfl ?_
            refine Vm.callV (Y := mX5_hasRange) (n := 85) [.inl a2, .inl a5] dX7_copy_82 rfl wv_RX7_351 omX5_hasRange rfl (ink ik_5 (by omega)) rfl rfl rfl (Nat.le_of_ble_eq_true rfl) (by decide) (kX5_hasRange k1 (by omega) a2 a5 σ τ rfl) ?_
            refine Vm.if_eq (n := 88) 100 dX7_copy_85 rfl rfl (fun c9 => ?_) (fun c9 => ?_)
            · replace h := (if_pos c9).symm.trans h
              refine Vm.sub (lv' := [(0, .inr (.inr (7, 0)))]) [2] rfl ?_
              exact lX7_copy_100 σ τ h hk
            · replace h := (if_neg c9).symm.trans h
              refine Vm.aload (n := 90) 0 dX7_copy_88 rfl rfl ?_
              refine Vm.iload (n := 92) 6 dX7_copy_90 rfl rfl ?_
              refine Vm.iload (n := 94) 7 dX7_copy_92 rfl rfl ?_
              refine Vm.callV (Y := mX5_hasRange) (n := 97) [.inl a4, .inl a5] dX7_copy_94 rfl wv_RX7_351 omX5_hasRange rfl (ink ik_5 (by omega)) rfl rfl rfl (Nat.le_of_ble_eq_true rfl) (by decide) (kX5_hasRange k2 (by omega) a4 a5 σ τ rfl) ?_
              refine Vm.if_ne (n := 100) 106 dX7_copy_97 rfl rfl (fun c9 => ?_) (fun c9 => ?_)
              · replace h := (if_neg c9).symm.trans h
                refine Vm.aload (n := 108) 1 dX7_copy_106 rfl rfl ?_
                refine Vm.getR (n := 111) dX7_copy_108 rfl wf_RX7_259 (ink ik_5 (by omega)) rfl (by decide) rfl ?_
                refine Vm.iload_n (n := 112) 4 dX7_copy_111 rfl rfl ?_
                refine Vm.aload (n := 114) 0 dX7_copy_112 rfl rfl ?_
                refine Vm.getR (n := 117) dX7_copy_114 rfl wf_RX7_259 (ink ik_5 (by omega)) rfl (by decide) rfl ?_
                refine Vm.iload (n := 119) 6 dX7_copy_117 rfl rfl ?_
                refine Vm.iload (n := 121) 7 dX7_copy_119 rfl rfl ?_
                replace h := Option.bind_eq_some_iff.mp h
                obtain ⟨σ3, h3, h⟩ := h
                refine Vm.acl (n := 124) dX7_copy_121 rfl wy_RX7_354 (ink ik_26 (by omega)) rfl rfl (by decide) (ink ik_26 (by omega)) rfl rfl (by decide) (Nat.le_of_ble_eq_true rfl) (by decide) h3 ?_
                refine Vm.iload (n := 126) 7 dX7_copy_124 rfl rfl ?_
                obtain rfl := Option.some.inj h
                exact Vm.iret dX7_copy_126 rfl hk.1 hk.2.symm
              · replace h := (if_pos c9).symm.trans h
                refine Vm.sub (lv' := [(0, .inr (.inr (7, 0)))]) [2] rfl ?_
                exact lX7_copy_100 σ τ h hk
          · replace h := (if_neg c9).symm.trans h
            refine Vm.aload_n (n := 72) 2 dX7_copy_71 rfl rfl ?_
            refine Vm.iconst (n := 73) (v := (2 : Int32)) dX7_copy_72 rfl (by decide) ?_
            replace h := Option.bind_eq_some_iff.mp h
            obtain ⟨q4, h4, h⟩ := h
            refine Vm.callV (Y := mX7_finding) (n := 76) [.inl (2 : Int32)] dX7_copy_73 rfl wv_RX7_68 omX7_finding rfl in_7 rfl rfl rfl (Nat.le_of_ble_eq_true rfl) (by decide) (kX7_finding (2 : Int32) σ τ h4) ?_
            obtain rfl := Option.some.inj h
            exact Vm.iret dX7_copy_76 rfl hk.1 hk.2.symm
        · replace h := (if_pos c9).symm.trans h
          refine Vm.sub (lv' := [(0, .inr (.inr (7, 0)))]) [2] rfl ?_
          exact lX7_copy_52 σ τ h hk
    · replace h := (if_pos c9).symm.trans h
      refine Vm.sub (lv' := [(0, .inr (.inr (7, 0)))]) [0] rfl ?_
      exact lX7_copy_14 σ τ h hk
theorem kX7_copy (a1 : Int32) (a2 : Int32) (a3 : Int32) (a4 : Int32) (a5 : Int32) (σ τ : mm) {q : Int32 × mm} (h : fX7_copy a1 a2 a3 a4 a5 σ = some q) : Cx mX7_copy 1 [.inr (.inr (7, 0)), .inl a1, .inl a2, .inl a3, .inl a4, .inl a5] (σ, τ) (some (.inl q.1)) (q.2, τ) :=
  Cx.of (lv := [(0, .inr (.inr (7, 0))), (1, .inl a1), (2, .inl a2), (3, .inl a3), (4, .inl a4), (5, .inl a5)]) (by decide) (fun ad => Nat.le_of_ble_eq_true rfl) (fun ad => rfl) (lX7_copy_0 a1 a2 a3 a4 a5 σ τ h ⟨rfl, rfl⟩)
-- ThinBodies lays (II)I
noncomputable def fX7_lays_73 (a1 : Int32) (a4 : Int32) (a5 : Int32) (a6 : Int32) (σ : mm) : Option ((Int32 × mm) ⊕ (Int32 × mm)) :=
  if a5 ≤ a6 then
  some (.inr ((a5, σ)))
  else
  Option.bind (rdR 4 a1) fun k1 =>
  Option.bind (fX1_letterAt a4 a6 σ) fun q2 =>
  Option.bind (fX5_put k1 a6 q2.toInt64 σ) fun q3 =>
  Option.bind (some (a6 + (1 : Int32))) fun x4 =>
  some (.inl (x4, q3))
noncomputable def fX7_lays_73_L (a1 : Int32) (a4 : Int32) (a5 : Int32) : Int32 × mm → Option ((Int32 × mm) ⊕ (Int32 × mm)) := fun z => fX7_lays_73 a1 a4 a5 z.1 z.2
noncomputable def fX7_lays_0 (a1 : Int32) (a2 : Int32) (σ : mm) : Option (Int32 × mm) :=
  Option.bind (fX7_sheetTrouble a1 σ) fun q1 =>
  if q1 = (-1 : Int32) then
  Option.bind (fX1_refresh 0 σ) fun q2 =>
  Option.bind (fX1_placeOf a2 q2) fun q3 =>
  if (0 : Int32) ≤ q3 then
  Option.bind (rdR 4 a1) fun k4 =>
  Option.bind (some ((fJ9_min_7cf53 (q2.1 0 0 0) (q2.1 5 k4 1)))) fun x5 =>
  lp (fX7_lays_73_L a1 q3 x5) ((0 : Int32), q2)
  else
  Option.bind (fX7_finding (3 : Int32) q2) fun q6 =>
  some ((q6.1, q6.2))
  else
  Option.bind (fX7_finding q1 σ) fun q7 =>
  some ((q7.1, q7.2))
noncomputable def fX7_lays (a1 : Int32) (a2 : Int32) (σ : mm) : Option (Int32 × mm) := fX7_lays_0 a1 a2 σ
set_option maxRecDepth 20000 in
theorem lX7_lays_73 (a1 : Int32) (a4 : Int32) (a5 : Int32) (a6 : Int32) (σ τ : mm) {r : Option mv} {M' : mm × mm} {v9 : (Int32 × mm) ⊕ (Int32 × mm)} (h : fX7_lays_73 a1 a4 a5 a6 σ = some v9) (hk : (Sum.elim (fun z : Int32 × mm => Vm mX7_lays 5 73 [(0, .inr (.inr (7, 0))), (1, .inl a1), (4, .inl a4), (5, .inl a5), (6, .inl z.1)] [] (z.2, τ) r M') (fun q : Int32 × mm => r = some (.inl q.1) ∧ M' = (q.2, τ))) v9) : Vm mX7_lays 5 73 [(0, .inr (.inr (7, 0))), (1, .inl a1), (4, .inl a4), (5, .inl a5), (6, .inl a6)] [] (σ, τ) r M' := by
  unfold fX7_lays_73 at h
  refine Vm.iload (n := 75) 4 dX7_lays_73 rfl rfl ?_
  refine Vm.iload (n := 77) 3 dX7_lays_75 rfl rfl ?_
  refine Vm.icmp_ge (n := 80) 109 dX7_lays_77 rfl rfl (fun c9 => ?_) (fun c9 => ?_)
  · replace h := (if_pos c9).symm.trans h
    refine Vm.iload (n := 111) 3 dX7_lays_109 rfl rfl ?_
    obtain rfl := Option.some.inj h
    exact Vm.iret dX7_lays_111 rfl hk.1 hk.2.symm
  · replace h := (if_neg c9).symm.trans h
    refine Vm.aload_n (n := 81) 0 dX7_lays_80 rfl rfl ?_
    refine Vm.getR (n := 84) dX7_lays_81 rfl wf_RX7_56 in_7 rfl (by decide) rfl ?_
    refine Vm.iload_n (n := 85) 1 dX7_lays_84 rfl rfl ?_
    replace h := Option.bind_eq_some_iff.mp h
    obtain ⟨k1, h1, h⟩ := h
    refine Vm.aald (n := 86) dX7_lays_85 rfl in_30 rfl rfl (by decide) (fun _ => rfl) rfl h1 ?_
    have g1 := rdR_lt h1
    refine Vm.iload (n := 88) 4 dX7_lays_86 rfl rfl ?_
    refine Vm.aload_n (n := 89) 0 dX7_lays_88 rfl rfl ?_
    refine Vm.getR (n := 92) dX7_lays_89 rfl wf_RX7_29 in_7 rfl (by decide) rfl ?_
    refine Vm.iload (n := 94) 2 dX7_lays_92 rfl rfl ?_
    refine Vm.iload (n := 96) 4 dX7_lays_94 rfl rfl ?_
    replace h := Option.bind_eq_some_iff.mp h
    obtain ⟨q2, h2, h⟩ := h
    refine Vm.callV (Y := mX1_letterAt) (n := 99) [.inl a4, .inl a6] dX7_lays_96 rfl wv_RX7_164 omX1_letterAt rfl in_1 rfl rfl rfl (Nat.le_of_ble_eq_true rfl) (by decide) (kX1_letterAt a4 a6 σ τ h2) ?_
    refine Vm.i2l (n := 100) dX7_lays_99 rfl ?_
    replace h := Option.bind_eq_some_iff.mp h
    obtain ⟨q3, h3, h⟩ := h
    refine Vm.callVv (Y := mX5_put) (n := 103) [.inl a6, .inr (.inl q2.toInt64)] dX7_lays_100 rfl wv_RX7_344 omX5_put rfl (ink ik_5 (by omega)) rfl rfl rfl (Nat.le_of_ble_eq_true rfl) (by decide) (kX5_put k1 (by omega) a6 q2.toInt64 σ τ h3) ?_
    replace h := Option.bind_eq_some_iff.mp h
    obtain ⟨x4, e4, h⟩ := h
    replace e4 := Option.some.inj e4
    refine Vm.iinc (n := 106) (v := x4) (lv' := [(6, .inl x4), (0, .inr (.inr (7, 0))), (1, .inl a1), (4, .inl a4), (5, .inl a5)]) 4 dX7_lays_103 rfl rfl e4 (Nat.le_of_ble_eq_true rfl) rfl ?_
    refine Vm.goto 73 dX7_lays_106 rfl ?_
    refine Vm.sub (lv' := [(0, .inr (.inr (7, 0))), (1, .inl a1), (4, .inl a4), (5, .inl a5), (6, .inl x4)]) [1, 2, 3, 4, 0] rfl ?_
    obtain rfl := Option.some.inj h
    exact hk
theorem lX7_lays_73_L (a1 : Int32) (a4 : Int32) (a5 : Int32) (τ : mm) {r : Option mv} {M' : mm × mm} (z : Int32 × mm) (w9 : Int32 × mm) (h : lp (fX7_lays_73_L a1 a4 a5) z = some w9) (hk : (fun q : Int32 × mm => r = some (.inl q.1) ∧ M' = (q.2, τ)) w9) : Vm mX7_lays 5 73 [(0, .inr (.inr (7, 0))), (1, .inl a1), (4, .inl a4), (5, .inl a5), (6, .inl z.1)] [] (z.2, τ) r M' :=
  lp_link (S := Int32 × mm) (R := Int32 × mm) (body := fX7_lays_73_L a1 a4 a5) (A := fun z : Int32 × mm => Vm mX7_lays 5 73 [(0, .inr (.inr (7, 0))), (1, .inl a1), (4, .inl a4), (5, .inl a5), (6, .inl z.1)] [] (z.2, τ) r M') (B := fun w : Int32 × mm => (fun q : Int32 × mm => r = some (.inl q.1) ∧ M' = (q.2, τ)) w) (fun z v hb hv => lX7_lays_73 a1 a4 a5 z.1 z.2 τ hb hv) z w9 h hk
set_option maxRecDepth 20000 in
theorem lX7_lays_0 (a1 : Int32) (a2 : Int32) (σ τ : mm) {r : Option mv} {M' : mm × mm} {v9 : Int32 × mm} (h : fX7_lays_0 a1 a2 σ = some v9) (hk : (fun q : Int32 × mm => r = some (.inl q.1) ∧ M' = (q.2, τ)) v9) : Vm mX7_lays 5 0 [(0, .inr (.inr (7, 0))), (1, .inl a1), (2, .inl a2)] [] (σ, τ) r M' := by
  unfold fX7_lays_0 at h
  refine Vm.aload_n (n := 1) 0 dX7_lays_0 rfl rfl ?_
  refine Vm.iload_n (n := 2) 1 dX7_lays_1 rfl rfl ?_
  replace h := Option.bind_eq_some_iff.mp h
  obtain ⟨q1, h1, h⟩ := h
  refine Vm.callV (Y := mX7_sheetTrouble) (n := 5) [.inl a1] dX7_lays_2 rfl wv_RX7_267 omX7_sheetTrouble rfl in_7 rfl rfl rfl (Nat.le_of_ble_eq_true rfl) (by decide) (kX7_sheetTrouble a1 σ τ h1) ?_
  refine Vm.istore_n (n := 6) (lv' := [(3, .inl q1), (0, .inr (.inr (7, 0))), (1, .inl a1), (2, .inl a2)]) dX7_lays_5 rfl (Nat.le_of_ble_eq_true rfl) rfl ?_
  refine Vm.iload_n (n := 7) 0 dX7_lays_6 rfl rfl ?_
  refine Vm.iconst (n := 8) (v := (-1 : Int32)) dX7_lays_7 rfl (by decide) ?_
  refine Vm.icmp_eq (n := 11) 17 dX7_lays_8 rfl rfl (fun c9 => ?_) (fun c9 => ?_)
  · replace h := (if_pos c9).symm.trans h
    refine Vm.aload_n (n := 18) 1 dX7_lays_17 rfl rfl ?_
    refine Vm.getR (n := 21) dX7_lays_18 rfl wf_RX7_29 in_7 rfl (by decide) rfl ?_
    refine Vm.aload_n (n := 22) 1 dX7_lays_21 rfl rfl ?_
    refine Vm.getR (n := 25) dX7_lays_22 rfl wf_RX7_12 in_7 rfl (by decide) rfl ?_
    replace h := Option.bind_eq_some_iff.mp h
    obtain ⟨q2, h2, h⟩ := h
    refine Vm.callVv (Y := mX1_refresh) (n := 28) [.inr (.inr (0, 0))] dX7_lays_25 rfl wv_RX7_154 omX1_refresh rfl in_1 rfl rfl rfl (Nat.le_of_ble_eq_true rfl) (by decide) (kX1_refresh 0 (by decide) σ τ h2) ?_
    refine Vm.aload_n (n := 29) 1 dX7_lays_28 rfl rfl ?_
    refine Vm.getR (n := 32) dX7_lays_29 rfl wf_RX7_29 in_7 rfl (by decide) rfl ?_
    refine Vm.iload_n (n := 33) 3 dX7_lays_32 rfl rfl ?_
    replace h := Option.bind_eq_some_iff.mp h
    obtain ⟨q3, h3, h⟩ := h
    refine Vm.callV (Y := mX1_placeOf) (n := 36) [.inl a2] dX7_lays_33 rfl wv_RX7_161 omX1_placeOf rfl in_1 rfl rfl rfl (Nat.le_of_ble_eq_true rfl) (by decide) (kX1_placeOf a2 q2 τ h3) ?_
    refine Vm.istore (n := 38) (lv' := [(4, .inl q3), (3, .inl q1), (0, .inr (.inr (7, 0))), (1, .inl a1), (2, .inl a2)]) dX7_lays_36 rfl (Nat.le_of_ble_eq_true rfl) rfl ?_
    refine Vm.iload (n := 40) 0 dX7_lays_38 rfl rfl ?_
    refine Vm.if_ge (n := 43) 49 dX7_lays_40 rfl rfl (fun c9 => ?_) (fun c9 => ?_)
    · replace h := (if_pos c9).symm.trans h
      refine Vm.aload_n (n := 50) 2 dX7_lays_49 rfl rfl ?_
      refine Vm.getR (n := 53) dX7_lays_50 rfl wf_RX7_12 in_7 rfl (by decide) rfl ?_
      refine Vm.gX (n := 56) dX7_lays_53 rfl wf_RX7_75 (ink ik_0 (by decide)) rfl (by decide) rfl (by decide) ?_
      refine Vm.aload_n (n := 57) 2 dX7_lays_56 rfl rfl ?_
      refine Vm.getR (n := 60) dX7_lays_57 rfl wf_RX7_56 in_7 rfl (by decide) rfl ?_
      refine Vm.iload_n (n := 61) 3 dX7_lays_60 rfl rfl ?_
      replace h := Option.bind_eq_some_iff.mp h
      obtain ⟨k4, h4, h⟩ := h
      refine Vm.aald (n := 62) dX7_lays_61 rfl in_30 rfl rfl (by decide) (fun _ => rfl) rfl h4 ?_
      have g4 := rdR_lt h4
      refine Vm.gX (n := 65) dX7_lays_62 rfl wf_RX7_270 (ink ik_5 (by omega)) rfl (by decide) rfl (by decide) ?_
      refine Vm.callS (Y := mJ9_min_7cf53) (n := 68) [.inl (q2.1 0 0 0), .inl (q2.1 5 k4 1)] dX7_lays_65 rfl wv_RX7_225 omJ9_min_7cf53 rfl rfl (Nat.le_of_ble_eq_true rfl) (by decide) (kJ9_min_7cf53 (q2.1 0 0 0) (q2.1 5 k4 1) rfl) ?_
      replace h := Option.bind_eq_some_iff.mp h
      obtain ⟨x5, e5, h⟩ := h
      replace e5 := Option.some.inj e5
      refine Vm.top e5 ?_
      refine Vm.istore (n := 70) (lv' := [(5, .inl x5), (4, .inl q3), (3, .inl q1), (0, .inr (.inr (7, 0))), (1, .inl a1), (2, .inl a2)]) dX7_lays_68 rfl (Nat.le_of_ble_eq_true rfl) rfl ?_
      refine Vm.iconst (n := 71) (v := (0 : Int32)) dX7_lays_70 rfl (by decide) ?_
      refine Vm.istore (n := 73) (lv' := [(6, .inl (0 : Int32)), (5, .inl x5), (4, .inl q3), (3, .inl q1), (0, .inr (.inr (7, 0))), (1, .inl a1), (2, .inl a2)]) dX7_lays_71 rfl (Nat.le_of_ble_eq_true rfl) rfl ?_
      refine Vm.sub (lv' := [(0, .inr (.inr (7, 0))), (1, .inl a1), (4, .inl q3), (5, .inl x5), (6, .inl (0 : Int32))]) [4, 5, 2, 1, 0] rfl ?_
      exact lX7_lays_73_L a1 q3 x5 τ ((0 : Int32), q2) _ h hk
    · replace h := (if_neg c9).symm.trans h
      refine Vm.aload_n (n := 44) 2 dX7_lays_43 rfl rfl ?_
      refine Vm.iconst (n := 45) (v := (3 : Int32)) dX7_lays_44 rfl (by decide) ?_
      replace h := Option.bind_eq_some_iff.mp h
      obtain ⟨q6, h6, h⟩ := h
      refine Vm.callV (Y := mX7_finding) (n := 48) [.inl (3 : Int32)] dX7_lays_45 rfl wv_RX7_68 omX7_finding rfl in_7 rfl rfl rfl (Nat.le_of_ble_eq_true rfl) (by decide) (kX7_finding (3 : Int32) q2 τ h6) ?_
      obtain rfl := Option.some.inj h
      exact Vm.iret dX7_lays_48 rfl hk.1 hk.2.symm
  · replace h := (if_neg c9).symm.trans h
    refine Vm.aload_n (n := 12) 1 dX7_lays_11 rfl rfl ?_
    refine Vm.iload_n (n := 13) 0 dX7_lays_12 rfl rfl ?_
    replace h := Option.bind_eq_some_iff.mp h
    obtain ⟨q7, h7, h⟩ := h
    refine Vm.callV (Y := mX7_finding) (n := 16) [.inl q1] dX7_lays_13 rfl wv_RX7_68 omX7_finding rfl in_7 rfl rfl rfl (Nat.le_of_ble_eq_true rfl) (by decide) (kX7_finding q1 σ τ h7) ?_
    obtain rfl := Option.some.inj h
    exact Vm.iret dX7_lays_16 rfl hk.1 hk.2.symm
theorem kX7_lays (a1 : Int32) (a2 : Int32) (σ τ : mm) {q : Int32 × mm} (h : fX7_lays a1 a2 σ = some q) : Cx mX7_lays 5 [.inr (.inr (7, 0)), .inl a1, .inl a2] (σ, τ) (some (.inl q.1)) (q.2, τ) :=
  Cx.of (lv := [(0, .inr (.inr (7, 0))), (1, .inl a1), (2, .inl a2)]) (by decide) (fun ad => Nat.le_of_ble_eq_true rfl) (fun ad => rfl) (lX7_lays_0 a1 a2 σ τ h ⟨rfl, rfl⟩)
-- ThinBodies image ()I
noncomputable def fX7_image_0 (σ : mm) : Option (Int32 × mm) :=
  Option.bind (fX0_take 1 0 σ) fun q1 =>
  Option.bind (some (stI q1 7 0 3 (1 : Int32))) fun σ2 =>
  some (((1 : Int32), σ2))
noncomputable def fX7_image (σ : mm) : Option (Int32 × mm) := fX7_image_0 σ
set_option maxRecDepth 20000 in
theorem lX7_image_0 (σ τ : mm) {r : Option mv} {M' : mm × mm} {v9 : Int32 × mm} (h : fX7_image_0 σ = some v9) (hk : (fun q : Int32 × mm => r = some (.inl q.1) ∧ M' = (q.2, τ)) v9) : Vm mX7_image 3 0 [(0, .inr (.inr (7, 0)))] [] (σ, τ) r M' := by
  unfold fX7_image_0 at h
  refine Vm.aload_n (n := 1) 0 dX7_image_0 rfl rfl ?_
  refine Vm.getR (n := 4) dX7_image_1 rfl wf_RX7_16 in_7 rfl (by decide) rfl ?_
  refine Vm.aload_n (n := 5) 0 dX7_image_4 rfl rfl ?_
  refine Vm.getR (n := 8) dX7_image_5 rfl wf_RX7_12 in_7 rfl (by decide) rfl ?_
  replace h := Option.bind_eq_some_iff.mp h
  obtain ⟨q1, h1, h⟩ := h
  refine Vm.callVv (Y := mX0_take) (n := 11) [.inr (.inr (0, 0))] dX7_image_8 rfl wv_RX7_332 omX0_take rfl (ink ik_0 (by decide)) rfl rfl rfl (Nat.le_of_ble_eq_true rfl) (by decide) (kX0_take 1 (by decide) 0 (by decide) σ τ h1) ?_
  refine Vm.aload_n (n := 12) 0 dX7_image_11 rfl rfl ?_
  refine Vm.iconst (n := 13) (v := (1 : Int32)) dX7_image_12 rfl (by decide) ?_
  refine Vm.pX (n := 16) (ty := .boolean) dX7_image_13 rfl wf_RX7_22 in_7 rfl (by decide) rfl (by decide) rfl rfl rfl rfl ?_
  replace h := Option.bind_eq_some_iff.mp h
  obtain ⟨σ2, e2, h⟩ := h
  replace e2 := Option.some.inj e2
  refine Vm.mem (congrArg (fun z => (z, τ)) e2) ?_
  refine Vm.iconst (n := 17) (v := (1 : Int32)) dX7_image_16 rfl (by decide) ?_
  obtain rfl := Option.some.inj h
  exact Vm.iret dX7_image_17 rfl hk.1 hk.2.symm
theorem kX7_image (σ τ : mm) {q : Int32 × mm} (h : fX7_image σ = some q) : Cx mX7_image 3 [.inr (.inr (7, 0))] (σ, τ) (some (.inl q.1)) (q.2, τ) :=
  Cx.of (lv := [(0, .inr (.inr (7, 0)))]) (by decide) (fun ad => Nat.le_of_ble_eq_true rfl) (fun ad => rfl) (lX7_image_0 σ τ h ⟨rfl, rfl⟩)
-- ThinBodies undo ()I
noncomputable def fX7_undo_0 (σ : mm) : Option (Int32 × mm) :=
  if (σ.1 7 0 3) = (0 : Int32) then
  Option.bind (fX7_finding (3 : Int32) σ) fun q2 =>
  some ((q2.1, q2.2))
  else
  Option.bind (fX0_take 0 1 σ) fun q1 =>
  some (((fX7_bodyChanged q1).1 0 0 4, (fX7_bodyChanged q1)))
noncomputable def fX7_undo (σ : mm) : Option (Int32 × mm) := fX7_undo_0 σ
set_option maxRecDepth 20000 in
theorem lX7_undo_0 (σ τ : mm) {r : Option mv} {M' : mm × mm} {v9 : Int32 × mm} (h : fX7_undo_0 σ = some v9) (hk : (fun q : Int32 × mm => r = some (.inl q.1) ∧ M' = (q.2, τ)) v9) : Vm mX7_undo 3 0 [(0, .inr (.inr (7, 0)))] [] (σ, τ) r M' := by
  unfold fX7_undo_0 at h
  refine Vm.aload_n (n := 1) 0 dX7_undo_0 rfl rfl ?_
  refine Vm.gX (n := 4) dX7_undo_1 rfl wf_RX7_22 in_7 rfl (by decide) rfl (by decide) ?_
  refine Vm.if_ne (n := 7) 13 dX7_undo_4 rfl rfl (fun c9 => ?_) (fun c9 => ?_)
  · replace h := (if_neg c9).symm.trans h
    refine Vm.aload_n (n := 14) 0 dX7_undo_13 rfl rfl ?_
    refine Vm.getR (n := 17) dX7_undo_14 rfl wf_RX7_12 in_7 rfl (by decide) rfl ?_
    refine Vm.aload_n (n := 18) 0 dX7_undo_17 rfl rfl ?_
    refine Vm.getR (n := 21) dX7_undo_18 rfl wf_RX7_16 in_7 rfl (by decide) rfl ?_
    replace h := Option.bind_eq_some_iff.mp h
    obtain ⟨q1, h1, h⟩ := h
    refine Vm.callVv (Y := mX0_take) (n := 24) [.inr (.inr (0, 1))] dX7_undo_21 rfl wv_RX7_332 omX0_take rfl (ink ik_0 (by decide)) rfl rfl rfl (Nat.le_of_ble_eq_true rfl) (by decide) (kX0_take 0 (by decide) 1 (by decide) σ τ h1) ?_
    refine Vm.aload_n (n := 25) 0 dX7_undo_24 rfl rfl ?_
    refine Vm.callVv (Y := mX7_bodyChanged) (n := 28) [] dX7_undo_25 rfl wv_RX7_83 omX7_bodyChanged rfl in_7 rfl rfl rfl (Nat.le_of_ble_eq_true rfl) (by decide) (kX7_bodyChanged q1 τ rfl) ?_
    refine Vm.aload_n (n := 29) 0 dX7_undo_28 rfl rfl ?_
    refine Vm.getR (n := 32) dX7_undo_29 rfl wf_RX7_12 in_7 rfl (by decide) rfl ?_
    refine Vm.gX (n := 35) dX7_undo_32 rfl wf_RX7_117 (ink ik_0 (by decide)) rfl (by decide) rfl (by decide) ?_
    obtain rfl := Option.some.inj h
    exact Vm.iret dX7_undo_35 rfl hk.1 hk.2.symm
  · replace h := (if_pos c9).symm.trans h
    refine Vm.aload_n (n := 8) 0 dX7_undo_7 rfl rfl ?_
    refine Vm.iconst (n := 9) (v := (3 : Int32)) dX7_undo_8 rfl (by decide) ?_
    replace h := Option.bind_eq_some_iff.mp h
    obtain ⟨q2, h2, h⟩ := h
    refine Vm.callV (Y := mX7_finding) (n := 12) [.inl (3 : Int32)] dX7_undo_9 rfl wv_RX7_68 omX7_finding rfl in_7 rfl rfl rfl (Nat.le_of_ble_eq_true rfl) (by decide) (kX7_finding (3 : Int32) σ τ h2) ?_
    obtain rfl := Option.some.inj h
    exact Vm.iret dX7_undo_12 rfl hk.1 hk.2.symm
theorem kX7_undo (σ τ : mm) {q : Int32 × mm} (h : fX7_undo σ = some q) : Cx mX7_undo 3 [.inr (.inr (7, 0))] (σ, τ) (some (.inl q.1)) (q.2, τ) :=
  Cx.of (lv := [(0, .inr (.inr (7, 0)))]) (by decide) (fun ad => Nat.le_of_ble_eq_true rfl) (fun ad => rfl) (lX7_undo_0 σ τ h ⟨rfl, rfl⟩)
-- ThinBodies tear ()I
def fX7_tear_12 (s0 : Int32) (σ : mm) : Int32 × mm :=
  (s0, (stI σ 7 0 3 (0 : Int32)))
def fX7_tear_0 (σ : mm) : Int32 × mm :=
  if (σ.1 7 0 3) = (0 : Int32) then
  fX7_tear_12 (0 : Int32) σ
  else
  fX7_tear_12 (1 : Int32) σ
def fX7_tear (σ : mm) : Int32 × mm := fX7_tear_0 σ
set_option maxRecDepth 20000 in
theorem lX7_tear_12 (s0 : Int32) (σ τ : mm) {r : Option mv} {M' : mm × mm} {v9 : Int32 × mm} (h : fX7_tear_12 s0 σ = v9) (hk : (fun q : Int32 × mm => r = some (.inl q.1) ∧ M' = (q.2, τ)) v9) : Vm mX7_tear 0 12 [(0, .inr (.inr (7, 0)))] [.inl s0] (σ, τ) r M' := by
  unfold fX7_tear_12 at h
  refine Vm.istore_n (n := 13) (lv' := [(1, .inl s0), (0, .inr (.inr (7, 0)))]) dX7_tear_12 rfl (Nat.le_of_ble_eq_true rfl) rfl ?_
  refine Vm.aload_n (n := 14) 1 dX7_tear_13 rfl rfl ?_
  refine Vm.iconst (n := 15) (v := (0 : Int32)) dX7_tear_14 rfl (by decide) ?_
  refine Vm.pX (n := 18) (ty := .boolean) dX7_tear_15 rfl wf_RX7_22 in_7 rfl (by decide) rfl (by decide) rfl rfl rfl rfl ?_
  refine Vm.iload_n (n := 19) 0 dX7_tear_18 rfl rfl ?_
  subst h
  exact Vm.iret dX7_tear_19 rfl hk.1 hk.2.symm
set_option maxRecDepth 20000 in
theorem lX7_tear_0 (σ τ : mm) {r : Option mv} {M' : mm × mm} {v9 : Int32 × mm} (h : fX7_tear_0 σ = v9) (hk : (fun q : Int32 × mm => r = some (.inl q.1) ∧ M' = (q.2, τ)) v9) : Vm mX7_tear 0 0 [(0, .inr (.inr (7, 0)))] [] (σ, τ) r M' := by
  unfold fX7_tear_0 at h
  refine Vm.aload_n (n := 1) 0 dX7_tear_0 rfl rfl ?_
  refine Vm.gX (n := 4) dX7_tear_1 rfl wf_RX7_22 in_7 rfl (by decide) rfl (by decide) ?_
  refine Vm.if_eq (n := 7) 11 dX7_tear_4 rfl rfl (fun c9 => ?_) (fun c9 => ?_)
  · replace h := (if_pos c9).symm.trans h
    refine Vm.iconst (n := 12) (v := (0 : Int32)) dX7_tear_11 rfl (by decide) ?_
    exact lX7_tear_12 (0 : Int32) σ τ h hk
  · replace h := (if_neg c9).symm.trans h
    refine Vm.iconst (n := 8) (v := (1 : Int32)) dX7_tear_7 rfl (by decide) ?_
    refine Vm.goto 12 dX7_tear_8 rfl ?_
    exact lX7_tear_12 (1 : Int32) σ τ h hk
theorem kX7_tear (σ τ : mm) {q : Int32 × mm} (h : fX7_tear σ = q) : Cx mX7_tear 0 [.inr (.inr (7, 0))] (σ, τ) (some (.inl q.1)) (q.2, τ) :=
  Cx.of (lv := [(0, .inr (.inr (7, 0)))]) (by decide) (fun ad => Nat.le_of_ble_eq_true rfl) (fun ad => rfl) (lX7_tear_0 σ τ h ⟨rfl, rfl⟩)
-- ThinBodies count (I)I
noncomputable def fX7_count_0 (a1 : Int32) (σ : mm) : Option (Int32 × mm) :=
  if a1.toInt = (0 : Int) then
  some ((σ.1 0 0 0, σ))
  else if a1.toInt = (1 : Int) then
  some ((σ.1 0 0 4, σ))
  else if a1.toInt = (2 : Int) then
  Option.bind (fX0_points 0 σ) fun q1 =>
  some ((q1, σ))
  else if a1.toInt = (3 : Int) then
  some ((σ.1 3 0 0, σ))
  else 
  Option.bind (fX7_finding (0 : Int32) σ) fun q2 =>
  some ((q2.1, q2.2))
noncomputable def fX7_count (a1 : Int32) (σ : mm) : Option (Int32 × mm) := fX7_count_0 a1 σ
set_option maxRecDepth 20000 in
theorem lX7_count_0 (a1 : Int32) (σ τ : mm) {r : Option mv} {M' : mm × mm} {v9 : Int32 × mm} (h : fX7_count_0 a1 σ = some v9) (hk : (fun q : Int32 × mm => r = some (.inl q.1) ∧ M' = (q.2, τ)) v9) : Vm mX7_count 2 0 [(0, .inr (.inr (7, 0))), (1, .inl a1)] [] (σ, τ) r M' := by
  unfold fX7_count_0 at h
  refine Vm.iload_n (n := 1) 1 dX7_count_0 rfl rfl ?_
  by_cases c50 : a1.toInt = (0 : Int)
  · replace h := (if_pos c50).symm.trans h
    refine Vm.tswI (0) 32 dX7_count_1 c50 (by decide) rfl rfl ?_
    refine Vm.aload_n (n := 33) 0 dX7_count_32 rfl rfl ?_
    refine Vm.getR (n := 36) dX7_count_33 rfl wf_RX7_12 in_7 rfl (by decide) rfl ?_
    refine Vm.gX (n := 39) dX7_count_36 rfl wf_RX7_75 (ink ik_0 (by decide)) rfl (by decide) rfl (by decide) ?_
    obtain rfl := Option.some.inj h
    exact Vm.iret dX7_count_39 rfl hk.1 hk.2.symm
  · replace h := (if_neg c50).symm.trans h
    by_cases c51 : a1.toInt = (1 : Int)
    · replace h := (if_pos c51).symm.trans h
      refine Vm.tswI (1) 40 dX7_count_1 c51 (by decide) rfl rfl ?_
      refine Vm.aload_n (n := 41) 0 dX7_count_40 rfl rfl ?_
      refine Vm.getR (n := 44) dX7_count_41 rfl wf_RX7_12 in_7 rfl (by decide) rfl ?_
      refine Vm.gX (n := 47) dX7_count_44 rfl wf_RX7_117 (ink ik_0 (by decide)) rfl (by decide) rfl (by decide) ?_
      obtain rfl := Option.some.inj h
      exact Vm.iret dX7_count_47 rfl hk.1 hk.2.symm
    · replace h := (if_neg c51).symm.trans h
      by_cases c52 : a1.toInt = (2 : Int)
      · replace h := (if_pos c52).symm.trans h
        refine Vm.tswI (2) 48 dX7_count_1 c52 (by decide) rfl rfl ?_
        refine Vm.aload_n (n := 49) 0 dX7_count_48 rfl rfl ?_
        refine Vm.getR (n := 52) dX7_count_49 rfl wf_RX7_12 in_7 rfl (by decide) rfl ?_
        replace h := Option.bind_eq_some_iff.mp h
        obtain ⟨q1, h1, h⟩ := h
        refine Vm.callV (Y := mX0_points) (n := 55) [] dX7_count_52 rfl wv_RX7_102 omX0_points rfl (ink ik_0 (by decide)) rfl rfl rfl (Nat.le_of_ble_eq_true rfl) (by decide) (kX0_points 0 (by decide) σ τ h1) ?_
        obtain rfl := Option.some.inj h
        exact Vm.iret dX7_count_55 rfl hk.1 hk.2.symm
      · replace h := (if_neg c52).symm.trans h
        by_cases c53 : a1.toInt = (3 : Int)
        · replace h := (if_pos c53).symm.trans h
          refine Vm.tswI (3) 56 dX7_count_1 c53 (by decide) rfl rfl ?_
          refine Vm.aload_n (n := 57) 0 dX7_count_56 rfl rfl ?_
          refine Vm.getR (n := 60) dX7_count_57 rfl wf_RX7_50 in_7 rfl (by decide) rfl ?_
          refine Vm.gX (n := 63) dX7_count_60 rfl wf_RX7_325 in_3 rfl (by decide) rfl (by decide) ?_
          obtain rfl := Option.some.inj h
          exact Vm.iret dX7_count_63 rfl hk.1 hk.2.symm
        · replace h := (if_neg c53).symm.trans h
          refine Vm.tswO 64 dX7_count_1 (by omega) rfl ?_
          refine Vm.aload_n (n := 65) 0 dX7_count_64 rfl rfl ?_
          refine Vm.iconst (n := 66) (v := (0 : Int32)) dX7_count_65 rfl (by decide) ?_
          replace h := Option.bind_eq_some_iff.mp h
          obtain ⟨q2, h2, h⟩ := h
          refine Vm.callV (Y := mX7_finding) (n := 69) [.inl (0 : Int32)] dX7_count_66 rfl wv_RX7_68 omX7_finding rfl in_7 rfl rfl rfl (Nat.le_of_ble_eq_true rfl) (by decide) (kX7_finding (0 : Int32) σ τ h2) ?_
          obtain rfl := Option.some.inj h
          exact Vm.iret dX7_count_69 rfl hk.1 hk.2.symm
theorem kX7_count (a1 : Int32) (σ τ : mm) {q : Int32 × mm} (h : fX7_count a1 σ = some q) : Cx mX7_count 2 [.inr (.inr (7, 0)), .inl a1] (σ, τ) (some (.inl q.1)) (q.2, τ) :=
  Cx.of (lv := [(0, .inr (.inr (7, 0))), (1, .inl a1)]) (by decide) (fun ad => Nat.le_of_ble_eq_true rfl) (fun ad => rfl) (lX7_count_0 a1 σ τ h ⟨rfl, rfl⟩)
-- ThinBodies status (I)I
noncomputable def fX7_status_32 (a2 : Int32) (a3 : Int32) (σ : mm) : Option ((Int32 × Int32) ⊕ (Int32 × mm)) :=
  if (7 : Int32) ≤ a3 then
  some (.inr ((a2, σ)))
  else
  Option.bind (rdI σ 19 0 7 a3) fun x1 =>
  Option.bind (some (a2 + x1)) fun x2 =>
  Option.bind (some (a3 + (1 : Int32))) fun x3 =>
  some (.inl (x2, x3))
noncomputable def fX7_status_32_L (σ : mm) : Int32 × Int32 → Option ((Int32 × Int32) ⊕ (Int32 × mm)) := fun z => fX7_status_32 z.1 z.2 σ
noncomputable def fX7_status_11 (σ : mm) : Option (Int32 × mm) :=
  Option.bind (fX7_finding (0 : Int32) σ) fun q1 =>
  some ((q1.1, q1.2))
noncomputable def fX7_status_0 (a1 : Int32) (σ : mm) : Option (Int32 × mm) :=
  if a1 < (-1 : Int32) then
  fX7_status_11 σ
  else
  if a1 < (7 : Int32) then
  if a1 < (0 : Int32) then
  lp (fX7_status_32_L σ) ((0 : Int32), (0 : Int32))
  else
  Option.bind (rdI σ 19 0 7 a1) fun x1 =>
  some ((x1, σ))
  else
  fX7_status_11 σ
noncomputable def fX7_status (a1 : Int32) (σ : mm) : Option (Int32 × mm) := fX7_status_0 a1 σ
set_option maxRecDepth 20000 in
theorem lX7_status_32 (a2 : Int32) (a3 : Int32) (σ τ : mm) {r : Option mv} {M' : mm × mm} {v9 : (Int32 × Int32) ⊕ (Int32 × mm)} (h : fX7_status_32 a2 a3 σ = some v9) (hk : (Sum.elim (fun z : Int32 × Int32 => Vm mX7_status 1 32 [(0, .inr (.inr (7, 0))), (2, .inl z.1), (3, .inl z.2)] [] (σ, τ) r M') (fun q : Int32 × mm => r = some (.inl q.1) ∧ M' = (q.2, τ))) v9) : Vm mX7_status 1 32 [(0, .inr (.inr (7, 0))), (2, .inl a2), (3, .inl a3)] [] (σ, τ) r M' := by
  unfold fX7_status_32 at h
  refine Vm.iload_n (n := 33) 2 dX7_status_32 rfl rfl ?_
  refine Vm.bipush (n := 35) (v := (7 : Int32)) dX7_status_33 rfl (by decide) ?_
  refine Vm.icmp_ge (n := 38) 53 dX7_status_35 rfl rfl (fun c9 => ?_) (fun c9 => ?_)
  · replace h := (if_pos c9).symm.trans h
    refine Vm.iload_n (n := 54) 1 dX7_status_53 rfl rfl ?_
    obtain rfl := Option.some.inj h
    exact Vm.iret dX7_status_54 rfl hk.1 hk.2.symm
  · replace h := (if_neg c9).symm.trans h
    refine Vm.iload_n (n := 39) 1 dX7_status_38 rfl rfl ?_
    refine Vm.aload_n (n := 40) 0 dX7_status_39 rfl rfl ?_
    refine Vm.getR (n := 43) dX7_status_40 rfl wf_RX7_60 in_7 rfl (by decide) rfl ?_
    refine Vm.iload_n (n := 44) 2 dX7_status_43 rfl rfl ?_
    replace h := Option.bind_eq_some_iff.mp h
    obtain ⟨x1, h1, h⟩ := h
    refine Vm.ialdx (n := 45) dX7_status_44 rfl in_19 rfl rfl (by decide) h1 ?_
    refine Vm.iadd (n := 46) dX7_status_45 rfl ?_
    replace h := Option.bind_eq_some_iff.mp h
    obtain ⟨x2, e2, h⟩ := h
    replace e2 := Option.some.inj e2
    refine Vm.top e2 ?_
    refine Vm.istore_n (n := 47) (lv' := [(2, .inl x2), (0, .inr (.inr (7, 0))), (3, .inl a3)]) dX7_status_46 rfl (Nat.le_of_ble_eq_true rfl) rfl ?_
    replace h := Option.bind_eq_some_iff.mp h
    obtain ⟨x3, e3, h⟩ := h
    replace e3 := Option.some.inj e3
    refine Vm.iinc (n := 50) (v := x3) (lv' := [(3, .inl x3), (2, .inl x2), (0, .inr (.inr (7, 0)))]) 2 dX7_status_47 rfl rfl e3 (Nat.le_of_ble_eq_true rfl) rfl ?_
    refine Vm.goto 32 dX7_status_50 rfl ?_
    refine Vm.sub (lv' := [(0, .inr (.inr (7, 0))), (2, .inl x2), (3, .inl x3)]) [2, 1, 0] rfl ?_
    obtain rfl := Option.some.inj h
    exact hk
theorem lX7_status_32_L (σ τ : mm) {r : Option mv} {M' : mm × mm} (z : Int32 × Int32) (w9 : Int32 × mm) (h : lp (fX7_status_32_L σ) z = some w9) (hk : (fun q : Int32 × mm => r = some (.inl q.1) ∧ M' = (q.2, τ)) w9) : Vm mX7_status 1 32 [(0, .inr (.inr (7, 0))), (2, .inl z.1), (3, .inl z.2)] [] (σ, τ) r M' :=
  lp_link (S := Int32 × Int32) (R := Int32 × mm) (body := fX7_status_32_L σ) (A := fun z : Int32 × Int32 => Vm mX7_status 1 32 [(0, .inr (.inr (7, 0))), (2, .inl z.1), (3, .inl z.2)] [] (σ, τ) r M') (B := fun w : Int32 × mm => (fun q : Int32 × mm => r = some (.inl q.1) ∧ M' = (q.2, τ)) w) (fun z v hb hv => lX7_status_32 z.1 z.2 σ τ hb hv) z w9 h hk
set_option maxRecDepth 20000 in
theorem lX7_status_11 (σ τ : mm) {r : Option mv} {M' : mm × mm} {v9 : Int32 × mm} (h : fX7_status_11 σ = some v9) (hk : (fun q : Int32 × mm => r = some (.inl q.1) ∧ M' = (q.2, τ)) v9) : Vm mX7_status 1 11 [(0, .inr (.inr (7, 0)))] [] (σ, τ) r M' := by
  unfold fX7_status_11 at h
  refine Vm.aload_n (n := 12) 0 dX7_status_11 rfl rfl ?_
  refine Vm.iconst (n := 13) (v := (0 : Int32)) dX7_status_12 rfl (by decide) ?_
  replace h := Option.bind_eq_some_iff.mp h
  obtain ⟨q1, h1, h⟩ := h
  refine Vm.callV (Y := mX7_finding) (n := 16) [.inl (0 : Int32)] dX7_status_13 rfl wv_RX7_68 omX7_finding rfl in_7 rfl rfl rfl (Nat.le_of_ble_eq_true rfl) (by decide) (kX7_finding (0 : Int32) σ τ h1) ?_
  obtain rfl := Option.some.inj h
  exact Vm.iret dX7_status_16 rfl hk.1 hk.2.symm
set_option maxRecDepth 20000 in
theorem lX7_status_0 (a1 : Int32) (σ τ : mm) {r : Option mv} {M' : mm × mm} {v9 : Int32 × mm} (h : fX7_status_0 a1 σ = some v9) (hk : (fun q : Int32 × mm => r = some (.inl q.1) ∧ M' = (q.2, τ)) v9) : Vm mX7_status 1 0 [(0, .inr (.inr (7, 0))), (1, .inl a1)] [] (σ, τ) r M' := by
  unfold fX7_status_0 at h
  refine Vm.iload_n (n := 1) 1 dX7_status_0 rfl rfl ?_
  refine Vm.iconst (n := 2) (v := (-1 : Int32)) dX7_status_1 rfl (by decide) ?_
  refine Vm.icmp_lt (n := 5) 11 dX7_status_2 rfl rfl (fun c9 => ?_) (fun c9 => ?_)
  · replace h := (if_pos c9).symm.trans h
    refine Vm.sub (lv' := [(0, .inr (.inr (7, 0)))]) [0] rfl ?_
    exact lX7_status_11 σ τ h hk
  · replace h := (if_neg c9).symm.trans h
    refine Vm.iload_n (n := 6) 1 dX7_status_5 rfl rfl ?_
    refine Vm.bipush (n := 8) (v := (7 : Int32)) dX7_status_6 rfl (by decide) ?_
    refine Vm.icmp_lt (n := 11) 17 dX7_status_8 rfl rfl (fun c9 => ?_) (fun c9 => ?_)
    · replace h := (if_pos c9).symm.trans h
      refine Vm.iload_n (n := 18) 1 dX7_status_17 rfl rfl ?_
      refine Vm.if_lt (n := 21) 28 dX7_status_18 rfl rfl (fun c9 => ?_) (fun c9 => ?_)
      · replace h := (if_pos c9).symm.trans h
        refine Vm.iconst (n := 29) (v := (0 : Int32)) dX7_status_28 rfl (by decide) ?_
        refine Vm.istore_n (n := 30) (lv' := [(2, .inl (0 : Int32)), (0, .inr (.inr (7, 0))), (1, .inl a1)]) dX7_status_29 rfl (Nat.le_of_ble_eq_true rfl) rfl ?_
        refine Vm.iconst (n := 31) (v := (0 : Int32)) dX7_status_30 rfl (by decide) ?_
        refine Vm.istore_n (n := 32) (lv' := [(3, .inl (0 : Int32)), (2, .inl (0 : Int32)), (0, .inr (.inr (7, 0))), (1, .inl a1)]) dX7_status_31 rfl (Nat.le_of_ble_eq_true rfl) rfl ?_
        refine Vm.sub (lv' := [(0, .inr (.inr (7, 0))), (2, .inl (0 : Int32)), (3, .inl (0 : Int32))]) [2, 1, 0] rfl ?_
        exact lX7_status_32_L σ τ ((0 : Int32), (0 : Int32)) _ h hk
      · replace h := (if_neg c9).symm.trans h
        refine Vm.aload_n (n := 22) 0 dX7_status_21 rfl rfl ?_
        refine Vm.getR (n := 25) dX7_status_22 rfl wf_RX7_60 in_7 rfl (by decide) rfl ?_
        refine Vm.iload_n (n := 26) 1 dX7_status_25 rfl rfl ?_
        replace h := Option.bind_eq_some_iff.mp h
        obtain ⟨x1, h1, h⟩ := h
        refine Vm.ialdx (n := 27) dX7_status_26 rfl in_19 rfl rfl (by decide) h1 ?_
        obtain rfl := Option.some.inj h
        exact Vm.iret dX7_status_27 rfl hk.1 hk.2.symm
    · replace h := (if_neg c9).symm.trans h
      refine Vm.sub (lv' := [(0, .inr (.inr (7, 0)))]) [0] rfl ?_
      exact lX7_status_11 σ τ h hk
theorem kX7_status (a1 : Int32) (σ τ : mm) {q : Int32 × mm} (h : fX7_status a1 σ = some q) : Cx mX7_status 1 [.inr (.inr (7, 0)), .inl a1] (σ, τ) (some (.inl q.1)) (q.2, τ) :=
  Cx.of (lv := [(0, .inr (.inr (7, 0))), (1, .inl a1)]) (by decide) (fun ad => Nat.le_of_ble_eq_true rfl) (fun ad => rfl) (lX7_status_0 a1 σ τ h ⟨rfl, rfl⟩)
-- ThinBodiesModel in (JJJ)Z
def fX8_in_0 (a0 : Int64) (a2 : Int64) (a4 : Int64) : Bool :=
  if (lg_cmp a0 a2) < (0 : Int32) then
  false
  else
  if (0 : Int32) < (lg_cmp a0 a4) then
  false
  else
  true
def fX8_in (a0 : Int64) (a2 : Int64) (a4 : Int64) : Bool := fX8_in_0 a0 a2 a4
set_option maxRecDepth 20000 in
theorem lX8_in_0 (a0 : Int64) (a2 : Int64) (a4 : Int64) {M : mm × mm} {r : Option mv} {M' : mm × mm} {v9 : Bool} (h : fX8_in_0 a0 a2 a4 = v9) (hk : (fun q : Bool => r = some (.inl (bi q)) ∧ M' = M) v9) : Vm mX8_in 0 0 [(0, .inr (.inl a0)), (2, .inr (.inl a2)), (4, .inr (.inl a4))] [] M r M' := by
  unfold fX8_in_0 at h
  refine Vm.lload_n (n := 1) 0 dX8_in_0 rfl rfl ?_
  refine Vm.lload_n (n := 2) 1 dX8_in_1 rfl rfl ?_
  refine Vm.lcmp (n := 3) dX8_in_2 rfl ?_
  refine Vm.if_lt (n := 6) 17 dX8_in_3 rfl rfl (fun c9 => ?_) (fun c9 => ?_)
  · replace h := (if_pos c9).symm.trans h
    refine Vm.iconst (n := 18) (v := (0 : Int32)) dX8_in_17 rfl (by decide) ?_
    subst h
    exact Vm.zret (b := false) dX8_in_18 rfl rfl hk.1 hk.2.symm
  · replace h := (if_neg c9).symm.trans h
    refine Vm.lload_n (n := 7) 0 dX8_in_6 rfl rfl ?_
    refine Vm.lload (n := 9) 2 dX8_in_7 rfl rfl ?_
    refine Vm.lcmp (n := 10) dX8_in_9 rfl ?_
    refine Vm.if_gt (n := 13) 17 dX8_in_10 rfl rfl (fun c9 => ?_) (fun c9 => ?_)
    · replace h := (if_pos c9).symm.trans h
      refine Vm.iconst (n := 18) (v := (0 : Int32)) dX8_in_17 rfl (by decide) ?_
      subst h
      exact Vm.zret (b := false) dX8_in_18 rfl rfl hk.1 hk.2.symm
    · replace h := (if_neg c9).symm.trans h
      refine Vm.iconst (n := 14) (v := (1 : Int32)) dX8_in_13 rfl (by decide) ?_
      refine Vm.goto 18 dX8_in_14 rfl ?_
      subst h
      exact Vm.zret (b := true) dX8_in_18 rfl rfl hk.1 hk.2.symm
theorem kX8_in (a0 : Int64) (a2 : Int64) (a4 : Int64) {M : mm × mm} {q : Bool} (h : fX8_in a0 a2 a4 = q) : Cx mX8_in 0 [.inr (.inl a0), .inr (.inl a2), .inr (.inl a4)] M (some (.inl (bi q))) M :=
  Cx.of (lv := [(0, .inr (.inl a0)), (2, .inr (.inl a2)), (4, .inr (.inl a4))]) (by decide) (fun ad => Nat.le_of_ble_eq_true rfl) (fun ad => rfl) (lX8_in_0 a0 a2 a4 h ⟨rfl, rfl⟩)
-- ThinBodiesModel finds (I)I
def fX8_finds_0 (a1 : Int32) (σ : mm) : Option (Int32 × mm) :=
  Option.bind (rdI σ 40 0 7 ((-1000000001 : Int32) - a1)) fun x1 =>
  Option.bind (wrI σ 40 0 7 ((-1000000001 : Int32) - a1) (x1 + (1 : Int32))) fun σ2 =>
  some ((a1, σ2))
def fX8_finds (a1 : Int32) (σ : mm) : Option (Int32 × mm) := fX8_finds_0 a1 σ
set_option maxRecDepth 20000 in
theorem lX8_finds_0 (a1 : Int32) (σ τ : mm) {r : Option mv} {M' : mm × mm} {v9 : Int32 × mm} (h : fX8_finds_0 a1 σ = some v9) (hk : (fun q : Int32 × mm => r = some (.inl q.1) ∧ M' = (τ, q.2)) v9) : Vm mX8_finds 0 0 [(0, .inr (.inr (32, 0))), (1, .inl a1)] [] (τ, σ) r M' := by
  unfold fX8_finds_0 at h
  refine Vm.aload_n (n := 1) 0 dX8_finds_0 rfl rfl ?_
  refine Vm.getR (n := 4) dX8_finds_1 rfl wf_RX8_7 in_32 rfl (by decide) rfl ?_
  refine Vm.ldc (n := 6) dX8_finds_4 rfl wc_RX8_92 ?_
  refine Vm.iload_n (n := 7) 1 dX8_finds_6 rfl rfl ?_
  refine Vm.isub (n := 8) dX8_finds_7 rfl ?_
  refine Vm.dup2 (n := 9) dX8_finds_8 rfl rfl rfl ?_
  replace h := Option.bind_eq_some_iff.mp h
  obtain ⟨x1, h1, h⟩ := h
  refine Vm.ialdm (n := 10) dX8_finds_9 rfl in_40 rfl rfl (by decide) h1 ?_
  refine Vm.iconst (n := 11) (v := (1 : Int32)) dX8_finds_10 rfl (by decide) ?_
  refine Vm.iadd (n := 12) dX8_finds_11 rfl ?_
  replace h := Option.bind_eq_some_iff.mp h
  obtain ⟨σ2, h2, h⟩ := h
  refine Vm.iastm (n := 13) dX8_finds_12 rfl in_40 rfl rfl (by decide) h2 ?_
  refine Vm.iload_n (n := 14) 1 dX8_finds_13 rfl rfl ?_
  obtain rfl := Option.some.inj h
  exact Vm.iret dX8_finds_14 rfl hk.1 hk.2.symm
theorem kX8_finds (a1 : Int32) (σ τ : mm) {q : Int32 × mm} (h : fX8_finds a1 σ = some q) : Cx mX8_finds 0 [.inr (.inr (32, 0)), .inl a1] (τ, σ) (some (.inl q.1)) (τ, q.2) :=
  Cx.of (lv := [(0, .inr (.inr (32, 0))), (1, .inl a1)]) (by decide) (fun ad => Nat.le_of_ble_eq_true rfl) (fun ad => rfl) (lX8_finds_0 a1 σ τ h ⟨rfl, rfl⟩)
-- ThinBodiesModel squares ()V
noncomputable def fX8_squares_24 (a1 : Int32) (s1 : Int32) (s2 : Int32) (σ : mm) : Option ((Int32 × mm) ⊕ (mm)) :=
  Option.bind (wrI σ 46 0 16 s1 s2) fun σ1 =>
  Option.bind (some (a1 + (1 : Int32))) fun x2 =>
  some (.inl (x2, σ1))
noncomputable def fX8_squares_2 (a1 : Int32) (σ : mm) : Option ((Int32 × mm) ⊕ (mm)) :=
  if (16 : Int32) ≤ a1 then
  some (.inr (σ))
  else
  Option.bind (rmI a1 (5 : Int32)) fun x1 =>
  if x1 = (0 : Int32) then
  fX8_squares_24 a1 a1 (1 : Int32) σ
  else
  fX8_squares_24 a1 a1 (0 : Int32) σ
noncomputable def fX8_squares_2_L : Int32 × mm → Option ((Int32 × mm) ⊕ (mm)) := fun z => fX8_squares_2 z.1 z.2
noncomputable def fX8_squares_0 (σ : mm) : Option (mm) :=
  lp (fX8_squares_2_L) ((0 : Int32), σ)
noncomputable def fX8_squares (σ : mm) : Option (mm) := fX8_squares_0 σ
set_option maxRecDepth 20000 in
theorem lX8_squares_24 (a1 : Int32) (s1 : Int32) (s2 : Int32) (σ τ : mm) {r : Option mv} {M' : mm × mm} {v9 : (Int32 × mm) ⊕ (mm)} (h : fX8_squares_24 a1 s1 s2 σ = some v9) (hk : (Sum.elim (fun z : Int32 × mm => Vm mX8_squares 0 2 [(0, .inr (.inr (32, 0))), (1, .inl z.1)] [] (τ, z.2) r M') (fun q : mm => r = none ∧ M' = (τ, q))) v9) : Vm mX8_squares 0 24 [(0, .inr (.inr (32, 0))), (1, .inl a1)] [.inl s2, .inl s1, .inr (.inr (46, 0))] (τ, σ) r M' := by
  unfold fX8_squares_24 at h
  replace h := Option.bind_eq_some_iff.mp h
  obtain ⟨σ1, h1, h⟩ := h
  refine Vm.iastm (n := 25) dX8_squares_24 rfl in_46 rfl rfl (by decide) h1 ?_
  replace h := Option.bind_eq_some_iff.mp h
  obtain ⟨x2, e2, h⟩ := h
  replace e2 := Option.some.inj e2
  refine Vm.iinc (n := 28) (v := x2) (lv' := [(1, .inl x2), (0, .inr (.inr (32, 0)))]) 1 dX8_squares_25 rfl rfl e2 (Nat.le_of_ble_eq_true rfl) rfl ?_
  refine Vm.goto 2 dX8_squares_28 rfl ?_
  refine Vm.sub (lv' := [(0, .inr (.inr (32, 0))), (1, .inl x2)]) [1, 0] rfl ?_
  obtain rfl := Option.some.inj h
  exact hk
set_option maxRecDepth 20000 in
theorem lX8_squares_2 (a1 : Int32) (σ τ : mm) {r : Option mv} {M' : mm × mm} {v9 : (Int32 × mm) ⊕ (mm)} (h : fX8_squares_2 a1 σ = some v9) (hk : (Sum.elim (fun z : Int32 × mm => Vm mX8_squares 0 2 [(0, .inr (.inr (32, 0))), (1, .inl z.1)] [] (τ, z.2) r M') (fun q : mm => r = none ∧ M' = (τ, q))) v9) : Vm mX8_squares 0 2 [(0, .inr (.inr (32, 0))), (1, .inl a1)] [] (τ, σ) r M' := by
  unfold fX8_squares_2 at h
  refine Vm.iload_n (n := 3) 1 dX8_squares_2 rfl rfl ?_
  refine Vm.bipush (n := 5) (v := (16 : Int32)) dX8_squares_3 rfl (by decide) ?_
  refine Vm.icmp_ge (n := 8) 31 dX8_squares_5 rfl rfl (fun c9 => ?_) (fun c9 => ?_)
  · replace h := (if_pos c9).symm.trans h
    obtain rfl := Option.some.inj h
    exact Vm.vret dX8_squares_31 rfl hk.1 hk.2.symm
  · replace h := (if_neg c9).symm.trans h
    refine Vm.aload_n (n := 9) 0 dX8_squares_8 rfl rfl ?_
    refine Vm.getR (n := 12) dX8_squares_9 rfl wf_RX8_26 in_32 rfl (by decide) rfl ?_
    refine Vm.iload_n (n := 13) 1 dX8_squares_12 rfl rfl ?_
    refine Vm.iload_n (n := 14) 1 dX8_squares_13 rfl rfl ?_
    refine Vm.iconst (n := 15) (v := (5 : Int32)) dX8_squares_14 rfl (by decide) ?_
    replace h := Option.bind_eq_some_iff.mp h
    obtain ⟨x1, h1, h⟩ := h
    refine Vm.irem (n := 16) dX8_squares_15 rfl h1 ?_
    refine Vm.if_ne (n := 19) 23 dX8_squares_16 rfl rfl (fun c9 => ?_) (fun c9 => ?_)
    · replace h := (if_neg c9).symm.trans h
      refine Vm.iconst (n := 24) (v := (0 : Int32)) dX8_squares_23 rfl (by decide) ?_
      exact lX8_squares_24 a1 a1 (0 : Int32) σ τ h hk
    · replace h := (if_pos c9).symm.trans h
      refine Vm.iconst (n := 20) (v := (1 : Int32)) dX8_squares_19 rfl (by decide) ?_
      refine Vm.goto 24 dX8_squares_20 rfl ?_
      exact lX8_squares_24 a1 a1 (1 : Int32) σ τ h hk
theorem lX8_squares_2_L (τ : mm) {r : Option mv} {M' : mm × mm} (z : Int32 × mm) (w9 : mm) (h : lp (fX8_squares_2_L) z = some w9) (hk : (fun q : mm => r = none ∧ M' = (τ, q)) w9) : Vm mX8_squares 0 2 [(0, .inr (.inr (32, 0))), (1, .inl z.1)] [] (τ, z.2) r M' :=
  lp_link (S := Int32 × mm) (R := mm) (body := fX8_squares_2_L) (A := fun z : Int32 × mm => Vm mX8_squares 0 2 [(0, .inr (.inr (32, 0))), (1, .inl z.1)] [] (τ, z.2) r M') (B := fun w : mm => (fun q : mm => r = none ∧ M' = (τ, q)) w) (fun z v hb hv => lX8_squares_2 z.1 z.2 τ hb hv) z w9 h hk
set_option maxRecDepth 20000 in
theorem lX8_squares_0 (σ τ : mm) {r : Option mv} {M' : mm × mm} {v9 : mm} (h : fX8_squares_0 σ = some v9) (hk : (fun q : mm => r = none ∧ M' = (τ, q)) v9) : Vm mX8_squares 0 0 [(0, .inr (.inr (32, 0)))] [] (τ, σ) r M' := by
  unfold fX8_squares_0 at h
  refine Vm.iconst (n := 1) (v := (0 : Int32)) dX8_squares_0 rfl (by decide) ?_
  refine Vm.istore_n (n := 2) (lv' := [(1, .inl (0 : Int32)), (0, .inr (.inr (32, 0)))]) dX8_squares_1 rfl (Nat.le_of_ble_eq_true rfl) rfl ?_
  refine Vm.sub (lv' := [(0, .inr (.inr (32, 0))), (1, .inl (0 : Int32))]) [1, 0] rfl ?_
  exact lX8_squares_2_L τ ((0 : Int32), σ) _ h hk
theorem kX8_squares (σ τ : mm) {q : mm} (h : fX8_squares σ = some q) : Cx mX8_squares 0 [.inr (.inr (32, 0))] (τ, σ) (none) (τ, q) :=
  Cx.of (lv := [(0, .inr (.inr (32, 0)))]) (by decide) (fun ad => Nat.le_of_ble_eq_true rfl) (fun ad => rfl) (lX8_squares_0 σ τ h ⟨rfl, rfl⟩)
-- ThinBodiesModel hasLetters (I)Z
noncomputable def fX8_hasLetters_96 (a1 : Int32) (σ : mm) : Option (Bool × mm) :=
  Option.bind (some (stI σ 32 0 1 a1)) fun σ1 =>
  some ((true, σ1))
noncomputable def fX8_hasLetters_59 (a1 : Int32) (a3 : Int32) (σ : mm) : Option ((Int32 × mm) ⊕ (Bool × mm)) :=
  if a1 ≤ a3 then
  if a1 = (σ.1 32 0 1) then
  Option.map Sum.inr (fX8_hasLetters_96 a1 σ)
  else
  Option.bind (fX8_squares σ) fun q1 =>
  Option.map Sum.inr (fX8_hasLetters_96 a1 q1)
  else
  Option.bind (wrI σ 42 0 4 a3 (0 : Int32)) fun σ2 =>
  Option.bind (wrI σ2 43 0 4 a3 (3 : Int32)) fun σ3 =>
  Option.bind (some (a3 + (1 : Int32))) fun x4 =>
  some (.inl (x4, σ3))
noncomputable def fX8_hasLetters_59_L (a1 : Int32) : Int32 × mm → Option ((Int32 × mm) ⊕ (Bool × mm)) := fun z => fX8_hasLetters_59 a1 z.1 z.2
noncomputable def fX8_hasLetters_37 (a1 : Int32) (a3 : Int32) (s0 : Int32) (s1 : Int32) (σ : mm) : Option ((Int32 × Int32) ⊕ (Bool × mm)) :=
  Option.bind (some (s0 * s1)) fun x1 =>
  Option.bind (some (a3 + (1 : Int32))) fun x2 =>
  some (.inl (x1, x2))
noncomputable def fX8_hasLetters_4 (a1 : Int32) (a2 : Int32) (a3 : Int32) (σ : mm) : Option ((Int32 × Int32) ⊕ (Bool × mm)) :=
  if a1 ≤ a3 then
  if a2 ≤ (4096 : Int32) then
  Option.bind (some (σ.1 32 0 1)) fun x1 =>
  Option.map Sum.inr (lp (fX8_hasLetters_59_L a1) (x1, σ))
  else
  some (.inr ((false, σ)))
  else
  if (σ.1 32 0 1) ≤ a3 then
  fX8_hasLetters_37 a1 a3 a2 (4 : Int32) σ
  else
  Option.bind (rdI σ 43 0 4 a3) fun x2 =>
  Option.bind (rdI σ 42 0 4 a3) fun x3 =>
  fX8_hasLetters_37 a1 a3 a2 ((x2 - x3) + (1 : Int32)) σ
noncomputable def fX8_hasLetters_4_L (a1 : Int32) (σ : mm) : Int32 × Int32 → Option ((Int32 × Int32) ⊕ (Bool × mm)) := fun z => fX8_hasLetters_4 a1 z.1 z.2 σ
noncomputable def fX8_hasLetters_0 (a1 : Int32) (σ : mm) : Option (Bool × mm) :=
  lp (fX8_hasLetters_4_L a1 σ) ((1 : Int32), (0 : Int32))
noncomputable def fX8_hasLetters (a1 : Int32) (σ : mm) : Option (Bool × mm) := fX8_hasLetters_0 a1 σ
set_option maxRecDepth 20000 in
theorem lX8_hasLetters_96 (a1 : Int32) (σ τ : mm) {r : Option mv} {M' : mm × mm} {v9 : Bool × mm} (h : fX8_hasLetters_96 a1 σ = some v9) (hk : (fun q : Bool × mm => r = some (.inl (bi q.1)) ∧ M' = (τ, q.2)) v9) : Vm mX8_hasLetters 1 96 [(0, .inr (.inr (32, 0))), (1, .inl a1)] [] (τ, σ) r M' := by
  unfold fX8_hasLetters_96 at h
  refine Vm.aload_n (n := 97) 0 dX8_hasLetters_96 rfl rfl ?_
  refine Vm.iload_n (n := 98) 1 dX8_hasLetters_97 rfl rfl ?_
  refine Vm.pM (n := 101) (ty := .int) dX8_hasLetters_98 rfl wf_RX8_13 in_32 rfl (by decide) rfl (by decide) rfl rfl rfl rfl ?_
  replace h := Option.bind_eq_some_iff.mp h
  obtain ⟨σ1, e1, h⟩ := h
  replace e1 := Option.some.inj e1
  refine Vm.mem (congrArg (fun z => (τ, z)) e1) ?_
  refine Vm.iconst (n := 102) (v := (1 : Int32)) dX8_hasLetters_101 rfl (by decide) ?_
  obtain rfl := Option.some.inj h
  exact Vm.zret (b := true) dX8_hasLetters_102 rfl rfl hk.1 hk.2.symm
set_option maxRecDepth 20000 in
theorem lX8_hasLetters_59 (a1 : Int32) (a3 : Int32) (σ τ : mm) {r : Option mv} {M' : mm × mm} {v9 : (Int32 × mm) ⊕ (Bool × mm)} (h : fX8_hasLetters_59 a1 a3 σ = some v9) (hk : (Sum.elim (fun z : Int32 × mm => Vm mX8_hasLetters 1 59 [(0, .inr (.inr (32, 0))), (1, .inl a1), (3, .inl z.1)] [] (τ, z.2) r M') (fun q : Bool × mm => r = some (.inl (bi q.1)) ∧ M' = (τ, q.2))) v9) : Vm mX8_hasLetters 1 59 [(0, .inr (.inr (32, 0))), (1, .inl a1), (3, .inl a3)] [] (τ, σ) r M' := by
  unfold fX8_hasLetters_59 at h
  refine Vm.iload_n (n := 60) 2 dX8_hasLetters_59 rfl rfl ?_
  refine Vm.iload_n (n := 61) 1 dX8_hasLetters_60 rfl rfl ?_
  refine Vm.icmp_ge (n := 64) 84 dX8_hasLetters_61 rfl rfl (fun c9 => ?_) (fun c9 => ?_)
  · replace h := (if_pos c9).symm.trans h
    refine Vm.iload_n (n := 85) 1 dX8_hasLetters_84 rfl rfl ?_
    refine Vm.aload_n (n := 86) 0 dX8_hasLetters_85 rfl rfl ?_
    refine Vm.gM (n := 89) dX8_hasLetters_86 rfl wf_RX8_13 in_32 rfl (by decide) rfl (by decide) ?_
    refine Vm.icmp_eq (n := 92) 96 dX8_hasLetters_89 rfl rfl (fun c9 => ?_) (fun c9 => ?_)
    · replace h := (if_pos c9).symm.trans h
      refine Vm.sub (lv' := [(0, .inr (.inr (32, 0))), (1, .inl a1)]) [0, 1] rfl ?_
      replace h := Option.map_eq_some_iff.mp h
      obtain ⟨w9, h, e8⟩ := h
      subst e8
      exact lX8_hasLetters_96 a1 σ τ h hk
    · replace h := (if_neg c9).symm.trans h
      refine Vm.aload_n (n := 93) 0 dX8_hasLetters_92 rfl rfl ?_
      replace h := Option.bind_eq_some_iff.mp h
      obtain ⟨q1, h1, h⟩ := h
      refine Vm.callVv (Y := mX8_squares) (n := 96) [] dX8_hasLetters_93 rfl wv_RX8_89 omX8_squares rfl in_32 rfl rfl rfl (Nat.le_of_ble_eq_true rfl) (by decide) (kX8_squares σ τ h1) ?_
      refine Vm.sub (lv' := [(0, .inr (.inr (32, 0))), (1, .inl a1)]) [0, 1] rfl ?_
      replace h := Option.map_eq_some_iff.mp h
      obtain ⟨w9, h, e8⟩ := h
      subst e8
      exact lX8_hasLetters_96 a1 q1 τ h hk
  · replace h := (if_neg c9).symm.trans h
    refine Vm.aload_n (n := 65) 0 dX8_hasLetters_64 rfl rfl ?_
    refine Vm.getR (n := 68) dX8_hasLetters_65 rfl wf_RX8_17 in_32 rfl (by decide) rfl ?_
    refine Vm.iload_n (n := 69) 2 dX8_hasLetters_68 rfl rfl ?_
    refine Vm.iconst (n := 70) (v := (0 : Int32)) dX8_hasLetters_69 rfl (by decide) ?_
    replace h := Option.bind_eq_some_iff.mp h
    obtain ⟨σ2, h2, h⟩ := h
    refine Vm.iastm (n := 71) dX8_hasLetters_70 rfl in_42 rfl rfl (by decide) h2 ?_
    refine Vm.aload_n (n := 72) 0 dX8_hasLetters_71 rfl rfl ?_
    refine Vm.getR (n := 75) dX8_hasLetters_72 rfl wf_RX8_20 in_32 rfl (by decide) rfl ?_
    refine Vm.iload_n (n := 76) 2 dX8_hasLetters_75 rfl rfl ?_
    refine Vm.iconst (n := 77) (v := (3 : Int32)) dX8_hasLetters_76 rfl (by decide) ?_
    replace h := Option.bind_eq_some_iff.mp h
    obtain ⟨σ3, h3, h⟩ := h
    refine Vm.iastm (n := 78) dX8_hasLetters_77 rfl in_43 rfl rfl (by decide) h3 ?_
    replace h := Option.bind_eq_some_iff.mp h
    obtain ⟨x4, e4, h⟩ := h
    replace e4 := Option.some.inj e4
    refine Vm.iinc (n := 81) (v := x4) (lv' := [(3, .inl x4), (0, .inr (.inr (32, 0))), (1, .inl a1)]) 2 dX8_hasLetters_78 rfl rfl e4 (Nat.le_of_ble_eq_true rfl) rfl ?_
    refine Vm.goto 59 dX8_hasLetters_81 rfl ?_
    refine Vm.sub (lv' := [(0, .inr (.inr (32, 0))), (1, .inl a1), (3, .inl x4)]) [1, 2, 0] rfl ?_
    obtain rfl := Option.some.inj h
    exact hk
theorem lX8_hasLetters_59_L (a1 : Int32) (τ : mm) {r : Option mv} {M' : mm × mm} (z : Int32 × mm) (w9 : Bool × mm) (h : lp (fX8_hasLetters_59_L a1) z = some w9) (hk : (fun q : Bool × mm => r = some (.inl (bi q.1)) ∧ M' = (τ, q.2)) w9) : Vm mX8_hasLetters 1 59 [(0, .inr (.inr (32, 0))), (1, .inl a1), (3, .inl z.1)] [] (τ, z.2) r M' :=
  lp_link (S := Int32 × mm) (R := Bool × mm) (body := fX8_hasLetters_59_L a1) (A := fun z : Int32 × mm => Vm mX8_hasLetters 1 59 [(0, .inr (.inr (32, 0))), (1, .inl a1), (3, .inl z.1)] [] (τ, z.2) r M') (B := fun w : Bool × mm => (fun q : Bool × mm => r = some (.inl (bi q.1)) ∧ M' = (τ, q.2)) w) (fun z v hb hv => lX8_hasLetters_59 a1 z.1 z.2 τ hb hv) z w9 h hk
set_option maxRecDepth 20000 in
theorem lX8_hasLetters_37 (a1 : Int32) (a3 : Int32) (s0 : Int32) (s1 : Int32) (σ τ : mm) {r : Option mv} {M' : mm × mm} {v9 : (Int32 × Int32) ⊕ (Bool × mm)} (h : fX8_hasLetters_37 a1 a3 s0 s1 σ = some v9) (hk : (Sum.elim (fun z : Int32 × Int32 => Vm mX8_hasLetters 1 4 [(0, .inr (.inr (32, 0))), (1, .inl a1), (2, .inl z.1), (3, .inl z.2)] [] (τ, σ) r M') (fun q : Bool × mm => r = some (.inl (bi q.1)) ∧ M' = (τ, q.2))) v9) : Vm mX8_hasLetters 1 37 [(0, .inr (.inr (32, 0))), (1, .inl a1), (3, .inl a3)] [.inl s1, .inl s0] (τ, σ) r M' := by
  unfold fX8_hasLetters_37 at h
  refine Vm.imul (n := 38) dX8_hasLetters_37 rfl ?_
  replace h := Option.bind_eq_some_iff.mp h
  obtain ⟨x1, e1, h⟩ := h
  replace e1 := Option.some.inj e1
  refine Vm.top e1 ?_
  refine Vm.istore_n (n := 39) (lv' := [(2, .inl x1), (0, .inr (.inr (32, 0))), (1, .inl a1), (3, .inl a3)]) dX8_hasLetters_38 rfl (Nat.le_of_ble_eq_true rfl) rfl ?_
  replace h := Option.bind_eq_some_iff.mp h
  obtain ⟨x2, e2, h⟩ := h
  replace e2 := Option.some.inj e2
  refine Vm.iinc (n := 42) (v := x2) (lv' := [(3, .inl x2), (2, .inl x1), (0, .inr (.inr (32, 0))), (1, .inl a1)]) 3 dX8_hasLetters_39 rfl rfl e2 (Nat.le_of_ble_eq_true rfl) rfl ?_
  refine Vm.goto 4 dX8_hasLetters_42 rfl ?_
  refine Vm.sub (lv' := [(0, .inr (.inr (32, 0))), (1, .inl a1), (2, .inl x1), (3, .inl x2)]) [2, 3, 1, 0] rfl ?_
  obtain rfl := Option.some.inj h
  exact hk
set_option maxRecDepth 20000 in
theorem lX8_hasLetters_4 (a1 : Int32) (a2 : Int32) (a3 : Int32) (σ τ : mm) {r : Option mv} {M' : mm × mm} {v9 : (Int32 × Int32) ⊕ (Bool × mm)} (h : fX8_hasLetters_4 a1 a2 a3 σ = some v9) (hk : (Sum.elim (fun z : Int32 × Int32 => Vm mX8_hasLetters 1 4 [(0, .inr (.inr (32, 0))), (1, .inl a1), (2, .inl z.1), (3, .inl z.2)] [] (τ, σ) r M') (fun q : Bool × mm => r = some (.inl (bi q.1)) ∧ M' = (τ, q.2))) v9) : Vm mX8_hasLetters 1 4 [(0, .inr (.inr (32, 0))), (1, .inl a1), (2, .inl a2), (3, .inl a3)] [] (τ, σ) r M' := by
  unfold fX8_hasLetters_4 at h
  refine Vm.iload_n (n := 5) 3 dX8_hasLetters_4 rfl rfl ?_
  refine Vm.iload_n (n := 6) 1 dX8_hasLetters_5 rfl rfl ?_
  refine Vm.icmp_ge (n := 9) 45 dX8_hasLetters_6 rfl rfl (fun c9 => ?_) (fun c9 => ?_)
  · replace h := (if_pos c9).symm.trans h
    refine Vm.iload_n (n := 46) 2 dX8_hasLetters_45 rfl rfl ?_
    refine Vm.sipush (n := 49) (v := (4096 : Int32)) dX8_hasLetters_46 rfl (by decide) ?_
    refine Vm.icmp_le (n := 52) 54 dX8_hasLetters_49 rfl rfl (fun c9 => ?_) (fun c9 => ?_)
    · replace h := (if_pos c9).symm.trans h
      refine Vm.aload_n (n := 55) 0 dX8_hasLetters_54 rfl rfl ?_
      refine Vm.gM (n := 58) dX8_hasLetters_55 rfl wf_RX8_13 in_32 rfl (by decide) rfl (by decide) ?_
      replace h := Option.bind_eq_some_iff.mp h
      obtain ⟨x1, e1, h⟩ := h
      replace e1 := Option.some.inj e1
      refine Vm.top e1 ?_
      refine Vm.istore_n (n := 59) (lv' := [(3, .inl x1), (0, .inr (.inr (32, 0))), (1, .inl a1), (2, .inl a2)]) dX8_hasLetters_58 rfl (Nat.le_of_ble_eq_true rfl) rfl ?_
      refine Vm.sub (lv' := [(0, .inr (.inr (32, 0))), (1, .inl a1), (3, .inl x1)]) [1, 2, 0] rfl ?_
      replace h := Option.map_eq_some_iff.mp h
      obtain ⟨w9, h, e8⟩ := h
      subst e8
      exact lX8_hasLetters_59_L a1 τ (x1, σ) _ h hk
    · replace h := (if_neg c9).symm.trans h
      refine Vm.iconst (n := 53) (v := (0 : Int32)) dX8_hasLetters_52 rfl (by decide) ?_
      obtain rfl := Option.some.inj h
      exact Vm.zret (b := false) dX8_hasLetters_53 rfl rfl hk.1 hk.2.symm
  · replace h := (if_neg c9).symm.trans h
    refine Vm.iload_n (n := 10) 2 dX8_hasLetters_9 rfl rfl ?_
    refine Vm.iload_n (n := 11) 3 dX8_hasLetters_10 rfl rfl ?_
    refine Vm.aload_n (n := 12) 0 dX8_hasLetters_11 rfl rfl ?_
    refine Vm.gM (n := 15) dX8_hasLetters_12 rfl wf_RX8_13 in_32 rfl (by decide) rfl (by decide) ?_
    refine Vm.icmp_ge (n := 18) 36 dX8_hasLetters_15 rfl rfl (fun c9 => ?_) (fun c9 => ?_)
    · replace h := (if_pos c9).symm.trans h
      refine Vm.iconst (n := 37) (v := (4 : Int32)) dX8_hasLetters_36 rfl (by decide) ?_
      refine Vm.sub (lv' := [(0, .inr (.inr (32, 0))), (1, .inl a1), (3, .inl a3)]) [0, 1, 3] rfl ?_
      exact lX8_hasLetters_37 a1 a3 a2 (4 : Int32) σ τ h hk
    · replace h := (if_neg c9).symm.trans h
      refine Vm.aload_n (n := 19) 0 dX8_hasLetters_18 rfl rfl ?_
      refine Vm.getR (n := 22) dX8_hasLetters_19 rfl wf_RX8_20 in_32 rfl (by decide) rfl ?_
      refine Vm.iload_n (n := 23) 3 dX8_hasLetters_22 rfl rfl ?_
      replace h := Option.bind_eq_some_iff.mp h
      obtain ⟨x2, h2, h⟩ := h
      refine Vm.ialdm (n := 24) dX8_hasLetters_23 rfl in_43 rfl rfl (by decide) h2 ?_
      refine Vm.aload_n (n := 25) 0 dX8_hasLetters_24 rfl rfl ?_
      refine Vm.getR (n := 28) dX8_hasLetters_25 rfl wf_RX8_17 in_32 rfl (by decide) rfl ?_
      refine Vm.iload_n (n := 29) 3 dX8_hasLetters_28 rfl rfl ?_
      replace h := Option.bind_eq_some_iff.mp h
      obtain ⟨x3, h3, h⟩ := h
      refine Vm.ialdm (n := 30) dX8_hasLetters_29 rfl in_42 rfl rfl (by decide) h3 ?_
      refine Vm.isub (n := 31) dX8_hasLetters_30 rfl ?_
      refine Vm.iconst (n := 32) (v := (1 : Int32)) dX8_hasLetters_31 rfl (by decide) ?_
      refine Vm.iadd (n := 33) dX8_hasLetters_32 rfl ?_
      refine Vm.goto 37 dX8_hasLetters_33 rfl ?_
      refine Vm.sub (lv' := [(0, .inr (.inr (32, 0))), (1, .inl a1), (3, .inl a3)]) [0, 1, 3] rfl ?_
      exact lX8_hasLetters_37 a1 a3 a2 ((x2 - x3) + (1 : Int32)) σ τ h hk
theorem lX8_hasLetters_4_L (a1 : Int32) (σ τ : mm) {r : Option mv} {M' : mm × mm} (z : Int32 × Int32) (w9 : Bool × mm) (h : lp (fX8_hasLetters_4_L a1 σ) z = some w9) (hk : (fun q : Bool × mm => r = some (.inl (bi q.1)) ∧ M' = (τ, q.2)) w9) : Vm mX8_hasLetters 1 4 [(0, .inr (.inr (32, 0))), (1, .inl a1), (2, .inl z.1), (3, .inl z.2)] [] (τ, σ) r M' :=
  lp_link (S := Int32 × Int32) (R := Bool × mm) (body := fX8_hasLetters_4_L a1 σ) (A := fun z : Int32 × Int32 => Vm mX8_hasLetters 1 4 [(0, .inr (.inr (32, 0))), (1, .inl a1), (2, .inl z.1), (3, .inl z.2)] [] (τ, σ) r M') (B := fun w : Bool × mm => (fun q : Bool × mm => r = some (.inl (bi q.1)) ∧ M' = (τ, q.2)) w) (fun z v hb hv => lX8_hasLetters_4 a1 z.1 z.2 σ τ hb hv) z w9 h hk
set_option maxRecDepth 20000 in
theorem lX8_hasLetters_0 (a1 : Int32) (σ τ : mm) {r : Option mv} {M' : mm × mm} {v9 : Bool × mm} (h : fX8_hasLetters_0 a1 σ = some v9) (hk : (fun q : Bool × mm => r = some (.inl (bi q.1)) ∧ M' = (τ, q.2)) v9) : Vm mX8_hasLetters 1 0 [(0, .inr (.inr (32, 0))), (1, .inl a1)] [] (τ, σ) r M' := by
  unfold fX8_hasLetters_0 at h
  refine Vm.iconst (n := 1) (v := (1 : Int32)) dX8_hasLetters_0 rfl (by decide) ?_
  refine Vm.istore_n (n := 2) (lv' := [(2, .inl (1 : Int32)), (0, .inr (.inr (32, 0))), (1, .inl a1)]) dX8_hasLetters_1 rfl (Nat.le_of_ble_eq_true rfl) rfl ?_
  refine Vm.iconst (n := 3) (v := (0 : Int32)) dX8_hasLetters_2 rfl (by decide) ?_
  refine Vm.istore_n (n := 4) (lv' := [(3, .inl (0 : Int32)), (2, .inl (1 : Int32)), (0, .inr (.inr (32, 0))), (1, .inl a1)]) dX8_hasLetters_3 rfl (Nat.le_of_ble_eq_true rfl) rfl ?_
  refine Vm.sub (lv' := [(0, .inr (.inr (32, 0))), (1, .inl a1), (2, .inl (1 : Int32)), (3, .inl (0 : Int32))]) [2, 3, 1, 0] rfl ?_
  exact lX8_hasLetters_4_L a1 σ τ ((1 : Int32), (0 : Int32)) _ h hk
theorem kX8_hasLetters (a1 : Int32) (σ τ : mm) {q : Bool × mm} (h : fX8_hasLetters a1 σ = some q) : Cx mX8_hasLetters 1 [.inr (.inr (32, 0)), .inl a1] (τ, σ) (some (.inl (bi q.1))) (τ, q.2) :=
  Cx.of (lv := [(0, .inr (.inr (32, 0))), (1, .inl a1)]) (by decide) (fun ad => Nat.le_of_ble_eq_true rfl) (fun ad => rfl) (lX8_hasLetters_0 a1 σ τ h ⟨rfl, rfl⟩)
-- ThinBodiesModel letters (I)I
noncomputable def fX8_letters_0 (a1 : Int32) (σ : mm) : Option (Int32 × mm) :=
  if (bi (fX8_in a1.toInt64 (1 : Int64) (4 : Int64))) = (0 : Int32) then
  Option.bind (fX8_finds (-1000000001 : Int32) σ) fun q4 =>
  some ((q4.1, q4.2))
  else
  Option.bind (some (σ.1 32 0 1)) fun x1 =>
  Option.bind (fX8_hasLetters a1 σ) fun q2 =>
  if (bi q2.1) = (0 : Int32) then
  Option.bind (fX8_finds (-1000000002 : Int32) q2.2) fun q3 =>
  some ((q3.1, q3.2))
  else
  some ((x1, q2.2))
noncomputable def fX8_letters (a1 : Int32) (σ : mm) : Option (Int32 × mm) := fX8_letters_0 a1 σ
set_option maxRecDepth 20000 in
theorem lX8_letters_0 (a1 : Int32) (σ τ : mm) {r : Option mv} {M' : mm × mm} {v9 : Int32 × mm} (h : fX8_letters_0 a1 σ = some v9) (hk : (fun q : Int32 × mm => r = some (.inl q.1) ∧ M' = (τ, q.2)) v9) : Vm mX8_letters 2 0 [(0, .inr (.inr (32, 0))), (1, .inl a1)] [] (τ, σ) r M' := by
  unfold fX8_letters_0 at h
  refine Vm.iload_n (n := 1) 1 dX8_letters_0 rfl rfl ?_
  refine Vm.i2l (n := 2) dX8_letters_1 rfl ?_
  refine Vm.lconst (n := 3) (v := (1 : Int64)) dX8_letters_2 rfl (by decide) ?_
  refine Vm.ldc2 (n := 6) dX8_letters_3 rfl wl_RX8_100 ?_
  refine Vm.callS (Y := mX8_in) (n := 9) [.inr (.inl a1.toInt64), .inr (.inl (1 : Int64)), .inr (.inl (4 : Int64))] dX8_letters_6 rfl wv_RX8_93 omX8_in rfl rfl (Nat.le_of_ble_eq_true rfl) (by decide) (kX8_in a1.toInt64 (1 : Int64) (4 : Int64) rfl) ?_
  refine Vm.if_ne (n := 12) 19 dX8_letters_9 rfl rfl (fun c9 => ?_) (fun c9 => ?_)
  · replace h := (if_neg c9).symm.trans h
    refine Vm.aload_n (n := 20) 0 dX8_letters_19 rfl rfl ?_
    refine Vm.gM (n := 23) dX8_letters_20 rfl wf_RX8_13 in_32 rfl (by decide) rfl (by decide) ?_
    replace h := Option.bind_eq_some_iff.mp h
    obtain ⟨x1, e1, h⟩ := h
    replace e1 := Option.some.inj e1
    refine Vm.top e1 ?_
    refine Vm.istore_n (n := 24) (lv' := [(2, .inl x1), (0, .inr (.inr (32, 0))), (1, .inl a1)]) dX8_letters_23 rfl (Nat.le_of_ble_eq_true rfl) rfl ?_
    refine Vm.aload_n (n := 25) 1 dX8_letters_24 rfl rfl ?_
    refine Vm.iload_n (n := 26) 2 dX8_letters_25 rfl rfl ?_
    replace h := Option.bind_eq_some_iff.mp h
    obtain ⟨q2, h2, h⟩ := h
    refine Vm.callV (Y := mX8_hasLetters) (n := 29) [.inl a1] dX8_letters_26 rfl wv_RX8_106 omX8_hasLetters rfl in_32 rfl rfl rfl (Nat.le_of_ble_eq_true rfl) (by decide) (kX8_hasLetters a1 σ τ h2) ?_
    refine Vm.if_eq (n := 32) 36 dX8_letters_29 rfl rfl (fun c9 => ?_) (fun c9 => ?_)
    · replace h := (if_pos c9).symm.trans h
      refine Vm.aload_n (n := 37) 1 dX8_letters_36 rfl rfl ?_
      refine Vm.ldc (n := 39) dX8_letters_37 rfl wc_RX8_110 ?_
      replace h := Option.bind_eq_some_iff.mp h
      obtain ⟨q3, h3, h⟩ := h
      refine Vm.callV (Y := mX8_finds) (n := 42) [.inl (-1000000002 : Int32)] dX8_letters_39 rfl wv_RX8_102 omX8_finds rfl in_32 rfl rfl rfl (Nat.le_of_ble_eq_true rfl) (by decide) (kX8_finds (-1000000002 : Int32) q2.2 τ h3) ?_
      obtain rfl := Option.some.inj h
      exact Vm.iret dX8_letters_42 rfl hk.1 hk.2.symm
    · replace h := (if_neg c9).symm.trans h
      refine Vm.iload_n (n := 33) 0 dX8_letters_32 rfl rfl ?_
      refine Vm.goto 42 dX8_letters_33 rfl ?_
      obtain rfl := Option.some.inj h
      exact Vm.iret dX8_letters_42 rfl hk.1 hk.2.symm
  · replace h := (if_pos c9).symm.trans h
    refine Vm.aload_n (n := 13) 0 dX8_letters_12 rfl rfl ?_
    refine Vm.ldc (n := 15) dX8_letters_13 rfl wc_RX8_92 ?_
    replace h := Option.bind_eq_some_iff.mp h
    obtain ⟨q4, h4, h⟩ := h
    refine Vm.callV (Y := mX8_finds) (n := 18) [.inl (-1000000001 : Int32)] dX8_letters_15 rfl wv_RX8_102 omX8_finds rfl in_32 rfl rfl rfl (Nat.le_of_ble_eq_true rfl) (by decide) (kX8_finds (-1000000001 : Int32) σ τ h4) ?_
    obtain rfl := Option.some.inj h
    exact Vm.iret dX8_letters_18 rfl hk.1 hk.2.symm
theorem kX8_letters (a1 : Int32) (σ τ : mm) {q : Int32 × mm} (h : fX8_letters a1 σ = some q) : Cx mX8_letters 2 [.inr (.inr (32, 0)), .inl a1] (τ, σ) (some (.inl q.1)) (τ, q.2) :=
  Cx.of (lv := [(0, .inr (.inr (32, 0))), (1, .inl a1)]) (by decide) (fun ad => Nat.le_of_ble_eq_true rfl) (fun ad => rfl) (lX8_letters_0 a1 σ τ h ⟨rfl, rfl⟩)
-- ThinBodiesModel isLetter (I)Z
def fX8_isLetter_0 (a1 : Int32) (σ : mm) : Bool :=
  (fX8_in a1.toInt64 (0 : Int64) (((σ.1 32 0 1) - (1 : Int32)).toInt64))
def fX8_isLetter (a1 : Int32) (σ : mm) : Bool := fX8_isLetter_0 a1 σ
set_option maxRecDepth 20000 in
theorem lX8_isLetter_0 (a1 : Int32) (σ σ0 τ : mm) (hσ : σ = σ0) {r : Option mv} {M' : mm × mm} {v9 : Bool} (h : fX8_isLetter_0 a1 σ = v9) (hk : (fun q : Bool => r = some (.inl (bi q)) ∧ M' = (τ, σ0)) v9) : Vm mX8_isLetter 1 0 [(0, .inr (.inr (32, 0))), (1, .inl a1)] [] (τ, σ) r M' := by
  unfold fX8_isLetter_0 at h
  refine Vm.iload_n (n := 1) 1 dX8_isLetter_0 rfl rfl ?_
  refine Vm.i2l (n := 2) dX8_isLetter_1 rfl ?_
  refine Vm.lconst (n := 3) (v := (0 : Int64)) dX8_isLetter_2 rfl (by decide) ?_
  refine Vm.aload_n (n := 4) 0 dX8_isLetter_3 rfl rfl ?_
  refine Vm.gM (n := 7) dX8_isLetter_4 rfl wf_RX8_13 in_32 rfl (by decide) rfl (by decide) ?_
  refine Vm.iconst (n := 8) (v := (1 : Int32)) dX8_isLetter_7 rfl (by decide) ?_
  refine Vm.isub (n := 9) dX8_isLetter_8 rfl ?_
  refine Vm.i2l (n := 10) dX8_isLetter_9 rfl ?_
  refine Vm.callS (Y := mX8_in) (n := 13) [.inr (.inl a1.toInt64), .inr (.inl (0 : Int64)), .inr (.inl (((σ.1 32 0 1) - (1 : Int32)).toInt64))] dX8_isLetter_10 rfl wv_RX8_93 omX8_in rfl rfl (Nat.le_of_ble_eq_true rfl) (by decide) (kX8_in a1.toInt64 (0 : Int64) (((σ.1 32 0 1) - (1 : Int32)).toInt64) rfl) ?_
  subst h
  exact Vm.zret (b := (fX8_in a1.toInt64 (0 : Int64) (((σ.1 32 0 1) - (1 : Int32)).toInt64))) dX8_isLetter_13 rfl rfl hk.1 (by rw [hσ]; exact hk.2.symm)
theorem kX8_isLetter (a1 : Int32) (σ τ : mm) {q : Bool} (h : fX8_isLetter a1 σ = q) : Cx mX8_isLetter 1 [.inr (.inr (32, 0)), .inl a1] (τ, σ) (some (.inl (bi q))) (τ, σ) :=
  Cx.of (lv := [(0, .inr (.inr (32, 0))), (1, .inl a1)]) (by decide) (fun ad => Nat.le_of_ble_eq_true rfl) (fun ad => rfl) (lX8_isLetter_0 a1 σ σ τ rfl h ⟨rfl, rfl⟩)
-- ThinBodiesModel points ()I
noncomputable def fX8_points_4 (a1 : Int32) (a2 : Int32) (σ : mm) : Option ((Int32 × Int32) ⊕ (Int32)) :=
  if (σ.1 32 0 1) ≤ a2 then
  some (.inr (a1))
  else
  Option.bind (rdI σ 43 0 4 a2) fun x1 =>
  Option.bind (rdI σ 42 0 4 a2) fun x2 =>
  Option.bind (some (a1 * ((x1 - x2) + (1 : Int32)))) fun x3 =>
  Option.bind (some (a2 + (1 : Int32))) fun x4 =>
  some (.inl (x3, x4))
noncomputable def fX8_points_4_L (σ : mm) : Int32 × Int32 → Option ((Int32 × Int32) ⊕ (Int32)) := fun z => fX8_points_4 z.1 z.2 σ
noncomputable def fX8_points_0 (σ : mm) : Option (Int32) :=
  lp (fX8_points_4_L σ) ((1 : Int32), (0 : Int32))
noncomputable def fX8_points (σ : mm) : Option (Int32) := fX8_points_0 σ
set_option maxRecDepth 20000 in
theorem lX8_points_4 (a1 : Int32) (a2 : Int32) (σ σ0 τ : mm) (hσ : σ = σ0) {r : Option mv} {M' : mm × mm} {v9 : (Int32 × Int32) ⊕ (Int32)} (h : fX8_points_4 a1 a2 σ = some v9) (hk : (Sum.elim (fun z : Int32 × Int32 => Vm mX8_points 0 4 [(0, .inr (.inr (32, 0))), (1, .inl z.1), (2, .inl z.2)] [] (τ, σ) r M') (fun q : Int32 => r = some (.inl q) ∧ M' = (τ, σ0))) v9) : Vm mX8_points 0 4 [(0, .inr (.inr (32, 0))), (1, .inl a1), (2, .inl a2)] [] (τ, σ) r M' := by
  unfold fX8_points_4 at h
  refine Vm.iload_n (n := 5) 2 dX8_points_4 rfl rfl ?_
  refine Vm.aload_n (n := 6) 0 dX8_points_5 rfl rfl ?_
  refine Vm.gM (n := 9) dX8_points_6 rfl wf_RX8_13 in_32 rfl (by decide) rfl (by decide) ?_
  refine Vm.icmp_ge (n := 12) 36 dX8_points_9 rfl rfl (fun c9 => ?_) (fun c9 => ?_)
  · replace h := (if_pos c9).symm.trans h
    refine Vm.iload_n (n := 37) 1 dX8_points_36 rfl rfl ?_
    obtain rfl := Option.some.inj h
    exact Vm.iret dX8_points_37 rfl hk.1 (by rw [hσ]; exact hk.2.symm)
  · replace h := (if_neg c9).symm.trans h
    refine Vm.iload_n (n := 13) 1 dX8_points_12 rfl rfl ?_
    refine Vm.aload_n (n := 14) 0 dX8_points_13 rfl rfl ?_
    refine Vm.getR (n := 17) dX8_points_14 rfl wf_RX8_20 in_32 rfl (by decide) rfl ?_
    refine Vm.iload_n (n := 18) 2 dX8_points_17 rfl rfl ?_
    replace h := Option.bind_eq_some_iff.mp h
    obtain ⟨x1, h1, h⟩ := h
    refine Vm.ialdm (n := 19) dX8_points_18 rfl in_43 rfl rfl (by decide) h1 ?_
    refine Vm.aload_n (n := 20) 0 dX8_points_19 rfl rfl ?_
    refine Vm.getR (n := 23) dX8_points_20 rfl wf_RX8_17 in_32 rfl (by decide) rfl ?_
    refine Vm.iload_n (n := 24) 2 dX8_points_23 rfl rfl ?_
    replace h := Option.bind_eq_some_iff.mp h
    obtain ⟨x2, h2, h⟩ := h
    refine Vm.ialdm (n := 25) dX8_points_24 rfl in_42 rfl rfl (by decide) h2 ?_
    refine Vm.isub (n := 26) dX8_points_25 rfl ?_
    refine Vm.iconst (n := 27) (v := (1 : Int32)) dX8_points_26 rfl (by decide) ?_
    refine Vm.iadd (n := 28) dX8_points_27 rfl ?_
    refine Vm.imul (n := 29) dX8_points_28 rfl ?_
    replace h := Option.bind_eq_some_iff.mp h
    obtain ⟨x3, e3, h⟩ := h
    replace e3 := Option.some.inj e3
    refine Vm.top e3 ?_
    refine Vm.istore_n (n := 30) (lv' := [(1, .inl x3), (0, .inr (.inr (32, 0))), (2, .inl a2)]) dX8_points_29 rfl (Nat.le_of_ble_eq_true rfl) rfl ?_
    replace h := Option.bind_eq_some_iff.mp h
    obtain ⟨x4, e4, h⟩ := h
    replace e4 := Option.some.inj e4
    refine Vm.iinc (n := 33) (v := x4) (lv' := [(2, .inl x4), (1, .inl x3), (0, .inr (.inr (32, 0)))]) 2 dX8_points_30 rfl rfl e4 (Nat.le_of_ble_eq_true rfl) rfl ?_
    refine Vm.goto 4 dX8_points_33 rfl ?_
    refine Vm.sub (lv' := [(0, .inr (.inr (32, 0))), (1, .inl x3), (2, .inl x4)]) [2, 1, 0] rfl ?_
    obtain rfl := Option.some.inj h
    exact hk
theorem lX8_points_4_L (σ σ0 τ : mm) (hσ : σ = σ0) {r : Option mv} {M' : mm × mm} (z : Int32 × Int32) (w9 : Int32) (h : lp (fX8_points_4_L σ) z = some w9) (hk : (fun q : Int32 => r = some (.inl q) ∧ M' = (τ, σ0)) w9) : Vm mX8_points 0 4 [(0, .inr (.inr (32, 0))), (1, .inl z.1), (2, .inl z.2)] [] (τ, σ) r M' :=
  lp_link (S := Int32 × Int32) (R := Int32) (body := fX8_points_4_L σ) (A := fun z : Int32 × Int32 => Vm mX8_points 0 4 [(0, .inr (.inr (32, 0))), (1, .inl z.1), (2, .inl z.2)] [] (τ, σ) r M') (B := fun w : Int32 => (fun q : Int32 => r = some (.inl q) ∧ M' = (τ, σ0)) w) (fun z v hb hv => lX8_points_4 z.1 z.2 σ σ0 τ hσ hb hv) z w9 h hk
set_option maxRecDepth 20000 in
theorem lX8_points_0 (σ σ0 τ : mm) (hσ : σ = σ0) {r : Option mv} {M' : mm × mm} {v9 : Int32} (h : fX8_points_0 σ = some v9) (hk : (fun q : Int32 => r = some (.inl q) ∧ M' = (τ, σ0)) v9) : Vm mX8_points 0 0 [(0, .inr (.inr (32, 0)))] [] (τ, σ) r M' := by
  unfold fX8_points_0 at h
  refine Vm.iconst (n := 1) (v := (1 : Int32)) dX8_points_0 rfl (by decide) ?_
  refine Vm.istore_n (n := 2) (lv' := [(1, .inl (1 : Int32)), (0, .inr (.inr (32, 0)))]) dX8_points_1 rfl (Nat.le_of_ble_eq_true rfl) rfl ?_
  refine Vm.iconst (n := 3) (v := (0 : Int32)) dX8_points_2 rfl (by decide) ?_
  refine Vm.istore_n (n := 4) (lv' := [(2, .inl (0 : Int32)), (1, .inl (1 : Int32)), (0, .inr (.inr (32, 0)))]) dX8_points_3 rfl (Nat.le_of_ble_eq_true rfl) rfl ?_
  refine Vm.sub (lv' := [(0, .inr (.inr (32, 0))), (1, .inl (1 : Int32)), (2, .inl (0 : Int32))]) [2, 1, 0] rfl ?_
  exact lX8_points_4_L σ σ0 τ hσ ((1 : Int32), (0 : Int32)) _ h hk
theorem kX8_points (σ τ : mm) {q : Int32} (h : fX8_points σ = some q) : Cx mX8_points 0 [.inr (.inr (32, 0))] (τ, σ) (some (.inl q)) (τ, σ) :=
  Cx.of (lv := [(0, .inr (.inr (32, 0)))]) (by decide) (fun ad => Nat.le_of_ble_eq_true rfl) (fun ad => rfl) (lX8_points_0 σ σ τ rfl h ⟨rfl, rfl⟩)
-- ThinBodiesModel hasBox (III)Z
noncomputable def fX8_hasBox_0 (a1 : Int32) (a2 : Int32) (a3 : Int32) (σ : mm) : Option (Bool × mm) :=
  Option.bind (fX8_points σ) fun q1 =>
  Option.bind (rdI σ 43 0 4 a1) fun x2 =>
  Option.bind (rdI σ 42 0 4 a1) fun x3 =>
  Option.bind (dvI q1 ((x2 - x3) + (1 : Int32))) fun x4 =>
  if (x4 * ((a3 - a2) + (1 : Int32))) ≤ (4096 : Int32) then
  Option.bind (wrI σ 42 0 4 a1 a2) fun σ5 =>
  Option.bind (wrI σ5 43 0 4 a1 a3) fun σ6 =>
  some ((true, σ6))
  else
  some ((false, σ))
noncomputable def fX8_hasBox (a1 : Int32) (a2 : Int32) (a3 : Int32) (σ : mm) : Option (Bool × mm) := fX8_hasBox_0 a1 a2 a3 σ
set_option maxRecDepth 20000 in
theorem lX8_hasBox_0 (a1 : Int32) (a2 : Int32) (a3 : Int32) (σ τ : mm) {r : Option mv} {M' : mm × mm} {v9 : Bool × mm} (h : fX8_hasBox_0 a1 a2 a3 σ = some v9) (hk : (fun q : Bool × mm => r = some (.inl (bi q.1)) ∧ M' = (τ, q.2)) v9) : Vm mX8_hasBox 1 0 [(0, .inr (.inr (32, 0))), (1, .inl a1), (2, .inl a2), (3, .inl a3)] [] (τ, σ) r M' := by
  unfold fX8_hasBox_0 at h
  refine Vm.aload_n (n := 1) 0 dX8_hasBox_0 rfl rfl ?_
  replace h := Option.bind_eq_some_iff.mp h
  obtain ⟨q1, h1, h⟩ := h
  refine Vm.callV (Y := mX8_points) (n := 4) [] dX8_hasBox_1 rfl wv_RX8_111 omX8_points rfl in_32 rfl rfl rfl (Nat.le_of_ble_eq_true rfl) (by decide) (kX8_points σ τ h1) ?_
  refine Vm.aload_n (n := 5) 0 dX8_hasBox_4 rfl rfl ?_
  refine Vm.getR (n := 8) dX8_hasBox_5 rfl wf_RX8_20 in_32 rfl (by decide) rfl ?_
  refine Vm.iload_n (n := 9) 1 dX8_hasBox_8 rfl rfl ?_
  replace h := Option.bind_eq_some_iff.mp h
  obtain ⟨x2, h2, h⟩ := h
  refine Vm.ialdm (n := 10) dX8_hasBox_9 rfl in_43 rfl rfl (by decide) h2 ?_
  refine Vm.aload_n (n := 11) 0 dX8_hasBox_10 rfl rfl ?_
  refine Vm.getR (n := 14) dX8_hasBox_11 rfl wf_RX8_17 in_32 rfl (by decide) rfl ?_
  refine Vm.iload_n (n := 15) 1 dX8_hasBox_14 rfl rfl ?_
  replace h := Option.bind_eq_some_iff.mp h
  obtain ⟨x3, h3, h⟩ := h
  refine Vm.ialdm (n := 16) dX8_hasBox_15 rfl in_42 rfl rfl (by decide) h3 ?_
  refine Vm.isub (n := 17) dX8_hasBox_16 rfl ?_
  refine Vm.iconst (n := 18) (v := (1 : Int32)) dX8_hasBox_17 rfl (by decide) ?_
  refine Vm.iadd (n := 19) dX8_hasBox_18 rfl ?_
  replace h := Option.bind_eq_some_iff.mp h
  obtain ⟨x4, h4, h⟩ := h
  refine Vm.idiv (n := 20) dX8_hasBox_19 rfl h4 ?_
  refine Vm.iload_n (n := 21) 3 dX8_hasBox_20 rfl rfl ?_
  refine Vm.iload_n (n := 22) 2 dX8_hasBox_21 rfl rfl ?_
  refine Vm.isub (n := 23) dX8_hasBox_22 rfl ?_
  refine Vm.iconst (n := 24) (v := (1 : Int32)) dX8_hasBox_23 rfl (by decide) ?_
  refine Vm.iadd (n := 25) dX8_hasBox_24 rfl ?_
  refine Vm.imul (n := 26) dX8_hasBox_25 rfl ?_
  refine Vm.sipush (n := 29) (v := (4096 : Int32)) dX8_hasBox_26 rfl (by decide) ?_
  refine Vm.icmp_le (n := 32) 34 dX8_hasBox_29 rfl rfl (fun c9 => ?_) (fun c9 => ?_)
  · replace h := (if_pos c9).symm.trans h
    refine Vm.aload_n (n := 35) 0 dX8_hasBox_34 rfl rfl ?_
    refine Vm.getR (n := 38) dX8_hasBox_35 rfl wf_RX8_17 in_32 rfl (by decide) rfl ?_
    refine Vm.iload_n (n := 39) 1 dX8_hasBox_38 rfl rfl ?_
    refine Vm.iload_n (n := 40) 2 dX8_hasBox_39 rfl rfl ?_
    replace h := Option.bind_eq_some_iff.mp h
    obtain ⟨σ5, h5, h⟩ := h
    refine Vm.iastm (n := 41) dX8_hasBox_40 rfl in_42 rfl rfl (by decide) h5 ?_
    refine Vm.aload_n (n := 42) 0 dX8_hasBox_41 rfl rfl ?_
    refine Vm.getR (n := 45) dX8_hasBox_42 rfl wf_RX8_20 in_32 rfl (by decide) rfl ?_
    refine Vm.iload_n (n := 46) 1 dX8_hasBox_45 rfl rfl ?_
    refine Vm.iload_n (n := 47) 3 dX8_hasBox_46 rfl rfl ?_
    replace h := Option.bind_eq_some_iff.mp h
    obtain ⟨σ6, h6, h⟩ := h
    refine Vm.iastm (n := 48) dX8_hasBox_47 rfl in_43 rfl rfl (by decide) h6 ?_
    refine Vm.iconst (n := 49) (v := (1 : Int32)) dX8_hasBox_48 rfl (by decide) ?_
    obtain rfl := Option.some.inj h
    exact Vm.zret (b := true) dX8_hasBox_49 rfl rfl hk.1 hk.2.symm
  · replace h := (if_neg c9).symm.trans h
    refine Vm.iconst (n := 33) (v := (0 : Int32)) dX8_hasBox_32 rfl (by decide) ?_
    obtain rfl := Option.some.inj h
    exact Vm.zret (b := false) dX8_hasBox_33 rfl rfl hk.1 hk.2.symm
theorem kX8_hasBox (a1 : Int32) (a2 : Int32) (a3 : Int32) (σ τ : mm) {q : Bool × mm} (h : fX8_hasBox a1 a2 a3 σ = some q) : Cx mX8_hasBox 1 [.inr (.inr (32, 0)), .inl a1, .inl a2, .inl a3] (τ, σ) (some (.inl (bi q.1))) (τ, q.2) :=
  Cx.of (lv := [(0, .inr (.inr (32, 0))), (1, .inl a1), (2, .inl a2), (3, .inl a3)]) (by decide) (fun ad => Nat.le_of_ble_eq_true rfl) (fun ad => rfl) (lX8_hasBox_0 a1 a2 a3 σ τ h ⟨rfl, rfl⟩)
-- ThinBodiesModel box (III)I
noncomputable def fX8_box_35 (σ : mm) : Option (Int32 × mm) :=
  Option.bind (fX8_finds (-1000000001 : Int32) σ) fun q1 =>
  some ((q1.1, q1.2))
noncomputable def fX8_box_0 (a1 : Int32) (a2 : Int32) (a3 : Int32) (σ : mm) : Option (Int32 × mm) :=
  if (bi (fX8_isLetter a1 σ)) = (0 : Int32) then
  fX8_box_35 σ
  else
  if (bi (fX8_in a2.toInt64 (-9 : Int64) (9 : Int64))) = (0 : Int32) then
  fX8_box_35 σ
  else
  if (bi (fX8_in a3.toInt64 a2.toInt64 (9 : Int64))) = (0 : Int32) then
  fX8_box_35 σ
  else
  Option.bind (fX8_hasBox a1 a2 a3 σ) fun q1 =>
  if (bi q1.1) = (0 : Int32) then
  Option.bind (fX8_finds (-1000000002 : Int32) q1.2) fun q2 =>
  some ((q2.1, q2.2))
  else
  Option.bind (fX8_points q1.2) fun q3 =>
  some ((q3, q1.2))
noncomputable def fX8_box (a1 : Int32) (a2 : Int32) (a3 : Int32) (σ : mm) : Option (Int32 × mm) := fX8_box_0 a1 a2 a3 σ
set_option maxRecDepth 20000 in
theorem lX8_box_35 (σ τ : mm) {r : Option mv} {M' : mm × mm} {v9 : Int32 × mm} (h : fX8_box_35 σ = some v9) (hk : (fun q : Int32 × mm => r = some (.inl q.1) ∧ M' = (τ, q.2)) v9) : Vm mX8_box 2 35 [(0, .inr (.inr (32, 0)))] [] (τ, σ) r M' := by
  unfold fX8_box_35 at h
  refine Vm.aload_n (n := 36) 0 dX8_box_35 rfl rfl ?_
  refine Vm.ldc (n := 38) dX8_box_36 rfl wc_RX8_92 ?_
  replace h := Option.bind_eq_some_iff.mp h
  obtain ⟨q1, h1, h⟩ := h
  refine Vm.callV (Y := mX8_finds) (n := 41) [.inl (-1000000001 : Int32)] dX8_box_38 rfl wv_RX8_102 omX8_finds rfl in_32 rfl rfl rfl (Nat.le_of_ble_eq_true rfl) (by decide) (kX8_finds (-1000000001 : Int32) σ τ h1) ?_
  obtain rfl := Option.some.inj h
  exact Vm.iret dX8_box_41 rfl hk.1 hk.2.symm
set_option maxRecDepth 20000 in
theorem lX8_box_0 (a1 : Int32) (a2 : Int32) (a3 : Int32) (σ τ : mm) {r : Option mv} {M' : mm × mm} {v9 : Int32 × mm} (h : fX8_box_0 a1 a2 a3 σ = some v9) (hk : (fun q : Int32 × mm => r = some (.inl q.1) ∧ M' = (τ, q.2)) v9) : Vm mX8_box 2 0 [(0, .inr (.inr (32, 0))), (1, .inl a1), (2, .inl a2), (3, .inl a3)] [] (τ, σ) r M' := by
  unfold fX8_box_0 at h
  refine Vm.aload_n (n := 1) 0 dX8_box_0 rfl rfl ?_
  refine Vm.iload_n (n := 2) 1 dX8_box_1 rfl rfl ?_
  refine Vm.callV (Y := mX8_isLetter) (n := 5) [.inl a1] dX8_box_2 rfl wv_RX8_115 omX8_isLetter rfl in_32 rfl rfl rfl (Nat.le_of_ble_eq_true rfl) (by decide) (kX8_isLetter a1 σ τ rfl) ?_
  refine Vm.if_eq (n := 8) 35 dX8_box_5 rfl rfl (fun c9 => ?_) (fun c9 => ?_)
  · replace h := (if_pos c9).symm.trans h
    refine Vm.sub (lv' := [(0, .inr (.inr (32, 0)))]) [0] rfl ?_
    exact lX8_box_35 σ τ h hk
  · replace h := (if_neg c9).symm.trans h
    refine Vm.iload_n (n := 9) 2 dX8_box_8 rfl rfl ?_
    refine Vm.i2l (n := 10) dX8_box_9 rfl ?_
    refine Vm.ldc2 (n := 13) dX8_box_10 rfl wl_RX8_118 ?_
    refine Vm.ldc2 (n := 16) dX8_box_13 rfl wl_RX8_120 ?_
    refine Vm.callS (Y := mX8_in) (n := 19) [.inr (.inl a2.toInt64), .inr (.inl (-9 : Int64)), .inr (.inl (9 : Int64))] dX8_box_16 rfl wv_RX8_93 omX8_in rfl rfl (Nat.le_of_ble_eq_true rfl) (by decide) (kX8_in a2.toInt64 (-9 : Int64) (9 : Int64) rfl) ?_
    refine Vm.if_eq (n := 22) 35 dX8_box_19 rfl rfl (fun c9 => ?_) (fun c9 => ?_)
    · replace h := (if_pos c9).symm.trans h
      refine Vm.sub (lv' := [(0, .inr (.inr (32, 0)))]) [0] rfl ?_
      exact lX8_box_35 σ τ h hk
    · replace h := (if_neg c9).symm.trans h
      refine Vm.iload_n (n := 23) 3 dX8_box_22 rfl rfl ?_
      refine Vm.i2l (n := 24) dX8_box_23 rfl ?_
      refine Vm.iload_n (n := 25) 2 dX8_box_24 rfl rfl ?_
      refine Vm.i2l (n := 26) dX8_box_25 rfl ?_
      refine Vm.ldc2 (n := 29) dX8_box_26 rfl wl_RX8_120 ?_
      refine Vm.callS (Y := mX8_in) (n := 32) [.inr (.inl a3.toInt64), .inr (.inl a2.toInt64), .inr (.inl (9 : Int64))] dX8_box_29 rfl wv_RX8_93 omX8_in rfl rfl (Nat.le_of_ble_eq_true rfl) (by decide) (kX8_in a3.toInt64 a2.toInt64 (9 : Int64) rfl) ?_
      refine Vm.if_ne (n := 35) 42 dX8_box_32 rfl rfl (fun c9 => ?_) (fun c9 => ?_)
      · replace h := (if_neg c9).symm.trans h
        refine Vm.aload_n (n := 43) 0 dX8_box_42 rfl rfl ?_
        refine Vm.iload_n (n := 44) 1 dX8_box_43 rfl rfl ?_
        refine Vm.iload_n (n := 45) 2 dX8_box_44 rfl rfl ?_
        refine Vm.iload_n (n := 46) 3 dX8_box_45 rfl rfl ?_
        replace h := Option.bind_eq_some_iff.mp h
        obtain ⟨q1, h1, h⟩ := h
        refine Vm.callV (Y := mX8_hasBox) (n := 49) [.inl a1, .inl a2, .inl a3] dX8_box_46 rfl wv_RX8_122 omX8_hasBox rfl in_32 rfl rfl rfl (Nat.le_of_ble_eq_true rfl) (by decide) (kX8_hasBox a1 a2 a3 σ τ h1) ?_
        refine Vm.if_eq (n := 52) 59 dX8_box_49 rfl rfl (fun c9 => ?_) (fun c9 => ?_)
        · replace h := (if_pos c9).symm.trans h
          refine Vm.aload_n (n := 60) 0 dX8_box_59 rfl rfl ?_
          refine Vm.ldc (n := 62) dX8_box_60 rfl wc_RX8_110 ?_
          replace h := Option.bind_eq_some_iff.mp h
          obtain ⟨q2, h2, h⟩ := h
          refine Vm.callV (Y := mX8_finds) (n := 65) [.inl (-1000000002 : Int32)] dX8_box_62 rfl wv_RX8_102 omX8_finds rfl in_32 rfl rfl rfl (Nat.le_of_ble_eq_true rfl) (by decide) (kX8_finds (-1000000002 : Int32) q1.2 τ h2) ?_
          obtain rfl := Option.some.inj h
          exact Vm.iret dX8_box_65 rfl hk.1 hk.2.symm
        · replace h := (if_neg c9).symm.trans h
          refine Vm.aload_n (n := 53) 0 dX8_box_52 rfl rfl ?_
          replace h := Option.bind_eq_some_iff.mp h
          obtain ⟨q3, h3, h⟩ := h
          refine Vm.callV (Y := mX8_points) (n := 56) [] dX8_box_53 rfl wv_RX8_111 omX8_points rfl in_32 rfl rfl rfl (Nat.le_of_ble_eq_true rfl) (by decide) (kX8_points q1.2 τ h3) ?_
          refine Vm.goto 65 dX8_box_56 rfl ?_
          obtain rfl := Option.some.inj h
          exact Vm.iret dX8_box_65 rfl hk.1 hk.2.symm
      · replace h := (if_pos c9).symm.trans h
        refine Vm.sub (lv' := [(0, .inr (.inr (32, 0)))]) [0] rfl ?_
        exact lX8_box_35 σ τ h hk
theorem kX8_box (a1 : Int32) (a2 : Int32) (a3 : Int32) (σ τ : mm) {q : Int32 × mm} (h : fX8_box a1 a2 a3 σ = some q) : Cx mX8_box 2 [.inr (.inr (32, 0)), .inl a1, .inl a2, .inl a3] (τ, σ) (some (.inl q.1)) (τ, q.2) :=
  Cx.of (lv := [(0, .inr (.inr (32, 0))), (1, .inl a1), (2, .inl a2), (3, .inl a3)]) (by decide) (fun ad => Nat.le_of_ble_eq_true rfl) (fun ad => rfl) (lX8_box_0 a1 a2 a3 σ τ h ⟨rfl, rfl⟩)
-- ThinBodiesModel boxOf (II)I
def fX8_boxOf_40 (σ : mm) : Option (Int32 × mm) :=
  Option.bind (fX8_finds (-1000000001 : Int32) σ) fun q1 =>
  some ((q1.1, q1.2))
def fX8_boxOf_0 (a1 : Int32) (a2 : Int32) (σ : mm) : Option (Int32 × mm) :=
  if (bi (fX8_isLetter a1 σ)) = (0 : Int32) then
  fX8_boxOf_40 σ
  else
  if (bi (fX8_in a2.toInt64 (0 : Int64) (1 : Int64))) = (0 : Int32) then
  fX8_boxOf_40 σ
  else
  if a2 = (0 : Int32) then
  Option.bind (rdI σ 42 0 4 a1) fun x2 =>
  some ((x2, σ))
  else
  Option.bind (rdI σ 43 0 4 a1) fun x1 =>
  some ((x1, σ))
def fX8_boxOf (a1 : Int32) (a2 : Int32) (σ : mm) : Option (Int32 × mm) := fX8_boxOf_0 a1 a2 σ
set_option maxRecDepth 20000 in
theorem lX8_boxOf_40 (σ τ : mm) {r : Option mv} {M' : mm × mm} {v9 : Int32 × mm} (h : fX8_boxOf_40 σ = some v9) (hk : (fun q : Int32 × mm => r = some (.inl q.1) ∧ M' = (τ, q.2)) v9) : Vm mX8_boxOf 2 40 [(0, .inr (.inr (32, 0)))] [] (τ, σ) r M' := by
  unfold fX8_boxOf_40 at h
  refine Vm.aload_n (n := 41) 0 dX8_boxOf_40 rfl rfl ?_
  refine Vm.ldc (n := 43) dX8_boxOf_41 rfl wc_RX8_92 ?_
  replace h := Option.bind_eq_some_iff.mp h
  obtain ⟨q1, h1, h⟩ := h
  refine Vm.callV (Y := mX8_finds) (n := 46) [.inl (-1000000001 : Int32)] dX8_boxOf_43 rfl wv_RX8_102 omX8_finds rfl in_32 rfl rfl rfl (Nat.le_of_ble_eq_true rfl) (by decide) (kX8_finds (-1000000001 : Int32) σ τ h1) ?_
  obtain rfl := Option.some.inj h
  exact Vm.iret dX8_boxOf_46 rfl hk.1 hk.2.symm
set_option maxRecDepth 20000 in
theorem lX8_boxOf_0 (a1 : Int32) (a2 : Int32) (σ τ : mm) {r : Option mv} {M' : mm × mm} {v9 : Int32 × mm} (h : fX8_boxOf_0 a1 a2 σ = some v9) (hk : (fun q : Int32 × mm => r = some (.inl q.1) ∧ M' = (τ, q.2)) v9) : Vm mX8_boxOf 2 0 [(0, .inr (.inr (32, 0))), (1, .inl a1), (2, .inl a2)] [] (τ, σ) r M' := by
  unfold fX8_boxOf_0 at h
  refine Vm.aload_n (n := 1) 0 dX8_boxOf_0 rfl rfl ?_
  refine Vm.iload_n (n := 2) 1 dX8_boxOf_1 rfl rfl ?_
  refine Vm.callV (Y := mX8_isLetter) (n := 5) [.inl a1] dX8_boxOf_2 rfl wv_RX8_115 omX8_isLetter rfl in_32 rfl rfl rfl (Nat.le_of_ble_eq_true rfl) (by decide) (kX8_isLetter a1 σ τ rfl) ?_
  refine Vm.if_eq (n := 8) 40 dX8_boxOf_5 rfl rfl (fun c9 => ?_) (fun c9 => ?_)
  · replace h := (if_pos c9).symm.trans h
    refine Vm.sub (lv' := [(0, .inr (.inr (32, 0)))]) [0] rfl ?_
    exact lX8_boxOf_40 σ τ h hk
  · replace h := (if_neg c9).symm.trans h
    refine Vm.iload_n (n := 9) 2 dX8_boxOf_8 rfl rfl ?_
    refine Vm.i2l (n := 10) dX8_boxOf_9 rfl ?_
    refine Vm.lconst (n := 11) (v := (0 : Int64)) dX8_boxOf_10 rfl (by decide) ?_
    refine Vm.lconst (n := 12) (v := (1 : Int64)) dX8_boxOf_11 rfl (by decide) ?_
    refine Vm.callS (Y := mX8_in) (n := 15) [.inr (.inl a2.toInt64), .inr (.inl (0 : Int64)), .inr (.inl (1 : Int64))] dX8_boxOf_12 rfl wv_RX8_93 omX8_in rfl rfl (Nat.le_of_ble_eq_true rfl) (by decide) (kX8_in a2.toInt64 (0 : Int64) (1 : Int64) rfl) ?_
    refine Vm.if_eq (n := 18) 40 dX8_boxOf_15 rfl rfl (fun c9 => ?_) (fun c9 => ?_)
    · replace h := (if_pos c9).symm.trans h
      refine Vm.sub (lv' := [(0, .inr (.inr (32, 0)))]) [0] rfl ?_
      exact lX8_boxOf_40 σ τ h hk
    · replace h := (if_neg c9).symm.trans h
      refine Vm.iload_n (n := 19) 2 dX8_boxOf_18 rfl rfl ?_
      refine Vm.if_ne (n := 22) 31 dX8_boxOf_19 rfl rfl (fun c9 => ?_) (fun c9 => ?_)
      · replace h := (if_neg c9).symm.trans h
        refine Vm.aload_n (n := 32) 0 dX8_boxOf_31 rfl rfl ?_
        refine Vm.getR (n := 35) dX8_boxOf_32 rfl wf_RX8_20 in_32 rfl (by decide) rfl ?_
        refine Vm.iload_n (n := 36) 1 dX8_boxOf_35 rfl rfl ?_
        replace h := Option.bind_eq_some_iff.mp h
        obtain ⟨x1, h1, h⟩ := h
        refine Vm.ialdm (n := 37) dX8_boxOf_36 rfl in_43 rfl rfl (by decide) h1 ?_
        refine Vm.goto 46 dX8_boxOf_37 rfl ?_
        obtain rfl := Option.some.inj h
        exact Vm.iret dX8_boxOf_46 rfl hk.1 hk.2.symm
      · replace h := (if_pos c9).symm.trans h
        refine Vm.aload_n (n := 23) 0 dX8_boxOf_22 rfl rfl ?_
        refine Vm.getR (n := 26) dX8_boxOf_23 rfl wf_RX8_17 in_32 rfl (by decide) rfl ?_
        refine Vm.iload_n (n := 27) 1 dX8_boxOf_26 rfl rfl ?_
        replace h := Option.bind_eq_some_iff.mp h
        obtain ⟨x2, h2, h⟩ := h
        refine Vm.ialdm (n := 28) dX8_boxOf_27 rfl in_42 rfl rfl (by decide) h2 ?_
        refine Vm.goto 46 dX8_boxOf_28 rfl ?_
        obtain rfl := Option.some.inj h
        exact Vm.iret dX8_boxOf_46 rfl hk.1 hk.2.symm
theorem kX8_boxOf (a1 : Int32) (a2 : Int32) (σ τ : mm) {q : Int32 × mm} (h : fX8_boxOf a1 a2 σ = some q) : Cx mX8_boxOf 2 [.inr (.inr (32, 0)), .inl a1, .inl a2] (τ, σ) (some (.inl q.1)) (τ, q.2) :=
  Cx.of (lv := [(0, .inr (.inr (32, 0))), (1, .inl a1), (2, .inl a2)]) (by decide) (fun ad => Nat.le_of_ble_eq_true rfl) (fun ad => rfl) (lX8_boxOf_0 a1 a2 σ τ h ⟨rfl, rfl⟩)
-- ThinBodiesModel isOf (II)Z
def fX8_isOf_0 (a0 : Int32) (a1 : Int32) : Bool :=
  if a0 = (0 : Int32) then
  (fX8_in a1.toInt64 (0 : Int64) (5 : Int64))
  else
  if a0 = (1 : Int32) then
  (fX8_in a1.toInt64 (-999 : Int64) (999 : Int64))
  else
  if a0 = (2 : Int32) then
  (fX8_in a1.toInt64 (1 : Int64) (99 : Int64))
  else
  (fX8_in a1.toInt64 (-9 : Int64) (9 : Int64))
def fX8_isOf (a0 : Int32) (a1 : Int32) : Bool := fX8_isOf_0 a0 a1
set_option maxRecDepth 20000 in
theorem lX8_isOf_0 (a0 : Int32) (a1 : Int32) {M : mm × mm} {r : Option mv} {M' : mm × mm} {v9 : Bool} (h : fX8_isOf_0 a0 a1 = v9) (hk : (fun q : Bool => r = some (.inl (bi q)) ∧ M' = M) v9) : Vm mX8_isOf 1 0 [(0, .inl a0), (1, .inl a1)] [] M r M' := by
  unfold fX8_isOf_0 at h
  refine Vm.iload_n (n := 1) 0 dX8_isOf_0 rfl rfl ?_
  refine Vm.if_ne (n := 4) 16 dX8_isOf_1 rfl rfl (fun c9 => ?_) (fun c9 => ?_)
  · replace h := (if_neg c9).symm.trans h
    refine Vm.iload_n (n := 17) 0 dX8_isOf_16 rfl rfl ?_
    refine Vm.iconst (n := 18) (v := (1 : Int32)) dX8_isOf_17 rfl (by decide) ?_
    refine Vm.icmp_ne (n := 21) 35 dX8_isOf_18 rfl rfl (fun c9 => ?_) (fun c9 => ?_)
    · replace h := (if_neg c9).symm.trans h
      refine Vm.iload_n (n := 36) 0 dX8_isOf_35 rfl rfl ?_
      refine Vm.iconst (n := 37) (v := (2 : Int32)) dX8_isOf_36 rfl (by decide) ?_
      refine Vm.icmp_ne (n := 40) 52 dX8_isOf_37 rfl rfl (fun c9 => ?_) (fun c9 => ?_)
      · replace h := (if_neg c9).symm.trans h
        refine Vm.iload_n (n := 53) 1 dX8_isOf_52 rfl rfl ?_
        refine Vm.i2l (n := 54) dX8_isOf_53 rfl ?_
        refine Vm.ldc2 (n := 57) dX8_isOf_54 rfl wl_RX8_118 ?_
        refine Vm.ldc2 (n := 60) dX8_isOf_57 rfl wl_RX8_120 ?_
        refine Vm.callS (Y := mX8_in) (n := 63) [.inr (.inl a1.toInt64), .inr (.inl (-9 : Int64)), .inr (.inl (9 : Int64))] dX8_isOf_60 rfl wv_RX8_93 omX8_in rfl rfl (Nat.le_of_ble_eq_true rfl) (by decide) (kX8_in a1.toInt64 (-9 : Int64) (9 : Int64) rfl) ?_
        subst h
        exact Vm.zret (b := (fX8_in a1.toInt64 (-9 : Int64) (9 : Int64))) dX8_isOf_63 rfl rfl hk.1 hk.2.symm
      · replace h := (if_pos c9).symm.trans h
        refine Vm.iload_n (n := 41) 1 dX8_isOf_40 rfl rfl ?_
        refine Vm.i2l (n := 42) dX8_isOf_41 rfl ?_
        refine Vm.lconst (n := 43) (v := (1 : Int64)) dX8_isOf_42 rfl (by decide) ?_
        refine Vm.ldc2 (n := 46) dX8_isOf_43 rfl wl_RX8_132 ?_
        refine Vm.callS (Y := mX8_in) (n := 49) [.inr (.inl a1.toInt64), .inr (.inl (1 : Int64)), .inr (.inl (99 : Int64))] dX8_isOf_46 rfl wv_RX8_93 omX8_in rfl rfl (Nat.le_of_ble_eq_true rfl) (by decide) (kX8_in a1.toInt64 (1 : Int64) (99 : Int64) rfl) ?_
        refine Vm.goto 63 dX8_isOf_49 rfl ?_
        subst h
        exact Vm.zret (b := (fX8_in a1.toInt64 (1 : Int64) (99 : Int64))) dX8_isOf_63 rfl rfl hk.1 hk.2.symm
    · replace h := (if_pos c9).symm.trans h
      refine Vm.iload_n (n := 22) 1 dX8_isOf_21 rfl rfl ?_
      refine Vm.i2l (n := 23) dX8_isOf_22 rfl ?_
      refine Vm.ldc2 (n := 26) dX8_isOf_23 rfl wl_RX8_128 ?_
      refine Vm.ldc2 (n := 29) dX8_isOf_26 rfl wl_RX8_130 ?_
      refine Vm.callS (Y := mX8_in) (n := 32) [.inr (.inl a1.toInt64), .inr (.inl (-999 : Int64)), .inr (.inl (999 : Int64))] dX8_isOf_29 rfl wv_RX8_93 omX8_in rfl rfl (Nat.le_of_ble_eq_true rfl) (by decide) (kX8_in a1.toInt64 (-999 : Int64) (999 : Int64) rfl) ?_
      refine Vm.goto 63 dX8_isOf_32 rfl ?_
      subst h
      exact Vm.zret (b := (fX8_in a1.toInt64 (-999 : Int64) (999 : Int64))) dX8_isOf_63 rfl rfl hk.1 hk.2.symm
  · replace h := (if_pos c9).symm.trans h
    refine Vm.iload_n (n := 5) 1 dX8_isOf_4 rfl rfl ?_
    refine Vm.i2l (n := 6) dX8_isOf_5 rfl ?_
    refine Vm.lconst (n := 7) (v := (0 : Int64)) dX8_isOf_6 rfl (by decide) ?_
    refine Vm.ldc2 (n := 10) dX8_isOf_7 rfl wl_RX8_126 ?_
    refine Vm.callS (Y := mX8_in) (n := 13) [.inr (.inl a1.toInt64), .inr (.inl (0 : Int64)), .inr (.inl (5 : Int64))] dX8_isOf_10 rfl wv_RX8_93 omX8_in rfl rfl (Nat.le_of_ble_eq_true rfl) (by decide) (kX8_in a1.toInt64 (0 : Int64) (5 : Int64) rfl) ?_
    refine Vm.goto 63 dX8_isOf_13 rfl ?_
    subst h
    exact Vm.zret (b := (fX8_in a1.toInt64 (0 : Int64) (5 : Int64))) dX8_isOf_63 rfl rfl hk.1 hk.2.symm
theorem kX8_isOf (a0 : Int32) (a1 : Int32) {M : mm × mm} {q : Bool} (h : fX8_isOf a0 a1 = q) : Cx mX8_isOf 1 [.inl a0, .inl a1] M (some (.inl (bi q))) M :=
  Cx.of (lv := [(0, .inl a0), (1, .inl a1)]) (by decide) (fun ad => Nat.le_of_ble_eq_true rfl) (fun ad => rfl) (lX8_isOf_0 a0 a1 h ⟨rfl, rfl⟩)
-- ThinBodiesModel adds (III)V
noncomputable def fX8_adds_3 (a1 : Int32) (a2 : Int32) (a3 : Int32) (a4 : Int32) (σ : mm) : Option ((Int32 × mm) ⊕ (mm)) :=
  if (7 : Int32) ≤ a4 then
  Option.bind (wrI σ 45 0 56 ((7 : Int32) * (σ.1 32 0 4)) a1) fun σ1 =>
  Option.bind (wrI σ1 45 0 56 (((7 : Int32) * (σ1.1 32 0 4)) + (1 : Int32)) a2) fun σ2 =>
  Option.bind (wrI σ2 45 0 56 (((7 : Int32) * (σ2.1 32 0 4)) + (2 : Int32)) a3) fun σ3 =>
  Option.bind (some ((σ3.1 32 0 4) + (1 : Int32))) fun x4 =>
  Option.bind (some (stI σ3 32 0 4 x4)) fun σ5 =>
  some (.inr (σ5))
  else
  Option.bind (wrI σ 45 0 56 (((7 : Int32) * (σ.1 32 0 4)) + a4) (0 : Int32)) fun σ6 =>
  Option.bind (some (a4 + (1 : Int32))) fun x7 =>
  some (.inl (x7, σ6))
noncomputable def fX8_adds_3_L (a1 : Int32) (a2 : Int32) (a3 : Int32) : Int32 × mm → Option ((Int32 × mm) ⊕ (mm)) := fun z => fX8_adds_3 a1 a2 a3 z.1 z.2
noncomputable def fX8_adds_0 (a1 : Int32) (a2 : Int32) (a3 : Int32) (σ : mm) : Option (mm) :=
  lp (fX8_adds_3_L a1 a2 a3) ((0 : Int32), σ)
noncomputable def fX8_adds (a1 : Int32) (a2 : Int32) (a3 : Int32) (σ : mm) : Option (mm) := fX8_adds_0 a1 a2 a3 σ
set_option maxRecDepth 20000 in
theorem lX8_adds_3 (a1 : Int32) (a2 : Int32) (a3 : Int32) (a4 : Int32) (σ τ : mm) {r : Option mv} {M' : mm × mm} {v9 : (Int32 × mm) ⊕ (mm)} (h : fX8_adds_3 a1 a2 a3 a4 σ = some v9) (hk : (Sum.elim (fun z : Int32 × mm => Vm mX8_adds 0 3 [(0, .inr (.inr (32, 0))), (1, .inl a1), (2, .inl a2), (3, .inl a3), (4, .inl z.1)] [] (τ, z.2) r M') (fun q : mm => r = none ∧ M' = (τ, q))) v9) : Vm mX8_adds 0 3 [(0, .inr (.inr (32, 0))), (1, .inl a1), (2, .inl a2), (3, .inl a3), (4, .inl a4)] [] (τ, σ) r M' := by
  unfold fX8_adds_3 at h
  refine Vm.iload (n := 5) 4 dX8_adds_3 rfl rfl ?_
  refine Vm.bipush (n := 7) (v := (7 : Int32)) dX8_adds_5 rfl (by decide) ?_
  refine Vm.icmp_ge (n := 10) 32 dX8_adds_7 rfl rfl (fun c9 => ?_) (fun c9 => ?_)
  · replace h := (if_pos c9).symm.trans h
    refine Vm.aload_n (n := 33) 0 dX8_adds_32 rfl rfl ?_
    refine Vm.getR (n := 36) dX8_adds_33 rfl wf_RX8_23 in_32 rfl (by decide) rfl ?_
    refine Vm.bipush (n := 38) (v := (7 : Int32)) dX8_adds_36 rfl (by decide) ?_
    refine Vm.aload_n (n := 39) 0 dX8_adds_38 rfl rfl ?_
    refine Vm.gM (n := 42) dX8_adds_39 rfl wf_RX8_97 in_32 rfl (by decide) rfl (by decide) ?_
    refine Vm.imul (n := 43) dX8_adds_42 rfl ?_
    refine Vm.iload_n (n := 44) 1 dX8_adds_43 rfl rfl ?_
    replace h := Option.bind_eq_some_iff.mp h
    obtain ⟨σ1, h1, h⟩ := h
    refine Vm.iastm (n := 45) dX8_adds_44 rfl in_45 rfl rfl (by decide) h1 ?_
    refine Vm.aload_n (n := 46) 0 dX8_adds_45 rfl rfl ?_
    refine Vm.getR (n := 49) dX8_adds_46 rfl wf_RX8_23 in_32 rfl (by decide) rfl ?_
    refine Vm.bipush (n := 51) (v := (7 : Int32)) dX8_adds_49 rfl (by decide) ?_
    refine Vm.aload_n (n := 52) 0 dX8_adds_51 rfl rfl ?_
    refine Vm.gM (n := 55) dX8_adds_52 rfl wf_RX8_97 in_32 rfl (by decide) rfl (by decide) ?_
    refine Vm.imul (n := 56) dX8_adds_55 rfl ?_
    refine Vm.iconst (n := 57) (v := (1 : Int32)) dX8_adds_56 rfl (by decide) ?_
    refine Vm.iadd (n := 58) dX8_adds_57 rfl ?_
    refine Vm.iload_n (n := 59) 2 dX8_adds_58 rfl rfl ?_
    replace h := Option.bind_eq_some_iff.mp h
    obtain ⟨σ2, h2, h⟩ := h
    refine Vm.iastm (n := 60) dX8_adds_59 rfl in_45 rfl rfl (by decide) h2 ?_
    refine Vm.aload_n (n := 61) 0 dX8_adds_60 rfl rfl ?_
    refine Vm.getR (n := 64) dX8_adds_61 rfl wf_RX8_23 in_32 rfl (by decide) rfl ?_
    refine Vm.bipush (n := 66) (v := (7 : Int32)) dX8_adds_64 rfl (by decide) ?_
    refine Vm.aload_n (n := 67) 0 dX8_adds_66 rfl rfl ?_
    refine Vm.gM (n := 70) dX8_adds_67 rfl wf_RX8_97 in_32 rfl (by decide) rfl (by decide) ?_
    refine Vm.imul (n := 71) dX8_adds_70 rfl ?_
    refine Vm.iconst (n := 72) (v := (2 : Int32)) dX8_adds_71 rfl (by decide) ?_
    refine Vm.iadd (n := 73) dX8_adds_72 rfl ?_
    refine Vm.iload_n (n := 74) 3 dX8_adds_73 rfl rfl ?_
    replace h := Option.bind_eq_some_iff.mp h
    obtain ⟨σ3, h3, h⟩ := h
    refine Vm.iastm (n := 75) dX8_adds_74 rfl in_45 rfl rfl (by decide) h3 ?_
    refine Vm.aload_n (n := 76) 0 dX8_adds_75 rfl rfl ?_
    refine Vm.dup (n := 77) dX8_adds_76 rfl rfl ?_
    refine Vm.gM (n := 80) dX8_adds_77 rfl wf_RX8_97 in_32 rfl (by decide) rfl (by decide) ?_
    refine Vm.iconst (n := 81) (v := (1 : Int32)) dX8_adds_80 rfl (by decide) ?_
    refine Vm.iadd (n := 82) dX8_adds_81 rfl ?_
    replace h := Option.bind_eq_some_iff.mp h
    obtain ⟨x4, e4, h⟩ := h
    replace e4 := Option.some.inj e4
    refine Vm.top e4 ?_
    refine Vm.pM (n := 85) (ty := .int) dX8_adds_82 rfl wf_RX8_97 in_32 rfl (by decide) rfl (by decide) rfl rfl rfl rfl ?_
    replace h := Option.bind_eq_some_iff.mp h
    obtain ⟨σ5, e5, h⟩ := h
    replace e5 := Option.some.inj e5
    refine Vm.mem (congrArg (fun z => (τ, z)) e5) ?_
    obtain rfl := Option.some.inj h
    exact Vm.vret dX8_adds_85 rfl hk.1 hk.2.symm
  · replace h := (if_neg c9).symm.trans h
    refine Vm.aload_n (n := 11) 0 dX8_adds_10 rfl rfl ?_
    refine Vm.getR (n := 14) dX8_adds_11 rfl wf_RX8_23 in_32 rfl (by decide) rfl ?_
    refine Vm.bipush (n := 16) (v := (7 : Int32)) dX8_adds_14 rfl (by decide) ?_
    refine Vm.aload_n (n := 17) 0 dX8_adds_16 rfl rfl ?_
    refine Vm.gM (n := 20) dX8_adds_17 rfl wf_RX8_97 in_32 rfl (by decide) rfl (by decide) ?_
    refine Vm.imul (n := 21) dX8_adds_20 rfl ?_
    refine Vm.iload (n := 23) 4 dX8_adds_21 rfl rfl ?_
    refine Vm.iadd (n := 24) dX8_adds_23 rfl ?_
    refine Vm.iconst (n := 25) (v := (0 : Int32)) dX8_adds_24 rfl (by decide) ?_
    replace h := Option.bind_eq_some_iff.mp h
    obtain ⟨σ6, h6, h⟩ := h
    refine Vm.iastm (n := 26) dX8_adds_25 rfl in_45 rfl rfl (by decide) h6 ?_
    replace h := Option.bind_eq_some_iff.mp h
    obtain ⟨x7, e7, h⟩ := h
    replace e7 := Option.some.inj e7
    refine Vm.iinc (n := 29) (v := x7) (lv' := [(4, .inl x7), (0, .inr (.inr (32, 0))), (1, .inl a1), (2, .inl a2), (3, .inl a3)]) 4 dX8_adds_26 rfl rfl e7 (Nat.le_of_ble_eq_true rfl) rfl ?_
    refine Vm.goto 3 dX8_adds_29 rfl ?_
    refine Vm.sub (lv' := [(0, .inr (.inr (32, 0))), (1, .inl a1), (2, .inl a2), (3, .inl a3), (4, .inl x7)]) [1, 2, 3, 4, 0] rfl ?_
    obtain rfl := Option.some.inj h
    exact hk
theorem lX8_adds_3_L (a1 : Int32) (a2 : Int32) (a3 : Int32) (τ : mm) {r : Option mv} {M' : mm × mm} (z : Int32 × mm) (w9 : mm) (h : lp (fX8_adds_3_L a1 a2 a3) z = some w9) (hk : (fun q : mm => r = none ∧ M' = (τ, q)) w9) : Vm mX8_adds 0 3 [(0, .inr (.inr (32, 0))), (1, .inl a1), (2, .inl a2), (3, .inl a3), (4, .inl z.1)] [] (τ, z.2) r M' :=
  lp_link (S := Int32 × mm) (R := mm) (body := fX8_adds_3_L a1 a2 a3) (A := fun z : Int32 × mm => Vm mX8_adds 0 3 [(0, .inr (.inr (32, 0))), (1, .inl a1), (2, .inl a2), (3, .inl a3), (4, .inl z.1)] [] (τ, z.2) r M') (B := fun w : mm => (fun q : mm => r = none ∧ M' = (τ, q)) w) (fun z v hb hv => lX8_adds_3 a1 a2 a3 z.1 z.2 τ hb hv) z w9 h hk
set_option maxRecDepth 20000 in
theorem lX8_adds_0 (a1 : Int32) (a2 : Int32) (a3 : Int32) (σ τ : mm) {r : Option mv} {M' : mm × mm} {v9 : mm} (h : fX8_adds_0 a1 a2 a3 σ = some v9) (hk : (fun q : mm => r = none ∧ M' = (τ, q)) v9) : Vm mX8_adds 0 0 [(0, .inr (.inr (32, 0))), (1, .inl a1), (2, .inl a2), (3, .inl a3)] [] (τ, σ) r M' := by
  unfold fX8_adds_0 at h
  refine Vm.iconst (n := 1) (v := (0 : Int32)) dX8_adds_0 rfl (by decide) ?_
  refine Vm.istore (n := 3) (lv' := [(4, .inl (0 : Int32)), (0, .inr (.inr (32, 0))), (1, .inl a1), (2, .inl a2), (3, .inl a3)]) dX8_adds_1 rfl (Nat.le_of_ble_eq_true rfl) rfl ?_
  refine Vm.sub (lv' := [(0, .inr (.inr (32, 0))), (1, .inl a1), (2, .inl a2), (3, .inl a3), (4, .inl (0 : Int32))]) [1, 2, 3, 4, 0] rfl ?_
  exact lX8_adds_3_L a1 a2 a3 τ ((0 : Int32), σ) _ h hk
theorem kX8_adds (a1 : Int32) (a2 : Int32) (a3 : Int32) (σ τ : mm) {q : mm} (h : fX8_adds a1 a2 a3 σ = some q) : Cx mX8_adds 0 [.inr (.inr (32, 0)), .inl a1, .inl a2, .inl a3] (τ, σ) (none) (τ, q) :=
  Cx.of (lv := [(0, .inr (.inr (32, 0))), (1, .inl a1), (2, .inl a2), (3, .inl a3)]) (by decide) (fun ad => Nat.le_of_ble_eq_true rfl) (fun ad => rfl) (lX8_adds_0 a1 a2 a3 σ τ h ⟨rfl, rfl⟩)
