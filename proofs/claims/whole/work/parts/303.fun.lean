-- java/lang/Math floorDiv (II)I
def fJ9_floorDiv_7cf53_0 (a0 : Int32) (a1 : Int32) : Option (Int32) :=
  Option.bind (dvI a0 a1) fun x1 =>
  if (0 : Int32) ≤ (a0 ^^^ a1) then
  some (x1)
  else
  if (x1 * a1) = a0 then
  some (x1)
  else
  some (x1 - (1 : Int32))
def fJ9_floorDiv_7cf53 (a0 : Int32) (a1 : Int32) : Option (Int32) := fJ9_floorDiv_7cf53_0 a0 a1
set_option maxRecDepth 20000 in
theorem lJ9_floorDiv_7cf53_0 (a0 : Int32) (a1 : Int32) {M : mm × mm} {r : Option mv} {M' : mm × mm} {v9 : Int32} (h : fJ9_floorDiv_7cf53_0 a0 a1 = some v9) (hk : (fun q : Int32 => r = some (.inl q) ∧ M' = M) v9) : Vm mJ9_floorDiv_7cf53 0 0 [(0, .inl a0), (1, .inl a1)] [] M r M' := by
  unfold fJ9_floorDiv_7cf53_0 at h
  refine Vm.iload_n (n := 1) 0 dJ9_floorDiv_7cf53_0 rfl rfl ?_
  refine Vm.iload_n (n := 2) 1 dJ9_floorDiv_7cf53_1 rfl rfl ?_
  replace h := Option.bind_eq_some_iff.mp h
  obtain ⟨x1, h1, h⟩ := h
  refine Vm.idiv (n := 3) dJ9_floorDiv_7cf53_2 rfl h1 ?_
  refine Vm.istore_n (n := 4) (lv' := [(2, .inl x1), (0, .inl a0), (1, .inl a1)]) dJ9_floorDiv_7cf53_3 rfl (Nat.le_of_ble_eq_true rfl) rfl ?_
  refine Vm.iload_n (n := 5) 1 dJ9_floorDiv_7cf53_4 rfl rfl ?_
  refine Vm.iload_n (n := 6) 2 dJ9_floorDiv_7cf53_5 rfl rfl ?_
  refine Vm.ixor (n := 7) dJ9_floorDiv_7cf53_6 rfl ?_
  refine Vm.if_ge (n := 10) 21 dJ9_floorDiv_7cf53_7 rfl rfl (fun c9 => ?_) (fun c9 => ?_)
  · replace h := (if_pos c9).symm.trans h
    refine Vm.iload_n (n := 22) 0 dJ9_floorDiv_7cf53_21 rfl rfl ?_
    obtain rfl := Option.some.inj h
    exact Vm.iret dJ9_floorDiv_7cf53_22 rfl hk.1 hk.2.symm
  · replace h := (if_neg c9).symm.trans h
    refine Vm.iload_n (n := 11) 0 dJ9_floorDiv_7cf53_10 rfl rfl ?_
    refine Vm.iload_n (n := 12) 2 dJ9_floorDiv_7cf53_11 rfl rfl ?_
    refine Vm.imul (n := 13) dJ9_floorDiv_7cf53_12 rfl ?_
    refine Vm.iload_n (n := 14) 1 dJ9_floorDiv_7cf53_13 rfl rfl ?_
    refine Vm.icmp_eq (n := 17) 21 dJ9_floorDiv_7cf53_14 rfl rfl (fun c9 => ?_) (fun c9 => ?_)
    · replace h := (if_pos c9).symm.trans h
      refine Vm.iload_n (n := 22) 0 dJ9_floorDiv_7cf53_21 rfl rfl ?_
      obtain rfl := Option.some.inj h
      exact Vm.iret dJ9_floorDiv_7cf53_22 rfl hk.1 hk.2.symm
    · replace h := (if_neg c9).symm.trans h
      refine Vm.iload_n (n := 18) 0 dJ9_floorDiv_7cf53_17 rfl rfl ?_
      refine Vm.iconst (n := 19) (v := (1 : Int32)) dJ9_floorDiv_7cf53_18 rfl (by decide) ?_
      refine Vm.isub (n := 20) dJ9_floorDiv_7cf53_19 rfl ?_
      obtain rfl := Option.some.inj h
      exact Vm.iret dJ9_floorDiv_7cf53_20 rfl hk.1 hk.2.symm
theorem kJ9_floorDiv_7cf53 (a0 : Int32) (a1 : Int32) {M : mm × mm} {q : Int32} (h : fJ9_floorDiv_7cf53 a0 a1 = some q) : Cx mJ9_floorDiv_7cf53 0 [.inl a0, .inl a1] M (some (.inl q)) M :=
  Cx.ofF (lv := [(0, .inl a0), (1, .inl a1)]) (by decide +kernel) (fun ad => Nat.le_of_ble_eq_true rfl) (fun ad => rfl) (lJ9_floorDiv_7cf53_0 a0 a1 h ⟨rfl, rfl⟩)
-- ThinBodies$Tree grow (LThinBodies$Body;I)V
noncomputable def fX6_grow_28 (rc : Nat → Int32 → mm → Option (mm)) (a1 : Nat) (a2 : Int32) (a3 : Int32) (σ : mm) : Option (mm) :=
  Option.bind (fX6_addLeaf a3 a2 (σ.1 0 a1 0) σ) fun q1 =>
  some (q1)
noncomputable def fX6_grow_0 (rc : Nat → Int32 → mm → Option (mm)) (a1 : Nat) (a2 : Int32) (σ : mm) : Option (mm) :=
  Option.bind (some ((σ.1 6 0 1) + (1 : Int32))) fun x1 =>
  Option.bind (some (stI σ 6 0 1 x1)) fun σ2 =>
  Option.bind (fX6_verdictOf a1 σ2) fun q3 =>
  if q3 = (-2 : Int32) then
  if a2 < (24 : Int32) then
  Option.bind (fX6_widest (σ2.1 0 a1 0) σ2) fun q4 =>
  Option.bind (rdI σ2 15 0 4 q4) fun x5 =>
  Option.bind (rdI σ2 16 0 4 q4) fun x6 =>
  Option.bind (fJ9_floorDiv_7cf53 (x5 + x6) (2 : Int32)) fun q7 =>
  Option.bind (wrI σ2 16 0 4 q4 q7) fun σ8 =>
  Option.bind (rc a1 (a2 + (1 : Int32)) σ8) fun q9 =>
  Option.bind (wrI q9 16 0 4 q4 x6) fun σ10 =>
  Option.bind (wrI σ10 15 0 4 q4 (q7 + (1 : Int32))) fun σ11 =>
  Option.bind (rc a1 (a2 + (1 : Int32)) σ11) fun q12 =>
  Option.bind (wrI q12 15 0 4 q4 x5) fun σ13 =>
  some (σ13)
  else
  fX6_grow_28 rc a1 a2 q3 σ2
  else
  fX6_grow_28 rc a1 a2 q3 σ2
noncomputable def fX6_grow : Nat → Nat → Int32 → mm → Option (mm)
  | 0, _, _, _ => none
  | m9 + 1, a1, a2, σ => fX6_grow_0 (fX6_grow m9) a1 a2 σ
set_option maxRecDepth 20000 in
theorem lX6_grow_28 (m9 : Nat) (rc : Nat → Int32 → mm → Option (mm)) (hrc : ∀ (b1 : Nat) (b2 : Int32) (σ9 τ : mm) (q9 : mm), b1 < 3 → rc b1 b2 σ9 = some q9 → Cx mX6_grow (5 + m9) [.inr (.inr (6, 0)), .inr (.inr (0, b1)), .inl b2] (σ9, τ) (none) (q9, τ)) (a1 : Nat) (ha1 : a1 < 3) (a2 : Int32) (a3 : Int32) (σ τ : mm) {r : Option mv} {M' : mm × mm} {v9 : mm} (h : fX6_grow_28 rc a1 a2 a3 σ = some v9) (hk : (fun q : mm => r = none ∧ M' = (q, τ)) v9) : Vm mX6_grow (5 + (m9 + 1)) 28 [(0, .inr (.inr (6, 0))), (1, .inr (.inr (0, a1))), (2, .inl a2), (3, .inl a3)] [] (σ, τ) r M' := by
  unfold fX6_grow_28 at h
  refine Vm.aload_n (n := 29) 0 dX6_grow_28 rfl rfl ?_
  refine Vm.iload_n (n := 30) 3 dX6_grow_29 rfl rfl ?_
  refine Vm.iload_n (n := 31) 2 dX6_grow_30 rfl rfl ?_
  refine Vm.aload_n (n := 32) 1 dX6_grow_31 rfl rfl ?_
  refine Vm.gX (n := 35) dX6_grow_32 rfl wf_RX6_57 (ink ik_0 (by omega)) rfl (by decide) rfl (by decide) ?_
  replace h := Option.bind_eq_some_iff.mp h
  obtain ⟨q1, h1, h⟩ := h
  refine Vm.callVv (Y := mX6_addLeaf) (n := 38) [.inl a3, .inl a2, .inl (σ.1 0 a1 0)] dX6_grow_35 rfl wv_RX6_60 omX6_addLeaf rfl in_6 rfl rfl rfl (Nat.le_of_ble_eq_true rfl) (by omega) (kX6_addLeaf a3 a2 (σ.1 0 a1 0) σ τ h1) ?_
  obtain rfl := Option.some.inj h
  exact Vm.vret dX6_grow_38 rfl hk.1 hk.2.symm
set_option maxRecDepth 20000 in
theorem lX6_grow_0 (m9 : Nat) (rc : Nat → Int32 → mm → Option (mm)) (hrc : ∀ (b1 : Nat) (b2 : Int32) (σ9 τ : mm) (q9 : mm), b1 < 3 → rc b1 b2 σ9 = some q9 → Cx mX6_grow (5 + m9) [.inr (.inr (6, 0)), .inr (.inr (0, b1)), .inl b2] (σ9, τ) (none) (q9, τ)) (a1 : Nat) (ha1 : a1 < 3) (a2 : Int32) (σ τ : mm) {r : Option mv} {M' : mm × mm} {v9 : mm} (h : fX6_grow_0 rc a1 a2 σ = some v9) (hk : (fun q : mm => r = none ∧ M' = (q, τ)) v9) : Vm mX6_grow (5 + (m9 + 1)) 0 [(0, .inr (.inr (6, 0))), (1, .inr (.inr (0, a1))), (2, .inl a2)] [] (σ, τ) r M' := by
  unfold fX6_grow_0 at h
  refine Vm.aload_n (n := 1) 0 dX6_grow_0 rfl rfl ?_
  refine Vm.dup (n := 2) dX6_grow_1 rfl rfl ?_
  refine Vm.gX (n := 5) dX6_grow_2 rfl wf_RX6_15 in_6 rfl (by decide) rfl (by decide) ?_
  refine Vm.iconst (n := 6) (v := (1 : Int32)) dX6_grow_5 rfl (by decide) ?_
  refine Vm.iadd (n := 7) dX6_grow_6 rfl ?_
  replace h := Option.bind_eq_some_iff.mp h
  obtain ⟨x1, e1, h⟩ := h
  replace e1 := Option.some.inj e1
  refine Vm.top e1 ?_
  refine Vm.pX (n := 10) (ty := .int) dX6_grow_7 rfl wf_RX6_15 in_6 rfl (by decide) rfl (by decide) rfl rfl rfl rfl ?_
  replace h := Option.bind_eq_some_iff.mp h
  obtain ⟨σ2, e2, h⟩ := h
  replace e2 := Option.some.inj e2
  refine Vm.mem (congrArg (fun z => (z, τ)) e2) ?_
  refine Vm.aload_n (n := 11) 0 dX6_grow_10 rfl rfl ?_
  refine Vm.aload_n (n := 12) 1 dX6_grow_11 rfl rfl ?_
  replace h := Option.bind_eq_some_iff.mp h
  obtain ⟨q3, h3, h⟩ := h
  refine Vm.callV (Y := mX6_verdictOf) (n := 15) [.inr (.inr (0, a1))] dX6_grow_12 rfl wv_RX6_53 omX6_verdictOf rfl in_6 rfl rfl rfl (Nat.le_of_ble_eq_true rfl) (by omega) (kX6_verdictOf a1 (by omega) σ2 τ h3) ?_
  refine Vm.istore_n (n := 16) (lv' := [(3, .inl q3), (0, .inr (.inr (6, 0))), (1, .inr (.inr (0, a1))), (2, .inl a2)]) dX6_grow_15 rfl (Nat.le_of_ble_eq_true rfl) rfl ?_
  refine Vm.iload_n (n := 17) 0 dX6_grow_16 rfl rfl ?_
  refine Vm.bipush (n := 19) (v := (-2 : Int32)) dX6_grow_17 rfl (by decide) ?_
  refine Vm.icmp_ne (n := 22) 28 dX6_grow_19 rfl rfl (fun c9 => ?_) (fun c9 => ?_)
  · replace h := (if_neg c9).symm.trans h
    refine Vm.sub (lv' := [(0, .inr (.inr (6, 0))), (1, .inr (.inr (0, a1))), (2, .inl a2), (3, .inl q3)]) [1, 2, 3, 0] rfl ?_
    exact lX6_grow_28 m9 rc hrc a1 (by omega) a2 q3 σ2 τ h hk
  · replace h := (if_pos c9).symm.trans h
    refine Vm.iload_n (n := 23) 3 dX6_grow_22 rfl rfl ?_
    refine Vm.bipush (n := 25) (v := (24 : Int32)) dX6_grow_23 rfl (by decide) ?_
    refine Vm.icmp_lt (n := 28) 39 dX6_grow_25 rfl rfl (fun c9 => ?_) (fun c9 => ?_)
    · replace h := (if_pos c9).symm.trans h
      refine Vm.aload_n (n := 40) 1 dX6_grow_39 rfl rfl ?_
      refine Vm.aload_n (n := 41) 2 dX6_grow_40 rfl rfl ?_
      refine Vm.gX (n := 44) dX6_grow_41 rfl wf_RX6_57 (ink ik_0 (by omega)) rfl (by decide) rfl (by decide) ?_
      replace h := Option.bind_eq_some_iff.mp h
      obtain ⟨q4, h4, h⟩ := h
      refine Vm.callV (Y := mX6_widest) (n := 47) [.inl (σ2.1 0 a1 0)] dX6_grow_44 rfl wv_RX6_64 omX6_widest rfl in_6 rfl rfl rfl (Nat.le_of_ble_eq_true rfl) (by omega) (kX6_widest (σ2.1 0 a1 0) σ2 τ h4) ?_
      refine Vm.istore (n := 49) (lv' := [(4, .inl q4), (3, .inl q3), (0, .inr (.inr (6, 0))), (1, .inr (.inr (0, a1))), (2, .inl a2)]) dX6_grow_47 rfl (Nat.le_of_ble_eq_true rfl) rfl ?_
      refine Vm.aload_n (n := 50) 2 dX6_grow_49 rfl rfl ?_
      refine Vm.getR (n := 53) dX6_grow_50 rfl wf_RX6_32 in_6 rfl (by decide) rfl ?_
      refine Vm.iload (n := 55) 0 dX6_grow_53 rfl rfl ?_
      replace h := Option.bind_eq_some_iff.mp h
      obtain ⟨x5, h5, h⟩ := h
      refine Vm.ialdx (n := 56) dX6_grow_55 rfl in_15 rfl rfl (by decide) h5 ?_
      refine Vm.istore (n := 58) (lv' := [(5, .inl x5), (4, .inl q4), (3, .inl q3), (0, .inr (.inr (6, 0))), (1, .inr (.inr (0, a1))), (2, .inl a2)]) dX6_grow_56 rfl (Nat.le_of_ble_eq_true rfl) rfl ?_
      refine Vm.aload_n (n := 59) 3 dX6_grow_58 rfl rfl ?_
      refine Vm.getR (n := 62) dX6_grow_59 rfl wf_RX6_36 in_6 rfl (by decide) rfl ?_
      refine Vm.iload (n := 64) 1 dX6_grow_62 rfl rfl ?_
      replace h := Option.bind_eq_some_iff.mp h
      obtain ⟨x6, h6, h⟩ := h
      refine Vm.ialdx (n := 65) dX6_grow_64 rfl in_16 rfl rfl (by decide) h6 ?_
      refine Vm.istore (n := 67) (lv' := [(6, .inl x6), (5, .inl x5), (4, .inl q4), (3, .inl q3), (0, .inr (.inr (6, 0))), (1, .inr (.inr (0, a1))), (2, .inl a2)]) dX6_grow_65 rfl (Nat.le_of_ble_eq_true rfl) rfl ?_
      refine Vm.iload (n := 69) 1 dX6_grow_67 rfl rfl ?_
      refine Vm.iload (n := 71) 0 dX6_grow_69 rfl rfl ?_
      refine Vm.iadd (n := 72) dX6_grow_71 rfl ?_
      refine Vm.iconst (n := 73) (v := (2 : Int32)) dX6_grow_72 rfl (by decide) ?_
      replace h := Option.bind_eq_some_iff.mp h
      obtain ⟨q7, h7, h⟩ := h
      refine Vm.callS (Y := mJ9_floorDiv_7cf53) (n := 76) [.inl (x5 + x6), .inl (2 : Int32)] dX6_grow_73 rfl wv_RX6_68 omJ9_floorDiv_7cf53 rfl rfl (Nat.le_of_ble_eq_true rfl) (by omega) (kJ9_floorDiv_7cf53 (x5 + x6) (2 : Int32) h7) ?_
      refine Vm.istore (n := 78) (lv' := [(7, .inl q7), (6, .inl x6), (5, .inl x5), (4, .inl q4), (3, .inl q3), (0, .inr (.inr (6, 0))), (1, .inr (.inr (0, a1))), (2, .inl a2)]) dX6_grow_76 rfl (Nat.le_of_ble_eq_true rfl) rfl ?_
      refine Vm.aload_n (n := 79) 5 dX6_grow_78 rfl rfl ?_
      refine Vm.getR (n := 82) dX6_grow_79 rfl wf_RX6_36 in_6 rfl (by decide) rfl ?_
      refine Vm.iload (n := 84) 3 dX6_grow_82 rfl rfl ?_
      refine Vm.iload (n := 86) 0 dX6_grow_84 rfl rfl ?_
      replace h := Option.bind_eq_some_iff.mp h
      obtain ⟨σ8, h8, h⟩ := h
      refine Vm.iastx (n := 87) dX6_grow_86 rfl in_16 rfl rfl (by decide) h8 ?_
      refine Vm.aload_n (n := 88) 5 dX6_grow_87 rfl rfl ?_
      refine Vm.aload_n (n := 89) 6 dX6_grow_88 rfl rfl ?_
      refine Vm.iload_n (n := 90) 7 dX6_grow_89 rfl rfl ?_
      refine Vm.iconst (n := 91) (v := (1 : Int32)) dX6_grow_90 rfl (by decide) ?_
      refine Vm.iadd (n := 92) dX6_grow_91 rfl ?_
      replace h := Option.bind_eq_some_iff.mp h
      obtain ⟨q9, h9, h⟩ := h
      refine Vm.callVv (Y := mX6_grow) (n := 95) [.inr (.inr (0, a1)), .inl (a2 + (1 : Int32))] dX6_grow_92 rfl wv_RX6_49 omX6_grow rfl in_6 rfl rfl rfl (Nat.le_of_ble_eq_true rfl) (by omega) (hrc a1 (a2 + (1 : Int32)) σ8 τ _ (by omega) h9) ?_
      refine Vm.aload_n (n := 96) 5 dX6_grow_95 rfl rfl ?_
      refine Vm.getR (n := 99) dX6_grow_96 rfl wf_RX6_36 in_6 rfl (by decide) rfl ?_
      refine Vm.iload (n := 101) 3 dX6_grow_99 rfl rfl ?_
      refine Vm.iload (n := 103) 1 dX6_grow_101 rfl rfl ?_
      replace h := Option.bind_eq_some_iff.mp h
      obtain ⟨σ10, h10, h⟩ := h
      refine Vm.iastx (n := 104) dX6_grow_103 rfl in_16 rfl rfl (by decide) h10 ?_
      refine Vm.aload_n (n := 105) 5 dX6_grow_104 rfl rfl ?_
      refine Vm.getR (n := 108) dX6_grow_105 rfl wf_RX6_32 in_6 rfl (by decide) rfl ?_
      refine Vm.iload (n := 110) 3 dX6_grow_108 rfl rfl ?_
      refine Vm.iload (n := 112) 0 dX6_grow_110 rfl rfl ?_
      refine Vm.iconst (n := 113) (v := (1 : Int32)) dX6_grow_112 rfl (by decide) ?_
      refine Vm.iadd (n := 114) dX6_grow_113 rfl ?_
      replace h := Option.bind_eq_some_iff.mp h
      obtain ⟨σ11, h11, h⟩ := h
      refine Vm.iastx (n := 115) dX6_grow_114 rfl in_15 rfl rfl (by decide) h11 ?_
      refine Vm.aload_n (n := 116) 5 dX6_grow_115 rfl rfl ?_
      refine Vm.aload_n (n := 117) 6 dX6_grow_116 rfl rfl ?_
      refine Vm.iload_n (n := 118) 7 dX6_grow_117 rfl rfl ?_
      refine Vm.iconst (n := 119) (v := (1 : Int32)) dX6_grow_118 rfl (by decide) ?_
      refine Vm.iadd (n := 120) dX6_grow_119 rfl ?_
      replace h := Option.bind_eq_some_iff.mp h
      obtain ⟨q12, h12, h⟩ := h
      refine Vm.callVv (Y := mX6_grow) (n := 123) [.inr (.inr (0, a1)), .inl (a2 + (1 : Int32))] dX6_grow_120 rfl wv_RX6_49 omX6_grow rfl in_6 rfl rfl rfl (Nat.le_of_ble_eq_true rfl) (by omega) (hrc a1 (a2 + (1 : Int32)) σ11 τ _ (by omega) h12) ?_
      refine Vm.aload_n (n := 124) 5 dX6_grow_123 rfl rfl ?_
      refine Vm.getR (n := 127) dX6_grow_124 rfl wf_RX6_32 in_6 rfl (by decide) rfl ?_
      refine Vm.iload (n := 129) 3 dX6_grow_127 rfl rfl ?_
      refine Vm.iload (n := 131) 2 dX6_grow_129 rfl rfl ?_
      replace h := Option.bind_eq_some_iff.mp h
      obtain ⟨σ13, h13, h⟩ := h
      refine Vm.iastx (n := 132) dX6_grow_131 rfl in_15 rfl rfl (by decide) h13 ?_
      obtain rfl := Option.some.inj h
      exact Vm.vret dX6_grow_132 rfl hk.1 hk.2.symm
    · replace h := (if_neg c9).symm.trans h
      refine Vm.sub (lv' := [(0, .inr (.inr (6, 0))), (1, .inr (.inr (0, a1))), (2, .inl a2), (3, .inl q3)]) [1, 2, 3, 0] rfl ?_
      exact lX6_grow_28 m9 rc hrc a1 (by omega) a2 q3 σ2 τ h hk
theorem kX6_grow : ∀ (m9 : Nat) (a1 : Nat) (ha1 : a1 < 3) (a2 : Int32) (σ τ : mm) {q : mm} (h : fX6_grow m9 a1 a2 σ = some q), Cx mX6_grow (5 + m9) [.inr (.inr (6, 0)), .inr (.inr (0, a1)), .inl a2] (σ, τ) (none) (q, τ) := by
  intro m9
  induction m9 with
  | zero =>
    intro a1 ha1 a2 σ τ q h
    cases h
  | succ m9 ih =>
    intro a1 ha1 a2 σ τ q h
    exact Cx.of (lv := [(0, .inr (.inr (6, 0))), (1, .inr (.inr (0, a1))), (2, .inl a2)]) (by decide) (fun ad => Nat.le_of_ble_eq_true rfl) (fun ad => rfl) (lX6_grow_0 m9 (fX6_grow m9) (fun a1 a2 σ9 τ q9 ha1 h9 => ih a1 ha1 a2 σ9 τ h9) a1 ha1 a2 σ τ h ⟨rfl, rfl⟩)
-- ThinBodies$Tree refresh (LThinBodies$Body;)V
noncomputable def fX6_refresh_0 (a1 : Nat) (σ : mm) : Option (mm) :=
  if (σ.1 6 0 0) = (0 : Int32) then
  some (σ)
  else
  Option.bind (some (stI σ 6 0 0 (0 : Int32))) fun σ1 =>
  Option.bind (some (stI σ1 6 0 1 (0 : Int32))) fun σ2 =>
  Option.bind (some (stI σ2 6 0 2 (0 : Int32))) fun σ3 =>
  Option.bind (some (stI σ3 6 0 3 (0 : Int32))) fun σ4 =>
  Option.bind (some (stI σ4 6 0 4 (0 : Int32))) fun σ5 =>
  Option.bind (cpI σ5 8 a1 4 15 0 4 (0 : Int32) (0 : Int32) (4 : Int32)) fun σ6 =>
  Option.bind (cpI σ6 9 a1 4 16 0 4 (0 : Int32) (0 : Int32) (4 : Int32)) fun σ7 =>
  Option.bind (fX6_grow 26 a1 (0 : Int32) σ7) fun q8 =>
  some (q8)
noncomputable def fX6_refresh (a1 : Nat) (σ : mm) : Option (mm) := fX6_refresh_0 a1 σ
set_option maxRecDepth 20000 in
theorem lX6_refresh_0 (a1 : Nat) (ha1 : a1 < 3) (σ τ : mm) {r : Option mv} {M' : mm × mm} {v9 : mm} (h : fX6_refresh_0 a1 σ = some v9) (hk : (fun q : mm => r = none ∧ M' = (q, τ)) v9) : Vm mX6_refresh 32 0 [(0, .inr (.inr (6, 0))), (1, .inr (.inr (0, a1)))] [] (σ, τ) r M' := by
  unfold fX6_refresh_0 at h
  refine Vm.aload_n (n := 1) 0 dX6_refresh_0 rfl rfl ?_
  refine Vm.gX (n := 4) dX6_refresh_1 rfl wf_RX6_9 in_6 rfl (by decide) rfl (by decide) ?_
  refine Vm.if_ne (n := 7) 8 dX6_refresh_4 rfl rfl (fun c9 => ?_) (fun c9 => ?_)
  · replace h := (if_neg c9).symm.trans h
    refine Vm.aload_n (n := 9) 0 dX6_refresh_8 rfl rfl ?_
    refine Vm.iconst (n := 10) (v := (0 : Int32)) dX6_refresh_9 rfl (by decide) ?_
    refine Vm.pX (n := 13) (ty := .boolean) dX6_refresh_10 rfl wf_RX6_9 in_6 rfl (by decide) rfl (by decide) rfl rfl rfl rfl ?_
    replace h := Option.bind_eq_some_iff.mp h
    obtain ⟨σ1, e1, h⟩ := h
    replace e1 := Option.some.inj e1
    refine Vm.mem (congrArg (fun z => (z, τ)) e1) ?_
    refine Vm.aload_n (n := 14) 0 dX6_refresh_13 rfl rfl ?_
    refine Vm.iconst (n := 15) (v := (0 : Int32)) dX6_refresh_14 rfl (by decide) ?_
    refine Vm.pX (n := 18) (ty := .int) dX6_refresh_15 rfl wf_RX6_15 in_6 rfl (by decide) rfl (by decide) rfl rfl rfl rfl ?_
    replace h := Option.bind_eq_some_iff.mp h
    obtain ⟨σ2, e2, h⟩ := h
    replace e2 := Option.some.inj e2
    refine Vm.mem (congrArg (fun z => (z, τ)) e2) ?_
    refine Vm.aload_n (n := 19) 0 dX6_refresh_18 rfl rfl ?_
    refine Vm.iconst (n := 20) (v := (0 : Int32)) dX6_refresh_19 rfl (by decide) ?_
    refine Vm.pX (n := 23) (ty := .int) dX6_refresh_20 rfl wf_RX6_19 in_6 rfl (by decide) rfl (by decide) rfl rfl rfl rfl ?_
    replace h := Option.bind_eq_some_iff.mp h
    obtain ⟨σ3, e3, h⟩ := h
    replace e3 := Option.some.inj e3
    refine Vm.mem (congrArg (fun z => (z, τ)) e3) ?_
    refine Vm.aload_n (n := 24) 0 dX6_refresh_23 rfl rfl ?_
    refine Vm.iconst (n := 25) (v := (0 : Int32)) dX6_refresh_24 rfl (by decide) ?_
    refine Vm.pX (n := 28) (ty := .int) dX6_refresh_25 rfl wf_RX6_22 in_6 rfl (by decide) rfl (by decide) rfl rfl rfl rfl ?_
    replace h := Option.bind_eq_some_iff.mp h
    obtain ⟨σ4, e4, h⟩ := h
    replace e4 := Option.some.inj e4
    refine Vm.mem (congrArg (fun z => (z, τ)) e4) ?_
    refine Vm.aload_n (n := 29) 0 dX6_refresh_28 rfl rfl ?_
    refine Vm.iconst (n := 30) (v := (0 : Int32)) dX6_refresh_29 rfl (by decide) ?_
    refine Vm.pX (n := 33) (ty := .int) dX6_refresh_30 rfl wf_RX6_25 in_6 rfl (by decide) rfl (by decide) rfl rfl rfl rfl ?_
    replace h := Option.bind_eq_some_iff.mp h
    obtain ⟨σ5, e5, h⟩ := h
    replace e5 := Option.some.inj e5
    refine Vm.mem (congrArg (fun z => (z, τ)) e5) ?_
    refine Vm.aload_n (n := 34) 1 dX6_refresh_33 rfl rfl ?_
    refine Vm.getR (n := 37) dX6_refresh_34 rfl wf_RX6_39 (ink ik_0 (by omega)) rfl (by decide) rfl ?_
    refine Vm.iconst (n := 38) (v := (0 : Int32)) dX6_refresh_37 rfl (by decide) ?_
    refine Vm.aload_n (n := 39) 0 dX6_refresh_38 rfl rfl ?_
    refine Vm.getR (n := 42) dX6_refresh_39 rfl wf_RX6_32 in_6 rfl (by decide) rfl ?_
    refine Vm.iconst (n := 43) (v := (0 : Int32)) dX6_refresh_42 rfl (by decide) ?_
    refine Vm.iconst (n := 44) (v := (4 : Int32)) dX6_refresh_43 rfl (by decide) ?_
    replace h := Option.bind_eq_some_iff.mp h
    obtain ⟨σ6, h6, h⟩ := h
    refine Vm.aci (n := 47) dX6_refresh_44 rfl wy_RX6_42 (ink ik_8 (by omega)) rfl rfl (by decide) in_15 rfl rfl (by decide) (Nat.le_of_ble_eq_true rfl) (by decide) h6 ?_
    refine Vm.aload_n (n := 48) 1 dX6_refresh_47 rfl rfl ?_
    refine Vm.getR (n := 51) dX6_refresh_48 rfl wf_RX6_48 (ink ik_0 (by omega)) rfl (by decide) rfl ?_
    refine Vm.iconst (n := 52) (v := (0 : Int32)) dX6_refresh_51 rfl (by decide) ?_
    refine Vm.aload_n (n := 53) 0 dX6_refresh_52 rfl rfl ?_
    refine Vm.getR (n := 56) dX6_refresh_53 rfl wf_RX6_36 in_6 rfl (by decide) rfl ?_
    refine Vm.iconst (n := 57) (v := (0 : Int32)) dX6_refresh_56 rfl (by decide) ?_
    refine Vm.iconst (n := 58) (v := (4 : Int32)) dX6_refresh_57 rfl (by decide) ?_
    replace h := Option.bind_eq_some_iff.mp h
    obtain ⟨σ7, h7, h⟩ := h
    refine Vm.aci (n := 61) dX6_refresh_58 rfl wy_RX6_42 (ink ik_9 (by omega)) rfl rfl (by decide) in_16 rfl rfl (by decide) (Nat.le_of_ble_eq_true rfl) (by decide) h7 ?_
    refine Vm.aload_n (n := 62) 0 dX6_refresh_61 rfl rfl ?_
    refine Vm.aload_n (n := 63) 1 dX6_refresh_62 rfl rfl ?_
    refine Vm.iconst (n := 64) (v := (0 : Int32)) dX6_refresh_63 rfl (by decide) ?_
    replace h := Option.bind_eq_some_iff.mp h
    obtain ⟨q8, h8, h⟩ := h
    refine Vm.callVv (Y := mX6_grow) (n := 67) [.inr (.inr (0, a1)), .inl (0 : Int32)] dX6_refresh_64 rfl wv_RX6_49 omX6_grow rfl in_6 rfl rfl rfl (Nat.le_of_ble_eq_true rfl) (by decide) (kX6_grow 26 a1 (by omega) (0 : Int32) σ7 τ h8) ?_
    obtain rfl := Option.some.inj h
    exact Vm.vret dX6_refresh_67 rfl hk.1 hk.2.symm
  · replace h := (if_pos c9).symm.trans h
    obtain rfl := Option.some.inj h
    exact Vm.vret dX6_refresh_7 rfl hk.1 hk.2.symm
theorem kX6_refresh (a1 : Nat) (ha1 : a1 < 3) (σ τ : mm) {q : mm} (h : fX6_refresh a1 σ = some q) : Cx mX6_refresh 32 [.inr (.inr (6, 0)), .inr (.inr (0, a1))] (σ, τ) (none) (q, τ) :=
  Cx.of (lv := [(0, .inr (.inr (6, 0))), (1, .inr (.inr (0, a1)))]) (by decide) (fun ad => Nat.le_of_ble_eq_true rfl) (fun ad => rfl) (lX6_refresh_0 a1 ha1 σ τ h ⟨rfl, rfl⟩)
-- ThinBodies tree (I)I
noncomputable def fX7_tree_9 (σ : mm) : Option (Int32 × mm) :=
  Option.bind (fX7_finding (0 : Int32) σ) fun q1 =>
  some ((q1.1, q1.2))
noncomputable def fX7_tree_0 (a1 : Int32) (σ : mm) : Option (Int32 × mm) :=
  if a1 < (0 : Int32) then
  fX7_tree_9 σ
  else
  if a1 ≤ (3 : Int32) then
  Option.bind (fX6_refresh 0 σ) fun q1 =>
  if a1 = (0 : Int32) then
  some ((q1.1 6 0 1, q1))
  else
  if a1 = (1 : Int32) then
  some ((q1.1 6 0 4, q1))
  else
  if a1 = (2 : Int32) then
  some ((q1.1 6 0 3, q1))
  else
  some (((q1.1 6 0 2) - (q1.1 6 0 3), q1))
  else
  fX7_tree_9 σ
noncomputable def fX7_tree (a1 : Int32) (σ : mm) : Option (Int32 × mm) := fX7_tree_0 a1 σ
set_option maxRecDepth 20000 in
theorem lX7_tree_9 (σ τ : mm) {r : Option mv} {M' : mm × mm} {v9 : Int32 × mm} (h : fX7_tree_9 σ = some v9) (hk : (fun q : Int32 × mm => r = some (.inl q.1) ∧ M' = (q.2, τ)) v9) : Vm mX7_tree 33 9 [(0, .inr (.inr (7, 0)))] [] (σ, τ) r M' := by
  unfold fX7_tree_9 at h
  refine Vm.aload_n (n := 10) 0 dX7_tree_9 rfl rfl ?_
  refine Vm.iconst (n := 11) (v := (0 : Int32)) dX7_tree_10 rfl (by decide) ?_
  replace h := Option.bind_eq_some_iff.mp h
  obtain ⟨q1, h1, h⟩ := h
  refine Vm.callV (Y := mX7_finding) (n := 14) [.inl (0 : Int32)] dX7_tree_11 rfl wv_RX7_68 omX7_finding rfl in_7 rfl rfl rfl (Nat.le_of_ble_eq_true rfl) (by decide) (kX7_finding (0 : Int32) σ τ h1) ?_
  obtain rfl := Option.some.inj h
  exact Vm.iret dX7_tree_14 rfl hk.1 hk.2.symm
set_option maxRecDepth 20000 in
theorem lX7_tree_0 (a1 : Int32) (σ τ : mm) {r : Option mv} {M' : mm × mm} {v9 : Int32 × mm} (h : fX7_tree_0 a1 σ = some v9) (hk : (fun q : Int32 × mm => r = some (.inl q.1) ∧ M' = (q.2, τ)) v9) : Vm mX7_tree 33 0 [(0, .inr (.inr (7, 0))), (1, .inl a1)] [] (σ, τ) r M' := by
  unfold fX7_tree_0 at h
  refine Vm.iload_n (n := 1) 1 dX7_tree_0 rfl rfl ?_
  refine Vm.if_lt (n := 4) 9 dX7_tree_1 rfl rfl (fun c9 => ?_) (fun c9 => ?_)
  · replace h := (if_pos c9).symm.trans h
    refine Vm.sub (lv' := [(0, .inr (.inr (7, 0)))]) [0] rfl ?_
    exact lX7_tree_9 σ τ h hk
  · replace h := (if_neg c9).symm.trans h
    refine Vm.iload_n (n := 5) 1 dX7_tree_4 rfl rfl ?_
    refine Vm.iconst (n := 6) (v := (3 : Int32)) dX7_tree_5 rfl (by decide) ?_
    refine Vm.icmp_le (n := 9) 15 dX7_tree_6 rfl rfl (fun c9 => ?_) (fun c9 => ?_)
    · replace h := (if_pos c9).symm.trans h
      refine Vm.aload_n (n := 16) 0 dX7_tree_15 rfl rfl ?_
      refine Vm.getR (n := 19) dX7_tree_16 rfl wf_RX7_36 in_7 rfl (by decide) rfl ?_
      refine Vm.aload_n (n := 20) 0 dX7_tree_19 rfl rfl ?_
      refine Vm.getR (n := 23) dX7_tree_20 rfl wf_RX7_12 in_7 rfl (by decide) rfl ?_
      replace h := Option.bind_eq_some_iff.mp h
      obtain ⟨q1, h1, h⟩ := h
      refine Vm.callVv (Y := mX6_refresh) (n := 26) [.inr (.inr (0, 0))] dX7_tree_23 rfl wv_RX7_228 omX6_refresh rfl in_6 rfl rfl rfl (Nat.le_of_ble_eq_true rfl) (by decide) (kX6_refresh 0 (by decide) σ τ h1) ?_
      refine Vm.iload_n (n := 27) 1 dX7_tree_26 rfl rfl ?_
      refine Vm.if_ne (n := 30) 38 dX7_tree_27 rfl rfl (fun c9 => ?_) (fun c9 => ?_)
      · replace h := (if_neg c9).symm.trans h
        refine Vm.iload_n (n := 39) 1 dX7_tree_38 rfl rfl ?_
        refine Vm.iconst (n := 40) (v := (1 : Int32)) dX7_tree_39 rfl (by decide) ?_
        refine Vm.icmp_ne (n := 43) 51 dX7_tree_40 rfl rfl (fun c9 => ?_) (fun c9 => ?_)
        · replace h := (if_neg c9).symm.trans h
          refine Vm.iload_n (n := 52) 1 dX7_tree_51 rfl rfl ?_
          refine Vm.iconst (n := 53) (v := (2 : Int32)) dX7_tree_52 rfl (by decide) ?_
          refine Vm.icmp_ne (n := 56) 66 dX7_tree_53 rfl rfl (fun c9 => ?_) (fun c9 => ?_)
          · replace h := (if_neg c9).symm.trans h
            refine Vm.aload_n (n := 67) 0 dX7_tree_66 rfl rfl ?_
            refine Vm.getR (n := 70) dX7_tree_67 rfl wf_RX7_36 in_7 rfl (by decide) rfl ?_
            refine Vm.gX (n := 73) dX7_tree_70 rfl wf_RX7_238 in_6 rfl (by decide) rfl (by decide) ?_
            refine Vm.aload_n (n := 74) 0 dX7_tree_73 rfl rfl ?_
            refine Vm.getR (n := 77) dX7_tree_74 rfl wf_RX7_36 in_7 rfl (by decide) rfl ?_
            refine Vm.gX (n := 80) dX7_tree_77 rfl wf_RX7_235 in_6 rfl (by decide) rfl (by decide) ?_
            refine Vm.isub (n := 81) dX7_tree_80 rfl ?_
            obtain rfl := Option.some.inj h
            exact Vm.iret dX7_tree_81 rfl hk.1 hk.2.symm
          · replace h := (if_pos c9).symm.trans h
            refine Vm.aload_n (n := 57) 0 dX7_tree_56 rfl rfl ?_
            refine Vm.getR (n := 60) dX7_tree_57 rfl wf_RX7_36 in_7 rfl (by decide) rfl ?_
            refine Vm.gX (n := 63) dX7_tree_60 rfl wf_RX7_235 in_6 rfl (by decide) rfl (by decide) ?_
            refine Vm.goto 81 dX7_tree_63 rfl ?_
            obtain rfl := Option.some.inj h
            exact Vm.iret dX7_tree_81 rfl hk.1 hk.2.symm
        · replace h := (if_pos c9).symm.trans h
          refine Vm.aload_n (n := 44) 0 dX7_tree_43 rfl rfl ?_
          refine Vm.getR (n := 47) dX7_tree_44 rfl wf_RX7_36 in_7 rfl (by decide) rfl ?_
          refine Vm.gX (n := 50) dX7_tree_47 rfl wf_RX7_232 in_6 rfl (by decide) rfl (by decide) ?_
          obtain rfl := Option.some.inj h
          exact Vm.iret dX7_tree_50 rfl hk.1 hk.2.symm
      · replace h := (if_pos c9).symm.trans h
        refine Vm.aload_n (n := 31) 0 dX7_tree_30 rfl rfl ?_
        refine Vm.getR (n := 34) dX7_tree_31 rfl wf_RX7_36 in_7 rfl (by decide) rfl ?_
        refine Vm.gX (n := 37) dX7_tree_34 rfl wf_RX7_229 in_6 rfl (by decide) rfl (by decide) ?_
        obtain rfl := Option.some.inj h
        exact Vm.iret dX7_tree_37 rfl hk.1 hk.2.symm
    · replace h := (if_neg c9).symm.trans h
      refine Vm.sub (lv' := [(0, .inr (.inr (7, 0)))]) [0] rfl ?_
      exact lX7_tree_9 σ τ h hk
theorem kX7_tree (a1 : Int32) (σ τ : mm) {q : Int32 × mm} (h : fX7_tree a1 σ = some q) : Cx mX7_tree 33 [.inr (.inr (7, 0)), .inl a1] (σ, τ) (some (.inl q.1)) (q.2, τ) :=
  Cx.of (lv := [(0, .inr (.inr (7, 0))), (1, .inl a1)]) (by decide) (fun ad => Nat.le_of_ble_eq_true rfl) (fun ad => rfl) (lX7_tree_0 a1 σ τ h ⟨rfl, rfl⟩)
-- ThinBodies$Tree hasLeaf (I)Z
def fX6_hasLeaf_0 (a1 : Int32) (σ : mm) : Bool :=
  if a1 < (0 : Int32) then
  false
  else
  if (σ.1 6 0 2) ≤ a1 then
  false
  else
  true
def fX6_hasLeaf (a1 : Int32) (σ : mm) : Bool := fX6_hasLeaf_0 a1 σ
set_option maxRecDepth 20000 in
theorem lX6_hasLeaf_0 (a1 : Int32) (σ σ0 τ : mm) (hσ : σ = σ0) {r : Option mv} {M' : mm × mm} {v9 : Bool} (h : fX6_hasLeaf_0 a1 σ = v9) (hk : (fun q : Bool => r = some (.inl (bi q)) ∧ M' = (σ0, τ)) v9) : Vm mX6_hasLeaf 0 0 [(0, .inr (.inr (6, 0))), (1, .inl a1)] [] (σ, τ) r M' := by
  unfold fX6_hasLeaf_0 at h
  refine Vm.iload_n (n := 1) 1 dX6_hasLeaf_0 rfl rfl ?_
  refine Vm.if_lt (n := 4) 16 dX6_hasLeaf_1 rfl rfl (fun c9 => ?_) (fun c9 => ?_)
  · replace h := (if_pos c9).symm.trans h
    refine Vm.iconst (n := 17) (v := (0 : Int32)) dX6_hasLeaf_16 rfl (by decide) ?_
    subst h
    exact Vm.zret (b := false) dX6_hasLeaf_17 rfl rfl hk.1 (by rw [hσ]; exact hk.2.symm)
  · replace h := (if_neg c9).symm.trans h
    refine Vm.iload_n (n := 5) 1 dX6_hasLeaf_4 rfl rfl ?_
    refine Vm.aload_n (n := 6) 0 dX6_hasLeaf_5 rfl rfl ?_
    refine Vm.gX (n := 9) dX6_hasLeaf_6 rfl wf_RX6_19 in_6 rfl (by decide) rfl (by decide) ?_
    refine Vm.icmp_ge (n := 12) 16 dX6_hasLeaf_9 rfl rfl (fun c9 => ?_) (fun c9 => ?_)
    · replace h := (if_pos c9).symm.trans h
      refine Vm.iconst (n := 17) (v := (0 : Int32)) dX6_hasLeaf_16 rfl (by decide) ?_
      subst h
      exact Vm.zret (b := false) dX6_hasLeaf_17 rfl rfl hk.1 (by rw [hσ]; exact hk.2.symm)
    · replace h := (if_neg c9).symm.trans h
      refine Vm.iconst (n := 13) (v := (1 : Int32)) dX6_hasLeaf_12 rfl (by decide) ?_
      refine Vm.goto 17 dX6_hasLeaf_13 rfl ?_
      subst h
      exact Vm.zret (b := true) dX6_hasLeaf_17 rfl rfl hk.1 (by rw [hσ]; exact hk.2.symm)
theorem kX6_hasLeaf (a1 : Int32) (σ τ : mm) {q : Bool} (h : fX6_hasLeaf a1 σ = q) : Cx mX6_hasLeaf 0 [.inr (.inr (6, 0)), .inl a1] (σ, τ) (some (.inl (bi q))) (σ, τ) :=
  Cx.of (lv := [(0, .inr (.inr (6, 0))), (1, .inl a1)]) (by decide) (fun ad => Nat.le_of_ble_eq_true rfl) (fun ad => rfl) (lX6_hasLeaf_0 a1 σ σ τ rfl h ⟨rfl, rfl⟩)
-- ThinBodies$Tree deadRow (I)I
def fX6_deadRow_0 (a1 : Int32) (σ : mm) : Option (Int32) :=
  Option.bind (rdL σ 22 0 4096 a1) fun x1 =>
  some (((x1 >>> ((40 : Int32).toInt64 &&& 63)).toInt32) - (1 : Int32))
def fX6_deadRow (a1 : Int32) (σ : mm) : Option (Int32) := fX6_deadRow_0 a1 σ
set_option maxRecDepth 20000 in
theorem lX6_deadRow_0 (a1 : Int32) (σ σ0 τ : mm) (hσ : σ = σ0) {r : Option mv} {M' : mm × mm} {v9 : Int32} (h : fX6_deadRow_0 a1 σ = some v9) (hk : (fun q : Int32 => r = some (.inl q) ∧ M' = (σ0, τ)) v9) : Vm mX6_deadRow 0 0 [(0, .inr (.inr (6, 0))), (1, .inl a1)] [] (σ, τ) r M' := by
  unfold fX6_deadRow_0 at h
  refine Vm.aload_n (n := 1) 0 dX6_deadRow_0 rfl rfl ?_
  refine Vm.getR (n := 4) dX6_deadRow_1 rfl wf_RX6_28 in_6 rfl (by decide) rfl ?_
  refine Vm.iload_n (n := 5) 1 dX6_deadRow_4 rfl rfl ?_
  replace h := Option.bind_eq_some_iff.mp h
  obtain ⟨x1, h1, h⟩ := h
  refine Vm.laldx (n := 6) dX6_deadRow_5 rfl in_22 rfl rfl (by decide) h1 ?_
  refine Vm.bipush (n := 8) (v := (40 : Int32)) dX6_deadRow_6 rfl (by decide) ?_
  refine Vm.lshr (n := 9) dX6_deadRow_8 rfl ?_
  refine Vm.l2i (n := 10) dX6_deadRow_9 rfl ?_
  refine Vm.iconst (n := 11) (v := (1 : Int32)) dX6_deadRow_10 rfl (by decide) ?_
  refine Vm.isub (n := 12) dX6_deadRow_11 rfl ?_
  obtain rfl := Option.some.inj h
  exact Vm.iret dX6_deadRow_12 rfl hk.1 (by rw [hσ]; exact hk.2.symm)
theorem kX6_deadRow (a1 : Int32) (σ τ : mm) {q : Int32} (h : fX6_deadRow a1 σ = some q) : Cx mX6_deadRow 0 [.inr (.inr (6, 0)), .inl a1] (σ, τ) (some (.inl q)) (σ, τ) :=
  Cx.of (lv := [(0, .inr (.inr (6, 0))), (1, .inl a1)]) (by decide) (fun ad => Nat.le_of_ble_eq_true rfl) (fun ad => rfl) (lX6_deadRow_0 a1 σ σ τ rfl h ⟨rfl, rfl⟩)
-- ThinBodies$Tree highOf (II)I
def fX6_highOf_0 (a1 : Int32) (a2 : Int32) (σ : mm) : Option (Int32) :=
  Option.bind (rdL σ 22 0 4096 a1) fun x1 =>
  some ((fX7_unpack (((x1 >>> ((20 : Int32).toInt64 &&& 63)) &&& (1048575 : Int64)).toInt32) a2))
def fX6_highOf (a1 : Int32) (a2 : Int32) (σ : mm) : Option (Int32) := fX6_highOf_0 a1 a2 σ
set_option maxRecDepth 20000 in
theorem lX6_highOf_0 (a1 : Int32) (a2 : Int32) (σ σ0 τ : mm) (hσ : σ = σ0) {r : Option mv} {M' : mm × mm} {v9 : Int32} (h : fX6_highOf_0 a1 a2 σ = some v9) (hk : (fun q : Int32 => r = some (.inl q) ∧ M' = (σ0, τ)) v9) : Vm mX6_highOf 1 0 [(0, .inr (.inr (6, 0))), (1, .inl a1), (2, .inl a2)] [] (σ, τ) r M' := by
  unfold fX6_highOf_0 at h
  refine Vm.aload_n (n := 1) 0 dX6_highOf_0 rfl rfl ?_
  refine Vm.getR (n := 4) dX6_highOf_1 rfl wf_RX6_28 in_6 rfl (by decide) rfl ?_
  refine Vm.iload_n (n := 5) 1 dX6_highOf_4 rfl rfl ?_
  replace h := Option.bind_eq_some_iff.mp h
  obtain ⟨x1, h1, h⟩ := h
  refine Vm.laldx (n := 6) dX6_highOf_5 rfl in_22 rfl rfl (by decide) h1 ?_
  refine Vm.bipush (n := 8) (v := (20 : Int32)) dX6_highOf_6 rfl (by decide) ?_
  refine Vm.lshr (n := 9) dX6_highOf_8 rfl ?_
  refine Vm.ldc2 (n := 12) dX6_highOf_9 rfl wl_RX6_104 ?_
  refine Vm.land (n := 13) dX6_highOf_12 rfl ?_
  refine Vm.l2i (n := 14) dX6_highOf_13 rfl ?_
  refine Vm.iload_n (n := 15) 2 dX6_highOf_14 rfl rfl ?_
  refine Vm.callN (Y := mX7_unpack) (n := 18) [.inl (((x1 >>> ((20 : Int32).toInt64 &&& 63)) &&& (1048575 : Int64)).toInt32), .inl a2] dX6_highOf_15 rfl wv_RX6_106 omX7_unpack rfl rfl (Nat.le_of_ble_eq_true rfl) (by decide) (kX7_unpack (((x1 >>> ((20 : Int32).toInt64 &&& 63)) &&& (1048575 : Int64)).toInt32) a2 rfl) ?_
  obtain rfl := Option.some.inj h
  exact Vm.iret dX6_highOf_18 rfl hk.1 (by rw [hσ]; exact hk.2.symm)
theorem kX6_highOf (a1 : Int32) (a2 : Int32) (σ τ : mm) {q : Int32} (h : fX6_highOf a1 a2 σ = some q) : Cx mX6_highOf 1 [.inr (.inr (6, 0)), .inl a1, .inl a2] (σ, τ) (some (.inl q)) (σ, τ) :=
  Cx.of (lv := [(0, .inr (.inr (6, 0))), (1, .inl a1), (2, .inl a2)]) (by decide) (fun ad => Nat.le_of_ble_eq_true rfl) (fun ad => rfl) (lX6_highOf_0 a1 a2 σ σ τ rfl h ⟨rfl, rfl⟩)
-- ThinBodies$Tree lowOf (II)I
def fX6_lowOf_0 (a1 : Int32) (a2 : Int32) (σ : mm) : Option (Int32) :=
  Option.bind (rdL σ 22 0 4096 a1) fun x1 =>
  some ((fX7_unpack ((x1 &&& (1048575 : Int64)).toInt32) a2))
def fX6_lowOf (a1 : Int32) (a2 : Int32) (σ : mm) : Option (Int32) := fX6_lowOf_0 a1 a2 σ
set_option maxRecDepth 20000 in
theorem lX6_lowOf_0 (a1 : Int32) (a2 : Int32) (σ σ0 τ : mm) (hσ : σ = σ0) {r : Option mv} {M' : mm × mm} {v9 : Int32} (h : fX6_lowOf_0 a1 a2 σ = some v9) (hk : (fun q : Int32 => r = some (.inl q) ∧ M' = (σ0, τ)) v9) : Vm mX6_lowOf 1 0 [(0, .inr (.inr (6, 0))), (1, .inl a1), (2, .inl a2)] [] (σ, τ) r M' := by
  unfold fX6_lowOf_0 at h
  refine Vm.aload_n (n := 1) 0 dX6_lowOf_0 rfl rfl ?_
  refine Vm.getR (n := 4) dX6_lowOf_1 rfl wf_RX6_28 in_6 rfl (by decide) rfl ?_
  refine Vm.iload_n (n := 5) 1 dX6_lowOf_4 rfl rfl ?_
  replace h := Option.bind_eq_some_iff.mp h
  obtain ⟨x1, h1, h⟩ := h
  refine Vm.laldx (n := 6) dX6_lowOf_5 rfl in_22 rfl rfl (by decide) h1 ?_
  refine Vm.ldc2 (n := 9) dX6_lowOf_6 rfl wl_RX6_104 ?_
  refine Vm.land (n := 10) dX6_lowOf_9 rfl ?_
  refine Vm.l2i (n := 11) dX6_lowOf_10 rfl ?_
  refine Vm.iload_n (n := 12) 2 dX6_lowOf_11 rfl rfl ?_
  refine Vm.callN (Y := mX7_unpack) (n := 15) [.inl ((x1 &&& (1048575 : Int64)).toInt32), .inl a2] dX6_lowOf_12 rfl wv_RX6_106 omX7_unpack rfl rfl (Nat.le_of_ble_eq_true rfl) (by decide) (kX7_unpack ((x1 &&& (1048575 : Int64)).toInt32) a2 rfl) ?_
  obtain rfl := Option.some.inj h
  exact Vm.iret dX6_lowOf_15 rfl hk.1 (by rw [hσ]; exact hk.2.symm)
theorem kX6_lowOf (a1 : Int32) (a2 : Int32) (σ τ : mm) {q : Int32} (h : fX6_lowOf a1 a2 σ = some q) : Cx mX6_lowOf 1 [.inr (.inr (6, 0)), .inl a1, .inl a2] (σ, τ) (some (.inl q)) (σ, τ) :=
  Cx.of (lv := [(0, .inr (.inr (6, 0))), (1, .inl a1), (2, .inl a2)]) (by decide) (fun ad => Nat.le_of_ble_eq_true rfl) (fun ad => rfl) (lX6_lowOf_0 a1 a2 σ σ τ rfl h ⟨rfl, rfl⟩)
-- ThinBodies$Tree pointsIn (II)I
noncomputable def fX6_pointsIn_5 (a1 : Int32) (a2 : Int32) (a3 : Int32) (a4 : Int32) (σ : mm) : Option ((Int32 × Int32) ⊕ (Int32)) :=
  if a2 ≤ a4 then
  some (.inr (a3))
  else
  Option.bind (fX6_highOf a1 a4 σ) fun q1 =>
  Option.bind (fX6_lowOf a1 a4 σ) fun q2 =>
  Option.bind (some (a3 * ((q1 - q2) + (1 : Int32)))) fun x3 =>
  Option.bind (some (a4 + (1 : Int32))) fun x4 =>
  some (.inl (x3, x4))
noncomputable def fX6_pointsIn_5_L (a1 : Int32) (a2 : Int32) (σ : mm) : Int32 × Int32 → Option ((Int32 × Int32) ⊕ (Int32)) := fun z => fX6_pointsIn_5 a1 a2 z.1 z.2 σ
noncomputable def fX6_pointsIn_0 (a1 : Int32) (a2 : Int32) (σ : mm) : Option (Int32) :=
  lp (fX6_pointsIn_5_L a1 a2 σ) ((1 : Int32), (0 : Int32))
noncomputable def fX6_pointsIn (a1 : Int32) (a2 : Int32) (σ : mm) : Option (Int32) := fX6_pointsIn_0 a1 a2 σ
set_option maxRecDepth 20000 in
theorem lX6_pointsIn_5 (a1 : Int32) (a2 : Int32) (a3 : Int32) (a4 : Int32) (σ σ0 τ : mm) (hσ : σ = σ0) {r : Option mv} {M' : mm × mm} {v9 : (Int32 × Int32) ⊕ (Int32)} (h : fX6_pointsIn_5 a1 a2 a3 a4 σ = some v9) (hk : (Sum.elim (fun z : Int32 × Int32 => Vm mX6_pointsIn 2 5 [(0, .inr (.inr (6, 0))), (1, .inl a1), (2, .inl a2), (3, .inl z.1), (4, .inl z.2)] [] (σ, τ) r M') (fun q : Int32 => r = some (.inl q) ∧ M' = (σ0, τ))) v9) : Vm mX6_pointsIn 2 5 [(0, .inr (.inr (6, 0))), (1, .inl a1), (2, .inl a2), (3, .inl a3), (4, .inl a4)] [] (σ, τ) r M' := by
  unfold fX6_pointsIn_5 at h
  refine Vm.iload (n := 7) 4 dX6_pointsIn_5 rfl rfl ?_
  refine Vm.iload_n (n := 8) 2 dX6_pointsIn_7 rfl rfl ?_
  refine Vm.icmp_ge (n := 11) 37 dX6_pointsIn_8 rfl rfl (fun c9 => ?_) (fun c9 => ?_)
  · replace h := (if_pos c9).symm.trans h
    refine Vm.iload_n (n := 38) 3 dX6_pointsIn_37 rfl rfl ?_
    obtain rfl := Option.some.inj h
    exact Vm.iret dX6_pointsIn_38 rfl hk.1 (by rw [hσ]; exact hk.2.symm)
  · replace h := (if_neg c9).symm.trans h
    refine Vm.iload_n (n := 12) 3 dX6_pointsIn_11 rfl rfl ?_
    refine Vm.aload_n (n := 13) 0 dX6_pointsIn_12 rfl rfl ?_
    refine Vm.iload_n (n := 14) 1 dX6_pointsIn_13 rfl rfl ?_
    refine Vm.iload (n := 16) 4 dX6_pointsIn_14 rfl rfl ?_
    replace h := Option.bind_eq_some_iff.mp h
    obtain ⟨q1, h1, h⟩ := h
    refine Vm.callV (Y := mX6_highOf) (n := 19) [.inl a1, .inl a4] dX6_pointsIn_16 rfl wv_RX6_109 omX6_highOf rfl in_6 rfl rfl rfl (Nat.le_of_ble_eq_true rfl) (by decide) (kX6_highOf a1 a4 σ τ h1) ?_
    refine Vm.aload_n (n := 20) 0 dX6_pointsIn_19 rfl rfl ?_
    refine Vm.iload_n (n := 21) 1 dX6_pointsIn_20 rfl rfl ?_
    refine Vm.iload (n := 23) 4 dX6_pointsIn_21 rfl rfl ?_
    replace h := Option.bind_eq_some_iff.mp h
    obtain ⟨q2, h2, h⟩ := h
    refine Vm.callV (Y := mX6_lowOf) (n := 26) [.inl a1, .inl a4] dX6_pointsIn_23 rfl wv_RX6_112 omX6_lowOf rfl in_6 rfl rfl rfl (Nat.le_of_ble_eq_true rfl) (by decide) (kX6_lowOf a1 a4 σ τ h2) ?_
    refine Vm.isub (n := 27) dX6_pointsIn_26 rfl ?_
    refine Vm.iconst (n := 28) (v := (1 : Int32)) dX6_pointsIn_27 rfl (by decide) ?_
    refine Vm.iadd (n := 29) dX6_pointsIn_28 rfl ?_
    refine Vm.imul (n := 30) dX6_pointsIn_29 rfl ?_
    replace h := Option.bind_eq_some_iff.mp h
    obtain ⟨x3, e3, h⟩ := h
    replace e3 := Option.some.inj e3
    refine Vm.top e3 ?_
    refine Vm.istore_n (n := 31) (lv' := [(3, .inl x3), (0, .inr (.inr (6, 0))), (1, .inl a1), (2, .inl a2), (4, .inl a4)]) dX6_pointsIn_30 rfl (Nat.le_of_ble_eq_true rfl) rfl ?_
    replace h := Option.bind_eq_some_iff.mp h
    obtain ⟨x4, e4, h⟩ := h
    replace e4 := Option.some.inj e4
    refine Vm.iinc (n := 34) (v := x4) (lv' := [(4, .inl x4), (3, .inl x3), (0, .inr (.inr (6, 0))), (1, .inl a1), (2, .inl a2)]) 4 dX6_pointsIn_31 rfl rfl e4 (Nat.le_of_ble_eq_true rfl) rfl ?_
    refine Vm.goto 5 dX6_pointsIn_34 rfl ?_
    refine Vm.sub (lv' := [(0, .inr (.inr (6, 0))), (1, .inl a1), (2, .inl a2), (3, .inl x3), (4, .inl x4)]) [2, 3, 4, 1, 0] rfl ?_
    obtain rfl := Option.some.inj h
    exact hk
theorem lX6_pointsIn_5_L (a1 : Int32) (a2 : Int32) (σ σ0 τ : mm) (hσ : σ = σ0) {r : Option mv} {M' : mm × mm} (z : Int32 × Int32) (w9 : Int32) (h : lp (fX6_pointsIn_5_L a1 a2 σ) z = some w9) (hk : (fun q : Int32 => r = some (.inl q) ∧ M' = (σ0, τ)) w9) : Vm mX6_pointsIn 2 5 [(0, .inr (.inr (6, 0))), (1, .inl a1), (2, .inl a2), (3, .inl z.1), (4, .inl z.2)] [] (σ, τ) r M' :=
  lp_link (S := Int32 × Int32) (R := Int32) (body := fX6_pointsIn_5_L a1 a2 σ) (A := fun z : Int32 × Int32 => Vm mX6_pointsIn 2 5 [(0, .inr (.inr (6, 0))), (1, .inl a1), (2, .inl a2), (3, .inl z.1), (4, .inl z.2)] [] (σ, τ) r M') (B := fun w : Int32 => (fun q : Int32 => r = some (.inl q) ∧ M' = (σ0, τ)) w) (fun z v hb hv => lX6_pointsIn_5 a1 a2 z.1 z.2 σ σ0 τ hσ hb hv) z w9 h hk
set_option maxRecDepth 20000 in
theorem lX6_pointsIn_0 (a1 : Int32) (a2 : Int32) (σ σ0 τ : mm) (hσ : σ = σ0) {r : Option mv} {M' : mm × mm} {v9 : Int32} (h : fX6_pointsIn_0 a1 a2 σ = some v9) (hk : (fun q : Int32 => r = some (.inl q) ∧ M' = (σ0, τ)) v9) : Vm mX6_pointsIn 2 0 [(0, .inr (.inr (6, 0))), (1, .inl a1), (2, .inl a2)] [] (σ, τ) r M' := by
  unfold fX6_pointsIn_0 at h
  refine Vm.iconst (n := 1) (v := (1 : Int32)) dX6_pointsIn_0 rfl (by decide) ?_
  refine Vm.istore_n (n := 2) (lv' := [(3, .inl (1 : Int32)), (0, .inr (.inr (6, 0))), (1, .inl a1), (2, .inl a2)]) dX6_pointsIn_1 rfl (Nat.le_of_ble_eq_true rfl) rfl ?_
  refine Vm.iconst (n := 3) (v := (0 : Int32)) dX6_pointsIn_2 rfl (by decide) ?_
  refine Vm.istore (n := 5) (lv' := [(4, .inl (0 : Int32)), (3, .inl (1 : Int32)), (0, .inr (.inr (6, 0))), (1, .inl a1), (2, .inl a2)]) dX6_pointsIn_3 rfl (Nat.le_of_ble_eq_true rfl) rfl ?_
  refine Vm.sub (lv' := [(0, .inr (.inr (6, 0))), (1, .inl a1), (2, .inl a2), (3, .inl (1 : Int32)), (4, .inl (0 : Int32))]) [2, 3, 4, 1, 0] rfl ?_
  exact lX6_pointsIn_5_L a1 a2 σ σ0 τ hσ ((1 : Int32), (0 : Int32)) _ h hk
theorem kX6_pointsIn (a1 : Int32) (a2 : Int32) (σ τ : mm) {q : Int32} (h : fX6_pointsIn a1 a2 σ = some q) : Cx mX6_pointsIn 2 [.inr (.inr (6, 0)), .inl a1, .inl a2] (σ, τ) (some (.inl q)) (σ, τ) :=
  Cx.of (lv := [(0, .inr (.inr (6, 0))), (1, .inl a1), (2, .inl a2)]) (by decide) (fun ad => Nat.le_of_ble_eq_true rfl) (fun ad => rfl) (lX6_pointsIn_0 a1 a2 σ σ τ rfl h ⟨rfl, rfl⟩)
-- ThinBodies leaf (II)I
noncomputable def fX7_leaf_9 (σ : mm) : Option (Int32 × mm) :=
  Option.bind (fX7_finding (0 : Int32) σ) fun q1 =>
  some ((q1.1, q1.2))
noncomputable def fX7_leaf_0 (a1 : Int32) (a2 : Int32) (σ : mm) : Option (Int32 × mm) :=
  if a2 < (0 : Int32) then
  fX7_leaf_9 σ
  else
  if a2 ≤ (2 : Int32) then
  Option.bind (fX6_refresh 0 σ) fun q1 =>
  if (bi (fX6_hasLeaf a1 q1)) = (0 : Int32) then
  Option.bind (fX7_finding (3 : Int32) q1) fun q5 =>
  some ((q5.1, q5.2))
  else
  if a2 = (0 : Int32) then
  Option.bind (fX6_deadRow a1 q1) fun q4 =>
  if (0 : Int32) ≤ q4 then
  some (((0 : Int32), q1))
  else
  some (((1 : Int32), q1))
  else
  if a2 = (1 : Int32) then
  Option.bind (fX6_pointsIn a1 (q1.1 0 0 0) q1) fun q3 =>
  some ((q3, q1))
  else
  Option.bind (fX6_deadRow a1 q1) fun q2 =>
  some ((q2, q1))
  else
  fX7_leaf_9 σ
noncomputable def fX7_leaf (a1 : Int32) (a2 : Int32) (σ : mm) : Option (Int32 × mm) := fX7_leaf_0 a1 a2 σ
set_option maxRecDepth 20000 in
theorem lX7_leaf_9 (σ τ : mm) {r : Option mv} {M' : mm × mm} {v9 : Int32 × mm} (h : fX7_leaf_9 σ = some v9) (hk : (fun q : Int32 × mm => r = some (.inl q.1) ∧ M' = (q.2, τ)) v9) : Vm mX7_leaf 33 9 [(0, .inr (.inr (7, 0)))] [] (σ, τ) r M' := by
  unfold fX7_leaf_9 at h
  refine Vm.aload_n (n := 10) 0 dX7_leaf_9 rfl rfl ?_
  refine Vm.iconst (n := 11) (v := (0 : Int32)) dX7_leaf_10 rfl (by decide) ?_
  replace h := Option.bind_eq_some_iff.mp h
  obtain ⟨q1, h1, h⟩ := h
  refine Vm.callV (Y := mX7_finding) (n := 14) [.inl (0 : Int32)] dX7_leaf_11 rfl wv_RX7_68 omX7_finding rfl in_7 rfl rfl rfl (Nat.le_of_ble_eq_true rfl) (by decide) (kX7_finding (0 : Int32) σ τ h1) ?_
  obtain rfl := Option.some.inj h
  exact Vm.iret dX7_leaf_14 rfl hk.1 hk.2.symm
set_option maxRecDepth 20000 in
theorem lX7_leaf_0 (a1 : Int32) (a2 : Int32) (σ τ : mm) {r : Option mv} {M' : mm × mm} {v9 : Int32 × mm} (h : fX7_leaf_0 a1 a2 σ = some v9) (hk : (fun q : Int32 × mm => r = some (.inl q.1) ∧ M' = (q.2, τ)) v9) : Vm mX7_leaf 33 0 [(0, .inr (.inr (7, 0))), (1, .inl a1), (2, .inl a2)] [] (σ, τ) r M' := by
  unfold fX7_leaf_0 at h
  refine Vm.iload_n (n := 1) 2 dX7_leaf_0 rfl rfl ?_
  refine Vm.if_lt (n := 4) 9 dX7_leaf_1 rfl rfl (fun c9 => ?_) (fun c9 => ?_)
  · replace h := (if_pos c9).symm.trans h
    refine Vm.sub (lv' := [(0, .inr (.inr (7, 0)))]) [0] rfl ?_
    exact lX7_leaf_9 σ τ h hk
  · replace h := (if_neg c9).symm.trans h
    refine Vm.iload_n (n := 5) 2 dX7_leaf_4 rfl rfl ?_
    refine Vm.iconst (n := 6) (v := (2 : Int32)) dX7_leaf_5 rfl (by decide) ?_
    refine Vm.icmp_le (n := 9) 15 dX7_leaf_6 rfl rfl (fun c9 => ?_) (fun c9 => ?_)
    · replace h := (if_pos c9).symm.trans h
      refine Vm.aload_n (n := 16) 0 dX7_leaf_15 rfl rfl ?_
      refine Vm.getR (n := 19) dX7_leaf_16 rfl wf_RX7_36 in_7 rfl (by decide) rfl ?_
      refine Vm.aload_n (n := 20) 0 dX7_leaf_19 rfl rfl ?_
      refine Vm.getR (n := 23) dX7_leaf_20 rfl wf_RX7_12 in_7 rfl (by decide) rfl ?_
      replace h := Option.bind_eq_some_iff.mp h
      obtain ⟨q1, h1, h⟩ := h
      refine Vm.callVv (Y := mX6_refresh) (n := 26) [.inr (.inr (0, 0))] dX7_leaf_23 rfl wv_RX7_228 omX6_refresh rfl in_6 rfl rfl rfl (Nat.le_of_ble_eq_true rfl) (by decide) (kX6_refresh 0 (by decide) σ τ h1) ?_
      refine Vm.aload_n (n := 27) 0 dX7_leaf_26 rfl rfl ?_
      refine Vm.getR (n := 30) dX7_leaf_27 rfl wf_RX7_36 in_7 rfl (by decide) rfl ?_
      refine Vm.iload_n (n := 31) 1 dX7_leaf_30 rfl rfl ?_
      refine Vm.callV (Y := mX6_hasLeaf) (n := 34) [.inl a1] dX7_leaf_31 rfl wv_RX7_241 omX6_hasLeaf rfl in_6 rfl rfl rfl (Nat.le_of_ble_eq_true rfl) (by decide) (kX6_hasLeaf a1 q1 τ rfl) ?_
      refine Vm.if_ne (n := 37) 43 dX7_leaf_34 rfl rfl (fun c9 => ?_) (fun c9 => ?_)
      · replace h := (if_neg c9).symm.trans h
        refine Vm.iload_n (n := 44) 2 dX7_leaf_43 rfl rfl ?_
        refine Vm.if_ne (n := 47) 64 dX7_leaf_44 rfl rfl (fun c9 => ?_) (fun c9 => ?_)
        · replace h := (if_neg c9).symm.trans h
          refine Vm.iload_n (n := 65) 2 dX7_leaf_64 rfl rfl ?_
          refine Vm.iconst (n := 66) (v := (1 : Int32)) dX7_leaf_65 rfl (by decide) ?_
          refine Vm.icmp_ne (n := 69) 87 dX7_leaf_66 rfl rfl (fun c9 => ?_) (fun c9 => ?_)
          · replace h := (if_neg c9).symm.trans h
            refine Vm.aload_n (n := 88) 0 dX7_leaf_87 rfl rfl ?_
            refine Vm.getR (n := 91) dX7_leaf_88 rfl wf_RX7_36 in_7 rfl (by decide) rfl ?_
            refine Vm.iload_n (n := 92) 1 dX7_leaf_91 rfl rfl ?_
            replace h := Option.bind_eq_some_iff.mp h
            obtain ⟨q2, h2, h⟩ := h
            refine Vm.callV (Y := mX6_deadRow) (n := 95) [.inl a1] dX7_leaf_92 rfl wv_RX7_244 omX6_deadRow rfl in_6 rfl rfl rfl (Nat.le_of_ble_eq_true rfl) (by decide) (kX6_deadRow a1 q1 τ h2) ?_
            obtain rfl := Option.some.inj h
            exact Vm.iret dX7_leaf_95 rfl hk.1 hk.2.symm
          · replace h := (if_pos c9).symm.trans h
            refine Vm.aload_n (n := 70) 0 dX7_leaf_69 rfl rfl ?_
            refine Vm.getR (n := 73) dX7_leaf_70 rfl wf_RX7_36 in_7 rfl (by decide) rfl ?_
            refine Vm.iload_n (n := 74) 1 dX7_leaf_73 rfl rfl ?_
            refine Vm.aload_n (n := 75) 0 dX7_leaf_74 rfl rfl ?_
            refine Vm.getR (n := 78) dX7_leaf_75 rfl wf_RX7_12 in_7 rfl (by decide) rfl ?_
            refine Vm.gX (n := 81) dX7_leaf_78 rfl wf_RX7_75 (ink ik_0 (by decide)) rfl (by decide) rfl (by decide) ?_
            replace h := Option.bind_eq_some_iff.mp h
            obtain ⟨q3, h3, h⟩ := h
            refine Vm.callV (Y := mX6_pointsIn) (n := 84) [.inl a1, .inl (q1.1 0 0 0)] dX7_leaf_81 rfl wv_RX7_247 omX6_pointsIn rfl in_6 rfl rfl rfl (Nat.le_of_ble_eq_true rfl) (by decide) (kX6_pointsIn a1 (q1.1 0 0 0) q1 τ h3) ?_
            refine Vm.goto 95 dX7_leaf_84 rfl ?_
            obtain rfl := Option.some.inj h
            exact Vm.iret dX7_leaf_95 rfl hk.1 hk.2.symm
        · replace h := (if_pos c9).symm.trans h
          refine Vm.aload_n (n := 48) 0 dX7_leaf_47 rfl rfl ?_
          refine Vm.getR (n := 51) dX7_leaf_48 rfl wf_RX7_36 in_7 rfl (by decide) rfl ?_
          refine Vm.iload_n (n := 52) 1 dX7_leaf_51 rfl rfl ?_
          replace h := Option.bind_eq_some_iff.mp h
          obtain ⟨q4, h4, h⟩ := h
          refine Vm.callV (Y := mX6_deadRow) (n := 55) [.inl a1] dX7_leaf_52 rfl wv_RX7_244 omX6_deadRow rfl in_6 rfl rfl rfl (Nat.le_of_ble_eq_true rfl) (by decide) (kX6_deadRow a1 q1 τ h4) ?_
          refine Vm.if_ge (n := 58) 62 dX7_leaf_55 rfl rfl (fun c9 => ?_) (fun c9 => ?_)
          · replace h := (if_pos c9).symm.trans h
            refine Vm.iconst (n := 63) (v := (0 : Int32)) dX7_leaf_62 rfl (by decide) ?_
            obtain rfl := Option.some.inj h
            exact Vm.iret dX7_leaf_63 rfl hk.1 hk.2.symm
          · replace h := (if_neg c9).symm.trans h
            refine Vm.iconst (n := 59) (v := (1 : Int32)) dX7_leaf_58 rfl (by decide) ?_
            refine Vm.goto 63 dX7_leaf_59 rfl ?_
            obtain rfl := Option.some.inj h
            exact Vm.iret dX7_leaf_63 rfl hk.1 hk.2.symm
      · replace h := (if_pos c9).symm.trans h
        refine Vm.aload_n (n := 38) 0 dX7_leaf_37 rfl rfl ?_
        refine Vm.iconst (n := 39) (v := (3 : Int32)) dX7_leaf_38 rfl (by decide) ?_
        replace h := Option.bind_eq_some_iff.mp h
        obtain ⟨q5, h5, h⟩ := h
        refine Vm.callV (Y := mX7_finding) (n := 42) [.inl (3 : Int32)] dX7_leaf_39 rfl wv_RX7_68 omX7_finding rfl in_7 rfl rfl rfl (Nat.le_of_ble_eq_true rfl) (by decide) (kX7_finding (3 : Int32) q1 τ h5) ?_
        obtain rfl := Option.some.inj h
        exact Vm.iret dX7_leaf_42 rfl hk.1 hk.2.symm
    · replace h := (if_neg c9).symm.trans h
      refine Vm.sub (lv' := [(0, .inr (.inr (7, 0)))]) [0] rfl ?_
      exact lX7_leaf_9 σ τ h hk
theorem kX7_leaf (a1 : Int32) (a2 : Int32) (σ τ : mm) {q : Int32 × mm} (h : fX7_leaf a1 a2 σ = some q) : Cx mX7_leaf 33 [.inr (.inr (7, 0)), .inl a1, .inl a2] (σ, τ) (some (.inl q.1)) (q.2, τ) :=
  Cx.of (lv := [(0, .inr (.inr (7, 0))), (1, .inl a1), (2, .inl a2)]) (by decide) (fun ad => Nat.le_of_ble_eq_true rfl) (fun ad => rfl) (lX7_leaf_0 a1 a2 σ τ h ⟨rfl, rfl⟩)
-- ThinBodies side (III)I
noncomputable def fX7_side_20 (σ : mm) : Option (Int32 × mm) :=
  Option.bind (fX7_finding (0 : Int32) σ) fun q1 =>
  some ((q1.1, q1.2))
noncomputable def fX7_side_0 (a1 : Int32) (a2 : Int32) (a3 : Int32) (σ : mm) : Option (Int32 × mm) :=
  if (bi (fX0_hasLetter 0 a2 σ)) = (0 : Int32) then
  fX7_side_20 σ
  else
  if a3 < (0 : Int32) then
  fX7_side_20 σ
  else
  if a3 ≤ (1 : Int32) then
  Option.bind (fX6_refresh 0 σ) fun q1 =>
  if (bi (fX6_hasLeaf a1 q1)) = (0 : Int32) then
  Option.bind (fX7_finding (3 : Int32) q1) fun q4 =>
  some ((q4.1, q4.2))
  else
  if a3 = (0 : Int32) then
  Option.bind (fX6_lowOf a1 a2 q1) fun q3 =>
  some ((q3, q1))
  else
  Option.bind (fX6_highOf a1 a2 q1) fun q2 =>
  some ((q2, q1))
  else
  fX7_side_20 σ
noncomputable def fX7_side (a1 : Int32) (a2 : Int32) (a3 : Int32) (σ : mm) : Option (Int32 × mm) := fX7_side_0 a1 a2 a3 σ
set_option maxRecDepth 20000 in
theorem lX7_side_20 (σ τ : mm) {r : Option mv} {M' : mm × mm} {v9 : Int32 × mm} (h : fX7_side_20 σ = some v9) (hk : (fun q : Int32 × mm => r = some (.inl q.1) ∧ M' = (q.2, τ)) v9) : Vm mX7_side 33 20 [(0, .inr (.inr (7, 0)))] [] (σ, τ) r M' := by
  unfold fX7_side_20 at h
  refine Vm.aload_n (n := 21) 0 dX7_side_20 rfl rfl ?_
  refine Vm.iconst (n := 22) (v := (0 : Int32)) dX7_side_21 rfl (by decide) ?_
  replace h := Option.bind_eq_some_iff.mp h
  obtain ⟨q1, h1, h⟩ := h
  refine Vm.callV (Y := mX7_finding) (n := 25) [.inl (0 : Int32)] dX7_side_22 rfl wv_RX7_68 omX7_finding rfl in_7 rfl rfl rfl (Nat.le_of_ble_eq_true rfl) (by decide) (kX7_finding (0 : Int32) σ τ h1) ?_
  obtain rfl := Option.some.inj h
  exact Vm.iret dX7_side_25 rfl hk.1 hk.2.symm
set_option maxRecDepth 20000 in
theorem lX7_side_0 (a1 : Int32) (a2 : Int32) (a3 : Int32) (σ τ : mm) {r : Option mv} {M' : mm × mm} {v9 : Int32 × mm} (h : fX7_side_0 a1 a2 a3 σ = some v9) (hk : (fun q : Int32 × mm => r = some (.inl q.1) ∧ M' = (q.2, τ)) v9) : Vm mX7_side 33 0 [(0, .inr (.inr (7, 0))), (1, .inl a1), (2, .inl a2), (3, .inl a3)] [] (σ, τ) r M' := by
  unfold fX7_side_0 at h
  refine Vm.aload_n (n := 1) 0 dX7_side_0 rfl rfl ?_
  refine Vm.getR (n := 4) dX7_side_1 rfl wf_RX7_12 in_7 rfl (by decide) rfl ?_
  refine Vm.iload_n (n := 5) 2 dX7_side_4 rfl rfl ?_
  refine Vm.callV (Y := mX0_hasLetter) (n := 8) [.inl a2] dX7_side_5 rfl wv_RX7_86 omX0_hasLetter rfl (ink ik_0 (by decide)) rfl rfl rfl (Nat.le_of_ble_eq_true rfl) (by decide) (kX0_hasLetter 0 (by decide) a2 σ τ rfl) ?_
  refine Vm.if_eq (n := 11) 20 dX7_side_8 rfl rfl (fun c9 => ?_) (fun c9 => ?_)
  · replace h := (if_pos c9).symm.trans h
    refine Vm.sub (lv' := [(0, .inr (.inr (7, 0)))]) [0] rfl ?_
    exact lX7_side_20 σ τ h hk
  · replace h := (if_neg c9).symm.trans h
    refine Vm.iload_n (n := 12) 3 dX7_side_11 rfl rfl ?_
    refine Vm.if_lt (n := 15) 20 dX7_side_12 rfl rfl (fun c9 => ?_) (fun c9 => ?_)
    · replace h := (if_pos c9).symm.trans h
      refine Vm.sub (lv' := [(0, .inr (.inr (7, 0)))]) [0] rfl ?_
      exact lX7_side_20 σ τ h hk
    · replace h := (if_neg c9).symm.trans h
      refine Vm.iload_n (n := 16) 3 dX7_side_15 rfl rfl ?_
      refine Vm.iconst (n := 17) (v := (1 : Int32)) dX7_side_16 rfl (by decide) ?_
      refine Vm.icmp_le (n := 20) 26 dX7_side_17 rfl rfl (fun c9 => ?_) (fun c9 => ?_)
      · replace h := (if_pos c9).symm.trans h
        refine Vm.aload_n (n := 27) 0 dX7_side_26 rfl rfl ?_
        refine Vm.getR (n := 30) dX7_side_27 rfl wf_RX7_36 in_7 rfl (by decide) rfl ?_
        refine Vm.aload_n (n := 31) 0 dX7_side_30 rfl rfl ?_
        refine Vm.getR (n := 34) dX7_side_31 rfl wf_RX7_12 in_7 rfl (by decide) rfl ?_
        replace h := Option.bind_eq_some_iff.mp h
        obtain ⟨q1, h1, h⟩ := h
        refine Vm.callVv (Y := mX6_refresh) (n := 37) [.inr (.inr (0, 0))] dX7_side_34 rfl wv_RX7_228 omX6_refresh rfl in_6 rfl rfl rfl (Nat.le_of_ble_eq_true rfl) (by decide) (kX6_refresh 0 (by decide) σ τ h1) ?_
        refine Vm.aload_n (n := 38) 0 dX7_side_37 rfl rfl ?_
        refine Vm.getR (n := 41) dX7_side_38 rfl wf_RX7_36 in_7 rfl (by decide) rfl ?_
        refine Vm.iload_n (n := 42) 1 dX7_side_41 rfl rfl ?_
        refine Vm.callV (Y := mX6_hasLeaf) (n := 45) [.inl a1] dX7_side_42 rfl wv_RX7_241 omX6_hasLeaf rfl in_6 rfl rfl rfl (Nat.le_of_ble_eq_true rfl) (by decide) (kX6_hasLeaf a1 q1 τ rfl) ?_
        refine Vm.if_ne (n := 48) 54 dX7_side_45 rfl rfl (fun c9 => ?_) (fun c9 => ?_)
        · replace h := (if_neg c9).symm.trans h
          refine Vm.iload_n (n := 55) 3 dX7_side_54 rfl rfl ?_
          refine Vm.if_ne (n := 58) 70 dX7_side_55 rfl rfl (fun c9 => ?_) (fun c9 => ?_)
          · replace h := (if_neg c9).symm.trans h
            refine Vm.aload_n (n := 71) 0 dX7_side_70 rfl rfl ?_
            refine Vm.getR (n := 74) dX7_side_71 rfl wf_RX7_36 in_7 rfl (by decide) rfl ?_
            refine Vm.iload_n (n := 75) 1 dX7_side_74 rfl rfl ?_
            refine Vm.iload_n (n := 76) 2 dX7_side_75 rfl rfl ?_
            replace h := Option.bind_eq_some_iff.mp h
            obtain ⟨q2, h2, h⟩ := h
            refine Vm.callV (Y := mX6_highOf) (n := 79) [.inl a1, .inl a2] dX7_side_76 rfl wv_RX7_253 omX6_highOf rfl in_6 rfl rfl rfl (Nat.le_of_ble_eq_true rfl) (by decide) (kX6_highOf a1 a2 q1 τ h2) ?_
            obtain rfl := Option.some.inj h
            exact Vm.iret dX7_side_79 rfl hk.1 hk.2.symm
          · replace h := (if_pos c9).symm.trans h
            refine Vm.aload_n (n := 59) 0 dX7_side_58 rfl rfl ?_
            refine Vm.getR (n := 62) dX7_side_59 rfl wf_RX7_36 in_7 rfl (by decide) rfl ?_
            refine Vm.iload_n (n := 63) 1 dX7_side_62 rfl rfl ?_
            refine Vm.iload_n (n := 64) 2 dX7_side_63 rfl rfl ?_
            replace h := Option.bind_eq_some_iff.mp h
            obtain ⟨q3, h3, h⟩ := h
            refine Vm.callV (Y := mX6_lowOf) (n := 67) [.inl a1, .inl a2] dX7_side_64 rfl wv_RX7_250 omX6_lowOf rfl in_6 rfl rfl rfl (Nat.le_of_ble_eq_true rfl) (by decide) (kX6_lowOf a1 a2 q1 τ h3) ?_
            refine Vm.goto 79 dX7_side_67 rfl ?_
            obtain rfl := Option.some.inj h
            exact Vm.iret dX7_side_79 rfl hk.1 hk.2.symm
        · replace h := (if_pos c9).symm.trans h
          refine Vm.aload_n (n := 49) 0 dX7_side_48 rfl rfl ?_
          refine Vm.iconst (n := 50) (v := (3 : Int32)) dX7_side_49 rfl (by decide) ?_
          replace h := Option.bind_eq_some_iff.mp h
          obtain ⟨q4, h4, h⟩ := h
          refine Vm.callV (Y := mX7_finding) (n := 53) [.inl (3 : Int32)] dX7_side_50 rfl wv_RX7_68 omX7_finding rfl in_7 rfl rfl rfl (Nat.le_of_ble_eq_true rfl) (by decide) (kX7_finding (3 : Int32) q1 τ h4) ?_
          obtain rfl := Option.some.inj h
          exact Vm.iret dX7_side_53 rfl hk.1 hk.2.symm
      · replace h := (if_neg c9).symm.trans h
        refine Vm.sub (lv' := [(0, .inr (.inr (7, 0)))]) [0] rfl ?_
        exact lX7_side_20 σ τ h hk
theorem kX7_side (a1 : Int32) (a2 : Int32) (a3 : Int32) (σ τ : mm) {q : Int32 × mm} (h : fX7_side a1 a2 a3 σ = some q) : Cx mX7_side 33 [.inr (.inr (7, 0)), .inl a1, .inl a2, .inl a3] (σ, τ) (some (.inl q.1)) (q.2, τ) :=
  Cx.of (lv := [(0, .inr (.inr (7, 0))), (1, .inl a1), (2, .inl a2), (3, .inl a3)]) (by decide) (fun ad => Nat.le_of_ble_eq_true rfl) (fun ad => rfl) (lX7_side_0 a1 a2 a3 σ τ h ⟨rfl, rfl⟩)
-- ThinBodies$Tree isWith (I[JI)Z
noncomputable def fX6_isWith_3 (a1 : Int32) (a2 : Nat) (a3 : Int32) (a4 : Int32) (σ : mm) : Option ((Int32) ⊕ (Bool)) :=
  if a3 ≤ a4 then
  some (.inr (true))
  else
  Option.bind (rdL σ 26 a2 40 a4) fun x1 =>
  Option.bind (fX6_lowOf a1 a4 σ) fun q2 =>
  if (lg_cmp x1 q2.toInt64) < (0 : Int32) then
  some (.inr (false))
  else
  Option.bind (rdL σ 26 a2 40 a4) fun x3 =>
  Option.bind (fX6_highOf a1 a4 σ) fun q4 =>
  if (lg_cmp x3 q4.toInt64) ≤ (0 : Int32) then
  Option.bind (some (a4 + (1 : Int32))) fun x5 =>
  some (.inl (x5))
  else
  some (.inr (false))
noncomputable def fX6_isWith_3_L (a1 : Int32) (a2 : Nat) (a3 : Int32) (σ : mm) : Int32 → Option ((Int32) ⊕ (Bool)) := fun z => fX6_isWith_3 a1 a2 a3 z σ
noncomputable def fX6_isWith_0 (a1 : Int32) (a2 : Nat) (a3 : Int32) (σ : mm) : Option (Bool) :=
  lp (fX6_isWith_3_L a1 a2 a3 σ) ((0 : Int32))
noncomputable def fX6_isWith (a1 : Int32) (a2 : Nat) (a3 : Int32) (σ : mm) : Option (Bool) := fX6_isWith_0 a1 a2 a3 σ
set_option maxRecDepth 20000 in
theorem lX6_isWith_3 (a1 : Int32) (a2 : Nat) (ha2 : a2 < 4) (a3 : Int32) (a4 : Int32) (σ σ0 τ : mm) (hσ : σ = σ0) {r : Option mv} {M' : mm × mm} {v9 : (Int32) ⊕ (Bool)} (h : fX6_isWith_3 a1 a2 a3 a4 σ = some v9) (hk : (Sum.elim (fun z : Int32 => Vm mX6_isWith 2 3 [(0, .inr (.inr (6, 0))), (1, .inl a1), (2, .inr (.inr (26, a2))), (3, .inl a3), (4, .inl z)] [] (σ, τ) r M') (fun q : Bool => r = some (.inl (bi q)) ∧ M' = (σ0, τ))) v9) : Vm mX6_isWith 2 3 [(0, .inr (.inr (6, 0))), (1, .inl a1), (2, .inr (.inr (26, a2))), (3, .inl a3), (4, .inl a4)] [] (σ, τ) r M' := by
  unfold fX6_isWith_3 at h
  refine Vm.iload (n := 5) 4 dX6_isWith_3 rfl rfl ?_
  refine Vm.iload_n (n := 6) 3 dX6_isWith_5 rfl rfl ?_
  refine Vm.icmp_ge (n := 9) 49 dX6_isWith_6 rfl rfl (fun c9 => ?_) (fun c9 => ?_)
  · replace h := (if_pos c9).symm.trans h
    refine Vm.iconst (n := 50) (v := (1 : Int32)) dX6_isWith_49 rfl (by decide) ?_
    obtain rfl := Option.some.inj h
    exact Vm.zret (b := true) dX6_isWith_50 rfl rfl hk.1 (by rw [hσ]; exact hk.2.symm)
  · replace h := (if_neg c9).symm.trans h
    refine Vm.aload_n (n := 10) 2 dX6_isWith_9 rfl rfl ?_
    refine Vm.iload (n := 12) 4 dX6_isWith_10 rfl rfl ?_
    replace h := Option.bind_eq_some_iff.mp h
    obtain ⟨x1, h1, h⟩ := h
    refine Vm.laldx (n := 13) dX6_isWith_12 rfl (ink ik_26 (by omega)) rfl rfl (by decide) h1 ?_
    refine Vm.aload_n (n := 14) 0 dX6_isWith_13 rfl rfl ?_
    refine Vm.iload_n (n := 15) 1 dX6_isWith_14 rfl rfl ?_
    refine Vm.iload (n := 17) 4 dX6_isWith_15 rfl rfl ?_
    replace h := Option.bind_eq_some_iff.mp h
    obtain ⟨q2, h2, h⟩ := h
    refine Vm.callV (Y := mX6_lowOf) (n := 20) [.inl a1, .inl a4] dX6_isWith_17 rfl wv_RX6_112 omX6_lowOf rfl in_6 rfl rfl rfl (Nat.le_of_ble_eq_true rfl) (by decide) (kX6_lowOf a1 a4 σ τ h2) ?_
    refine Vm.i2l (n := 21) dX6_isWith_20 rfl ?_
    refine Vm.lcmp (n := 22) dX6_isWith_21 rfl ?_
    refine Vm.if_lt (n := 25) 41 dX6_isWith_22 rfl rfl (fun c9 => ?_) (fun c9 => ?_)
    · replace h := (if_pos c9).symm.trans h
      refine Vm.iconst (n := 42) (v := (0 : Int32)) dX6_isWith_41 rfl (by decide) ?_
      obtain rfl := Option.some.inj h
      exact Vm.zret (b := false) dX6_isWith_42 rfl rfl hk.1 (by rw [hσ]; exact hk.2.symm)
    · replace h := (if_neg c9).symm.trans h
      refine Vm.aload_n (n := 26) 2 dX6_isWith_25 rfl rfl ?_
      refine Vm.iload (n := 28) 4 dX6_isWith_26 rfl rfl ?_
      replace h := Option.bind_eq_some_iff.mp h
      obtain ⟨x3, h3, h⟩ := h
      refine Vm.laldx (n := 29) dX6_isWith_28 rfl (ink ik_26 (by omega)) rfl rfl (by decide) h3 ?_
      refine Vm.aload_n (n := 30) 0 dX6_isWith_29 rfl rfl ?_
      refine Vm.iload_n (n := 31) 1 dX6_isWith_30 rfl rfl ?_
      refine Vm.iload (n := 33) 4 dX6_isWith_31 rfl rfl ?_
      replace h := Option.bind_eq_some_iff.mp h
      obtain ⟨q4, h4, h⟩ := h
      refine Vm.callV (Y := mX6_highOf) (n := 36) [.inl a1, .inl a4] dX6_isWith_33 rfl wv_RX6_109 omX6_highOf rfl in_6 rfl rfl rfl (Nat.le_of_ble_eq_true rfl) (by decide) (kX6_highOf a1 a4 σ τ h4) ?_
      refine Vm.i2l (n := 37) dX6_isWith_36 rfl ?_
      refine Vm.lcmp (n := 38) dX6_isWith_37 rfl ?_
      refine Vm.if_le (n := 41) 43 dX6_isWith_38 rfl rfl (fun c9 => ?_) (fun c9 => ?_)
      · replace h := (if_pos c9).symm.trans h
        replace h := Option.bind_eq_some_iff.mp h
        obtain ⟨x5, e5, h⟩ := h
        replace e5 := Option.some.inj e5
        refine Vm.iinc (n := 46) (v := x5) (lv' := [(4, .inl x5), (0, .inr (.inr (6, 0))), (1, .inl a1), (2, .inr (.inr (26, a2))), (3, .inl a3)]) 4 dX6_isWith_43 rfl rfl e5 (Nat.le_of_ble_eq_true rfl) rfl ?_
        refine Vm.goto 3 dX6_isWith_46 rfl ?_
        refine Vm.sub (lv' := [(0, .inr (.inr (6, 0))), (1, .inl a1), (2, .inr (.inr (26, a2))), (3, .inl a3), (4, .inl x5)]) [1, 2, 3, 4, 0] rfl ?_
        obtain rfl := Option.some.inj h
        exact hk
      · replace h := (if_neg c9).symm.trans h
        refine Vm.iconst (n := 42) (v := (0 : Int32)) dX6_isWith_41 rfl (by decide) ?_
        obtain rfl := Option.some.inj h
        exact Vm.zret (b := false) dX6_isWith_42 rfl rfl hk.1 (by rw [hσ]; exact hk.2.symm)
theorem lX6_isWith_3_L (a1 : Int32) (a2 : Nat) (ha2 : a2 < 4) (a3 : Int32) (σ σ0 τ : mm) (hσ : σ = σ0) {r : Option mv} {M' : mm × mm} (z : Int32) (w9 : Bool) (h : lp (fX6_isWith_3_L a1 a2 a3 σ) z = some w9) (hk : (fun q : Bool => r = some (.inl (bi q)) ∧ M' = (σ0, τ)) w9) : Vm mX6_isWith 2 3 [(0, .inr (.inr (6, 0))), (1, .inl a1), (2, .inr (.inr (26, a2))), (3, .inl a3), (4, .inl z)] [] (σ, τ) r M' :=
  lp_link (S := Int32) (R := Bool) (body := fX6_isWith_3_L a1 a2 a3 σ) (A := fun z : Int32 => Vm mX6_isWith 2 3 [(0, .inr (.inr (6, 0))), (1, .inl a1), (2, .inr (.inr (26, a2))), (3, .inl a3), (4, .inl z)] [] (σ, τ) r M') (B := fun w : Bool => (fun q : Bool => r = some (.inl (bi q)) ∧ M' = (σ0, τ)) w) (fun z v hb hv => lX6_isWith_3 a1 a2 ha2 a3 z σ σ0 τ hσ hb hv) z w9 h hk
set_option maxRecDepth 20000 in
theorem lX6_isWith_0 (a1 : Int32) (a2 : Nat) (ha2 : a2 < 4) (a3 : Int32) (σ σ0 τ : mm) (hσ : σ = σ0) {r : Option mv} {M' : mm × mm} {v9 : Bool} (h : fX6_isWith_0 a1 a2 a3 σ = some v9) (hk : (fun q : Bool => r = some (.inl (bi q)) ∧ M' = (σ0, τ)) v9) : Vm mX6_isWith 2 0 [(0, .inr (.inr (6, 0))), (1, .inl a1), (2, .inr (.inr (26, a2))), (3, .inl a3)] [] (σ, τ) r M' := by
  unfold fX6_isWith_0 at h
  refine Vm.iconst (n := 1) (v := (0 : Int32)) dX6_isWith_0 rfl (by decide) ?_
  refine Vm.istore (n := 3) (lv' := [(4, .inl (0 : Int32)), (0, .inr (.inr (6, 0))), (1, .inl a1), (2, .inr (.inr (26, a2))), (3, .inl a3)]) dX6_isWith_1 rfl (Nat.le_of_ble_eq_true rfl) rfl ?_
  refine Vm.sub (lv' := [(0, .inr (.inr (6, 0))), (1, .inl a1), (2, .inr (.inr (26, a2))), (3, .inl a3), (4, .inl (0 : Int32))]) [1, 2, 3, 4, 0] rfl ?_
  exact lX6_isWith_3_L a1 a2 (by omega) a3 σ σ0 τ hσ ((0 : Int32)) _ h hk
theorem kX6_isWith (a1 : Int32) (a2 : Nat) (ha2 : a2 < 4) (a3 : Int32) (σ τ : mm) {q : Bool} (h : fX6_isWith a1 a2 a3 σ = some q) : Cx mX6_isWith 2 [.inr (.inr (6, 0)), .inl a1, .inr (.inr (26, a2)), .inl a3] (σ, τ) (some (.inl (bi q))) (σ, τ) :=
  Cx.of (lv := [(0, .inr (.inr (6, 0))), (1, .inl a1), (2, .inr (.inr (26, a2))), (3, .inl a3)]) (by decide) (fun ad => Nat.le_of_ble_eq_true rfl) (fun ad => rfl) (lX6_isWith_0 a1 a2 ha2 a3 σ σ τ rfl h ⟨rfl, rfl⟩)
-- ThinBodies$Tree leafWith ([JI)I
noncomputable def fX6_leafWith_2 (a1 : Nat) (a2 : Int32) (a3 : Int32) (σ : mm) : Option ((Int32) ⊕ (Int32)) :=
  if (σ.1 6 0 2) ≤ a3 then
  some (.inr ((-1 : Int32)))
  else
  Option.bind (fX6_isWith a3 a1 a2 σ) fun q1 =>
  if (bi q1) = (0 : Int32) then
  Option.bind (some (a3 + (1 : Int32))) fun x2 =>
  some (.inl (x2))
  else
  some (.inr (a3))
noncomputable def fX6_leafWith_2_L (a1 : Nat) (a2 : Int32) (σ : mm) : Int32 → Option ((Int32) ⊕ (Int32)) := fun z => fX6_leafWith_2 a1 a2 z σ
noncomputable def fX6_leafWith_0 (a1 : Nat) (a2 : Int32) (σ : mm) : Option (Int32) :=
  lp (fX6_leafWith_2_L a1 a2 σ) ((0 : Int32))
noncomputable def fX6_leafWith (a1 : Nat) (a2 : Int32) (σ : mm) : Option (Int32) := fX6_leafWith_0 a1 a2 σ
set_option maxRecDepth 20000 in
theorem lX6_leafWith_2 (a1 : Nat) (ha1 : a1 < 4) (a2 : Int32) (a3 : Int32) (σ σ0 τ : mm) (hσ : σ = σ0) {r : Option mv} {M' : mm × mm} {v9 : (Int32) ⊕ (Int32)} (h : fX6_leafWith_2 a1 a2 a3 σ = some v9) (hk : (Sum.elim (fun z : Int32 => Vm mX6_leafWith 3 2 [(0, .inr (.inr (6, 0))), (1, .inr (.inr (26, a1))), (2, .inl a2), (3, .inl z)] [] (σ, τ) r M') (fun q : Int32 => r = some (.inl q) ∧ M' = (σ0, τ))) v9) : Vm mX6_leafWith 3 2 [(0, .inr (.inr (6, 0))), (1, .inr (.inr (26, a1))), (2, .inl a2), (3, .inl a3)] [] (σ, τ) r M' := by
  unfold fX6_leafWith_2 at h
  refine Vm.iload_n (n := 3) 3 dX6_leafWith_2 rfl rfl ?_
  refine Vm.aload_n (n := 4) 0 dX6_leafWith_3 rfl rfl ?_
  refine Vm.gX (n := 7) dX6_leafWith_4 rfl wf_RX6_19 in_6 rfl (by decide) rfl (by decide) ?_
  refine Vm.icmp_ge (n := 10) 28 dX6_leafWith_7 rfl rfl (fun c9 => ?_) (fun c9 => ?_)
  · replace h := (if_pos c9).symm.trans h
    refine Vm.iconst (n := 29) (v := (-1 : Int32)) dX6_leafWith_28 rfl (by decide) ?_
    obtain rfl := Option.some.inj h
    exact Vm.iret dX6_leafWith_29 rfl hk.1 (by rw [hσ]; exact hk.2.symm)
  · replace h := (if_neg c9).symm.trans h
    refine Vm.aload_n (n := 11) 0 dX6_leafWith_10 rfl rfl ?_
    refine Vm.iload_n (n := 12) 3 dX6_leafWith_11 rfl rfl ?_
    refine Vm.aload_n (n := 13) 1 dX6_leafWith_12 rfl rfl ?_
    refine Vm.iload_n (n := 14) 2 dX6_leafWith_13 rfl rfl ?_
    replace h := Option.bind_eq_some_iff.mp h
    obtain ⟨q1, h1, h⟩ := h
    refine Vm.callV (Y := mX6_isWith) (n := 17) [.inl a3, .inr (.inr (26, a1)), .inl a2] dX6_leafWith_14 rfl wv_RX6_121 omX6_isWith rfl in_6 rfl rfl rfl (Nat.le_of_ble_eq_true rfl) (by decide) (kX6_isWith a3 a1 (by omega) a2 σ τ h1) ?_
    refine Vm.if_eq (n := 20) 22 dX6_leafWith_17 rfl rfl (fun c9 => ?_) (fun c9 => ?_)
    · replace h := (if_pos c9).symm.trans h
      replace h := Option.bind_eq_some_iff.mp h
      obtain ⟨x2, e2, h⟩ := h
      replace e2 := Option.some.inj e2
      refine Vm.iinc (n := 25) (v := x2) (lv' := [(3, .inl x2), (0, .inr (.inr (6, 0))), (1, .inr (.inr (26, a1))), (2, .inl a2)]) 3 dX6_leafWith_22 rfl rfl e2 (Nat.le_of_ble_eq_true rfl) rfl ?_
      refine Vm.goto 2 dX6_leafWith_25 rfl ?_
      refine Vm.sub (lv' := [(0, .inr (.inr (6, 0))), (1, .inr (.inr (26, a1))), (2, .inl a2), (3, .inl x2)]) [1, 2, 3, 0] rfl ?_
      obtain rfl := Option.some.inj h
      exact hk
    · replace h := (if_neg c9).symm.trans h
      refine Vm.iload_n (n := 21) 3 dX6_leafWith_20 rfl rfl ?_
      obtain rfl := Option.some.inj h
      exact Vm.iret dX6_leafWith_21 rfl hk.1 (by rw [hσ]; exact hk.2.symm)
theorem lX6_leafWith_2_L (a1 : Nat) (ha1 : a1 < 4) (a2 : Int32) (σ σ0 τ : mm) (hσ : σ = σ0) {r : Option mv} {M' : mm × mm} (z : Int32) (w9 : Int32) (h : lp (fX6_leafWith_2_L a1 a2 σ) z = some w9) (hk : (fun q : Int32 => r = some (.inl q) ∧ M' = (σ0, τ)) w9) : Vm mX6_leafWith 3 2 [(0, .inr (.inr (6, 0))), (1, .inr (.inr (26, a1))), (2, .inl a2), (3, .inl z)] [] (σ, τ) r M' :=
  lp_link (S := Int32) (R := Int32) (body := fX6_leafWith_2_L a1 a2 σ) (A := fun z : Int32 => Vm mX6_leafWith 3 2 [(0, .inr (.inr (6, 0))), (1, .inr (.inr (26, a1))), (2, .inl a2), (3, .inl z)] [] (σ, τ) r M') (B := fun w : Int32 => (fun q : Int32 => r = some (.inl q) ∧ M' = (σ0, τ)) w) (fun z v hb hv => lX6_leafWith_2 a1 ha1 a2 z σ σ0 τ hσ hb hv) z w9 h hk
set_option maxRecDepth 20000 in
theorem lX6_leafWith_0 (a1 : Nat) (ha1 : a1 < 4) (a2 : Int32) (σ σ0 τ : mm) (hσ : σ = σ0) {r : Option mv} {M' : mm × mm} {v9 : Int32} (h : fX6_leafWith_0 a1 a2 σ = some v9) (hk : (fun q : Int32 => r = some (.inl q) ∧ M' = (σ0, τ)) v9) : Vm mX6_leafWith 3 0 [(0, .inr (.inr (6, 0))), (1, .inr (.inr (26, a1))), (2, .inl a2)] [] (σ, τ) r M' := by
  unfold fX6_leafWith_0 at h
  refine Vm.iconst (n := 1) (v := (0 : Int32)) dX6_leafWith_0 rfl (by decide) ?_
  refine Vm.istore_n (n := 2) (lv' := [(3, .inl (0 : Int32)), (0, .inr (.inr (6, 0))), (1, .inr (.inr (26, a1))), (2, .inl a2)]) dX6_leafWith_1 rfl (Nat.le_of_ble_eq_true rfl) rfl ?_
  refine Vm.sub (lv' := [(0, .inr (.inr (6, 0))), (1, .inr (.inr (26, a1))), (2, .inl a2), (3, .inl (0 : Int32))]) [1, 2, 3, 0] rfl ?_
  exact lX6_leafWith_2_L a1 (by omega) a2 σ σ0 τ hσ ((0 : Int32)) _ h hk
theorem kX6_leafWith (a1 : Nat) (ha1 : a1 < 4) (a2 : Int32) (σ τ : mm) {q : Int32} (h : fX6_leafWith a1 a2 σ = some q) : Cx mX6_leafWith 3 [.inr (.inr (6, 0)), .inr (.inr (26, a1)), .inl a2] (σ, τ) (some (.inl q)) (σ, τ) :=
  Cx.of (lv := [(0, .inr (.inr (6, 0))), (1, .inr (.inr (26, a1))), (2, .inl a2)]) (by decide) (fun ad => Nat.le_of_ble_eq_true rfl) (fun ad => rfl) (lX6_leafWith_0 a1 ha1 a2 σ σ τ rfl h ⟨rfl, rfl⟩)
-- ThinBodies where (I)I
noncomputable def fX7_where_0 (a1 : Int32) (σ : mm) : Option (Int32 × mm) :=
  Option.bind (fX7_pointTrouble a1 σ) fun q1 =>
  if q1 = (-1 : Int32) then
  Option.bind (fX6_refresh 0 σ) fun q2 =>
  Option.bind (rdR 4 a1) fun k3 =>
  Option.bind (fX6_leafWith k3 (q2.1 0 0 0) q2) fun q4 =>
  if (0 : Int32) ≤ q4 then
  some ((q4, q2))
  else
  Option.bind (fX7_finding (3 : Int32) q2) fun q5 =>
  some ((q5.1, q5.2))
  else
  Option.bind (fX7_finding q1 σ) fun q6 =>
  some ((q6.1, q6.2))
noncomputable def fX7_where (a1 : Int32) (σ : mm) : Option (Int32 × mm) := fX7_where_0 a1 σ
set_option maxRecDepth 20000 in
theorem lX7_where_0 (a1 : Int32) (σ τ : mm) {r : Option mv} {M' : mm × mm} {v9 : Int32 × mm} (h : fX7_where_0 a1 σ = some v9) (hk : (fun q : Int32 × mm => r = some (.inl q.1) ∧ M' = (q.2, τ)) v9) : Vm mX7_where 33 0 [(0, .inr (.inr (7, 0))), (1, .inl a1)] [] (σ, τ) r M' := by
  unfold fX7_where_0 at h
  refine Vm.aload_n (n := 1) 0 dX7_where_0 rfl rfl ?_
  refine Vm.iload_n (n := 2) 1 dX7_where_1 rfl rfl ?_
  replace h := Option.bind_eq_some_iff.mp h
  obtain ⟨q1, h1, h⟩ := h
  refine Vm.callV (Y := mX7_pointTrouble) (n := 5) [.inl a1] dX7_where_2 rfl wv_RX7_256 omX7_pointTrouble rfl in_7 rfl rfl rfl (Nat.le_of_ble_eq_true rfl) (by decide) (kX7_pointTrouble a1 σ τ h1) ?_
  refine Vm.istore_n (n := 6) (lv' := [(2, .inl q1), (0, .inr (.inr (7, 0))), (1, .inl a1)]) dX7_where_5 rfl (Nat.le_of_ble_eq_true rfl) rfl ?_
  refine Vm.iload_n (n := 7) 0 dX7_where_6 rfl rfl ?_
  refine Vm.iconst (n := 8) (v := (-1 : Int32)) dX7_where_7 rfl (by decide) ?_
  refine Vm.icmp_eq (n := 11) 17 dX7_where_8 rfl rfl (fun c9 => ?_) (fun c9 => ?_)
  · replace h := (if_pos c9).symm.trans h
    refine Vm.aload_n (n := 18) 1 dX7_where_17 rfl rfl ?_
    refine Vm.getR (n := 21) dX7_where_18 rfl wf_RX7_36 in_7 rfl (by decide) rfl ?_
    refine Vm.aload_n (n := 22) 1 dX7_where_21 rfl rfl ?_
    refine Vm.getR (n := 25) dX7_where_22 rfl wf_RX7_12 in_7 rfl (by decide) rfl ?_
    replace h := Option.bind_eq_some_iff.mp h
    obtain ⟨q2, h2, h⟩ := h
    refine Vm.callVv (Y := mX6_refresh) (n := 28) [.inr (.inr (0, 0))] dX7_where_25 rfl wv_RX7_228 omX6_refresh rfl in_6 rfl rfl rfl (Nat.le_of_ble_eq_true rfl) (by decide) (kX6_refresh 0 (by decide) σ τ h2) ?_
    refine Vm.aload_n (n := 29) 1 dX7_where_28 rfl rfl ?_
    refine Vm.getR (n := 32) dX7_where_29 rfl wf_RX7_36 in_7 rfl (by decide) rfl ?_
    refine Vm.aload_n (n := 33) 1 dX7_where_32 rfl rfl ?_
    refine Vm.getR (n := 36) dX7_where_33 rfl wf_RX7_56 in_7 rfl (by decide) rfl ?_
    refine Vm.iload_n (n := 37) 2 dX7_where_36 rfl rfl ?_
    replace h := Option.bind_eq_some_iff.mp h
    obtain ⟨k3, h3, h⟩ := h
    refine Vm.aald (n := 38) dX7_where_37 rfl in_30 rfl rfl (by decide) (fun _ => rfl) rfl h3 ?_
    have g3 := rdR_lt h3
    refine Vm.getR (n := 41) dX7_where_38 rfl wf_RX7_259 (ink ik_5 (by omega)) rfl (by decide) rfl ?_
    refine Vm.aload_n (n := 42) 1 dX7_where_41 rfl rfl ?_
    refine Vm.getR (n := 45) dX7_where_42 rfl wf_RX7_12 in_7 rfl (by decide) rfl ?_
    refine Vm.gX (n := 48) dX7_where_45 rfl wf_RX7_75 (ink ik_0 (by decide)) rfl (by decide) rfl (by decide) ?_
    replace h := Option.bind_eq_some_iff.mp h
    obtain ⟨q4, h4, h⟩ := h
    refine Vm.callV (Y := mX6_leafWith) (n := 51) [.inr (.inr (26, k3)), .inl (q2.1 0 0 0)] dX7_where_48 rfl wv_RX7_263 omX6_leafWith rfl in_6 rfl rfl rfl (Nat.le_of_ble_eq_true rfl) (by decide) (kX6_leafWith k3 (by omega) (q2.1 0 0 0) q2 τ h4) ?_
    refine Vm.istore_n (n := 52) (lv' := [(3, .inl q4), (2, .inl q1), (0, .inr (.inr (7, 0))), (1, .inl a1)]) dX7_where_51 rfl (Nat.le_of_ble_eq_true rfl) rfl ?_
    refine Vm.iload_n (n := 53) 0 dX7_where_52 rfl rfl ?_
    refine Vm.if_ge (n := 56) 64 dX7_where_53 rfl rfl (fun c9 => ?_) (fun c9 => ?_)
    · replace h := (if_pos c9).symm.trans h
      refine Vm.iload_n (n := 65) 0 dX7_where_64 rfl rfl ?_
      obtain rfl := Option.some.inj h
      exact Vm.iret dX7_where_65 rfl hk.1 hk.2.symm
    · replace h := (if_neg c9).symm.trans h
      refine Vm.aload_n (n := 57) 2 dX7_where_56 rfl rfl ?_
      refine Vm.iconst (n := 58) (v := (3 : Int32)) dX7_where_57 rfl (by decide) ?_
      replace h := Option.bind_eq_some_iff.mp h
      obtain ⟨q5, h5, h⟩ := h
      refine Vm.callV (Y := mX7_finding) (n := 61) [.inl (3 : Int32)] dX7_where_58 rfl wv_RX7_68 omX7_finding rfl in_7 rfl rfl rfl (Nat.le_of_ble_eq_true rfl) (by decide) (kX7_finding (3 : Int32) q2 τ h5) ?_
      refine Vm.goto 65 dX7_where_61 rfl ?_
      obtain rfl := Option.some.inj h
      exact Vm.iret dX7_where_65 rfl hk.1 hk.2.symm
  · replace h := (if_neg c9).symm.trans h
    refine Vm.aload_n (n := 12) 1 dX7_where_11 rfl rfl ?_
    refine Vm.iload_n (n := 13) 0 dX7_where_12 rfl rfl ?_
    replace h := Option.bind_eq_some_iff.mp h
    obtain ⟨q6, h6, h⟩ := h
    refine Vm.callV (Y := mX7_finding) (n := 16) [.inl q1] dX7_where_13 rfl wv_RX7_68 omX7_finding rfl in_7 rfl rfl rfl (Nat.le_of_ble_eq_true rfl) (by decide) (kX7_finding q1 σ τ h6) ?_
    obtain rfl := Option.some.inj h
    exact Vm.iret dX7_where_16 rfl hk.1 hk.2.symm
theorem kX7_where (a1 : Int32) (σ τ : mm) {q : Int32 × mm} (h : fX7_where a1 σ = some q) : Cx mX7_where 33 [.inr (.inr (7, 0)), .inl a1] (σ, τ) (some (.inl q.1)) (q.2, τ) :=
  Cx.of (lv := [(0, .inr (.inr (7, 0))), (1, .inl a1)]) (by decide) (fun ad => Nat.le_of_ble_eq_true rfl) (fun ad => rfl) (lX7_where_0 a1 σ τ h ⟨rfl, rfl⟩)
-- ThinBodies$Tree proofOf (II)I
noncomputable def fX6_proofOf_0 (a1 : Int32) (a2 : Int32) (σ : mm) : Option (Int32) :=
  Option.bind (fX6_pointsIn a1 a2 σ) fun q1 =>
  Option.bind (fX6_deadRow a1 σ) fun q2 =>
  if (0 : Int32) ≤ q2 then
  some (-q1)
  else
  some (q1)
noncomputable def fX6_proofOf (a1 : Int32) (a2 : Int32) (σ : mm) : Option (Int32) := fX6_proofOf_0 a1 a2 σ
set_option maxRecDepth 20000 in
theorem lX6_proofOf_0 (a1 : Int32) (a2 : Int32) (σ σ0 τ : mm) (hσ : σ = σ0) {r : Option mv} {M' : mm × mm} {v9 : Int32} (h : fX6_proofOf_0 a1 a2 σ = some v9) (hk : (fun q : Int32 => r = some (.inl q) ∧ M' = (σ0, τ)) v9) : Vm mX6_proofOf 3 0 [(0, .inr (.inr (6, 0))), (1, .inl a1), (2, .inl a2)] [] (σ, τ) r M' := by
  unfold fX6_proofOf_0 at h
  refine Vm.aload_n (n := 1) 0 dX6_proofOf_0 rfl rfl ?_
  refine Vm.iload_n (n := 2) 1 dX6_proofOf_1 rfl rfl ?_
  refine Vm.iload_n (n := 3) 2 dX6_proofOf_2 rfl rfl ?_
  replace h := Option.bind_eq_some_iff.mp h
  obtain ⟨q1, h1, h⟩ := h
  refine Vm.callV (Y := mX6_pointsIn) (n := 6) [.inl a1, .inl a2] dX6_proofOf_3 rfl wv_RX6_115 omX6_pointsIn rfl in_6 rfl rfl rfl (Nat.le_of_ble_eq_true rfl) (by decide) (kX6_pointsIn a1 a2 σ τ h1) ?_
  refine Vm.istore_n (n := 7) (lv' := [(3, .inl q1), (0, .inr (.inr (6, 0))), (1, .inl a1), (2, .inl a2)]) dX6_proofOf_6 rfl (Nat.le_of_ble_eq_true rfl) rfl ?_
  refine Vm.aload_n (n := 8) 1 dX6_proofOf_7 rfl rfl ?_
  refine Vm.iload_n (n := 9) 2 dX6_proofOf_8 rfl rfl ?_
  replace h := Option.bind_eq_some_iff.mp h
  obtain ⟨q2, h2, h⟩ := h
  refine Vm.callV (Y := mX6_deadRow) (n := 12) [.inl a1] dX6_proofOf_9 rfl wv_RX6_118 omX6_deadRow rfl in_6 rfl rfl rfl (Nat.le_of_ble_eq_true rfl) (by decide) (kX6_deadRow a1 σ τ h2) ?_
  refine Vm.if_ge (n := 15) 19 dX6_proofOf_12 rfl rfl (fun c9 => ?_) (fun c9 => ?_)
  · replace h := (if_pos c9).symm.trans h
    refine Vm.iload_n (n := 20) 0 dX6_proofOf_19 rfl rfl ?_
    refine Vm.ineg (n := 21) dX6_proofOf_20 rfl ?_
    obtain rfl := Option.some.inj h
    exact Vm.iret dX6_proofOf_21 rfl hk.1 (by rw [hσ]; exact hk.2.symm)
  · replace h := (if_neg c9).symm.trans h
    refine Vm.iload_n (n := 16) 0 dX6_proofOf_15 rfl rfl ?_
    refine Vm.goto 21 dX6_proofOf_16 rfl ?_
    obtain rfl := Option.some.inj h
    exact Vm.iret dX6_proofOf_21 rfl hk.1 (by rw [hσ]; exact hk.2.symm)
theorem kX6_proofOf (a1 : Int32) (a2 : Int32) (σ τ : mm) {q : Int32} (h : fX6_proofOf a1 a2 σ = some q) : Cx mX6_proofOf 3 [.inr (.inr (6, 0)), .inl a1, .inl a2] (σ, τ) (some (.inl q)) (σ, τ) :=
  Cx.of (lv := [(0, .inr (.inr (6, 0))), (1, .inl a1), (2, .inl a2)]) (by decide) (fun ad => Nat.le_of_ble_eq_true rfl) (fun ad => rfl) (lX6_proofOf_0 a1 a2 σ σ τ rfl h ⟨rfl, rfl⟩)
-- ThinBodies judge (I)I
noncomputable def fX7_judge_54 (a3 : Nat) (a4 : Int32) (a5 : Int32) (σ : mm) : Option ((Int32) ⊕ (Int32 × mm)) :=
  if a4 ≤ a5 then
  if (σ.1 5 a3 1) = (σ.1 6 0 2) then
  some (.inr (((0 : Int32), σ)))
  else
  some (.inr (((1 : Int32) + a4, σ)))
  else
  Option.bind (rdL σ 26 a3 40 a5) fun x1 =>
  Option.bind (fX6_proofOf a5 (σ.1 0 0 0) σ) fun q2 =>
  if (lg_cmp x1 q2.toInt64) = (0 : Int32) then
  Option.bind (some (a5 + (1 : Int32))) fun x3 =>
  some (.inl (x3))
  else
  some (.inr (((1 : Int32) + a5, σ)))
noncomputable def fX7_judge_54_L (a3 : Nat) (a4 : Int32) (σ : mm) : Int32 → Option ((Int32) ⊕ (Int32 × mm)) := fun z => fX7_judge_54 a3 a4 z σ
noncomputable def fX7_judge_0 (a1 : Int32) (σ : mm) : Option (Int32 × mm) :=
  Option.bind (fX7_sheetTrouble a1 σ) fun q1 =>
  if q1 = (-1 : Int32) then
  Option.bind (fX6_refresh 0 σ) fun q2 =>
  Option.bind (rdR 4 a1) fun k3 =>
  Option.bind (some ((fJ9_min_7cf53 (q2.1 5 k3 1) (q2.1 6 0 2)))) fun x4 =>
  lp (fX7_judge_54_L k3 x4 q2) ((0 : Int32))
  else
  Option.bind (fX7_finding q1 σ) fun q5 =>
  some ((q5.1, q5.2))
noncomputable def fX7_judge (a1 : Int32) (σ : mm) : Option (Int32 × mm) := fX7_judge_0 a1 σ
set_option maxRecDepth 20000 in
theorem lX7_judge_54 (a3 : Nat) (ha3 : a3 < 4) (a4 : Int32) (a5 : Int32) (σ τ : mm) {r : Option mv} {M' : mm × mm} {v9 : (Int32) ⊕ (Int32 × mm)} (h : fX7_judge_54 a3 a4 a5 σ = some v9) (hk : (Sum.elim (fun z : Int32 => Vm mX7_judge 33 54 [(0, .inr (.inr (7, 0))), (3, .inr (.inr (5, a3))), (4, .inl a4), (5, .inl z)] [] (σ, τ) r M') (fun q : Int32 × mm => r = some (.inl q.1) ∧ M' = (q.2, τ))) v9) : Vm mX7_judge 33 54 [(0, .inr (.inr (7, 0))), (3, .inr (.inr (5, a3))), (4, .inl a4), (5, .inl a5)] [] (σ, τ) r M' := by
  unfold fX7_judge_54 at h
  refine Vm.iload (n := 56) 3 dX7_judge_54 rfl rfl ?_
  refine Vm.iload (n := 58) 2 dX7_judge_56 rfl rfl ?_
  refine Vm.icmp_ge (n := 61) 100 dX7_judge_58 rfl rfl (fun c9 => ?_) (fun c9 => ?_)
  · replace h := (if_pos c9).symm.trans h
    refine Vm.aload_n (n := 101) 1 dX7_judge_100 rfl rfl ?_
    refine Vm.gX (n := 104) dX7_judge_101 rfl wf_RX7_270 (ink ik_5 (by omega)) rfl (by decide) rfl (by decide) ?_
    refine Vm.aload_n (n := 105) 0 dX7_judge_104 rfl rfl ?_
    refine Vm.getR (n := 108) dX7_judge_105 rfl wf_RX7_36 in_7 rfl (by decide) rfl ?_
    refine Vm.gX (n := 111) dX7_judge_108 rfl wf_RX7_238 in_6 rfl (by decide) rfl (by decide) ?_
    refine Vm.icmp_ne (n := 114) 118 dX7_judge_111 rfl rfl (fun c9 => ?_) (fun c9 => ?_)
    · replace h := (if_neg c9).symm.trans h
      refine Vm.iconst (n := 119) (v := (1 : Int32)) dX7_judge_118 rfl (by decide) ?_
      refine Vm.iload (n := 121) 2 dX7_judge_119 rfl rfl ?_
      refine Vm.iadd (n := 122) dX7_judge_121 rfl ?_
      obtain rfl := Option.some.inj h
      exact Vm.iret dX7_judge_122 rfl hk.1 hk.2.symm
    · replace h := (if_pos c9).symm.trans h
      refine Vm.iconst (n := 115) (v := (0 : Int32)) dX7_judge_114 rfl (by decide) ?_
      refine Vm.goto 122 dX7_judge_115 rfl ?_
      obtain rfl := Option.some.inj h
      exact Vm.iret dX7_judge_122 rfl hk.1 hk.2.symm
  · replace h := (if_neg c9).symm.trans h
    refine Vm.aload_n (n := 62) 1 dX7_judge_61 rfl rfl ?_
    refine Vm.getR (n := 65) dX7_judge_62 rfl wf_RX7_259 (ink ik_5 (by omega)) rfl (by decide) rfl ?_
    refine Vm.iload (n := 67) 3 dX7_judge_65 rfl rfl ?_
    replace h := Option.bind_eq_some_iff.mp h
    obtain ⟨x1, h1, h⟩ := h
    refine Vm.laldx (n := 68) dX7_judge_67 rfl (ink ik_26 (by omega)) rfl rfl (by decide) h1 ?_
    refine Vm.aload_n (n := 69) 0 dX7_judge_68 rfl rfl ?_
    refine Vm.getR (n := 72) dX7_judge_69 rfl wf_RX7_36 in_7 rfl (by decide) rfl ?_
    refine Vm.iload (n := 74) 3 dX7_judge_72 rfl rfl ?_
    refine Vm.aload_n (n := 75) 0 dX7_judge_74 rfl rfl ?_
    refine Vm.getR (n := 78) dX7_judge_75 rfl wf_RX7_12 in_7 rfl (by decide) rfl ?_
    refine Vm.gX (n := 81) dX7_judge_78 rfl wf_RX7_75 (ink ik_0 (by decide)) rfl (by decide) rfl (by decide) ?_
    replace h := Option.bind_eq_some_iff.mp h
    obtain ⟨q2, h2, h⟩ := h
    refine Vm.callV (Y := mX6_proofOf) (n := 84) [.inl a5, .inl (σ.1 0 0 0)] dX7_judge_81 rfl wv_RX7_273 omX6_proofOf rfl in_6 rfl rfl rfl (Nat.le_of_ble_eq_true rfl) (by decide) (kX6_proofOf a5 (σ.1 0 0 0) σ τ h2) ?_
    refine Vm.i2l (n := 85) dX7_judge_84 rfl ?_
    refine Vm.lcmp (n := 86) dX7_judge_85 rfl ?_
    refine Vm.if_eq (n := 89) 94 dX7_judge_86 rfl rfl (fun c9 => ?_) (fun c9 => ?_)
    · replace h := (if_pos c9).symm.trans h
      replace h := Option.bind_eq_some_iff.mp h
      obtain ⟨x3, e3, h⟩ := h
      replace e3 := Option.some.inj e3
      refine Vm.iinc (n := 97) (v := x3) (lv' := [(5, .inl x3), (0, .inr (.inr (7, 0))), (3, .inr (.inr (5, a3))), (4, .inl a4)]) 3 dX7_judge_94 rfl rfl e3 (Nat.le_of_ble_eq_true rfl) rfl ?_
      refine Vm.goto 54 dX7_judge_97 rfl ?_
      refine Vm.sub (lv' := [(0, .inr (.inr (7, 0))), (3, .inr (.inr (5, a3))), (4, .inl a4), (5, .inl x3)]) [1, 2, 3, 0] rfl ?_
      obtain rfl := Option.some.inj h
      exact hk
    · replace h := (if_neg c9).symm.trans h
      refine Vm.iconst (n := 90) (v := (1 : Int32)) dX7_judge_89 rfl (by decide) ?_
      refine Vm.iload (n := 92) 3 dX7_judge_90 rfl rfl ?_
      refine Vm.iadd (n := 93) dX7_judge_92 rfl ?_
      obtain rfl := Option.some.inj h
      exact Vm.iret dX7_judge_93 rfl hk.1 hk.2.symm
theorem lX7_judge_54_L (a3 : Nat) (ha3 : a3 < 4) (a4 : Int32) (σ τ : mm) {r : Option mv} {M' : mm × mm} (z : Int32) (w9 : Int32 × mm) (h : lp (fX7_judge_54_L a3 a4 σ) z = some w9) (hk : (fun q : Int32 × mm => r = some (.inl q.1) ∧ M' = (q.2, τ)) w9) : Vm mX7_judge 33 54 [(0, .inr (.inr (7, 0))), (3, .inr (.inr (5, a3))), (4, .inl a4), (5, .inl z)] [] (σ, τ) r M' :=
  lp_link (S := Int32) (R := Int32 × mm) (body := fX7_judge_54_L a3 a4 σ) (A := fun z : Int32 => Vm mX7_judge 33 54 [(0, .inr (.inr (7, 0))), (3, .inr (.inr (5, a3))), (4, .inl a4), (5, .inl z)] [] (σ, τ) r M') (B := fun w : Int32 × mm => (fun q : Int32 × mm => r = some (.inl q.1) ∧ M' = (q.2, τ)) w) (fun z v hb hv => lX7_judge_54 a3 ha3 a4 z σ τ hb hv) z w9 h hk
set_option maxRecDepth 20000 in
theorem lX7_judge_0 (a1 : Int32) (σ τ : mm) {r : Option mv} {M' : mm × mm} {v9 : Int32 × mm} (h : fX7_judge_0 a1 σ = some v9) (hk : (fun q : Int32 × mm => r = some (.inl q.1) ∧ M' = (q.2, τ)) v9) : Vm mX7_judge 33 0 [(0, .inr (.inr (7, 0))), (1, .inl a1)] [] (σ, τ) r M' := by
  unfold fX7_judge_0 at h
  refine Vm.aload_n (n := 1) 0 dX7_judge_0 rfl rfl ?_
  refine Vm.iload_n (n := 2) 1 dX7_judge_1 rfl rfl ?_
  replace h := Option.bind_eq_some_iff.mp h
  obtain ⟨q1, h1, h⟩ := h
  refine Vm.callV (Y := mX7_sheetTrouble) (n := 5) [.inl a1] dX7_judge_2 rfl wv_RX7_267 omX7_sheetTrouble rfl in_7 rfl rfl rfl (Nat.le_of_ble_eq_true rfl) (by decide) (kX7_sheetTrouble a1 σ τ h1) ?_
  refine Vm.istore_n (n := 6) (lv' := [(2, .inl q1), (0, .inr (.inr (7, 0))), (1, .inl a1)]) dX7_judge_5 rfl (Nat.le_of_ble_eq_true rfl) rfl ?_
  refine Vm.iload_n (n := 7) 0 dX7_judge_6 rfl rfl ?_
  refine Vm.iconst (n := 8) (v := (-1 : Int32)) dX7_judge_7 rfl (by decide) ?_
  refine Vm.icmp_eq (n := 11) 17 dX7_judge_8 rfl rfl (fun c9 => ?_) (fun c9 => ?_)
  · replace h := (if_pos c9).symm.trans h
    refine Vm.aload_n (n := 18) 1 dX7_judge_17 rfl rfl ?_
    refine Vm.getR (n := 21) dX7_judge_18 rfl wf_RX7_36 in_7 rfl (by decide) rfl ?_
    refine Vm.aload_n (n := 22) 1 dX7_judge_21 rfl rfl ?_
    refine Vm.getR (n := 25) dX7_judge_22 rfl wf_RX7_12 in_7 rfl (by decide) rfl ?_
    replace h := Option.bind_eq_some_iff.mp h
    obtain ⟨q2, h2, h⟩ := h
    refine Vm.callVv (Y := mX6_refresh) (n := 28) [.inr (.inr (0, 0))] dX7_judge_25 rfl wv_RX7_228 omX6_refresh rfl in_6 rfl rfl rfl (Nat.le_of_ble_eq_true rfl) (by decide) (kX6_refresh 0 (by decide) σ τ h2) ?_
    refine Vm.aload_n (n := 29) 1 dX7_judge_28 rfl rfl ?_
    refine Vm.getR (n := 32) dX7_judge_29 rfl wf_RX7_56 in_7 rfl (by decide) rfl ?_
    refine Vm.iload_n (n := 33) 2 dX7_judge_32 rfl rfl ?_
    replace h := Option.bind_eq_some_iff.mp h
    obtain ⟨k3, h3, h⟩ := h
    refine Vm.aald (n := 34) dX7_judge_33 rfl in_30 rfl rfl (by decide) (fun _ => rfl) rfl h3 ?_
    have g3 := rdR_lt h3
    refine Vm.astore_n (n := 35) (lv' := [(3, .inr (.inr (5, k3))), (2, .inl q1), (0, .inr (.inr (7, 0))), (1, .inl a1)]) dX7_judge_34 rfl (Nat.le_of_ble_eq_true rfl) rfl ?_
    refine Vm.aload_n (n := 36) 0 dX7_judge_35 rfl rfl ?_
    refine Vm.gX (n := 39) dX7_judge_36 rfl wf_RX7_270 (ink ik_5 (by omega)) rfl (by decide) rfl (by decide) ?_
    refine Vm.aload_n (n := 40) 2 dX7_judge_39 rfl rfl ?_
    refine Vm.getR (n := 43) dX7_judge_40 rfl wf_RX7_36 in_7 rfl (by decide) rfl ?_
    refine Vm.gX (n := 46) dX7_judge_43 rfl wf_RX7_238 in_6 rfl (by decide) rfl (by decide) ?_
    refine Vm.callS (Y := mJ9_min_7cf53) (n := 49) [.inl (q2.1 5 k3 1), .inl (q2.1 6 0 2)] dX7_judge_46 rfl wv_RX7_225 omJ9_min_7cf53 rfl rfl (Nat.le_of_ble_eq_true rfl) (by decide) (kJ9_min_7cf53 (q2.1 5 k3 1) (q2.1 6 0 2) rfl) ?_
    replace h := Option.bind_eq_some_iff.mp h
    obtain ⟨x4, e4, h⟩ := h
    replace e4 := Option.some.inj e4
    refine Vm.top e4 ?_
    refine Vm.istore (n := 51) (lv' := [(4, .inl x4), (3, .inr (.inr (5, k3))), (2, .inl q1), (0, .inr (.inr (7, 0))), (1, .inl a1)]) dX7_judge_49 rfl (Nat.le_of_ble_eq_true rfl) rfl ?_
    refine Vm.iconst (n := 52) (v := (0 : Int32)) dX7_judge_51 rfl (by decide) ?_
    refine Vm.istore (n := 54) (lv' := [(5, .inl (0 : Int32)), (4, .inl x4), (3, .inr (.inr (5, k3))), (2, .inl q1), (0, .inr (.inr (7, 0))), (1, .inl a1)]) dX7_judge_52 rfl (Nat.le_of_ble_eq_true rfl) rfl ?_
    refine Vm.sub (lv' := [(0, .inr (.inr (7, 0))), (3, .inr (.inr (5, k3))), (4, .inl x4), (5, .inl (0 : Int32))]) [4, 2, 1, 0] rfl ?_
    exact lX7_judge_54_L k3 (by omega) x4 q2 τ ((0 : Int32)) _ h hk
  · replace h := (if_neg c9).symm.trans h
    refine Vm.aload_n (n := 12) 1 dX7_judge_11 rfl rfl ?_
    refine Vm.iload_n (n := 13) 0 dX7_judge_12 rfl rfl ?_
    replace h := Option.bind_eq_some_iff.mp h
    obtain ⟨q5, h5, h⟩ := h
    refine Vm.callV (Y := mX7_finding) (n := 16) [.inl q1] dX7_judge_13 rfl wv_RX7_68 omX7_finding rfl in_7 rfl rfl rfl (Nat.le_of_ble_eq_true rfl) (by decide) (kX7_finding q1 σ τ h5) ?_
    obtain rfl := Option.some.inj h
    exact Vm.iret dX7_judge_16 rfl hk.1 hk.2.symm
theorem kX7_judge (a1 : Int32) (σ τ : mm) {q : Int32 × mm} (h : fX7_judge a1 σ = some q) : Cx mX7_judge 33 [.inr (.inr (7, 0)), .inl a1] (σ, τ) (some (.inl q.1)) (q.2, τ) :=
  Cx.of (lv := [(0, .inr (.inr (7, 0))), (1, .inl a1)]) (by decide) (fun ad => Nat.le_of_ble_eq_true rfl) (fun ad => rfl) (lX7_judge_0 a1 σ τ h ⟨rfl, rfl⟩)
-- java/lang/Integer bitCount (I)I
def fJ6_bitCount_0f7a4_0 (a0 : Int32) : Int32 :=
  (((((((a0 - (((a0.toUInt32 >>> ((1 : Int32).toUInt32 &&& Int32.toUInt32 31)).toInt32) &&& (1431655765 : Int32))) &&& (858993459 : Int32)) + ((((a0 - (((a0.toUInt32 >>> ((1 : Int32).toUInt32 &&& Int32.toUInt32 31)).toInt32) &&& (1431655765 : Int32))).toUInt32 >>> ((2 : Int32).toUInt32 &&& Int32.toUInt32 31)).toInt32) &&& (858993459 : Int32))) + (((((a0 - (((a0.toUInt32 >>> ((1 : Int32).toUInt32 &&& Int32.toUInt32 31)).toInt32) &&& (1431655765 : Int32))) &&& (858993459 : Int32)) + ((((a0 - (((a0.toUInt32 >>> ((1 : Int32).toUInt32 &&& Int32.toUInt32 31)).toInt32) &&& (1431655765 : Int32))).toUInt32 >>> ((2 : Int32).toUInt32 &&& Int32.toUInt32 31)).toInt32) &&& (858993459 : Int32))).toUInt32 >>> ((4 : Int32).toUInt32 &&& Int32.toUInt32 31)).toInt32)) &&& (252645135 : Int32)) + (((((((a0 - (((a0.toUInt32 >>> ((1 : Int32).toUInt32 &&& Int32.toUInt32 31)).toInt32) &&& (1431655765 : Int32))) &&& (858993459 : Int32)) + ((((a0 - (((a0.toUInt32 >>> ((1 : Int32).toUInt32 &&& Int32.toUInt32 31)).toInt32) &&& (1431655765 : Int32))).toUInt32 >>> ((2 : Int32).toUInt32 &&& Int32.toUInt32 31)).toInt32) &&& (858993459 : Int32))) + (((((a0 - (((a0.toUInt32 >>> ((1 : Int32).toUInt32 &&& Int32.toUInt32 31)).toInt32) &&& (1431655765 : Int32))) &&& (858993459 : Int32)) + ((((a0 - (((a0.toUInt32 >>> ((1 : Int32).toUInt32 &&& Int32.toUInt32 31)).toInt32) &&& (1431655765 : Int32))).toUInt32 >>> ((2 : Int32).toUInt32 &&& Int32.toUInt32 31)).toInt32) &&& (858993459 : Int32))).toUInt32 >>> ((4 : Int32).toUInt32 &&& Int32.toUInt32 31)).toInt32)) &&& (252645135 : Int32)).toUInt32 >>> ((8 : Int32).toUInt32 &&& Int32.toUInt32 31)).toInt32)) + ((((((((a0 - (((a0.toUInt32 >>> ((1 : Int32).toUInt32 &&& Int32.toUInt32 31)).toInt32) &&& (1431655765 : Int32))) &&& (858993459 : Int32)) + ((((a0 - (((a0.toUInt32 >>> ((1 : Int32).toUInt32 &&& Int32.toUInt32 31)).toInt32) &&& (1431655765 : Int32))).toUInt32 >>> ((2 : Int32).toUInt32 &&& Int32.toUInt32 31)).toInt32) &&& (858993459 : Int32))) + (((((a0 - (((a0.toUInt32 >>> ((1 : Int32).toUInt32 &&& Int32.toUInt32 31)).toInt32) &&& (1431655765 : Int32))) &&& (858993459 : Int32)) + ((((a0 - (((a0.toUInt32 >>> ((1 : Int32).toUInt32 &&& Int32.toUInt32 31)).toInt32) &&& (1431655765 : Int32))).toUInt32 >>> ((2 : Int32).toUInt32 &&& Int32.toUInt32 31)).toInt32) &&& (858993459 : Int32))).toUInt32 >>> ((4 : Int32).toUInt32 &&& Int32.toUInt32 31)).toInt32)) &&& (252645135 : Int32)) + (((((((a0 - (((a0.toUInt32 >>> ((1 : Int32).toUInt32 &&& Int32.toUInt32 31)).toInt32) &&& (1431655765 : Int32))) &&& (858993459 : Int32)) + ((((a0 - (((a0.toUInt32 >>> ((1 : Int32).toUInt32 &&& Int32.toUInt32 31)).toInt32) &&& (1431655765 : Int32))).toUInt32 >>> ((2 : Int32).toUInt32 &&& Int32.toUInt32 31)).toInt32) &&& (858993459 : Int32))) + (((((a0 - (((a0.toUInt32 >>> ((1 : Int32).toUInt32 &&& Int32.toUInt32 31)).toInt32) &&& (1431655765 : Int32))) &&& (858993459 : Int32)) + ((((a0 - (((a0.toUInt32 >>> ((1 : Int32).toUInt32 &&& Int32.toUInt32 31)).toInt32) &&& (1431655765 : Int32))).toUInt32 >>> ((2 : Int32).toUInt32 &&& Int32.toUInt32 31)).toInt32) &&& (858993459 : Int32))).toUInt32 >>> ((4 : Int32).toUInt32 &&& Int32.toUInt32 31)).toInt32)) &&& (252645135 : Int32)).toUInt32 >>> ((8 : Int32).toUInt32 &&& Int32.toUInt32 31)).toInt32)).toUInt32 >>> ((16 : Int32).toUInt32 &&& Int32.toUInt32 31)).toInt32)) &&& (63 : Int32)
def fJ6_bitCount_0f7a4 (a0 : Int32) : Int32 := fJ6_bitCount_0f7a4_0 a0
set_option maxRecDepth 20000 in
theorem lJ6_bitCount_0f7a4_0 (a0 : Int32) {M : mm × mm} {r : Option mv} {M' : mm × mm} {v9 : Int32} (h : fJ6_bitCount_0f7a4_0 a0 = v9) (hk : (fun q : Int32 => r = some (.inl q) ∧ M' = M) v9) : Vm mJ6_bitCount_0f7a4 0 0 [(0, .inl a0)] [] M r M' := by
  unfold fJ6_bitCount_0f7a4_0 at h
  refine Vm.iload_n (n := 1) 0 dJ6_bitCount_0f7a4_0 rfl rfl ?_
  refine Vm.iload_n (n := 2) 0 dJ6_bitCount_0f7a4_1 rfl rfl ?_
  refine Vm.iconst (n := 3) (v := (1 : Int32)) dJ6_bitCount_0f7a4_2 rfl (by decide) ?_
  refine Vm.iushr (n := 4) dJ6_bitCount_0f7a4_3 rfl ?_
  refine Vm.ldc_w (n := 7) dJ6_bitCount_0f7a4_4 rfl wc_RJ6_265 ?_
  refine Vm.iand (n := 8) dJ6_bitCount_0f7a4_7 rfl ?_
  refine Vm.isub (n := 9) dJ6_bitCount_0f7a4_8 rfl ?_
  refine Vm.istore_n (n := 10) (lv' := [(0, .inl (a0 - (((a0.toUInt32 >>> ((1 : Int32).toUInt32 &&& Int32.toUInt32 31)).toInt32) &&& (1431655765 : Int32))))]) dJ6_bitCount_0f7a4_9 rfl (Nat.le_of_ble_eq_true rfl) rfl ?_
  refine Vm.iload_n (n := 11) 0 dJ6_bitCount_0f7a4_10 rfl rfl ?_
  refine Vm.ldc_w (n := 14) dJ6_bitCount_0f7a4_11 rfl wc_RJ6_266 ?_
  refine Vm.iand (n := 15) dJ6_bitCount_0f7a4_14 rfl ?_
  refine Vm.iload_n (n := 16) 0 dJ6_bitCount_0f7a4_15 rfl rfl ?_
  refine Vm.iconst (n := 17) (v := (2 : Int32)) dJ6_bitCount_0f7a4_16 rfl (by decide) ?_
  refine Vm.iushr (n := 18) dJ6_bitCount_0f7a4_17 rfl ?_
  refine Vm.ldc_w (n := 21) dJ6_bitCount_0f7a4_18 rfl wc_RJ6_266 ?_
  refine Vm.iand (n := 22) dJ6_bitCount_0f7a4_21 rfl ?_
  refine Vm.iadd (n := 23) dJ6_bitCount_0f7a4_22 rfl ?_
  refine Vm.istore_n (n := 24) (lv' := [(0, .inl (((a0 - (((a0.toUInt32 >>> ((1 : Int32).toUInt32 &&& Int32.toUInt32 31)).toInt32) &&& (1431655765 : Int32))) &&& (858993459 : Int32)) + ((((a0 - (((a0.toUInt32 >>> ((1 : Int32).toUInt32 &&& Int32.toUInt32 31)).toInt32) &&& (1431655765 : Int32))).toUInt32 >>> ((2 : Int32).toUInt32 &&& Int32.toUInt32 31)).toInt32) &&& (858993459 : Int32))))]) dJ6_bitCount_0f7a4_23 rfl (Nat.le_of_ble_eq_true rfl) rfl ?_
  refine Vm.iload_n (n := 25) 0 dJ6_bitCount_0f7a4_24 rfl rfl ?_
  refine Vm.iload_n (n := 26) 0 dJ6_bitCount_0f7a4_25 rfl rfl ?_
  refine Vm.iconst (n := 27) (v := (4 : Int32)) dJ6_bitCount_0f7a4_26 rfl (by decide) ?_
  refine Vm.iushr (n := 28) dJ6_bitCount_0f7a4_27 rfl ?_
  refine Vm.iadd (n := 29) dJ6_bitCount_0f7a4_28 rfl ?_
  refine Vm.ldc_w (n := 32) dJ6_bitCount_0f7a4_29 rfl wc_RJ6_267 ?_
  refine Vm.iand (n := 33) dJ6_bitCount_0f7a4_32 rfl ?_
  refine Vm.istore_n (n := 34) (lv' := [(0, .inl (((((a0 - (((a0.toUInt32 >>> ((1 : Int32).toUInt32 &&& Int32.toUInt32 31)).toInt32) &&& (1431655765 : Int32))) &&& (858993459 : Int32)) + ((((a0 - (((a0.toUInt32 >>> ((1 : Int32).toUInt32 &&& Int32.toUInt32 31)).toInt32) &&& (1431655765 : Int32))).toUInt32 >>> ((2 : Int32).toUInt32 &&& Int32.toUInt32 31)).toInt32) &&& (858993459 : Int32))) + (((((a0 - (((a0.toUInt32 >>> ((1 : Int32).toUInt32 &&& Int32.toUInt32 31)).toInt32) &&& (1431655765 : Int32))) &&& (858993459 : Int32)) + ((((a0 - (((a0.toUInt32 >>> ((1 : Int32).toUInt32 &&& Int32.toUInt32 31)).toInt32) &&& (1431655765 : Int32))).toUInt32 >>> ((2 : Int32).toUInt32 &&& Int32.toUInt32 31)).toInt32) &&& (858993459 : Int32))).toUInt32 >>> ((4 : Int32).toUInt32 &&& Int32.toUInt32 31)).toInt32)) &&& (252645135 : Int32)))]) dJ6_bitCount_0f7a4_33 rfl (Nat.le_of_ble_eq_true rfl) rfl ?_
  refine Vm.iload_n (n := 35) 0 dJ6_bitCount_0f7a4_34 rfl rfl ?_
  refine Vm.iload_n (n := 36) 0 dJ6_bitCount_0f7a4_35 rfl rfl ?_
  refine Vm.bipush (n := 38) (v := (8 : Int32)) dJ6_bitCount_0f7a4_36 rfl (by decide) ?_
  refine Vm.iushr (n := 39) dJ6_bitCount_0f7a4_38 rfl ?_
  refine Vm.iadd (n := 40) dJ6_bitCount_0f7a4_39 rfl ?_
  refine Vm.istore_n (n := 41) (lv' := [(0, .inl ((((((a0 - (((a0.toUInt32 >>> ((1 : Int32).toUInt32 &&& Int32.toUInt32 31)).toInt32) &&& (1431655765 : Int32))) &&& (858993459 : Int32)) + ((((a0 - (((a0.toUInt32 >>> ((1 : Int32).toUInt32 &&& Int32.toUInt32 31)).toInt32) &&& (1431655765 : Int32))).toUInt32 >>> ((2 : Int32).toUInt32 &&& Int32.toUInt32 31)).toInt32) &&& (858993459 : Int32))) + (((((a0 - (((a0.toUInt32 >>> ((1 : Int32).toUInt32 &&& Int32.toUInt32 31)).toInt32) &&& (1431655765 : Int32))) &&& (858993459 : Int32)) + ((((a0 - (((a0.toUInt32 >>> ((1 : Int32).toUInt32 &&& Int32.toUInt32 31)).toInt32) &&& (1431655765 : Int32))).toUInt32 >>> ((2 : Int32).toUInt32 &&& Int32.toUInt32 31)).toInt32) &&& (858993459 : Int32))).toUInt32 >>> ((4 : Int32).toUInt32 &&& Int32.toUInt32 31)).toInt32)) &&& (252645135 : Int32)) + (((((((a0 - (((a0.toUInt32 >>> ((1 : Int32).toUInt32 &&& Int32.toUInt32 31)).toInt32) &&& (1431655765 : Int32))) &&& (858993459 : Int32)) + ((((a0 - (((a0.toUInt32 >>> ((1 : Int32).toUInt32 &&& Int32.toUInt32 31)).toInt32) &&& (1431655765 : Int32))).toUInt32 >>> ((2 : Int32).toUInt32 &&& Int32.toUInt32 31)).toInt32) &&& (858993459 : Int32))) + (((((a0 - (((a0.toUInt32 >>> ((1 : Int32).toUInt32 &&& Int32.toUInt32 31)).toInt32) &&& (1431655765 : Int32))) &&& (858993459 : Int32)) + ((((a0 - (((a0.toUInt32 >>> ((1 : Int32).toUInt32 &&& Int32.toUInt32 31)).toInt32) &&& (1431655765 : Int32))).toUInt32 >>> ((2 : Int32).toUInt32 &&& Int32.toUInt32 31)).toInt32) &&& (858993459 : Int32))).toUInt32 >>> ((4 : Int32).toUInt32 &&& Int32.toUInt32 31)).toInt32)) &&& (252645135 : Int32)).toUInt32 >>> ((8 : Int32).toUInt32 &&& Int32.toUInt32 31)).toInt32)))]) dJ6_bitCount_0f7a4_40 rfl (Nat.le_of_ble_eq_true rfl) rfl ?_
  refine Vm.iload_n (n := 42) 0 dJ6_bitCount_0f7a4_41 rfl rfl ?_
  refine Vm.iload_n (n := 43) 0 dJ6_bitCount_0f7a4_42 rfl rfl ?_
  refine Vm.bipush (n := 45) (v := (16 : Int32)) dJ6_bitCount_0f7a4_43 rfl (by decide) ?_
  refine Vm.iushr (n := 46) dJ6_bitCount_0f7a4_45 rfl ?_
  refine Vm.iadd (n := 47) dJ6_bitCount_0f7a4_46 rfl ?_
  refine Vm.istore_n (n := 48) (lv' := [(0, .inl (((((((a0 - (((a0.toUInt32 >>> ((1 : Int32).toUInt32 &&& Int32.toUInt32 31)).toInt32) &&& (1431655765 : Int32))) &&& (858993459 : Int32)) + ((((a0 - (((a0.toUInt32 >>> ((1 : Int32).toUInt32 &&& Int32.toUInt32 31)).toInt32) &&& (1431655765 : Int32))).toUInt32 >>> ((2 : Int32).toUInt32 &&& Int32.toUInt32 31)).toInt32) &&& (858993459 : Int32))) + (((((a0 - (((a0.toUInt32 >>> ((1 : Int32).toUInt32 &&& Int32.toUInt32 31)).toInt32) &&& (1431655765 : Int32))) &&& (858993459 : Int32)) + ((((a0 - (((a0.toUInt32 >>> ((1 : Int32).toUInt32 &&& Int32.toUInt32 31)).toInt32) &&& (1431655765 : Int32))).toUInt32 >>> ((2 : Int32).toUInt32 &&& Int32.toUInt32 31)).toInt32) &&& (858993459 : Int32))).toUInt32 >>> ((4 : Int32).toUInt32 &&& Int32.toUInt32 31)).toInt32)) &&& (252645135 : Int32)) + (((((((a0 - (((a0.toUInt32 >>> ((1 : Int32).toUInt32 &&& Int32.toUInt32 31)).toInt32) &&& (1431655765 : Int32))) &&& (858993459 : Int32)) + ((((a0 - (((a0.toUInt32 >>> ((1 : Int32).toUInt32 &&& Int32.toUInt32 31)).toInt32) &&& (1431655765 : Int32))).toUInt32 >>> ((2 : Int32).toUInt32 &&& Int32.toUInt32 31)).toInt32) &&& (858993459 : Int32))) + (((((a0 - (((a0.toUInt32 >>> ((1 : Int32).toUInt32 &&& Int32.toUInt32 31)).toInt32) &&& (1431655765 : Int32))) &&& (858993459 : Int32)) + ((((a0 - (((a0.toUInt32 >>> ((1 : Int32).toUInt32 &&& Int32.toUInt32 31)).toInt32) &&& (1431655765 : Int32))).toUInt32 >>> ((2 : Int32).toUInt32 &&& Int32.toUInt32 31)).toInt32) &&& (858993459 : Int32))).toUInt32 >>> ((4 : Int32).toUInt32 &&& Int32.toUInt32 31)).toInt32)) &&& (252645135 : Int32)).toUInt32 >>> ((8 : Int32).toUInt32 &&& Int32.toUInt32 31)).toInt32)) + ((((((((a0 - (((a0.toUInt32 >>> ((1 : Int32).toUInt32 &&& Int32.toUInt32 31)).toInt32) &&& (1431655765 : Int32))) &&& (858993459 : Int32)) + ((((a0 - (((a0.toUInt32 >>> ((1 : Int32).toUInt32 &&& Int32.toUInt32 31)).toInt32) &&& (1431655765 : Int32))).toUInt32 >>> ((2 : Int32).toUInt32 &&& Int32.toUInt32 31)).toInt32) &&& (858993459 : Int32))) + (((((a0 - (((a0.toUInt32 >>> ((1 : Int32).toUInt32 &&& Int32.toUInt32 31)).toInt32) &&& (1431655765 : Int32))) &&& (858993459 : Int32)) + ((((a0 - (((a0.toUInt32 >>> ((1 : Int32).toUInt32 &&& Int32.toUInt32 31)).toInt32) &&& (1431655765 : Int32))).toUInt32 >>> ((2 : Int32).toUInt32 &&& Int32.toUInt32 31)).toInt32) &&& (858993459 : Int32))).toUInt32 >>> ((4 : Int32).toUInt32 &&& Int32.toUInt32 31)).toInt32)) &&& (252645135 : Int32)) + (((((((a0 - (((a0.toUInt32 >>> ((1 : Int32).toUInt32 &&& Int32.toUInt32 31)).toInt32) &&& (1431655765 : Int32))) &&& (858993459 : Int32)) + ((((a0 - (((a0.toUInt32 >>> ((1 : Int32).toUInt32 &&& Int32.toUInt32 31)).toInt32) &&& (1431655765 : Int32))).toUInt32 >>> ((2 : Int32).toUInt32 &&& Int32.toUInt32 31)).toInt32) &&& (858993459 : Int32))) + (((((a0 - (((a0.toUInt32 >>> ((1 : Int32).toUInt32 &&& Int32.toUInt32 31)).toInt32) &&& (1431655765 : Int32))) &&& (858993459 : Int32)) + ((((a0 - (((a0.toUInt32 >>> ((1 : Int32).toUInt32 &&& Int32.toUInt32 31)).toInt32) &&& (1431655765 : Int32))).toUInt32 >>> ((2 : Int32).toUInt32 &&& Int32.toUInt32 31)).toInt32) &&& (858993459 : Int32))).toUInt32 >>> ((4 : Int32).toUInt32 &&& Int32.toUInt32 31)).toInt32)) &&& (252645135 : Int32)).toUInt32 >>> ((8 : Int32).toUInt32 &&& Int32.toUInt32 31)).toInt32)).toUInt32 >>> ((16 : Int32).toUInt32 &&& Int32.toUInt32 31)).toInt32)))]) dJ6_bitCount_0f7a4_47 rfl (Nat.le_of_ble_eq_true rfl) rfl ?_
  refine Vm.iload_n (n := 49) 0 dJ6_bitCount_0f7a4_48 rfl rfl ?_
  refine Vm.bipush (n := 51) (v := (63 : Int32)) dJ6_bitCount_0f7a4_49 rfl (by decide) ?_
  refine Vm.iand (n := 52) dJ6_bitCount_0f7a4_51 rfl ?_
  subst h
  exact Vm.iret dJ6_bitCount_0f7a4_52 rfl hk.1 hk.2.symm
theorem kJ6_bitCount_0f7a4 (a0 : Int32) {M : mm × mm} {q : Int32} (h : fJ6_bitCount_0f7a4 a0 = q) : Cx mJ6_bitCount_0f7a4 0 [.inl a0] M (some (.inl q)) M :=
  Cx.ofF (lv := [(0, .inl a0)]) (by decide +kernel) (fun ad => Nat.le_of_ble_eq_true rfl) (fun ad => rfl) (lJ6_bitCount_0f7a4_0 a0 h ⟨rfl, rfl⟩)
-- ThinBodies$Cloud fewestBroken ()I
noncomputable def fX1_fewestBroken_48 (a1 : Int32) (a2 : Int32) (σ : mm) : Option ((Int32 × Int32) ⊕ (Int32)) :=
  Option.bind (some (a2 + (1 : Int32))) fun x1 =>
  some (.inl (a1, x1))
noncomputable def fX1_fewestBroken_46 (a2 : Int32) (a3 : Int32) (σ : mm) : Option ((Int32 × Int32) ⊕ (Int32)) :=
  fX1_fewestBroken_48 a3 a2 σ
noncomputable def fX1_fewestBroken_6 (a1 : Int32) (a2 : Int32) (σ : mm) : Option ((Int32 × Int32) ⊕ (Int32)) :=
  if (σ.1 1 0 1) ≤ a2 then
  some (.inr (a1))
  else
  Option.bind (fX1_brokenAt a2 σ) fun q1 =>
  Option.bind (some ((fJ6_bitCount_0f7a4 q1) - (fJ6_bitCount_0f7a4 a1))) fun x2 =>
  if x2 < (0 : Int32) then
  fX1_fewestBroken_46 a2 q1 σ
  else
  if x2 = (0 : Int32) then
  if a1 ≤ q1 then
  fX1_fewestBroken_48 a1 a2 σ
  else
  fX1_fewestBroken_46 a2 q1 σ
  else
  fX1_fewestBroken_48 a1 a2 σ
noncomputable def fX1_fewestBroken_6_L (σ : mm) : Int32 × Int32 → Option ((Int32 × Int32) ⊕ (Int32)) := fun z => fX1_fewestBroken_6 z.1 z.2 σ
noncomputable def fX1_fewestBroken_0 (σ : mm) : Option (Int32) :=
  lp (fX1_fewestBroken_6_L σ) ((255 : Int32), (0 : Int32))
noncomputable def fX1_fewestBroken (σ : mm) : Option (Int32) := fX1_fewestBroken_0 σ
set_option maxRecDepth 20000 in
theorem lX1_fewestBroken_48 (a1 : Int32) (a2 : Int32) (σ σ0 τ : mm) (hσ : σ = σ0) {r : Option mv} {M' : mm × mm} {v9 : (Int32 × Int32) ⊕ (Int32)} (h : fX1_fewestBroken_48 a1 a2 σ = some v9) (hk : (Sum.elim (fun z : Int32 × Int32 => Vm mX1_fewestBroken 1 6 [(0, .inr (.inr (1, 0))), (1, .inl z.1), (2, .inl z.2)] [] (σ, τ) r M') (fun q : Int32 => r = some (.inl q) ∧ M' = (σ0, τ))) v9) : Vm mX1_fewestBroken 1 48 [(0, .inr (.inr (1, 0))), (1, .inl a1), (2, .inl a2)] [] (σ, τ) r M' := by
  unfold fX1_fewestBroken_48 at h
  replace h := Option.bind_eq_some_iff.mp h
  obtain ⟨x1, e1, h⟩ := h
  replace e1 := Option.some.inj e1
  refine Vm.iinc (n := 51) (v := x1) (lv' := [(2, .inl x1), (0, .inr (.inr (1, 0))), (1, .inl a1)]) 2 dX1_fewestBroken_48 rfl rfl e1 (Nat.le_of_ble_eq_true rfl) rfl ?_
  refine Vm.goto 6 dX1_fewestBroken_51 rfl ?_
  refine Vm.sub (lv' := [(0, .inr (.inr (1, 0))), (1, .inl a1), (2, .inl x1)]) [1, 2, 0] rfl ?_
  obtain rfl := Option.some.inj h
  exact hk
set_option maxRecDepth 20000 in
theorem lX1_fewestBroken_46 (a2 : Int32) (a3 : Int32) (σ σ0 τ : mm) (hσ : σ = σ0) {r : Option mv} {M' : mm × mm} {v9 : (Int32 × Int32) ⊕ (Int32)} (h : fX1_fewestBroken_46 a2 a3 σ = some v9) (hk : (Sum.elim (fun z : Int32 × Int32 => Vm mX1_fewestBroken 1 6 [(0, .inr (.inr (1, 0))), (1, .inl z.1), (2, .inl z.2)] [] (σ, τ) r M') (fun q : Int32 => r = some (.inl q) ∧ M' = (σ0, τ))) v9) : Vm mX1_fewestBroken 1 46 [(0, .inr (.inr (1, 0))), (2, .inl a2), (3, .inl a3)] [] (σ, τ) r M' := by
  unfold fX1_fewestBroken_46 at h
  refine Vm.iload_n (n := 47) 2 dX1_fewestBroken_46 rfl rfl ?_
  refine Vm.istore_n (n := 48) (lv' := [(1, .inl a3), (0, .inr (.inr (1, 0))), (2, .inl a2), (3, .inl a3)]) dX1_fewestBroken_47 rfl (Nat.le_of_ble_eq_true rfl) rfl ?_
  refine Vm.sub (lv' := [(0, .inr (.inr (1, 0))), (1, .inl a3), (2, .inl a2)]) [1, 0, 2] rfl ?_
  exact lX1_fewestBroken_48 a3 a2 σ σ0 τ hσ h hk
set_option maxRecDepth 20000 in
theorem lX1_fewestBroken_6 (a1 : Int32) (a2 : Int32) (σ σ0 τ : mm) (hσ : σ = σ0) {r : Option mv} {M' : mm × mm} {v9 : (Int32 × Int32) ⊕ (Int32)} (h : fX1_fewestBroken_6 a1 a2 σ = some v9) (hk : (Sum.elim (fun z : Int32 × Int32 => Vm mX1_fewestBroken 1 6 [(0, .inr (.inr (1, 0))), (1, .inl z.1), (2, .inl z.2)] [] (σ, τ) r M') (fun q : Int32 => r = some (.inl q) ∧ M' = (σ0, τ))) v9) : Vm mX1_fewestBroken 1 6 [(0, .inr (.inr (1, 0))), (1, .inl a1), (2, .inl a2)] [] (σ, τ) r M' := by
  unfold fX1_fewestBroken_6 at h
  refine Vm.iload_n (n := 7) 2 dX1_fewestBroken_6 rfl rfl ?_
  refine Vm.aload_n (n := 8) 0 dX1_fewestBroken_7 rfl rfl ?_
  refine Vm.gX (n := 11) dX1_fewestBroken_8 rfl wf_RX1_15 in_1 rfl (by decide) rfl (by decide) ?_
  refine Vm.icmp_ge (n := 14) 54 dX1_fewestBroken_11 rfl rfl (fun c9 => ?_) (fun c9 => ?_)
  · replace h := (if_pos c9).symm.trans h
    refine Vm.iload_n (n := 55) 1 dX1_fewestBroken_54 rfl rfl ?_
    obtain rfl := Option.some.inj h
    exact Vm.iret dX1_fewestBroken_55 rfl hk.1 (by rw [hσ]; exact hk.2.symm)
  · replace h := (if_neg c9).symm.trans h
    refine Vm.aload_n (n := 15) 0 dX1_fewestBroken_14 rfl rfl ?_
    refine Vm.iload_n (n := 16) 2 dX1_fewestBroken_15 rfl rfl ?_
    replace h := Option.bind_eq_some_iff.mp h
    obtain ⟨q1, h1, h⟩ := h
    refine Vm.callV (Y := mX1_brokenAt) (n := 19) [.inl a2] dX1_fewestBroken_16 rfl wv_RX1_86 omX1_brokenAt rfl in_1 rfl rfl rfl (Nat.le_of_ble_eq_true rfl) (by decide) (kX1_brokenAt a2 σ τ h1) ?_
    refine Vm.istore_n (n := 20) (lv' := [(3, .inl q1), (0, .inr (.inr (1, 0))), (1, .inl a1), (2, .inl a2)]) dX1_fewestBroken_19 rfl (Nat.le_of_ble_eq_true rfl) rfl ?_
    refine Vm.iload_n (n := 21) 0 dX1_fewestBroken_20 rfl rfl ?_
    refine Vm.callS (Y := mJ6_bitCount_0f7a4) (n := 24) [.inl q1] dX1_fewestBroken_21 rfl wv_RX1_115 omJ6_bitCount_0f7a4 rfl rfl (Nat.le_of_ble_eq_true rfl) (by decide) (kJ6_bitCount_0f7a4 q1 rfl) ?_
    refine Vm.iload_n (n := 25) 2 dX1_fewestBroken_24 rfl rfl ?_
    refine Vm.callS (Y := mJ6_bitCount_0f7a4) (n := 28) [.inl a1] dX1_fewestBroken_25 rfl wv_RX1_115 omJ6_bitCount_0f7a4 rfl rfl (Nat.le_of_ble_eq_true rfl) (by decide) (kJ6_bitCount_0f7a4 a1 rfl) ?_
    refine Vm.isub (n := 29) dX1_fewestBroken_28 rfl ?_
    replace h := Option.bind_eq_some_iff.mp h
    obtain ⟨x2, e2, h⟩ := h
    replace e2 := Option.some.inj e2
    refine Vm.top e2 ?_
    refine Vm.istore (n := 31) (lv' := [(4, .inl x2), (3, .inl q1), (0, .inr (.inr (1, 0))), (1, .inl a1), (2, .inl a2)]) dX1_fewestBroken_29 rfl (Nat.le_of_ble_eq_true rfl) rfl ?_
    refine Vm.iload (n := 33) 0 dX1_fewestBroken_31 rfl rfl ?_
    refine Vm.if_lt (n := 36) 46 dX1_fewestBroken_33 rfl rfl (fun c9 => ?_) (fun c9 => ?_)
    · replace h := (if_pos c9).symm.trans h
      refine Vm.sub (lv' := [(0, .inr (.inr (1, 0))), (2, .inl a2), (3, .inl q1)]) [2, 4, 1] rfl ?_
      exact lX1_fewestBroken_46 a2 q1 σ σ0 τ hσ h hk
    · replace h := (if_neg c9).symm.trans h
      refine Vm.iload (n := 38) 0 dX1_fewestBroken_36 rfl rfl ?_
      refine Vm.if_ne (n := 41) 48 dX1_fewestBroken_38 rfl rfl (fun c9 => ?_) (fun c9 => ?_)
      · replace h := (if_neg c9).symm.trans h
        refine Vm.sub (lv' := [(0, .inr (.inr (1, 0))), (1, .inl a1), (2, .inl a2)]) [2, 3, 4] rfl ?_
        exact lX1_fewestBroken_48 a1 a2 σ σ0 τ hσ h hk
      · replace h := (if_pos c9).symm.trans h
        refine Vm.iload_n (n := 42) 1 dX1_fewestBroken_41 rfl rfl ?_
        refine Vm.iload_n (n := 43) 3 dX1_fewestBroken_42 rfl rfl ?_
        refine Vm.icmp_ge (n := 46) 48 dX1_fewestBroken_43 rfl rfl (fun c9 => ?_) (fun c9 => ?_)
        · replace h := (if_pos c9).symm.trans h
          refine Vm.sub (lv' := [(0, .inr (.inr (1, 0))), (1, .inl a1), (2, .inl a2)]) [2, 3, 4] rfl ?_
          exact lX1_fewestBroken_48 a1 a2 σ σ0 τ hσ h hk
        · replace h := (if_neg c9).symm.trans h
          refine Vm.sub (lv' := [(0, .inr (.inr (1, 0))), (2, .inl a2), (3, .inl q1)]) [2, 4, 1] rfl ?_
          exact lX1_fewestBroken_46 a2 q1 σ σ0 τ hσ h hk
theorem lX1_fewestBroken_6_L (σ σ0 τ : mm) (hσ : σ = σ0) {r : Option mv} {M' : mm × mm} (z : Int32 × Int32) (w9 : Int32) (h : lp (fX1_fewestBroken_6_L σ) z = some w9) (hk : (fun q : Int32 => r = some (.inl q) ∧ M' = (σ0, τ)) w9) : Vm mX1_fewestBroken 1 6 [(0, .inr (.inr (1, 0))), (1, .inl z.1), (2, .inl z.2)] [] (σ, τ) r M' :=
  lp_link (S := Int32 × Int32) (R := Int32) (body := fX1_fewestBroken_6_L σ) (A := fun z : Int32 × Int32 => Vm mX1_fewestBroken 1 6 [(0, .inr (.inr (1, 0))), (1, .inl z.1), (2, .inl z.2)] [] (σ, τ) r M') (B := fun w : Int32 => (fun q : Int32 => r = some (.inl q) ∧ M' = (σ0, τ)) w) (fun z v hb hv => lX1_fewestBroken_6 z.1 z.2 σ σ0 τ hσ hb hv) z w9 h hk
set_option maxRecDepth 20000 in
theorem lX1_fewestBroken_0 (σ σ0 τ : mm) (hσ : σ = σ0) {r : Option mv} {M' : mm × mm} {v9 : Int32} (h : fX1_fewestBroken_0 σ = some v9) (hk : (fun q : Int32 => r = some (.inl q) ∧ M' = (σ0, τ)) v9) : Vm mX1_fewestBroken 1 0 [(0, .inr (.inr (1, 0)))] [] (σ, τ) r M' := by
  unfold fX1_fewestBroken_0 at h
  refine Vm.sipush (n := 3) (v := (255 : Int32)) dX1_fewestBroken_0 rfl (by decide) ?_
  refine Vm.istore_n (n := 4) (lv' := [(1, .inl (255 : Int32)), (0, .inr (.inr (1, 0)))]) dX1_fewestBroken_3 rfl (Nat.le_of_ble_eq_true rfl) rfl ?_
  refine Vm.iconst (n := 5) (v := (0 : Int32)) dX1_fewestBroken_4 rfl (by decide) ?_
  refine Vm.istore_n (n := 6) (lv' := [(2, .inl (0 : Int32)), (1, .inl (255 : Int32)), (0, .inr (.inr (1, 0)))]) dX1_fewestBroken_5 rfl (Nat.le_of_ble_eq_true rfl) rfl ?_
  refine Vm.sub (lv' := [(0, .inr (.inr (1, 0))), (1, .inl (255 : Int32)), (2, .inl (0 : Int32))]) [2, 1, 0] rfl ?_
  exact lX1_fewestBroken_6_L σ σ0 τ hσ ((255 : Int32), (0 : Int32)) _ h hk
theorem kX1_fewestBroken (σ τ : mm) {q : Int32} (h : fX1_fewestBroken σ = some q) : Cx mX1_fewestBroken 1 [.inr (.inr (1, 0))] (σ, τ) (some (.inl q)) (σ, τ) :=
  Cx.of (lv := [(0, .inr (.inr (1, 0)))]) (by decide) (fun ad => Nat.le_of_ble_eq_true rfl) (fun ad => rfl) (lX1_fewestBroken_0 σ σ τ rfl h ⟨rfl, rfl⟩)
-- ThinBodies needs ()I
noncomputable def fX7_needs_0 (σ : mm) : Option (Int32 × mm) :=
  Option.bind (fX1_refresh 0 σ) fun q1 =>
  Option.bind (fX1_fewestBroken q1) fun q2 =>
  some ((q2, q1))
noncomputable def fX7_needs (σ : mm) : Option (Int32 × mm) := fX7_needs_0 σ
set_option maxRecDepth 20000 in
theorem lX7_needs_0 (σ τ : mm) {r : Option mv} {M' : mm × mm} {v9 : Int32 × mm} (h : fX7_needs_0 σ = some v9) (hk : (fun q : Int32 × mm => r = some (.inl q.1) ∧ M' = (q.2, τ)) v9) : Vm mX7_needs 5 0 [(0, .inr (.inr (7, 0)))] [] (σ, τ) r M' := by
  unfold fX7_needs_0 at h
  refine Vm.aload_n (n := 1) 0 dX7_needs_0 rfl rfl ?_
  refine Vm.getR (n := 4) dX7_needs_1 rfl wf_RX7_29 in_7 rfl (by decide) rfl ?_
  refine Vm.aload_n (n := 5) 0 dX7_needs_4 rfl rfl ?_
  refine Vm.getR (n := 8) dX7_needs_5 rfl wf_RX7_12 in_7 rfl (by decide) rfl ?_
  replace h := Option.bind_eq_some_iff.mp h
  obtain ⟨q1, h1, h⟩ := h
  refine Vm.callVv (Y := mX1_refresh) (n := 11) [.inr (.inr (0, 0))] dX7_needs_8 rfl wv_RX7_154 omX1_refresh rfl in_1 rfl rfl rfl (Nat.le_of_ble_eq_true rfl) (by decide) (kX1_refresh 0 (by decide) σ τ h1) ?_
  refine Vm.aload_n (n := 12) 0 dX7_needs_11 rfl rfl ?_
  refine Vm.getR (n := 15) dX7_needs_12 rfl wf_RX7_29 in_7 rfl (by decide) rfl ?_
  replace h := Option.bind_eq_some_iff.mp h
  obtain ⟨q2, h2, h⟩ := h
  refine Vm.callV (Y := mX1_fewestBroken) (n := 18) [] dX7_needs_15 rfl wv_RX7_276 omX1_fewestBroken rfl in_1 rfl rfl rfl (Nat.le_of_ble_eq_true rfl) (by decide) (kX1_fewestBroken q1 τ h2) ?_
  obtain rfl := Option.some.inj h
  exact Vm.iret dX7_needs_18 rfl hk.1 hk.2.symm
theorem kX7_needs (σ τ : mm) {q : Int32 × mm} (h : fX7_needs σ = some q) : Cx mX7_needs 5 [.inr (.inr (7, 0))] (σ, τ) (some (.inl q.1)) (q.2, τ) :=
  Cx.of (lv := [(0, .inr (.inr (7, 0)))]) (by decide) (fun ad => Nat.le_of_ble_eq_true rfl) (fun ad => rfl) (lX7_needs_0 σ τ h ⟨rfl, rfl⟩)
-- ThinBodies$Cloud isInWithout (II)Z
def fX1_isInWithout_0 (a1 : Int32) (a2 : Int32) (σ : mm) : Option (Bool) :=
  Option.bind (fX1_brokenAt a1 σ) fun q1 =>
  if (q1 &&& (((1 : Int32) <<< (a2 &&& 31)) ^^^ (-1 : Int32))) = (0 : Int32) then
  some (true)
  else
  some (false)
def fX1_isInWithout (a1 : Int32) (a2 : Int32) (σ : mm) : Option (Bool) := fX1_isInWithout_0 a1 a2 σ
set_option maxRecDepth 20000 in
theorem lX1_isInWithout_0 (a1 : Int32) (a2 : Int32) (σ σ0 τ : mm) (hσ : σ = σ0) {r : Option mv} {M' : mm × mm} {v9 : Bool} (h : fX1_isInWithout_0 a1 a2 σ = some v9) (hk : (fun q : Bool => r = some (.inl (bi q)) ∧ M' = (σ0, τ)) v9) : Vm mX1_isInWithout 1 0 [(0, .inr (.inr (1, 0))), (1, .inl a1), (2, .inl a2)] [] (σ, τ) r M' := by
  unfold fX1_isInWithout_0 at h
  refine Vm.aload_n (n := 1) 0 dX1_isInWithout_0 rfl rfl ?_
  refine Vm.iload_n (n := 2) 1 dX1_isInWithout_1 rfl rfl ?_
  replace h := Option.bind_eq_some_iff.mp h
  obtain ⟨q1, h1, h⟩ := h
  refine Vm.callV (Y := mX1_brokenAt) (n := 5) [.inl a1] dX1_isInWithout_2 rfl wv_RX1_86 omX1_brokenAt rfl in_1 rfl rfl rfl (Nat.le_of_ble_eq_true rfl) (by decide) (kX1_brokenAt a1 σ τ h1) ?_
  refine Vm.iconst (n := 6) (v := (1 : Int32)) dX1_isInWithout_5 rfl (by decide) ?_
  refine Vm.iload_n (n := 7) 2 dX1_isInWithout_6 rfl rfl ?_
  refine Vm.ishl (n := 8) dX1_isInWithout_7 rfl ?_
  refine Vm.iconst (n := 9) (v := (-1 : Int32)) dX1_isInWithout_8 rfl (by decide) ?_
  refine Vm.ixor (n := 10) dX1_isInWithout_9 rfl ?_
  refine Vm.iand (n := 11) dX1_isInWithout_10 rfl ?_
  refine Vm.if_ne (n := 14) 18 dX1_isInWithout_11 rfl rfl (fun c9 => ?_) (fun c9 => ?_)
  · replace h := (if_neg c9).symm.trans h
    refine Vm.iconst (n := 19) (v := (0 : Int32)) dX1_isInWithout_18 rfl (by decide) ?_
    obtain rfl := Option.some.inj h
    exact Vm.zret (b := false) dX1_isInWithout_19 rfl rfl hk.1 (by rw [hσ]; exact hk.2.symm)
  · replace h := (if_pos c9).symm.trans h
    refine Vm.iconst (n := 15) (v := (1 : Int32)) dX1_isInWithout_14 rfl (by decide) ?_
    refine Vm.goto 19 dX1_isInWithout_15 rfl ?_
    obtain rfl := Option.some.inj h
    exact Vm.zret (b := true) dX1_isInWithout_19 rfl rfl hk.1 (by rw [hσ]; exact hk.2.symm)
theorem kX1_isInWithout (a1 : Int32) (a2 : Int32) (σ τ : mm) {q : Bool} (h : fX1_isInWithout a1 a2 σ = some q) : Cx mX1_isInWithout 1 [.inr (.inr (1, 0)), .inl a1, .inl a2] (σ, τ) (some (.inl (bi q))) (σ, τ) :=
  Cx.of (lv := [(0, .inr (.inr (1, 0))), (1, .inl a1), (2, .inl a2)]) (by decide) (fun ad => Nat.le_of_ble_eq_true rfl) (fun ad => rfl) (lX1_isInWithout_0 a1 a2 σ σ τ rfl h ⟨rfl, rfl⟩)
-- ThinBodies$Cloud insideWithout (I)I
noncomputable def fX1_insideWithout_27 (a1 : Int32) (a3 : Int32) (s0 : Int32) (s1 : Int32) (σ : mm) : Option ((Int32 × Int32) ⊕ (Int32)) :=
  Option.bind (some (s0 + s1)) fun x1 =>
  Option.bind (some (a3 + (1 : Int32))) fun x2 =>
  some (.inl (x1, x2))
noncomputable def fX1_insideWithout_4 (a1 : Int32) (a2 : Int32) (a3 : Int32) (σ : mm) : Option ((Int32 × Int32) ⊕ (Int32)) :=
  if (σ.1 1 0 1) ≤ a3 then
  some (.inr (a2))
  else
  Option.bind (fX1_isInWithout a3 a1 σ) fun q1 =>
  if (bi q1) = (0 : Int32) then
  fX1_insideWithout_27 a1 a3 a2 (0 : Int32) σ
  else
  fX1_insideWithout_27 a1 a3 a2 (1 : Int32) σ
noncomputable def fX1_insideWithout_4_L (a1 : Int32) (σ : mm) : Int32 × Int32 → Option ((Int32 × Int32) ⊕ (Int32)) := fun z => fX1_insideWithout_4 a1 z.1 z.2 σ
noncomputable def fX1_insideWithout_0 (a1 : Int32) (σ : mm) : Option (Int32) :=
  lp (fX1_insideWithout_4_L a1 σ) ((0 : Int32), (0 : Int32))
noncomputable def fX1_insideWithout (a1 : Int32) (σ : mm) : Option (Int32) := fX1_insideWithout_0 a1 σ
set_option maxRecDepth 20000 in
theorem lX1_insideWithout_27 (a1 : Int32) (a3 : Int32) (s0 : Int32) (s1 : Int32) (σ σ0 τ : mm) (hσ : σ = σ0) {r : Option mv} {M' : mm × mm} {v9 : (Int32 × Int32) ⊕ (Int32)} (h : fX1_insideWithout_27 a1 a3 s0 s1 σ = some v9) (hk : (Sum.elim (fun z : Int32 × Int32 => Vm mX1_insideWithout 2 4 [(0, .inr (.inr (1, 0))), (1, .inl a1), (2, .inl z.1), (3, .inl z.2)] [] (σ, τ) r M') (fun q : Int32 => r = some (.inl q) ∧ M' = (σ0, τ))) v9) : Vm mX1_insideWithout 2 27 [(0, .inr (.inr (1, 0))), (1, .inl a1), (3, .inl a3)] [.inl s1, .inl s0] (σ, τ) r M' := by
  unfold fX1_insideWithout_27 at h
  refine Vm.iadd (n := 28) dX1_insideWithout_27 rfl ?_
  replace h := Option.bind_eq_some_iff.mp h
  obtain ⟨x1, e1, h⟩ := h
  replace e1 := Option.some.inj e1
  refine Vm.top e1 ?_
  refine Vm.istore_n (n := 29) (lv' := [(2, .inl x1), (0, .inr (.inr (1, 0))), (1, .inl a1), (3, .inl a3)]) dX1_insideWithout_28 rfl (Nat.le_of_ble_eq_true rfl) rfl ?_
  replace h := Option.bind_eq_some_iff.mp h
  obtain ⟨x2, e2, h⟩ := h
  replace e2 := Option.some.inj e2
  refine Vm.iinc (n := 32) (v := x2) (lv' := [(3, .inl x2), (2, .inl x1), (0, .inr (.inr (1, 0))), (1, .inl a1)]) 3 dX1_insideWithout_29 rfl rfl e2 (Nat.le_of_ble_eq_true rfl) rfl ?_
  refine Vm.goto 4 dX1_insideWithout_32 rfl ?_
  refine Vm.sub (lv' := [(0, .inr (.inr (1, 0))), (1, .inl a1), (2, .inl x1), (3, .inl x2)]) [2, 3, 1, 0] rfl ?_
  obtain rfl := Option.some.inj h
  exact hk
set_option maxRecDepth 20000 in
theorem lX1_insideWithout_4 (a1 : Int32) (a2 : Int32) (a3 : Int32) (σ σ0 τ : mm) (hσ : σ = σ0) {r : Option mv} {M' : mm × mm} {v9 : (Int32 × Int32) ⊕ (Int32)} (h : fX1_insideWithout_4 a1 a2 a3 σ = some v9) (hk : (Sum.elim (fun z : Int32 × Int32 => Vm mX1_insideWithout 2 4 [(0, .inr (.inr (1, 0))), (1, .inl a1), (2, .inl z.1), (3, .inl z.2)] [] (σ, τ) r M') (fun q : Int32 => r = some (.inl q) ∧ M' = (σ0, τ))) v9) : Vm mX1_insideWithout 2 4 [(0, .inr (.inr (1, 0))), (1, .inl a1), (2, .inl a2), (3, .inl a3)] [] (σ, τ) r M' := by
  unfold fX1_insideWithout_4 at h
  refine Vm.iload_n (n := 5) 3 dX1_insideWithout_4 rfl rfl ?_
  refine Vm.aload_n (n := 6) 0 dX1_insideWithout_5 rfl rfl ?_
  refine Vm.gX (n := 9) dX1_insideWithout_6 rfl wf_RX1_15 in_1 rfl (by decide) rfl (by decide) ?_
  refine Vm.icmp_ge (n := 12) 35 dX1_insideWithout_9 rfl rfl (fun c9 => ?_) (fun c9 => ?_)
  · replace h := (if_pos c9).symm.trans h
    refine Vm.iload_n (n := 36) 2 dX1_insideWithout_35 rfl rfl ?_
    obtain rfl := Option.some.inj h
    exact Vm.iret dX1_insideWithout_36 rfl hk.1 (by rw [hσ]; exact hk.2.symm)
  · replace h := (if_neg c9).symm.trans h
    refine Vm.iload_n (n := 13) 2 dX1_insideWithout_12 rfl rfl ?_
    refine Vm.aload_n (n := 14) 0 dX1_insideWithout_13 rfl rfl ?_
    refine Vm.iload_n (n := 15) 3 dX1_insideWithout_14 rfl rfl ?_
    refine Vm.iload_n (n := 16) 1 dX1_insideWithout_15 rfl rfl ?_
    replace h := Option.bind_eq_some_iff.mp h
    obtain ⟨q1, h1, h⟩ := h
    refine Vm.callV (Y := mX1_isInWithout) (n := 19) [.inl a3, .inl a1] dX1_insideWithout_16 rfl wv_RX1_120 omX1_isInWithout rfl in_1 rfl rfl rfl (Nat.le_of_ble_eq_true rfl) (by decide) (kX1_isInWithout a3 a1 σ τ h1) ?_
    refine Vm.if_eq (n := 22) 26 dX1_insideWithout_19 rfl rfl (fun c9 => ?_) (fun c9 => ?_)
    · replace h := (if_pos c9).symm.trans h
      refine Vm.iconst (n := 27) (v := (0 : Int32)) dX1_insideWithout_26 rfl (by decide) ?_
      refine Vm.sub (lv' := [(0, .inr (.inr (1, 0))), (1, .inl a1), (3, .inl a3)]) [0, 1, 3] rfl ?_
      exact lX1_insideWithout_27 a1 a3 a2 (0 : Int32) σ σ0 τ hσ h hk
    · replace h := (if_neg c9).symm.trans h
      refine Vm.iconst (n := 23) (v := (1 : Int32)) dX1_insideWithout_22 rfl (by decide) ?_
      refine Vm.goto 27 dX1_insideWithout_23 rfl ?_
      refine Vm.sub (lv' := [(0, .inr (.inr (1, 0))), (1, .inl a1), (3, .inl a3)]) [0, 1, 3] rfl ?_
      exact lX1_insideWithout_27 a1 a3 a2 (1 : Int32) σ σ0 τ hσ h hk
theorem lX1_insideWithout_4_L (a1 : Int32) (σ σ0 τ : mm) (hσ : σ = σ0) {r : Option mv} {M' : mm × mm} (z : Int32 × Int32) (w9 : Int32) (h : lp (fX1_insideWithout_4_L a1 σ) z = some w9) (hk : (fun q : Int32 => r = some (.inl q) ∧ M' = (σ0, τ)) w9) : Vm mX1_insideWithout 2 4 [(0, .inr (.inr (1, 0))), (1, .inl a1), (2, .inl z.1), (3, .inl z.2)] [] (σ, τ) r M' :=
  lp_link (S := Int32 × Int32) (R := Int32) (body := fX1_insideWithout_4_L a1 σ) (A := fun z : Int32 × Int32 => Vm mX1_insideWithout 2 4 [(0, .inr (.inr (1, 0))), (1, .inl a1), (2, .inl z.1), (3, .inl z.2)] [] (σ, τ) r M') (B := fun w : Int32 => (fun q : Int32 => r = some (.inl q) ∧ M' = (σ0, τ)) w) (fun z v hb hv => lX1_insideWithout_4 a1 z.1 z.2 σ σ0 τ hσ hb hv) z w9 h hk
set_option maxRecDepth 20000 in
theorem lX1_insideWithout_0 (a1 : Int32) (σ σ0 τ : mm) (hσ : σ = σ0) {r : Option mv} {M' : mm × mm} {v9 : Int32} (h : fX1_insideWithout_0 a1 σ = some v9) (hk : (fun q : Int32 => r = some (.inl q) ∧ M' = (σ0, τ)) v9) : Vm mX1_insideWithout 2 0 [(0, .inr (.inr (1, 0))), (1, .inl a1)] [] (σ, τ) r M' := by
  unfold fX1_insideWithout_0 at h
  refine Vm.iconst (n := 1) (v := (0 : Int32)) dX1_insideWithout_0 rfl (by decide) ?_
  refine Vm.istore_n (n := 2) (lv' := [(2, .inl (0 : Int32)), (0, .inr (.inr (1, 0))), (1, .inl a1)]) dX1_insideWithout_1 rfl (Nat.le_of_ble_eq_true rfl) rfl ?_
  refine Vm.iconst (n := 3) (v := (0 : Int32)) dX1_insideWithout_2 rfl (by decide) ?_
  refine Vm.istore_n (n := 4) (lv' := [(3, .inl (0 : Int32)), (2, .inl (0 : Int32)), (0, .inr (.inr (1, 0))), (1, .inl a1)]) dX1_insideWithout_3 rfl (Nat.le_of_ble_eq_true rfl) rfl ?_
  refine Vm.sub (lv' := [(0, .inr (.inr (1, 0))), (1, .inl a1), (2, .inl (0 : Int32)), (3, .inl (0 : Int32))]) [2, 3, 1, 0] rfl ?_
  exact lX1_insideWithout_4_L a1 σ σ0 τ hσ ((0 : Int32), (0 : Int32)) _ h hk
theorem kX1_insideWithout (a1 : Int32) (σ τ : mm) {q : Int32} (h : fX1_insideWithout a1 σ = some q) : Cx mX1_insideWithout 2 [.inr (.inr (1, 0)), .inl a1] (σ, τ) (some (.inl q)) (σ, τ) :=
  Cx.of (lv := [(0, .inr (.inr (1, 0))), (1, .inl a1)]) (by decide) (fun ad => Nat.le_of_ble_eq_true rfl) (fun ad => rfl) (lX1_insideWithout_0 a1 σ σ τ rfl h ⟨rfl, rfl⟩)
-- ThinBodies without ()I
noncomputable def fX7_without_65 (a1 : Int32) (a2 : Int32) (a3 : Int32) (σ : mm) : Option ((Int32 × Int32 × Int32) ⊕ (Int32 × mm)) :=
  Option.bind (some (a3 + (1 : Int32))) fun x1 =>
  some (.inl (a1, a2, x1))
noncomputable def fX7_without_33 (a1 : Int32) (a2 : Int32) (a3 : Int32) (σ : mm) : Option ((Int32 × Int32 × Int32) ⊕ (Int32 × mm)) :=
  if (σ.1 0 0 4) ≤ a3 then
  some (.inr ((a1, σ)))
  else
  Option.bind (fX1_insideWithout a3 σ) fun q1 =>
  if q1 ≤ a2 then
  fX7_without_65 a1 a2 a3 σ
  else
  fX7_without_65 a3 q1 a3 σ
noncomputable def fX7_without_33_L (σ : mm) : Int32 × Int32 × Int32 → Option ((Int32 × Int32 × Int32) ⊕ (Int32 × mm)) := fun z => fX7_without_33 z.1 z.2.1 z.2.2 σ
noncomputable def fX7_without_0 (σ : mm) : Option (Int32 × mm) :=
  if (σ.1 0 0 4) = (0 : Int32) then
  Option.bind (fX7_finding (3 : Int32) σ) fun q2 =>
  some ((q2.1, q2.2))
  else
  Option.bind (fX1_refresh 0 σ) fun q1 =>
  lp (fX7_without_33_L q1) ((0 : Int32), (-1 : Int32), (0 : Int32))
noncomputable def fX7_without (σ : mm) : Option (Int32 × mm) := fX7_without_0 σ
set_option maxRecDepth 20000 in
theorem lX7_without_65 (a1 : Int32) (a2 : Int32) (a3 : Int32) (σ τ : mm) {r : Option mv} {M' : mm × mm} {v9 : (Int32 × Int32 × Int32) ⊕ (Int32 × mm)} (h : fX7_without_65 a1 a2 a3 σ = some v9) (hk : (Sum.elim (fun z : Int32 × Int32 × Int32 => Vm mX7_without 5 33 [(0, .inr (.inr (7, 0))), (1, .inl z.1), (2, .inl z.2.1), (3, .inl z.2.2)] [] (σ, τ) r M') (fun q : Int32 × mm => r = some (.inl q.1) ∧ M' = (q.2, τ))) v9) : Vm mX7_without 5 65 [(0, .inr (.inr (7, 0))), (1, .inl a1), (2, .inl a2), (3, .inl a3)] [] (σ, τ) r M' := by
  unfold fX7_without_65 at h
  replace h := Option.bind_eq_some_iff.mp h
  obtain ⟨x1, e1, h⟩ := h
  replace e1 := Option.some.inj e1
  refine Vm.iinc (n := 68) (v := x1) (lv' := [(3, .inl x1), (0, .inr (.inr (7, 0))), (1, .inl a1), (2, .inl a2)]) 3 dX7_without_65 rfl rfl e1 (Nat.le_of_ble_eq_true rfl) rfl ?_
  refine Vm.goto 33 dX7_without_68 rfl ?_
  refine Vm.sub (lv' := [(0, .inr (.inr (7, 0))), (1, .inl a1), (2, .inl a2), (3, .inl x1)]) [1, 2, 3, 0] rfl ?_
  obtain rfl := Option.some.inj h
  exact hk
set_option maxRecDepth 20000 in
theorem lX7_without_33 (a1 : Int32) (a2 : Int32) (a3 : Int32) (σ τ : mm) {r : Option mv} {M' : mm × mm} {v9 : (Int32 × Int32 × Int32) ⊕ (Int32 × mm)} (h : fX7_without_33 a1 a2 a3 σ = some v9) (hk : (Sum.elim (fun z : Int32 × Int32 × Int32 => Vm mX7_without 5 33 [(0, .inr (.inr (7, 0))), (1, .inl z.1), (2, .inl z.2.1), (3, .inl z.2.2)] [] (σ, τ) r M') (fun q : Int32 × mm => r = some (.inl q.1) ∧ M' = (q.2, τ))) v9) : Vm mX7_without 5 33 [(0, .inr (.inr (7, 0))), (1, .inl a1), (2, .inl a2), (3, .inl a3)] [] (σ, τ) r M' := by
  unfold fX7_without_33 at h
  refine Vm.iload_n (n := 34) 3 dX7_without_33 rfl rfl ?_
  refine Vm.aload_n (n := 35) 0 dX7_without_34 rfl rfl ?_
  refine Vm.getR (n := 38) dX7_without_35 rfl wf_RX7_12 in_7 rfl (by decide) rfl ?_
  refine Vm.gX (n := 41) dX7_without_38 rfl wf_RX7_117 (ink ik_0 (by decide)) rfl (by decide) rfl (by decide) ?_
  refine Vm.icmp_ge (n := 44) 71 dX7_without_41 rfl rfl (fun c9 => ?_) (fun c9 => ?_)
  · replace h := (if_pos c9).symm.trans h
    refine Vm.iload_n (n := 72) 1 dX7_without_71 rfl rfl ?_
    obtain rfl := Option.some.inj h
    exact Vm.iret dX7_without_72 rfl hk.1 hk.2.symm
  · replace h := (if_neg c9).symm.trans h
    refine Vm.aload_n (n := 45) 0 dX7_without_44 rfl rfl ?_
    refine Vm.getR (n := 48) dX7_without_45 rfl wf_RX7_29 in_7 rfl (by decide) rfl ?_
    refine Vm.iload_n (n := 49) 3 dX7_without_48 rfl rfl ?_
    replace h := Option.bind_eq_some_iff.mp h
    obtain ⟨q1, h1, h⟩ := h
    refine Vm.callV (Y := mX1_insideWithout) (n := 52) [.inl a3] dX7_without_49 rfl wv_RX7_279 omX1_insideWithout rfl in_1 rfl rfl rfl (Nat.le_of_ble_eq_true rfl) (by decide) (kX1_insideWithout a3 σ τ h1) ?_
    refine Vm.istore (n := 54) (lv' := [(4, .inl q1), (0, .inr (.inr (7, 0))), (1, .inl a1), (2, .inl a2), (3, .inl a3)]) dX7_without_52 rfl (Nat.le_of_ble_eq_true rfl) rfl ?_
    refine Vm.iload (n := 56) 0 dX7_without_54 rfl rfl ?_
    refine Vm.iload_n (n := 57) 3 dX7_without_56 rfl rfl ?_
    refine Vm.icmp_le (n := 60) 65 dX7_without_57 rfl rfl (fun c9 => ?_) (fun c9 => ?_)
    · replace h := (if_pos c9).symm.trans h
      refine Vm.sub (lv' := [(0, .inr (.inr (7, 0))), (1, .inl a1), (2, .inl a2), (3, .inl a3)]) [1, 2, 3, 4] rfl ?_
      exact lX7_without_65 a1 a2 a3 σ τ h hk
    · replace h := (if_neg c9).symm.trans h
      refine Vm.iload (n := 62) 0 dX7_without_60 rfl rfl ?_
      refine Vm.istore_n (n := 63) (lv' := [(2, .inl q1), (4, .inl q1), (0, .inr (.inr (7, 0))), (1, .inl a1), (3, .inl a3)]) dX7_without_62 rfl (Nat.le_of_ble_eq_true rfl) rfl ?_
      refine Vm.iload_n (n := 64) 4 dX7_without_63 rfl rfl ?_
      refine Vm.istore_n (n := 65) (lv' := [(1, .inl a3), (2, .inl q1), (4, .inl q1), (0, .inr (.inr (7, 0))), (3, .inl a3)]) dX7_without_64 rfl (Nat.le_of_ble_eq_true rfl) rfl ?_
      refine Vm.sub (lv' := [(0, .inr (.inr (7, 0))), (1, .inl a3), (2, .inl q1), (3, .inl a3)]) [3, 0, 1, 4] rfl ?_
      exact lX7_without_65 a3 q1 a3 σ τ h hk
theorem lX7_without_33_L (σ τ : mm) {r : Option mv} {M' : mm × mm} (z : Int32 × Int32 × Int32) (w9 : Int32 × mm) (h : lp (fX7_without_33_L σ) z = some w9) (hk : (fun q : Int32 × mm => r = some (.inl q.1) ∧ M' = (q.2, τ)) w9) : Vm mX7_without 5 33 [(0, .inr (.inr (7, 0))), (1, .inl z.1), (2, .inl z.2.1), (3, .inl z.2.2)] [] (σ, τ) r M' :=
  lp_link (S := Int32 × Int32 × Int32) (R := Int32 × mm) (body := fX7_without_33_L σ) (A := fun z : Int32 × Int32 × Int32 => Vm mX7_without 5 33 [(0, .inr (.inr (7, 0))), (1, .inl z.1), (2, .inl z.2.1), (3, .inl z.2.2)] [] (σ, τ) r M') (B := fun w : Int32 × mm => (fun q : Int32 × mm => r = some (.inl q.1) ∧ M' = (q.2, τ)) w) (fun z v hb hv => lX7_without_33 z.1 z.2.1 z.2.2 σ τ hb hv) z w9 h hk
set_option maxRecDepth 20000 in
theorem lX7_without_0 (σ τ : mm) {r : Option mv} {M' : mm × mm} {v9 : Int32 × mm} (h : fX7_without_0 σ = some v9) (hk : (fun q : Int32 × mm => r = some (.inl q.1) ∧ M' = (q.2, τ)) v9) : Vm mX7_without 5 0 [(0, .inr (.inr (7, 0)))] [] (σ, τ) r M' := by
  unfold fX7_without_0 at h
  refine Vm.aload_n (n := 1) 0 dX7_without_0 rfl rfl ?_
  refine Vm.getR (n := 4) dX7_without_1 rfl wf_RX7_12 in_7 rfl (by decide) rfl ?_
  refine Vm.gX (n := 7) dX7_without_4 rfl wf_RX7_117 (ink ik_0 (by decide)) rfl (by decide) rfl (by decide) ?_
  refine Vm.if_ne (n := 10) 16 dX7_without_7 rfl rfl (fun c9 => ?_) (fun c9 => ?_)
  · replace h := (if_neg c9).symm.trans h
    refine Vm.aload_n (n := 17) 0 dX7_without_16 rfl rfl ?_
    refine Vm.getR (n := 20) dX7_without_17 rfl wf_RX7_29 in_7 rfl (by decide) rfl ?_
    refine Vm.aload_n (n := 21) 0 dX7_without_20 rfl rfl ?_
    refine Vm.getR (n := 24) dX7_without_21 rfl wf_RX7_12 in_7 rfl (by decide) rfl ?_
    replace h := Option.bind_eq_some_iff.mp h
    obtain ⟨q1, h1, h⟩ := h
    refine Vm.callVv (Y := mX1_refresh) (n := 27) [.inr (.inr (0, 0))] dX7_without_24 rfl wv_RX7_154 omX1_refresh rfl in_1 rfl rfl rfl (Nat.le_of_ble_eq_true rfl) (by decide) (kX1_refresh 0 (by decide) σ τ h1) ?_
    refine Vm.iconst (n := 28) (v := (0 : Int32)) dX7_without_27 rfl (by decide) ?_
    refine Vm.istore_n (n := 29) (lv' := [(1, .inl (0 : Int32)), (0, .inr (.inr (7, 0)))]) dX7_without_28 rfl (Nat.le_of_ble_eq_true rfl) rfl ?_
    refine Vm.iconst (n := 30) (v := (-1 : Int32)) dX7_without_29 rfl (by decide) ?_
    refine Vm.istore_n (n := 31) (lv' := [(2, .inl (-1 : Int32)), (1, .inl (0 : Int32)), (0, .inr (.inr (7, 0)))]) dX7_without_30 rfl (Nat.le_of_ble_eq_true rfl) rfl ?_
    refine Vm.iconst (n := 32) (v := (0 : Int32)) dX7_without_31 rfl (by decide) ?_
    refine Vm.istore_n (n := 33) (lv' := [(3, .inl (0 : Int32)), (2, .inl (-1 : Int32)), (1, .inl (0 : Int32)), (0, .inr (.inr (7, 0)))]) dX7_without_32 rfl (Nat.le_of_ble_eq_true rfl) rfl ?_
    refine Vm.sub (lv' := [(0, .inr (.inr (7, 0))), (1, .inl (0 : Int32)), (2, .inl (-1 : Int32)), (3, .inl (0 : Int32))]) [3, 2, 1, 0] rfl ?_
    exact lX7_without_33_L q1 τ ((0 : Int32), (-1 : Int32), (0 : Int32)) _ h hk
  · replace h := (if_pos c9).symm.trans h
    refine Vm.aload_n (n := 11) 0 dX7_without_10 rfl rfl ?_
    refine Vm.iconst (n := 12) (v := (3 : Int32)) dX7_without_11 rfl (by decide) ?_
    replace h := Option.bind_eq_some_iff.mp h
    obtain ⟨q2, h2, h⟩ := h
    refine Vm.callV (Y := mX7_finding) (n := 15) [.inl (3 : Int32)] dX7_without_12 rfl wv_RX7_68 omX7_finding rfl in_7 rfl rfl rfl (Nat.le_of_ble_eq_true rfl) (by decide) (kX7_finding (3 : Int32) σ τ h2) ?_
    obtain rfl := Option.some.inj h
    exact Vm.iret dX7_without_15 rfl hk.1 hk.2.symm
theorem kX7_without (σ τ : mm) {q : Int32 × mm} (h : fX7_without σ = some q) : Cx mX7_without 5 [.inr (.inr (7, 0))] (σ, τ) (some (.inl q.1)) (q.2, τ) :=
  Cx.of (lv := [(0, .inr (.inr (7, 0)))]) (by decide) (fun ad => Nat.le_of_ble_eq_true rfl) (fun ad => rfl) (lX7_without_0 σ τ h ⟨rfl, rfl⟩)
-- ThinBodies$Row sumInPacked (II)I
noncomputable def fX4_sumInPacked_5 (a0 : Nat) (a1 : Int32) (a2 : Int32) (a3 : Int32) (a4 : Int32) (σ : mm) : Option ((Int32 × Int32) ⊕ (Int32)) :=
  if a2 ≤ a4 then
  some (.inr (a3))
  else
  Option.bind (rdI σ 10 a0 4 a4) fun x1 =>
  Option.bind (some (a3 + (x1 * (fX7_unpack a1 a4)))) fun x2 =>
  Option.bind (some (a4 + (1 : Int32))) fun x3 =>
  some (.inl (x2, x3))
noncomputable def fX4_sumInPacked_5_L (a0 : Nat) (a1 : Int32) (a2 : Int32) (σ : mm) : Int32 × Int32 → Option ((Int32 × Int32) ⊕ (Int32)) := fun z => fX4_sumInPacked_5 a0 a1 a2 z.1 z.2 σ
noncomputable def fX4_sumInPacked_0 (a0 : Nat) (a1 : Int32) (a2 : Int32) (σ : mm) : Option (Int32) :=
  lp (fX4_sumInPacked_5_L a0 a1 a2 σ) ((0 : Int32), (0 : Int32))
noncomputable def fX4_sumInPacked (a0 : Nat) (a1 : Int32) (a2 : Int32) (σ : mm) : Option (Int32) := fX4_sumInPacked_0 a0 a1 a2 σ
set_option maxRecDepth 20000 in
theorem lX4_sumInPacked_5 (a0 : Nat) (ha0 : a0 < 24) (a1 : Int32) (a2 : Int32) (a3 : Int32) (a4 : Int32) (σ σ0 τ : mm) (hσ : σ = σ0) {r : Option mv} {M' : mm × mm} {v9 : (Int32 × Int32) ⊕ (Int32)} (h : fX4_sumInPacked_5 a0 a1 a2 a3 a4 σ = some v9) (hk : (Sum.elim (fun z : Int32 × Int32 => Vm mX4_sumInPacked 1 5 [(0, .inr (.inr (4, a0))), (1, .inl a1), (2, .inl a2), (3, .inl z.1), (4, .inl z.2)] [] (σ, τ) r M') (fun q : Int32 => r = some (.inl q) ∧ M' = (σ0, τ))) v9) : Vm mX4_sumInPacked 1 5 [(0, .inr (.inr (4, a0))), (1, .inl a1), (2, .inl a2), (3, .inl a3), (4, .inl a4)] [] (σ, τ) r M' := by
  unfold fX4_sumInPacked_5 at h
  refine Vm.iload (n := 7) 4 dX4_sumInPacked_5 rfl rfl ?_
  refine Vm.iload_n (n := 8) 2 dX4_sumInPacked_7 rfl rfl ?_
  refine Vm.icmp_ge (n := 11) 34 dX4_sumInPacked_8 rfl rfl (fun c9 => ?_) (fun c9 => ?_)
  · replace h := (if_pos c9).symm.trans h
    refine Vm.iload_n (n := 35) 3 dX4_sumInPacked_34 rfl rfl ?_
    obtain rfl := Option.some.inj h
    exact Vm.iret dX4_sumInPacked_35 rfl hk.1 (by rw [hσ]; exact hk.2.symm)
  · replace h := (if_neg c9).symm.trans h
    refine Vm.iload_n (n := 12) 3 dX4_sumInPacked_11 rfl rfl ?_
    refine Vm.aload_n (n := 13) 0 dX4_sumInPacked_12 rfl rfl ?_
    refine Vm.getR (n := 16) dX4_sumInPacked_13 rfl wf_RX4_21 (ink ik_4 (by omega)) rfl (by decide) rfl ?_
    refine Vm.iload (n := 18) 4 dX4_sumInPacked_16 rfl rfl ?_
    replace h := Option.bind_eq_some_iff.mp h
    obtain ⟨x1, h1, h⟩ := h
    refine Vm.ialdx (n := 19) dX4_sumInPacked_18 rfl (ink ik_10 (by omega)) rfl rfl (by decide) h1 ?_
    refine Vm.iload_n (n := 20) 1 dX4_sumInPacked_19 rfl rfl ?_
    refine Vm.iload (n := 22) 4 dX4_sumInPacked_20 rfl rfl ?_
    refine Vm.callN (Y := mX7_unpack) (n := 25) [.inl a1, .inl a4] dX4_sumInPacked_22 rfl wv_RX4_34 omX7_unpack rfl rfl (Nat.le_of_ble_eq_true rfl) (by decide) (kX7_unpack a1 a4 rfl) ?_
    refine Vm.imul (n := 26) dX4_sumInPacked_25 rfl ?_
    refine Vm.iadd (n := 27) dX4_sumInPacked_26 rfl ?_
    replace h := Option.bind_eq_some_iff.mp h
    obtain ⟨x2, e2, h⟩ := h
    replace e2 := Option.some.inj e2
    refine Vm.top e2 ?_
    refine Vm.istore_n (n := 28) (lv' := [(3, .inl x2), (0, .inr (.inr (4, a0))), (1, .inl a1), (2, .inl a2), (4, .inl a4)]) dX4_sumInPacked_27 rfl (Nat.le_of_ble_eq_true rfl) rfl ?_
    replace h := Option.bind_eq_some_iff.mp h
    obtain ⟨x3, e3, h⟩ := h
    replace e3 := Option.some.inj e3
    refine Vm.iinc (n := 31) (v := x3) (lv' := [(4, .inl x3), (3, .inl x2), (0, .inr (.inr (4, a0))), (1, .inl a1), (2, .inl a2)]) 4 dX4_sumInPacked_28 rfl rfl e3 (Nat.le_of_ble_eq_true rfl) rfl ?_
    refine Vm.goto 5 dX4_sumInPacked_31 rfl ?_
    refine Vm.sub (lv' := [(0, .inr (.inr (4, a0))), (1, .inl a1), (2, .inl a2), (3, .inl x2), (4, .inl x3)]) [2, 3, 4, 1, 0] rfl ?_
    obtain rfl := Option.some.inj h
    exact hk
theorem lX4_sumInPacked_5_L (a0 : Nat) (ha0 : a0 < 24) (a1 : Int32) (a2 : Int32) (σ σ0 τ : mm) (hσ : σ = σ0) {r : Option mv} {M' : mm × mm} (z : Int32 × Int32) (w9 : Int32) (h : lp (fX4_sumInPacked_5_L a0 a1 a2 σ) z = some w9) (hk : (fun q : Int32 => r = some (.inl q) ∧ M' = (σ0, τ)) w9) : Vm mX4_sumInPacked 1 5 [(0, .inr (.inr (4, a0))), (1, .inl a1), (2, .inl a2), (3, .inl z.1), (4, .inl z.2)] [] (σ, τ) r M' :=
  lp_link (S := Int32 × Int32) (R := Int32) (body := fX4_sumInPacked_5_L a0 a1 a2 σ) (A := fun z : Int32 × Int32 => Vm mX4_sumInPacked 1 5 [(0, .inr (.inr (4, a0))), (1, .inl a1), (2, .inl a2), (3, .inl z.1), (4, .inl z.2)] [] (σ, τ) r M') (B := fun w : Int32 => (fun q : Int32 => r = some (.inl q) ∧ M' = (σ0, τ)) w) (fun z v hb hv => lX4_sumInPacked_5 a0 ha0 a1 a2 z.1 z.2 σ σ0 τ hσ hb hv) z w9 h hk
set_option maxRecDepth 20000 in
theorem lX4_sumInPacked_0 (a0 : Nat) (ha0 : a0 < 24) (a1 : Int32) (a2 : Int32) (σ σ0 τ : mm) (hσ : σ = σ0) {r : Option mv} {M' : mm × mm} {v9 : Int32} (h : fX4_sumInPacked_0 a0 a1 a2 σ = some v9) (hk : (fun q : Int32 => r = some (.inl q) ∧ M' = (σ0, τ)) v9) : Vm mX4_sumInPacked 1 0 [(0, .inr (.inr (4, a0))), (1, .inl a1), (2, .inl a2)] [] (σ, τ) r M' := by
  unfold fX4_sumInPacked_0 at h
  refine Vm.iconst (n := 1) (v := (0 : Int32)) dX4_sumInPacked_0 rfl (by decide) ?_
  refine Vm.istore_n (n := 2) (lv' := [(3, .inl (0 : Int32)), (0, .inr (.inr (4, a0))), (1, .inl a1), (2, .inl a2)]) dX4_sumInPacked_1 rfl (Nat.le_of_ble_eq_true rfl) rfl ?_
  refine Vm.iconst (n := 3) (v := (0 : Int32)) dX4_sumInPacked_2 rfl (by decide) ?_
  refine Vm.istore (n := 5) (lv' := [(4, .inl (0 : Int32)), (3, .inl (0 : Int32)), (0, .inr (.inr (4, a0))), (1, .inl a1), (2, .inl a2)]) dX4_sumInPacked_3 rfl (Nat.le_of_ble_eq_true rfl) rfl ?_
  refine Vm.sub (lv' := [(0, .inr (.inr (4, a0))), (1, .inl a1), (2, .inl a2), (3, .inl (0 : Int32)), (4, .inl (0 : Int32))]) [2, 3, 4, 1, 0] rfl ?_
  exact lX4_sumInPacked_5_L a0 (by omega) a1 a2 σ σ0 τ hσ ((0 : Int32), (0 : Int32)) _ h hk
theorem kX4_sumInPacked (a0 : Nat) (ha0 : a0 < 24) (a1 : Int32) (a2 : Int32) (σ τ : mm) {q : Int32} (h : fX4_sumInPacked a0 a1 a2 σ = some q) : Cx mX4_sumInPacked 1 [.inr (.inr (4, a0)), .inl a1, .inl a2] (σ, τ) (some (.inl q)) (σ, τ) :=
  Cx.of (lv := [(0, .inr (.inr (4, a0))), (1, .inl a1), (2, .inl a2)]) (by decide) (fun ad => Nat.le_of_ble_eq_true rfl) (fun ad => rfl) (lX4_sumInPacked_0 a0 ha0 a1 a2 σ σ τ rfl h ⟨rfl, rfl⟩)
-- ThinBodies$Cloud insideAs (LThinBodies$Body;II)I
noncomputable def fX1_insideAs_61 (a1 : Nat) (a2 : Int32) (a3 : Int32) (a4 : Nat) (a5 : Int32) (a6 : Int32) (σ : mm) : Option ((Int32 × Int32) ⊕ (Int32)) :=
  Option.bind (some (a6 + (1 : Int32))) fun x1 =>
  some (.inl (a5, x1))
noncomputable def fX1_insideAs_14 (a1 : Nat) (a2 : Int32) (a3 : Int32) (a4 : Nat) (a5 : Int32) (a6 : Int32) (σ : mm) : Option ((Int32 × Int32) ⊕ (Int32)) :=
  if (σ.1 1 0 1) ≤ a6 then
  some (.inr (a5))
  else
  Option.bind (fX1_isInWithout a6 a2 σ) fun q1 =>
  if (bi q1) = (0 : Int32) then
  fX1_insideAs_61 a1 a2 a3 a4 a5 a6 σ
  else
  Option.bind (rdI σ 12 0 4096 a6) fun x2 =>
  Option.bind (fX4_sumInPacked a4 x2 (σ.1 0 a1 0) σ) fun q3 =>
  Option.bind (fX4_allowsAs a4 a3 q3 σ) fun q4 =>
  if (bi q4) = (0 : Int32) then
  fX1_insideAs_61 a1 a2 a3 a4 a5 a6 σ
  else
  Option.bind (some (a5 + (1 : Int32))) fun x5 =>
  fX1_insideAs_61 a1 a2 a3 a4 x5 a6 σ
noncomputable def fX1_insideAs_14_L (a1 : Nat) (a2 : Int32) (a3 : Int32) (a4 : Nat) (σ : mm) : Int32 × Int32 → Option ((Int32 × Int32) ⊕ (Int32)) := fun z => fX1_insideAs_14 a1 a2 a3 a4 z.1 z.2 σ
noncomputable def fX1_insideAs_0 (a1 : Nat) (a2 : Int32) (a3 : Int32) (σ : mm) : Option (Int32) :=
  Option.bind (rdR 8 a2) fun k1 =>
  lp (fX1_insideAs_14_L a1 a2 a3 (8 * a1 + k1) σ) ((0 : Int32), (0 : Int32))
noncomputable def fX1_insideAs (a1 : Nat) (a2 : Int32) (a3 : Int32) (σ : mm) : Option (Int32) := fX1_insideAs_0 a1 a2 a3 σ
set_option maxRecDepth 20000 in
theorem lX1_insideAs_61 (a1 : Nat) (ha1 : a1 < 3) (a2 : Int32) (a3 : Int32) (a4 : Nat) (ha4 : a4 < 24) (a5 : Int32) (a6 : Int32) (σ σ0 τ : mm) (hσ : σ = σ0) {r : Option mv} {M' : mm × mm} {v9 : (Int32 × Int32) ⊕ (Int32)} (h : fX1_insideAs_61 a1 a2 a3 a4 a5 a6 σ = some v9) (hk : (Sum.elim (fun z : Int32 × Int32 => Vm mX1_insideAs 2 14 [(0, .inr (.inr (1, 0))), (1, .inr (.inr (0, a1))), (2, .inl a2), (3, .inl a3), (4, .inr (.inr (4, a4))), (5, .inl z.1), (6, .inl z.2)] [] (σ, τ) r M') (fun q : Int32 => r = some (.inl q) ∧ M' = (σ0, τ))) v9) : Vm mX1_insideAs 2 61 [(0, .inr (.inr (1, 0))), (1, .inr (.inr (0, a1))), (2, .inl a2), (3, .inl a3), (4, .inr (.inr (4, a4))), (5, .inl a5), (6, .inl a6)] [] (σ, τ) r M' := by
  unfold fX1_insideAs_61 at h
  replace h := Option.bind_eq_some_iff.mp h
  obtain ⟨x1, e1, h⟩ := h
  replace e1 := Option.some.inj e1
  refine Vm.iinc (n := 64) (v := x1) (lv' := [(6, .inl x1), (0, .inr (.inr (1, 0))), (1, .inr (.inr (0, a1))), (2, .inl a2), (3, .inl a3), (4, .inr (.inr (4, a4))), (5, .inl a5)]) 6 dX1_insideAs_61 rfl rfl e1 (Nat.le_of_ble_eq_true rfl) rfl ?_
  refine Vm.goto 14 dX1_insideAs_64 rfl ?_
  refine Vm.sub (lv' := [(0, .inr (.inr (1, 0))), (1, .inr (.inr (0, a1))), (2, .inl a2), (3, .inl a3), (4, .inr (.inr (4, a4))), (5, .inl a5), (6, .inl x1)]) [1, 2, 3, 4, 5, 6, 0] rfl ?_
  obtain rfl := Option.some.inj h
  exact hk
set_option maxRecDepth 20000 in
theorem lX1_insideAs_14 (a1 : Nat) (ha1 : a1 < 3) (a2 : Int32) (a3 : Int32) (a4 : Nat) (ha4 : a4 < 24) (a5 : Int32) (a6 : Int32) (σ σ0 τ : mm) (hσ : σ = σ0) {r : Option mv} {M' : mm × mm} {v9 : (Int32 × Int32) ⊕ (Int32)} (h : fX1_insideAs_14 a1 a2 a3 a4 a5 a6 σ = some v9) (hk : (Sum.elim (fun z : Int32 × Int32 => Vm mX1_insideAs 2 14 [(0, .inr (.inr (1, 0))), (1, .inr (.inr (0, a1))), (2, .inl a2), (3, .inl a3), (4, .inr (.inr (4, a4))), (5, .inl z.1), (6, .inl z.2)] [] (σ, τ) r M') (fun q : Int32 => r = some (.inl q) ∧ M' = (σ0, τ))) v9) : Vm mX1_insideAs 2 14 [(0, .inr (.inr (1, 0))), (1, .inr (.inr (0, a1))), (2, .inl a2), (3, .inl a3), (4, .inr (.inr (4, a4))), (5, .inl a5), (6, .inl a6)] [] (σ, τ) r M' := by
  unfold fX1_insideAs_14 at h
  refine Vm.iload (n := 16) 6 dX1_insideAs_14 rfl rfl ?_
  refine Vm.aload_n (n := 17) 0 dX1_insideAs_16 rfl rfl ?_
  refine Vm.gX (n := 20) dX1_insideAs_17 rfl wf_RX1_15 in_1 rfl (by decide) rfl (by decide) ?_
  refine Vm.icmp_ge (n := 23) 67 dX1_insideAs_20 rfl rfl (fun c9 => ?_) (fun c9 => ?_)
  · replace h := (if_pos c9).symm.trans h
    refine Vm.iload (n := 69) 5 dX1_insideAs_67 rfl rfl ?_
    obtain rfl := Option.some.inj h
    exact Vm.iret dX1_insideAs_69 rfl hk.1 (by rw [hσ]; exact hk.2.symm)
  · replace h := (if_neg c9).symm.trans h
    refine Vm.aload_n (n := 24) 0 dX1_insideAs_23 rfl rfl ?_
    refine Vm.iload (n := 26) 6 dX1_insideAs_24 rfl rfl ?_
    refine Vm.iload_n (n := 27) 2 dX1_insideAs_26 rfl rfl ?_
    replace h := Option.bind_eq_some_iff.mp h
    obtain ⟨q1, h1, h⟩ := h
    refine Vm.callV (Y := mX1_isInWithout) (n := 30) [.inl a6, .inl a2] dX1_insideAs_27 rfl wv_RX1_120 omX1_isInWithout rfl in_1 rfl rfl rfl (Nat.le_of_ble_eq_true rfl) (by decide) (kX1_isInWithout a6 a2 σ τ h1) ?_
    refine Vm.if_eq (n := 33) 61 dX1_insideAs_30 rfl rfl (fun c9 => ?_) (fun c9 => ?_)
    · replace h := (if_pos c9).symm.trans h
      exact lX1_insideAs_61 a1 (by omega) a2 a3 a4 (by omega) a5 a6 σ σ0 τ hσ h hk
    · replace h := (if_neg c9).symm.trans h
      refine Vm.aload (n := 35) 4 dX1_insideAs_33 rfl rfl ?_
      refine Vm.iload_n (n := 36) 3 dX1_insideAs_35 rfl rfl ?_
      refine Vm.aload (n := 38) 4 dX1_insideAs_36 rfl rfl ?_
      refine Vm.aload_n (n := 39) 0 dX1_insideAs_38 rfl rfl ?_
      refine Vm.getR (n := 42) dX1_insideAs_39 rfl wf_RX1_37 in_1 rfl (by decide) rfl ?_
      refine Vm.iload (n := 44) 6 dX1_insideAs_42 rfl rfl ?_
      replace h := Option.bind_eq_some_iff.mp h
      obtain ⟨x2, h2, h⟩ := h
      refine Vm.ialdx (n := 45) dX1_insideAs_44 rfl in_12 rfl rfl (by decide) h2 ?_
      refine Vm.aload_n (n := 46) 1 dX1_insideAs_45 rfl rfl ?_
      refine Vm.gX (n := 49) dX1_insideAs_46 rfl wf_RX1_72 (ink ik_0 (by omega)) rfl (by decide) rfl (by decide) ?_
      replace h := Option.bind_eq_some_iff.mp h
      obtain ⟨q3, h3, h⟩ := h
      refine Vm.callV (Y := mX4_sumInPacked) (n := 52) [.inl x2, .inl (σ.1 0 a1 0)] dX1_insideAs_49 rfl wv_RX1_128 omX4_sumInPacked rfl (ink ik_4 (by omega)) rfl rfl rfl (Nat.le_of_ble_eq_true rfl) (by decide) (kX4_sumInPacked a4 (by omega) x2 (σ.1 0 a1 0) σ τ h3) ?_
      replace h := Option.bind_eq_some_iff.mp h
      obtain ⟨q4, h4, h⟩ := h
      refine Vm.callV (Y := mX4_allowsAs) (n := 55) [.inl a3, .inl q3] dX1_insideAs_52 rfl wv_RX1_133 omX4_allowsAs rfl (ink ik_4 (by omega)) rfl rfl rfl (Nat.le_of_ble_eq_true rfl) (by decide) (kX4_allowsAs a4 (by omega) a3 q3 σ τ h4) ?_
      refine Vm.if_eq (n := 58) 61 dX1_insideAs_55 rfl rfl (fun c9 => ?_) (fun c9 => ?_)
      · replace h := (if_pos c9).symm.trans h
        exact lX1_insideAs_61 a1 (by omega) a2 a3 a4 (by omega) a5 a6 σ σ0 τ hσ h hk
      · replace h := (if_neg c9).symm.trans h
        replace h := Option.bind_eq_some_iff.mp h
        obtain ⟨x5, e5, h⟩ := h
        replace e5 := Option.some.inj e5
        refine Vm.iinc (n := 61) (v := x5) (lv' := [(5, .inl x5), (0, .inr (.inr (1, 0))), (1, .inr (.inr (0, a1))), (2, .inl a2), (3, .inl a3), (4, .inr (.inr (4, a4))), (6, .inl a6)]) 5 dX1_insideAs_58 rfl rfl e5 (Nat.le_of_ble_eq_true rfl) rfl ?_
        refine Vm.sub (lv' := [(0, .inr (.inr (1, 0))), (1, .inr (.inr (0, a1))), (2, .inl a2), (3, .inl a3), (4, .inr (.inr (4, a4))), (5, .inl x5), (6, .inl a6)]) [1, 2, 3, 4, 5, 0, 6] rfl ?_
        exact lX1_insideAs_61 a1 (by omega) a2 a3 a4 (by omega) x5 a6 σ σ0 τ hσ h hk
theorem lX1_insideAs_14_L (a1 : Nat) (ha1 : a1 < 3) (a2 : Int32) (a3 : Int32) (a4 : Nat) (ha4 : a4 < 24) (σ σ0 τ : mm) (hσ : σ = σ0) {r : Option mv} {M' : mm × mm} (z : Int32 × Int32) (w9 : Int32) (h : lp (fX1_insideAs_14_L a1 a2 a3 a4 σ) z = some w9) (hk : (fun q : Int32 => r = some (.inl q) ∧ M' = (σ0, τ)) w9) : Vm mX1_insideAs 2 14 [(0, .inr (.inr (1, 0))), (1, .inr (.inr (0, a1))), (2, .inl a2), (3, .inl a3), (4, .inr (.inr (4, a4))), (5, .inl z.1), (6, .inl z.2)] [] (σ, τ) r M' :=
  lp_link (S := Int32 × Int32) (R := Int32) (body := fX1_insideAs_14_L a1 a2 a3 a4 σ) (A := fun z : Int32 × Int32 => Vm mX1_insideAs 2 14 [(0, .inr (.inr (1, 0))), (1, .inr (.inr (0, a1))), (2, .inl a2), (3, .inl a3), (4, .inr (.inr (4, a4))), (5, .inl z.1), (6, .inl z.2)] [] (σ, τ) r M') (B := fun w : Int32 => (fun q : Int32 => r = some (.inl q) ∧ M' = (σ0, τ)) w) (fun z v hb hv => lX1_insideAs_14 a1 ha1 a2 a3 a4 ha4 z.1 z.2 σ σ0 τ hσ hb hv) z w9 h hk
set_option maxRecDepth 20000 in
theorem lX1_insideAs_0 (a1 : Nat) (ha1 : a1 < 3) (a2 : Int32) (a3 : Int32) (σ σ0 τ : mm) (hσ : σ = σ0) {r : Option mv} {M' : mm × mm} {v9 : Int32} (h : fX1_insideAs_0 a1 a2 a3 σ = some v9) (hk : (fun q : Int32 => r = some (.inl q) ∧ M' = (σ0, τ)) v9) : Vm mX1_insideAs 2 0 [(0, .inr (.inr (1, 0))), (1, .inr (.inr (0, a1))), (2, .inl a2), (3, .inl a3)] [] (σ, τ) r M' := by
  unfold fX1_insideAs_0 at h
  refine Vm.aload_n (n := 1) 1 dX1_insideAs_0 rfl rfl ?_
  refine Vm.getR (n := 4) dX1_insideAs_1 rfl wf_RX1_124 (ink ik_0 (by omega)) rfl (by decide) rfl ?_
  refine Vm.iload_n (n := 5) 2 dX1_insideAs_4 rfl rfl ?_
  replace h := Option.bind_eq_some_iff.mp h
  obtain ⟨k1, h1, h⟩ := h
  refine Vm.aald (n := 6) dX1_insideAs_5 rfl (ink ik_27 (by omega)) rfl rfl (by decide) (fun _ => rfl) rfl h1 ?_
  have g1 := rdR_lt h1
  refine Vm.astore (n := 8) (lv' := [(4, .inr (.inr (4, (8 * a1 + k1)))), (0, .inr (.inr (1, 0))), (1, .inr (.inr (0, a1))), (2, .inl a2), (3, .inl a3)]) dX1_insideAs_6 rfl (Nat.le_of_ble_eq_true rfl) rfl ?_
  refine Vm.iconst (n := 9) (v := (0 : Int32)) dX1_insideAs_8 rfl (by decide) ?_
  refine Vm.istore (n := 11) (lv' := [(5, .inl (0 : Int32)), (4, .inr (.inr (4, (8 * a1 + k1)))), (0, .inr (.inr (1, 0))), (1, .inr (.inr (0, a1))), (2, .inl a2), (3, .inl a3)]) dX1_insideAs_9 rfl (Nat.le_of_ble_eq_true rfl) rfl ?_
  refine Vm.iconst (n := 12) (v := (0 : Int32)) dX1_insideAs_11 rfl (by decide) ?_
  refine Vm.istore (n := 14) (lv' := [(6, .inl (0 : Int32)), (5, .inl (0 : Int32)), (4, .inr (.inr (4, (8 * a1 + k1)))), (0, .inr (.inr (1, 0))), (1, .inr (.inr (0, a1))), (2, .inl a2), (3, .inl a3)]) dX1_insideAs_12 rfl (Nat.le_of_ble_eq_true rfl) rfl ?_
  refine Vm.sub (lv' := [(0, .inr (.inr (1, 0))), (1, .inr (.inr (0, a1))), (2, .inl a2), (3, .inl a3), (4, .inr (.inr (4, (8 * a1 + k1)))), (5, .inl (0 : Int32)), (6, .inl (0 : Int32))]) [3, 4, 5, 6, 2, 1, 0] rfl ?_
  exact lX1_insideAs_14_L a1 (by omega) a2 a3 (8 * a1 + k1) (by omega) σ σ0 τ hσ ((0 : Int32), (0 : Int32)) _ h hk
theorem kX1_insideAs (a1 : Nat) (ha1 : a1 < 3) (a2 : Int32) (a3 : Int32) (σ τ : mm) {q : Int32} (h : fX1_insideAs a1 a2 a3 σ = some q) : Cx mX1_insideAs 2 [.inr (.inr (1, 0)), .inr (.inr (0, a1)), .inl a2, .inl a3] (σ, τ) (some (.inl q)) (σ, τ) :=
  Cx.of (lv := [(0, .inr (.inr (1, 0))), (1, .inr (.inr (0, a1))), (2, .inl a2), (3, .inl a3)]) (by decide) (fun ad => Nat.le_of_ble_eq_true rfl) (fun ad => rfl) (lX1_insideAs_0 a1 ha1 a2 a3 σ σ τ rfl h ⟨rfl, rfl⟩)
-- ThinBodies kind (I)I
noncomputable def fX7_kind_70 (a1 : Int32) (a2 : Int32) (a3 : Int32) (a4 : Int32) (σ : mm) : Option ((Int32 × Int32 × Int32) ⊕ (Int32 × mm)) :=
  Option.bind (some (a4 + (1 : Int32))) fun x1 =>
  some (.inl (a2, a3, x1))
noncomputable def fX7_kind_35 (a1 : Int32) (a2 : Int32) (a3 : Int32) (a4 : Int32) (σ : mm) : Option ((Int32 × Int32 × Int32) ⊕ (Int32 × mm)) :=
  if (6 : Int32) ≤ a4 then
  some (.inr ((a2, σ)))
  else
  Option.bind (fX1_insideAs 0 a1 a4 σ) fun q1 =>
  if q1 ≤ a3 then
  fX7_kind_70 a1 a2 a3 a4 σ
  else
  fX7_kind_70 a1 a4 q1 a4 σ
noncomputable def fX7_kind_35_L (a1 : Int32) (σ : mm) : Int32 × Int32 × Int32 → Option ((Int32 × Int32 × Int32) ⊕ (Int32 × mm)) := fun z => fX7_kind_35 a1 z.1 z.2.1 z.2.2 σ
noncomputable def fX7_kind_0 (a1 : Int32) (σ : mm) : Option (Int32 × mm) :=
  if (bi (fX0_hasRow 0 a1 σ)) = (0 : Int32) then
  Option.bind (fX7_finding (0 : Int32) σ) fun q2 =>
  some ((q2.1, q2.2))
  else
  Option.bind (fX1_refresh 0 σ) fun q1 =>
  lp (fX7_kind_35_L a1 q1) ((0 : Int32), (-1 : Int32), (0 : Int32))
noncomputable def fX7_kind (a1 : Int32) (σ : mm) : Option (Int32 × mm) := fX7_kind_0 a1 σ
set_option maxRecDepth 20000 in
theorem lX7_kind_70 (a1 : Int32) (a2 : Int32) (a3 : Int32) (a4 : Int32) (σ τ : mm) {r : Option mv} {M' : mm × mm} {v9 : (Int32 × Int32 × Int32) ⊕ (Int32 × mm)} (h : fX7_kind_70 a1 a2 a3 a4 σ = some v9) (hk : (Sum.elim (fun z : Int32 × Int32 × Int32 => Vm mX7_kind 5 35 [(0, .inr (.inr (7, 0))), (1, .inl a1), (2, .inl z.1), (3, .inl z.2.1), (4, .inl z.2.2)] [] (σ, τ) r M') (fun q : Int32 × mm => r = some (.inl q.1) ∧ M' = (q.2, τ))) v9) : Vm mX7_kind 5 70 [(0, .inr (.inr (7, 0))), (1, .inl a1), (2, .inl a2), (3, .inl a3), (4, .inl a4)] [] (σ, τ) r M' := by
  unfold fX7_kind_70 at h
  replace h := Option.bind_eq_some_iff.mp h
  obtain ⟨x1, e1, h⟩ := h
  replace e1 := Option.some.inj e1
  refine Vm.iinc (n := 73) (v := x1) (lv' := [(4, .inl x1), (0, .inr (.inr (7, 0))), (1, .inl a1), (2, .inl a2), (3, .inl a3)]) 4 dX7_kind_70 rfl rfl e1 (Nat.le_of_ble_eq_true rfl) rfl ?_
  refine Vm.goto 35 dX7_kind_73 rfl ?_
  refine Vm.sub (lv' := [(0, .inr (.inr (7, 0))), (1, .inl a1), (2, .inl a2), (3, .inl a3), (4, .inl x1)]) [1, 2, 3, 4, 0] rfl ?_
  obtain rfl := Option.some.inj h
  exact hk
set_option maxRecDepth 20000 in
theorem lX7_kind_35 (a1 : Int32) (a2 : Int32) (a3 : Int32) (a4 : Int32) (σ τ : mm) {r : Option mv} {M' : mm × mm} {v9 : (Int32 × Int32 × Int32) ⊕ (Int32 × mm)} (h : fX7_kind_35 a1 a2 a3 a4 σ = some v9) (hk : (Sum.elim (fun z : Int32 × Int32 × Int32 => Vm mX7_kind 5 35 [(0, .inr (.inr (7, 0))), (1, .inl a1), (2, .inl z.1), (3, .inl z.2.1), (4, .inl z.2.2)] [] (σ, τ) r M') (fun q : Int32 × mm => r = some (.inl q.1) ∧ M' = (q.2, τ))) v9) : Vm mX7_kind 5 35 [(0, .inr (.inr (7, 0))), (1, .inl a1), (2, .inl a2), (3, .inl a3), (4, .inl a4)] [] (σ, τ) r M' := by
  unfold fX7_kind_35 at h
  refine Vm.iload (n := 37) 4 dX7_kind_35 rfl rfl ?_
  refine Vm.bipush (n := 39) (v := (6 : Int32)) dX7_kind_37 rfl (by decide) ?_
  refine Vm.icmp_ge (n := 42) 76 dX7_kind_39 rfl rfl (fun c9 => ?_) (fun c9 => ?_)
  · replace h := (if_pos c9).symm.trans h
    refine Vm.iload_n (n := 77) 2 dX7_kind_76 rfl rfl ?_
    obtain rfl := Option.some.inj h
    exact Vm.iret dX7_kind_77 rfl hk.1 hk.2.symm
  · replace h := (if_neg c9).symm.trans h
    refine Vm.aload_n (n := 43) 0 dX7_kind_42 rfl rfl ?_
    refine Vm.getR (n := 46) dX7_kind_43 rfl wf_RX7_29 in_7 rfl (by decide) rfl ?_
    refine Vm.aload_n (n := 47) 0 dX7_kind_46 rfl rfl ?_
    refine Vm.getR (n := 50) dX7_kind_47 rfl wf_RX7_12 in_7 rfl (by decide) rfl ?_
    refine Vm.iload_n (n := 51) 1 dX7_kind_50 rfl rfl ?_
    refine Vm.iload (n := 53) 4 dX7_kind_51 rfl rfl ?_
    replace h := Option.bind_eq_some_iff.mp h
    obtain ⟨q1, h1, h⟩ := h
    refine Vm.callV (Y := mX1_insideAs) (n := 56) [.inr (.inr (0, 0)), .inl a1, .inl a4] dX7_kind_53 rfl wv_RX7_282 omX1_insideAs rfl in_1 rfl rfl rfl (Nat.le_of_ble_eq_true rfl) (by decide) (kX1_insideAs 0 (by decide) a1 a4 σ τ h1) ?_
    refine Vm.istore (n := 58) (lv' := [(5, .inl q1), (0, .inr (.inr (7, 0))), (1, .inl a1), (2, .inl a2), (3, .inl a3), (4, .inl a4)]) dX7_kind_56 rfl (Nat.le_of_ble_eq_true rfl) rfl ?_
    refine Vm.iload (n := 60) 0 dX7_kind_58 rfl rfl ?_
    refine Vm.iload_n (n := 61) 4 dX7_kind_60 rfl rfl ?_
    refine Vm.icmp_le (n := 64) 70 dX7_kind_61 rfl rfl (fun c9 => ?_) (fun c9 => ?_)
    · replace h := (if_pos c9).symm.trans h
      refine Vm.sub (lv' := [(0, .inr (.inr (7, 0))), (1, .inl a1), (2, .inl a2), (3, .inl a3), (4, .inl a4)]) [1, 2, 3, 4, 5] rfl ?_
      exact lX7_kind_70 a1 a2 a3 a4 σ τ h hk
    · replace h := (if_neg c9).symm.trans h
      refine Vm.iload (n := 66) 0 dX7_kind_64 rfl rfl ?_
      refine Vm.istore_n (n := 67) (lv' := [(3, .inl q1), (5, .inl q1), (0, .inr (.inr (7, 0))), (1, .inl a1), (2, .inl a2), (4, .inl a4)]) dX7_kind_66 rfl (Nat.le_of_ble_eq_true rfl) rfl ?_
      refine Vm.iload (n := 69) 5 dX7_kind_67 rfl rfl ?_
      refine Vm.istore_n (n := 70) (lv' := [(2, .inl a4), (3, .inl q1), (5, .inl q1), (0, .inr (.inr (7, 0))), (1, .inl a1), (4, .inl a4)]) dX7_kind_69 rfl (Nat.le_of_ble_eq_true rfl) rfl ?_
      refine Vm.sub (lv' := [(0, .inr (.inr (7, 0))), (1, .inl a1), (2, .inl a4), (3, .inl q1), (4, .inl a4)]) [3, 4, 0, 1, 5] rfl ?_
      exact lX7_kind_70 a1 a4 q1 a4 σ τ h hk
theorem lX7_kind_35_L (a1 : Int32) (σ τ : mm) {r : Option mv} {M' : mm × mm} (z : Int32 × Int32 × Int32) (w9 : Int32 × mm) (h : lp (fX7_kind_35_L a1 σ) z = some w9) (hk : (fun q : Int32 × mm => r = some (.inl q.1) ∧ M' = (q.2, τ)) w9) : Vm mX7_kind 5 35 [(0, .inr (.inr (7, 0))), (1, .inl a1), (2, .inl z.1), (3, .inl z.2.1), (4, .inl z.2.2)] [] (σ, τ) r M' :=
  lp_link (S := Int32 × Int32 × Int32) (R := Int32 × mm) (body := fX7_kind_35_L a1 σ) (A := fun z : Int32 × Int32 × Int32 => Vm mX7_kind 5 35 [(0, .inr (.inr (7, 0))), (1, .inl a1), (2, .inl z.1), (3, .inl z.2.1), (4, .inl z.2.2)] [] (σ, τ) r M') (B := fun w : Int32 × mm => (fun q : Int32 × mm => r = some (.inl q.1) ∧ M' = (q.2, τ)) w) (fun z v hb hv => lX7_kind_35 a1 z.1 z.2.1 z.2.2 σ τ hb hv) z w9 h hk
set_option maxRecDepth 20000 in
theorem lX7_kind_0 (a1 : Int32) (σ τ : mm) {r : Option mv} {M' : mm × mm} {v9 : Int32 × mm} (h : fX7_kind_0 a1 σ = some v9) (hk : (fun q : Int32 × mm => r = some (.inl q.1) ∧ M' = (q.2, τ)) v9) : Vm mX7_kind 5 0 [(0, .inr (.inr (7, 0))), (1, .inl a1)] [] (σ, τ) r M' := by
  unfold fX7_kind_0 at h
  refine Vm.aload_n (n := 1) 0 dX7_kind_0 rfl rfl ?_
  refine Vm.getR (n := 4) dX7_kind_1 rfl wf_RX7_12 in_7 rfl (by decide) rfl ?_
  refine Vm.iload_n (n := 5) 1 dX7_kind_4 rfl rfl ?_
  refine Vm.callV (Y := mX0_hasRow) (n := 8) [.inl a1] dX7_kind_5 rfl wv_RX7_124 omX0_hasRow rfl (ink ik_0 (by decide)) rfl rfl rfl (Nat.le_of_ble_eq_true rfl) (by decide) (kX0_hasRow 0 (by decide) a1 σ τ rfl) ?_
  refine Vm.if_ne (n := 11) 17 dX7_kind_8 rfl rfl (fun c9 => ?_) (fun c9 => ?_)
  · replace h := (if_neg c9).symm.trans h
    refine Vm.aload_n (n := 18) 0 dX7_kind_17 rfl rfl ?_
    refine Vm.getR (n := 21) dX7_kind_18 rfl wf_RX7_29 in_7 rfl (by decide) rfl ?_
    refine Vm.aload_n (n := 22) 0 dX7_kind_21 rfl rfl ?_
    refine Vm.getR (n := 25) dX7_kind_22 rfl wf_RX7_12 in_7 rfl (by decide) rfl ?_
    replace h := Option.bind_eq_some_iff.mp h
    obtain ⟨q1, h1, h⟩ := h
    refine Vm.callVv (Y := mX1_refresh) (n := 28) [.inr (.inr (0, 0))] dX7_kind_25 rfl wv_RX7_154 omX1_refresh rfl in_1 rfl rfl rfl (Nat.le_of_ble_eq_true rfl) (by decide) (kX1_refresh 0 (by decide) σ τ h1) ?_
    refine Vm.iconst (n := 29) (v := (0 : Int32)) dX7_kind_28 rfl (by decide) ?_
    refine Vm.istore_n (n := 30) (lv' := [(2, .inl (0 : Int32)), (0, .inr (.inr (7, 0))), (1, .inl a1)]) dX7_kind_29 rfl (Nat.le_of_ble_eq_true rfl) rfl ?_
    refine Vm.iconst (n := 31) (v := (-1 : Int32)) dX7_kind_30 rfl (by decide) ?_
    refine Vm.istore_n (n := 32) (lv' := [(3, .inl (-1 : Int32)), (2, .inl (0 : Int32)), (0, .inr (.inr (7, 0))), (1, .inl a1)]) dX7_kind_31 rfl (Nat.le_of_ble_eq_true rfl) rfl ?_
    refine Vm.iconst (n := 33) (v := (0 : Int32)) dX7_kind_32 rfl (by decide) ?_
    refine Vm.istore (n := 35) (lv' := [(4, .inl (0 : Int32)), (3, .inl (-1 : Int32)), (2, .inl (0 : Int32)), (0, .inr (.inr (7, 0))), (1, .inl a1)]) dX7_kind_33 rfl (Nat.le_of_ble_eq_true rfl) rfl ?_
    refine Vm.sub (lv' := [(0, .inr (.inr (7, 0))), (1, .inl a1), (2, .inl (0 : Int32)), (3, .inl (-1 : Int32)), (4, .inl (0 : Int32))]) [3, 4, 2, 1, 0] rfl ?_
    exact lX7_kind_35_L a1 q1 τ ((0 : Int32), (-1 : Int32), (0 : Int32)) _ h hk
  · replace h := (if_pos c9).symm.trans h
    refine Vm.aload_n (n := 12) 0 dX7_kind_11 rfl rfl ?_
    refine Vm.iconst (n := 13) (v := (0 : Int32)) dX7_kind_12 rfl (by decide) ?_
    replace h := Option.bind_eq_some_iff.mp h
    obtain ⟨q2, h2, h⟩ := h
    refine Vm.callV (Y := mX7_finding) (n := 16) [.inl (0 : Int32)] dX7_kind_13 rfl wv_RX7_68 omX7_finding rfl in_7 rfl rfl rfl (Nat.le_of_ble_eq_true rfl) (by decide) (kX7_finding (0 : Int32) σ τ h2) ?_
    obtain rfl := Option.some.inj h
    exact Vm.iret dX7_kind_16 rfl hk.1 hk.2.symm
theorem kX7_kind (a1 : Int32) (σ τ : mm) {q : Int32 × mm} (h : fX7_kind a1 σ = some q) : Cx mX7_kind 5 [.inr (.inr (7, 0)), .inl a1] (σ, τ) (some (.inl q.1)) (q.2, τ) :=
  Cx.of (lv := [(0, .inr (.inr (7, 0))), (1, .inl a1)]) (by decide) (fun ad => Nat.le_of_ble_eq_true rfl) (fun ad => rfl) (lX7_kind_0 a1 σ τ h ⟨rfl, rfl⟩)
