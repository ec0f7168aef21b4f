-- java/lang/Math min (II)I
def fJ9_min_7cf53_0 (a0 : Int32) (a1 : Int32) : Int32 :=
  if a1 < a0 then
  a1
  else
  a0
def fJ9_min_7cf53 (a0 : Int32) (a1 : Int32) : Int32 := fJ9_min_7cf53_0 a0 a1
set_option maxRecDepth 20000 in
theorem lJ9_min_7cf53_0 (a0 : Int32) (a1 : Int32) {M : mm × mm} {r : Option mv} {M' : mm × mm} {v9 : Int32} (h : fJ9_min_7cf53_0 a0 a1 = v9) (hk : (fun q : Int32 => r = some (.inl q) ∧ M' = M) v9) : Vm mJ9_min_7cf53 0 0 [(0, .inl a0), (1, .inl a1)] [] M r M' := by
  unfold fJ9_min_7cf53_0 at h
  refine Vm.iload_n (n := 1) 0 dJ9_min_7cf53_0 rfl rfl ?_
  refine Vm.iload_n (n := 2) 1 dJ9_min_7cf53_1 rfl rfl ?_
  refine Vm.icmp_gt (n := 5) 9 dJ9_min_7cf53_2 rfl rfl (fun c9 => ?_) (fun c9 => ?_)
  · replace h := (if_pos c9).symm.trans h
    refine Vm.iload_n (n := 10) 1 dJ9_min_7cf53_9 rfl rfl ?_
    subst h
    exact Vm.iret dJ9_min_7cf53_10 rfl hk.1 hk.2.symm
  · replace h := (if_neg c9).symm.trans h
    refine Vm.iload_n (n := 6) 0 dJ9_min_7cf53_5 rfl rfl ?_
    refine Vm.goto 10 dJ9_min_7cf53_6 rfl ?_
    subst h
    exact Vm.iret dJ9_min_7cf53_10 rfl hk.1 hk.2.symm
theorem kJ9_min_7cf53 (a0 : Int32) (a1 : Int32) {M : mm × mm} {q : Int32} (h : fJ9_min_7cf53 a0 a1 = q) : Cx mJ9_min_7cf53 0 [.inl a0, .inl a1] M (some (.inl q)) M :=
  Cx.ofF (lv := [(0, .inl a0), (1, .inl a1)]) (by decide +kernel) (fun ad => Nat.le_of_ble_eq_true rfl) (fun ad => rfl) (lJ9_min_7cf53_0 a0 a1 h ⟨rfl, rfl⟩)
-- ThinBodies$Row sumIn ([II)I
noncomputable def fX4_sumIn_13_5 (a0 : Nat) (a2 : Int32) (a3 : Int32) (a4 : Int32) (σ : mm) : Option ((Int32 × Int32) ⊕ (Int32)) :=
  if a2 ≤ a4 then
  some (.inr (a3))
  else
  Option.bind (rdI σ 10 a0 4 a4) fun x1 =>
  Option.bind (rdI σ 13 0 4 a4) fun x2 =>
  Option.bind (some (a3 + (x1 * x2))) fun x3 =>
  Option.bind (some (a4 + (1 : Int32))) fun x4 =>
  some (.inl (x3, x4))
noncomputable def fX4_sumIn_13_5_L (a0 : Nat) (a2 : Int32) (σ : mm) : Int32 × Int32 → Option ((Int32 × Int32) ⊕ (Int32)) := fun z => fX4_sumIn_13_5 a0 a2 z.1 z.2 σ
noncomputable def fX4_sumIn_13_0 (a0 : Nat) (a2 : Int32) (σ : mm) : Option (Int32) :=
  lp (fX4_sumIn_13_5_L a0 a2 σ) ((0 : Int32), (0 : Int32))
noncomputable def fX4_sumIn_13 (a0 : Nat) (a2 : Int32) (σ : mm) : Option (Int32) := fX4_sumIn_13_0 a0 a2 σ
set_option maxRecDepth 20000 in
theorem lX4_sumIn_13_5 (a0 : Nat) (ha0 : a0 < 24) (a2 : Int32) (a3 : Int32) (a4 : Int32) (σ σ0 τ : mm) (hσ : σ = σ0) {r : Option mv} {M' : mm × mm} {v9 : (Int32 × Int32) ⊕ (Int32)} (h : fX4_sumIn_13_5 a0 a2 a3 a4 σ = some v9) (hk : (Sum.elim (fun z : Int32 × Int32 => Vm mX4_sumIn 0 5 [(0, .inr (.inr (4, a0))), (1, .inr (.inr (13, 0))), (2, .inl a2), (3, .inl z.1), (4, .inl z.2)] [] (σ, τ) r M') (fun q : Int32 => r = some (.inl q) ∧ M' = (σ0, τ))) v9) : Vm mX4_sumIn 0 5 [(0, .inr (.inr (4, a0))), (1, .inr (.inr (13, 0))), (2, .inl a2), (3, .inl a3), (4, .inl a4)] [] (σ, τ) r M' := by
  unfold fX4_sumIn_13_5 at h
  refine Vm.iload (n := 7) 4 dX4_sumIn_5 rfl rfl ?_
  refine Vm.iload_n (n := 8) 2 dX4_sumIn_7 rfl rfl ?_
  refine Vm.icmp_ge (n := 11) 32 dX4_sumIn_8 rfl rfl (fun c9 => ?_) (fun c9 => ?_)
  · replace h := (if_pos c9).symm.trans h
    refine Vm.iload_n (n := 33) 3 dX4_sumIn_32 rfl rfl ?_
    obtain rfl := Option.some.inj h
    exact Vm.iret dX4_sumIn_33 rfl hk.1 (by rw [hσ]; exact hk.2.symm)
  · replace h := (if_neg c9).symm.trans h
    refine Vm.iload_n (n := 12) 3 dX4_sumIn_11 rfl rfl ?_
    refine Vm.aload_n (n := 13) 0 dX4_sumIn_12 rfl rfl ?_
    refine Vm.getR (n := 16) dX4_sumIn_13 rfl wf_RX4_21 (ink ik_4 (by omega)) rfl (by decide) rfl ?_
    refine Vm.iload (n := 18) 4 dX4_sumIn_16 rfl rfl ?_
    replace h := Option.bind_eq_some_iff.mp h
    obtain ⟨x1, h1, h⟩ := h
    refine Vm.ialdx (n := 19) dX4_sumIn_18 rfl (ink ik_10 (by omega)) rfl rfl (by decide) h1 ?_
    refine Vm.aload_n (n := 20) 1 dX4_sumIn_19 rfl rfl ?_
    refine Vm.iload (n := 22) 4 dX4_sumIn_20 rfl rfl ?_
    replace h := Option.bind_eq_some_iff.mp h
    obtain ⟨x2, h2, h⟩ := h
    refine Vm.ialdx (n := 23) dX4_sumIn_22 rfl in_13 rfl rfl (by decide) h2 ?_
    refine Vm.imul (n := 24) dX4_sumIn_23 rfl ?_
    refine Vm.iadd (n := 25) dX4_sumIn_24 rfl ?_
    replace h := Option.bind_eq_some_iff.mp h
    obtain ⟨x3, e3, h⟩ := h
    replace e3 := Option.some.inj e3
    refine Vm.top e3 ?_
    refine Vm.istore_n (n := 26) (lv' := [(3, .inl x3), (0, .inr (.inr (4, a0))), (1, .inr (.inr (13, 0))), (2, .inl a2), (4, .inl a4)]) dX4_sumIn_25 rfl (Nat.le_of_ble_eq_true rfl) rfl ?_
    replace h := Option.bind_eq_some_iff.mp h
    obtain ⟨x4, e4, h⟩ := h
    replace e4 := Option.some.inj e4
    refine Vm.iinc (n := 29) (v := x4) (lv' := [(4, .inl x4), (3, .inl x3), (0, .inr (.inr (4, a0))), (1, .inr (.inr (13, 0))), (2, .inl a2)]) 4 dX4_sumIn_26 rfl rfl e4 (Nat.le_of_ble_eq_true rfl) rfl ?_
    refine Vm.goto 5 dX4_sumIn_29 rfl ?_
    refine Vm.sub (lv' := [(0, .inr (.inr (4, a0))), (1, .inr (.inr (13, 0))), (2, .inl a2), (3, .inl x3), (4, .inl x4)]) [2, 3, 4, 1, 0] rfl ?_
    obtain rfl := Option.some.inj h
    exact hk
theorem lX4_sumIn_13_5_L (a0 : Nat) (ha0 : a0 < 24) (a2 : Int32) (σ σ0 τ : mm) (hσ : σ = σ0) {r : Option mv} {M' : mm × mm} (z : Int32 × Int32) (w9 : Int32) (h : lp (fX4_sumIn_13_5_L a0 a2 σ) z = some w9) (hk : (fun q : Int32 => r = some (.inl q) ∧ M' = (σ0, τ)) w9) : Vm mX4_sumIn 0 5 [(0, .inr (.inr (4, a0))), (1, .inr (.inr (13, 0))), (2, .inl a2), (3, .inl z.1), (4, .inl z.2)] [] (σ, τ) r M' :=
  lp_link (S := Int32 × Int32) (R := Int32) (body := fX4_sumIn_13_5_L a0 a2 σ) (A := fun z : Int32 × Int32 => Vm mX4_sumIn 0 5 [(0, .inr (.inr (4, a0))), (1, .inr (.inr (13, 0))), (2, .inl a2), (3, .inl z.1), (4, .inl z.2)] [] (σ, τ) r M') (B := fun w : Int32 => (fun q : Int32 => r = some (.inl q) ∧ M' = (σ0, τ)) w) (fun z v hb hv => lX4_sumIn_13_5 a0 ha0 a2 z.1 z.2 σ σ0 τ hσ hb hv) z w9 h hk
set_option maxRecDepth 20000 in
theorem lX4_sumIn_13_0 (a0 : Nat) (ha0 : a0 < 24) (a2 : Int32) (σ σ0 τ : mm) (hσ : σ = σ0) {r : Option mv} {M' : mm × mm} {v9 : Int32} (h : fX4_sumIn_13_0 a0 a2 σ = some v9) (hk : (fun q : Int32 => r = some (.inl q) ∧ M' = (σ0, τ)) v9) : Vm mX4_sumIn 0 0 [(0, .inr (.inr (4, a0))), (1, .inr (.inr (13, 0))), (2, .inl a2)] [] (σ, τ) r M' := by
  unfold fX4_sumIn_13_0 at h
  refine Vm.iconst (n := 1) (v := (0 : Int32)) dX4_sumIn_0 rfl (by decide) ?_
  refine Vm.istore_n (n := 2) (lv' := [(3, .inl (0 : Int32)), (0, .inr (.inr (4, a0))), (1, .inr (.inr (13, 0))), (2, .inl a2)]) dX4_sumIn_1 rfl (Nat.le_of_ble_eq_true rfl) rfl ?_
  refine Vm.iconst (n := 3) (v := (0 : Int32)) dX4_sumIn_2 rfl (by decide) ?_
  refine Vm.istore (n := 5) (lv' := [(4, .inl (0 : Int32)), (3, .inl (0 : Int32)), (0, .inr (.inr (4, a0))), (1, .inr (.inr (13, 0))), (2, .inl a2)]) dX4_sumIn_3 rfl (Nat.le_of_ble_eq_true rfl) rfl ?_
  refine Vm.sub (lv' := [(0, .inr (.inr (4, a0))), (1, .inr (.inr (13, 0))), (2, .inl a2), (3, .inl (0 : Int32)), (4, .inl (0 : Int32))]) [2, 3, 4, 1, 0] rfl ?_
  exact lX4_sumIn_13_5_L a0 (by omega) a2 σ σ0 τ hσ ((0 : Int32), (0 : Int32)) _ h hk
theorem kX4_sumIn_13 (a0 : Nat) (ha0 : a0 < 24) (a2 : Int32) (σ τ : mm) {q : Int32} (h : fX4_sumIn_13 a0 a2 σ = some q) : Cx mX4_sumIn 0 [.inr (.inr (4, a0)), .inr (.inr (13, 0)), .inl a2] (σ, τ) (some (.inl q)) (σ, τ) :=
  Cx.of (lv := [(0, .inr (.inr (4, a0))), (1, .inr (.inr (13, 0))), (2, .inl a2)]) (by decide) (fun ad => Nat.le_of_ble_eq_true rfl) (fun ad => rfl) (lX4_sumIn_13_0 a0 ha0 a2 σ σ τ rfl h ⟨rfl, rfl⟩)
-- java/lang/Math abs (I)I
def fJ9_abs_0f7a4_0 (a0 : Int32) : Int32 :=
  if (0 : Int32) ≤ a0 then
  a0
  else
  -a0
def fJ9_abs_0f7a4 (a0 : Int32) : Int32 := fJ9_abs_0f7a4_0 a0
set_option maxRecDepth 20000 in
theorem lJ9_abs_0f7a4_0 (a0 : Int32) {M : mm × mm} {r : Option mv} {M' : mm × mm} {v9 : Int32} (h : fJ9_abs_0f7a4_0 a0 = v9) (hk : (fun q : Int32 => r = some (.inl q) ∧ M' = M) v9) : Vm mJ9_abs_0f7a4 0 0 [(0, .inl a0)] [] M r M' := by
  unfold fJ9_abs_0f7a4_0 at h
  refine Vm.iload_n (n := 1) 0 dJ9_abs_0f7a4_0 rfl rfl ?_
  refine Vm.if_ge (n := 4) 9 dJ9_abs_0f7a4_1 rfl rfl (fun c9 => ?_) (fun c9 => ?_)
  · replace h := (if_pos c9).symm.trans h
    refine Vm.iload_n (n := 10) 0 dJ9_abs_0f7a4_9 rfl rfl ?_
    subst h
    exact Vm.iret dJ9_abs_0f7a4_10 rfl hk.1 hk.2.symm
  · replace h := (if_neg c9).symm.trans h
    refine Vm.iload_n (n := 5) 0 dJ9_abs_0f7a4_4 rfl rfl ?_
    refine Vm.ineg (n := 6) dJ9_abs_0f7a4_5 rfl ?_
    refine Vm.goto 10 dJ9_abs_0f7a4_6 rfl ?_
    subst h
    exact Vm.iret dJ9_abs_0f7a4_10 rfl hk.1 hk.2.symm
theorem kJ9_abs_0f7a4 (a0 : Int32) {M : mm × mm} {q : Int32} (h : fJ9_abs_0f7a4 a0 = q) : Cx mJ9_abs_0f7a4 0 [.inl a0] M (some (.inl q)) M :=
  Cx.ofF (lv := [(0, .inl a0)]) (by decide +kernel) (fun ad => Nat.le_of_ble_eq_true rfl) (fun ad => rfl) (lJ9_abs_0f7a4_0 a0 h ⟨rfl, rfl⟩)
-- ThinBodies$Row allowsAs (II)Z
def fX4_allowsAs_0 (a0 : Nat) (a1 : Int32) (a2 : Int32) (σ : mm) : Option (Bool) :=
  if a1.toInt = (0 : Int) then
  if (σ.1 4 a0 1) < a2 then
  some (false)
  else
  some (true)
  else if a1.toInt = (1 : Int) then
  if a2 = (σ.1 4 a0 1) then
  some (true)
  else
  some (false)
  else if a1.toInt = (2 : Int) then
  if (σ.1 4 a0 2) < (fJ9_abs_0f7a4 (a2 - (σ.1 4 a0 1))) then
  some (false)
  else
  some (true)
  else if a1.toInt = (3 : Int) then
  if (σ.1 4 a0 2) ≤ (0 : Int32) then
  some (false)
  else
  Option.bind (rmI (a2 - (σ.1 4 a0 1)) (σ.1 4 a0 2)) fun x1 =>
  if x1 = (0 : Int32) then
  some (true)
  else
  some (false)
  else if a1.toInt = (4 : Int) then
  if (fJ9_abs_0f7a4 (a2 - (σ.1 4 a0 1))) ≤ (σ.1 4 a0 2) then
  some (false)
  else
  some (true)
  else 
  if a2 < (σ.1 4 a0 1) then
  some (false)
  else
  some (true)
def fX4_allowsAs (a0 : Nat) (a1 : Int32) (a2 : Int32) (σ : mm) : Option (Bool) := fX4_allowsAs_0 a0 a1 a2 σ
set_option maxRecDepth 20000 in
theorem lX4_allowsAs_0 (a0 : Nat) (ha0 : a0 < 24) (a1 : Int32) (a2 : Int32) (σ σ0 τ : mm) (hσ : σ = σ0) {r : Option mv} {M' : mm × mm} {v9 : Bool} (h : fX4_allowsAs_0 a0 a1 a2 σ = some v9) (hk : (fun q : Bool => r = some (.inl (bi q)) ∧ M' = (σ0, τ)) v9) : Vm mX4_allowsAs 1 0 [(0, .inr (.inr (4, a0))), (1, .inl a1), (2, .inl a2)] [] (σ, τ) r M' := by
  unfold fX4_allowsAs_0 at h
  refine Vm.iload_n (n := 1) 1 dX4_allowsAs_0 rfl rfl ?_
  by_cases c50 : a1.toInt = (0 : Int)
  · replace h := (if_pos c50).symm.trans h
    refine Vm.tswI (0) 36 dX4_allowsAs_1 c50 (by decide) rfl rfl ?_
    refine Vm.iload_n (n := 37) 2 dX4_allowsAs_36 rfl rfl ?_
    refine Vm.aload_n (n := 38) 0 dX4_allowsAs_37 rfl rfl ?_
    refine Vm.gX (n := 41) dX4_allowsAs_38 rfl wf_RX4_15 (ink ik_4 (by omega)) rfl (by decide) rfl (by decide) ?_
    refine Vm.icmp_gt (n := 44) 48 dX4_allowsAs_41 rfl rfl (fun c9 => ?_) (fun c9 => ?_)
    · replace h := (if_pos c9).symm.trans h
      refine Vm.iconst (n := 49) (v := (0 : Int32)) dX4_allowsAs_48 rfl (by decide) ?_
      obtain rfl := Option.some.inj h
      exact Vm.zret (b := false) dX4_allowsAs_49 rfl rfl hk.1 (by rw [hσ]; exact hk.2.symm)
    · replace h := (if_neg c9).symm.trans h
      refine Vm.iconst (n := 45) (v := (1 : Int32)) dX4_allowsAs_44 rfl (by decide) ?_
      refine Vm.goto 49 dX4_allowsAs_45 rfl ?_
      obtain rfl := Option.some.inj h
      exact Vm.zret (b := true) dX4_allowsAs_49 rfl rfl hk.1 (by rw [hσ]; exact hk.2.symm)
  · replace h := (if_neg c50).symm.trans h
    by_cases c51 : a1.toInt = (1 : Int)
    · replace h := (if_pos c51).symm.trans h
      refine Vm.tswI (1) 50 dX4_allowsAs_1 c51 (by decide) rfl rfl ?_
      refine Vm.iload_n (n := 51) 2 dX4_allowsAs_50 rfl rfl ?_
      refine Vm.aload_n (n := 52) 0 dX4_allowsAs_51 rfl rfl ?_
      refine Vm.gX (n := 55) dX4_allowsAs_52 rfl wf_RX4_15 (ink ik_4 (by omega)) rfl (by decide) rfl (by decide) ?_
      refine Vm.icmp_ne (n := 58) 62 dX4_allowsAs_55 rfl rfl (fun c9 => ?_) (fun c9 => ?_)
      · replace h := (if_neg c9).symm.trans h
        refine Vm.iconst (n := 63) (v := (0 : Int32)) dX4_allowsAs_62 rfl (by decide) ?_
        obtain rfl := Option.some.inj h
        exact Vm.zret (b := false) dX4_allowsAs_63 rfl rfl hk.1 (by rw [hσ]; exact hk.2.symm)
      · replace h := (if_pos c9).symm.trans h
        refine Vm.iconst (n := 59) (v := (1 : Int32)) dX4_allowsAs_58 rfl (by decide) ?_
        refine Vm.goto 63 dX4_allowsAs_59 rfl ?_
        obtain rfl := Option.some.inj h
        exact Vm.zret (b := true) dX4_allowsAs_63 rfl rfl hk.1 (by rw [hσ]; exact hk.2.symm)
    · replace h := (if_neg c51).symm.trans h
      by_cases c52 : a1.toInt = (2 : Int)
      · replace h := (if_pos c52).symm.trans h
        refine Vm.tswI (2) 64 dX4_allowsAs_1 c52 (by decide) rfl rfl ?_
        refine Vm.iload_n (n := 65) 2 dX4_allowsAs_64 rfl rfl ?_
        refine Vm.aload_n (n := 66) 0 dX4_allowsAs_65 rfl rfl ?_
        refine Vm.gX (n := 69) dX4_allowsAs_66 rfl wf_RX4_15 (ink ik_4 (by omega)) rfl (by decide) rfl (by decide) ?_
        refine Vm.isub (n := 70) dX4_allowsAs_69 rfl ?_
        refine Vm.callS (Y := mJ9_abs_0f7a4) (n := 73) [.inl (a2 - (σ.1 4 a0 1))] dX4_allowsAs_70 rfl wv_RX4_42 omJ9_abs_0f7a4 rfl rfl (Nat.le_of_ble_eq_true rfl) (by decide) (kJ9_abs_0f7a4 (a2 - (σ.1 4 a0 1)) rfl) ?_
        refine Vm.aload_n (n := 74) 0 dX4_allowsAs_73 rfl rfl ?_
        refine Vm.gX (n := 77) dX4_allowsAs_74 rfl wf_RX4_18 (ink ik_4 (by omega)) rfl (by decide) rfl (by decide) ?_
        refine Vm.icmp_gt (n := 80) 84 dX4_allowsAs_77 rfl rfl (fun c9 => ?_) (fun c9 => ?_)
        · replace h := (if_pos c9).symm.trans h
          refine Vm.iconst (n := 85) (v := (0 : Int32)) dX4_allowsAs_84 rfl (by decide) ?_
          obtain rfl := Option.some.inj h
          exact Vm.zret (b := false) dX4_allowsAs_85 rfl rfl hk.1 (by rw [hσ]; exact hk.2.symm)
        · replace h := (if_neg c9).symm.trans h
          refine Vm.iconst (n := 81) (v := (1 : Int32)) dX4_allowsAs_80 rfl (by decide) ?_
          refine Vm.goto 85 dX4_allowsAs_81 rfl ?_
          obtain rfl := Option.some.inj h
          exact Vm.zret (b := true) dX4_allowsAs_85 rfl rfl hk.1 (by rw [hσ]; exact hk.2.symm)
      · replace h := (if_neg c52).symm.trans h
        by_cases c53 : a1.toInt = (3 : Int)
        · replace h := (if_pos c53).symm.trans h
          refine Vm.tswI (3) 86 dX4_allowsAs_1 c53 (by decide) rfl rfl ?_
          refine Vm.aload_n (n := 87) 0 dX4_allowsAs_86 rfl rfl ?_
          refine Vm.gX (n := 90) dX4_allowsAs_87 rfl wf_RX4_18 (ink ik_4 (by omega)) rfl (by decide) rfl (by decide) ?_
          refine Vm.if_le (n := 93) 111 dX4_allowsAs_90 rfl rfl (fun c9 => ?_) (fun c9 => ?_)
          · replace h := (if_pos c9).symm.trans h
            refine Vm.iconst (n := 112) (v := (0 : Int32)) dX4_allowsAs_111 rfl (by decide) ?_
            obtain rfl := Option.some.inj h
            exact Vm.zret (b := false) dX4_allowsAs_112 rfl rfl hk.1 (by rw [hσ]; exact hk.2.symm)
          · replace h := (if_neg c9).symm.trans h
            refine Vm.iload_n (n := 94) 2 dX4_allowsAs_93 rfl rfl ?_
            refine Vm.aload_n (n := 95) 0 dX4_allowsAs_94 rfl rfl ?_
            refine Vm.gX (n := 98) dX4_allowsAs_95 rfl wf_RX4_15 (ink ik_4 (by omega)) rfl (by decide) rfl (by decide) ?_
            refine Vm.isub (n := 99) dX4_allowsAs_98 rfl ?_
            refine Vm.aload_n (n := 100) 0 dX4_allowsAs_99 rfl rfl ?_
            refine Vm.gX (n := 103) dX4_allowsAs_100 rfl wf_RX4_18 (ink ik_4 (by omega)) rfl (by decide) rfl (by decide) ?_
            replace h := Option.bind_eq_some_iff.mp h
            obtain ⟨x1, h1, h⟩ := h
            refine Vm.irem (n := 104) dX4_allowsAs_103 rfl h1 ?_
            refine Vm.if_ne (n := 107) 111 dX4_allowsAs_104 rfl rfl (fun c9 => ?_) (fun c9 => ?_)
            · replace h := (if_neg c9).symm.trans h
              refine Vm.iconst (n := 112) (v := (0 : Int32)) dX4_allowsAs_111 rfl (by decide) ?_
              obtain rfl := Option.some.inj h
              exact Vm.zret (b := false) dX4_allowsAs_112 rfl rfl hk.1 (by rw [hσ]; exact hk.2.symm)
            · replace h := (if_pos c9).symm.trans h
              refine Vm.iconst (n := 108) (v := (1 : Int32)) dX4_allowsAs_107 rfl (by decide) ?_
              refine Vm.goto 112 dX4_allowsAs_108 rfl ?_
              obtain rfl := Option.some.inj h
              exact Vm.zret (b := true) dX4_allowsAs_112 rfl rfl hk.1 (by rw [hσ]; exact hk.2.symm)
        · replace h := (if_neg c53).symm.trans h
          by_cases c54 : a1.toInt = (4 : Int)
          · replace h := (if_pos c54).symm.trans h
            refine Vm.tswI (4) 113 dX4_allowsAs_1 c54 (by decide) rfl rfl ?_
            refine Vm.iload_n (n := 114) 2 dX4_allowsAs_113 rfl rfl ?_
            refine Vm.aload_n (n := 115) 0 dX4_allowsAs_114 rfl rfl ?_
            refine Vm.gX (n := 118) dX4_allowsAs_115 rfl wf_RX4_15 (ink ik_4 (by omega)) rfl (by decide) rfl (by decide) ?_
            refine Vm.isub (n := 119) dX4_allowsAs_118 rfl ?_
            refine Vm.callS (Y := mJ9_abs_0f7a4) (n := 122) [.inl (a2 - (σ.1 4 a0 1))] dX4_allowsAs_119 rfl wv_RX4_42 omJ9_abs_0f7a4 rfl rfl (Nat.le_of_ble_eq_true rfl) (by decide) (kJ9_abs_0f7a4 (a2 - (σ.1 4 a0 1)) rfl) ?_
            refine Vm.aload_n (n := 123) 0 dX4_allowsAs_122 rfl rfl ?_
            refine Vm.gX (n := 126) dX4_allowsAs_123 rfl wf_RX4_18 (ink ik_4 (by omega)) rfl (by decide) rfl (by decide) ?_
            refine Vm.icmp_le (n := 129) 133 dX4_allowsAs_126 rfl rfl (fun c9 => ?_) (fun c9 => ?_)
            · replace h := (if_pos c9).symm.trans h
              refine Vm.iconst (n := 134) (v := (0 : Int32)) dX4_allowsAs_133 rfl (by decide) ?_
              obtain rfl := Option.some.inj h
              exact Vm.zret (b := false) dX4_allowsAs_134 rfl rfl hk.1 (by rw [hσ]; exact hk.2.symm)
            · replace h := (if_neg c9).symm.trans h
              refine Vm.iconst (n := 130) (v := (1 : Int32)) dX4_allowsAs_129 rfl (by decide) ?_
              refine Vm.goto 134 dX4_allowsAs_130 rfl ?_
              obtain rfl := Option.some.inj h
              exact Vm.zret (b := true) dX4_allowsAs_134 rfl rfl hk.1 (by rw [hσ]; exact hk.2.symm)
          · replace h := (if_neg c54).symm.trans h
            refine Vm.tswO 135 dX4_allowsAs_1 (by omega) rfl ?_
            refine Vm.iload_n (n := 136) 2 dX4_allowsAs_135 rfl rfl ?_
            refine Vm.aload_n (n := 137) 0 dX4_allowsAs_136 rfl rfl ?_
            refine Vm.gX (n := 140) dX4_allowsAs_137 rfl wf_RX4_15 (ink ik_4 (by omega)) rfl (by decide) rfl (by decide) ?_
            refine Vm.icmp_lt (n := 143) 147 dX4_allowsAs_140 rfl rfl (fun c9 => ?_) (fun c9 => ?_)
            · replace h := (if_pos c9).symm.trans h
              refine Vm.iconst (n := 148) (v := (0 : Int32)) dX4_allowsAs_147 rfl (by decide) ?_
              obtain rfl := Option.some.inj h
              exact Vm.zret (b := false) dX4_allowsAs_148 rfl rfl hk.1 (by rw [hσ]; exact hk.2.symm)
            · replace h := (if_neg c9).symm.trans h
              refine Vm.iconst (n := 144) (v := (1 : Int32)) dX4_allowsAs_143 rfl (by decide) ?_
              refine Vm.goto 148 dX4_allowsAs_144 rfl ?_
              obtain rfl := Option.some.inj h
              exact Vm.zret (b := true) dX4_allowsAs_148 rfl rfl hk.1 (by rw [hσ]; exact hk.2.symm)
theorem kX4_allowsAs (a0 : Nat) (ha0 : a0 < 24) (a1 : Int32) (a2 : Int32) (σ τ : mm) {q : Bool} (h : fX4_allowsAs a0 a1 a2 σ = some q) : Cx mX4_allowsAs 1 [.inr (.inr (4, a0)), .inl a1, .inl a2] (σ, τ) (some (.inl (bi q))) (σ, τ) :=
  Cx.of (lv := [(0, .inr (.inr (4, a0))), (1, .inl a1), (2, .inl a2)]) (by decide) (fun ad => Nat.le_of_ble_eq_true rfl) (fun ad => rfl) (lX4_allowsAs_0 a0 ha0 a1 a2 σ σ τ rfl h ⟨rfl, rfl⟩)
-- ThinBodies$Row allows (I)Z
def fX4_allows_0 (a0 : Nat) (a1 : Int32) (σ : mm) : Option (Bool) :=
  Option.bind (fX4_allowsAs a0 (σ.1 4 a0 0) a1 σ) fun q1 =>
  some (q1)
def fX4_allows (a0 : Nat) (a1 : Int32) (σ : mm) : Option (Bool) := fX4_allows_0 a0 a1 σ
set_option maxRecDepth 20000 in
theorem lX4_allows_0 (a0 : Nat) (ha0 : a0 < 24) (a1 : Int32) (σ σ0 τ : mm) (hσ : σ = σ0) {r : Option mv} {M' : mm × mm} {v9 : Bool} (h : fX4_allows_0 a0 a1 σ = some v9) (hk : (fun q : Bool => r = some (.inl (bi q)) ∧ M' = (σ0, τ)) v9) : Vm mX4_allows 2 0 [(0, .inr (.inr (4, a0))), (1, .inl a1)] [] (σ, τ) r M' := by
  unfold fX4_allows_0 at h
  refine Vm.aload_n (n := 1) 0 dX4_allows_0 rfl rfl ?_
  refine Vm.aload_n (n := 2) 0 dX4_allows_1 rfl rfl ?_
  refine Vm.gX (n := 5) dX4_allows_2 rfl wf_RX4_9 (ink ik_4 (by omega)) rfl (by decide) rfl (by decide) ?_
  refine Vm.iload_n (n := 6) 1 dX4_allows_5 rfl rfl ?_
  replace h := Option.bind_eq_some_iff.mp h
  obtain ⟨q1, h1, h⟩ := h
  refine Vm.callV (Y := mX4_allowsAs) (n := 9) [.inl (σ.1 4 a0 0), .inl a1] dX4_allows_6 rfl wv_RX4_38 omX4_allowsAs rfl (ink ik_4 (by omega)) rfl rfl rfl (Nat.le_of_ble_eq_true rfl) (by decide) (kX4_allowsAs a0 (by omega) (σ.1 4 a0 0) a1 σ τ h1) ?_
  obtain rfl := Option.some.inj h
  exact Vm.zret (b := q1) dX4_allows_9 rfl rfl hk.1 (by rw [hσ]; exact hk.2.symm)
theorem kX4_allows (a0 : Nat) (ha0 : a0 < 24) (a1 : Int32) (σ τ : mm) {q : Bool} (h : fX4_allows a0 a1 σ = some q) : Cx mX4_allows 2 [.inr (.inr (4, a0)), .inl a1] (σ, τ) (some (.inl (bi q))) (σ, τ) :=
  Cx.of (lv := [(0, .inr (.inr (4, a0))), (1, .inl a1)]) (by decide) (fun ad => Nat.le_of_ble_eq_true rfl) (fun ad => rfl) (lX4_allows_0 a0 ha0 a1 σ σ τ rfl h ⟨rfl, rfl⟩)
-- ThinBodies$Body brokenIn ([I)I
noncomputable def fX0_brokenIn_13_44 (a0 : Nat) (a2 : Int32) (a3 : Int32) (σ : mm) : Option ((Int32 × Int32) ⊕ (Int32)) :=
  Option.bind (some (a3 + (1 : Int32))) fun x1 =>
  some (.inl (a2, x1))
noncomputable def fX0_brokenIn_13_4 (a0 : Nat) (a2 : Int32) (a3 : Int32) (σ : mm) : Option ((Int32 × Int32) ⊕ (Int32)) :=
  if (σ.1 0 a0 4) ≤ a3 then
  some (.inr (a2))
  else
  Option.bind (rdR 8 a3) fun k1 =>
  Option.bind (rdR 8 a3) fun k2 =>
  Option.bind (fX4_sumIn_13 (8 * a0 + k2) (σ.1 0 a0 0) σ) fun q3 =>
  Option.bind (fX4_allows (8 * a0 + k1) q3 σ) fun q4 =>
  if (bi q4) = (0 : Int32) then
  Option.bind (some (a2 ||| ((1 : Int32) <<< (a3 &&& 31)))) fun x5 =>
  fX0_brokenIn_13_44 a0 x5 a3 σ
  else
  fX0_brokenIn_13_44 a0 a2 a3 σ
noncomputable def fX0_brokenIn_13_4_L (a0 : Nat) (σ : mm) : Int32 × Int32 → Option ((Int32 × Int32) ⊕ (Int32)) := fun z => fX0_brokenIn_13_4 a0 z.1 z.2 σ
noncomputable def fX0_brokenIn_13_0 (a0 : Nat) (σ : mm) : Option (Int32) :=
  lp (fX0_brokenIn_13_4_L a0 σ) ((0 : Int32), (0 : Int32))
noncomputable def fX0_brokenIn_13 (a0 : Nat) (σ : mm) : Option (Int32) := fX0_brokenIn_13_0 a0 σ
set_option maxRecDepth 20000 in
theorem lX0_brokenIn_13_44 (a0 : Nat) (ha0 : a0 < 3) (a2 : Int32) (a3 : Int32) (σ σ0 τ : mm) (hσ : σ = σ0) {r : Option mv} {M' : mm × mm} {v9 : (Int32 × Int32) ⊕ (Int32)} (h : fX0_brokenIn_13_44 a0 a2 a3 σ = some v9) (hk : (Sum.elim (fun z : Int32 × Int32 => Vm mX0_brokenIn 3 4 [(0, .inr (.inr (0, a0))), (1, .inr (.inr (13, 0))), (2, .inl z.1), (3, .inl z.2)] [] (σ, τ) r M') (fun q : Int32 => r = some (.inl q) ∧ M' = (σ0, τ))) v9) : Vm mX0_brokenIn 3 44 [(0, .inr (.inr (0, a0))), (1, .inr (.inr (13, 0))), (2, .inl a2), (3, .inl a3)] [] (σ, τ) r M' := by
  unfold fX0_brokenIn_13_44 at h
  replace h := Option.bind_eq_some_iff.mp h
  obtain ⟨x1, e1, h⟩ := h
  replace e1 := Option.some.inj e1
  refine Vm.iinc (n := 47) (v := x1) (lv' := [(3, .inl x1), (0, .inr (.inr (0, a0))), (1, .inr (.inr (13, 0))), (2, .inl a2)]) 3 dX0_brokenIn_44 rfl rfl e1 (Nat.le_of_ble_eq_true rfl) rfl ?_
  refine Vm.goto 4 dX0_brokenIn_47 rfl ?_
  refine Vm.sub (lv' := [(0, .inr (.inr (0, a0))), (1, .inr (.inr (13, 0))), (2, .inl a2), (3, .inl x1)]) [1, 2, 3, 0] rfl ?_
  obtain rfl := Option.some.inj h
  exact hk
set_option maxRecDepth 20000 in
theorem lX0_brokenIn_13_4 (a0 : Nat) (ha0 : a0 < 3) (a2 : Int32) (a3 : Int32) (σ σ0 τ : mm) (hσ : σ = σ0) {r : Option mv} {M' : mm × mm} {v9 : (Int32 × Int32) ⊕ (Int32)} (h : fX0_brokenIn_13_4 a0 a2 a3 σ = some v9) (hk : (Sum.elim (fun z : Int32 × Int32 => Vm mX0_brokenIn 3 4 [(0, .inr (.inr (0, a0))), (1, .inr (.inr (13, 0))), (2, .inl z.1), (3, .inl z.2)] [] (σ, τ) r M') (fun q : Int32 => r = some (.inl q) ∧ M' = (σ0, τ))) v9) : Vm mX0_brokenIn 3 4 [(0, .inr (.inr (0, a0))), (1, .inr (.inr (13, 0))), (2, .inl a2), (3, .inl a3)] [] (σ, τ) r M' := by
  unfold fX0_brokenIn_13_4 at h
  refine Vm.iload_n (n := 5) 3 dX0_brokenIn_4 rfl rfl ?_
  refine Vm.aload_n (n := 6) 0 dX0_brokenIn_5 rfl rfl ?_
  refine Vm.gX (n := 9) dX0_brokenIn_6 rfl wf_RX0_28 (ink ik_0 (by omega)) rfl (by decide) rfl (by decide) ?_
  refine Vm.icmp_ge (n := 12) 50 dX0_brokenIn_9 rfl rfl (fun c9 => ?_) (fun c9 => ?_)
  · replace h := (if_pos c9).symm.trans h
    refine Vm.iload_n (n := 51) 2 dX0_brokenIn_50 rfl rfl ?_
    obtain rfl := Option.some.inj h
    exact Vm.iret dX0_brokenIn_51 rfl hk.1 (by rw [hσ]; exact hk.2.symm)
  · replace h := (if_neg c9).symm.trans h
    refine Vm.aload_n (n := 13) 0 dX0_brokenIn_12 rfl rfl ?_
    refine Vm.getR (n := 16) dX0_brokenIn_13 rfl wf_RX0_24 (ink ik_0 (by omega)) rfl (by decide) rfl ?_
    refine Vm.iload_n (n := 17) 3 dX0_brokenIn_16 rfl rfl ?_
    replace h := Option.bind_eq_some_iff.mp h
    obtain ⟨k1, h1, h⟩ := h
    refine Vm.aald (n := 18) dX0_brokenIn_17 rfl (ink ik_27 (by omega)) rfl rfl (by decide) (fun _ => rfl) rfl h1 ?_
    have g1 := rdR_lt h1
    refine Vm.aload_n (n := 19) 0 dX0_brokenIn_18 rfl rfl ?_
    refine Vm.getR (n := 22) dX0_brokenIn_19 rfl wf_RX0_24 (ink ik_0 (by omega)) rfl (by decide) rfl ?_
    refine Vm.iload_n (n := 23) 3 dX0_brokenIn_22 rfl rfl ?_
    replace h := Option.bind_eq_some_iff.mp h
    obtain ⟨k2, h2, h⟩ := h
    refine Vm.aald (n := 24) dX0_brokenIn_23 rfl (ink ik_27 (by omega)) rfl rfl (by decide) (fun _ => rfl) rfl h2 ?_
    have g2 := rdR_lt h2
    refine Vm.aload_n (n := 25) 1 dX0_brokenIn_24 rfl rfl ?_
    refine Vm.aload_n (n := 26) 0 dX0_brokenIn_25 rfl rfl ?_
    refine Vm.gX (n := 29) dX0_brokenIn_26 rfl wf_RX0_9 (ink ik_0 (by omega)) rfl (by decide) rfl (by decide) ?_
    replace h := Option.bind_eq_some_iff.mp h
    obtain ⟨q3, h3, h⟩ := h
    refine Vm.callV (Y := mX4_sumIn) (n := 32) [.inr (.inr (13, 0)), .inl (σ.1 0 a0 0)] dX0_brokenIn_29 rfl wv_RX0_58 omX4_sumIn rfl (ink ik_4 (by omega)) rfl rfl rfl (Nat.le_of_ble_eq_true rfl) (by decide) (kX4_sumIn_13 (8 * a0 + k2) (by omega) (σ.1 0 a0 0) σ τ h3) ?_
    replace h := Option.bind_eq_some_iff.mp h
    obtain ⟨q4, h4, h⟩ := h
    refine Vm.callV (Y := mX4_allows) (n := 35) [.inl q3] dX0_brokenIn_32 rfl wv_RX0_62 omX4_allows rfl (ink ik_4 (by omega)) rfl rfl rfl (Nat.le_of_ble_eq_true rfl) (by decide) (kX4_allows (8 * a0 + k1) (by omega) q3 σ τ h4) ?_
    refine Vm.if_ne (n := 38) 44 dX0_brokenIn_35 rfl rfl (fun c9 => ?_) (fun c9 => ?_)
    · replace h := (if_neg c9).symm.trans h
      exact lX0_brokenIn_13_44 a0 (by omega) a2 a3 σ σ0 τ hσ h hk
    · replace h := (if_pos c9).symm.trans h
      refine Vm.iload_n (n := 39) 2 dX0_brokenIn_38 rfl rfl ?_
      refine Vm.iconst (n := 40) (v := (1 : Int32)) dX0_brokenIn_39 rfl (by decide) ?_
      refine Vm.iload_n (n := 41) 3 dX0_brokenIn_40 rfl rfl ?_
      refine Vm.ishl (n := 42) dX0_brokenIn_41 rfl ?_
      refine Vm.ior (n := 43) dX0_brokenIn_42 rfl ?_
      replace h := Option.bind_eq_some_iff.mp h
      obtain ⟨x5, e5, h⟩ := h
      replace e5 := Option.some.inj e5
      refine Vm.top e5 ?_
      refine Vm.istore_n (n := 44) (lv' := [(2, .inl x5), (0, .inr (.inr (0, a0))), (1, .inr (.inr (13, 0))), (3, .inl a3)]) dX0_brokenIn_43 rfl (Nat.le_of_ble_eq_true rfl) rfl ?_
      refine Vm.sub (lv' := [(0, .inr (.inr (0, a0))), (1, .inr (.inr (13, 0))), (2, .inl x5), (3, .inl a3)]) [1, 2, 0, 3] rfl ?_
      exact lX0_brokenIn_13_44 a0 (by omega) x5 a3 σ σ0 τ hσ h hk
theorem lX0_brokenIn_13_4_L (a0 : Nat) (ha0 : a0 < 3) (σ σ0 τ : mm) (hσ : σ = σ0) {r : Option mv} {M' : mm × mm} (z : Int32 × Int32) (w9 : Int32) (h : lp (fX0_brokenIn_13_4_L a0 σ) z = some w9) (hk : (fun q : Int32 => r = some (.inl q) ∧ M' = (σ0, τ)) w9) : Vm mX0_brokenIn 3 4 [(0, .inr (.inr (0, a0))), (1, .inr (.inr (13, 0))), (2, .inl z.1), (3, .inl z.2)] [] (σ, τ) r M' :=
  lp_link (S := Int32 × Int32) (R := Int32) (body := fX0_brokenIn_13_4_L a0 σ) (A := fun z : Int32 × Int32 => Vm mX0_brokenIn 3 4 [(0, .inr (.inr (0, a0))), (1, .inr (.inr (13, 0))), (2, .inl z.1), (3, .inl z.2)] [] (σ, τ) r M') (B := fun w : Int32 => (fun q : Int32 => r = some (.inl q) ∧ M' = (σ0, τ)) w) (fun z v hb hv => lX0_brokenIn_13_4 a0 ha0 z.1 z.2 σ σ0 τ hσ hb hv) z w9 h hk
set_option maxRecDepth 20000 in
theorem lX0_brokenIn_13_0 (a0 : Nat) (ha0 : a0 < 3) (σ σ0 τ : mm) (hσ : σ = σ0) {r : Option mv} {M' : mm × mm} {v9 : Int32} (h : fX0_brokenIn_13_0 a0 σ = some v9) (hk : (fun q : Int32 => r = some (.inl q) ∧ M' = (σ0, τ)) v9) : Vm mX0_brokenIn 3 0 [(0, .inr (.inr (0, a0))), (1, .inr (.inr (13, 0)))] [] (σ, τ) r M' := by
  unfold fX0_brokenIn_13_0 at h
  refine Vm.iconst (n := 1) (v := (0 : Int32)) dX0_brokenIn_0 rfl (by decide) ?_
  refine Vm.istore_n (n := 2) (lv' := [(2, .inl (0 : Int32)), (0, .inr (.inr (0, a0))), (1, .inr (.inr (13, 0)))]) dX0_brokenIn_1 rfl (Nat.le_of_ble_eq_true rfl) rfl ?_
  refine Vm.iconst (n := 3) (v := (0 : Int32)) dX0_brokenIn_2 rfl (by decide) ?_
  refine Vm.istore_n (n := 4) (lv' := [(3, .inl (0 : Int32)), (2, .inl (0 : Int32)), (0, .inr (.inr (0, a0))), (1, .inr (.inr (13, 0)))]) dX0_brokenIn_3 rfl (Nat.le_of_ble_eq_true rfl) rfl ?_
  refine Vm.sub (lv' := [(0, .inr (.inr (0, a0))), (1, .inr (.inr (13, 0))), (2, .inl (0 : Int32)), (3, .inl (0 : Int32))]) [2, 3, 1, 0] rfl ?_
  exact lX0_brokenIn_13_4_L a0 (by omega) σ σ0 τ hσ ((0 : Int32), (0 : Int32)) _ h hk
theorem kX0_brokenIn_13 (a0 : Nat) (ha0 : a0 < 3) (σ τ : mm) {q : Int32} (h : fX0_brokenIn_13 a0 σ = some q) : Cx mX0_brokenIn 3 [.inr (.inr (0, a0)), .inr (.inr (13, 0))] (σ, τ) (some (.inl q)) (σ, τ) :=
  Cx.of (lv := [(0, .inr (.inr (0, a0))), (1, .inr (.inr (13, 0)))]) (by decide) (fun ad => Nat.le_of_ble_eq_true rfl) (fun ad => rfl) (lX0_brokenIn_13_0 a0 ha0 σ σ τ rfl h ⟨rfl, rfl⟩)
-- ThinBodies pack ([II)I
noncomputable def fX7_pack_13_4 (a1 : Int32) (a2 : Int32) (a3 : Int32) (σ : mm) : Option ((Int32 × Int32) ⊕ (Int32)) :=
  if a1 ≤ a3 then
  some (.inr (a2))
  else
  Option.bind (rdI σ 13 0 4 a3) fun x1 =>
  Option.bind (some (a2 ||| ((x1 + (9 : Int32)) <<< (((5 : Int32) * a3) &&& 31)))) fun x2 =>
  Option.bind (some (a3 + (1 : Int32))) fun x3 =>
  some (.inl (x2, x3))
noncomputable def fX7_pack_13_4_L (a1 : Int32) (σ : mm) : Int32 × Int32 → Option ((Int32 × Int32) ⊕ (Int32)) := fun z => fX7_pack_13_4 a1 z.1 z.2 σ
noncomputable def fX7_pack_13_0 (a1 : Int32) (σ : mm) : Option (Int32) :=
  lp (fX7_pack_13_4_L a1 σ) ((0 : Int32), (0 : Int32))
noncomputable def fX7_pack_13 (a1 : Int32) (σ : mm) : Option (Int32) := fX7_pack_13_0 a1 σ
set_option maxRecDepth 20000 in
theorem lX7_pack_13_4 (a1 : Int32) (a2 : Int32) (a3 : Int32) (σ σ0 τ : mm) (hσ : σ = σ0) {r : Option mv} {M' : mm × mm} {v9 : (Int32 × Int32) ⊕ (Int32)} (h : fX7_pack_13_4 a1 a2 a3 σ = some v9) (hk : (Sum.elim (fun z : Int32 × Int32 => Vm mX7_pack 0 4 [(0, .inr (.inr (13, 0))), (1, .inl a1), (2, .inl z.1), (3, .inl z.2)] [] (σ, τ) r M') (fun q : Int32 => r = some (.inl q) ∧ M' = (σ0, τ))) v9) : Vm mX7_pack 0 4 [(0, .inr (.inr (13, 0))), (1, .inl a1), (2, .inl a2), (3, .inl a3)] [] (σ, τ) r M' := by
  unfold fX7_pack_13_4 at h
  refine Vm.iload_n (n := 5) 3 dX7_pack_4 rfl rfl ?_
  refine Vm.iload_n (n := 6) 1 dX7_pack_5 rfl rfl ?_
  refine Vm.icmp_ge (n := 9) 28 dX7_pack_6 rfl rfl (fun c9 => ?_) (fun c9 => ?_)
  · replace h := (if_pos c9).symm.trans h
    refine Vm.iload_n (n := 29) 2 dX7_pack_28 rfl rfl ?_
    obtain rfl := Option.some.inj h
    exact Vm.iret dX7_pack_29 rfl hk.1 (by rw [hσ]; exact hk.2.symm)
  · replace h := (if_neg c9).symm.trans h
    refine Vm.iload_n (n := 10) 2 dX7_pack_9 rfl rfl ?_
    refine Vm.aload_n (n := 11) 0 dX7_pack_10 rfl rfl ?_
    refine Vm.iload_n (n := 12) 3 dX7_pack_11 rfl rfl ?_
    replace h := Option.bind_eq_some_iff.mp h
    obtain ⟨x1, h1, h⟩ := h
    refine Vm.ialdx (n := 13) dX7_pack_12 rfl in_13 rfl rfl (by decide) h1 ?_
    refine Vm.bipush (n := 15) (v := (9 : Int32)) dX7_pack_13 rfl (by decide) ?_
    refine Vm.iadd (n := 16) dX7_pack_15 rfl ?_
    refine Vm.iconst (n := 17) (v := (5 : Int32)) dX7_pack_16 rfl (by decide) ?_
    refine Vm.iload_n (n := 18) 3 dX7_pack_17 rfl rfl ?_
    refine Vm.imul (n := 19) dX7_pack_18 rfl ?_
    refine Vm.ishl (n := 20) dX7_pack_19 rfl ?_
    refine Vm.ior (n := 21) dX7_pack_20 rfl ?_
    replace h := Option.bind_eq_some_iff.mp h
    obtain ⟨x2, e2, h⟩ := h
    replace e2 := Option.some.inj e2
    refine Vm.top e2 ?_
    refine Vm.istore_n (n := 22) (lv' := [(2, .inl x2), (0, .inr (.inr (13, 0))), (1, .inl a1), (3, .inl a3)]) dX7_pack_21 rfl (Nat.le_of_ble_eq_true rfl) rfl ?_
    replace h := Option.bind_eq_some_iff.mp h
    obtain ⟨x3, e3, h⟩ := h
    replace e3 := Option.some.inj e3
    refine Vm.iinc (n := 25) (v := x3) (lv' := [(3, .inl x3), (2, .inl x2), (0, .inr (.inr (13, 0))), (1, .inl a1)]) 3 dX7_pack_22 rfl rfl e3 (Nat.le_of_ble_eq_true rfl) rfl ?_
    refine Vm.goto 4 dX7_pack_25 rfl ?_
    refine Vm.sub (lv' := [(0, .inr (.inr (13, 0))), (1, .inl a1), (2, .inl x2), (3, .inl x3)]) [2, 3, 1, 0] rfl ?_
    obtain rfl := Option.some.inj h
    exact hk
theorem lX7_pack_13_4_L (a1 : Int32) (σ σ0 τ : mm) (hσ : σ = σ0) {r : Option mv} {M' : mm × mm} (z : Int32 × Int32) (w9 : Int32) (h : lp (fX7_pack_13_4_L a1 σ) z = some w9) (hk : (fun q : Int32 => r = some (.inl q) ∧ M' = (σ0, τ)) w9) : Vm mX7_pack 0 4 [(0, .inr (.inr (13, 0))), (1, .inl a1), (2, .inl z.1), (3, .inl z.2)] [] (σ, τ) r M' :=
  lp_link (S := Int32 × Int32) (R := Int32) (body := fX7_pack_13_4_L a1 σ) (A := fun z : Int32 × Int32 => Vm mX7_pack 0 4 [(0, .inr (.inr (13, 0))), (1, .inl a1), (2, .inl z.1), (3, .inl z.2)] [] (σ, τ) r M') (B := fun w : Int32 => (fun q : Int32 => r = some (.inl q) ∧ M' = (σ0, τ)) w) (fun z v hb hv => lX7_pack_13_4 a1 z.1 z.2 σ σ0 τ hσ hb hv) z w9 h hk
set_option maxRecDepth 20000 in
theorem lX7_pack_13_0 (a1 : Int32) (σ σ0 τ : mm) (hσ : σ = σ0) {r : Option mv} {M' : mm × mm} {v9 : Int32} (h : fX7_pack_13_0 a1 σ = some v9) (hk : (fun q : Int32 => r = some (.inl q) ∧ M' = (σ0, τ)) v9) : Vm mX7_pack 0 0 [(0, .inr (.inr (13, 0))), (1, .inl a1)] [] (σ, τ) r M' := by
  unfold fX7_pack_13_0 at h
  refine Vm.iconst (n := 1) (v := (0 : Int32)) dX7_pack_0 rfl (by decide) ?_
  refine Vm.istore_n (n := 2) (lv' := [(2, .inl (0 : Int32)), (0, .inr (.inr (13, 0))), (1, .inl a1)]) dX7_pack_1 rfl (Nat.le_of_ble_eq_true rfl) rfl ?_
  refine Vm.iconst (n := 3) (v := (0 : Int32)) dX7_pack_2 rfl (by decide) ?_
  refine Vm.istore_n (n := 4) (lv' := [(3, .inl (0 : Int32)), (2, .inl (0 : Int32)), (0, .inr (.inr (13, 0))), (1, .inl a1)]) dX7_pack_3 rfl (Nat.le_of_ble_eq_true rfl) rfl ?_
  refine Vm.sub (lv' := [(0, .inr (.inr (13, 0))), (1, .inl a1), (2, .inl (0 : Int32)), (3, .inl (0 : Int32))]) [2, 3, 1, 0] rfl ?_
  exact lX7_pack_13_4_L a1 σ σ0 τ hσ ((0 : Int32), (0 : Int32)) _ h hk
theorem kX7_pack_13 (a1 : Int32) (σ τ : mm) {q : Int32} (h : fX7_pack_13 a1 σ = some q) : Cx mX7_pack 0 [.inr (.inr (13, 0)), .inl a1] (σ, τ) (some (.inl q)) (σ, τ) :=
  Cx.of (lv := [(0, .inr (.inr (13, 0))), (1, .inl a1)]) (by decide) (fun ad => Nat.le_of_ble_eq_true rfl) (fun ad => rfl) (lX7_pack_13_0 a1 σ σ τ rfl h ⟨rfl, rfl⟩)
-- ThinBodies$Cloud stepOn (LThinBodies$Body;)V
noncomputable def fX1_stepOn_7 (a1 : Nat) (a2 : Int32) (σ : mm) : Option ((Int32 × mm) ⊕ (mm)) :=
  if a2 < (0 : Int32) then
  some (.inr (σ))
  else
  Option.bind (rdI σ 13 0 4 a2) fun x1 =>
  Option.bind (rdI σ 9 a1 4 a2) fun x2 =>
  if x2 ≤ x1 then
  Option.bind (rdI σ 8 a1 4 a2) fun x3 =>
  Option.bind (wrI σ 13 0 4 a2 x3) fun σ4 =>
  Option.bind (some (a2 + (-1 : Int32))) fun x5 =>
  some (.inl (x5, σ4))
  else
  Option.bind (rdI σ 13 0 4 a2) fun x6 =>
  Option.bind (wrI σ 13 0 4 a2 (x6 + (1 : Int32))) fun σ7 =>
  some (.inr (σ7))
noncomputable def fX1_stepOn_7_L (a1 : Nat) : Int32 × mm → Option ((Int32 × mm) ⊕ (mm)) := fun z => fX1_stepOn_7 a1 z.1 z.2
noncomputable def fX1_stepOn_0 (a1 : Nat) (σ : mm) : Option (mm) :=
  Option.bind (some ((σ.1 0 a1 0) - (1 : Int32))) fun x1 =>
  lp (fX1_stepOn_7_L a1) (x1, σ)
noncomputable def fX1_stepOn (a1 : Nat) (σ : mm) : Option (mm) := fX1_stepOn_0 a1 σ
set_option maxRecDepth 20000 in
theorem lX1_stepOn_7 (a1 : Nat) (ha1 : a1 < 3) (a2 : Int32) (σ τ : mm) {r : Option mv} {M' : mm × mm} {v9 : (Int32 × mm) ⊕ (mm)} (h : fX1_stepOn_7 a1 a2 σ = some v9) (hk : (Sum.elim (fun z : Int32 × mm => Vm mX1_stepOn 0 7 [(0, .inr (.inr (1, 0))), (1, .inr (.inr (0, a1))), (2, .inl z.1)] [] (z.2, τ) r M') (fun q : mm => r = none ∧ M' = (q, τ))) v9) : Vm mX1_stepOn 0 7 [(0, .inr (.inr (1, 0))), (1, .inr (.inr (0, a1))), (2, .inl a2)] [] (σ, τ) r M' := by
  unfold fX1_stepOn_7 at h
  refine Vm.iload_n (n := 8) 2 dX1_stepOn_7 rfl rfl ?_
  refine Vm.if_lt (n := 11) 55 dX1_stepOn_8 rfl rfl (fun c9 => ?_) (fun c9 => ?_)
  · replace h := (if_pos c9).symm.trans h
    obtain rfl := Option.some.inj h
    exact Vm.vret dX1_stepOn_55 rfl hk.1 hk.2.symm
  · replace h := (if_neg c9).symm.trans h
    refine Vm.aload_n (n := 12) 0 dX1_stepOn_11 rfl rfl ?_
    refine Vm.getR (n := 15) dX1_stepOn_12 rfl wf_RX1_41 in_1 rfl (by decide) rfl ?_
    refine Vm.iload_n (n := 16) 2 dX1_stepOn_15 rfl rfl ?_
    replace h := Option.bind_eq_some_iff.mp h
    obtain ⟨x1, h1, h⟩ := h
    refine Vm.ialdx (n := 17) dX1_stepOn_16 rfl in_13 rfl rfl (by decide) h1 ?_
    refine Vm.aload_n (n := 18) 1 dX1_stepOn_17 rfl rfl ?_
    refine Vm.getR (n := 21) dX1_stepOn_18 rfl wf_RX1_83 (ink ik_0 (by omega)) rfl (by decide) rfl ?_
    refine Vm.iload_n (n := 22) 2 dX1_stepOn_21 rfl rfl ?_
    replace h := Option.bind_eq_some_iff.mp h
    obtain ⟨x2, h2, h⟩ := h
    refine Vm.ialdx (n := 23) dX1_stepOn_22 rfl (ink ik_9 (by omega)) rfl rfl (by decide) h2 ?_
    refine Vm.icmp_ge (n := 26) 37 dX1_stepOn_23 rfl rfl (fun c9 => ?_) (fun c9 => ?_)
    · replace h := (if_pos c9).symm.trans h
      refine Vm.aload_n (n := 38) 0 dX1_stepOn_37 rfl rfl ?_
      refine Vm.getR (n := 41) dX1_stepOn_38 rfl wf_RX1_41 in_1 rfl (by decide) rfl ?_
      refine Vm.iload_n (n := 42) 2 dX1_stepOn_41 rfl rfl ?_
      refine Vm.aload_n (n := 43) 1 dX1_stepOn_42 rfl rfl ?_
      refine Vm.getR (n := 46) dX1_stepOn_43 rfl wf_RX1_59 (ink ik_0 (by omega)) rfl (by decide) rfl ?_
      refine Vm.iload_n (n := 47) 2 dX1_stepOn_46 rfl rfl ?_
      replace h := Option.bind_eq_some_iff.mp h
      obtain ⟨x3, h3, h⟩ := h
      refine Vm.ialdx (n := 48) dX1_stepOn_47 rfl (ink ik_8 (by omega)) rfl rfl (by decide) h3 ?_
      replace h := Option.bind_eq_some_iff.mp h
      obtain ⟨σ4, h4, h⟩ := h
      refine Vm.iastx (n := 49) dX1_stepOn_48 rfl in_13 rfl rfl (by decide) h4 ?_
      replace h := Option.bind_eq_some_iff.mp h
      obtain ⟨x5, e5, h⟩ := h
      replace e5 := Option.some.inj e5
      refine Vm.iinc (n := 52) (v := x5) (lv' := [(2, .inl x5), (0, .inr (.inr (1, 0))), (1, .inr (.inr (0, a1)))]) 2 dX1_stepOn_49 rfl rfl e5 (Nat.le_of_ble_eq_true rfl) rfl ?_
      refine Vm.goto 7 dX1_stepOn_52 rfl ?_
      refine Vm.sub (lv' := [(0, .inr (.inr (1, 0))), (1, .inr (.inr (0, a1))), (2, .inl x5)]) [1, 2, 0] rfl ?_
      obtain rfl := Option.some.inj h
      exact hk
    · replace h := (if_neg c9).symm.trans h
      refine Vm.aload_n (n := 27) 0 dX1_stepOn_26 rfl rfl ?_
      refine Vm.getR (n := 30) dX1_stepOn_27 rfl wf_RX1_41 in_1 rfl (by decide) rfl ?_
      refine Vm.iload_n (n := 31) 2 dX1_stepOn_30 rfl rfl ?_
      refine Vm.dup2 (n := 32) dX1_stepOn_31 rfl rfl rfl ?_
      replace h := Option.bind_eq_some_iff.mp h
      obtain ⟨x6, h6, h⟩ := h
      refine Vm.ialdx (n := 33) dX1_stepOn_32 rfl in_13 rfl rfl (by decide) h6 ?_
      refine Vm.iconst (n := 34) (v := (1 : Int32)) dX1_stepOn_33 rfl (by decide) ?_
      refine Vm.iadd (n := 35) dX1_stepOn_34 rfl ?_
      replace h := Option.bind_eq_some_iff.mp h
      obtain ⟨σ7, h7, h⟩ := h
      refine Vm.iastx (n := 36) dX1_stepOn_35 rfl in_13 rfl rfl (by decide) h7 ?_
      obtain rfl := Option.some.inj h
      exact Vm.vret dX1_stepOn_36 rfl hk.1 hk.2.symm
theorem lX1_stepOn_7_L (a1 : Nat) (ha1 : a1 < 3) (τ : mm) {r : Option mv} {M' : mm × mm} (z : Int32 × mm) (w9 : mm) (h : lp (fX1_stepOn_7_L a1) z = some w9) (hk : (fun q : mm => r = none ∧ M' = (q, τ)) w9) : Vm mX1_stepOn 0 7 [(0, .inr (.inr (1, 0))), (1, .inr (.inr (0, a1))), (2, .inl z.1)] [] (z.2, τ) r M' :=
  lp_link (S := Int32 × mm) (R := mm) (body := fX1_stepOn_7_L a1) (A := fun z : Int32 × mm => Vm mX1_stepOn 0 7 [(0, .inr (.inr (1, 0))), (1, .inr (.inr (0, a1))), (2, .inl z.1)] [] (z.2, τ) r M') (B := fun w : mm => (fun q : mm => r = none ∧ M' = (q, τ)) w) (fun z v hb hv => lX1_stepOn_7 a1 ha1 z.1 z.2 τ hb hv) z w9 h hk
set_option maxRecDepth 20000 in
theorem lX1_stepOn_0 (a1 : Nat) (ha1 : a1 < 3) (σ τ : mm) {r : Option mv} {M' : mm × mm} {v9 : mm} (h : fX1_stepOn_0 a1 σ = some v9) (hk : (fun q : mm => r = none ∧ M' = (q, τ)) v9) : Vm mX1_stepOn 0 0 [(0, .inr (.inr (1, 0))), (1, .inr (.inr (0, a1)))] [] (σ, τ) r M' := by
  unfold fX1_stepOn_0 at h
  refine Vm.aload_n (n := 1) 1 dX1_stepOn_0 rfl rfl ?_
  refine Vm.gX (n := 4) dX1_stepOn_1 rfl wf_RX1_72 (ink ik_0 (by omega)) rfl (by decide) rfl (by decide) ?_
  refine Vm.iconst (n := 5) (v := (1 : Int32)) dX1_stepOn_4 rfl (by decide) ?_
  refine Vm.isub (n := 6) dX1_stepOn_5 rfl ?_
  replace h := Option.bind_eq_some_iff.mp h
  obtain ⟨x1, e1, h⟩ := h
  replace e1 := Option.some.inj e1
  refine Vm.top e1 ?_
  refine Vm.istore_n (n := 7) (lv' := [(2, .inl x1), (0, .inr (.inr (1, 0))), (1, .inr (.inr (0, a1)))]) dX1_stepOn_6 rfl (Nat.le_of_ble_eq_true rfl) rfl ?_
  refine Vm.sub (lv' := [(0, .inr (.inr (1, 0))), (1, .inr (.inr (0, a1))), (2, .inl x1)]) [1, 2, 0] rfl ?_
  exact lX1_stepOn_7_L a1 (by omega) τ (x1, σ) _ h hk
theorem kX1_stepOn (a1 : Nat) (ha1 : a1 < 3) (σ τ : mm) {q : mm} (h : fX1_stepOn a1 σ = some q) : Cx mX1_stepOn 0 [.inr (.inr (1, 0)), .inr (.inr (0, a1))] (σ, τ) (none) (q, τ) :=
  Cx.of (lv := [(0, .inr (.inr (1, 0))), (1, .inr (.inr (0, a1)))]) (by decide) (fun ad => Nat.le_of_ble_eq_true rfl) (fun ad => rfl) (lX1_stepOn_0 a1 ha1 σ τ h ⟨rfl, rfl⟩)
-- ThinBodies$Cloud refresh (LThinBodies$Body;)V
noncomputable def fX1_refresh_84 (a1 : Nat) (a2 : Int32) (a3 : Int32) (s1 : Int32) (s2 : Int32) (σ : mm) : Option ((Int32 × mm) ⊕ (mm)) :=
  Option.bind (some (s1 + s2)) fun x1 =>
  Option.bind (some (stI σ 1 0 2 x1)) fun σ2 =>
  Option.bind (fX7_pack_13 (σ2.1 0 a1 0) σ2) fun q3 =>
  Option.bind (wrI σ2 12 0 4096 a2 (q3 ||| (a3 <<< ((20 : Int32) &&& 31)))) fun σ4 =>
  Option.bind (fX1_stepOn a1 σ4) fun q5 =>
  Option.bind (some (a2 + (1 : Int32))) fun x6 =>
  some (.inl (x6, q5))
noncomputable def fX1_refresh_53 (a1 : Nat) (a2 : Int32) (σ : mm) : Option ((Int32 × mm) ⊕ (mm)) :=
  if (σ.1 1 0 1) ≤ a2 then
  some (.inr (σ))
  else
  Option.bind (fX0_brokenIn_13 a1 σ) fun q1 =>
  if q1 = (0 : Int32) then
  fX1_refresh_84 a1 a2 q1 (σ.1 1 0 2) (1 : Int32) σ
  else
  fX1_refresh_84 a1 a2 q1 (σ.1 1 0 2) (0 : Int32) σ
noncomputable def fX1_refresh_53_L (a1 : Nat) : Int32 × mm → Option ((Int32 × mm) ⊕ (mm)) := fun z => fX1_refresh_53 a1 z.1 z.2
noncomputable def fX1_refresh_0 (a1 : Nat) (σ : mm) : Option (mm) :=
  if (σ.1 1 0 0) = (0 : Int32) then
  some (σ)
  else
  Option.bind (some (stI σ 1 0 0 (0 : Int32))) fun σ1 =>
  Option.bind (some (stI σ1 1 0 2 (0 : Int32))) fun σ2 =>
  Option.bind (some (stI σ2 1 0 7 (-1 : Int32))) fun σ3 =>
  Option.bind (fX0_points a1 σ3) fun q4 =>
  Option.bind (some ((fJ9_min_7cf53 q4 (4096 : Int32)))) fun x5 =>
  Option.bind (some (stI σ3 1 0 1 x5)) fun σ6 =>
  Option.bind (cpI σ6 8 a1 4 13 0 4 (0 : Int32) (0 : Int32) (4 : Int32)) fun σ7 =>
  lp (fX1_refresh_53_L a1) ((0 : Int32), σ7)
noncomputable def fX1_refresh (a1 : Nat) (σ : mm) : Option (mm) := fX1_refresh_0 a1 σ
set_option maxRecDepth 20000 in
theorem lX1_refresh_84 (a1 : Nat) (ha1 : a1 < 3) (a2 : Int32) (a3 : Int32) (s1 : Int32) (s2 : Int32) (σ τ : mm) {r : Option mv} {M' : mm × mm} {v9 : (Int32 × mm) ⊕ (mm)} (h : fX1_refresh_84 a1 a2 a3 s1 s2 σ = some v9) (hk : (Sum.elim (fun z : Int32 × mm => Vm mX1_refresh 4 53 [(0, .inr (.inr (1, 0))), (1, .inr (.inr (0, a1))), (2, .inl z.1)] [] (z.2, τ) r M') (fun q : mm => r = none ∧ M' = (q, τ))) v9) : Vm mX1_refresh 4 84 [(0, .inr (.inr (1, 0))), (1, .inr (.inr (0, a1))), (2, .inl a2), (3, .inl a3)] [.inl s2, .inl s1, .inr (.inr (1, 0))] (σ, τ) r M' := by
  unfold fX1_refresh_84 at h
  refine Vm.iadd (n := 85) dX1_refresh_84 rfl ?_
  replace h := Option.bind_eq_some_iff.mp h
  obtain ⟨x1, e1, h⟩ := h
  replace e1 := Option.some.inj e1
  refine Vm.top e1 ?_
  refine Vm.pX (n := 88) (ty := .int) dX1_refresh_85 rfl wf_RX1_19 in_1 rfl (by decide) rfl (by decide) rfl rfl rfl rfl ?_
  replace h := Option.bind_eq_some_iff.mp h
  obtain ⟨σ2, e2, h⟩ := h
  replace e2 := Option.some.inj e2
  refine Vm.mem (congrArg (fun z => (z, τ)) e2) ?_
  refine Vm.aload_n (n := 89) 0 dX1_refresh_88 rfl rfl ?_
  refine Vm.getR (n := 92) dX1_refresh_89 rfl wf_RX1_37 in_1 rfl (by decide) rfl ?_
  refine Vm.iload_n (n := 93) 2 dX1_refresh_92 rfl rfl ?_
  refine Vm.aload_n (n := 94) 0 dX1_refresh_93 rfl rfl ?_
  refine Vm.getR (n := 97) dX1_refresh_94 rfl wf_RX1_41 in_1 rfl (by decide) rfl ?_
  refine Vm.aload_n (n := 98) 1 dX1_refresh_97 rfl rfl ?_
  refine Vm.gX (n := 101) dX1_refresh_98 rfl wf_RX1_72 (ink ik_0 (by omega)) rfl (by decide) rfl (by decide) ?_
  replace h := Option.bind_eq_some_iff.mp h
  obtain ⟨q3, h3, h⟩ := h
  refine Vm.callN (Y := mX7_pack) (n := 104) [.inr (.inr (13, 0)), .inl (σ2.1 0 a1 0)] dX1_refresh_101 rfl wv_RX1_75 omX7_pack rfl rfl (Nat.le_of_ble_eq_true rfl) (by decide) (kX7_pack_13 (σ2.1 0 a1 0) σ2 τ h3) ?_
  refine Vm.iload_n (n := 105) 3 dX1_refresh_104 rfl rfl ?_
  refine Vm.bipush (n := 107) (v := (20 : Int32)) dX1_refresh_105 rfl (by decide) ?_
  refine Vm.ishl (n := 108) dX1_refresh_107 rfl ?_
  refine Vm.ior (n := 109) dX1_refresh_108 rfl ?_
  replace h := Option.bind_eq_some_iff.mp h
  obtain ⟨σ4, h4, h⟩ := h
  refine Vm.iastx (n := 110) dX1_refresh_109 rfl in_12 rfl rfl (by decide) h4 ?_
  refine Vm.aload_n (n := 111) 0 dX1_refresh_110 rfl rfl ?_
  refine Vm.aload_n (n := 112) 1 dX1_refresh_111 rfl rfl ?_
  replace h := Option.bind_eq_some_iff.mp h
  obtain ⟨q5, h5, h⟩ := h
  refine Vm.callVv (Y := mX1_stepOn) (n := 115) [.inr (.inr (0, a1))] dX1_refresh_112 rfl wv_RX1_79 omX1_stepOn rfl in_1 rfl rfl rfl (Nat.le_of_ble_eq_true rfl) (by decide) (kX1_stepOn a1 (by omega) σ4 τ h5) ?_
  replace h := Option.bind_eq_some_iff.mp h
  obtain ⟨x6, e6, h⟩ := h
  replace e6 := Option.some.inj e6
  refine Vm.iinc (n := 118) (v := x6) (lv' := [(2, .inl x6), (0, .inr (.inr (1, 0))), (1, .inr (.inr (0, a1))), (3, .inl a3)]) 2 dX1_refresh_115 rfl rfl e6 (Nat.le_of_ble_eq_true rfl) rfl ?_
  refine Vm.goto 53 dX1_refresh_118 rfl ?_
  refine Vm.sub (lv' := [(0, .inr (.inr (1, 0))), (1, .inr (.inr (0, a1))), (2, .inl x6)]) [1, 2, 0] rfl ?_
  obtain rfl := Option.some.inj h
  exact hk
set_option maxRecDepth 20000 in
theorem lX1_refresh_53 (a1 : Nat) (ha1 : a1 < 3) (a2 : Int32) (σ τ : mm) {r : Option mv} {M' : mm × mm} {v9 : (Int32 × mm) ⊕ (mm)} (h : fX1_refresh_53 a1 a2 σ = some v9) (hk : (Sum.elim (fun z : Int32 × mm => Vm mX1_refresh 4 53 [(0, .inr (.inr (1, 0))), (1, .inr (.inr (0, a1))), (2, .inl z.1)] [] (z.2, τ) r M') (fun q : mm => r = none ∧ M' = (q, τ))) v9) : Vm mX1_refresh 4 53 [(0, .inr (.inr (1, 0))), (1, .inr (.inr (0, a1))), (2, .inl a2)] [] (σ, τ) r M' := by
  unfold fX1_refresh_53 at h
  refine Vm.iload_n (n := 54) 2 dX1_refresh_53 rfl rfl ?_
  refine Vm.aload_n (n := 55) 0 dX1_refresh_54 rfl rfl ?_
  refine Vm.gX (n := 58) dX1_refresh_55 rfl wf_RX1_15 in_1 rfl (by decide) rfl (by decide) ?_
  refine Vm.icmp_ge (n := 61) 121 dX1_refresh_58 rfl rfl (fun c9 => ?_) (fun c9 => ?_)
  · replace h := (if_pos c9).symm.trans h
    obtain rfl := Option.some.inj h
    exact Vm.vret dX1_refresh_121 rfl hk.1 hk.2.symm
  · replace h := (if_neg c9).symm.trans h
    refine Vm.aload_n (n := 62) 1 dX1_refresh_61 rfl rfl ?_
    refine Vm.aload_n (n := 63) 0 dX1_refresh_62 rfl rfl ?_
    refine Vm.getR (n := 66) dX1_refresh_63 rfl wf_RX1_41 in_1 rfl (by decide) rfl ?_
    replace h := Option.bind_eq_some_iff.mp h
    obtain ⟨q1, h1, h⟩ := h
    refine Vm.callV (Y := mX0_brokenIn) (n := 69) [.inr (.inr (13, 0))] dX1_refresh_66 rfl wv_RX1_68 omX0_brokenIn rfl (ink ik_0 (by omega)) rfl rfl rfl (Nat.le_of_ble_eq_true rfl) (by decide) (kX0_brokenIn_13 a1 (by omega) σ τ h1) ?_
    refine Vm.istore_n (n := 70) (lv' := [(3, .inl q1), (0, .inr (.inr (1, 0))), (1, .inr (.inr (0, a1))), (2, .inl a2)]) dX1_refresh_69 rfl (Nat.le_of_ble_eq_true rfl) rfl ?_
    refine Vm.aload_n (n := 71) 1 dX1_refresh_70 rfl rfl ?_
    refine Vm.dup (n := 72) dX1_refresh_71 rfl rfl ?_
    refine Vm.gX (n := 75) dX1_refresh_72 rfl wf_RX1_19 in_1 rfl (by decide) rfl (by decide) ?_
    refine Vm.iload_n (n := 76) 0 dX1_refresh_75 rfl rfl ?_
    refine Vm.if_ne (n := 79) 83 dX1_refresh_76 rfl rfl (fun c9 => ?_) (fun c9 => ?_)
    · replace h := (if_neg c9).symm.trans h
      refine Vm.iconst (n := 84) (v := (0 : Int32)) dX1_refresh_83 rfl (by decide) ?_
      refine Vm.sub (lv' := [(0, .inr (.inr (1, 0))), (1, .inr (.inr (0, a1))), (2, .inl a2), (3, .inl q1)]) [1, 2, 3, 0] rfl ?_
      exact lX1_refresh_84 a1 (by omega) a2 q1 (σ.1 1 0 2) (0 : Int32) σ τ h hk
    · replace h := (if_pos c9).symm.trans h
      refine Vm.iconst (n := 80) (v := (1 : Int32)) dX1_refresh_79 rfl (by decide) ?_
      refine Vm.goto 84 dX1_refresh_80 rfl ?_
      refine Vm.sub (lv' := [(0, .inr (.inr (1, 0))), (1, .inr (.inr (0, a1))), (2, .inl a2), (3, .inl q1)]) [1, 2, 3, 0] rfl ?_
      exact lX1_refresh_84 a1 (by omega) a2 q1 (σ.1 1 0 2) (1 : Int32) σ τ h hk
theorem lX1_refresh_53_L (a1 : Nat) (ha1 : a1 < 3) (τ : mm) {r : Option mv} {M' : mm × mm} (z : Int32 × mm) (w9 : mm) (h : lp (fX1_refresh_53_L a1) z = some w9) (hk : (fun q : mm => r = none ∧ M' = (q, τ)) w9) : Vm mX1_refresh 4 53 [(0, .inr (.inr (1, 0))), (1, .inr (.inr (0, a1))), (2, .inl z.1)] [] (z.2, τ) r M' :=
  lp_link (S := Int32 × mm) (R := mm) (body := fX1_refresh_53_L a1) (A := fun z : Int32 × mm => Vm mX1_refresh 4 53 [(0, .inr (.inr (1, 0))), (1, .inr (.inr (0, a1))), (2, .inl z.1)] [] (z.2, τ) r M') (B := fun w : mm => (fun q : mm => r = none ∧ M' = (q, τ)) w) (fun z v hb hv => lX1_refresh_53 a1 ha1 z.1 z.2 τ hb hv) z w9 h hk
set_option maxRecDepth 20000 in
theorem lX1_refresh_0 (a1 : Nat) (ha1 : a1 < 3) (σ τ : mm) {r : Option mv} {M' : mm × mm} {v9 : mm} (h : fX1_refresh_0 a1 σ = some v9) (hk : (fun q : mm => r = none ∧ M' = (q, τ)) v9) : Vm mX1_refresh 4 0 [(0, .inr (.inr (1, 0))), (1, .inr (.inr (0, a1)))] [] (σ, τ) r M' := by
  unfold fX1_refresh_0 at h
  refine Vm.aload_n (n := 1) 0 dX1_refresh_0 rfl rfl ?_
  refine Vm.gX (n := 4) dX1_refresh_1 rfl wf_RX1_9 in_1 rfl (by decide) rfl (by decide) ?_
  refine Vm.if_ne (n := 7) 8 dX1_refresh_4 rfl rfl (fun c9 => ?_) (fun c9 => ?_)
  · replace h := (if_neg c9).symm.trans h
    refine Vm.aload_n (n := 9) 0 dX1_refresh_8 rfl rfl ?_
    refine Vm.iconst (n := 10) (v := (0 : Int32)) dX1_refresh_9 rfl (by decide) ?_
    refine Vm.pX (n := 13) (ty := .boolean) dX1_refresh_10 rfl wf_RX1_9 in_1 rfl (by decide) rfl (by decide) rfl rfl rfl rfl ?_
    replace h := Option.bind_eq_some_iff.mp h
    obtain ⟨σ1, e1, h⟩ := h
    replace e1 := Option.some.inj e1
    refine Vm.mem (congrArg (fun z => (z, τ)) e1) ?_
    refine Vm.aload_n (n := 14) 0 dX1_refresh_13 rfl rfl ?_
    refine Vm.iconst (n := 15) (v := (0 : Int32)) dX1_refresh_14 rfl (by decide) ?_
    refine Vm.pX (n := 18) (ty := .int) dX1_refresh_15 rfl wf_RX1_19 in_1 rfl (by decide) rfl (by decide) rfl rfl rfl rfl ?_
    replace h := Option.bind_eq_some_iff.mp h
    obtain ⟨σ2, e2, h⟩ := h
    replace e2 := Option.some.inj e2
    refine Vm.mem (congrArg (fun z => (z, τ)) e2) ?_
    refine Vm.aload_n (n := 19) 0 dX1_refresh_18 rfl rfl ?_
    refine Vm.iconst (n := 20) (v := (-1 : Int32)) dX1_refresh_19 rfl (by decide) ?_
    refine Vm.pX (n := 23) (ty := .int) dX1_refresh_20 rfl wf_RX1_34 in_1 rfl (by decide) rfl (by decide) rfl rfl rfl rfl ?_
    replace h := Option.bind_eq_some_iff.mp h
    obtain ⟨σ3, e3, h⟩ := h
    replace e3 := Option.some.inj e3
    refine Vm.mem (congrArg (fun z => (z, τ)) e3) ?_
    refine Vm.aload_n (n := 24) 0 dX1_refresh_23 rfl rfl ?_
    refine Vm.aload_n (n := 25) 1 dX1_refresh_24 rfl rfl ?_
    replace h := Option.bind_eq_some_iff.mp h
    obtain ⟨q4, h4, h⟩ := h
    refine Vm.callV (Y := mX0_points) (n := 28) [] dX1_refresh_25 rfl wv_RX1_47 omX0_points rfl (ink ik_0 (by omega)) rfl rfl rfl (Nat.le_of_ble_eq_true rfl) (by decide) (kX0_points a1 (by omega) σ3 τ h4) ?_
    refine Vm.sipush (n := 31) (v := (4096 : Int32)) dX1_refresh_28 rfl (by decide) ?_
    refine Vm.callS (Y := mJ9_min_7cf53) (n := 34) [.inl q4, .inl (4096 : Int32)] dX1_refresh_31 rfl wv_RX1_53 omJ9_min_7cf53 rfl rfl (Nat.le_of_ble_eq_true rfl) (by decide) (kJ9_min_7cf53 q4 (4096 : Int32) rfl) ?_
    replace h := Option.bind_eq_some_iff.mp h
    obtain ⟨x5, e5, h⟩ := h
    replace e5 := Option.some.inj e5
    refine Vm.top e5 ?_
    refine Vm.pX (n := 37) (ty := .int) dX1_refresh_34 rfl wf_RX1_15 in_1 rfl (by decide) rfl (by decide) rfl rfl rfl rfl ?_
    replace h := Option.bind_eq_some_iff.mp h
    obtain ⟨σ6, e6, h⟩ := h
    replace e6 := Option.some.inj e6
    refine Vm.mem (congrArg (fun z => (z, τ)) e6) ?_
    refine Vm.aload_n (n := 38) 1 dX1_refresh_37 rfl rfl ?_
    refine Vm.getR (n := 41) dX1_refresh_38 rfl wf_RX1_59 (ink ik_0 (by omega)) rfl (by decide) rfl ?_
    refine Vm.iconst (n := 42) (v := (0 : Int32)) dX1_refresh_41 rfl (by decide) ?_
    refine Vm.aload_n (n := 43) 0 dX1_refresh_42 rfl rfl ?_
    refine Vm.getR (n := 46) dX1_refresh_43 rfl wf_RX1_41 in_1 rfl (by decide) rfl ?_
    refine Vm.iconst (n := 47) (v := (0 : Int32)) dX1_refresh_46 rfl (by decide) ?_
    refine Vm.iconst (n := 48) (v := (4 : Int32)) dX1_refresh_47 rfl (by decide) ?_
    replace h := Option.bind_eq_some_iff.mp h
    obtain ⟨σ7, h7, h⟩ := h
    refine Vm.aci (n := 51) dX1_refresh_48 rfl wy_RX1_62 (ink ik_8 (by omega)) rfl rfl (by decide) in_13 rfl rfl (by decide) (Nat.le_of_ble_eq_true rfl) (by decide) h7 ?_
    refine Vm.iconst (n := 52) (v := (0 : Int32)) dX1_refresh_51 rfl (by decide) ?_
    refine Vm.istore_n (n := 53) (lv' := [(2, .inl (0 : Int32)), (0, .inr (.inr (1, 0))), (1, .inr (.inr (0, a1)))]) dX1_refresh_52 rfl (Nat.le_of_ble_eq_true rfl) rfl ?_
    refine Vm.sub (lv' := [(0, .inr (.inr (1, 0))), (1, .inr (.inr (0, a1))), (2, .inl (0 : Int32))]) [1, 2, 0] rfl ?_
    exact lX1_refresh_53_L a1 (by omega) τ ((0 : Int32), σ7) _ h hk
  · replace h := (if_pos c9).symm.trans h
    obtain rfl := Option.some.inj h
    exact Vm.vret dX1_refresh_7 rfl hk.1 hk.2.symm
theorem kX1_refresh (a1 : Nat) (ha1 : a1 < 3) (σ τ : mm) {q : mm} (h : fX1_refresh a1 σ = some q) : Cx mX1_refresh 4 [.inr (.inr (1, 0)), .inr (.inr (0, a1))] (σ, τ) (none) (q, τ) :=
  Cx.of (lv := [(0, .inr (.inr (1, 0))), (1, .inr (.inr (0, a1)))]) (by decide) (fun ad => Nat.le_of_ble_eq_true rfl) (fun ad => rfl) (lX1_refresh_0 a1 ha1 σ τ h ⟨rfl, rfl⟩)
-- ThinBodies many ()I
noncomputable def fX7_many_0 (σ : mm) : Option (Int32 × mm) :=
  Option.bind (fX1_refresh 0 σ) fun q1 =>
  some ((q1.1 1 0 2, q1))
noncomputable def fX7_many (σ : mm) : Option (Int32 × mm) := fX7_many_0 σ
set_option maxRecDepth 20000 in
theorem lX7_many_0 (σ τ : mm) {r : Option mv} {M' : mm × mm} {v9 : Int32 × mm} (h : fX7_many_0 σ = some v9) (hk : (fun q : Int32 × mm => r = some (.inl q.1) ∧ M' = (q.2, τ)) v9) : Vm mX7_many 5 0 [(0, .inr (.inr (7, 0)))] [] (σ, τ) r M' := by
  unfold fX7_many_0 at h
  refine Vm.aload_n (n := 1) 0 dX7_many_0 rfl rfl ?_
  refine Vm.getR (n := 4) dX7_many_1 rfl wf_RX7_29 in_7 rfl (by decide) rfl ?_
  refine Vm.aload_n (n := 5) 0 dX7_many_4 rfl rfl ?_
  refine Vm.getR (n := 8) dX7_many_5 rfl wf_RX7_12 in_7 rfl (by decide) rfl ?_
  replace h := Option.bind_eq_some_iff.mp h
  obtain ⟨q1, h1, h⟩ := h
  refine Vm.callVv (Y := mX1_refresh) (n := 11) [.inr (.inr (0, 0))] dX7_many_8 rfl wv_RX7_154 omX1_refresh rfl in_1 rfl rfl rfl (Nat.le_of_ble_eq_true rfl) (by decide) (kX1_refresh 0 (by decide) σ τ h1) ?_
  refine Vm.aload_n (n := 12) 0 dX7_many_11 rfl rfl ?_
  refine Vm.getR (n := 15) dX7_many_12 rfl wf_RX7_29 in_7 rfl (by decide) rfl ?_
  refine Vm.gX (n := 18) dX7_many_15 rfl wf_RX7_158 in_1 rfl (by decide) rfl (by decide) ?_
  obtain rfl := Option.some.inj h
  exact Vm.iret dX7_many_18 rfl hk.1 hk.2.symm
theorem kX7_many (σ τ : mm) {q : Int32 × mm} (h : fX7_many σ = some q) : Cx mX7_many 5 [.inr (.inr (7, 0))] (σ, τ) (some (.inl q.1)) (q.2, τ) :=
  Cx.of (lv := [(0, .inr (.inr (7, 0)))]) (by decide) (fun ad => Nat.le_of_ble_eq_true rfl) (fun ad => rfl) (lX7_many_0 σ τ h ⟨rfl, rfl⟩)
-- ThinBodies$Cloud brokenAt (I)I
def fX1_brokenAt_0 (a1 : Int32) (σ : mm) : Option (Int32) :=
  Option.bind (rdI σ 12 0 4096 a1) fun x1 =>
  some (x1 >>> ((20 : Int32) &&& 31))
def fX1_brokenAt (a1 : Int32) (σ : mm) : Option (Int32) := fX1_brokenAt_0 a1 σ
set_option maxRecDepth 20000 in
theorem lX1_brokenAt_0 (a1 : Int32) (σ σ0 τ : mm) (hσ : σ = σ0) {r : Option mv} {M' : mm × mm} {v9 : Int32} (h : fX1_brokenAt_0 a1 σ = some v9) (hk : (fun q : Int32 => r = some (.inl q) ∧ M' = (σ0, τ)) v9) : Vm mX1_brokenAt 0 0 [(0, .inr (.inr (1, 0))), (1, .inl a1)] [] (σ, τ) r M' := by
  unfold fX1_brokenAt_0 at h
  refine Vm.aload_n (n := 1) 0 dX1_brokenAt_0 rfl rfl ?_
  refine Vm.getR (n := 4) dX1_brokenAt_1 rfl wf_RX1_37 in_1 rfl (by decide) rfl ?_
  refine Vm.iload_n (n := 5) 1 dX1_brokenAt_4 rfl rfl ?_
  replace h := Option.bind_eq_some_iff.mp h
  obtain ⟨x1, h1, h⟩ := h
  refine Vm.ialdx (n := 6) dX1_brokenAt_5 rfl in_12 rfl rfl (by decide) h1 ?_
  refine Vm.bipush (n := 8) (v := (20 : Int32)) dX1_brokenAt_6 rfl (by decide) ?_
  refine Vm.ishr (n := 9) dX1_brokenAt_8 rfl ?_
  obtain rfl := Option.some.inj h
  exact Vm.iret dX1_brokenAt_9 rfl hk.1 (by rw [hσ]; exact hk.2.symm)
theorem kX1_brokenAt (a1 : Int32) (σ τ : mm) {q : Int32} (h : fX1_brokenAt a1 σ = some q) : Cx mX1_brokenAt 0 [.inr (.inr (1, 0)), .inl a1] (σ, τ) (some (.inl q)) (σ, τ) :=
  Cx.of (lv := [(0, .inr (.inr (1, 0))), (1, .inl a1)]) (by decide) (fun ad => Nat.le_of_ble_eq_true rfl) (fun ad => rfl) (lX1_brokenAt_0 a1 σ σ τ rfl h ⟨rfl, rfl⟩)
-- ThinBodies$Cloud isIn (I)Z
def fX1_isIn_0 (a1 : Int32) (σ : mm) : Option (Bool) :=
  Option.bind (fX1_brokenAt a1 σ) fun q1 =>
  if q1 = (0 : Int32) then
  some (true)
  else
  some (false)
def fX1_isIn (a1 : Int32) (σ : mm) : Option (Bool) := fX1_isIn_0 a1 σ
set_option maxRecDepth 20000 in
theorem lX1_isIn_0 (a1 : Int32) (σ σ0 τ : mm) (hσ : σ = σ0) {r : Option mv} {M' : mm × mm} {v9 : Bool} (h : fX1_isIn_0 a1 σ = some v9) (hk : (fun q : Bool => r = some (.inl (bi q)) ∧ M' = (σ0, τ)) v9) : Vm mX1_isIn 1 0 [(0, .inr (.inr (1, 0))), (1, .inl a1)] [] (σ, τ) r M' := by
  unfold fX1_isIn_0 at h
  refine Vm.aload_n (n := 1) 0 dX1_isIn_0 rfl rfl ?_
  refine Vm.iload_n (n := 2) 1 dX1_isIn_1 rfl rfl ?_
  replace h := Option.bind_eq_some_iff.mp h
  obtain ⟨q1, h1, h⟩ := h
  refine Vm.callV (Y := mX1_brokenAt) (n := 5) [.inl a1] dX1_isIn_2 rfl wv_RX1_86 omX1_brokenAt rfl in_1 rfl rfl rfl (Nat.le_of_ble_eq_true rfl) (by decide) (kX1_brokenAt a1 σ τ h1) ?_
  refine Vm.if_ne (n := 8) 12 dX1_isIn_5 rfl rfl (fun c9 => ?_) (fun c9 => ?_)
  · replace h := (if_neg c9).symm.trans h
    refine Vm.iconst (n := 13) (v := (0 : Int32)) dX1_isIn_12 rfl (by decide) ?_
    obtain rfl := Option.some.inj h
    exact Vm.zret (b := false) dX1_isIn_13 rfl rfl hk.1 (by rw [hσ]; exact hk.2.symm)
  · replace h := (if_pos c9).symm.trans h
    refine Vm.iconst (n := 9) (v := (1 : Int32)) dX1_isIn_8 rfl (by decide) ?_
    refine Vm.goto 13 dX1_isIn_9 rfl ?_
    obtain rfl := Option.some.inj h
    exact Vm.zret (b := true) dX1_isIn_13 rfl rfl hk.1 (by rw [hσ]; exact hk.2.symm)
theorem kX1_isIn (a1 : Int32) (σ τ : mm) {q : Bool} (h : fX1_isIn a1 σ = some q) : Cx mX1_isIn 1 [.inr (.inr (1, 0)), .inl a1] (σ, τ) (some (.inl (bi q))) (σ, τ) :=
  Cx.of (lv := [(0, .inr (.inr (1, 0))), (1, .inl a1)]) (by decide) (fun ad => Nat.le_of_ble_eq_true rfl) (fun ad => rfl) (lX1_isIn_0 a1 σ σ τ rfl h ⟨rfl, rfl⟩)
-- ThinBodies$Cloud placeOf (I)I
noncomputable def fX1_placeOf_44 (a1 : Int32) (a2 : Int32) (a3 : Int32) (σ : mm) : Option ((Int32 × Int32) ⊕ (Int32)) :=
  Option.bind (some (a3 + (1 : Int32))) fun x1 =>
  some (.inl (a2, x1))
noncomputable def fX1_placeOf_18 (a1 : Int32) (a2 : Int32) (a3 : Int32) (σ : mm) : Option ((Int32 × Int32) ⊕ (Int32)) :=
  if (σ.1 1 0 1) ≤ a3 then
  some (.inr ((-1 : Int32)))
  else
  Option.bind (fX1_isIn a3 σ) fun q1 =>
  if (bi q1) = (0 : Int32) then
  fX1_placeOf_44 a1 a2 a3 σ
  else
  if a2 = a1 then
  some (.inr (a3))
  else
  Option.bind (some (a2 + (1 : Int32))) fun x2 =>
  fX1_placeOf_44 a1 x2 a3 σ
noncomputable def fX1_placeOf_18_L (a1 : Int32) (σ : mm) : Int32 × Int32 → Option ((Int32 × Int32) ⊕ (Int32)) := fun z => fX1_placeOf_18 a1 z.1 z.2 σ
noncomputable def fX1_placeOf_0 (a1 : Int32) (σ : mm) : Option (Int32) :=
  if a1 < (0 : Int32) then
  some ((-1 : Int32))
  else
  if a1 < (σ.1 1 0 2) then
  lp (fX1_placeOf_18_L a1 σ) ((0 : Int32), (0 : Int32))
  else
  some ((-1 : Int32))
noncomputable def fX1_placeOf (a1 : Int32) (σ : mm) : Option (Int32) := fX1_placeOf_0 a1 σ
set_option maxRecDepth 20000 in
theorem lX1_placeOf_44 (a1 : Int32) (a2 : Int32) (a3 : Int32) (σ σ0 τ : mm) (hσ : σ = σ0) {r : Option mv} {M' : mm × mm} {v9 : (Int32 × Int32) ⊕ (Int32)} (h : fX1_placeOf_44 a1 a2 a3 σ = some v9) (hk : (Sum.elim (fun z : Int32 × Int32 => Vm mX1_placeOf 2 18 [(0, .inr (.inr (1, 0))), (1, .inl a1), (2, .inl z.1), (3, .inl z.2)] [] (σ, τ) r M') (fun q : Int32 => r = some (.inl q) ∧ M' = (σ0, τ))) v9) : Vm mX1_placeOf 2 44 [(0, .inr (.inr (1, 0))), (1, .inl a1), (2, .inl a2), (3, .inl a3)] [] (σ, τ) r M' := by
  unfold fX1_placeOf_44 at h
  replace h := Option.bind_eq_some_iff.mp h
  obtain ⟨x1, e1, h⟩ := h
  replace e1 := Option.some.inj e1
  refine Vm.iinc (n := 47) (v := x1) (lv' := [(3, .inl x1), (0, .inr (.inr (1, 0))), (1, .inl a1), (2, .inl a2)]) 3 dX1_placeOf_44 rfl rfl e1 (Nat.le_of_ble_eq_true rfl) rfl ?_
  refine Vm.goto 18 dX1_placeOf_47 rfl ?_
  refine Vm.sub (lv' := [(0, .inr (.inr (1, 0))), (1, .inl a1), (2, .inl a2), (3, .inl x1)]) [1, 2, 3, 0] rfl ?_
  obtain rfl := Option.some.inj h
  exact hk
set_option maxRecDepth 20000 in
theorem lX1_placeOf_18 (a1 : Int32) (a2 : Int32) (a3 : Int32) (σ σ0 τ : mm) (hσ : σ = σ0) {r : Option mv} {M' : mm × mm} {v9 : (Int32 × Int32) ⊕ (Int32)} (h : fX1_placeOf_18 a1 a2 a3 σ = some v9) (hk : (Sum.elim (fun z : Int32 × Int32 => Vm mX1_placeOf 2 18 [(0, .inr (.inr (1, 0))), (1, .inl a1), (2, .inl z.1), (3, .inl z.2)] [] (σ, τ) r M') (fun q : Int32 => r = some (.inl q) ∧ M' = (σ0, τ))) v9) : Vm mX1_placeOf 2 18 [(0, .inr (.inr (1, 0))), (1, .inl a1), (2, .inl a2), (3, .inl a3)] [] (σ, τ) r M' := by
  unfold fX1_placeOf_18 at h
  refine Vm.iload_n (n := 19) 3 dX1_placeOf_18 rfl rfl ?_
  refine Vm.aload_n (n := 20) 0 dX1_placeOf_19 rfl rfl ?_
  refine Vm.gX (n := 23) dX1_placeOf_20 rfl wf_RX1_15 in_1 rfl (by decide) rfl (by decide) ?_
  refine Vm.icmp_ge (n := 26) 50 dX1_placeOf_23 rfl rfl (fun c9 => ?_) (fun c9 => ?_)
  · replace h := (if_pos c9).symm.trans h
    refine Vm.iconst (n := 51) (v := (-1 : Int32)) dX1_placeOf_50 rfl (by decide) ?_
    obtain rfl := Option.some.inj h
    exact Vm.iret dX1_placeOf_51 rfl hk.1 (by rw [hσ]; exact hk.2.symm)
  · replace h := (if_neg c9).symm.trans h
    refine Vm.aload_n (n := 27) 0 dX1_placeOf_26 rfl rfl ?_
    refine Vm.iload_n (n := 28) 3 dX1_placeOf_27 rfl rfl ?_
    replace h := Option.bind_eq_some_iff.mp h
    obtain ⟨q1, h1, h⟩ := h
    refine Vm.callV (Y := mX1_isIn) (n := 31) [.inl a3] dX1_placeOf_28 rfl wv_RX1_96 omX1_isIn rfl in_1 rfl rfl rfl (Nat.le_of_ble_eq_true rfl) (by decide) (kX1_isIn a3 σ τ h1) ?_
    refine Vm.if_eq (n := 34) 44 dX1_placeOf_31 rfl rfl (fun c9 => ?_) (fun c9 => ?_)
    · replace h := (if_pos c9).symm.trans h
      exact lX1_placeOf_44 a1 a2 a3 σ σ0 τ hσ h hk
    · replace h := (if_neg c9).symm.trans h
      refine Vm.iload_n (n := 35) 2 dX1_placeOf_34 rfl rfl ?_
      refine Vm.iload_n (n := 36) 1 dX1_placeOf_35 rfl rfl ?_
      refine Vm.icmp_ne (n := 39) 41 dX1_placeOf_36 rfl rfl (fun c9 => ?_) (fun c9 => ?_)
      · replace h := (if_neg c9).symm.trans h
        replace h := Option.bind_eq_some_iff.mp h
        obtain ⟨x2, e2, h⟩ := h
        replace e2 := Option.some.inj e2
        refine Vm.iinc (n := 44) (v := x2) (lv' := [(2, .inl x2), (0, .inr (.inr (1, 0))), (1, .inl a1), (3, .inl a3)]) 2 dX1_placeOf_41 rfl rfl e2 (Nat.le_of_ble_eq_true rfl) rfl ?_
        refine Vm.sub (lv' := [(0, .inr (.inr (1, 0))), (1, .inl a1), (2, .inl x2), (3, .inl a3)]) [1, 2, 0, 3] rfl ?_
        exact lX1_placeOf_44 a1 x2 a3 σ σ0 τ hσ h hk
      · replace h := (if_pos c9).symm.trans h
        refine Vm.iload_n (n := 40) 3 dX1_placeOf_39 rfl rfl ?_
        obtain rfl := Option.some.inj h
        exact Vm.iret dX1_placeOf_40 rfl hk.1 (by rw [hσ]; exact hk.2.symm)
theorem lX1_placeOf_18_L (a1 : Int32) (σ σ0 τ : mm) (hσ : σ = σ0) {r : Option mv} {M' : mm × mm} (z : Int32 × Int32) (w9 : Int32) (h : lp (fX1_placeOf_18_L a1 σ) z = some w9) (hk : (fun q : Int32 => r = some (.inl q) ∧ M' = (σ0, τ)) w9) : Vm mX1_placeOf 2 18 [(0, .inr (.inr (1, 0))), (1, .inl a1), (2, .inl z.1), (3, .inl z.2)] [] (σ, τ) r M' :=
  lp_link (S := Int32 × Int32) (R := Int32) (body := fX1_placeOf_18_L a1 σ) (A := fun z : Int32 × Int32 => Vm mX1_placeOf 2 18 [(0, .inr (.inr (1, 0))), (1, .inl a1), (2, .inl z.1), (3, .inl z.2)] [] (σ, τ) r M') (B := fun w : Int32 => (fun q : Int32 => r = some (.inl q) ∧ M' = (σ0, τ)) w) (fun z v hb hv => lX1_placeOf_18 a1 z.1 z.2 σ σ0 τ hσ hb hv) z w9 h hk
set_option maxRecDepth 20000 in
theorem lX1_placeOf_0 (a1 : Int32) (σ σ0 τ : mm) (hσ : σ = σ0) {r : Option mv} {M' : mm × mm} {v9 : Int32} (h : fX1_placeOf_0 a1 σ = some v9) (hk : (fun q : Int32 => r = some (.inl q) ∧ M' = (σ0, τ)) v9) : Vm mX1_placeOf 2 0 [(0, .inr (.inr (1, 0))), (1, .inl a1)] [] (σ, τ) r M' := by
  unfold fX1_placeOf_0 at h
  refine Vm.iload_n (n := 1) 1 dX1_placeOf_0 rfl rfl ?_
  refine Vm.if_lt (n := 4) 12 dX1_placeOf_1 rfl rfl (fun c9 => ?_) (fun c9 => ?_)
  · replace h := (if_pos c9).symm.trans h
    refine Vm.iconst (n := 13) (v := (-1 : Int32)) dX1_placeOf_12 rfl (by decide) ?_
    obtain rfl := Option.some.inj h
    exact Vm.iret dX1_placeOf_13 rfl hk.1 (by rw [hσ]; exact hk.2.symm)
  · replace h := (if_neg c9).symm.trans h
    refine Vm.iload_n (n := 5) 1 dX1_placeOf_4 rfl rfl ?_
    refine Vm.aload_n (n := 6) 0 dX1_placeOf_5 rfl rfl ?_
    refine Vm.gX (n := 9) dX1_placeOf_6 rfl wf_RX1_19 in_1 rfl (by decide) rfl (by decide) ?_
    refine Vm.icmp_lt (n := 12) 14 dX1_placeOf_9 rfl rfl (fun c9 => ?_) (fun c9 => ?_)
    · replace h := (if_pos c9).symm.trans h
      refine Vm.iconst (n := 15) (v := (0 : Int32)) dX1_placeOf_14 rfl (by decide) ?_
      refine Vm.istore_n (n := 16) (lv' := [(2, .inl (0 : Int32)), (0, .inr (.inr (1, 0))), (1, .inl a1)]) dX1_placeOf_15 rfl (Nat.le_of_ble_eq_true rfl) rfl ?_
      refine Vm.iconst (n := 17) (v := (0 : Int32)) dX1_placeOf_16 rfl (by decide) ?_
      refine Vm.istore_n (n := 18) (lv' := [(3, .inl (0 : Int32)), (2, .inl (0 : Int32)), (0, .inr (.inr (1, 0))), (1, .inl a1)]) dX1_placeOf_17 rfl (Nat.le_of_ble_eq_true rfl) rfl ?_
      refine Vm.sub (lv' := [(0, .inr (.inr (1, 0))), (1, .inl a1), (2, .inl (0 : Int32)), (3, .inl (0 : Int32))]) [2, 3, 1, 0] rfl ?_
      exact lX1_placeOf_18_L a1 σ σ0 τ hσ ((0 : Int32), (0 : Int32)) _ h hk
    · replace h := (if_neg c9).symm.trans h
      refine Vm.iconst (n := 13) (v := (-1 : Int32)) dX1_placeOf_12 rfl (by decide) ?_
      obtain rfl := Option.some.inj h
      exact Vm.iret dX1_placeOf_13 rfl hk.1 (by rw [hσ]; exact hk.2.symm)
theorem kX1_placeOf (a1 : Int32) (σ τ : mm) {q : Int32} (h : fX1_placeOf a1 σ = some q) : Cx mX1_placeOf 2 [.inr (.inr (1, 0)), .inl a1] (σ, τ) (some (.inl q)) (σ, τ) :=
  Cx.of (lv := [(0, .inr (.inr (1, 0))), (1, .inl a1)]) (by decide) (fun ad => Nat.le_of_ble_eq_true rfl) (fun ad => rfl) (lX1_placeOf_0 a1 σ σ τ rfl h ⟨rfl, rfl⟩)
-- ThinBodies unpack (II)I
def fX7_unpack_0 (a0 : Int32) (a1 : Int32) : Int32 :=
  ((a0 >>> (((5 : Int32) * a1) &&& 31)) &&& (31 : Int32)) - (9 : Int32)
def fX7_unpack (a0 : Int32) (a1 : Int32) : Int32 := fX7_unpack_0 a0 a1
set_option maxRecDepth 20000 in
theorem lX7_unpack_0 (a0 : Int32) (a1 : Int32) {M : mm × mm} {r : Option mv} {M' : mm × mm} {v9 : Int32} (h : fX7_unpack_0 a0 a1 = v9) (hk : (fun q : Int32 => r = some (.inl q) ∧ M' = M) v9) : Vm mX7_unpack 0 0 [(0, .inl a0), (1, .inl a1)] [] M r M' := by
  unfold fX7_unpack_0 at h
  refine Vm.iload_n (n := 1) 0 dX7_unpack_0 rfl rfl ?_
  refine Vm.iconst (n := 2) (v := (5 : Int32)) dX7_unpack_1 rfl (by decide) ?_
  refine Vm.iload_n (n := 3) 1 dX7_unpack_2 rfl rfl ?_
  refine Vm.imul (n := 4) dX7_unpack_3 rfl ?_
  refine Vm.ishr (n := 5) dX7_unpack_4 rfl ?_
  refine Vm.bipush (n := 7) (v := (31 : Int32)) dX7_unpack_5 rfl (by decide) ?_
  refine Vm.iand (n := 8) dX7_unpack_7 rfl ?_
  refine Vm.bipush (n := 10) (v := (9 : Int32)) dX7_unpack_8 rfl (by decide) ?_
  refine Vm.isub (n := 11) dX7_unpack_10 rfl ?_
  subst h
  exact Vm.iret dX7_unpack_11 rfl hk.1 hk.2.symm
theorem kX7_unpack (a0 : Int32) (a1 : Int32) {M : mm × mm} {q : Int32} (h : fX7_unpack a0 a1 = q) : Cx mX7_unpack 0 [.inl a0, .inl a1] M (some (.inl q)) M :=
  Cx.of (lv := [(0, .inl a0), (1, .inl a1)]) (by decide) (fun ad => Nat.le_of_ble_eq_true rfl) (fun ad => rfl) (lX7_unpack_0 a0 a1 h ⟨rfl, rfl⟩)
-- ThinBodies$Cloud letterAt (II)I
def fX1_letterAt_0 (a1 : Int32) (a2 : Int32) (σ : mm) : Option (Int32) :=
  Option.bind (rdI σ 12 0 4096 a1) fun x1 =>
  some ((fX7_unpack x1 a2))
def fX1_letterAt (a1 : Int32) (a2 : Int32) (σ : mm) : Option (Int32) := fX1_letterAt_0 a1 a2 σ
set_option maxRecDepth 20000 in
theorem lX1_letterAt_0 (a1 : Int32) (a2 : Int32) (σ σ0 τ : mm) (hσ : σ = σ0) {r : Option mv} {M' : mm × mm} {v9 : Int32} (h : fX1_letterAt_0 a1 a2 σ = some v9) (hk : (fun q : Int32 => r = some (.inl q) ∧ M' = (σ0, τ)) v9) : Vm mX1_letterAt 1 0 [(0, .inr (.inr (1, 0))), (1, .inl a1), (2, .inl a2)] [] (σ, τ) r M' := by
  unfold fX1_letterAt_0 at h
  refine Vm.aload_n (n := 1) 0 dX1_letterAt_0 rfl rfl ?_
  refine Vm.getR (n := 4) dX1_letterAt_1 rfl wf_RX1_37 in_1 rfl (by decide) rfl ?_
  refine Vm.iload_n (n := 5) 1 dX1_letterAt_4 rfl rfl ?_
  replace h := Option.bind_eq_some_iff.mp h
  obtain ⟨x1, h1, h⟩ := h
  refine Vm.ialdx (n := 6) dX1_letterAt_5 rfl in_12 rfl rfl (by decide) h1 ?_
  refine Vm.iload_n (n := 7) 2 dX1_letterAt_6 rfl rfl ?_
  refine Vm.callN (Y := mX7_unpack) (n := 10) [.inl x1, .inl a2] dX1_letterAt_7 rfl wv_RX1_90 omX7_unpack rfl rfl (Nat.le_of_ble_eq_true rfl) (by decide) (kX7_unpack x1 a2 rfl) ?_
  obtain rfl := Option.some.inj h
  exact Vm.iret dX1_letterAt_10 rfl hk.1 (by rw [hσ]; exact hk.2.symm)
theorem kX1_letterAt (a1 : Int32) (a2 : Int32) (σ τ : mm) {q : Int32} (h : fX1_letterAt a1 a2 σ = some q) : Cx mX1_letterAt 1 [.inr (.inr (1, 0)), .inl a1, .inl a2] (σ, τ) (some (.inl q)) (σ, τ) :=
  Cx.of (lv := [(0, .inr (.inr (1, 0))), (1, .inl a1), (2, .inl a2)]) (by decide) (fun ad => Nat.le_of_ble_eq_true rfl) (fun ad => rfl) (lX1_letterAt_0 a1 a2 σ σ τ rfl h ⟨rfl, rfl⟩)
-- ThinBodies point (II)I
noncomputable def fX7_point_0 (a1 : Int32) (a2 : Int32) (σ : mm) : Option (Int32 × mm) :=
  if (bi (fX0_hasLetter 0 a2 σ)) = (0 : Int32) then
  Option.bind (fX7_finding (0 : Int32) σ) fun q5 =>
  some ((q5.1, q5.2))
  else
  Option.bind (fX1_refresh 0 σ) fun q1 =>
  Option.bind (fX1_placeOf a1 q1) fun q2 =>
  if (0 : Int32) ≤ q2 then
  Option.bind (fX1_letterAt q2 a2 q1) fun q3 =>
  some ((q3, q1))
  else
  Option.bind (fX7_finding (3 : Int32) q1) fun q4 =>
  some ((q4.1, q4.2))
noncomputable def fX7_point (a1 : Int32) (a2 : Int32) (σ : mm) : Option (Int32 × mm) := fX7_point_0 a1 a2 σ
set_option maxRecDepth 20000 in
theorem lX7_point_0 (a1 : Int32) (a2 : Int32) (σ τ : mm) {r : Option mv} {M' : mm × mm} {v9 : Int32 × mm} (h : fX7_point_0 a1 a2 σ = some v9) (hk : (fun q : Int32 × mm => r = some (.inl q.1) ∧ M' = (q.2, τ)) v9) : Vm mX7_point 5 0 [(0, .inr (.inr (7, 0))), (1, .inl a1), (2, .inl a2)] [] (σ, τ) r M' := by
  unfold fX7_point_0 at h
  refine Vm.aload_n (n := 1) 0 dX7_point_0 rfl rfl ?_
  refine Vm.getR (n := 4) dX7_point_1 rfl wf_RX7_12 in_7 rfl (by decide) rfl ?_
  refine Vm.iload_n (n := 5) 2 dX7_point_4 rfl rfl ?_
  refine Vm.callV (Y := mX0_hasLetter) (n := 8) [.inl a2] dX7_point_5 rfl wv_RX7_86 omX0_hasLetter rfl (ink ik_0 (by decide)) rfl rfl rfl (Nat.le_of_ble_eq_true rfl) (by decide) (kX0_hasLetter 0 (by decide) a2 σ τ rfl) ?_
  refine Vm.if_ne (n := 11) 17 dX7_point_8 rfl rfl (fun c9 => ?_) (fun c9 => ?_)
  · replace h := (if_neg c9).symm.trans h
    refine Vm.aload_n (n := 18) 0 dX7_point_17 rfl rfl ?_
    refine Vm.getR (n := 21) dX7_point_18 rfl wf_RX7_29 in_7 rfl (by decide) rfl ?_
    refine Vm.aload_n (n := 22) 0 dX7_point_21 rfl rfl ?_
    refine Vm.getR (n := 25) dX7_point_22 rfl wf_RX7_12 in_7 rfl (by decide) rfl ?_
    replace h := Option.bind_eq_some_iff.mp h
    obtain ⟨q1, h1, h⟩ := h
    refine Vm.callVv (Y := mX1_refresh) (n := 28) [.inr (.inr (0, 0))] dX7_point_25 rfl wv_RX7_154 omX1_refresh rfl in_1 rfl rfl rfl (Nat.le_of_ble_eq_true rfl) (by decide) (kX1_refresh 0 (by decide) σ τ h1) ?_
    refine Vm.aload_n (n := 29) 0 dX7_point_28 rfl rfl ?_
    refine Vm.getR (n := 32) dX7_point_29 rfl wf_RX7_29 in_7 rfl (by decide) rfl ?_
    refine Vm.iload_n (n := 33) 1 dX7_point_32 rfl rfl ?_
    replace h := Option.bind_eq_some_iff.mp h
    obtain ⟨q2, h2, h⟩ := h
    refine Vm.callV (Y := mX1_placeOf) (n := 36) [.inl a1] dX7_point_33 rfl wv_RX7_161 omX1_placeOf rfl in_1 rfl rfl rfl (Nat.le_of_ble_eq_true rfl) (by decide) (kX1_placeOf a1 q1 τ h2) ?_
    refine Vm.istore_n (n := 37) (lv' := [(3, .inl q2), (0, .inr (.inr (7, 0))), (1, .inl a1), (2, .inl a2)]) dX7_point_36 rfl (Nat.le_of_ble_eq_true rfl) rfl ?_
    refine Vm.iload_n (n := 38) 0 dX7_point_37 rfl rfl ?_
    refine Vm.if_ge (n := 41) 47 dX7_point_38 rfl rfl (fun c9 => ?_) (fun c9 => ?_)
    · replace h := (if_pos c9).symm.trans h
      refine Vm.aload_n (n := 48) 1 dX7_point_47 rfl rfl ?_
      refine Vm.getR (n := 51) dX7_point_48 rfl wf_RX7_29 in_7 rfl (by decide) rfl ?_
      refine Vm.iload_n (n := 52) 0 dX7_point_51 rfl rfl ?_
      refine Vm.iload_n (n := 53) 3 dX7_point_52 rfl rfl ?_
      replace h := Option.bind_eq_some_iff.mp h
      obtain ⟨q3, h3, h⟩ := h
      refine Vm.callV (Y := mX1_letterAt) (n := 56) [.inl q2, .inl a2] dX7_point_53 rfl wv_RX7_164 omX1_letterAt rfl in_1 rfl rfl rfl (Nat.le_of_ble_eq_true rfl) (by decide) (kX1_letterAt q2 a2 q1 τ h3) ?_
      obtain rfl := Option.some.inj h
      exact Vm.iret dX7_point_56 rfl hk.1 hk.2.symm
    · replace h := (if_neg c9).symm.trans h
      refine Vm.aload_n (n := 42) 1 dX7_point_41 rfl rfl ?_
      refine Vm.iconst (n := 43) (v := (3 : Int32)) dX7_point_42 rfl (by decide) ?_
      replace h := Option.bind_eq_some_iff.mp h
      obtain ⟨q4, h4, h⟩ := h
      refine Vm.callV (Y := mX7_finding) (n := 46) [.inl (3 : Int32)] dX7_point_43 rfl wv_RX7_68 omX7_finding rfl in_7 rfl rfl rfl (Nat.le_of_ble_eq_true rfl) (by decide) (kX7_finding (3 : Int32) q1 τ h4) ?_
      obtain rfl := Option.some.inj h
      exact Vm.iret dX7_point_46 rfl hk.1 hk.2.symm
  · replace h := (if_pos c9).symm.trans h
    refine Vm.aload_n (n := 12) 0 dX7_point_11 rfl rfl ?_
    refine Vm.iconst (n := 13) (v := (0 : Int32)) dX7_point_12 rfl (by decide) ?_
    replace h := Option.bind_eq_some_iff.mp h
    obtain ⟨q5, h5, h⟩ := h
    refine Vm.callV (Y := mX7_finding) (n := 16) [.inl (0 : Int32)] dX7_point_13 rfl wv_RX7_68 omX7_finding rfl in_7 rfl rfl rfl (Nat.le_of_ble_eq_true rfl) (by decide) (kX7_finding (0 : Int32) σ τ h5) ?_
    obtain rfl := Option.some.inj h
    exact Vm.iret dX7_point_16 rfl hk.1 hk.2.symm
theorem kX7_point (a1 : Int32) (a2 : Int32) (σ τ : mm) {q : Int32 × mm} (h : fX7_point a1 a2 σ = some q) : Cx mX7_point 5 [.inr (.inr (7, 0)), .inl a1, .inl a2] (σ, τ) (some (.inl q.1)) (q.2, τ) :=
  Cx.of (lv := [(0, .inr (.inr (7, 0))), (1, .inl a1), (2, .inl a2)]) (by decide) (fun ad => Nat.le_of_ble_eq_true rfl) (fun ad => rfl) (lX7_point_0 a1 a2 σ τ h ⟨rfl, rfl⟩)
-- ThinBodies isSheet (I)Z
def fX7_isSheet_0 (a0 : Int32) : Bool :=
  if a0 < (0 : Int32) then
  false
  else
  if (4 : Int32) ≤ a0 then
  false
  else
  true
def fX7_isSheet (a0 : Int32) : Bool := fX7_isSheet_0 a0
set_option maxRecDepth 20000 in
theorem lX7_isSheet_0 (a0 : Int32) {M : mm × mm} {r : Option mv} {M' : mm × mm} {v9 : Bool} (h : fX7_isSheet_0 a0 = v9) (hk : (fun q : Bool => r = some (.inl (bi q)) ∧ M' = M) v9) : Vm mX7_isSheet 0 0 [(0, .inl a0)] [] M r M' := by
  unfold fX7_isSheet_0 at h
  refine Vm.iload_n (n := 1) 0 dX7_isSheet_0 rfl rfl ?_
  refine Vm.if_lt (n := 4) 13 dX7_isSheet_1 rfl rfl (fun c9 => ?_) (fun c9 => ?_)
  · replace h := (if_pos c9).symm.trans h
    refine Vm.iconst (n := 14) (v := (0 : Int32)) dX7_isSheet_13 rfl (by decide) ?_
    subst h
    exact Vm.zret (b := false) dX7_isSheet_14 rfl rfl hk.1 hk.2.symm
  · replace h := (if_neg c9).symm.trans h
    refine Vm.iload_n (n := 5) 0 dX7_isSheet_4 rfl rfl ?_
    refine Vm.iconst (n := 6) (v := (4 : Int32)) dX7_isSheet_5 rfl (by decide) ?_
    refine Vm.icmp_ge (n := 9) 13 dX7_isSheet_6 rfl rfl (fun c9 => ?_) (fun c9 => ?_)
    · replace h := (if_pos c9).symm.trans h
      refine Vm.iconst (n := 14) (v := (0 : Int32)) dX7_isSheet_13 rfl (by decide) ?_
      subst h
      exact Vm.zret (b := false) dX7_isSheet_14 rfl rfl hk.1 hk.2.symm
    · replace h := (if_neg c9).symm.trans h
      refine Vm.iconst (n := 10) (v := (1 : Int32)) dX7_isSheet_9 rfl (by decide) ?_
      refine Vm.goto 14 dX7_isSheet_10 rfl ?_
      subst h
      exact Vm.zret (b := true) dX7_isSheet_14 rfl rfl hk.1 hk.2.symm
theorem kX7_isSheet (a0 : Int32) {M : mm × mm} {q : Bool} (h : fX7_isSheet a0 = q) : Cx mX7_isSheet 0 [.inl a0] M (some (.inl (bi q))) M :=
  Cx.of (lv := [(0, .inl a0)]) (by decide) (fun ad => Nat.le_of_ble_eq_true rfl) (fun ad => rfl) (lX7_isSheet_0 a0 h ⟨rfl, rfl⟩)
-- ThinBodies sheetTrouble (I)I
def fX7_sheetTrouble_0 (a1 : Int32) (σ : mm) : Option (Int32) :=
  if (bi (fX7_isSheet a1)) = (0 : Int32) then
  some ((0 : Int32))
  else
  Option.bind (rdR 4 a1) fun k1 =>
  if (σ.1 5 k1 0) = (0 : Int32) then
  some ((5 : Int32))
  else
  some ((-1 : Int32))
def fX7_sheetTrouble (a1 : Int32) (σ : mm) : Option (Int32) := fX7_sheetTrouble_0 a1 σ
set_option maxRecDepth 20000 in
theorem lX7_sheetTrouble_0 (a1 : Int32) (σ σ0 τ : mm) (hσ : σ = σ0) {r : Option mv} {M' : mm × mm} {v9 : Int32} (h : fX7_sheetTrouble_0 a1 σ = some v9) (hk : (fun q : Int32 => r = some (.inl q) ∧ M' = (σ0, τ)) v9) : Vm mX7_sheetTrouble 1 0 [(0, .inr (.inr (7, 0))), (1, .inl a1)] [] (σ, τ) r M' := by
  unfold fX7_sheetTrouble_0 at h
  refine Vm.iload_n (n := 1) 1 dX7_sheetTrouble_0 rfl rfl ?_
  refine Vm.callS (Y := mX7_isSheet) (n := 4) [.inl a1] dX7_sheetTrouble_1 rfl wv_RX7_338 omX7_isSheet rfl rfl (Nat.le_of_ble_eq_true rfl) (by decide) (kX7_isSheet a1 rfl) ?_
  refine Vm.if_ne (n := 7) 9 dX7_sheetTrouble_4 rfl rfl (fun c9 => ?_) (fun c9 => ?_)
  · replace h := (if_neg c9).symm.trans h
    refine Vm.aload_n (n := 10) 0 dX7_sheetTrouble_9 rfl rfl ?_
    refine Vm.getR (n := 13) dX7_sheetTrouble_10 rfl wf_RX7_56 in_7 rfl (by decide) rfl ?_
    refine Vm.iload_n (n := 14) 1 dX7_sheetTrouble_13 rfl rfl ?_
    replace h := Option.bind_eq_some_iff.mp h
    obtain ⟨k1, h1, h⟩ := h
    refine Vm.aald (n := 15) dX7_sheetTrouble_14 rfl in_30 rfl rfl (by decide) (fun _ => rfl) rfl h1 ?_
    have g1 := rdR_lt h1
    refine Vm.gX (n := 18) dX7_sheetTrouble_15 rfl wf_RX7_348 (ink ik_5 (by omega)) rfl (by decide) rfl (by decide) ?_
    refine Vm.if_ne (n := 21) 25 dX7_sheetTrouble_18 rfl rfl (fun c9 => ?_) (fun c9 => ?_)
    · replace h := (if_neg c9).symm.trans h
      refine Vm.iconst (n := 26) (v := (-1 : Int32)) dX7_sheetTrouble_25 rfl (by decide) ?_
      obtain rfl := Option.some.inj h
      exact Vm.iret dX7_sheetTrouble_26 rfl hk.1 (by rw [hσ]; exact hk.2.symm)
    · replace h := (if_pos c9).symm.trans h
      refine Vm.iconst (n := 22) (v := (5 : Int32)) dX7_sheetTrouble_21 rfl (by decide) ?_
      refine Vm.goto 26 dX7_sheetTrouble_22 rfl ?_
      obtain rfl := Option.some.inj h
      exact Vm.iret dX7_sheetTrouble_26 rfl hk.1 (by rw [hσ]; exact hk.2.symm)
  · replace h := (if_pos c9).symm.trans h
    refine Vm.iconst (n := 8) (v := (0 : Int32)) dX7_sheetTrouble_7 rfl (by decide) ?_
    obtain rfl := Option.some.inj h
    exact Vm.iret dX7_sheetTrouble_8 rfl hk.1 (by rw [hσ]; exact hk.2.symm)
theorem kX7_sheetTrouble (a1 : Int32) (σ τ : mm) {q : Int32} (h : fX7_sheetTrouble a1 σ = some q) : Cx mX7_sheetTrouble 1 [.inr (.inr (7, 0)), .inl a1] (σ, τ) (some (.inl q)) (σ, τ) :=
  Cx.of (lv := [(0, .inr (.inr (7, 0))), (1, .inl a1)]) (by decide) (fun ad => Nat.le_of_ble_eq_true rfl) (fun ad => rfl) (lX7_sheetTrouble_0 a1 σ σ τ rfl h ⟨rfl, rfl⟩)
-- ThinBodies pointTrouble (I)I
def fX7_pointTrouble_0 (a1 : Int32) (σ : mm) : Option (Int32) :=
  Option.bind (fX7_sheetTrouble a1 σ) fun q1 =>
  if q1 = (-1 : Int32) then
  Option.bind (rdR 4 a1) fun k2 =>
  if (σ.1 0 0 0) ≤ (σ.1 5 k2 1) then
  some ((-1 : Int32))
  else
  some ((6 : Int32))
  else
  some (q1)
def fX7_pointTrouble (a1 : Int32) (σ : mm) : Option (Int32) := fX7_pointTrouble_0 a1 σ
set_option maxRecDepth 20000 in
theorem lX7_pointTrouble_0 (a1 : Int32) (σ σ0 τ : mm) (hσ : σ = σ0) {r : Option mv} {M' : mm × mm} {v9 : Int32} (h : fX7_pointTrouble_0 a1 σ = some v9) (hk : (fun q : Int32 => r = some (.inl q) ∧ M' = (σ0, τ)) v9) : Vm mX7_pointTrouble 2 0 [(0, .inr (.inr (7, 0))), (1, .inl a1)] [] (σ, τ) r M' := by
  unfold fX7_pointTrouble_0 at h
  refine Vm.aload_n (n := 1) 0 dX7_pointTrouble_0 rfl rfl ?_
  refine Vm.iload_n (n := 2) 1 dX7_pointTrouble_1 rfl rfl ?_
  replace h := Option.bind_eq_some_iff.mp h
  obtain ⟨q1, h1, h⟩ := h
  refine Vm.callV (Y := mX7_sheetTrouble) (n := 5) [.inl a1] dX7_pointTrouble_2 rfl wv_RX7_267 omX7_sheetTrouble rfl in_7 rfl rfl rfl (Nat.le_of_ble_eq_true rfl) (by decide) (kX7_sheetTrouble a1 σ τ h1) ?_
  refine Vm.istore_n (n := 6) (lv' := [(2, .inl q1), (0, .inr (.inr (7, 0))), (1, .inl a1)]) dX7_pointTrouble_5 rfl (Nat.le_of_ble_eq_true rfl) rfl ?_
  refine Vm.iload_n (n := 7) 0 dX7_pointTrouble_6 rfl rfl ?_
  refine Vm.iconst (n := 8) (v := (-1 : Int32)) dX7_pointTrouble_7 rfl (by decide) ?_
  refine Vm.icmp_eq (n := 11) 13 dX7_pointTrouble_8 rfl rfl (fun c9 => ?_) (fun c9 => ?_)
  · replace h := (if_pos c9).symm.trans h
    refine Vm.aload_n (n := 14) 1 dX7_pointTrouble_13 rfl rfl ?_
    refine Vm.getR (n := 17) dX7_pointTrouble_14 rfl wf_RX7_56 in_7 rfl (by decide) rfl ?_
    refine Vm.iload_n (n := 18) 2 dX7_pointTrouble_17 rfl rfl ?_
    replace h := Option.bind_eq_some_iff.mp h
    obtain ⟨k2, h2, h⟩ := h
    refine Vm.aald (n := 19) dX7_pointTrouble_18 rfl in_30 rfl rfl (by decide) (fun _ => rfl) rfl h2 ?_
    have g2 := rdR_lt h2
    refine Vm.gX (n := 22) dX7_pointTrouble_19 rfl wf_RX7_270 (ink ik_5 (by omega)) rfl (by decide) rfl (by decide) ?_
    refine Vm.aload_n (n := 23) 1 dX7_pointTrouble_22 rfl rfl ?_
    refine Vm.getR (n := 26) dX7_pointTrouble_23 rfl wf_RX7_12 in_7 rfl (by decide) rfl ?_
    refine Vm.gX (n := 29) dX7_pointTrouble_26 rfl wf_RX7_75 (ink ik_0 (by decide)) rfl (by decide) rfl (by decide) ?_
    refine Vm.icmp_ge (n := 32) 37 dX7_pointTrouble_29 rfl rfl (fun c9 => ?_) (fun c9 => ?_)
    · replace h := (if_pos c9).symm.trans h
      refine Vm.iconst (n := 38) (v := (-1 : Int32)) dX7_pointTrouble_37 rfl (by decide) ?_
      obtain rfl := Option.some.inj h
      exact Vm.iret dX7_pointTrouble_38 rfl hk.1 (by rw [hσ]; exact hk.2.symm)
    · replace h := (if_neg c9).symm.trans h
      refine Vm.bipush (n := 34) (v := (6 : Int32)) dX7_pointTrouble_32 rfl (by decide) ?_
      refine Vm.goto 38 dX7_pointTrouble_34 rfl ?_
      obtain rfl := Option.some.inj h
      exact Vm.iret dX7_pointTrouble_38 rfl hk.1 (by rw [hσ]; exact hk.2.symm)
  · replace h := (if_neg c9).symm.trans h
    refine Vm.iload_n (n := 12) 0 dX7_pointTrouble_11 rfl rfl ?_
    obtain rfl := Option.some.inj h
    exact Vm.iret dX7_pointTrouble_12 rfl hk.1 (by rw [hσ]; exact hk.2.symm)
theorem kX7_pointTrouble (a1 : Int32) (σ τ : mm) {q : Int32} (h : fX7_pointTrouble a1 σ = some q) : Cx mX7_pointTrouble 2 [.inr (.inr (7, 0)), .inl a1] (σ, τ) (some (.inl q)) (σ, τ) :=
  Cx.of (lv := [(0, .inr (.inr (7, 0))), (1, .inl a1)]) (by decide) (fun ad => Nat.le_of_ble_eq_true rfl) (fun ad => rfl) (lX7_pointTrouble_0 a1 σ σ τ rfl h ⟨rfl, rfl⟩)
-- ThinBodies smallPointTrouble (I)I
noncomputable def fX7_smallPointTrouble_15 (a1 : Int32) (a3 : Int32) (σ : mm) : Option ((Int32) ⊕ (Int32)) :=
  if (σ.1 0 0 0) ≤ a3 then
  some (.inr ((-1 : Int32)))
  else
  Option.bind (rdR 4 a1) fun k1 =>
  Option.bind (rdL σ 26 k1 40 a3) fun x2 =>
  if (lg_cmp x2 (-999 : Int64)) < (0 : Int32) then
  some (.inr ((4 : Int32)))
  else
  if (lg_cmp x2 (999 : Int64)) ≤ (0 : Int32) then
  Option.bind (some (a3 + (1 : Int32))) fun x3 =>
  some (.inl (x3))
  else
  some (.inr ((4 : Int32)))
noncomputable def fX7_smallPointTrouble_15_L (a1 : Int32) (σ : mm) : Int32 → Option ((Int32) ⊕ (Int32)) := fun z => fX7_smallPointTrouble_15 a1 z σ
noncomputable def fX7_smallPointTrouble_0 (a1 : Int32) (σ : mm) : Option (Int32) :=
  Option.bind (fX7_pointTrouble a1 σ) fun q1 =>
  if q1 = (-1 : Int32) then
  lp (fX7_smallPointTrouble_15_L a1 σ) ((0 : Int32))
  else
  some (q1)
noncomputable def fX7_smallPointTrouble (a1 : Int32) (σ : mm) : Option (Int32) := fX7_smallPointTrouble_0 a1 σ
set_option maxRecDepth 20000 in
theorem lX7_smallPointTrouble_15 (a1 : Int32) (a3 : Int32) (σ σ0 τ : mm) (hσ : σ = σ0) {r : Option mv} {M' : mm × mm} {v9 : (Int32) ⊕ (Int32)} (h : fX7_smallPointTrouble_15 a1 a3 σ = some v9) (hk : (Sum.elim (fun z : Int32 => Vm mX7_smallPointTrouble 3 15 [(0, .inr (.inr (7, 0))), (1, .inl a1), (3, .inl z)] [] (σ, τ) r M') (fun q : Int32 => r = some (.inl q) ∧ M' = (σ0, τ))) v9) : Vm mX7_smallPointTrouble 3 15 [(0, .inr (.inr (7, 0))), (1, .inl a1), (3, .inl a3)] [] (σ, τ) r M' := by
  unfold fX7_smallPointTrouble_15 at h
  refine Vm.iload_n (n := 16) 2 dX7_smallPointTrouble_15 rfl rfl ?_
  refine Vm.aload_n (n := 17) 0 dX7_smallPointTrouble_16 rfl rfl ?_
  refine Vm.getR (n := 20) dX7_smallPointTrouble_17 rfl wf_RX7_12 in_7 rfl (by decide) rfl ?_
  refine Vm.gX (n := 23) dX7_smallPointTrouble_20 rfl wf_RX7_75 (ink ik_0 (by decide)) rfl (by decide) rfl (by decide) ?_
  refine Vm.icmp_ge (n := 26) 65 dX7_smallPointTrouble_23 rfl rfl (fun c9 => ?_) (fun c9 => ?_)
  · replace h := (if_pos c9).symm.trans h
    refine Vm.iconst (n := 66) (v := (-1 : Int32)) dX7_smallPointTrouble_65 rfl (by decide) ?_
    obtain rfl := Option.some.inj h
    exact Vm.iret dX7_smallPointTrouble_66 rfl hk.1 (by rw [hσ]; exact hk.2.symm)
  · replace h := (if_neg c9).symm.trans h
    refine Vm.aload_n (n := 27) 0 dX7_smallPointTrouble_26 rfl rfl ?_
    refine Vm.getR (n := 30) dX7_smallPointTrouble_27 rfl wf_RX7_56 in_7 rfl (by decide) rfl ?_
    refine Vm.iload_n (n := 31) 1 dX7_smallPointTrouble_30 rfl rfl ?_
    replace h := Option.bind_eq_some_iff.mp h
    obtain ⟨k1, h1, h⟩ := h
    refine Vm.aald (n := 32) dX7_smallPointTrouble_31 rfl in_30 rfl rfl (by decide) (fun _ => rfl) rfl h1 ?_
    have g1 := rdR_lt h1
    refine Vm.getR (n := 35) dX7_smallPointTrouble_32 rfl wf_RX7_259 (ink ik_5 (by omega)) rfl (by decide) rfl ?_
    refine Vm.iload_n (n := 36) 2 dX7_smallPointTrouble_35 rfl rfl ?_
    replace h := Option.bind_eq_some_iff.mp h
    obtain ⟨x2, h2, h⟩ := h
    refine Vm.laldx (n := 37) dX7_smallPointTrouble_36 rfl (ink ik_26 (by omega)) rfl rfl (by decide) h2 ?_
    refine Vm.lstore (n := 39) (lv' := [(4, .inr (.inl x2)), (0, .inr (.inr (7, 0))), (1, .inl a1), (3, .inl a3)]) dX7_smallPointTrouble_37 rfl (Nat.le_of_ble_eq_true rfl) rfl ?_
    refine Vm.lload (n := 41) 0 dX7_smallPointTrouble_39 rfl rfl ?_
    refine Vm.ldc2 (n := 44) dX7_smallPointTrouble_41 rfl wl_RX7_365 ?_
    refine Vm.lcmp (n := 45) dX7_smallPointTrouble_44 rfl ?_
    refine Vm.if_lt (n := 48) 57 dX7_smallPointTrouble_45 rfl rfl (fun c9 => ?_) (fun c9 => ?_)
    · replace h := (if_pos c9).symm.trans h
      refine Vm.iconst (n := 58) (v := (4 : Int32)) dX7_smallPointTrouble_57 rfl (by decide) ?_
      obtain rfl := Option.some.inj h
      exact Vm.iret dX7_smallPointTrouble_58 rfl hk.1 (by rw [hσ]; exact hk.2.symm)
    · replace h := (if_neg c9).symm.trans h
      refine Vm.lload (n := 50) 0 dX7_smallPointTrouble_48 rfl rfl ?_
      refine Vm.ldc2 (n := 53) dX7_smallPointTrouble_50 rfl wl_RX7_367 ?_
      refine Vm.lcmp (n := 54) dX7_smallPointTrouble_53 rfl ?_
      refine Vm.if_le (n := 57) 59 dX7_smallPointTrouble_54 rfl rfl (fun c9 => ?_) (fun c9 => ?_)
      · replace h := (if_pos c9).symm.trans h
        replace h := Option.bind_eq_some_iff.mp h
        obtain ⟨x3, e3, h⟩ := h
        replace e3 := Option.some.inj e3
        refine Vm.iinc (n := 62) (v := x3) (lv' := [(3, .inl x3), (4, .inr (.inl x2)), (0, .inr (.inr (7, 0))), (1, .inl a1)]) 3 dX7_smallPointTrouble_59 rfl rfl e3 (Nat.le_of_ble_eq_true rfl) rfl ?_
        refine Vm.goto 15 dX7_smallPointTrouble_62 rfl ?_
        refine Vm.sub (lv' := [(0, .inr (.inr (7, 0))), (1, .inl a1), (3, .inl x3)]) [2, 3, 0] rfl ?_
        obtain rfl := Option.some.inj h
        exact hk
      · replace h := (if_neg c9).symm.trans h
        refine Vm.iconst (n := 58) (v := (4 : Int32)) dX7_smallPointTrouble_57 rfl (by decide) ?_
        obtain rfl := Option.some.inj h
        exact Vm.iret dX7_smallPointTrouble_58 rfl hk.1 (by rw [hσ]; exact hk.2.symm)
theorem lX7_smallPointTrouble_15_L (a1 : Int32) (σ σ0 τ : mm) (hσ : σ = σ0) {r : Option mv} {M' : mm × mm} (z : Int32) (w9 : Int32) (h : lp (fX7_smallPointTrouble_15_L a1 σ) z = some w9) (hk : (fun q : Int32 => r = some (.inl q) ∧ M' = (σ0, τ)) w9) : Vm mX7_smallPointTrouble 3 15 [(0, .inr (.inr (7, 0))), (1, .inl a1), (3, .inl z)] [] (σ, τ) r M' :=
  lp_link (S := Int32) (R := Int32) (body := fX7_smallPointTrouble_15_L a1 σ) (A := fun z : Int32 => Vm mX7_smallPointTrouble 3 15 [(0, .inr (.inr (7, 0))), (1, .inl a1), (3, .inl z)] [] (σ, τ) r M') (B := fun w : Int32 => (fun q : Int32 => r = some (.inl q) ∧ M' = (σ0, τ)) w) (fun z v hb hv => lX7_smallPointTrouble_15 a1 z σ σ0 τ hσ hb hv) z w9 h hk
set_option maxRecDepth 20000 in
theorem lX7_smallPointTrouble_0 (a1 : Int32) (σ σ0 τ : mm) (hσ : σ = σ0) {r : Option mv} {M' : mm × mm} {v9 : Int32} (h : fX7_smallPointTrouble_0 a1 σ = some v9) (hk : (fun q : Int32 => r = some (.inl q) ∧ M' = (σ0, τ)) v9) : Vm mX7_smallPointTrouble 3 0 [(0, .inr (.inr (7, 0))), (1, .inl a1)] [] (σ, τ) r M' := by
  unfold fX7_smallPointTrouble_0 at h
  refine Vm.aload_n (n := 1) 0 dX7_smallPointTrouble_0 rfl rfl ?_
  refine Vm.iload_n (n := 2) 1 dX7_smallPointTrouble_1 rfl rfl ?_
  replace h := Option.bind_eq_some_iff.mp h
  obtain ⟨q1, h1, h⟩ := h
  refine Vm.callV (Y := mX7_pointTrouble) (n := 5) [.inl a1] dX7_smallPointTrouble_2 rfl wv_RX7_256 omX7_pointTrouble rfl in_7 rfl rfl rfl (Nat.le_of_ble_eq_true rfl) (by decide) (kX7_pointTrouble a1 σ τ h1) ?_
  refine Vm.istore_n (n := 6) (lv' := [(2, .inl q1), (0, .inr (.inr (7, 0))), (1, .inl a1)]) dX7_smallPointTrouble_5 rfl (Nat.le_of_ble_eq_true rfl) rfl ?_
  refine Vm.iload_n (n := 7) 0 dX7_smallPointTrouble_6 rfl rfl ?_
  refine Vm.iconst (n := 8) (v := (-1 : Int32)) dX7_smallPointTrouble_7 rfl (by decide) ?_
  refine Vm.icmp_eq (n := 11) 13 dX7_smallPointTrouble_8 rfl rfl (fun c9 => ?_) (fun c9 => ?_)
  · replace h := (if_pos c9).symm.trans h
    refine Vm.iconst (n := 14) (v := (0 : Int32)) dX7_smallPointTrouble_13 rfl (by decide) ?_
    refine Vm.istore_n (n := 15) (lv' := [(3, .inl (0 : Int32)), (2, .inl q1), (0, .inr (.inr (7, 0))), (1, .inl a1)]) dX7_smallPointTrouble_14 rfl (Nat.le_of_ble_eq_true rfl) rfl ?_
    refine Vm.sub (lv' := [(0, .inr (.inr (7, 0))), (1, .inl a1), (3, .inl (0 : Int32))]) [2, 3, 0] rfl ?_
    exact lX7_smallPointTrouble_15_L a1 σ σ0 τ hσ ((0 : Int32)) _ h hk
  · replace h := (if_neg c9).symm.trans h
    refine Vm.iload_n (n := 12) 0 dX7_smallPointTrouble_11 rfl rfl ?_
    obtain rfl := Option.some.inj h
    exact Vm.iret dX7_smallPointTrouble_12 rfl hk.1 (by rw [hσ]; exact hk.2.symm)
theorem kX7_smallPointTrouble (a1 : Int32) (σ τ : mm) {q : Int32} (h : fX7_smallPointTrouble a1 σ = some q) : Cx mX7_smallPointTrouble 3 [.inr (.inr (7, 0)), .inl a1] (σ, τ) (some (.inl q)) (σ, τ) :=
  Cx.of (lv := [(0, .inr (.inr (7, 0))), (1, .inl a1)]) (by decide) (fun ad => Nat.le_of_ble_eq_true rfl) (fun ad => rfl) (lX7_smallPointTrouble_0 a1 σ σ τ rfl h ⟨rfl, rfl⟩)
-- ThinBodies readSpot (LThinBodies$Sheet;)V
noncomputable def fX7_readSpot_2 (a1 : Nat) (a2 : Int32) (σ : mm) : Option ((Int32 × mm) ⊕ (mm)) :=
  if (σ.1 0 0 0) ≤ a2 then
  some (.inr (σ))
  else
  Option.bind (rdL σ 26 a1 40 a2) fun x1 =>
  Option.bind (wrI σ 20 0 4 a2 x1.toInt32) fun σ2 =>
  Option.bind (some (a2 + (1 : Int32))) fun x3 =>
  some (.inl (x3, σ2))
noncomputable def fX7_readSpot_2_L (a1 : Nat) : Int32 × mm → Option ((Int32 × mm) ⊕ (mm)) := fun z => fX7_readSpot_2 a1 z.1 z.2
noncomputable def fX7_readSpot_0 (a1 : Nat) (σ : mm) : Option (mm) :=
  lp (fX7_readSpot_2_L a1) ((0 : Int32), σ)
noncomputable def fX7_readSpot (a1 : Nat) (σ : mm) : Option (mm) := fX7_readSpot_0 a1 σ
set_option maxRecDepth 20000 in
theorem lX7_readSpot_2 (a1 : Nat) (ha1 : a1 < 4) (a2 : Int32) (σ τ : mm) {r : Option mv} {M' : mm × mm} {v9 : (Int32 × mm) ⊕ (mm)} (h : fX7_readSpot_2 a1 a2 σ = some v9) (hk : (Sum.elim (fun z : Int32 × mm => Vm mX7_readSpot 0 2 [(0, .inr (.inr (7, 0))), (1, .inr (.inr (5, a1))), (2, .inl z.1)] [] (z.2, τ) r M') (fun q : mm => r = none ∧ M' = (q, τ))) v9) : Vm mX7_readSpot 0 2 [(0, .inr (.inr (7, 0))), (1, .inr (.inr (5, a1))), (2, .inl a2)] [] (σ, τ) r M' := by
  unfold fX7_readSpot_2 at h
  refine Vm.iload_n (n := 3) 2 dX7_readSpot_2 rfl rfl ?_
  refine Vm.aload_n (n := 4) 0 dX7_readSpot_3 rfl rfl ?_
  refine Vm.getR (n := 7) dX7_readSpot_4 rfl wf_RX7_12 in_7 rfl (by decide) rfl ?_
  refine Vm.gX (n := 10) dX7_readSpot_7 rfl wf_RX7_75 (ink ik_0 (by decide)) rfl (by decide) rfl (by decide) ?_
  refine Vm.icmp_ge (n := 13) 32 dX7_readSpot_10 rfl rfl (fun c9 => ?_) (fun c9 => ?_)
  · replace h := (if_pos c9).symm.trans h
    obtain rfl := Option.some.inj h
    exact Vm.vret dX7_readSpot_32 rfl hk.1 hk.2.symm
  · replace h := (if_neg c9).symm.trans h
    refine Vm.aload_n (n := 14) 0 dX7_readSpot_13 rfl rfl ?_
    refine Vm.getR (n := 17) dX7_readSpot_14 rfl wf_RX7_64 in_7 rfl (by decide) rfl ?_
    refine Vm.iload_n (n := 18) 2 dX7_readSpot_17 rfl rfl ?_
    refine Vm.aload_n (n := 19) 1 dX7_readSpot_18 rfl rfl ?_
    refine Vm.getR (n := 22) dX7_readSpot_19 rfl wf_RX7_259 (ink ik_5 (by omega)) rfl (by decide) rfl ?_
    refine Vm.iload_n (n := 23) 2 dX7_readSpot_22 rfl rfl ?_
    replace h := Option.bind_eq_some_iff.mp h
    obtain ⟨x1, h1, h⟩ := h
    refine Vm.laldx (n := 24) dX7_readSpot_23 rfl (ink ik_26 (by omega)) rfl rfl (by decide) h1 ?_
    refine Vm.l2i (n := 25) dX7_readSpot_24 rfl ?_
    replace h := Option.bind_eq_some_iff.mp h
    obtain ⟨σ2, h2, h⟩ := h
    refine Vm.iastx (n := 26) dX7_readSpot_25 rfl in_20 rfl rfl (by decide) h2 ?_
    replace h := Option.bind_eq_some_iff.mp h
    obtain ⟨x3, e3, h⟩ := h
    replace e3 := Option.some.inj e3
    refine Vm.iinc (n := 29) (v := x3) (lv' := [(2, .inl x3), (0, .inr (.inr (7, 0))), (1, .inr (.inr (5, a1)))]) 2 dX7_readSpot_26 rfl rfl e3 (Nat.le_of_ble_eq_true rfl) rfl ?_
    refine Vm.goto 2 dX7_readSpot_29 rfl ?_
    refine Vm.sub (lv' := [(0, .inr (.inr (7, 0))), (1, .inr (.inr (5, a1))), (2, .inl x3)]) [1, 2, 0] rfl ?_
    obtain rfl := Option.some.inj h
    exact hk
theorem lX7_readSpot_2_L (a1 : Nat) (ha1 : a1 < 4) (τ : mm) {r : Option mv} {M' : mm × mm} (z : Int32 × mm) (w9 : mm) (h : lp (fX7_readSpot_2_L a1) z = some w9) (hk : (fun q : mm => r = none ∧ M' = (q, τ)) w9) : Vm mX7_readSpot 0 2 [(0, .inr (.inr (7, 0))), (1, .inr (.inr (5, a1))), (2, .inl z.1)] [] (z.2, τ) r M' :=
  lp_link (S := Int32 × mm) (R := mm) (body := fX7_readSpot_2_L a1) (A := fun z : Int32 × mm => Vm mX7_readSpot 0 2 [(0, .inr (.inr (7, 0))), (1, .inr (.inr (5, a1))), (2, .inl z.1)] [] (z.2, τ) r M') (B := fun w : mm => (fun q : mm => r = none ∧ M' = (q, τ)) w) (fun z v hb hv => lX7_readSpot_2 a1 ha1 z.1 z.2 τ hb hv) z w9 h hk
set_option maxRecDepth 20000 in
theorem lX7_readSpot_0 (a1 : Nat) (ha1 : a1 < 4) (σ τ : mm) {r : Option mv} {M' : mm × mm} {v9 : mm} (h : fX7_readSpot_0 a1 σ = some v9) (hk : (fun q : mm => r = none ∧ M' = (q, τ)) v9) : Vm mX7_readSpot 0 0 [(0, .inr (.inr (7, 0))), (1, .inr (.inr (5, a1)))] [] (σ, τ) r M' := by
  unfold fX7_readSpot_0 at h
  refine Vm.iconst (n := 1) (v := (0 : Int32)) dX7_readSpot_0 rfl (by decide) ?_
  refine Vm.istore_n (n := 2) (lv' := [(2, .inl (0 : Int32)), (0, .inr (.inr (7, 0))), (1, .inr (.inr (5, a1)))]) dX7_readSpot_1 rfl (Nat.le_of_ble_eq_true rfl) rfl ?_
  refine Vm.sub (lv' := [(0, .inr (.inr (7, 0))), (1, .inr (.inr (5, a1))), (2, .inl (0 : Int32))]) [1, 2, 0] rfl ?_
  exact lX7_readSpot_2_L a1 (by omega) τ ((0 : Int32), σ) _ h hk
theorem kX7_readSpot (a1 : Nat) (ha1 : a1 < 4) (σ τ : mm) {q : mm} (h : fX7_readSpot a1 σ = some q) : Cx mX7_readSpot 0 [.inr (.inr (7, 0)), .inr (.inr (5, a1))] (σ, τ) (none) (q, τ) :=
  Cx.of (lv := [(0, .inr (.inr (7, 0))), (1, .inr (.inr (5, a1)))]) (by decide) (fun ad => Nat.le_of_ble_eq_true rfl) (fun ad => rfl) (lX7_readSpot_0 a1 ha1 σ τ h ⟨rfl, rfl⟩)
-- ThinBodies$Row sumIn ([II)I
noncomputable def fX4_sumIn_20_5 (a0 : Nat) (a2 : Int32) (a3 : Int32) (a4 : Int32) (σ : mm) : Option ((Int32 × Int32) ⊕ (Int32)) :=
  if a2 ≤ a4 then
  some (.inr (a3))
  else
  Option.bind (rdI σ 10 a0 4 a4) fun x1 =>
  Option.bind (rdI σ 20 0 4 a4) fun x2 =>
  Option.bind (some (a3 + (x1 * x2))) fun x3 =>
  Option.bind (some (a4 + (1 : Int32))) fun x4 =>
  some (.inl (x3, x4))
noncomputable def fX4_sumIn_20_5_L (a0 : Nat) (a2 : Int32) (σ : mm) : Int32 × Int32 → Option ((Int32 × Int32) ⊕ (Int32)) := fun z => fX4_sumIn_20_5 a0 a2 z.1 z.2 σ
noncomputable def fX4_sumIn_20_0 (a0 : Nat) (a2 : Int32) (σ : mm) : Option (Int32) :=
  lp (fX4_sumIn_20_5_L a0 a2 σ) ((0 : Int32), (0 : Int32))
noncomputable def fX4_sumIn_20 (a0 : Nat) (a2 : Int32) (σ : mm) : Option (Int32) := fX4_sumIn_20_0 a0 a2 σ
set_option maxRecDepth 20000 in
theorem lX4_sumIn_20_5 (a0 : Nat) (ha0 : a0 < 24) (a2 : Int32) (a3 : Int32) (a4 : Int32) (σ σ0 τ : mm) (hσ : σ = σ0) {r : Option mv} {M' : mm × mm} {v9 : (Int32 × Int32) ⊕ (Int32)} (h : fX4_sumIn_20_5 a0 a2 a3 a4 σ = some v9) (hk : (Sum.elim (fun z : Int32 × Int32 => Vm mX4_sumIn 0 5 [(0, .inr (.inr (4, a0))), (1, .inr (.inr (20, 0))), (2, .inl a2), (3, .inl z.1), (4, .inl z.2)] [] (σ, τ) r M') (fun q : Int32 => r = some (.inl q) ∧ M' = (σ0, τ))) v9) : Vm mX4_sumIn 0 5 [(0, .inr (.inr (4, a0))), (1, .inr (.inr (20, 0))), (2, .inl a2), (3, .inl a3), (4, .inl a4)] [] (σ, τ) r M' := by
  unfold fX4_sumIn_20_5 at h
  refine Vm.iload (n := 7) 4 dX4_sumIn_5 rfl rfl ?_
  refine Vm.iload_n (n := 8) 2 dX4_sumIn_7 rfl rfl ?_
  refine Vm.icmp_ge (n := 11) 32 dX4_sumIn_8 rfl rfl (fun c9 => ?_) (fun c9 => ?_)
  · replace h := (if_pos c9).symm.trans h
    refine Vm.iload_n (n := 33) 3 dX4_sumIn_32 rfl rfl ?_
    obtain rfl := Option.some.inj h
    exact Vm.iret dX4_sumIn_33 rfl hk.1 (by rw [hσ]; exact hk.2.symm)
  · replace h := (if_neg c9).symm.trans h
    refine Vm.iload_n (n := 12) 3 dX4_sumIn_11 rfl rfl ?_
    refine Vm.aload_n (n := 13) 0 dX4_sumIn_12 rfl rfl ?_
    refine Vm.getR (n := 16) dX4_sumIn_13 rfl wf_RX4_21 (ink ik_4 (by omega)) rfl (by decide) rfl ?_
    refine Vm.iload (n := 18) 4 dX4_sumIn_16 rfl rfl ?_
    replace h := Option.bind_eq_some_iff.mp h
    obtain ⟨x1, h1, h⟩ := h
    refine Vm.ialdx (n := 19) dX4_sumIn_18 rfl (ink ik_10 (by omega)) rfl rfl (by decide) h1 ?_
    refine Vm.aload_n (n := 20) 1 dX4_sumIn_19 rfl rfl ?_
    refine Vm.iload (n := 22) 4 dX4_sumIn_20 rfl rfl ?_
    replace h := Option.bind_eq_some_iff.mp h
    obtain ⟨x2, h2, h⟩ := h
    refine Vm.ialdx (n := 23) dX4_sumIn_22 rfl in_20 rfl rfl (by decide) h2 ?_
    refine Vm.imul (n := 24) dX4_sumIn_23 rfl ?_
    refine Vm.iadd (n := 25) dX4_sumIn_24 rfl ?_
    replace h := Option.bind_eq_some_iff.mp h
    obtain ⟨x3, e3, h⟩ := h
    replace e3 := Option.some.inj e3
    refine Vm.top e3 ?_
    refine Vm.istore_n (n := 26) (lv' := [(3, .inl x3), (0, .inr (.inr (4, a0))), (1, .inr (.inr (20, 0))), (2, .inl a2), (4, .inl a4)]) dX4_sumIn_25 rfl (Nat.le_of_ble_eq_true rfl) rfl ?_
    replace h := Option.bind_eq_some_iff.mp h
    obtain ⟨x4, e4, h⟩ := h
    replace e4 := Option.some.inj e4
    refine Vm.iinc (n := 29) (v := x4) (lv' := [(4, .inl x4), (3, .inl x3), (0, .inr (.inr (4, a0))), (1, .inr (.inr (20, 0))), (2, .inl a2)]) 4 dX4_sumIn_26 rfl rfl e4 (Nat.le_of_ble_eq_true rfl) rfl ?_
    refine Vm.goto 5 dX4_sumIn_29 rfl ?_
    refine Vm.sub (lv' := [(0, .inr (.inr (4, a0))), (1, .inr (.inr (20, 0))), (2, .inl a2), (3, .inl x3), (4, .inl x4)]) [2, 3, 4, 1, 0] rfl ?_
    obtain rfl := Option.some.inj h
    exact hk
theorem lX4_sumIn_20_5_L (a0 : Nat) (ha0 : a0 < 24) (a2 : Int32) (σ σ0 τ : mm) (hσ : σ = σ0) {r : Option mv} {M' : mm × mm} (z : Int32 × Int32) (w9 : Int32) (h : lp (fX4_sumIn_20_5_L a0 a2 σ) z = some w9) (hk : (fun q : Int32 => r = some (.inl q) ∧ M' = (σ0, τ)) w9) : Vm mX4_sumIn 0 5 [(0, .inr (.inr (4, a0))), (1, .inr (.inr (20, 0))), (2, .inl a2), (3, .inl z.1), (4, .inl z.2)] [] (σ, τ) r M' :=
  lp_link (S := Int32 × Int32) (R := Int32) (body := fX4_sumIn_20_5_L a0 a2 σ) (A := fun z : Int32 × Int32 => Vm mX4_sumIn 0 5 [(0, .inr (.inr (4, a0))), (1, .inr (.inr (20, 0))), (2, .inl a2), (3, .inl z.1), (4, .inl z.2)] [] (σ, τ) r M') (B := fun w : Int32 => (fun q : Int32 => r = some (.inl q) ∧ M' = (σ0, τ)) w) (fun z v hb hv => lX4_sumIn_20_5 a0 ha0 a2 z.1 z.2 σ σ0 τ hσ hb hv) z w9 h hk
set_option maxRecDepth 20000 in
theorem lX4_sumIn_20_0 (a0 : Nat) (ha0 : a0 < 24) (a2 : Int32) (σ σ0 τ : mm) (hσ : σ = σ0) {r : Option mv} {M' : mm × mm} {v9 : Int32} (h : fX4_sumIn_20_0 a0 a2 σ = some v9) (hk : (fun q : Int32 => r = some (.inl q) ∧ M' = (σ0, τ)) v9) : Vm mX4_sumIn 0 0 [(0, .inr (.inr (4, a0))), (1, .inr (.inr (20, 0))), (2, .inl a2)] [] (σ, τ) r M' := by
  unfold fX4_sumIn_20_0 at h
  refine Vm.iconst (n := 1) (v := (0 : Int32)) dX4_sumIn_0 rfl (by decide) ?_
  refine Vm.istore_n (n := 2) (lv' := [(3, .inl (0 : Int32)), (0, .inr (.inr (4, a0))), (1, .inr (.inr (20, 0))), (2, .inl a2)]) dX4_sumIn_1 rfl (Nat.le_of_ble_eq_true rfl) rfl ?_
  refine Vm.iconst (n := 3) (v := (0 : Int32)) dX4_sumIn_2 rfl (by decide) ?_
  refine Vm.istore (n := 5) (lv' := [(4, .inl (0 : Int32)), (3, .inl (0 : Int32)), (0, .inr (.inr (4, a0))), (1, .inr (.inr (20, 0))), (2, .inl a2)]) dX4_sumIn_3 rfl (Nat.le_of_ble_eq_true rfl) rfl ?_
  refine Vm.sub (lv' := [(0, .inr (.inr (4, a0))), (1, .inr (.inr (20, 0))), (2, .inl a2), (3, .inl (0 : Int32)), (4, .inl (0 : Int32))]) [2, 3, 4, 1, 0] rfl ?_
  exact lX4_sumIn_20_5_L a0 (by omega) a2 σ σ0 τ hσ ((0 : Int32), (0 : Int32)) _ h hk
theorem kX4_sumIn_20 (a0 : Nat) (ha0 : a0 < 24) (a2 : Int32) (σ τ : mm) {q : Int32} (h : fX4_sumIn_20 a0 a2 σ = some q) : Cx mX4_sumIn 0 [.inr (.inr (4, a0)), .inr (.inr (20, 0)), .inl a2] (σ, τ) (some (.inl q)) (σ, τ) :=
  Cx.of (lv := [(0, .inr (.inr (4, a0))), (1, .inr (.inr (20, 0))), (2, .inl a2)]) (by decide) (fun ad => Nat.le_of_ble_eq_true rfl) (fun ad => rfl) (lX4_sumIn_20_0 a0 ha0 a2 σ σ τ rfl h ⟨rfl, rfl⟩)
-- ThinBodies$Body brokenIn ([I)I
noncomputable def fX0_brokenIn_20_44 (a0 : Nat) (a2 : Int32) (a3 : Int32) (σ : mm) : Option ((Int32 × Int32) ⊕ (Int32)) :=
  Option.bind (some (a3 + (1 : Int32))) fun x1 =>
  some (.inl (a2, x1))
noncomputable def fX0_brokenIn_20_4 (a0 : Nat) (a2 : Int32) (a3 : Int32) (σ : mm) : Option ((Int32 × Int32) ⊕ (Int32)) :=
  if (σ.1 0 a0 4) ≤ a3 then
  some (.inr (a2))
  else
  Option.bind (rdR 8 a3) fun k1 =>
  Option.bind (rdR 8 a3) fun k2 =>
  Option.bind (fX4_sumIn_20 (8 * a0 + k2) (σ.1 0 a0 0) σ) fun q3 =>
  Option.bind (fX4_allows (8 * a0 + k1) q3 σ) fun q4 =>
  if (bi q4) = (0 : Int32) then
  Option.bind (some (a2 ||| ((1 : Int32) <<< (a3 &&& 31)))) fun x5 =>
  fX0_brokenIn_20_44 a0 x5 a3 σ
  else
  fX0_brokenIn_20_44 a0 a2 a3 σ
noncomputable def fX0_brokenIn_20_4_L (a0 : Nat) (σ : mm) : Int32 × Int32 → Option ((Int32 × Int32) ⊕ (Int32)) := fun z => fX0_brokenIn_20_4 a0 z.1 z.2 σ
noncomputable def fX0_brokenIn_20_0 (a0 : Nat) (σ : mm) : Option (Int32) :=
  lp (fX0_brokenIn_20_4_L a0 σ) ((0 : Int32), (0 : Int32))
noncomputable def fX0_brokenIn_20 (a0 : Nat) (σ : mm) : Option (Int32) := fX0_brokenIn_20_0 a0 σ
set_option maxRecDepth 20000 in
theorem lX0_brokenIn_20_44 (a0 : Nat) (ha0 : a0 < 3) (a2 : Int32) (a3 : Int32) (σ σ0 τ : mm) (hσ : σ = σ0) {r : Option mv} {M' : mm × mm} {v9 : (Int32 × Int32) ⊕ (Int32)} (h : fX0_brokenIn_20_44 a0 a2 a3 σ = some v9) (hk : (Sum.elim (fun z : Int32 × Int32 => Vm mX0_brokenIn 3 4 [(0, .inr (.inr (0, a0))), (1, .inr (.inr (20, 0))), (2, .inl z.1), (3, .inl z.2)] [] (σ, τ) r M') (fun q : Int32 => r = some (.inl q) ∧ M' = (σ0, τ))) v9) : Vm mX0_brokenIn 3 44 [(0, .inr (.inr (0, a0))), (1, .inr (.inr (20, 0))), (2, .inl a2), (3, .inl a3)] [] (σ, τ) r M' := by
  unfold fX0_brokenIn_20_44 at h
  replace h := Option.bind_eq_some_iff.mp h
  obtain ⟨x1, e1, h⟩ := h
  replace e1 := Option.some.inj e1
  refine Vm.iinc (n := 47) (v := x1) (lv' := [(3, .inl x1), (0, .inr (.inr (0, a0))), (1, .inr (.inr (20, 0))), (2, .inl a2)]) 3 dX0_brokenIn_44 rfl rfl e1 (Nat.le_of_ble_eq_true rfl) rfl ?_
  refine Vm.goto 4 dX0_brokenIn_47 rfl ?_
  refine Vm.sub (lv' := [(0, .inr (.inr (0, a0))), (1, .inr (.inr (20, 0))), (2, .inl a2), (3, .inl x1)]) [1, 2, 3, 0] rfl ?_
  obtain rfl := Option.some.inj h
  exact hk
set_option maxRecDepth 20000 in
theorem lX0_brokenIn_20_4 (a0 : Nat) (ha0 : a0 < 3) (a2 : Int32) (a3 : Int32) (σ σ0 τ : mm) (hσ : σ = σ0) {r : Option mv} {M' : mm × mm} {v9 : (Int32 × Int32) ⊕ (Int32)} (h : fX0_brokenIn_20_4 a0 a2 a3 σ = some v9) (hk : (Sum.elim (fun z : Int32 × Int32 => Vm mX0_brokenIn 3 4 [(0, .inr (.inr (0, a0))), (1, .inr (.inr (20, 0))), (2, .inl z.1), (3, .inl z.2)] [] (σ, τ) r M') (fun q : Int32 => r = some (.inl q) ∧ M' = (σ0, τ))) v9) : Vm mX0_brokenIn 3 4 [(0, .inr (.inr (0, a0))), (1, .inr (.inr (20, 0))), (2, .inl a2), (3, .inl a3)] [] (σ, τ) r M' := by
  unfold fX0_brokenIn_20_4 at h
  refine Vm.iload_n (n := 5) 3 dX0_brokenIn_4 rfl rfl ?_
  refine Vm.aload_n (n := 6) 0 dX0_brokenIn_5 rfl rfl ?_
  refine Vm.gX (n := 9) dX0_brokenIn_6 rfl wf_RX0_28 (ink ik_0 (by omega)) rfl (by decide) rfl (by decide) ?_
  refine Vm.icmp_ge (n := 12) 50 dX0_brokenIn_9 rfl rfl (fun c9 => ?_) (fun c9 => ?_)
  · replace h := (if_pos c9).symm.trans h
    refine Vm.iload_n (n := 51) 2 dX0_brokenIn_50 rfl rfl ?_
    obtain rfl := Option.some.inj h
    exact Vm.iret dX0_brokenIn_51 rfl hk.1 (by rw [hσ]; exact hk.2.symm)
  · replace h := (if_neg c9).symm.trans h
    refine Vm.aload_n (n := 13) 0 dX0_brokenIn_12 rfl rfl ?_
    refine Vm.getR (n := 16) dX0_brokenIn_13 rfl wf_RX0_24 (ink ik_0 (by omega)) rfl (by decide) rfl ?_
    refine Vm.iload_n (n := 17) 3 dX0_brokenIn_16 rfl rfl ?_
    replace h := Option.bind_eq_some_iff.mp h
    obtain ⟨k1, h1, h⟩ := h
    refine Vm.aald (n := 18) dX0_brokenIn_17 rfl (ink ik_27 (by omega)) rfl rfl (by decide) (fun _ => rfl) rfl h1 ?_
    have g1 := rdR_lt h1
    refine Vm.aload_n (n := 19) 0 dX0_brokenIn_18 rfl rfl ?_
    refine Vm.getR (n := 22) dX0_brokenIn_19 rfl wf_RX0_24 (ink ik_0 (by omega)) rfl (by decide) rfl ?_
    refine Vm.iload_n (n := 23) 3 dX0_brokenIn_22 rfl rfl ?_
    replace h := Option.bind_eq_some_iff.mp h
    obtain ⟨k2, h2, h⟩ := h
    refine Vm.aald (n := 24) dX0_brokenIn_23 rfl (ink ik_27 (by omega)) rfl rfl (by decide) (fun _ => rfl) rfl h2 ?_
    have g2 := rdR_lt h2
    refine Vm.aload_n (n := 25) 1 dX0_brokenIn_24 rfl rfl ?_
    refine Vm.aload_n (n := 26) 0 dX0_brokenIn_25 rfl rfl ?_
    refine Vm.gX (n := 29) dX0_brokenIn_26 rfl wf_RX0_9 (ink ik_0 (by omega)) rfl (by decide) rfl (by decide) ?_
    replace h := Option.bind_eq_some_iff.mp h
    obtain ⟨q3, h3, h⟩ := h
    refine Vm.callV (Y := mX4_sumIn) (n := 32) [.inr (.inr (20, 0)), .inl (σ.1 0 a0 0)] dX0_brokenIn_29 rfl wv_RX0_58 omX4_sumIn rfl (ink ik_4 (by omega)) rfl rfl rfl (Nat.le_of_ble_eq_true rfl) (by decide) (kX4_sumIn_20 (8 * a0 + k2) (by omega) (σ.1 0 a0 0) σ τ h3) ?_
    replace h := Option.bind_eq_some_iff.mp h
    obtain ⟨q4, h4, h⟩ := h
    refine Vm.callV (Y := mX4_allows) (n := 35) [.inl q3] dX0_brokenIn_32 rfl wv_RX0_62 omX4_allows rfl (ink ik_4 (by omega)) rfl rfl rfl (Nat.le_of_ble_eq_true rfl) (by decide) (kX4_allows (8 * a0 + k1) (by omega) q3 σ τ h4) ?_
    refine Vm.if_ne (n := 38) 44 dX0_brokenIn_35 rfl rfl (fun c9 => ?_) (fun c9 => ?_)
    · replace h := (if_neg c9).symm.trans h
      exact lX0_brokenIn_20_44 a0 (by omega) a2 a3 σ σ0 τ hσ h hk
    · replace h := (if_pos c9).symm.trans h
      refine Vm.iload_n (n := 39) 2 dX0_brokenIn_38 rfl rfl ?_
      refine Vm.iconst (n := 40) (v := (1 : Int32)) dX0_brokenIn_39 rfl (by decide) ?_
      refine Vm.iload_n (n := 41) 3 dX0_brokenIn_40 rfl rfl ?_
      refine Vm.ishl (n := 42) dX0_brokenIn_41 rfl ?_
      refine Vm.ior (n := 43) dX0_brokenIn_42 rfl ?_
      replace h := Option.bind_eq_some_iff.mp h
      obtain ⟨x5, e5, h⟩ := h
      replace e5 := Option.some.inj e5
      refine Vm.top e5 ?_
      refine Vm.istore_n (n := 44) (lv' := [(2, .inl x5), (0, .inr (.inr (0, a0))), (1, .inr (.inr (20, 0))), (3, .inl a3)]) dX0_brokenIn_43 rfl (Nat.le_of_ble_eq_true rfl) rfl ?_
      refine Vm.sub (lv' := [(0, .inr (.inr (0, a0))), (1, .inr (.inr (20, 0))), (2, .inl x5), (3, .inl a3)]) [1, 2, 0, 3] rfl ?_
      exact lX0_brokenIn_20_44 a0 (by omega) x5 a3 σ σ0 τ hσ h hk
theorem lX0_brokenIn_20_4_L (a0 : Nat) (ha0 : a0 < 3) (σ σ0 τ : mm) (hσ : σ = σ0) {r : Option mv} {M' : mm × mm} (z : Int32 × Int32) (w9 : Int32) (h : lp (fX0_brokenIn_20_4_L a0 σ) z = some w9) (hk : (fun q : Int32 => r = some (.inl q) ∧ M' = (σ0, τ)) w9) : Vm mX0_brokenIn 3 4 [(0, .inr (.inr (0, a0))), (1, .inr (.inr (20, 0))), (2, .inl z.1), (3, .inl z.2)] [] (σ, τ) r M' :=
  lp_link (S := Int32 × Int32) (R := Int32) (body := fX0_brokenIn_20_4_L a0 σ) (A := fun z : Int32 × Int32 => Vm mX0_brokenIn 3 4 [(0, .inr (.inr (0, a0))), (1, .inr (.inr (20, 0))), (2, .inl z.1), (3, .inl z.2)] [] (σ, τ) r M') (B := fun w : Int32 => (fun q : Int32 => r = some (.inl q) ∧ M' = (σ0, τ)) w) (fun z v hb hv => lX0_brokenIn_20_4 a0 ha0 z.1 z.2 σ σ0 τ hσ hb hv) z w9 h hk
set_option maxRecDepth 20000 in
theorem lX0_brokenIn_20_0 (a0 : Nat) (ha0 : a0 < 3) (σ σ0 τ : mm) (hσ : σ = σ0) {r : Option mv} {M' : mm × mm} {v9 : Int32} (h : fX0_brokenIn_20_0 a0 σ = some v9) (hk : (fun q : Int32 => r = some (.inl q) ∧ M' = (σ0, τ)) v9) : Vm mX0_brokenIn 3 0 [(0, .inr (.inr (0, a0))), (1, .inr (.inr (20, 0)))] [] (σ, τ) r M' := by
  unfold fX0_brokenIn_20_0 at h
  refine Vm.iconst (n := 1) (v := (0 : Int32)) dX0_brokenIn_0 rfl (by decide) ?_
  refine Vm.istore_n (n := 2) (lv' := [(2, .inl (0 : Int32)), (0, .inr (.inr (0, a0))), (1, .inr (.inr (20, 0)))]) dX0_brokenIn_1 rfl (Nat.le_of_ble_eq_true rfl) rfl ?_
  refine Vm.iconst (n := 3) (v := (0 : Int32)) dX0_brokenIn_2 rfl (by decide) ?_
  refine Vm.istore_n (n := 4) (lv' := [(3, .inl (0 : Int32)), (2, .inl (0 : Int32)), (0, .inr (.inr (0, a0))), (1, .inr (.inr (20, 0)))]) dX0_brokenIn_3 rfl (Nat.le_of_ble_eq_true rfl) rfl ?_
  refine Vm.sub (lv' := [(0, .inr (.inr (0, a0))), (1, .inr (.inr (20, 0))), (2, .inl (0 : Int32)), (3, .inl (0 : Int32))]) [2, 3, 1, 0] rfl ?_
  exact lX0_brokenIn_20_4_L a0 (by omega) σ σ0 τ hσ ((0 : Int32), (0 : Int32)) _ h hk
theorem kX0_brokenIn_20 (a0 : Nat) (ha0 : a0 < 3) (σ τ : mm) {q : Int32} (h : fX0_brokenIn_20 a0 σ = some q) : Cx mX0_brokenIn 3 [.inr (.inr (0, a0)), .inr (.inr (20, 0))] (σ, τ) (some (.inl q)) (σ, τ) :=
  Cx.of (lv := [(0, .inr (.inr (0, a0))), (1, .inr (.inr (20, 0)))]) (by decide) (fun ad => Nat.le_of_ble_eq_true rfl) (fun ad => rfl) (lX0_brokenIn_20_0 a0 ha0 σ σ τ rfl h ⟨rfl, rfl⟩)
-- ThinBodies holds (I)I
noncomputable def fX7_holds_0 (a1 : Int32) (σ : mm) : Option (Int32 × mm) :=
  Option.bind (fX7_smallPointTrouble a1 σ) fun q1 =>
  if q1 = (-1 : Int32) then
  Option.bind (rdR 4 a1) fun k2 =>
  Option.bind (fX7_readSpot k2 σ) fun q3 =>
  Option.bind (some (((1 : Int32) <<< ((q3.1 0 0 4) &&& 31)) - (1 : Int32))) fun x4 =>
  Option.bind (fX0_brokenIn_20 0 q3) fun q5 =>
  some ((x4 &&& (q5 ^^^ (-1 : Int32)), q3))
  else
  Option.bind (fX7_finding q1 σ) fun q6 =>
  some ((q6.1, q6.2))
noncomputable def fX7_holds (a1 : Int32) (σ : mm) : Option (Int32 × mm) := fX7_holds_0 a1 σ
set_option maxRecDepth 20000 in
theorem lX7_holds_0 (a1 : Int32) (σ τ : mm) {r : Option mv} {M' : mm × mm} {v9 : Int32 × mm} (h : fX7_holds_0 a1 σ = some v9) (hk : (fun q : Int32 × mm => r = some (.inl q.1) ∧ M' = (q.2, τ)) v9) : Vm mX7_holds 4 0 [(0, .inr (.inr (7, 0))), (1, .inl a1)] [] (σ, τ) r M' := by
  unfold fX7_holds_0 at h
  refine Vm.aload_n (n := 1) 0 dX7_holds_0 rfl rfl ?_
  refine Vm.iload_n (n := 2) 1 dX7_holds_1 rfl rfl ?_
  replace h := Option.bind_eq_some_iff.mp h
  obtain ⟨q1, h1, h⟩ := h
  refine Vm.callV (Y := mX7_smallPointTrouble) (n := 5) [.inl a1] dX7_holds_2 rfl wv_RX7_168 omX7_smallPointTrouble rfl in_7 rfl rfl rfl (Nat.le_of_ble_eq_true rfl) (by decide) (kX7_smallPointTrouble a1 σ τ h1) ?_
  refine Vm.istore_n (n := 6) (lv' := [(2, .inl q1), (0, .inr (.inr (7, 0))), (1, .inl a1)]) dX7_holds_5 rfl (Nat.le_of_ble_eq_true rfl) rfl ?_
  refine Vm.iload_n (n := 7) 0 dX7_holds_6 rfl rfl ?_
  refine Vm.iconst (n := 8) (v := (-1 : Int32)) dX7_holds_7 rfl (by decide) ?_
  refine Vm.icmp_eq (n := 11) 17 dX7_holds_8 rfl rfl (fun c9 => ?_) (fun c9 => ?_)
  · replace h := (if_pos c9).symm.trans h
    refine Vm.aload_n (n := 18) 1 dX7_holds_17 rfl rfl ?_
    refine Vm.aload_n (n := 19) 1 dX7_holds_18 rfl rfl ?_
    refine Vm.getR (n := 22) dX7_holds_19 rfl wf_RX7_56 in_7 rfl (by decide) rfl ?_
    refine Vm.iload_n (n := 23) 2 dX7_holds_22 rfl rfl ?_
    replace h := Option.bind_eq_some_iff.mp h
    obtain ⟨k2, h2, h⟩ := h
    refine Vm.aald (n := 24) dX7_holds_23 rfl in_30 rfl rfl (by decide) (fun _ => rfl) rfl h2 ?_
    have g2 := rdR_lt h2
    replace h := Option.bind_eq_some_iff.mp h
    obtain ⟨q3, h3, h⟩ := h
    refine Vm.callVv (Y := mX7_readSpot) (n := 27) [.inr (.inr (5, k2))] dX7_holds_24 rfl wv_RX7_171 omX7_readSpot rfl in_7 rfl rfl rfl (Nat.le_of_ble_eq_true rfl) (by decide) (kX7_readSpot k2 (by omega) σ τ h3) ?_
    refine Vm.iconst (n := 28) (v := (1 : Int32)) dX7_holds_27 rfl (by decide) ?_
    refine Vm.aload_n (n := 29) 1 dX7_holds_28 rfl rfl ?_
    refine Vm.getR (n := 32) dX7_holds_29 rfl wf_RX7_12 in_7 rfl (by decide) rfl ?_
    refine Vm.gX (n := 35) dX7_holds_32 rfl wf_RX7_117 (ink ik_0 (by decide)) rfl (by decide) rfl (by decide) ?_
    refine Vm.ishl (n := 36) dX7_holds_35 rfl ?_
    refine Vm.iconst (n := 37) (v := (1 : Int32)) dX7_holds_36 rfl (by decide) ?_
    refine Vm.isub (n := 38) dX7_holds_37 rfl ?_
    replace h := Option.bind_eq_some_iff.mp h
    obtain ⟨x4, e4, h⟩ := h
    replace e4 := Option.some.inj e4
    refine Vm.top e4 ?_
    refine Vm.istore_n (n := 39) (lv' := [(3, .inl x4), (2, .inl q1), (0, .inr (.inr (7, 0))), (1, .inl a1)]) dX7_holds_38 rfl (Nat.le_of_ble_eq_true rfl) rfl ?_
    refine Vm.iload_n (n := 40) 0 dX7_holds_39 rfl rfl ?_
    refine Vm.aload_n (n := 41) 2 dX7_holds_40 rfl rfl ?_
    refine Vm.getR (n := 44) dX7_holds_41 rfl wf_RX7_12 in_7 rfl (by decide) rfl ?_
    refine Vm.aload_n (n := 45) 2 dX7_holds_44 rfl rfl ?_
    refine Vm.getR (n := 48) dX7_holds_45 rfl wf_RX7_64 in_7 rfl (by decide) rfl ?_
    replace h := Option.bind_eq_some_iff.mp h
    obtain ⟨q5, h5, h⟩ := h
    refine Vm.callV (Y := mX0_brokenIn) (n := 51) [.inr (.inr (20, 0))] dX7_holds_48 rfl wv_RX7_175 omX0_brokenIn rfl (ink ik_0 (by decide)) rfl rfl rfl (Nat.le_of_ble_eq_true rfl) (by decide) (kX0_brokenIn_20 0 (by decide) q3 τ h5) ?_
    refine Vm.iconst (n := 52) (v := (-1 : Int32)) dX7_holds_51 rfl (by decide) ?_
    refine Vm.ixor (n := 53) dX7_holds_52 rfl ?_
    refine Vm.iand (n := 54) dX7_holds_53 rfl ?_
    obtain rfl := Option.some.inj h
    exact Vm.iret dX7_holds_54 rfl hk.1 hk.2.symm
  · replace h := (if_neg c9).symm.trans h
    refine Vm.aload_n (n := 12) 1 dX7_holds_11 rfl rfl ?_
    refine Vm.iload_n (n := 13) 0 dX7_holds_12 rfl rfl ?_
    replace h := Option.bind_eq_some_iff.mp h
    obtain ⟨q6, h6, h⟩ := h
    refine Vm.callV (Y := mX7_finding) (n := 16) [.inl q1] dX7_holds_13 rfl wv_RX7_68 omX7_finding rfl in_7 rfl rfl rfl (Nat.le_of_ble_eq_true rfl) (by decide) (kX7_finding q1 σ τ h6) ?_
    obtain rfl := Option.some.inj h
    exact Vm.iret dX7_holds_16 rfl hk.1 hk.2.symm
theorem kX7_holds (a1 : Int32) (σ τ : mm) {q : Int32 × mm} (h : fX7_holds a1 σ = some q) : Cx mX7_holds 4 [.inr (.inr (7, 0)), .inl a1] (σ, τ) (some (.inl q.1)) (q.2, τ) :=
  Cx.of (lv := [(0, .inr (.inr (7, 0))), (1, .inl a1)]) (by decide) (fun ad => Nat.le_of_ble_eq_true rfl) (fun ad => rfl) (lX7_holds_0 a1 σ τ h ⟨rfl, rfl⟩)
-- ThinBodies$Cloud directions (I)I
noncomputable def fX1_directions_4 (a0 : Int32) (a1 : Int32) (a2 : Int32) : Option ((Int32 × Int32) ⊕ (Int32)) :=
  if a0 ≤ a2 then
  some (.inr (a1))
  else
  Option.bind (some (a1 * (5 : Int32))) fun x1 =>
  Option.bind (some (a2 + (1 : Int32))) fun x2 =>
  some (.inl (x1, x2))
noncomputable def fX1_directions_4_L (a0 : Int32) : Int32 × Int32 → Option ((Int32 × Int32) ⊕ (Int32)) := fun z => fX1_directions_4 a0 z.1 z.2
noncomputable def fX1_directions_0 (a0 : Int32) : Option (Int32) :=
  lp (fX1_directions_4_L a0) ((1 : Int32), (0 : Int32))
noncomputable def fX1_directions (a0 : Int32) : Option (Int32) := fX1_directions_0 a0
set_option maxRecDepth 20000 in
theorem lX1_directions_4 (a0 : Int32) (a1 : Int32) (a2 : Int32) {M : mm × mm} {r : Option mv} {M' : mm × mm} {v9 : (Int32 × Int32) ⊕ (Int32)} (h : fX1_directions_4 a0 a1 a2 = some v9) (hk : (Sum.elim (fun z : Int32 × Int32 => Vm mX1_directions 0 4 [(0, .inl a0), (1, .inl z.1), (2, .inl z.2)] [] M r M') (fun q : Int32 => r = some (.inl q) ∧ M' = M)) v9) : Vm mX1_directions 0 4 [(0, .inl a0), (1, .inl a1), (2, .inl a2)] [] M r M' := by
  unfold fX1_directions_4 at h
  refine Vm.iload_n (n := 5) 2 dX1_directions_4 rfl rfl ?_
  refine Vm.iload_n (n := 6) 0 dX1_directions_5 rfl rfl ?_
  refine Vm.icmp_ge (n := 9) 19 dX1_directions_6 rfl rfl (fun c9 => ?_) (fun c9 => ?_)
  · replace h := (if_pos c9).symm.trans h
    refine Vm.iload_n (n := 20) 1 dX1_directions_19 rfl rfl ?_
    obtain rfl := Option.some.inj h
    exact Vm.iret dX1_directions_20 rfl hk.1 hk.2.symm
  · replace h := (if_neg c9).symm.trans h
    refine Vm.iload_n (n := 10) 1 dX1_directions_9 rfl rfl ?_
    refine Vm.iconst (n := 11) (v := (5 : Int32)) dX1_directions_10 rfl (by decide) ?_
    refine Vm.imul (n := 12) dX1_directions_11 rfl ?_
    replace h := Option.bind_eq_some_iff.mp h
    obtain ⟨x1, e1, h⟩ := h
    replace e1 := Option.some.inj e1
    refine Vm.top e1 ?_
    refine Vm.istore_n (n := 13) (lv' := [(1, .inl x1), (0, .inl a0), (2, .inl a2)]) dX1_directions_12 rfl (Nat.le_of_ble_eq_true rfl) rfl ?_
    replace h := Option.bind_eq_some_iff.mp h
    obtain ⟨x2, e2, h⟩ := h
    replace e2 := Option.some.inj e2
    refine Vm.iinc (n := 16) (v := x2) (lv' := [(2, .inl x2), (1, .inl x1), (0, .inl a0)]) 2 dX1_directions_13 rfl rfl e2 (Nat.le_of_ble_eq_true rfl) rfl ?_
    refine Vm.goto 4 dX1_directions_16 rfl ?_
    refine Vm.sub (lv' := [(0, .inl a0), (1, .inl x1), (2, .inl x2)]) [2, 1, 0] rfl ?_
    obtain rfl := Option.some.inj h
    exact hk
theorem lX1_directions_4_L (a0 : Int32) {M : mm × mm} {r : Option mv} {M' : mm × mm} (z : Int32 × Int32) (w9 : Int32) (h : lp (fX1_directions_4_L a0) z = some w9) (hk : (fun q : Int32 => r = some (.inl q) ∧ M' = M) w9) : Vm mX1_directions 0 4 [(0, .inl a0), (1, .inl z.1), (2, .inl z.2)] [] M r M' :=
  lp_link (S := Int32 × Int32) (R := Int32) (body := fX1_directions_4_L a0) (A := fun z : Int32 × Int32 => Vm mX1_directions 0 4 [(0, .inl a0), (1, .inl z.1), (2, .inl z.2)] [] M r M') (B := fun w : Int32 => (fun q : Int32 => r = some (.inl q) ∧ M' = M) w) (fun z v hb hv => lX1_directions_4 a0 z.1 z.2 hb hv) z w9 h hk
set_option maxRecDepth 20000 in
theorem lX1_directions_0 (a0 : Int32) {M : mm × mm} {r : Option mv} {M' : mm × mm} {v9 : Int32} (h : fX1_directions_0 a0 = some v9) (hk : (fun q : Int32 => r = some (.inl q) ∧ M' = M) v9) : Vm mX1_directions 0 0 [(0, .inl a0)] [] M r M' := by
  unfold fX1_directions_0 at h
  refine Vm.iconst (n := 1) (v := (1 : Int32)) dX1_directions_0 rfl (by decide) ?_
  refine Vm.istore_n (n := 2) (lv' := [(1, .inl (1 : Int32)), (0, .inl a0)]) dX1_directions_1 rfl (Nat.le_of_ble_eq_true rfl) rfl ?_
  refine Vm.iconst (n := 3) (v := (0 : Int32)) dX1_directions_2 rfl (by decide) ?_
  refine Vm.istore_n (n := 4) (lv' := [(2, .inl (0 : Int32)), (1, .inl (1 : Int32)), (0, .inl a0)]) dX1_directions_3 rfl (Nat.le_of_ble_eq_true rfl) rfl ?_
  refine Vm.sub (lv' := [(0, .inl a0), (1, .inl (1 : Int32)), (2, .inl (0 : Int32))]) [2, 1, 0] rfl ?_
  exact lX1_directions_4_L a0 ((1 : Int32), (0 : Int32)) _ h hk
theorem kX1_directions (a0 : Int32) {M : mm × mm} {q : Int32} (h : fX1_directions a0 = some q) : Cx mX1_directions 0 [.inl a0] M (some (.inl q)) M :=
  Cx.of (lv := [(0, .inl a0)]) (by decide) (fun ad => Nat.le_of_ble_eq_true rfl) (fun ad => rfl) (lX1_directions_0 a0 h ⟨rfl, rfl⟩)
-- ThinBodies$Cloud weightAt (II)I
noncomputable def fX1_weightAt_13 (a2 : Int32) (a3 : Int32) (a4 : Int32) (a5 : Int32) (σ : mm) : Option ((Int32 × Int32) ⊕ (Int32)) :=
  if a2 ≤ a5 then
  some (.inr (a4))
  else
  Option.bind (rdI σ 14 0 4 a5) fun x1 =>
  Option.bind (some (a4 + (x1 * (fX7_unpack a3 a5)))) fun x2 =>
  Option.bind (some (a5 + (1 : Int32))) fun x3 =>
  some (.inl (x2, x3))
noncomputable def fX1_weightAt_13_L (a2 : Int32) (a3 : Int32) (σ : mm) : Int32 × Int32 → Option ((Int32 × Int32) ⊕ (Int32)) := fun z => fX1_weightAt_13 a2 a3 z.1 z.2 σ
noncomputable def fX1_weightAt_0 (a1 : Int32) (a2 : Int32) (σ : mm) : Option (Int32) :=
  Option.bind (rdI σ 12 0 4096 a1) fun x1 =>
  lp (fX1_weightAt_13_L a2 x1 σ) ((0 : Int32), (0 : Int32))
noncomputable def fX1_weightAt (a1 : Int32) (a2 : Int32) (σ : mm) : Option (Int32) := fX1_weightAt_0 a1 a2 σ
set_option maxRecDepth 20000 in
theorem lX1_weightAt_13 (a2 : Int32) (a3 : Int32) (a4 : Int32) (a5 : Int32) (σ σ0 τ : mm) (hσ : σ = σ0) {r : Option mv} {M' : mm × mm} {v9 : (Int32 × Int32) ⊕ (Int32)} (h : fX1_weightAt_13 a2 a3 a4 a5 σ = some v9) (hk : (Sum.elim (fun z : Int32 × Int32 => Vm mX1_weightAt 1 13 [(0, .inr (.inr (1, 0))), (2, .inl a2), (3, .inl a3), (4, .inl z.1), (5, .inl z.2)] [] (σ, τ) r M') (fun q : Int32 => r = some (.inl q) ∧ M' = (σ0, τ))) v9) : Vm mX1_weightAt 1 13 [(0, .inr (.inr (1, 0))), (2, .inl a2), (3, .inl a3), (4, .inl a4), (5, .inl a5)] [] (σ, τ) r M' := by
  unfold fX1_weightAt_13 at h
  refine Vm.iload (n := 15) 4 dX1_weightAt_13 rfl rfl ?_
  refine Vm.iload_n (n := 16) 1 dX1_weightAt_15 rfl rfl ?_
  refine Vm.icmp_ge (n := 19) 44 dX1_weightAt_16 rfl rfl (fun c9 => ?_) (fun c9 => ?_)
  · replace h := (if_pos c9).symm.trans h
    refine Vm.iload (n := 46) 3 dX1_weightAt_44 rfl rfl ?_
    obtain rfl := Option.some.inj h
    exact Vm.iret dX1_weightAt_46 rfl hk.1 (by rw [hσ]; exact hk.2.symm)
  · replace h := (if_neg c9).symm.trans h
    refine Vm.iload (n := 21) 3 dX1_weightAt_19 rfl rfl ?_
    refine Vm.aload_n (n := 22) 0 dX1_weightAt_21 rfl rfl ?_
    refine Vm.getR (n := 25) dX1_weightAt_22 rfl wf_RX1_44 in_1 rfl (by decide) rfl ?_
    refine Vm.iload (n := 27) 4 dX1_weightAt_25 rfl rfl ?_
    replace h := Option.bind_eq_some_iff.mp h
    obtain ⟨x1, h1, h⟩ := h
    refine Vm.ialdx (n := 28) dX1_weightAt_27 rfl in_14 rfl rfl (by decide) h1 ?_
    refine Vm.iload_n (n := 29) 2 dX1_weightAt_28 rfl rfl ?_
    refine Vm.iload (n := 31) 4 dX1_weightAt_29 rfl rfl ?_
    refine Vm.callN (Y := mX7_unpack) (n := 34) [.inl a3, .inl a5] dX1_weightAt_31 rfl wv_RX1_90 omX7_unpack rfl rfl (Nat.le_of_ble_eq_true rfl) (by decide) (kX7_unpack a3 a5 rfl) ?_
    refine Vm.imul (n := 35) dX1_weightAt_34 rfl ?_
    refine Vm.iadd (n := 36) dX1_weightAt_35 rfl ?_
    replace h := Option.bind_eq_some_iff.mp h
    obtain ⟨x2, e2, h⟩ := h
    replace e2 := Option.some.inj e2
    refine Vm.top e2 ?_
    refine Vm.istore (n := 38) (lv' := [(4, .inl x2), (0, .inr (.inr (1, 0))), (2, .inl a2), (3, .inl a3), (5, .inl a5)]) dX1_weightAt_36 rfl (Nat.le_of_ble_eq_true rfl) rfl ?_
    replace h := Option.bind_eq_some_iff.mp h
    obtain ⟨x3, e3, h⟩ := h
    replace e3 := Option.some.inj e3
    refine Vm.iinc (n := 41) (v := x3) (lv' := [(5, .inl x3), (4, .inl x2), (0, .inr (.inr (1, 0))), (2, .inl a2), (3, .inl a3)]) 4 dX1_weightAt_38 rfl rfl e3 (Nat.le_of_ble_eq_true rfl) rfl ?_
    refine Vm.goto 13 dX1_weightAt_41 rfl ?_
    refine Vm.sub (lv' := [(0, .inr (.inr (1, 0))), (2, .inl a2), (3, .inl a3), (4, .inl x2), (5, .inl x3)]) [2, 3, 4, 1, 0] rfl ?_
    obtain rfl := Option.some.inj h
    exact hk
theorem lX1_weightAt_13_L (a2 : Int32) (a3 : Int32) (σ σ0 τ : mm) (hσ : σ = σ0) {r : Option mv} {M' : mm × mm} (z : Int32 × Int32) (w9 : Int32) (h : lp (fX1_weightAt_13_L a2 a3 σ) z = some w9) (hk : (fun q : Int32 => r = some (.inl q) ∧ M' = (σ0, τ)) w9) : Vm mX1_weightAt 1 13 [(0, .inr (.inr (1, 0))), (2, .inl a2), (3, .inl a3), (4, .inl z.1), (5, .inl z.2)] [] (σ, τ) r M' :=
  lp_link (S := Int32 × Int32) (R := Int32) (body := fX1_weightAt_13_L a2 a3 σ) (A := fun z : Int32 × Int32 => Vm mX1_weightAt 1 13 [(0, .inr (.inr (1, 0))), (2, .inl a2), (3, .inl a3), (4, .inl z.1), (5, .inl z.2)] [] (σ, τ) r M') (B := fun w : Int32 => (fun q : Int32 => r = some (.inl q) ∧ M' = (σ0, τ)) w) (fun z v hb hv => lX1_weightAt_13 a2 a3 z.1 z.2 σ σ0 τ hσ hb hv) z w9 h hk
set_option maxRecDepth 20000 in
theorem lX1_weightAt_0 (a1 : Int32) (a2 : Int32) (σ σ0 τ : mm) (hσ : σ = σ0) {r : Option mv} {M' : mm × mm} {v9 : Int32} (h : fX1_weightAt_0 a1 a2 σ = some v9) (hk : (fun q : Int32 => r = some (.inl q) ∧ M' = (σ0, τ)) v9) : Vm mX1_weightAt 1 0 [(0, .inr (.inr (1, 0))), (1, .inl a1), (2, .inl a2)] [] (σ, τ) r M' := by
  unfold fX1_weightAt_0 at h
  refine Vm.aload_n (n := 1) 0 dX1_weightAt_0 rfl rfl ?_
  refine Vm.getR (n := 4) dX1_weightAt_1 rfl wf_RX1_37 in_1 rfl (by decide) rfl ?_
  refine Vm.iload_n (n := 5) 1 dX1_weightAt_4 rfl rfl ?_
  replace h := Option.bind_eq_some_iff.mp h
  obtain ⟨x1, h1, h⟩ := h
  refine Vm.ialdx (n := 6) dX1_weightAt_5 rfl in_12 rfl rfl (by decide) h1 ?_
  refine Vm.istore_n (n := 7) (lv' := [(3, .inl x1), (0, .inr (.inr (1, 0))), (1, .inl a1), (2, .inl a2)]) dX1_weightAt_6 rfl (Nat.le_of_ble_eq_true rfl) rfl ?_
  refine Vm.iconst (n := 8) (v := (0 : Int32)) dX1_weightAt_7 rfl (by decide) ?_
  refine Vm.istore (n := 10) (lv' := [(4, .inl (0 : Int32)), (3, .inl x1), (0, .inr (.inr (1, 0))), (1, .inl a1), (2, .inl a2)]) dX1_weightAt_8 rfl (Nat.le_of_ble_eq_true rfl) rfl ?_
  refine Vm.iconst (n := 11) (v := (0 : Int32)) dX1_weightAt_10 rfl (by decide) ?_
  refine Vm.istore (n := 13) (lv' := [(5, .inl (0 : Int32)), (4, .inl (0 : Int32)), (3, .inl x1), (0, .inr (.inr (1, 0))), (1, .inl a1), (2, .inl a2)]) dX1_weightAt_11 rfl (Nat.le_of_ble_eq_true rfl) rfl ?_
  refine Vm.sub (lv' := [(0, .inr (.inr (1, 0))), (2, .inl a2), (3, .inl x1), (4, .inl (0 : Int32)), (5, .inl (0 : Int32))]) [3, 5, 2, 1, 0] rfl ?_
  exact lX1_weightAt_13_L a2 x1 σ σ0 τ hσ ((0 : Int32), (0 : Int32)) _ h hk
theorem kX1_weightAt (a1 : Int32) (a2 : Int32) (σ τ : mm) {q : Int32} (h : fX1_weightAt a1 a2 σ = some q) : Cx mX1_weightAt 1 [.inr (.inr (1, 0)), .inl a1, .inl a2] (σ, τ) (some (.inl q)) (σ, τ) :=
  Cx.of (lv := [(0, .inr (.inr (1, 0))), (1, .inl a1), (2, .inl a2)]) (by decide) (fun ad => Nat.le_of_ble_eq_true rfl) (fun ad => rfl) (lX1_weightAt_0 a1 a2 σ σ τ rfl h ⟨rfl, rfl⟩)
-- ThinBodies$Cloud sweep (III)V
noncomputable def fX1_sweep_137 (a2 : Int32) (a3 : Int32) (a5 : Int32) (a6 : Int32) (σ : mm) : Option ((Int32 × Int32 × mm) ⊕ (mm)) :=
  Option.bind (some (a6 + (1 : Int32))) fun x1 =>
  some (.inl (a5, x1, σ))
noncomputable def fX1_sweep_120 (a2 : Int32) (a3 : Int32) (a5 : Int32) (a6 : Int32) (σ : mm) : Option ((Int32 × Int32 × mm) ⊕ (mm)) :=
  if ((σ.1 1 0 3) - (σ.1 1 0 4)) < a3 then
  Option.bind (some (a5 + (1 : Int32))) fun x1 =>
  fX1_sweep_137 a2 a3 x1 a6 σ
  else
  some (.inr (σ))
noncomputable def fX1_sweep_114 (a2 : Int32) (a3 : Int32) (a5 : Int32) (a6 : Int32) (a7 : Int32) (σ : mm) : Option ((Int32 × Int32 × mm) ⊕ (mm)) :=
  Option.bind (some (stI σ 1 0 4 a7)) fun σ1 =>
  fX1_sweep_120 a2 a3 a5 a6 σ1
noncomputable def fX1_sweep_100 (a2 : Int32) (a3 : Int32) (a5 : Int32) (a6 : Int32) (a7 : Int32) (σ : mm) : Option ((Int32 × Int32 × mm) ⊕ (mm)) :=
  if a5 = (0 : Int32) then
  fX1_sweep_114 a2 a3 a5 a6 a7 σ
  else
  if (σ.1 1 0 4) ≤ a7 then
  fX1_sweep_120 a2 a3 a5 a6 σ
  else
  fX1_sweep_114 a2 a3 a5 a6 a7 σ
noncomputable def fX1_sweep_88 (a2 : Int32) (a3 : Int32) (a5 : Int32) (a6 : Int32) (a7 : Int32) (σ : mm) : Option ((Int32 × Int32 × mm) ⊕ (mm)) :=
  Option.bind (some (stI σ 1 0 3 a7)) fun σ1 =>
  Option.bind (some (stI σ1 1 0 5 a5)) fun σ2 =>
  fX1_sweep_100 a2 a3 a5 a6 a7 σ2
noncomputable def fX1_sweep_44 (a2 : Int32) (a3 : Int32) (a5 : Int32) (a6 : Int32) (σ : mm) : Option ((Int32 × Int32 × mm) ⊕ (mm)) :=
  if (σ.1 1 0 1) ≤ a6 then
  some (.inr (σ))
  else
  Option.bind (fX1_isIn a6 σ) fun q1 =>
  if (bi q1) = (0 : Int32) then
  fX1_sweep_137 a2 a3 a5 a6 σ
  else
  Option.bind (fX1_weightAt a6 a2 σ) fun q2 =>
  if a5 = (0 : Int32) then
  fX1_sweep_88 a2 a3 a5 a6 q2 σ
  else
  if q2 ≤ (σ.1 1 0 3) then
  fX1_sweep_100 a2 a3 a5 a6 q2 σ
  else
  fX1_sweep_88 a2 a3 a5 a6 q2 σ
noncomputable def fX1_sweep_44_L (a2 : Int32) (a3 : Int32) : Int32 × Int32 × mm → Option ((Int32 × Int32 × mm) ⊕ (mm)) := fun z => fX1_sweep_44 a2 a3 z.1 z.2.1 z.2.2
noncomputable def fX1_sweep_8 (a2 : Int32) (a3 : Int32) (a4 : Int32) (a5 : Int32) (σ : mm) : Option ((Int32 × Int32 × mm) ⊕ (mm)) :=
  if a5 < (0 : Int32) then
  Option.map Sum.inr (lp (fX1_sweep_44_L a2 a3) ((0 : Int32), (0 : Int32), σ))
  else
  Option.bind (rmI a4 (5 : Int32)) fun x1 =>
  Option.bind (wrI σ 14 0 4 a5 (x1 - (2 : Int32))) fun σ2 =>
  Option.bind (dvI a4 (5 : Int32)) fun x3 =>
  Option.bind (some (a5 + (-1 : Int32))) fun x4 =>
  some (.inl (x3, x4, σ2))
noncomputable def fX1_sweep_8_L (a2 : Int32) (a3 : Int32) : Int32 × Int32 × mm → Option ((Int32 × Int32 × mm) ⊕ (mm)) := fun z => fX1_sweep_8 a2 a3 z.1 z.2.1 z.2.2
noncomputable def fX1_sweep_0 (a1 : Int32) (a2 : Int32) (a3 : Int32) (σ : mm) : Option (mm) :=
  Option.bind (some (a2 - (1 : Int32))) fun x1 =>
  lp (fX1_sweep_8_L a2 a3) (a1, x1, σ)
noncomputable def fX1_sweep (a1 : Int32) (a2 : Int32) (a3 : Int32) (σ : mm) : Option (mm) := fX1_sweep_0 a1 a2 a3 σ
set_option maxRecDepth 20000 in
theorem lX1_sweep_137 (a2 : Int32) (a3 : Int32) (a5 : Int32) (a6 : Int32) (σ τ : mm) {r : Option mv} {M' : mm × mm} {v9 : (Int32 × Int32 × mm) ⊕ (mm)} (h : fX1_sweep_137 a2 a3 a5 a6 σ = some v9) (hk : (Sum.elim (fun z : Int32 × Int32 × mm => Vm mX1_sweep 2 44 [(0, .inr (.inr (1, 0))), (2, .inl a2), (3, .inl a3), (5, .inl z.1), (6, .inl z.2.1)] [] (z.2.2, τ) r M') (fun q : mm => r = none ∧ M' = (q, τ))) v9) : Vm mX1_sweep 2 137 [(0, .inr (.inr (1, 0))), (2, .inl a2), (3, .inl a3), (5, .inl a5), (6, .inl a6)] [] (σ, τ) r M' := by
  unfold fX1_sweep_137 at h
  replace h := Option.bind_eq_some_iff.mp h
  obtain ⟨x1, e1, h⟩ := h
  replace e1 := Option.some.inj e1
  refine Vm.iinc (n := 140) (v := x1) (lv' := [(6, .inl x1), (0, .inr (.inr (1, 0))), (2, .inl a2), (3, .inl a3), (5, .inl a5)]) 4 dX1_sweep_137 rfl rfl e1 (Nat.le_of_ble_eq_true rfl) rfl ?_
  refine Vm.goto 44 dX1_sweep_140 rfl ?_
  refine Vm.sub (lv' := [(0, .inr (.inr (1, 0))), (2, .inl a2), (3, .inl a3), (5, .inl a5), (6, .inl x1)]) [1, 2, 3, 4, 0] rfl ?_
  obtain rfl := Option.some.inj h
  exact hk
set_option maxRecDepth 20000 in
theorem lX1_sweep_120 (a2 : Int32) (a3 : Int32) (a5 : Int32) (a6 : Int32) (σ τ : mm) {r : Option mv} {M' : mm × mm} {v9 : (Int32 × Int32 × mm) ⊕ (mm)} (h : fX1_sweep_120 a2 a3 a5 a6 σ = some v9) (hk : (Sum.elim (fun z : Int32 × Int32 × mm => Vm mX1_sweep 2 44 [(0, .inr (.inr (1, 0))), (2, .inl a2), (3, .inl a3), (5, .inl z.1), (6, .inl z.2.1)] [] (z.2.2, τ) r M') (fun q : mm => r = none ∧ M' = (q, τ))) v9) : Vm mX1_sweep 2 120 [(0, .inr (.inr (1, 0))), (2, .inl a2), (3, .inl a3), (5, .inl a5), (6, .inl a6)] [] (σ, τ) r M' := by
  unfold fX1_sweep_120 at h
  refine Vm.aload_n (n := 121) 0 dX1_sweep_120 rfl rfl ?_
  refine Vm.gX (n := 124) dX1_sweep_121 rfl wf_RX1_22 in_1 rfl (by decide) rfl (by decide) ?_
  refine Vm.aload_n (n := 125) 0 dX1_sweep_124 rfl rfl ?_
  refine Vm.gX (n := 128) dX1_sweep_125 rfl wf_RX1_25 in_1 rfl (by decide) rfl (by decide) ?_
  refine Vm.isub (n := 129) dX1_sweep_128 rfl ?_
  refine Vm.iload_n (n := 130) 2 dX1_sweep_129 rfl rfl ?_
  refine Vm.icmp_lt (n := 133) 134 dX1_sweep_130 rfl rfl (fun c9 => ?_) (fun c9 => ?_)
  · replace h := (if_pos c9).symm.trans h
    replace h := Option.bind_eq_some_iff.mp h
    obtain ⟨x1, e1, h⟩ := h
    replace e1 := Option.some.inj e1
    refine Vm.iinc (n := 137) (v := x1) (lv' := [(5, .inl x1), (0, .inr (.inr (1, 0))), (2, .inl a2), (3, .inl a3), (6, .inl a6)]) 3 dX1_sweep_134 rfl rfl e1 (Nat.le_of_ble_eq_true rfl) rfl ?_
    refine Vm.sub (lv' := [(0, .inr (.inr (1, 0))), (2, .inl a2), (3, .inl a3), (5, .inl x1), (6, .inl a6)]) [1, 2, 3, 0, 4] rfl ?_
    exact lX1_sweep_137 a2 a3 x1 a6 σ τ h hk
  · replace h := (if_neg c9).symm.trans h
    obtain rfl := Option.some.inj h
    exact Vm.vret dX1_sweep_133 rfl hk.1 hk.2.symm
set_option maxRecDepth 20000 in
theorem lX1_sweep_114 (a2 : Int32) (a3 : Int32) (a5 : Int32) (a6 : Int32) (a7 : Int32) (σ τ : mm) {r : Option mv} {M' : mm × mm} {v9 : (Int32 × Int32 × mm) ⊕ (mm)} (h : fX1_sweep_114 a2 a3 a5 a6 a7 σ = some v9) (hk : (Sum.elim (fun z : Int32 × Int32 × mm => Vm mX1_sweep 2 44 [(0, .inr (.inr (1, 0))), (2, .inl a2), (3, .inl a3), (5, .inl z.1), (6, .inl z.2.1)] [] (z.2.2, τ) r M') (fun q : mm => r = none ∧ M' = (q, τ))) v9) : Vm mX1_sweep 2 114 [(0, .inr (.inr (1, 0))), (2, .inl a2), (3, .inl a3), (5, .inl a5), (6, .inl a6), (7, .inl a7)] [] (σ, τ) r M' := by
  unfold fX1_sweep_114 at h
  refine Vm.aload_n (n := 115) 0 dX1_sweep_114 rfl rfl ?_
  refine Vm.iload (n := 117) 5 dX1_sweep_115 rfl rfl ?_
  refine Vm.pX (n := 120) (ty := .int) dX1_sweep_117 rfl wf_RX1_25 in_1 rfl (by decide) rfl (by decide) rfl rfl rfl rfl ?_
  replace h := Option.bind_eq_some_iff.mp h
  obtain ⟨σ1, e1, h⟩ := h
  replace e1 := Option.some.inj e1
  refine Vm.mem (congrArg (fun z => (z, τ)) e1) ?_
  refine Vm.sub (lv' := [(0, .inr (.inr (1, 0))), (2, .inl a2), (3, .inl a3), (5, .inl a5), (6, .inl a6)]) [0, 1, 2, 3, 4] rfl ?_
  exact lX1_sweep_120 a2 a3 a5 a6 σ1 τ h hk
set_option maxRecDepth 20000 in
theorem lX1_sweep_100 (a2 : Int32) (a3 : Int32) (a5 : Int32) (a6 : Int32) (a7 : Int32) (σ τ : mm) {r : Option mv} {M' : mm × mm} {v9 : (Int32 × Int32 × mm) ⊕ (mm)} (h : fX1_sweep_100 a2 a3 a5 a6 a7 σ = some v9) (hk : (Sum.elim (fun z : Int32 × Int32 × mm => Vm mX1_sweep 2 44 [(0, .inr (.inr (1, 0))), (2, .inl a2), (3, .inl a3), (5, .inl z.1), (6, .inl z.2.1)] [] (z.2.2, τ) r M') (fun q : mm => r = none ∧ M' = (q, τ))) v9) : Vm mX1_sweep 2 100 [(0, .inr (.inr (1, 0))), (2, .inl a2), (3, .inl a3), (5, .inl a5), (6, .inl a6), (7, .inl a7)] [] (σ, τ) r M' := by
  unfold fX1_sweep_100 at h
  refine Vm.iload (n := 102) 3 dX1_sweep_100 rfl rfl ?_
  refine Vm.if_eq (n := 105) 114 dX1_sweep_102 rfl rfl (fun c9 => ?_) (fun c9 => ?_)
  · replace h := (if_pos c9).symm.trans h
    exact lX1_sweep_114 a2 a3 a5 a6 a7 σ τ h hk
  · replace h := (if_neg c9).symm.trans h
    refine Vm.iload (n := 107) 5 dX1_sweep_105 rfl rfl ?_
    refine Vm.aload_n (n := 108) 0 dX1_sweep_107 rfl rfl ?_
    refine Vm.gX (n := 111) dX1_sweep_108 rfl wf_RX1_25 in_1 rfl (by decide) rfl (by decide) ?_
    refine Vm.icmp_ge (n := 114) 120 dX1_sweep_111 rfl rfl (fun c9 => ?_) (fun c9 => ?_)
    · replace h := (if_pos c9).symm.trans h
      refine Vm.sub (lv' := [(0, .inr (.inr (1, 0))), (2, .inl a2), (3, .inl a3), (5, .inl a5), (6, .inl a6)]) [0, 1, 2, 3, 4] rfl ?_
      exact lX1_sweep_120 a2 a3 a5 a6 σ τ h hk
    · replace h := (if_neg c9).symm.trans h
      exact lX1_sweep_114 a2 a3 a5 a6 a7 σ τ h hk
set_option maxRecDepth 20000 in
theorem lX1_sweep_88 (a2 : Int32) (a3 : Int32) (a5 : Int32) (a6 : Int32) (a7 : Int32) (σ τ : mm) {r : Option mv} {M' : mm × mm} {v9 : (Int32 × Int32 × mm) ⊕ (mm)} (h : fX1_sweep_88 a2 a3 a5 a6 a7 σ = some v9) (hk : (Sum.elim (fun z : Int32 × Int32 × mm => Vm mX1_sweep 2 44 [(0, .inr (.inr (1, 0))), (2, .inl a2), (3, .inl a3), (5, .inl z.1), (6, .inl z.2.1)] [] (z.2.2, τ) r M') (fun q : mm => r = none ∧ M' = (q, τ))) v9) : Vm mX1_sweep 2 88 [(0, .inr (.inr (1, 0))), (2, .inl a2), (3, .inl a3), (5, .inl a5), (6, .inl a6), (7, .inl a7)] [] (σ, τ) r M' := by
  unfold fX1_sweep_88 at h
  refine Vm.aload_n (n := 89) 0 dX1_sweep_88 rfl rfl ?_
  refine Vm.iload (n := 91) 5 dX1_sweep_89 rfl rfl ?_
  refine Vm.pX (n := 94) (ty := .int) dX1_sweep_91 rfl wf_RX1_22 in_1 rfl (by decide) rfl (by decide) rfl rfl rfl rfl ?_
  replace h := Option.bind_eq_some_iff.mp h
  obtain ⟨σ1, e1, h⟩ := h
  replace e1 := Option.some.inj e1
  refine Vm.mem (congrArg (fun z => (z, τ)) e1) ?_
  refine Vm.aload_n (n := 95) 0 dX1_sweep_94 rfl rfl ?_
  refine Vm.iload (n := 97) 3 dX1_sweep_95 rfl rfl ?_
  refine Vm.pX (n := 100) (ty := .int) dX1_sweep_97 rfl wf_RX1_28 in_1 rfl (by decide) rfl (by decide) rfl rfl rfl rfl ?_
  replace h := Option.bind_eq_some_iff.mp h
  obtain ⟨σ2, e2, h⟩ := h
  replace e2 := Option.some.inj e2
  refine Vm.mem (congrArg (fun z => (z, τ)) e2) ?_
  exact lX1_sweep_100 a2 a3 a5 a6 a7 σ2 τ h hk
set_option maxRecDepth 20000 in
theorem lX1_sweep_44 (a2 : Int32) (a3 : Int32) (a5 : Int32) (a6 : Int32) (σ τ : mm) {r : Option mv} {M' : mm × mm} {v9 : (Int32 × Int32 × mm) ⊕ (mm)} (h : fX1_sweep_44 a2 a3 a5 a6 σ = some v9) (hk : (Sum.elim (fun z : Int32 × Int32 × mm => Vm mX1_sweep 2 44 [(0, .inr (.inr (1, 0))), (2, .inl a2), (3, .inl a3), (5, .inl z.1), (6, .inl z.2.1)] [] (z.2.2, τ) r M') (fun q : mm => r = none ∧ M' = (q, τ))) v9) : Vm mX1_sweep 2 44 [(0, .inr (.inr (1, 0))), (2, .inl a2), (3, .inl a3), (5, .inl a5), (6, .inl a6)] [] (σ, τ) r M' := by
  unfold fX1_sweep_44 at h
  refine Vm.iload (n := 46) 4 dX1_sweep_44 rfl rfl ?_
  refine Vm.aload_n (n := 47) 0 dX1_sweep_46 rfl rfl ?_
  refine Vm.gX (n := 50) dX1_sweep_47 rfl wf_RX1_15 in_1 rfl (by decide) rfl (by decide) ?_
  refine Vm.icmp_ge (n := 53) 143 dX1_sweep_50 rfl rfl (fun c9 => ?_) (fun c9 => ?_)
  · replace h := (if_pos c9).symm.trans h
    obtain rfl := Option.some.inj h
    exact Vm.vret dX1_sweep_143 rfl hk.1 hk.2.symm
  · replace h := (if_neg c9).symm.trans h
    refine Vm.aload_n (n := 54) 0 dX1_sweep_53 rfl rfl ?_
    refine Vm.iload (n := 56) 4 dX1_sweep_54 rfl rfl ?_
    replace h := Option.bind_eq_some_iff.mp h
    obtain ⟨q1, h1, h⟩ := h
    refine Vm.callV (Y := mX1_isIn) (n := 59) [.inl a6] dX1_sweep_56 rfl wv_RX1_96 omX1_isIn rfl in_1 rfl rfl rfl (Nat.le_of_ble_eq_true rfl) (by decide) (kX1_isIn a6 σ τ h1) ?_
    refine Vm.if_ne (n := 62) 65 dX1_sweep_59 rfl rfl (fun c9 => ?_) (fun c9 => ?_)
    · replace h := (if_neg c9).symm.trans h
      refine Vm.aload_n (n := 66) 0 dX1_sweep_65 rfl rfl ?_
      refine Vm.iload (n := 68) 4 dX1_sweep_66 rfl rfl ?_
      refine Vm.iload_n (n := 69) 1 dX1_sweep_68 rfl rfl ?_
      replace h := Option.bind_eq_some_iff.mp h
      obtain ⟨q2, h2, h⟩ := h
      refine Vm.callV (Y := mX1_weightAt) (n := 72) [.inl a6, .inl a2] dX1_sweep_69 rfl wv_RX1_100 omX1_weightAt rfl in_1 rfl rfl rfl (Nat.le_of_ble_eq_true rfl) (by decide) (kX1_weightAt a6 a2 σ τ h2) ?_
      refine Vm.istore (n := 74) (lv' := [(7, .inl q2), (0, .inr (.inr (1, 0))), (2, .inl a2), (3, .inl a3), (5, .inl a5), (6, .inl a6)]) dX1_sweep_72 rfl (Nat.le_of_ble_eq_true rfl) rfl ?_
      refine Vm.iload (n := 76) 4 dX1_sweep_74 rfl rfl ?_
      refine Vm.if_eq (n := 79) 88 dX1_sweep_76 rfl rfl (fun c9 => ?_) (fun c9 => ?_)
      · replace h := (if_pos c9).symm.trans h
        refine Vm.sub (lv' := [(0, .inr (.inr (1, 0))), (2, .inl a2), (3, .inl a3), (5, .inl a5), (6, .inl a6), (7, .inl q2)]) [1, 2, 3, 4, 5, 0] rfl ?_
        exact lX1_sweep_88 a2 a3 a5 a6 q2 σ τ h hk
      · replace h := (if_neg c9).symm.trans h
        refine Vm.iload (n := 81) 0 dX1_sweep_79 rfl rfl ?_
        refine Vm.aload_n (n := 82) 1 dX1_sweep_81 rfl rfl ?_
        refine Vm.gX (n := 85) dX1_sweep_82 rfl wf_RX1_22 in_1 rfl (by decide) rfl (by decide) ?_
        refine Vm.icmp_le (n := 88) 100 dX1_sweep_85 rfl rfl (fun c9 => ?_) (fun c9 => ?_)
        · replace h := (if_pos c9).symm.trans h
          refine Vm.sub (lv' := [(0, .inr (.inr (1, 0))), (2, .inl a2), (3, .inl a3), (5, .inl a5), (6, .inl a6), (7, .inl q2)]) [1, 2, 3, 4, 5, 0] rfl ?_
          exact lX1_sweep_100 a2 a3 a5 a6 q2 σ τ h hk
        · replace h := (if_neg c9).symm.trans h
          refine Vm.sub (lv' := [(0, .inr (.inr (1, 0))), (2, .inl a2), (3, .inl a3), (5, .inl a5), (6, .inl a6), (7, .inl q2)]) [1, 2, 3, 4, 5, 0] rfl ?_
          exact lX1_sweep_88 a2 a3 a5 a6 q2 σ τ h hk
    · replace h := (if_pos c9).symm.trans h
      refine Vm.goto 137 dX1_sweep_62 rfl ?_
      exact lX1_sweep_137 a2 a3 a5 a6 σ τ h hk
theorem lX1_sweep_44_L (a2 : Int32) (a3 : Int32) (τ : mm) {r : Option mv} {M' : mm × mm} (z : Int32 × Int32 × mm) (w9 : mm) (h : lp (fX1_sweep_44_L a2 a3) z = some w9) (hk : (fun q : mm => r = none ∧ M' = (q, τ)) w9) : Vm mX1_sweep 2 44 [(0, .inr (.inr (1, 0))), (2, .inl a2), (3, .inl a3), (5, .inl z.1), (6, .inl z.2.1)] [] (z.2.2, τ) r M' :=
  lp_link (S := Int32 × Int32 × mm) (R := mm) (body := fX1_sweep_44_L a2 a3) (A := fun z : Int32 × Int32 × mm => Vm mX1_sweep 2 44 [(0, .inr (.inr (1, 0))), (2, .inl a2), (3, .inl a3), (5, .inl z.1), (6, .inl z.2.1)] [] (z.2.2, τ) r M') (B := fun w : mm => (fun q : mm => r = none ∧ M' = (q, τ)) w) (fun z v hb hv => lX1_sweep_44 a2 a3 z.1 z.2.1 z.2.2 τ hb hv) z w9 h hk
set_option maxRecDepth 20000 in
theorem lX1_sweep_8 (a2 : Int32) (a3 : Int32) (a4 : Int32) (a5 : Int32) (σ τ : mm) {r : Option mv} {M' : mm × mm} {v9 : (Int32 × Int32 × mm) ⊕ (mm)} (h : fX1_sweep_8 a2 a3 a4 a5 σ = some v9) (hk : (Sum.elim (fun z : Int32 × Int32 × mm => Vm mX1_sweep 2 8 [(0, .inr (.inr (1, 0))), (2, .inl a2), (3, .inl a3), (4, .inl z.1), (5, .inl z.2.1)] [] (z.2.2, τ) r M') (fun q : mm => r = none ∧ M' = (q, τ))) v9) : Vm mX1_sweep 2 8 [(0, .inr (.inr (1, 0))), (2, .inl a2), (3, .inl a3), (4, .inl a4), (5, .inl a5)] [] (σ, τ) r M' := by
  unfold fX1_sweep_8 at h
  refine Vm.iload (n := 10) 4 dX1_sweep_8 rfl rfl ?_
  refine Vm.if_lt (n := 13) 38 dX1_sweep_10 rfl rfl (fun c9 => ?_) (fun c9 => ?_)
  · replace h := (if_pos c9).symm.trans h
    refine Vm.iconst (n := 39) (v := (0 : Int32)) dX1_sweep_38 rfl (by decide) ?_
    refine Vm.istore (n := 41) (lv' := [(5, .inl (0 : Int32)), (0, .inr (.inr (1, 0))), (2, .inl a2), (3, .inl a3), (4, .inl a4)]) dX1_sweep_39 rfl (Nat.le_of_ble_eq_true rfl) rfl ?_
    refine Vm.iconst (n := 42) (v := (0 : Int32)) dX1_sweep_41 rfl (by decide) ?_
    refine Vm.istore (n := 44) (lv' := [(6, .inl (0 : Int32)), (5, .inl (0 : Int32)), (0, .inr (.inr (1, 0))), (2, .inl a2), (3, .inl a3), (4, .inl a4)]) dX1_sweep_42 rfl (Nat.le_of_ble_eq_true rfl) rfl ?_
    refine Vm.sub (lv' := [(0, .inr (.inr (1, 0))), (2, .inl a2), (3, .inl a3), (5, .inl (0 : Int32)), (6, .inl (0 : Int32))]) [2, 3, 4, 1, 0] rfl ?_
    replace h := Option.map_eq_some_iff.mp h
    obtain ⟨w9, h, e8⟩ := h
    subst e8
    exact lX1_sweep_44_L a2 a3 τ ((0 : Int32), (0 : Int32), σ) _ h hk
  · replace h := (if_neg c9).symm.trans h
    refine Vm.aload_n (n := 14) 0 dX1_sweep_13 rfl rfl ?_
    refine Vm.getR (n := 17) dX1_sweep_14 rfl wf_RX1_44 in_1 rfl (by decide) rfl ?_
    refine Vm.iload (n := 19) 4 dX1_sweep_17 rfl rfl ?_
    refine Vm.iload (n := 21) 3 dX1_sweep_19 rfl rfl ?_
    refine Vm.iconst (n := 22) (v := (5 : Int32)) dX1_sweep_21 rfl (by decide) ?_
    replace h := Option.bind_eq_some_iff.mp h
    obtain ⟨x1, h1, h⟩ := h
    refine Vm.irem (n := 23) dX1_sweep_22 rfl h1 ?_
    refine Vm.iconst (n := 24) (v := (2 : Int32)) dX1_sweep_23 rfl (by decide) ?_
    refine Vm.isub (n := 25) dX1_sweep_24 rfl ?_
    replace h := Option.bind_eq_some_iff.mp h
    obtain ⟨σ2, h2, h⟩ := h
    refine Vm.iastx (n := 26) dX1_sweep_25 rfl in_14 rfl rfl (by decide) h2 ?_
    refine Vm.iload (n := 28) 3 dX1_sweep_26 rfl rfl ?_
    refine Vm.iconst (n := 29) (v := (5 : Int32)) dX1_sweep_28 rfl (by decide) ?_
    replace h := Option.bind_eq_some_iff.mp h
    obtain ⟨x3, h3, h⟩ := h
    refine Vm.idiv (n := 30) dX1_sweep_29 rfl h3 ?_
    refine Vm.istore (n := 32) (lv' := [(4, .inl x3), (0, .inr (.inr (1, 0))), (2, .inl a2), (3, .inl a3), (5, .inl a5)]) dX1_sweep_30 rfl (Nat.le_of_ble_eq_true rfl) rfl ?_
    replace h := Option.bind_eq_some_iff.mp h
    obtain ⟨x4, e4, h⟩ := h
    replace e4 := Option.some.inj e4
    refine Vm.iinc (n := 35) (v := x4) (lv' := [(5, .inl x4), (4, .inl x3), (0, .inr (.inr (1, 0))), (2, .inl a2), (3, .inl a3)]) 4 dX1_sweep_32 rfl rfl e4 (Nat.le_of_ble_eq_true rfl) rfl ?_
    refine Vm.goto 8 dX1_sweep_35 rfl ?_
    refine Vm.sub (lv' := [(0, .inr (.inr (1, 0))), (2, .inl a2), (3, .inl a3), (4, .inl x3), (5, .inl x4)]) [2, 3, 4, 1, 0] rfl ?_
    obtain rfl := Option.some.inj h
    exact hk
theorem lX1_sweep_8_L (a2 : Int32) (a3 : Int32) (τ : mm) {r : Option mv} {M' : mm × mm} (z : Int32 × Int32 × mm) (w9 : mm) (h : lp (fX1_sweep_8_L a2 a3) z = some w9) (hk : (fun q : mm => r = none ∧ M' = (q, τ)) w9) : Vm mX1_sweep 2 8 [(0, .inr (.inr (1, 0))), (2, .inl a2), (3, .inl a3), (4, .inl z.1), (5, .inl z.2.1)] [] (z.2.2, τ) r M' :=
  lp_link (S := Int32 × Int32 × mm) (R := mm) (body := fX1_sweep_8_L a2 a3) (A := fun z : Int32 × Int32 × mm => Vm mX1_sweep 2 8 [(0, .inr (.inr (1, 0))), (2, .inl a2), (3, .inl a3), (4, .inl z.1), (5, .inl z.2.1)] [] (z.2.2, τ) r M') (B := fun w : mm => (fun q : mm => r = none ∧ M' = (q, τ)) w) (fun z v hb hv => lX1_sweep_8 a2 a3 z.1 z.2.1 z.2.2 τ hb hv) z w9 h hk
set_option maxRecDepth 20000 in
theorem lX1_sweep_0 (a1 : Int32) (a2 : Int32) (a3 : Int32) (σ τ : mm) {r : Option mv} {M' : mm × mm} {v9 : mm} (h : fX1_sweep_0 a1 a2 a3 σ = some v9) (hk : (fun q : mm => r = none ∧ M' = (q, τ)) v9) : Vm mX1_sweep 2 0 [(0, .inr (.inr (1, 0))), (1, .inl a1), (2, .inl a2), (3, .inl a3)] [] (σ, τ) r M' := by
  unfold fX1_sweep_0 at h
  refine Vm.iload_n (n := 1) 1 dX1_sweep_0 rfl rfl ?_
  refine Vm.istore (n := 3) (lv' := [(4, .inl a1), (0, .inr (.inr (1, 0))), (1, .inl a1), (2, .inl a2), (3, .inl a3)]) dX1_sweep_1 rfl (Nat.le_of_ble_eq_true rfl) rfl ?_
  refine Vm.iload_n (n := 4) 3 dX1_sweep_3 rfl rfl ?_
  refine Vm.iconst (n := 5) (v := (1 : Int32)) dX1_sweep_4 rfl (by decide) ?_
  refine Vm.isub (n := 6) dX1_sweep_5 rfl ?_
  replace h := Option.bind_eq_some_iff.mp h
  obtain ⟨x1, e1, h⟩ := h
  replace e1 := Option.some.inj e1
  refine Vm.top e1 ?_
  refine Vm.istore (n := 8) (lv' := [(5, .inl x1), (4, .inl a1), (0, .inr (.inr (1, 0))), (1, .inl a1), (2, .inl a2), (3, .inl a3)]) dX1_sweep_6 rfl (Nat.le_of_ble_eq_true rfl) rfl ?_
  refine Vm.sub (lv' := [(0, .inr (.inr (1, 0))), (2, .inl a2), (3, .inl a3), (4, .inl a1), (5, .inl x1)]) [2, 4, 5, 1, 0] rfl ?_
  exact lX1_sweep_8_L a2 a3 τ (a1, x1, σ) _ h hk
theorem kX1_sweep (a1 : Int32) (a2 : Int32) (a3 : Int32) (σ τ : mm) {q : mm} (h : fX1_sweep a1 a2 a3 σ = some q) : Cx mX1_sweep 2 [.inr (.inr (1, 0)), .inl a1, .inl a2, .inl a3] (σ, τ) (none) (q, τ) :=
  Cx.of (lv := [(0, .inr (.inr (1, 0))), (1, .inl a1), (2, .inl a2), (3, .inl a3)]) (by decide) (fun ad => Nat.le_of_ble_eq_true rfl) (fun ad => rfl) (lX1_sweep_0 a1 a2 a3 σ τ h ⟨rfl, rfl⟩)
-- ThinBodies best (II)I
noncomputable def fX7_best_27 (σ : mm) : Option (Int32 × mm) :=
  Option.bind (fX7_finding (0 : Int32) σ) fun q1 =>
  some ((q1.1, q1.2))
noncomputable def fX7_best_0 (a1 : Int32) (a2 : Int32) (σ : mm) : Option (Int32 × mm) :=
  if a1 < (0 : Int32) then
  fX7_best_27 σ
  else
  Option.bind (fX1_directions (σ.1 0 0 0)) fun q1 =>
  if q1 ≤ a1 then
  fX7_best_27 σ
  else
  if a2 < (0 : Int32) then
  fX7_best_27 σ
  else
  if a2 ≤ (2 : Int32) then
  Option.bind (fX1_refresh 0 σ) fun q2 =>
  if (q2.1 1 0 2) = (0 : Int32) then
  Option.bind (fX7_finding (3 : Int32) q2) fun q4 =>
  some ((q4.1, q4.2))
  else
  Option.bind (fX1_sweep a1 (q2.1 0 0 0) (1000000000 : Int32) q2) fun q3 =>
  if a2 = (0 : Int32) then
  some ((q3.1 1 0 3, q3))
  else
  if a2 = (1 : Int32) then
  some ((q3.1 1 0 5, q3))
  else
  some (((q3.1 1 0 3) - (q3.1 1 0 4), q3))
  else
  fX7_best_27 σ
noncomputable def fX7_best (a1 : Int32) (a2 : Int32) (σ : mm) : Option (Int32 × mm) := fX7_best_0 a1 a2 σ
set_option maxRecDepth 20000 in
theorem lX7_best_27 (σ τ : mm) {r : Option mv} {M' : mm × mm} {v9 : Int32 × mm} (h : fX7_best_27 σ = some v9) (hk : (fun q : Int32 × mm => r = some (.inl q.1) ∧ M' = (q.2, τ)) v9) : Vm mX7_best 5 27 [(0, .inr (.inr (7, 0)))] [] (σ, τ) r M' := by
  unfold fX7_best_27 at h
  refine Vm.aload_n (n := 28) 0 dX7_best_27 rfl rfl ?_
  refine Vm.iconst (n := 29) (v := (0 : Int32)) dX7_best_28 rfl (by decide) ?_
  replace h := Option.bind_eq_some_iff.mp h
  obtain ⟨q1, h1, h⟩ := h
  refine Vm.callV (Y := mX7_finding) (n := 32) [.inl (0 : Int32)] dX7_best_29 rfl wv_RX7_68 omX7_finding rfl in_7 rfl rfl rfl (Nat.le_of_ble_eq_true rfl) (by decide) (kX7_finding (0 : Int32) σ τ h1) ?_
  obtain rfl := Option.some.inj h
  exact Vm.iret dX7_best_32 rfl hk.1 hk.2.symm
set_option maxRecDepth 20000 in
theorem lX7_best_0 (a1 : Int32) (a2 : Int32) (σ τ : mm) {r : Option mv} {M' : mm × mm} {v9 : Int32 × mm} (h : fX7_best_0 a1 a2 σ = some v9) (hk : (fun q : Int32 × mm => r = some (.inl q.1) ∧ M' = (q.2, τ)) v9) : Vm mX7_best 5 0 [(0, .inr (.inr (7, 0))), (1, .inl a1), (2, .inl a2)] [] (σ, τ) r M' := by
  unfold fX7_best_0 at h
  refine Vm.iload_n (n := 1) 1 dX7_best_0 rfl rfl ?_
  refine Vm.if_lt (n := 4) 27 dX7_best_1 rfl rfl (fun c9 => ?_) (fun c9 => ?_)
  · replace h := (if_pos c9).symm.trans h
    refine Vm.sub (lv' := [(0, .inr (.inr (7, 0)))]) [0] rfl ?_
    exact lX7_best_27 σ τ h hk
  · replace h := (if_neg c9).symm.trans h
    refine Vm.iload_n (n := 5) 1 dX7_best_4 rfl rfl ?_
    refine Vm.aload_n (n := 6) 0 dX7_best_5 rfl rfl ?_
    refine Vm.getR (n := 9) dX7_best_6 rfl wf_RX7_12 in_7 rfl (by decide) rfl ?_
    refine Vm.gX (n := 12) dX7_best_9 rfl wf_RX7_75 (ink ik_0 (by decide)) rfl (by decide) rfl (by decide) ?_
    replace h := Option.bind_eq_some_iff.mp h
    obtain ⟨q1, h1, h⟩ := h
    refine Vm.callS (Y := mX1_directions) (n := 15) [.inl (σ.1 0 0 0)] dX7_best_12 rfl wv_RX7_179 omX1_directions rfl rfl (Nat.le_of_ble_eq_true rfl) (by decide) (kX1_directions (σ.1 0 0 0) h1) ?_
    refine Vm.icmp_ge (n := 18) 27 dX7_best_15 rfl rfl (fun c9 => ?_) (fun c9 => ?_)
    · replace h := (if_pos c9).symm.trans h
      refine Vm.sub (lv' := [(0, .inr (.inr (7, 0)))]) [0] rfl ?_
      exact lX7_best_27 σ τ h hk
    · replace h := (if_neg c9).symm.trans h
      refine Vm.iload_n (n := 19) 2 dX7_best_18 rfl rfl ?_
      refine Vm.if_lt (n := 22) 27 dX7_best_19 rfl rfl (fun c9 => ?_) (fun c9 => ?_)
      · replace h := (if_pos c9).symm.trans h
        refine Vm.sub (lv' := [(0, .inr (.inr (7, 0)))]) [0] rfl ?_
        exact lX7_best_27 σ τ h hk
      · replace h := (if_neg c9).symm.trans h
        refine Vm.iload_n (n := 23) 2 dX7_best_22 rfl rfl ?_
        refine Vm.iconst (n := 24) (v := (2 : Int32)) dX7_best_23 rfl (by decide) ?_
        refine Vm.icmp_le (n := 27) 33 dX7_best_24 rfl rfl (fun c9 => ?_) (fun c9 => ?_)
        · replace h := (if_pos c9).symm.trans h
          refine Vm.aload_n (n := 34) 0 dX7_best_33 rfl rfl ?_
          refine Vm.getR (n := 37) dX7_best_34 rfl wf_RX7_29 in_7 rfl (by decide) rfl ?_
          refine Vm.aload_n (n := 38) 0 dX7_best_37 rfl rfl ?_
          refine Vm.getR (n := 41) dX7_best_38 rfl wf_RX7_12 in_7 rfl (by decide) rfl ?_
          replace h := Option.bind_eq_some_iff.mp h
          obtain ⟨q2, h2, h⟩ := h
          refine Vm.callVv (Y := mX1_refresh) (n := 44) [.inr (.inr (0, 0))] dX7_best_41 rfl wv_RX7_154 omX1_refresh rfl in_1 rfl rfl rfl (Nat.le_of_ble_eq_true rfl) (by decide) (kX1_refresh 0 (by decide) σ τ h2) ?_
          refine Vm.aload_n (n := 45) 0 dX7_best_44 rfl rfl ?_
          refine Vm.getR (n := 48) dX7_best_45 rfl wf_RX7_29 in_7 rfl (by decide) rfl ?_
          refine Vm.gX (n := 51) dX7_best_48 rfl wf_RX7_158 in_1 rfl (by decide) rfl (by decide) ?_
          refine Vm.if_ne (n := 54) 60 dX7_best_51 rfl rfl (fun c9 => ?_) (fun c9 => ?_)
          · replace h := (if_neg c9).symm.trans h
            refine Vm.aload_n (n := 61) 0 dX7_best_60 rfl rfl ?_
            refine Vm.getR (n := 64) dX7_best_61 rfl wf_RX7_29 in_7 rfl (by decide) rfl ?_
            refine Vm.iload_n (n := 65) 1 dX7_best_64 rfl rfl ?_
            refine Vm.aload_n (n := 66) 0 dX7_best_65 rfl rfl ?_
            refine Vm.getR (n := 69) dX7_best_66 rfl wf_RX7_12 in_7 rfl (by decide) rfl ?_
            refine Vm.gX (n := 72) dX7_best_69 rfl wf_RX7_75 (ink ik_0 (by decide)) rfl (by decide) rfl (by decide) ?_
            refine Vm.ldc (n := 74) dX7_best_72 rfl wc_RX7_182 ?_
            replace h := Option.bind_eq_some_iff.mp h
            obtain ⟨q3, h3, h⟩ := h
            refine Vm.callVv (Y := mX1_sweep) (n := 77) [.inl a1, .inl (q2.1 0 0 0), .inl (1000000000 : Int32)] dX7_best_74 rfl wv_RX7_183 omX1_sweep rfl in_1 rfl rfl rfl (Nat.le_of_ble_eq_true rfl) (by decide) (kX1_sweep a1 (q2.1 0 0 0) (1000000000 : Int32) q2 τ h3) ?_
            refine Vm.iload_n (n := 78) 2 dX7_best_77 rfl rfl ?_
            refine Vm.if_ne (n := 81) 89 dX7_best_78 rfl rfl (fun c9 => ?_) (fun c9 => ?_)
            · replace h := (if_neg c9).symm.trans h
              refine Vm.iload_n (n := 90) 2 dX7_best_89 rfl rfl ?_
              refine Vm.iconst (n := 91) (v := (1 : Int32)) dX7_best_90 rfl (by decide) ?_
              refine Vm.icmp_ne (n := 94) 104 dX7_best_91 rfl rfl (fun c9 => ?_) (fun c9 => ?_)
              · replace h := (if_neg c9).symm.trans h
                refine Vm.aload_n (n := 105) 0 dX7_best_104 rfl rfl ?_
                refine Vm.getR (n := 108) dX7_best_105 rfl wf_RX7_29 in_7 rfl (by decide) rfl ?_
                refine Vm.gX (n := 111) dX7_best_108 rfl wf_RX7_186 in_1 rfl (by decide) rfl (by decide) ?_
                refine Vm.aload_n (n := 112) 0 dX7_best_111 rfl rfl ?_
                refine Vm.getR (n := 115) dX7_best_112 rfl wf_RX7_29 in_7 rfl (by decide) rfl ?_
                refine Vm.gX (n := 118) dX7_best_115 rfl wf_RX7_192 in_1 rfl (by decide) rfl (by decide) ?_
                refine Vm.isub (n := 119) dX7_best_118 rfl ?_
                obtain rfl := Option.some.inj h
                exact Vm.iret dX7_best_119 rfl hk.1 hk.2.symm
              · replace h := (if_pos c9).symm.trans h
                refine Vm.aload_n (n := 95) 0 dX7_best_94 rfl rfl ?_
                refine Vm.getR (n := 98) dX7_best_95 rfl wf_RX7_29 in_7 rfl (by decide) rfl ?_
                refine Vm.gX (n := 101) dX7_best_98 rfl wf_RX7_189 in_1 rfl (by decide) rfl (by decide) ?_
                refine Vm.goto 119 dX7_best_101 rfl ?_
                obtain rfl := Option.some.inj h
                exact Vm.iret dX7_best_119 rfl hk.1 hk.2.symm
            · replace h := (if_pos c9).symm.trans h
              refine Vm.aload_n (n := 82) 0 dX7_best_81 rfl rfl ?_
              refine Vm.getR (n := 85) dX7_best_82 rfl wf_RX7_29 in_7 rfl (by decide) rfl ?_
              refine Vm.gX (n := 88) dX7_best_85 rfl wf_RX7_186 in_1 rfl (by decide) rfl (by decide) ?_
              obtain rfl := Option.some.inj h
              exact Vm.iret dX7_best_88 rfl hk.1 hk.2.symm
          · replace h := (if_pos c9).symm.trans h
            refine Vm.aload_n (n := 55) 0 dX7_best_54 rfl rfl ?_
            refine Vm.iconst (n := 56) (v := (3 : Int32)) dX7_best_55 rfl (by decide) ?_
            replace h := Option.bind_eq_some_iff.mp h
            obtain ⟨q4, h4, h⟩ := h
            refine Vm.callV (Y := mX7_finding) (n := 59) [.inl (3 : Int32)] dX7_best_56 rfl wv_RX7_68 omX7_finding rfl in_7 rfl rfl rfl (Nat.le_of_ble_eq_true rfl) (by decide) (kX7_finding (3 : Int32) q2 τ h4) ?_
            obtain rfl := Option.some.inj h
            exact Vm.iret dX7_best_59 rfl hk.1 hk.2.symm
        · replace h := (if_neg c9).symm.trans h
          refine Vm.sub (lv' := [(0, .inr (.inr (7, 0)))]) [0] rfl ?_
          exact lX7_best_27 σ τ h hk
theorem kX7_best (a1 : Int32) (a2 : Int32) (σ τ : mm) {q : Int32 × mm} (h : fX7_best a1 a2 σ = some q) : Cx mX7_best 5 [.inr (.inr (7, 0)), .inl a1, .inl a2] (σ, τ) (some (.inl q.1)) (q.2, τ) :=
  Cx.of (lv := [(0, .inr (.inr (7, 0))), (1, .inl a1), (2, .inl a2)]) (by decide) (fun ad => Nat.le_of_ble_eq_true rfl) (fun ad => rfl) (lX7_best_0 a1 a2 σ τ h ⟨rfl, rfl⟩)
