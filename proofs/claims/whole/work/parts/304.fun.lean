-- ThinBodies$Row leastBoundFor (I)I
def fX4_leastBoundFor_0 (a0 : Nat) (a1 : Int32) (σ : mm) : Option (Int32) :=
  if (σ.1 4 a0 0).toInt = (0 : Int) then
  some (a1)
  else if (σ.1 4 a0 0).toInt = (1 : Int) then
  some (a1)
  else if (σ.1 4 a0 0).toInt = (2 : Int) then
  some (a1 - (σ.1 4 a0 2))
  else if (σ.1 4 a0 0).toInt = (3 : Int) then
  if (σ.1 4 a0 2) ≤ (0 : Int32) then
  some (a1)
  else
  Option.bind (fJ9_floorMod_7cf53 (a1 + (999 : Int32)) (σ.1 4 a0 2)) fun q1 =>
  some ((-999 : Int32) + q1)
  else 
  some ((-999 : Int32))
def fX4_leastBoundFor (a0 : Nat) (a1 : Int32) (σ : mm) : Option (Int32) := fX4_leastBoundFor_0 a0 a1 σ
set_option maxRecDepth 20000 in
theorem lX4_leastBoundFor_0 (a0 : Nat) (ha0 : a0 < 24) (a1 : Int32) (σ σ0 τ : mm) (hσ : σ = σ0) {r : Option mv} {M' : mm × mm} {v9 : Int32} (h : fX4_leastBoundFor_0 a0 a1 σ = some v9) (hk : (fun q : Int32 => r = some (.inl q) ∧ M' = (σ0, τ)) v9) : Vm mX4_leastBoundFor 1 0 [(0, .inr (.inr (4, a0))), (1, .inl a1)] [] (σ, τ) r M' := by
  unfold fX4_leastBoundFor_0 at h
  refine Vm.aload_n (n := 1) 0 dX4_leastBoundFor_0 rfl rfl ?_
  refine Vm.gX (n := 4) dX4_leastBoundFor_1 rfl wf_RX4_9 (ink ik_4 (by omega)) rfl (by decide) rfl (by decide) ?_
  by_cases c50 : (σ.1 4 a0 0).toInt = (0 : Int)
  · replace h := (if_pos c50).symm.trans h
    refine Vm.tswI (0) 36 dX4_leastBoundFor_4 c50 (by decide) rfl rfl ?_
    refine Vm.iload_n (n := 37) 1 dX4_leastBoundFor_36 rfl rfl ?_
    obtain rfl := Option.some.inj h
    exact Vm.iret dX4_leastBoundFor_37 rfl hk.1 (by rw [hσ]; exact hk.2.symm)
  · replace h := (if_neg c50).symm.trans h
    by_cases c51 : (σ.1 4 a0 0).toInt = (1 : Int)
    · replace h := (if_pos c51).symm.trans h
      refine Vm.tswI (1) 36 dX4_leastBoundFor_4 c51 (by decide) rfl rfl ?_
      refine Vm.iload_n (n := 37) 1 dX4_leastBoundFor_36 rfl rfl ?_
      obtain rfl := Option.some.inj h
      exact Vm.iret dX4_leastBoundFor_37 rfl hk.1 (by rw [hσ]; exact hk.2.symm)
    · replace h := (if_neg c51).symm.trans h
      by_cases c52 : (σ.1 4 a0 0).toInt = (2 : Int)
      · replace h := (if_pos c52).symm.trans h
        refine Vm.tswI (2) 38 dX4_leastBoundFor_4 c52 (by decide) rfl rfl ?_
        refine Vm.iload_n (n := 39) 1 dX4_leastBoundFor_38 rfl rfl ?_
        refine Vm.aload_n (n := 40) 0 dX4_leastBoundFor_39 rfl rfl ?_
        refine Vm.gX (n := 43) dX4_leastBoundFor_40 rfl wf_RX4_18 (ink ik_4 (by omega)) rfl (by decide) rfl (by decide) ?_
        refine Vm.isub (n := 44) dX4_leastBoundFor_43 rfl ?_
        obtain rfl := Option.some.inj h
        exact Vm.iret dX4_leastBoundFor_44 rfl hk.1 (by rw [hσ]; exact hk.2.symm)
      · replace h := (if_neg c52).symm.trans h
        by_cases c53 : (σ.1 4 a0 0).toInt = (3 : Int)
        · replace h := (if_pos c53).symm.trans h
          refine Vm.tswI (3) 45 dX4_leastBoundFor_4 c53 (by decide) rfl rfl ?_
          refine Vm.aload_n (n := 46) 0 dX4_leastBoundFor_45 rfl rfl ?_
          refine Vm.gX (n := 49) dX4_leastBoundFor_46 rfl wf_RX4_18 (ink ik_4 (by omega)) rfl (by decide) rfl (by decide) ?_
          refine Vm.if_le (n := 52) 71 dX4_leastBoundFor_49 rfl rfl (fun c9 => ?_) (fun c9 => ?_)
          · replace h := (if_pos c9).symm.trans h
            refine Vm.iload_n (n := 72) 1 dX4_leastBoundFor_71 rfl rfl ?_
            obtain rfl := Option.some.inj h
            exact Vm.iret dX4_leastBoundFor_72 rfl hk.1 (by rw [hσ]; exact hk.2.symm)
          · replace h := (if_neg c9).symm.trans h
            refine Vm.sipush (n := 55) (v := (-999 : Int32)) dX4_leastBoundFor_52 rfl (by decide) ?_
            refine Vm.iload_n (n := 56) 1 dX4_leastBoundFor_55 rfl rfl ?_
            refine Vm.sipush (n := 59) (v := (999 : Int32)) dX4_leastBoundFor_56 rfl (by decide) ?_
            refine Vm.iadd (n := 60) dX4_leastBoundFor_59 rfl ?_
            refine Vm.aload_n (n := 61) 0 dX4_leastBoundFor_60 rfl rfl ?_
            refine Vm.gX (n := 64) dX4_leastBoundFor_61 rfl wf_RX4_18 (ink ik_4 (by omega)) rfl (by decide) rfl (by decide) ?_
            replace h := Option.bind_eq_some_iff.mp h
            obtain ⟨q1, h1, h⟩ := h
            refine Vm.callS (Y := mJ9_floorMod_7cf53) (n := 67) [.inl (a1 + (999 : Int32)), .inl (σ.1 4 a0 2)] dX4_leastBoundFor_64 rfl wv_RX4_48 omJ9_floorMod_7cf53 rfl rfl (Nat.le_of_ble_eq_true rfl) (by decide) (kJ9_floorMod_7cf53 (a1 + (999 : Int32)) (σ.1 4 a0 2) h1) ?_
            refine Vm.iadd (n := 68) dX4_leastBoundFor_67 rfl ?_
            refine Vm.goto 72 dX4_leastBoundFor_68 rfl ?_
            obtain rfl := Option.some.inj h
            exact Vm.iret dX4_leastBoundFor_72 rfl hk.1 (by rw [hσ]; exact hk.2.symm)
        · replace h := (if_neg c53).symm.trans h
          refine Vm.tswO 73 dX4_leastBoundFor_4 (by omega) rfl ?_
          refine Vm.sipush (n := 76) (v := (-999 : Int32)) dX4_leastBoundFor_73 rfl (by decide) ?_
          obtain rfl := Option.some.inj h
          exact Vm.iret dX4_leastBoundFor_76 rfl hk.1 (by rw [hσ]; exact hk.2.symm)
theorem kX4_leastBoundFor (a0 : Nat) (ha0 : a0 < 24) (a1 : Int32) (σ τ : mm) {q : Int32} (h : fX4_leastBoundFor a0 a1 σ = some q) : Cx mX4_leastBoundFor 1 [.inr (.inr (4, a0)), .inl a1] (σ, τ) (some (.inl q)) (σ, τ) :=
  Cx.of (lv := [(0, .inr (.inr (4, a0))), (1, .inl a1)]) (by decide) (fun ad => Nat.le_of_ble_eq_true rfl) (fun ad => rfl) (lX4_leastBoundFor_0 a0 ha0 a1 σ σ τ rfl h ⟨rfl, rfl⟩)
-- ThinBodies$Cloud leastBound (LThinBodies$Body;I)I
noncomputable def fX1_leastBound_60 (a1 : Nat) (a2 : Int32) (a3 : Nat) (a4 : Int32) (a5 : Int32) (σ : mm) : Option ((Int32 × Int32) ⊕ (Int32)) :=
  Option.bind (some (a5 + (1 : Int32))) fun x1 =>
  some (.inl (a4, x1))
noncomputable def fX1_leastBound_15 (a1 : Nat) (a2 : Int32) (a3 : Nat) (a4 : Int32) (a5 : Int32) (σ : mm) : Option ((Int32 × Int32) ⊕ (Int32)) :=
  if (σ.1 1 0 1) ≤ a5 then
  some (.inr (a4))
  else
  Option.bind (fX1_isInWithout a5 a2 σ) fun q1 =>
  if (bi q1) = (0 : Int32) then
  fX1_leastBound_60 a1 a2 a3 a4 a5 σ
  else
  Option.bind (rdI σ 12 0 4096 a5) fun x2 =>
  Option.bind (fX4_sumInPacked a3 x2 (σ.1 0 a1 0) σ) fun q3 =>
  Option.bind (fX4_leastBoundFor a3 q3 σ) fun q4 =>
  Option.bind (some ((fJ9_min_7cf53 a4 q4))) fun x5 =>
  fX1_leastBound_60 a1 a2 a3 x5 a5 σ
noncomputable def fX1_leastBound_15_L (a1 : Nat) (a2 : Int32) (a3 : Nat) (σ : mm) : Int32 × Int32 → Option ((Int32 × Int32) ⊕ (Int32)) := fun z => fX1_leastBound_15 a1 a2 a3 z.1 z.2 σ
noncomputable def fX1_leastBound_0 (a1 : Nat) (a2 : Int32) (σ : mm) : Option (Int32) :=
  Option.bind (rdR 8 a2) fun k1 =>
  lp (fX1_leastBound_15_L a1 a2 (8 * a1 + k1) σ) ((1000 : Int32), (0 : Int32))
noncomputable def fX1_leastBound (a1 : Nat) (a2 : Int32) (σ : mm) : Option (Int32) := fX1_leastBound_0 a1 a2 σ
set_option maxRecDepth 20000 in
theorem lX1_leastBound_60 (a1 : Nat) (ha1 : a1 < 3) (a2 : Int32) (a3 : Nat) (ha3 : a3 < 24) (a4 : Int32) (a5 : Int32) (σ σ0 τ : mm) (hσ : σ = σ0) {r : Option mv} {M' : mm × mm} {v9 : (Int32 × Int32) ⊕ (Int32)} (h : fX1_leastBound_60 a1 a2 a3 a4 a5 σ = some v9) (hk : (Sum.elim (fun z : Int32 × Int32 => Vm mX1_leastBound 2 15 [(0, .inr (.inr (1, 0))), (1, .inr (.inr (0, a1))), (2, .inl a2), (3, .inr (.inr (4, a3))), (4, .inl z.1), (5, .inl z.2)] [] (σ, τ) r M') (fun q : Int32 => r = some (.inl q) ∧ M' = (σ0, τ))) v9) : Vm mX1_leastBound 2 60 [(0, .inr (.inr (1, 0))), (1, .inr (.inr (0, a1))), (2, .inl a2), (3, .inr (.inr (4, a3))), (4, .inl a4), (5, .inl a5)] [] (σ, τ) r M' := by
  unfold fX1_leastBound_60 at h
  replace h := Option.bind_eq_some_iff.mp h
  obtain ⟨x1, e1, h⟩ := h
  replace e1 := Option.some.inj e1
  refine Vm.iinc (n := 63) (v := x1) (lv' := [(5, .inl x1), (0, .inr (.inr (1, 0))), (1, .inr (.inr (0, a1))), (2, .inl a2), (3, .inr (.inr (4, a3))), (4, .inl a4)]) 5 dX1_leastBound_60 rfl rfl e1 (Nat.le_of_ble_eq_true rfl) rfl ?_
  refine Vm.goto 15 dX1_leastBound_63 rfl ?_
  refine Vm.sub (lv' := [(0, .inr (.inr (1, 0))), (1, .inr (.inr (0, a1))), (2, .inl a2), (3, .inr (.inr (4, a3))), (4, .inl a4), (5, .inl x1)]) [1, 2, 3, 4, 5, 0] rfl ?_
  obtain rfl := Option.some.inj h
  exact hk
set_option maxRecDepth 20000 in
theorem lX1_leastBound_15 (a1 : Nat) (ha1 : a1 < 3) (a2 : Int32) (a3 : Nat) (ha3 : a3 < 24) (a4 : Int32) (a5 : Int32) (σ σ0 τ : mm) (hσ : σ = σ0) {r : Option mv} {M' : mm × mm} {v9 : (Int32 × Int32) ⊕ (Int32)} (h : fX1_leastBound_15 a1 a2 a3 a4 a5 σ = some v9) (hk : (Sum.elim (fun z : Int32 × Int32 => Vm mX1_leastBound 2 15 [(0, .inr (.inr (1, 0))), (1, .inr (.inr (0, a1))), (2, .inl a2), (3, .inr (.inr (4, a3))), (4, .inl z.1), (5, .inl z.2)] [] (σ, τ) r M') (fun q : Int32 => r = some (.inl q) ∧ M' = (σ0, τ))) v9) : Vm mX1_leastBound 2 15 [(0, .inr (.inr (1, 0))), (1, .inr (.inr (0, a1))), (2, .inl a2), (3, .inr (.inr (4, a3))), (4, .inl a4), (5, .inl a5)] [] (σ, τ) r M' := by
  unfold fX1_leastBound_15 at h
  refine Vm.iload (n := 17) 5 dX1_leastBound_15 rfl rfl ?_
  refine Vm.aload_n (n := 18) 0 dX1_leastBound_17 rfl rfl ?_
  refine Vm.gX (n := 21) dX1_leastBound_18 rfl wf_RX1_15 in_1 rfl (by decide) rfl (by decide) ?_
  refine Vm.icmp_ge (n := 24) 66 dX1_leastBound_21 rfl rfl (fun c9 => ?_) (fun c9 => ?_)
  · replace h := (if_pos c9).symm.trans h
    refine Vm.iload (n := 68) 4 dX1_leastBound_66 rfl rfl ?_
    obtain rfl := Option.some.inj h
    exact Vm.iret dX1_leastBound_68 rfl hk.1 (by rw [hσ]; exact hk.2.symm)
  · replace h := (if_neg c9).symm.trans h
    refine Vm.aload_n (n := 25) 0 dX1_leastBound_24 rfl rfl ?_
    refine Vm.iload (n := 27) 5 dX1_leastBound_25 rfl rfl ?_
    refine Vm.iload_n (n := 28) 2 dX1_leastBound_27 rfl rfl ?_
    replace h := Option.bind_eq_some_iff.mp h
    obtain ⟨q1, h1, h⟩ := h
    refine Vm.callV (Y := mX1_isInWithout) (n := 31) [.inl a5, .inl a2] dX1_leastBound_28 rfl wv_RX1_120 omX1_isInWithout rfl in_1 rfl rfl rfl (Nat.le_of_ble_eq_true rfl) (by decide) (kX1_isInWithout a5 a2 σ τ h1) ?_
    refine Vm.if_eq (n := 34) 60 dX1_leastBound_31 rfl rfl (fun c9 => ?_) (fun c9 => ?_)
    · replace h := (if_pos c9).symm.trans h
      exact lX1_leastBound_60 a1 (by omega) a2 a3 (by omega) a4 a5 σ σ0 τ hσ h hk
    · replace h := (if_neg c9).symm.trans h
      refine Vm.iload (n := 36) 4 dX1_leastBound_34 rfl rfl ?_
      refine Vm.aload_n (n := 37) 3 dX1_leastBound_36 rfl rfl ?_
      refine Vm.aload_n (n := 38) 3 dX1_leastBound_37 rfl rfl ?_
      refine Vm.aload_n (n := 39) 0 dX1_leastBound_38 rfl rfl ?_
      refine Vm.getR (n := 42) dX1_leastBound_39 rfl wf_RX1_37 in_1 rfl (by decide) rfl ?_
      refine Vm.iload (n := 44) 5 dX1_leastBound_42 rfl rfl ?_
      replace h := Option.bind_eq_some_iff.mp h
      obtain ⟨x2, h2, h⟩ := h
      refine Vm.ialdx (n := 45) dX1_leastBound_44 rfl in_12 rfl rfl (by decide) h2 ?_
      refine Vm.aload_n (n := 46) 1 dX1_leastBound_45 rfl rfl ?_
      refine Vm.gX (n := 49) dX1_leastBound_46 rfl wf_RX1_72 (ink ik_0 (by omega)) rfl (by decide) rfl (by decide) ?_
      replace h := Option.bind_eq_some_iff.mp h
      obtain ⟨q3, h3, h⟩ := h
      refine Vm.callV (Y := mX4_sumInPacked) (n := 52) [.inl x2, .inl (σ.1 0 a1 0)] dX1_leastBound_49 rfl wv_RX1_128 omX4_sumInPacked rfl (ink ik_4 (by omega)) rfl rfl rfl (Nat.le_of_ble_eq_true rfl) (by decide) (kX4_sumInPacked a3 (by omega) x2 (σ.1 0 a1 0) σ τ h3) ?_
      replace h := Option.bind_eq_some_iff.mp h
      obtain ⟨q4, h4, h⟩ := h
      refine Vm.callV (Y := mX4_leastBoundFor) (n := 55) [.inl q3] dX1_leastBound_52 rfl wv_RX1_136 omX4_leastBoundFor rfl (ink ik_4 (by omega)) rfl rfl rfl (Nat.le_of_ble_eq_true rfl) (by decide) (kX4_leastBoundFor a3 (by omega) q3 σ τ h4) ?_
      refine Vm.callS (Y := mJ9_min_7cf53) (n := 58) [.inl a4, .inl q4] dX1_leastBound_55 rfl wv_RX1_53 omJ9_min_7cf53 rfl rfl (Nat.le_of_ble_eq_true rfl) (by decide) (kJ9_min_7cf53 a4 q4 rfl) ?_
      replace h := Option.bind_eq_some_iff.mp h
      obtain ⟨x5, e5, h⟩ := h
      replace e5 := Option.some.inj e5
      refine Vm.top e5 ?_
      refine Vm.istore (n := 60) (lv' := [(4, .inl x5), (0, .inr (.inr (1, 0))), (1, .inr (.inr (0, a1))), (2, .inl a2), (3, .inr (.inr (4, a3))), (5, .inl a5)]) dX1_leastBound_58 rfl (Nat.le_of_ble_eq_true rfl) rfl ?_
      refine Vm.sub (lv' := [(0, .inr (.inr (1, 0))), (1, .inr (.inr (0, a1))), (2, .inl a2), (3, .inr (.inr (4, a3))), (4, .inl x5), (5, .inl a5)]) [1, 2, 3, 4, 0, 5] rfl ?_
      exact lX1_leastBound_60 a1 (by omega) a2 a3 (by omega) x5 a5 σ σ0 τ hσ h hk
theorem lX1_leastBound_15_L (a1 : Nat) (ha1 : a1 < 3) (a2 : Int32) (a3 : Nat) (ha3 : a3 < 24) (σ σ0 τ : mm) (hσ : σ = σ0) {r : Option mv} {M' : mm × mm} (z : Int32 × Int32) (w9 : Int32) (h : lp (fX1_leastBound_15_L a1 a2 a3 σ) z = some w9) (hk : (fun q : Int32 => r = some (.inl q) ∧ M' = (σ0, τ)) w9) : Vm mX1_leastBound 2 15 [(0, .inr (.inr (1, 0))), (1, .inr (.inr (0, a1))), (2, .inl a2), (3, .inr (.inr (4, a3))), (4, .inl z.1), (5, .inl z.2)] [] (σ, τ) r M' :=
  lp_link (S := Int32 × Int32) (R := Int32) (body := fX1_leastBound_15_L a1 a2 a3 σ) (A := fun z : Int32 × Int32 => Vm mX1_leastBound 2 15 [(0, .inr (.inr (1, 0))), (1, .inr (.inr (0, a1))), (2, .inl a2), (3, .inr (.inr (4, a3))), (4, .inl z.1), (5, .inl z.2)] [] (σ, τ) r M') (B := fun w : Int32 => (fun q : Int32 => r = some (.inl q) ∧ M' = (σ0, τ)) w) (fun z v hb hv => lX1_leastBound_15 a1 ha1 a2 a3 ha3 z.1 z.2 σ σ0 τ hσ hb hv) z w9 h hk
set_option maxRecDepth 20000 in
theorem lX1_leastBound_0 (a1 : Nat) (ha1 : a1 < 3) (a2 : Int32) (σ σ0 τ : mm) (hσ : σ = σ0) {r : Option mv} {M' : mm × mm} {v9 : Int32} (h : fX1_leastBound_0 a1 a2 σ = some v9) (hk : (fun q : Int32 => r = some (.inl q) ∧ M' = (σ0, τ)) v9) : Vm mX1_leastBound 2 0 [(0, .inr (.inr (1, 0))), (1, .inr (.inr (0, a1))), (2, .inl a2)] [] (σ, τ) r M' := by
  unfold fX1_leastBound_0 at h
  refine Vm.aload_n (n := 1) 1 dX1_leastBound_0 rfl rfl ?_
  refine Vm.getR (n := 4) dX1_leastBound_1 rfl wf_RX1_124 (ink ik_0 (by omega)) rfl (by decide) rfl ?_
  refine Vm.iload_n (n := 5) 2 dX1_leastBound_4 rfl rfl ?_
  replace h := Option.bind_eq_some_iff.mp h
  obtain ⟨k1, h1, h⟩ := h
  refine Vm.aald (n := 6) dX1_leastBound_5 rfl (ink ik_27 (by omega)) rfl rfl (by decide) (fun _ => rfl) rfl h1 ?_
  have g1 := rdR_lt h1
  refine Vm.astore_n (n := 7) (lv' := [(3, .inr (.inr (4, (8 * a1 + k1)))), (0, .inr (.inr (1, 0))), (1, .inr (.inr (0, a1))), (2, .inl a2)]) dX1_leastBound_6 rfl (Nat.le_of_ble_eq_true rfl) rfl ?_
  refine Vm.sipush (n := 10) (v := (1000 : Int32)) dX1_leastBound_7 rfl (by decide) ?_
  refine Vm.istore (n := 12) (lv' := [(4, .inl (1000 : Int32)), (3, .inr (.inr (4, (8 * a1 + k1)))), (0, .inr (.inr (1, 0))), (1, .inr (.inr (0, a1))), (2, .inl a2)]) dX1_leastBound_10 rfl (Nat.le_of_ble_eq_true rfl) rfl ?_
  refine Vm.iconst (n := 13) (v := (0 : Int32)) dX1_leastBound_12 rfl (by decide) ?_
  refine Vm.istore (n := 15) (lv' := [(5, .inl (0 : Int32)), (4, .inl (1000 : Int32)), (3, .inr (.inr (4, (8 * a1 + k1)))), (0, .inr (.inr (1, 0))), (1, .inr (.inr (0, a1))), (2, .inl a2)]) dX1_leastBound_13 rfl (Nat.le_of_ble_eq_true rfl) rfl ?_
  refine Vm.sub (lv' := [(0, .inr (.inr (1, 0))), (1, .inr (.inr (0, a1))), (2, .inl a2), (3, .inr (.inr (4, (8 * a1 + k1)))), (4, .inl (1000 : Int32)), (5, .inl (0 : Int32))]) [3, 4, 5, 2, 1, 0] rfl ?_
  exact lX1_leastBound_15_L a1 (by omega) a2 (8 * a1 + k1) (by omega) σ σ0 τ hσ ((1000 : Int32), (0 : Int32)) _ h hk
theorem kX1_leastBound (a1 : Nat) (ha1 : a1 < 3) (a2 : Int32) (σ τ : mm) {q : Int32} (h : fX1_leastBound a1 a2 σ = some q) : Cx mX1_leastBound 2 [.inr (.inr (1, 0)), .inr (.inr (0, a1)), .inl a2] (σ, τ) (some (.inl q)) (σ, τ) :=
  Cx.of (lv := [(0, .inr (.inr (1, 0))), (1, .inr (.inr (0, a1))), (2, .inl a2)]) (by decide) (fun ad => Nat.le_of_ble_eq_true rfl) (fun ad => rfl) (lX1_leastBound_0 a1 ha1 a2 σ σ τ rfl h ⟨rfl, rfl⟩)
-- ThinBodies boundFor (I)I
noncomputable def fX7_boundFor_0 (a1 : Int32) (σ : mm) : Option (Int32 × mm) :=
  if (bi (fX0_hasRow 0 a1 σ)) = (0 : Int32) then
  Option.bind (fX7_finding (0 : Int32) σ) fun q4 =>
  some ((q4.1, q4.2))
  else
  Option.bind (fX1_refresh 0 σ) fun q1 =>
  Option.bind (fX1_leastBound 0 a1 q1) fun q2 =>
  if q2 ≤ (999 : Int32) then
  some ((q2, q1))
  else
  Option.bind (fX7_finding (3 : Int32) q1) fun q3 =>
  some ((q3.1, q3.2))
noncomputable def fX7_boundFor (a1 : Int32) (σ : mm) : Option (Int32 × mm) := fX7_boundFor_0 a1 σ
set_option maxRecDepth 20000 in
theorem lX7_boundFor_0 (a1 : Int32) (σ τ : mm) {r : Option mv} {M' : mm × mm} {v9 : Int32 × mm} (h : fX7_boundFor_0 a1 σ = some v9) (hk : (fun q : Int32 × mm => r = some (.inl q.1) ∧ M' = (q.2, τ)) v9) : Vm mX7_boundFor 5 0 [(0, .inr (.inr (7, 0))), (1, .inl a1)] [] (σ, τ) r M' := by
  unfold fX7_boundFor_0 at h
  refine Vm.aload_n (n := 1) 0 dX7_boundFor_0 rfl rfl ?_
  refine Vm.getR (n := 4) dX7_boundFor_1 rfl wf_RX7_12 in_7 rfl (by decide) rfl ?_
  refine Vm.iload_n (n := 5) 1 dX7_boundFor_4 rfl rfl ?_
  refine Vm.callV (Y := mX0_hasRow) (n := 8) [.inl a1] dX7_boundFor_5 rfl wv_RX7_124 omX0_hasRow rfl (ink ik_0 (by decide)) rfl rfl rfl (Nat.le_of_ble_eq_true rfl) (by decide) (kX0_hasRow 0 (by decide) a1 σ τ rfl) ?_
  refine Vm.if_ne (n := 11) 17 dX7_boundFor_8 rfl rfl (fun c9 => ?_) (fun c9 => ?_)
  · replace h := (if_neg c9).symm.trans h
    refine Vm.aload_n (n := 18) 0 dX7_boundFor_17 rfl rfl ?_
    refine Vm.getR (n := 21) dX7_boundFor_18 rfl wf_RX7_29 in_7 rfl (by decide) rfl ?_
    refine Vm.aload_n (n := 22) 0 dX7_boundFor_21 rfl rfl ?_
    refine Vm.getR (n := 25) dX7_boundFor_22 rfl wf_RX7_12 in_7 rfl (by decide) rfl ?_
    replace h := Option.bind_eq_some_iff.mp h
    obtain ⟨q1, h1, h⟩ := h
    refine Vm.callVv (Y := mX1_refresh) (n := 28) [.inr (.inr (0, 0))] dX7_boundFor_25 rfl wv_RX7_154 omX1_refresh rfl in_1 rfl rfl rfl (Nat.le_of_ble_eq_true rfl) (by decide) (kX1_refresh 0 (by decide) σ τ h1) ?_
    refine Vm.aload_n (n := 29) 0 dX7_boundFor_28 rfl rfl ?_
    refine Vm.getR (n := 32) dX7_boundFor_29 rfl wf_RX7_29 in_7 rfl (by decide) rfl ?_
    refine Vm.aload_n (n := 33) 0 dX7_boundFor_32 rfl rfl ?_
    refine Vm.getR (n := 36) dX7_boundFor_33 rfl wf_RX7_12 in_7 rfl (by decide) rfl ?_
    refine Vm.iload_n (n := 37) 1 dX7_boundFor_36 rfl rfl ?_
    replace h := Option.bind_eq_some_iff.mp h
    obtain ⟨q2, h2, h⟩ := h
    refine Vm.callV (Y := mX1_leastBound) (n := 40) [.inr (.inr (0, 0)), .inl a1] dX7_boundFor_37 rfl wv_RX7_286 omX1_leastBound rfl in_1 rfl rfl rfl (Nat.le_of_ble_eq_true rfl) (by decide) (kX1_leastBound 0 (by decide) a1 q1 τ h2) ?_
    refine Vm.istore_n (n := 41) (lv' := [(2, .inl q2), (0, .inr (.inr (7, 0))), (1, .inl a1)]) dX7_boundFor_40 rfl (Nat.le_of_ble_eq_true rfl) rfl ?_
    refine Vm.iload_n (n := 42) 0 dX7_boundFor_41 rfl rfl ?_
    refine Vm.sipush (n := 45) (v := (999 : Int32)) dX7_boundFor_42 rfl (by decide) ?_
    refine Vm.icmp_le (n := 48) 56 dX7_boundFor_45 rfl rfl (fun c9 => ?_) (fun c9 => ?_)
    · replace h := (if_pos c9).symm.trans h
      refine Vm.iload_n (n := 57) 0 dX7_boundFor_56 rfl rfl ?_
      obtain rfl := Option.some.inj h
      exact Vm.iret dX7_boundFor_57 rfl hk.1 hk.2.symm
    · replace h := (if_neg c9).symm.trans h
      refine Vm.aload_n (n := 49) 1 dX7_boundFor_48 rfl rfl ?_
      refine Vm.iconst (n := 50) (v := (3 : Int32)) dX7_boundFor_49 rfl (by decide) ?_
      replace h := Option.bind_eq_some_iff.mp h
      obtain ⟨q3, h3, h⟩ := h
      refine Vm.callV (Y := mX7_finding) (n := 53) [.inl (3 : Int32)] dX7_boundFor_50 rfl wv_RX7_68 omX7_finding rfl in_7 rfl rfl rfl (Nat.le_of_ble_eq_true rfl) (by decide) (kX7_finding (3 : Int32) q1 τ h3) ?_
      refine Vm.goto 57 dX7_boundFor_53 rfl ?_
      obtain rfl := Option.some.inj h
      exact Vm.iret dX7_boundFor_57 rfl hk.1 hk.2.symm
  · replace h := (if_pos c9).symm.trans h
    refine Vm.aload_n (n := 12) 0 dX7_boundFor_11 rfl rfl ?_
    refine Vm.iconst (n := 13) (v := (0 : Int32)) dX7_boundFor_12 rfl (by decide) ?_
    replace h := Option.bind_eq_some_iff.mp h
    obtain ⟨q4, h4, h⟩ := h
    refine Vm.callV (Y := mX7_finding) (n := 16) [.inl (0 : Int32)] dX7_boundFor_13 rfl wv_RX7_68 omX7_finding rfl in_7 rfl rfl rfl (Nat.le_of_ble_eq_true rfl) (by decide) (kX7_finding (0 : Int32) σ τ h4) ?_
    obtain rfl := Option.some.inj h
    exact Vm.iret dX7_boundFor_16 rfl hk.1 hk.2.symm
theorem kX7_boundFor (a1 : Int32) (σ τ : mm) {q : Int32 × mm} (h : fX7_boundFor a1 σ = some q) : Cx mX7_boundFor 5 [.inr (.inr (7, 0)), .inl a1] (σ, τ) (some (.inl q.1)) (q.2, τ) :=
  Cx.of (lv := [(0, .inr (.inr (7, 0))), (1, .inl a1)]) (by decide) (fun ad => Nat.le_of_ble_eq_true rfl) (fun ad => rfl) (lX7_boundFor_0 a1 σ τ h ⟨rfl, rfl⟩)
-- ThinBodies base (III)I
def fX7_base_30 (σ : mm) : Option (Int32 × mm) :=
  Option.bind (fX7_finding (0 : Int32) σ) fun q1 =>
  some ((q1.1, q1.2))
def fX7_base_0 (a1 : Int32) (a2 : Int32) (a3 : Int32) (σ : mm) : Option (Int32 × mm) :=
  if (bi (fX0_hasLetter 0 a1 σ)) = (0 : Int32) then
  fX7_base_30 σ
  else
  if (bi (fX0_hasLetter 0 a2 σ)) = (0 : Int32) then
  fX7_base_30 σ
  else
  if (bi (fX7_within a3 (4 : Int32))) = (0 : Int32) then
  fX7_base_30 σ
  else
  Option.bind (rdR 4 a1) fun k1 =>
  Option.bind (rdI σ 11 (4 * 0 + k1) 4 a2) fun x2 =>
  Option.bind (rdR 4 a1) fun k3 =>
  Option.bind (wrI σ 11 (4 * 0 + k3) 4 a2 a3) fun σ4 =>
  some ((x2, σ4))
def fX7_base (a1 : Int32) (a2 : Int32) (a3 : Int32) (σ : mm) : Option (Int32 × mm) := fX7_base_0 a1 a2 a3 σ
set_option maxRecDepth 20000 in
theorem lX7_base_30 (σ τ : mm) {r : Option mv} {M' : mm × mm} {v9 : Int32 × mm} (h : fX7_base_30 σ = some v9) (hk : (fun q : Int32 × mm => r = some (.inl q.1) ∧ M' = (q.2, τ)) v9) : Vm mX7_base 1 30 [(0, .inr (.inr (7, 0)))] [] (σ, τ) r M' := by
  unfold fX7_base_30 at h
  refine Vm.aload_n (n := 31) 0 dX7_base_30 rfl rfl ?_
  refine Vm.iconst (n := 32) (v := (0 : Int32)) dX7_base_31 rfl (by decide) ?_
  replace h := Option.bind_eq_some_iff.mp h
  obtain ⟨q1, h1, h⟩ := h
  refine Vm.callV (Y := mX7_finding) (n := 35) [.inl (0 : Int32)] dX7_base_32 rfl wv_RX7_68 omX7_finding rfl in_7 rfl rfl rfl (Nat.le_of_ble_eq_true rfl) (by decide) (kX7_finding (0 : Int32) σ τ h1) ?_
  obtain rfl := Option.some.inj h
  exact Vm.iret dX7_base_35 rfl hk.1 hk.2.symm
set_option maxRecDepth 20000 in
theorem lX7_base_0 (a1 : Int32) (a2 : Int32) (a3 : Int32) (σ τ : mm) {r : Option mv} {M' : mm × mm} {v9 : Int32 × mm} (h : fX7_base_0 a1 a2 a3 σ = some v9) (hk : (fun q : Int32 × mm => r = some (.inl q.1) ∧ M' = (q.2, τ)) v9) : Vm mX7_base 1 0 [(0, .inr (.inr (7, 0))), (1, .inl a1), (2, .inl a2), (3, .inl a3)] [] (σ, τ) r M' := by
  unfold fX7_base_0 at h
  refine Vm.aload_n (n := 1) 0 dX7_base_0 rfl rfl ?_
  refine Vm.getR (n := 4) dX7_base_1 rfl wf_RX7_12 in_7 rfl (by decide) rfl ?_
  refine Vm.iload_n (n := 5) 1 dX7_base_4 rfl rfl ?_
  refine Vm.callV (Y := mX0_hasLetter) (n := 8) [.inl a1] dX7_base_5 rfl wv_RX7_86 omX0_hasLetter rfl (ink ik_0 (by decide)) rfl rfl rfl (Nat.le_of_ble_eq_true rfl) (by decide) (kX0_hasLetter 0 (by decide) a1 σ τ rfl) ?_
  refine Vm.if_eq (n := 11) 30 dX7_base_8 rfl rfl (fun c9 => ?_) (fun c9 => ?_)
  · replace h := (if_pos c9).symm.trans h
    refine Vm.sub (lv' := [(0, .inr (.inr (7, 0)))]) [0] rfl ?_
    exact lX7_base_30 σ τ h hk
  · replace h := (if_neg c9).symm.trans h
    refine Vm.aload_n (n := 12) 0 dX7_base_11 rfl rfl ?_
    refine Vm.getR (n := 15) dX7_base_12 rfl wf_RX7_12 in_7 rfl (by decide) rfl ?_
    refine Vm.iload_n (n := 16) 2 dX7_base_15 rfl rfl ?_
    refine Vm.callV (Y := mX0_hasLetter) (n := 19) [.inl a2] dX7_base_16 rfl wv_RX7_86 omX0_hasLetter rfl (ink ik_0 (by decide)) rfl rfl rfl (Nat.le_of_ble_eq_true rfl) (by decide) (kX0_hasLetter 0 (by decide) a2 σ τ rfl) ?_
    refine Vm.if_eq (n := 22) 30 dX7_base_19 rfl rfl (fun c9 => ?_) (fun c9 => ?_)
    · replace h := (if_pos c9).symm.trans h
      refine Vm.sub (lv' := [(0, .inr (.inr (7, 0)))]) [0] rfl ?_
      exact lX7_base_30 σ τ h hk
    · replace h := (if_neg c9).symm.trans h
      refine Vm.iload_n (n := 23) 3 dX7_base_22 rfl rfl ?_
      refine Vm.iconst (n := 24) (v := (4 : Int32)) dX7_base_23 rfl (by decide) ?_
      refine Vm.callS (Y := mX7_within) (n := 27) [.inl a3, .inl (4 : Int32)] dX7_base_24 rfl wv_RX7_90 omX7_within rfl rfl (Nat.le_of_ble_eq_true rfl) (by decide) (kX7_within a3 (4 : Int32) rfl) ?_
      refine Vm.if_ne (n := 30) 36 dX7_base_27 rfl rfl (fun c9 => ?_) (fun c9 => ?_)
      · replace h := (if_neg c9).symm.trans h
        refine Vm.aload_n (n := 37) 0 dX7_base_36 rfl rfl ?_
        refine Vm.getR (n := 40) dX7_base_37 rfl wf_RX7_12 in_7 rfl (by decide) rfl ?_
        refine Vm.getR (n := 43) dX7_base_40 rfl wf_RX7_290 (ink ik_0 (by decide)) rfl (by decide) rfl ?_
        refine Vm.iload_n (n := 44) 1 dX7_base_43 rfl rfl ?_
        replace h := Option.bind_eq_some_iff.mp h
        obtain ⟨k1, h1, h⟩ := h
        refine Vm.aald (n := 45) dX7_base_44 rfl (ink ik_28 (by decide)) rfl rfl (by decide) (fun _ => rfl) rfl h1 ?_
        have g1 := rdR_lt h1
        refine Vm.iload_n (n := 46) 2 dX7_base_45 rfl rfl ?_
        replace h := Option.bind_eq_some_iff.mp h
        obtain ⟨x2, h2, h⟩ := h
        refine Vm.ialdx (n := 47) dX7_base_46 rfl (ink ik_11 (by omega)) rfl rfl (by decide) h2 ?_
        refine Vm.istore (n := 49) (lv' := [(4, .inl x2), (0, .inr (.inr (7, 0))), (1, .inl a1), (2, .inl a2), (3, .inl a3)]) dX7_base_47 rfl (Nat.le_of_ble_eq_true rfl) rfl ?_
        refine Vm.aload_n (n := 50) 1 dX7_base_49 rfl rfl ?_
        refine Vm.getR (n := 53) dX7_base_50 rfl wf_RX7_12 in_7 rfl (by decide) rfl ?_
        refine Vm.getR (n := 56) dX7_base_53 rfl wf_RX7_290 (ink ik_0 (by decide)) rfl (by decide) rfl ?_
        refine Vm.iload_n (n := 57) 2 dX7_base_56 rfl rfl ?_
        replace h := Option.bind_eq_some_iff.mp h
        obtain ⟨k3, h3, h⟩ := h
        refine Vm.aald (n := 58) dX7_base_57 rfl (ink ik_28 (by decide)) rfl rfl (by decide) (fun _ => rfl) rfl h3 ?_
        have g3 := rdR_lt h3
        refine Vm.iload_n (n := 59) 3 dX7_base_58 rfl rfl ?_
        refine Vm.iload_n (n := 60) 4 dX7_base_59 rfl rfl ?_
        replace h := Option.bind_eq_some_iff.mp h
        obtain ⟨σ4, h4, h⟩ := h
        refine Vm.iastx (n := 61) dX7_base_60 rfl (ink ik_11 (by omega)) rfl rfl (by decide) h4 ?_
        refine Vm.iload (n := 63) 0 dX7_base_61 rfl rfl ?_
        obtain rfl := Option.some.inj h
        exact Vm.iret dX7_base_63 rfl hk.1 hk.2.symm
      · replace h := (if_pos c9).symm.trans h
        refine Vm.sub (lv' := [(0, .inr (.inr (7, 0)))]) [0] rfl ?_
        exact lX7_base_30 σ τ h hk
theorem kX7_base (a1 : Int32) (a2 : Int32) (a3 : Int32) (σ τ : mm) {q : Int32 × mm} (h : fX7_base a1 a2 a3 σ = some q) : Cx mX7_base 1 [.inr (.inr (7, 0)), .inl a1, .inl a2, .inl a3] (σ, τ) (some (.inl q.1)) (q.2, τ) :=
  Cx.of (lv := [(0, .inr (.inr (7, 0))), (1, .inl a1), (2, .inl a2), (3, .inl a3)]) (by decide) (fun ad => Nat.le_of_ble_eq_true rfl) (fun ad => rfl) (lX7_base_0 a1 a2 a3 σ τ h ⟨rfl, rfl⟩)
-- ThinBodies baseOf (II)I
def fX7_baseOf_22 (σ : mm) : Option (Int32 × mm) :=
  Option.bind (fX7_finding (0 : Int32) σ) fun q1 =>
  some ((q1.1, q1.2))
def fX7_baseOf_0 (a1 : Int32) (a2 : Int32) (σ : mm) : Option (Int32 × mm) :=
  if (bi (fX0_hasLetter 0 a1 σ)) = (0 : Int32) then
  fX7_baseOf_22 σ
  else
  if (bi (fX0_hasLetter 0 a2 σ)) = (0 : Int32) then
  fX7_baseOf_22 σ
  else
  Option.bind (rdR 4 a1) fun k1 =>
  Option.bind (rdI σ 11 (4 * 0 + k1) 4 a2) fun x2 =>
  some ((x2, σ))
def fX7_baseOf (a1 : Int32) (a2 : Int32) (σ : mm) : Option (Int32 × mm) := fX7_baseOf_0 a1 a2 σ
set_option maxRecDepth 20000 in
theorem lX7_baseOf_22 (σ τ : mm) {r : Option mv} {M' : mm × mm} {v9 : Int32 × mm} (h : fX7_baseOf_22 σ = some v9) (hk : (fun q : Int32 × mm => r = some (.inl q.1) ∧ M' = (q.2, τ)) v9) : Vm mX7_baseOf 1 22 [(0, .inr (.inr (7, 0)))] [] (σ, τ) r M' := by
  unfold fX7_baseOf_22 at h
  refine Vm.aload_n (n := 23) 0 dX7_baseOf_22 rfl rfl ?_
  refine Vm.iconst (n := 24) (v := (0 : Int32)) dX7_baseOf_23 rfl (by decide) ?_
  replace h := Option.bind_eq_some_iff.mp h
  obtain ⟨q1, h1, h⟩ := h
  refine Vm.callV (Y := mX7_finding) (n := 27) [.inl (0 : Int32)] dX7_baseOf_24 rfl wv_RX7_68 omX7_finding rfl in_7 rfl rfl rfl (Nat.le_of_ble_eq_true rfl) (by decide) (kX7_finding (0 : Int32) σ τ h1) ?_
  obtain rfl := Option.some.inj h
  exact Vm.iret dX7_baseOf_27 rfl hk.1 hk.2.symm
set_option maxRecDepth 20000 in
theorem lX7_baseOf_0 (a1 : Int32) (a2 : Int32) (σ τ : mm) {r : Option mv} {M' : mm × mm} {v9 : Int32 × mm} (h : fX7_baseOf_0 a1 a2 σ = some v9) (hk : (fun q : Int32 × mm => r = some (.inl q.1) ∧ M' = (q.2, τ)) v9) : Vm mX7_baseOf 1 0 [(0, .inr (.inr (7, 0))), (1, .inl a1), (2, .inl a2)] [] (σ, τ) r M' := by
  unfold fX7_baseOf_0 at h
  refine Vm.aload_n (n := 1) 0 dX7_baseOf_0 rfl rfl ?_
  refine Vm.getR (n := 4) dX7_baseOf_1 rfl wf_RX7_12 in_7 rfl (by decide) rfl ?_
  refine Vm.iload_n (n := 5) 1 dX7_baseOf_4 rfl rfl ?_
  refine Vm.callV (Y := mX0_hasLetter) (n := 8) [.inl a1] dX7_baseOf_5 rfl wv_RX7_86 omX0_hasLetter rfl (ink ik_0 (by decide)) rfl rfl rfl (Nat.le_of_ble_eq_true rfl) (by decide) (kX0_hasLetter 0 (by decide) a1 σ τ rfl) ?_
  refine Vm.if_eq (n := 11) 22 dX7_baseOf_8 rfl rfl (fun c9 => ?_) (fun c9 => ?_)
  · replace h := (if_pos c9).symm.trans h
    refine Vm.sub (lv' := [(0, .inr (.inr (7, 0)))]) [0] rfl ?_
    exact lX7_baseOf_22 σ τ h hk
  · replace h := (if_neg c9).symm.trans h
    refine Vm.aload_n (n := 12) 0 dX7_baseOf_11 rfl rfl ?_
    refine Vm.getR (n := 15) dX7_baseOf_12 rfl wf_RX7_12 in_7 rfl (by decide) rfl ?_
    refine Vm.iload_n (n := 16) 2 dX7_baseOf_15 rfl rfl ?_
    refine Vm.callV (Y := mX0_hasLetter) (n := 19) [.inl a2] dX7_baseOf_16 rfl wv_RX7_86 omX0_hasLetter rfl (ink ik_0 (by decide)) rfl rfl rfl (Nat.le_of_ble_eq_true rfl) (by decide) (kX0_hasLetter 0 (by decide) a2 σ τ rfl) ?_
    refine Vm.if_ne (n := 22) 28 dX7_baseOf_19 rfl rfl (fun c9 => ?_) (fun c9 => ?_)
    · replace h := (if_neg c9).symm.trans h
      refine Vm.aload_n (n := 29) 0 dX7_baseOf_28 rfl rfl ?_
      refine Vm.getR (n := 32) dX7_baseOf_29 rfl wf_RX7_12 in_7 rfl (by decide) rfl ?_
      refine Vm.getR (n := 35) dX7_baseOf_32 rfl wf_RX7_290 (ink ik_0 (by decide)) rfl (by decide) rfl ?_
      refine Vm.iload_n (n := 36) 1 dX7_baseOf_35 rfl rfl ?_
      replace h := Option.bind_eq_some_iff.mp h
      obtain ⟨k1, h1, h⟩ := h
      refine Vm.aald (n := 37) dX7_baseOf_36 rfl (ink ik_28 (by decide)) rfl rfl (by decide) (fun _ => rfl) rfl h1 ?_
      have g1 := rdR_lt h1
      refine Vm.iload_n (n := 38) 2 dX7_baseOf_37 rfl rfl ?_
      replace h := Option.bind_eq_some_iff.mp h
      obtain ⟨x2, h2, h⟩ := h
      refine Vm.ialdx (n := 39) dX7_baseOf_38 rfl (ink ik_11 (by omega)) rfl rfl (by decide) h2 ?_
      obtain rfl := Option.some.inj h
      exact Vm.iret dX7_baseOf_39 rfl hk.1 hk.2.symm
    · replace h := (if_pos c9).symm.trans h
      refine Vm.sub (lv' := [(0, .inr (.inr (7, 0)))]) [0] rfl ?_
      exact lX7_baseOf_22 σ τ h hk
theorem kX7_baseOf (a1 : Int32) (a2 : Int32) (σ τ : mm) {q : Int32 × mm} (h : fX7_baseOf a1 a2 σ = some q) : Cx mX7_baseOf 1 [.inr (.inr (7, 0)), .inl a1, .inl a2] (σ, τ) (some (.inl q.1)) (q.2, τ) :=
  Cx.of (lv := [(0, .inr (.inr (7, 0))), (1, .inl a1), (2, .inl a2)]) (by decide) (fun ad => Nat.le_of_ble_eq_true rfl) (fun ad => rfl) (lX7_baseOf_0 a1 a2 σ τ h ⟨rfl, rfl⟩)
-- ThinBodies isPair (II)Z
def fX7_isPair_0 (a1 : Int32) (a2 : Int32) (σ : mm) : Bool :=
  if (bi (fX0_hasLetter 0 a1 σ)) = (0 : Int32) then
  false
  else
  if (bi (fX0_hasLetter 0 a2 σ)) = (0 : Int32) then
  false
  else
  if a1 = a2 then
  false
  else
  true
def fX7_isPair (a1 : Int32) (a2 : Int32) (σ : mm) : Bool := fX7_isPair_0 a1 a2 σ
set_option maxRecDepth 20000 in
theorem lX7_isPair_0 (a1 : Int32) (a2 : Int32) (σ σ0 τ : mm) (hσ : σ = σ0) {r : Option mv} {M' : mm × mm} {v9 : Bool} (h : fX7_isPair_0 a1 a2 σ = v9) (hk : (fun q : Bool => r = some (.inl (bi q)) ∧ M' = (σ0, τ)) v9) : Vm mX7_isPair 1 0 [(0, .inr (.inr (7, 0))), (1, .inl a1), (2, .inl a2)] [] (σ, τ) r M' := by
  unfold fX7_isPair_0 at h
  refine Vm.aload_n (n := 1) 0 dX7_isPair_0 rfl rfl ?_
  refine Vm.getR (n := 4) dX7_isPair_1 rfl wf_RX7_12 in_7 rfl (by decide) rfl ?_
  refine Vm.iload_n (n := 5) 1 dX7_isPair_4 rfl rfl ?_
  refine Vm.callV (Y := mX0_hasLetter) (n := 8) [.inl a1] dX7_isPair_5 rfl wv_RX7_86 omX0_hasLetter rfl (ink ik_0 (by decide)) rfl rfl rfl (Nat.le_of_ble_eq_true rfl) (by decide) (kX0_hasLetter 0 (by decide) a1 σ τ rfl) ?_
  refine Vm.if_eq (n := 11) 31 dX7_isPair_8 rfl rfl (fun c9 => ?_) (fun c9 => ?_)
  · replace h := (if_pos c9).symm.trans h
    refine Vm.iconst (n := 32) (v := (0 : Int32)) dX7_isPair_31 rfl (by decide) ?_
    subst h
    exact Vm.zret (b := false) dX7_isPair_32 rfl rfl hk.1 (by rw [hσ]; exact hk.2.symm)
  · replace h := (if_neg c9).symm.trans h
    refine Vm.aload_n (n := 12) 0 dX7_isPair_11 rfl rfl ?_
    refine Vm.getR (n := 15) dX7_isPair_12 rfl wf_RX7_12 in_7 rfl (by decide) rfl ?_
    refine Vm.iload_n (n := 16) 2 dX7_isPair_15 rfl rfl ?_
    refine Vm.callV (Y := mX0_hasLetter) (n := 19) [.inl a2] dX7_isPair_16 rfl wv_RX7_86 omX0_hasLetter rfl (ink ik_0 (by decide)) rfl rfl rfl (Nat.le_of_ble_eq_true rfl) (by decide) (kX0_hasLetter 0 (by decide) a2 σ τ rfl) ?_
    refine Vm.if_eq (n := 22) 31 dX7_isPair_19 rfl rfl (fun c9 => ?_) (fun c9 => ?_)
    · replace h := (if_pos c9).symm.trans h
      refine Vm.iconst (n := 32) (v := (0 : Int32)) dX7_isPair_31 rfl (by decide) ?_
      subst h
      exact Vm.zret (b := false) dX7_isPair_32 rfl rfl hk.1 (by rw [hσ]; exact hk.2.symm)
    · replace h := (if_neg c9).symm.trans h
      refine Vm.iload_n (n := 23) 1 dX7_isPair_22 rfl rfl ?_
      refine Vm.iload_n (n := 24) 2 dX7_isPair_23 rfl rfl ?_
      refine Vm.icmp_eq (n := 27) 31 dX7_isPair_24 rfl rfl (fun c9 => ?_) (fun c9 => ?_)
      · replace h := (if_pos c9).symm.trans h
        refine Vm.iconst (n := 32) (v := (0 : Int32)) dX7_isPair_31 rfl (by decide) ?_
        subst h
        exact Vm.zret (b := false) dX7_isPair_32 rfl rfl hk.1 (by rw [hσ]; exact hk.2.symm)
      · replace h := (if_neg c9).symm.trans h
        refine Vm.iconst (n := 28) (v := (1 : Int32)) dX7_isPair_27 rfl (by decide) ?_
        refine Vm.goto 32 dX7_isPair_28 rfl ?_
        subst h
        exact Vm.zret (b := true) dX7_isPair_32 rfl rfl hk.1 (by rw [hσ]; exact hk.2.symm)
theorem kX7_isPair (a1 : Int32) (a2 : Int32) (σ τ : mm) {q : Bool} (h : fX7_isPair a1 a2 σ = q) : Cx mX7_isPair 1 [.inr (.inr (7, 0)), .inl a1, .inl a2] (σ, τ) (some (.inl (bi q))) (σ, τ) :=
  Cx.of (lv := [(0, .inr (.inr (7, 0))), (1, .inl a1), (2, .inl a2)]) (by decide) (fun ad => Nat.le_of_ble_eq_true rfl) (fun ad => rfl) (lX7_isPair_0 a1 a2 σ σ τ rfl h ⟨rfl, rfl⟩)
-- ThinBodies mix (III)I
noncomputable def fX7_mix_95 (a3 : Int32) (a4 : Nat) (a5 : Nat) (a6 : Int32) (σ : mm) : Option ((Int32 × mm) ⊕ (Int32 × mm)) :=
  if (σ.1 0 0 0) ≤ a6 then
  some (.inr (((1 : Int32), σ)))
  else
  Option.bind (rdI σ 11 a5 4 a6) fun x1 =>
  Option.bind (rdI σ 11 a4 4 a6) fun x2 =>
  Option.bind (wrI σ 11 a5 4 a6 (x1 + (a3 * x2))) fun σ3 =>
  Option.bind (some (a6 + (1 : Int32))) fun x4 =>
  some (.inl (x4, σ3))
noncomputable def fX7_mix_95_L (a3 : Int32) (a4 : Nat) (a5 : Nat) : Int32 × mm → Option ((Int32 × mm) ⊕ (Int32 × mm)) := fun z => fX7_mix_95 a3 a4 a5 z.1 z.2
noncomputable def fX7_mix_48 (a3 : Int32) (a4 : Nat) (a5 : Nat) (a6 : Int32) (σ : mm) : Option ((Int32) ⊕ (Int32 × mm)) :=
  if (σ.1 0 0 0) ≤ a6 then
  Option.map Sum.inr (lp (fX7_mix_95_L a3 a4 a5) ((0 : Int32), σ))
  else
  Option.bind (rdI σ 11 a5 4 a6) fun x1 =>
  Option.bind (rdI σ 11 a4 4 a6) fun x2 =>
  if (bi (fX7_within (x1 + (a3 * x2)) (4 : Int32))) = (0 : Int32) then
  Option.bind (fX7_finding (4 : Int32) σ) fun q4 =>
  some (.inr ((q4.1, q4.2)))
  else
  Option.bind (some (a6 + (1 : Int32))) fun x3 =>
  some (.inl (x3))
noncomputable def fX7_mix_48_L (a3 : Int32) (a4 : Nat) (a5 : Nat) (σ : mm) : Int32 → Option ((Int32) ⊕ (Int32 × mm)) := fun z => fX7_mix_48 a3 a4 a5 z σ
noncomputable def fX7_mix_17 (σ : mm) : Option (Int32 × mm) :=
  Option.bind (fX7_finding (0 : Int32) σ) fun q1 =>
  some ((q1.1, q1.2))
noncomputable def fX7_mix_0 (a1 : Int32) (a2 : Int32) (a3 : Int32) (σ : mm) : Option (Int32 × mm) :=
  if (bi (fX7_isPair a1 a2 σ)) = (0 : Int32) then
  fX7_mix_17 σ
  else
  if (bi (fX7_within a3 (3 : Int32))) = (0 : Int32) then
  fX7_mix_17 σ
  else
  Option.bind (rdR 4 a1) fun k1 =>
  Option.bind (rdR 4 a2) fun k2 =>
  lp (fX7_mix_48_L a3 (4 * 0 + k1) (4 * 0 + k2) σ) ((0 : Int32))
noncomputable def fX7_mix (a1 : Int32) (a2 : Int32) (a3 : Int32) (σ : mm) : Option (Int32 × mm) := fX7_mix_0 a1 a2 a3 σ
set_option maxRecDepth 20000 in
theorem lX7_mix_95 (a3 : Int32) (a4 : Nat) (ha4 : a4 < 12) (a5 : Nat) (ha5 : a5 < 12) (a6 : Int32) (σ τ : mm) {r : Option mv} {M' : mm × mm} {v9 : (Int32 × mm) ⊕ (Int32 × mm)} (h : fX7_mix_95 a3 a4 a5 a6 σ = some v9) (hk : (Sum.elim (fun z : Int32 × mm => Vm mX7_mix 2 95 [(0, .inr (.inr (7, 0))), (3, .inl a3), (4, .inr (.inr (11, a4))), (5, .inr (.inr (11, a5))), (6, .inl z.1)] [] (z.2, τ) r M') (fun q : Int32 × mm => r = some (.inl q.1) ∧ M' = (q.2, τ))) v9) : Vm mX7_mix 2 95 [(0, .inr (.inr (7, 0))), (3, .inl a3), (4, .inr (.inr (11, a4))), (5, .inr (.inr (11, a5))), (6, .inl a6)] [] (σ, τ) r M' := by
  unfold fX7_mix_95 at h
  refine Vm.iload (n := 97) 4 dX7_mix_95 rfl rfl ?_
  refine Vm.aload_n (n := 98) 0 dX7_mix_97 rfl rfl ?_
  refine Vm.getR (n := 101) dX7_mix_98 rfl wf_RX7_12 in_7 rfl (by decide) rfl ?_
  refine Vm.gX (n := 104) dX7_mix_101 rfl wf_RX7_75 (ink ik_0 (by decide)) rfl (by decide) rfl (by decide) ?_
  refine Vm.icmp_ge (n := 107) 128 dX7_mix_104 rfl rfl (fun c9 => ?_) (fun c9 => ?_)
  · replace h := (if_pos c9).symm.trans h
    refine Vm.iconst (n := 129) (v := (1 : Int32)) dX7_mix_128 rfl (by decide) ?_
    obtain rfl := Option.some.inj h
    exact Vm.iret dX7_mix_129 rfl hk.1 hk.2.symm
  · replace h := (if_neg c9).symm.trans h
    refine Vm.aload (n := 109) 3 dX7_mix_107 rfl rfl ?_
    refine Vm.iload (n := 111) 4 dX7_mix_109 rfl rfl ?_
    refine Vm.dup2 (n := 112) dX7_mix_111 rfl rfl rfl ?_
    replace h := Option.bind_eq_some_iff.mp h
    obtain ⟨x1, h1, h⟩ := h
    refine Vm.ialdx (n := 113) dX7_mix_112 rfl (ink ik_11 (by omega)) rfl rfl (by decide) h1 ?_
    refine Vm.iload_n (n := 114) 1 dX7_mix_113 rfl rfl ?_
    refine Vm.aload (n := 116) 2 dX7_mix_114 rfl rfl ?_
    refine Vm.iload (n := 118) 4 dX7_mix_116 rfl rfl ?_
    replace h := Option.bind_eq_some_iff.mp h
    obtain ⟨x2, h2, h⟩ := h
    refine Vm.ialdx (n := 119) dX7_mix_118 rfl (ink ik_11 (by omega)) rfl rfl (by decide) h2 ?_
    refine Vm.imul (n := 120) dX7_mix_119 rfl ?_
    refine Vm.iadd (n := 121) dX7_mix_120 rfl ?_
    replace h := Option.bind_eq_some_iff.mp h
    obtain ⟨σ3, h3, h⟩ := h
    refine Vm.iastx (n := 122) dX7_mix_121 rfl (ink ik_11 (by omega)) rfl rfl (by decide) h3 ?_
    replace h := Option.bind_eq_some_iff.mp h
    obtain ⟨x4, e4, h⟩ := h
    replace e4 := Option.some.inj e4
    refine Vm.iinc (n := 125) (v := x4) (lv' := [(6, .inl x4), (0, .inr (.inr (7, 0))), (3, .inl a3), (4, .inr (.inr (11, a4))), (5, .inr (.inr (11, a5)))]) 4 dX7_mix_122 rfl rfl e4 (Nat.le_of_ble_eq_true rfl) rfl ?_
    refine Vm.goto 95 dX7_mix_125 rfl ?_
    refine Vm.sub (lv' := [(0, .inr (.inr (7, 0))), (3, .inl a3), (4, .inr (.inr (11, a4))), (5, .inr (.inr (11, a5))), (6, .inl x4)]) [1, 2, 3, 4, 0] rfl ?_
    obtain rfl := Option.some.inj h
    exact hk
theorem lX7_mix_95_L (a3 : Int32) (a4 : Nat) (ha4 : a4 < 12) (a5 : Nat) (ha5 : a5 < 12) (τ : mm) {r : Option mv} {M' : mm × mm} (z : Int32 × mm) (w9 : Int32 × mm) (h : lp (fX7_mix_95_L a3 a4 a5) z = some w9) (hk : (fun q : Int32 × mm => r = some (.inl q.1) ∧ M' = (q.2, τ)) w9) : Vm mX7_mix 2 95 [(0, .inr (.inr (7, 0))), (3, .inl a3), (4, .inr (.inr (11, a4))), (5, .inr (.inr (11, a5))), (6, .inl z.1)] [] (z.2, τ) r M' :=
  lp_link (S := Int32 × mm) (R := Int32 × mm) (body := fX7_mix_95_L a3 a4 a5) (A := fun z : Int32 × mm => Vm mX7_mix 2 95 [(0, .inr (.inr (7, 0))), (3, .inl a3), (4, .inr (.inr (11, a4))), (5, .inr (.inr (11, a5))), (6, .inl z.1)] [] (z.2, τ) r M') (B := fun w : Int32 × mm => (fun q : Int32 × mm => r = some (.inl q.1) ∧ M' = (q.2, τ)) w) (fun z v hb hv => lX7_mix_95 a3 a4 ha4 a5 ha5 z.1 z.2 τ hb hv) z w9 h hk
set_option maxRecDepth 20000 in
theorem lX7_mix_48 (a3 : Int32) (a4 : Nat) (ha4 : a4 < 12) (a5 : Nat) (ha5 : a5 < 12) (a6 : Int32) (σ τ : mm) {r : Option mv} {M' : mm × mm} {v9 : (Int32) ⊕ (Int32 × mm)} (h : fX7_mix_48 a3 a4 a5 a6 σ = some v9) (hk : (Sum.elim (fun z : Int32 => Vm mX7_mix 2 48 [(0, .inr (.inr (7, 0))), (3, .inl a3), (4, .inr (.inr (11, a4))), (5, .inr (.inr (11, a5))), (6, .inl z)] [] (σ, τ) r M') (fun q : Int32 × mm => r = some (.inl q.1) ∧ M' = (q.2, τ))) v9) : Vm mX7_mix 2 48 [(0, .inr (.inr (7, 0))), (3, .inl a3), (4, .inr (.inr (11, a4))), (5, .inr (.inr (11, a5))), (6, .inl a6)] [] (σ, τ) r M' := by
  unfold fX7_mix_48 at h
  refine Vm.iload (n := 50) 4 dX7_mix_48 rfl rfl ?_
  refine Vm.aload_n (n := 51) 0 dX7_mix_50 rfl rfl ?_
  refine Vm.getR (n := 54) dX7_mix_51 rfl wf_RX7_12 in_7 rfl (by decide) rfl ?_
  refine Vm.gX (n := 57) dX7_mix_54 rfl wf_RX7_75 (ink ik_0 (by decide)) rfl (by decide) rfl (by decide) ?_
  refine Vm.icmp_ge (n := 60) 92 dX7_mix_57 rfl rfl (fun c9 => ?_) (fun c9 => ?_)
  · replace h := (if_pos c9).symm.trans h
    refine Vm.iconst (n := 93) (v := (0 : Int32)) dX7_mix_92 rfl (by decide) ?_
    refine Vm.istore (n := 95) (lv' := [(6, .inl (0 : Int32)), (0, .inr (.inr (7, 0))), (3, .inl a3), (4, .inr (.inr (11, a4))), (5, .inr (.inr (11, a5)))]) dX7_mix_93 rfl (Nat.le_of_ble_eq_true rfl) rfl ?_
    refine Vm.sub (lv' := [(0, .inr (.inr (7, 0))), (3, .inl a3), (4, .inr (.inr (11, a4))), (5, .inr (.inr (11, a5))), (6, .inl (0 : Int32))]) [1, 2, 3, 4, 0] rfl ?_
    replace h := Option.map_eq_some_iff.mp h
    obtain ⟨w9, h, e8⟩ := h
    subst e8
    exact lX7_mix_95_L a3 a4 (by omega) a5 (by omega) τ ((0 : Int32), σ) _ h hk
  · replace h := (if_neg c9).symm.trans h
    refine Vm.aload (n := 62) 3 dX7_mix_60 rfl rfl ?_
    refine Vm.iload (n := 64) 4 dX7_mix_62 rfl rfl ?_
    replace h := Option.bind_eq_some_iff.mp h
    obtain ⟨x1, h1, h⟩ := h
    refine Vm.ialdx (n := 65) dX7_mix_64 rfl (ink ik_11 (by omega)) rfl rfl (by decide) h1 ?_
    refine Vm.iload_n (n := 66) 1 dX7_mix_65 rfl rfl ?_
    refine Vm.aload (n := 68) 2 dX7_mix_66 rfl rfl ?_
    refine Vm.iload (n := 70) 4 dX7_mix_68 rfl rfl ?_
    replace h := Option.bind_eq_some_iff.mp h
    obtain ⟨x2, h2, h⟩ := h
    refine Vm.ialdx (n := 71) dX7_mix_70 rfl (ink ik_11 (by omega)) rfl rfl (by decide) h2 ?_
    refine Vm.imul (n := 72) dX7_mix_71 rfl ?_
    refine Vm.iadd (n := 73) dX7_mix_72 rfl ?_
    refine Vm.iconst (n := 74) (v := (4 : Int32)) dX7_mix_73 rfl (by decide) ?_
    refine Vm.callS (Y := mX7_within) (n := 77) [.inl (x1 + (a3 * x2)), .inl (4 : Int32)] dX7_mix_74 rfl wv_RX7_90 omX7_within rfl rfl (Nat.le_of_ble_eq_true rfl) (by decide) (kX7_within (x1 + (a3 * x2)) (4 : Int32) rfl) ?_
    refine Vm.if_ne (n := 80) 86 dX7_mix_77 rfl rfl (fun c9 => ?_) (fun c9 => ?_)
    · replace h := (if_neg c9).symm.trans h
      replace h := Option.bind_eq_some_iff.mp h
      obtain ⟨x3, e3, h⟩ := h
      replace e3 := Option.some.inj e3
      refine Vm.iinc (n := 89) (v := x3) (lv' := [(6, .inl x3), (0, .inr (.inr (7, 0))), (3, .inl a3), (4, .inr (.inr (11, a4))), (5, .inr (.inr (11, a5)))]) 4 dX7_mix_86 rfl rfl e3 (Nat.le_of_ble_eq_true rfl) rfl ?_
      refine Vm.goto 48 dX7_mix_89 rfl ?_
      refine Vm.sub (lv' := [(0, .inr (.inr (7, 0))), (3, .inl a3), (4, .inr (.inr (11, a4))), (5, .inr (.inr (11, a5))), (6, .inl x3)]) [1, 2, 3, 4, 0] rfl ?_
      obtain rfl := Option.some.inj h
      exact hk
    · replace h := (if_pos c9).symm.trans h
      refine Vm.aload_n (n := 81) 0 dX7_mix_80 rfl rfl ?_
      refine Vm.iconst (n := 82) (v := (4 : Int32)) dX7_mix_81 rfl (by decide) ?_
      replace h := Option.bind_eq_some_iff.mp h
      obtain ⟨q4, h4, h⟩ := h
      refine Vm.callV (Y := mX7_finding) (n := 85) [.inl (4 : Int32)] dX7_mix_82 rfl wv_RX7_68 omX7_finding rfl in_7 rfl rfl rfl (Nat.le_of_ble_eq_true rfl) (by decide) (kX7_finding (4 : Int32) σ τ h4) ?_
      obtain rfl := Option.some.inj h
      exact Vm.iret dX7_mix_85 rfl hk.1 hk.2.symm
theorem lX7_mix_48_L (a3 : Int32) (a4 : Nat) (ha4 : a4 < 12) (a5 : Nat) (ha5 : a5 < 12) (σ τ : mm) {r : Option mv} {M' : mm × mm} (z : Int32) (w9 : Int32 × mm) (h : lp (fX7_mix_48_L a3 a4 a5 σ) z = some w9) (hk : (fun q : Int32 × mm => r = some (.inl q.1) ∧ M' = (q.2, τ)) w9) : Vm mX7_mix 2 48 [(0, .inr (.inr (7, 0))), (3, .inl a3), (4, .inr (.inr (11, a4))), (5, .inr (.inr (11, a5))), (6, .inl z)] [] (σ, τ) r M' :=
  lp_link (S := Int32) (R := Int32 × mm) (body := fX7_mix_48_L a3 a4 a5 σ) (A := fun z : Int32 => Vm mX7_mix 2 48 [(0, .inr (.inr (7, 0))), (3, .inl a3), (4, .inr (.inr (11, a4))), (5, .inr (.inr (11, a5))), (6, .inl z)] [] (σ, τ) r M') (B := fun w : Int32 × mm => (fun q : Int32 × mm => r = some (.inl q.1) ∧ M' = (q.2, τ)) w) (fun z v hb hv => lX7_mix_48 a3 a4 ha4 a5 ha5 z σ τ hb hv) z w9 h hk
set_option maxRecDepth 20000 in
theorem lX7_mix_17 (σ τ : mm) {r : Option mv} {M' : mm × mm} {v9 : Int32 × mm} (h : fX7_mix_17 σ = some v9) (hk : (fun q : Int32 × mm => r = some (.inl q.1) ∧ M' = (q.2, τ)) v9) : Vm mX7_mix 2 17 [(0, .inr (.inr (7, 0)))] [] (σ, τ) r M' := by
  unfold fX7_mix_17 at h
  refine Vm.aload_n (n := 18) 0 dX7_mix_17 rfl rfl ?_
  refine Vm.iconst (n := 19) (v := (0 : Int32)) dX7_mix_18 rfl (by decide) ?_
  replace h := Option.bind_eq_some_iff.mp h
  obtain ⟨q1, h1, h⟩ := h
  refine Vm.callV (Y := mX7_finding) (n := 22) [.inl (0 : Int32)] dX7_mix_19 rfl wv_RX7_68 omX7_finding rfl in_7 rfl rfl rfl (Nat.le_of_ble_eq_true rfl) (by decide) (kX7_finding (0 : Int32) σ τ h1) ?_
  obtain rfl := Option.some.inj h
  exact Vm.iret dX7_mix_22 rfl hk.1 hk.2.symm
set_option maxRecDepth 20000 in
theorem lX7_mix_0 (a1 : Int32) (a2 : Int32) (a3 : Int32) (σ τ : mm) {r : Option mv} {M' : mm × mm} {v9 : Int32 × mm} (h : fX7_mix_0 a1 a2 a3 σ = some v9) (hk : (fun q : Int32 × mm => r = some (.inl q.1) ∧ M' = (q.2, τ)) v9) : Vm mX7_mix 2 0 [(0, .inr (.inr (7, 0))), (1, .inl a1), (2, .inl a2), (3, .inl a3)] [] (σ, τ) r M' := by
  unfold fX7_mix_0 at h
  refine Vm.aload_n (n := 1) 0 dX7_mix_0 rfl rfl ?_
  refine Vm.iload_n (n := 2) 1 dX7_mix_1 rfl rfl ?_
  refine Vm.iload_n (n := 3) 2 dX7_mix_2 rfl rfl ?_
  refine Vm.callV (Y := mX7_isPair) (n := 6) [.inl a1, .inl a2] dX7_mix_3 rfl wv_RX7_294 omX7_isPair rfl in_7 rfl rfl rfl (Nat.le_of_ble_eq_true rfl) (by decide) (kX7_isPair a1 a2 σ τ rfl) ?_
  refine Vm.if_eq (n := 9) 17 dX7_mix_6 rfl rfl (fun c9 => ?_) (fun c9 => ?_)
  · replace h := (if_pos c9).symm.trans h
    refine Vm.sub (lv' := [(0, .inr (.inr (7, 0)))]) [0] rfl ?_
    exact lX7_mix_17 σ τ h hk
  · replace h := (if_neg c9).symm.trans h
    refine Vm.iload_n (n := 10) 3 dX7_mix_9 rfl rfl ?_
    refine Vm.iconst (n := 11) (v := (3 : Int32)) dX7_mix_10 rfl (by decide) ?_
    refine Vm.callS (Y := mX7_within) (n := 14) [.inl a3, .inl (3 : Int32)] dX7_mix_11 rfl wv_RX7_90 omX7_within rfl rfl (Nat.le_of_ble_eq_true rfl) (by decide) (kX7_within a3 (3 : Int32) rfl) ?_
    refine Vm.if_ne (n := 17) 23 dX7_mix_14 rfl rfl (fun c9 => ?_) (fun c9 => ?_)
    · replace h := (if_neg c9).symm.trans h
      refine Vm.aload_n (n := 24) 0 dX7_mix_23 rfl rfl ?_
      refine Vm.getR (n := 27) dX7_mix_24 rfl wf_RX7_12 in_7 rfl (by decide) rfl ?_
      refine Vm.getR (n := 30) dX7_mix_27 rfl wf_RX7_290 (ink ik_0 (by decide)) rfl (by decide) rfl ?_
      refine Vm.iload_n (n := 31) 1 dX7_mix_30 rfl rfl ?_
      replace h := Option.bind_eq_some_iff.mp h
      obtain ⟨k1, h1, h⟩ := h
      refine Vm.aald (n := 32) dX7_mix_31 rfl (ink ik_28 (by decide)) rfl rfl (by decide) (fun _ => rfl) rfl h1 ?_
      have g1 := rdR_lt h1
      refine Vm.astore (n := 34) (lv' := [(4, .inr (.inr (11, (4 * 0 + k1)))), (0, .inr (.inr (7, 0))), (1, .inl a1), (2, .inl a2), (3, .inl a3)]) dX7_mix_32 rfl (Nat.le_of_ble_eq_true rfl) rfl ?_
      refine Vm.aload_n (n := 35) 1 dX7_mix_34 rfl rfl ?_
      refine Vm.getR (n := 38) dX7_mix_35 rfl wf_RX7_12 in_7 rfl (by decide) rfl ?_
      refine Vm.getR (n := 41) dX7_mix_38 rfl wf_RX7_290 (ink ik_0 (by decide)) rfl (by decide) rfl ?_
      refine Vm.iload_n (n := 42) 3 dX7_mix_41 rfl rfl ?_
      replace h := Option.bind_eq_some_iff.mp h
      obtain ⟨k2, h2, h⟩ := h
      refine Vm.aald (n := 43) dX7_mix_42 rfl (ink ik_28 (by decide)) rfl rfl (by decide) (fun _ => rfl) rfl h2 ?_
      have g2 := rdR_lt h2
      refine Vm.astore (n := 45) (lv' := [(5, .inr (.inr (11, (4 * 0 + k2)))), (4, .inr (.inr (11, (4 * 0 + k1)))), (0, .inr (.inr (7, 0))), (1, .inl a1), (2, .inl a2), (3, .inl a3)]) dX7_mix_43 rfl (Nat.le_of_ble_eq_true rfl) rfl ?_
      refine Vm.iconst (n := 46) (v := (0 : Int32)) dX7_mix_45 rfl (by decide) ?_
      refine Vm.istore (n := 48) (lv' := [(6, .inl (0 : Int32)), (5, .inr (.inr (11, (4 * 0 + k2)))), (4, .inr (.inr (11, (4 * 0 + k1)))), (0, .inr (.inr (7, 0))), (1, .inl a1), (2, .inl a2), (3, .inl a3)]) dX7_mix_46 rfl (Nat.le_of_ble_eq_true rfl) rfl ?_
      refine Vm.sub (lv' := [(0, .inr (.inr (7, 0))), (3, .inl a3), (4, .inr (.inr (11, (4 * 0 + k1)))), (5, .inr (.inr (11, (4 * 0 + k2)))), (6, .inl (0 : Int32))]) [3, 6, 2, 1, 0] rfl ?_
      exact lX7_mix_48_L a3 (4 * 0 + k1) (by omega) (4 * 0 + k2) (by omega) σ τ ((0 : Int32)) _ h hk
    · replace h := (if_pos c9).symm.trans h
      refine Vm.sub (lv' := [(0, .inr (.inr (7, 0)))]) [0] rfl ?_
      exact lX7_mix_17 σ τ h hk
theorem kX7_mix (a1 : Int32) (a2 : Int32) (a3 : Int32) (σ τ : mm) {q : Int32 × mm} (h : fX7_mix a1 a2 a3 σ = some q) : Cx mX7_mix 2 [.inr (.inr (7, 0)), .inl a1, .inl a2, .inl a3] (σ, τ) (some (.inl q.1)) (q.2, τ) :=
  Cx.of (lv := [(0, .inr (.inr (7, 0))), (1, .inl a1), (2, .inl a2), (3, .inl a3)]) (by decide) (fun ad => Nat.le_of_ble_eq_true rfl) (fun ad => rfl) (lX7_mix_0 a1 a2 a3 σ τ h ⟨rfl, rfl⟩)
-- ThinBodies swap (II)I
noncomputable def fX7_swap_17 (a1 : Int32) (a2 : Int32) (a3 : Int32) (σ : mm) : Option ((Int32 × mm) ⊕ (Int32 × mm)) :=
  if (σ.1 0 0 0) ≤ a3 then
  some (.inr (((1 : Int32), σ)))
  else
  Option.bind (rdR 4 a1) fun k1 =>
  Option.bind (rdI σ 11 (4 * 0 + k1) 4 a3) fun x2 =>
  Option.bind (rdR 4 a1) fun k3 =>
  Option.bind (rdR 4 a2) fun k4 =>
  Option.bind (rdI σ 11 (4 * 0 + k4) 4 a3) fun x5 =>
  Option.bind (wrI σ 11 (4 * 0 + k3) 4 a3 x5) fun σ6 =>
  Option.bind (rdR 4 a2) fun k7 =>
  Option.bind (wrI σ6 11 (4 * 0 + k7) 4 a3 x2) fun σ8 =>
  Option.bind (some (a3 + (1 : Int32))) fun x9 =>
  some (.inl (x9, σ8))
noncomputable def fX7_swap_17_L (a1 : Int32) (a2 : Int32) : Int32 × mm → Option ((Int32 × mm) ⊕ (Int32 × mm)) := fun z => fX7_swap_17 a1 a2 z.1 z.2
noncomputable def fX7_swap_0 (a1 : Int32) (a2 : Int32) (σ : mm) : Option (Int32 × mm) :=
  if (bi (fX7_isPair a1 a2 σ)) = (0 : Int32) then
  Option.bind (fX7_finding (0 : Int32) σ) fun q1 =>
  some ((q1.1, q1.2))
  else
  lp (fX7_swap_17_L a1 a2) ((0 : Int32), σ)
noncomputable def fX7_swap (a1 : Int32) (a2 : Int32) (σ : mm) : Option (Int32 × mm) := fX7_swap_0 a1 a2 σ
set_option maxRecDepth 20000 in
theorem lX7_swap_17 (a1 : Int32) (a2 : Int32) (a3 : Int32) (σ τ : mm) {r : Option mv} {M' : mm × mm} {v9 : (Int32 × mm) ⊕ (Int32 × mm)} (h : fX7_swap_17 a1 a2 a3 σ = some v9) (hk : (Sum.elim (fun z : Int32 × mm => Vm mX7_swap 2 17 [(0, .inr (.inr (7, 0))), (1, .inl a1), (2, .inl a2), (3, .inl z.1)] [] (z.2, τ) r M') (fun q : Int32 × mm => r = some (.inl q.1) ∧ M' = (q.2, τ))) v9) : Vm mX7_swap 2 17 [(0, .inr (.inr (7, 0))), (1, .inl a1), (2, .inl a2), (3, .inl a3)] [] (σ, τ) r M' := by
  unfold fX7_swap_17 at h
  refine Vm.iload_n (n := 18) 3 dX7_swap_17 rfl rfl ?_
  refine Vm.aload_n (n := 19) 0 dX7_swap_18 rfl rfl ?_
  refine Vm.getR (n := 22) dX7_swap_19 rfl wf_RX7_12 in_7 rfl (by decide) rfl ?_
  refine Vm.gX (n := 25) dX7_swap_22 rfl wf_RX7_75 (ink ik_0 (by decide)) rfl (by decide) rfl (by decide) ?_
  refine Vm.icmp_ge (n := 28) 82 dX7_swap_25 rfl rfl (fun c9 => ?_) (fun c9 => ?_)
  · replace h := (if_pos c9).symm.trans h
    refine Vm.iconst (n := 83) (v := (1 : Int32)) dX7_swap_82 rfl (by decide) ?_
    obtain rfl := Option.some.inj h
    exact Vm.iret dX7_swap_83 rfl hk.1 hk.2.symm
  · replace h := (if_neg c9).symm.trans h
    refine Vm.aload_n (n := 29) 0 dX7_swap_28 rfl rfl ?_
    refine Vm.getR (n := 32) dX7_swap_29 rfl wf_RX7_12 in_7 rfl (by decide) rfl ?_
    refine Vm.getR (n := 35) dX7_swap_32 rfl wf_RX7_290 (ink ik_0 (by decide)) rfl (by decide) rfl ?_
    refine Vm.iload_n (n := 36) 1 dX7_swap_35 rfl rfl ?_
    replace h := Option.bind_eq_some_iff.mp h
    obtain ⟨k1, h1, h⟩ := h
    refine Vm.aald (n := 37) dX7_swap_36 rfl (ink ik_28 (by decide)) rfl rfl (by decide) (fun _ => rfl) rfl h1 ?_
    have g1 := rdR_lt h1
    refine Vm.iload_n (n := 38) 3 dX7_swap_37 rfl rfl ?_
    replace h := Option.bind_eq_some_iff.mp h
    obtain ⟨x2, h2, h⟩ := h
    refine Vm.ialdx (n := 39) dX7_swap_38 rfl (ink ik_11 (by omega)) rfl rfl (by decide) h2 ?_
    refine Vm.istore (n := 41) (lv' := [(4, .inl x2), (0, .inr (.inr (7, 0))), (1, .inl a1), (2, .inl a2), (3, .inl a3)]) dX7_swap_39 rfl (Nat.le_of_ble_eq_true rfl) rfl ?_
    refine Vm.aload_n (n := 42) 1 dX7_swap_41 rfl rfl ?_
    refine Vm.getR (n := 45) dX7_swap_42 rfl wf_RX7_12 in_7 rfl (by decide) rfl ?_
    refine Vm.getR (n := 48) dX7_swap_45 rfl wf_RX7_290 (ink ik_0 (by decide)) rfl (by decide) rfl ?_
    refine Vm.iload_n (n := 49) 2 dX7_swap_48 rfl rfl ?_
    replace h := Option.bind_eq_some_iff.mp h
    obtain ⟨k3, h3, h⟩ := h
    refine Vm.aald (n := 50) dX7_swap_49 rfl (ink ik_28 (by decide)) rfl rfl (by decide) (fun _ => rfl) rfl h3 ?_
    have g3 := rdR_lt h3
    refine Vm.iload_n (n := 51) 4 dX7_swap_50 rfl rfl ?_
    refine Vm.aload_n (n := 52) 1 dX7_swap_51 rfl rfl ?_
    refine Vm.getR (n := 55) dX7_swap_52 rfl wf_RX7_12 in_7 rfl (by decide) rfl ?_
    refine Vm.getR (n := 58) dX7_swap_55 rfl wf_RX7_290 (ink ik_0 (by decide)) rfl (by decide) rfl ?_
    refine Vm.iload_n (n := 59) 3 dX7_swap_58 rfl rfl ?_
    replace h := Option.bind_eq_some_iff.mp h
    obtain ⟨k4, h4, h⟩ := h
    refine Vm.aald (n := 60) dX7_swap_59 rfl (ink ik_28 (by decide)) rfl rfl (by decide) (fun _ => rfl) rfl h4 ?_
    have g4 := rdR_lt h4
    refine Vm.iload_n (n := 61) 4 dX7_swap_60 rfl rfl ?_
    replace h := Option.bind_eq_some_iff.mp h
    obtain ⟨x5, h5, h⟩ := h
    refine Vm.ialdx (n := 62) dX7_swap_61 rfl (ink ik_11 (by omega)) rfl rfl (by decide) h5 ?_
    replace h := Option.bind_eq_some_iff.mp h
    obtain ⟨σ6, h6, h⟩ := h
    refine Vm.iastx (n := 63) dX7_swap_62 rfl (ink ik_11 (by omega)) rfl rfl (by decide) h6 ?_
    refine Vm.aload_n (n := 64) 1 dX7_swap_63 rfl rfl ?_
    refine Vm.getR (n := 67) dX7_swap_64 rfl wf_RX7_12 in_7 rfl (by decide) rfl ?_
    refine Vm.getR (n := 70) dX7_swap_67 rfl wf_RX7_290 (ink ik_0 (by decide)) rfl (by decide) rfl ?_
    refine Vm.iload_n (n := 71) 3 dX7_swap_70 rfl rfl ?_
    replace h := Option.bind_eq_some_iff.mp h
    obtain ⟨k7, h7, h⟩ := h
    refine Vm.aald (n := 72) dX7_swap_71 rfl (ink ik_28 (by decide)) rfl rfl (by decide) (fun _ => rfl) rfl h7 ?_
    have g7 := rdR_lt h7
    refine Vm.iload_n (n := 73) 4 dX7_swap_72 rfl rfl ?_
    refine Vm.iload (n := 75) 0 dX7_swap_73 rfl rfl ?_
    replace h := Option.bind_eq_some_iff.mp h
    obtain ⟨σ8, h8, h⟩ := h
    refine Vm.iastx (n := 76) dX7_swap_75 rfl (ink ik_11 (by omega)) rfl rfl (by decide) h8 ?_
    replace h := Option.bind_eq_some_iff.mp h
    obtain ⟨x9, e9, h⟩ := h
    replace e9 := Option.some.inj e9
    refine Vm.iinc (n := 79) (v := x9) (lv' := [(3, .inl x9), (4, .inl x2), (0, .inr (.inr (7, 0))), (1, .inl a1), (2, .inl a2)]) 4 dX7_swap_76 rfl rfl e9 (Nat.le_of_ble_eq_true rfl) rfl ?_
    refine Vm.goto 17 dX7_swap_79 rfl ?_
    refine Vm.sub (lv' := [(0, .inr (.inr (7, 0))), (1, .inl a1), (2, .inl a2), (3, .inl x9)]) [2, 3, 4, 0] rfl ?_
    obtain rfl := Option.some.inj h
    exact hk
theorem lX7_swap_17_L (a1 : Int32) (a2 : Int32) (τ : mm) {r : Option mv} {M' : mm × mm} (z : Int32 × mm) (w9 : Int32 × mm) (h : lp (fX7_swap_17_L a1 a2) z = some w9) (hk : (fun q : Int32 × mm => r = some (.inl q.1) ∧ M' = (q.2, τ)) w9) : Vm mX7_swap 2 17 [(0, .inr (.inr (7, 0))), (1, .inl a1), (2, .inl a2), (3, .inl z.1)] [] (z.2, τ) r M' :=
  lp_link (S := Int32 × mm) (R := Int32 × mm) (body := fX7_swap_17_L a1 a2) (A := fun z : Int32 × mm => Vm mX7_swap 2 17 [(0, .inr (.inr (7, 0))), (1, .inl a1), (2, .inl a2), (3, .inl z.1)] [] (z.2, τ) r M') (B := fun w : Int32 × mm => (fun q : Int32 × mm => r = some (.inl q.1) ∧ M' = (q.2, τ)) w) (fun z v hb hv => lX7_swap_17 a1 a2 z.1 z.2 τ hb hv) z w9 h hk
set_option maxRecDepth 20000 in
theorem lX7_swap_0 (a1 : Int32) (a2 : Int32) (σ τ : mm) {r : Option mv} {M' : mm × mm} {v9 : Int32 × mm} (h : fX7_swap_0 a1 a2 σ = some v9) (hk : (fun q : Int32 × mm => r = some (.inl q.1) ∧ M' = (q.2, τ)) v9) : Vm mX7_swap 2 0 [(0, .inr (.inr (7, 0))), (1, .inl a1), (2, .inl a2)] [] (σ, τ) r M' := by
  unfold fX7_swap_0 at h
  refine Vm.aload_n (n := 1) 0 dX7_swap_0 rfl rfl ?_
  refine Vm.iload_n (n := 2) 1 dX7_swap_1 rfl rfl ?_
  refine Vm.iload_n (n := 3) 2 dX7_swap_2 rfl rfl ?_
  refine Vm.callV (Y := mX7_isPair) (n := 6) [.inl a1, .inl a2] dX7_swap_3 rfl wv_RX7_294 omX7_isPair rfl in_7 rfl rfl rfl (Nat.le_of_ble_eq_true rfl) (by decide) (kX7_isPair a1 a2 σ τ rfl) ?_
  refine Vm.if_ne (n := 9) 15 dX7_swap_6 rfl rfl (fun c9 => ?_) (fun c9 => ?_)
  · replace h := (if_neg c9).symm.trans h
    refine Vm.iconst (n := 16) (v := (0 : Int32)) dX7_swap_15 rfl (by decide) ?_
    refine Vm.istore_n (n := 17) (lv' := [(3, .inl (0 : Int32)), (0, .inr (.inr (7, 0))), (1, .inl a1), (2, .inl a2)]) dX7_swap_16 rfl (Nat.le_of_ble_eq_true rfl) rfl ?_
    refine Vm.sub (lv' := [(0, .inr (.inr (7, 0))), (1, .inl a1), (2, .inl a2), (3, .inl (0 : Int32))]) [1, 2, 3, 0] rfl ?_
    exact lX7_swap_17_L a1 a2 τ ((0 : Int32), σ) _ h hk
  · replace h := (if_pos c9).symm.trans h
    refine Vm.aload_n (n := 10) 0 dX7_swap_9 rfl rfl ?_
    refine Vm.iconst (n := 11) (v := (0 : Int32)) dX7_swap_10 rfl (by decide) ?_
    replace h := Option.bind_eq_some_iff.mp h
    obtain ⟨q1, h1, h⟩ := h
    refine Vm.callV (Y := mX7_finding) (n := 14) [.inl (0 : Int32)] dX7_swap_11 rfl wv_RX7_68 omX7_finding rfl in_7 rfl rfl rfl (Nat.le_of_ble_eq_true rfl) (by decide) (kX7_finding (0 : Int32) σ τ h1) ?_
    obtain rfl := Option.some.inj h
    exact Vm.iret dX7_swap_14 rfl hk.1 hk.2.symm
theorem kX7_swap (a1 : Int32) (a2 : Int32) (σ τ : mm) {q : Int32 × mm} (h : fX7_swap a1 a2 σ = some q) : Cx mX7_swap 2 [.inr (.inr (7, 0)), .inl a1, .inl a2] (σ, τ) (some (.inl q.1)) (q.2, τ) :=
  Cx.of (lv := [(0, .inr (.inr (7, 0))), (1, .inl a1), (2, .inl a2)]) (by decide) (fun ad => Nat.le_of_ble_eq_true rfl) (fun ad => rfl) (lX7_swap_0 a1 a2 σ τ h ⟨rfl, rfl⟩)
-- ThinBodies$Lattice addTimes (IIJ)V
noncomputable def fX2_addTimes_3 (a1 : Int32) (a2 : Int32) (a3 : Int64) (a5 : Int32) (σ : mm) : Option ((Int32 × mm) ⊕ (mm)) :=
  if (σ.1 2 0 3) ≤ a5 then
  some (.inr (σ))
  else
  Option.bind (rdR 4 a2) fun k1 =>
  Option.bind (rdL σ 23 k1 4 a5) fun x2 =>
  Option.bind (rdR 4 a1) fun k3 =>
  Option.bind (rdL σ 23 k3 4 a5) fun x4 =>
  Option.bind (wrL σ 23 k1 4 a5 (x2 + (a3 * x4))) fun σ5 =>
  Option.bind (some (a5 + (1 : Int32))) fun x6 =>
  some (.inl (x6, σ5))
noncomputable def fX2_addTimes_3_L (a1 : Int32) (a2 : Int32) (a3 : Int64) : Int32 × mm → Option ((Int32 × mm) ⊕ (mm)) := fun z => fX2_addTimes_3 a1 a2 a3 z.1 z.2
noncomputable def fX2_addTimes_0 (a1 : Int32) (a2 : Int32) (a3 : Int64) (σ : mm) : Option (mm) :=
  lp (fX2_addTimes_3_L a1 a2 a3) ((0 : Int32), σ)
noncomputable def fX2_addTimes (a1 : Int32) (a2 : Int32) (a3 : Int64) (σ : mm) : Option (mm) := fX2_addTimes_0 a1 a2 a3 σ
set_option maxRecDepth 20000 in
theorem lX2_addTimes_3 (a1 : Int32) (a2 : Int32) (a3 : Int64) (a5 : Int32) (σ τ : mm) {r : Option mv} {M' : mm × mm} {v9 : (Int32 × mm) ⊕ (mm)} (h : fX2_addTimes_3 a1 a2 a3 a5 σ = some v9) (hk : (Sum.elim (fun z : Int32 × mm => Vm mX2_addTimes 0 3 [(0, .inr (.inr (2, 0))), (1, .inl a1), (2, .inl a2), (3, .inr (.inl a3)), (5, .inl z.1)] [] (z.2, τ) r M') (fun q : mm => r = none ∧ M' = (q, τ))) v9) : Vm mX2_addTimes 0 3 [(0, .inr (.inr (2, 0))), (1, .inl a1), (2, .inl a2), (3, .inr (.inl a3)), (5, .inl a5)] [] (σ, τ) r M' := by
  unfold fX2_addTimes_3 at h
  refine Vm.iload (n := 5) 4 dX2_addTimes_3 rfl rfl ?_
  refine Vm.aload_n (n := 6) 0 dX2_addTimes_5 rfl rfl ?_
  refine Vm.gX (n := 9) dX2_addTimes_6 rfl wf_RX2_24 in_2 rfl (by decide) rfl (by decide) ?_
  refine Vm.icmp_ge (n := 12) 41 dX2_addTimes_9 rfl rfl (fun c9 => ?_) (fun c9 => ?_)
  · replace h := (if_pos c9).symm.trans h
    obtain rfl := Option.some.inj h
    exact Vm.vret dX2_addTimes_41 rfl hk.1 hk.2.symm
  · replace h := (if_neg c9).symm.trans h
    refine Vm.aload_n (n := 13) 0 dX2_addTimes_12 rfl rfl ?_
    refine Vm.getR (n := 16) dX2_addTimes_13 rfl wf_RX2_11 in_2 rfl (by decide) rfl ?_
    refine Vm.iload_n (n := 17) 2 dX2_addTimes_16 rfl rfl ?_
    replace h := Option.bind_eq_some_iff.mp h
    obtain ⟨k1, h1, h⟩ := h
    refine Vm.aald (n := 18) dX2_addTimes_17 rfl in_29 rfl rfl (by decide) (fun _ => rfl) rfl h1 ?_
    have g1 := rdR_lt h1
    refine Vm.iload (n := 20) 4 dX2_addTimes_18 rfl rfl ?_
    refine Vm.dup2 (n := 21) dX2_addTimes_20 rfl rfl rfl ?_
    replace h := Option.bind_eq_some_iff.mp h
    obtain ⟨x2, h2, h⟩ := h
    refine Vm.laldx (n := 22) dX2_addTimes_21 rfl (ink ik_23 (by omega)) rfl rfl (by decide) h2 ?_
    refine Vm.lload_n (n := 23) 3 dX2_addTimes_22 rfl rfl ?_
    refine Vm.aload_n (n := 24) 0 dX2_addTimes_23 rfl rfl ?_
    refine Vm.getR (n := 27) dX2_addTimes_24 rfl wf_RX2_11 in_2 rfl (by decide) rfl ?_
    refine Vm.iload_n (n := 28) 1 dX2_addTimes_27 rfl rfl ?_
    replace h := Option.bind_eq_some_iff.mp h
    obtain ⟨k3, h3, h⟩ := h
    refine Vm.aald (n := 29) dX2_addTimes_28 rfl in_29 rfl rfl (by decide) (fun _ => rfl) rfl h3 ?_
    have g3 := rdR_lt h3
    refine Vm.iload (n := 31) 4 dX2_addTimes_29 rfl rfl ?_
    replace h := Option.bind_eq_some_iff.mp h
    obtain ⟨x4, h4, h⟩ := h
    refine Vm.laldx (n := 32) dX2_addTimes_31 rfl (ink ik_23 (by omega)) rfl rfl (by decide) h4 ?_
    refine Vm.lmul (n := 33) dX2_addTimes_32 rfl ?_
    refine Vm.ladd (n := 34) dX2_addTimes_33 rfl ?_
    replace h := Option.bind_eq_some_iff.mp h
    obtain ⟨σ5, h5, h⟩ := h
    refine Vm.lastx (n := 35) dX2_addTimes_34 rfl (ink ik_23 (by omega)) rfl rfl (by decide) h5 ?_
    replace h := Option.bind_eq_some_iff.mp h
    obtain ⟨x6, e6, h⟩ := h
    replace e6 := Option.some.inj e6
    refine Vm.iinc (n := 38) (v := x6) (lv' := [(5, .inl x6), (0, .inr (.inr (2, 0))), (1, .inl a1), (2, .inl a2), (3, .inr (.inl a3))]) 4 dX2_addTimes_35 rfl rfl e6 (Nat.le_of_ble_eq_true rfl) rfl ?_
    refine Vm.goto 3 dX2_addTimes_38 rfl ?_
    refine Vm.sub (lv' := [(0, .inr (.inr (2, 0))), (1, .inl a1), (2, .inl a2), (3, .inr (.inl a3)), (5, .inl x6)]) [1, 2, 3, 4, 0] rfl ?_
    obtain rfl := Option.some.inj h
    exact hk
theorem lX2_addTimes_3_L (a1 : Int32) (a2 : Int32) (a3 : Int64) (τ : mm) {r : Option mv} {M' : mm × mm} (z : Int32 × mm) (w9 : mm) (h : lp (fX2_addTimes_3_L a1 a2 a3) z = some w9) (hk : (fun q : mm => r = none ∧ M' = (q, τ)) w9) : Vm mX2_addTimes 0 3 [(0, .inr (.inr (2, 0))), (1, .inl a1), (2, .inl a2), (3, .inr (.inl a3)), (5, .inl z.1)] [] (z.2, τ) r M' :=
  lp_link (S := Int32 × mm) (R := mm) (body := fX2_addTimes_3_L a1 a2 a3) (A := fun z : Int32 × mm => Vm mX2_addTimes 0 3 [(0, .inr (.inr (2, 0))), (1, .inl a1), (2, .inl a2), (3, .inr (.inl a3)), (5, .inl z.1)] [] (z.2, τ) r M') (B := fun w : mm => (fun q : mm => r = none ∧ M' = (q, τ)) w) (fun z v hb hv => lX2_addTimes_3 a1 a2 a3 z.1 z.2 τ hb hv) z w9 h hk
set_option maxRecDepth 20000 in
theorem lX2_addTimes_0 (a1 : Int32) (a2 : Int32) (a3 : Int64) (σ τ : mm) {r : Option mv} {M' : mm × mm} {v9 : mm} (h : fX2_addTimes_0 a1 a2 a3 σ = some v9) (hk : (fun q : mm => r = none ∧ M' = (q, τ)) v9) : Vm mX2_addTimes 0 0 [(0, .inr (.inr (2, 0))), (1, .inl a1), (2, .inl a2), (3, .inr (.inl a3))] [] (σ, τ) r M' := by
  unfold fX2_addTimes_0 at h
  refine Vm.iconst (n := 1) (v := (0 : Int32)) dX2_addTimes_0 rfl (by decide) ?_
  refine Vm.istore (n := 3) (lv' := [(5, .inl (0 : Int32)), (0, .inr (.inr (2, 0))), (1, .inl a1), (2, .inl a2), (3, .inr (.inl a3))]) dX2_addTimes_1 rfl (Nat.le_of_ble_eq_true rfl) rfl ?_
  refine Vm.sub (lv' := [(0, .inr (.inr (2, 0))), (1, .inl a1), (2, .inl a2), (3, .inr (.inl a3)), (5, .inl (0 : Int32))]) [1, 2, 3, 4, 0] rfl ?_
  exact lX2_addTimes_3_L a1 a2 a3 τ ((0 : Int32), σ) _ h hk
theorem kX2_addTimes (a1 : Int32) (a2 : Int32) (a3 : Int64) (σ τ : mm) {q : mm} (h : fX2_addTimes a1 a2 a3 σ = some q) : Cx mX2_addTimes 0 [.inr (.inr (2, 0)), .inl a1, .inl a2, .inr (.inl a3)] (σ, τ) (none) (q, τ) :=
  Cx.of (lv := [(0, .inr (.inr (2, 0))), (1, .inl a1), (2, .inl a2), (3, .inr (.inl a3))]) (by decide) (fun ad => Nat.le_of_ble_eq_true rfl) (fun ad => rfl) (lX2_addTimes_0 a1 a2 a3 σ τ h ⟨rfl, rfl⟩)
-- ThinBodies$Lattice clearBelow (II)I
noncomputable def fX2_clearBelow_52 (a1 : Int32) (a2 : Int32) (a3 : Int32) (a4 : Int32) (a5 : Int32) (σ : mm) : Option ((Int32 × mm) ⊕ ((Int32 × Int32 × mm) ⊕ (Int32 × mm))) :=
  if (σ.1 2 0 3) ≤ a5 then
  Option.bind (some (-a3)) fun x1 =>
  Option.bind (some (a4 + (1 : Int32))) fun x2 =>
  some (.inr (.inl (x1, x2, σ)))
  else
  Option.bind (rdR 4 a1) fun k3 =>
  Option.bind (rdL σ 23 k3 4 a5) fun x4 =>
  Option.bind (rdR 4 a1) fun k5 =>
  Option.bind (rdR 4 a2) fun k6 =>
  Option.bind (rdL σ 23 k6 4 a5) fun x7 =>
  Option.bind (wrL σ 23 k5 4 a5 x7) fun σ8 =>
  Option.bind (rdR 4 a2) fun k9 =>
  Option.bind (wrL σ8 23 k9 4 a5 x4) fun σ10 =>
  Option.bind (some (a5 + (1 : Int32))) fun x11 =>
  some (.inl (x11, σ10))
noncomputable def fX2_clearBelow_52_L (a1 : Int32) (a2 : Int32) (a3 : Int32) (a4 : Int32) : Int32 × mm → Option ((Int32 × mm) ⊕ ((Int32 × Int32 × mm) ⊕ (Int32 × mm))) := fun z => fX2_clearBelow_52 a1 a2 a3 a4 z.1 z.2
noncomputable def fX2_clearBelow_5 (a1 : Int32) (a2 : Int32) (a3 : Int32) (a4 : Int32) (σ : mm) : Option ((Int32 × Int32 × mm) ⊕ (Int32 × mm)) :=
  if (100 : Int32) ≤ a4 then
  some (.inr ((a3, σ)))
  else
  Option.bind (rdR 4 a2) fun k1 =>
  Option.bind (rdL σ 23 k1 4 a1) fun x2 =>
  if (lg_cmp x2 (0 : Int64)) = (0 : Int32) then
  some (.inr ((a3, σ)))
  else
  Option.bind (rdR 4 a1) fun k3 =>
  Option.bind (rdL σ 23 k3 4 a1) fun x4 =>
  Option.bind (rdR 4 a2) fun k5 =>
  Option.bind (rdL σ 23 k5 4 a1) fun x6 =>
  Option.bind (dvL x4 x6) fun x7 =>
  Option.bind (fX2_addTimes a2 a1 (-x7) σ) fun q8 =>
  lp (fX2_clearBelow_52_L a1 a2 a3 a4) ((0 : Int32), q8)
noncomputable def fX2_clearBelow_5_L (a1 : Int32) (a2 : Int32) : Int32 × Int32 × mm → Option ((Int32 × Int32 × mm) ⊕ (Int32 × mm)) := fun z => fX2_clearBelow_5 a1 a2 z.1 z.2.1 z.2.2
noncomputable def fX2_clearBelow_0 (a1 : Int32) (a2 : Int32) (σ : mm) : Option (Int32 × mm) :=
  lp (fX2_clearBelow_5_L a1 a2) ((1 : Int32), (0 : Int32), σ)
noncomputable def fX2_clearBelow (a1 : Int32) (a2 : Int32) (σ : mm) : Option (Int32 × mm) := fX2_clearBelow_0 a1 a2 σ
set_option maxRecDepth 20000 in
theorem lX2_clearBelow_52 (a1 : Int32) (a2 : Int32) (a3 : Int32) (a4 : Int32) (a5 : Int32) (σ τ : mm) {r : Option mv} {M' : mm × mm} {v9 : (Int32 × mm) ⊕ ((Int32 × Int32 × mm) ⊕ (Int32 × mm))} (h : fX2_clearBelow_52 a1 a2 a3 a4 a5 σ = some v9) (hk : (Sum.elim (fun z : Int32 × mm => Vm mX2_clearBelow 1 52 [(0, .inr (.inr (2, 0))), (1, .inl a1), (2, .inl a2), (3, .inl a3), (4, .inl a4), (5, .inl z.1)] [] (z.2, τ) r M') (Sum.elim (fun z : Int32 × Int32 × mm => Vm mX2_clearBelow 1 5 [(0, .inr (.inr (2, 0))), (1, .inl a1), (2, .inl a2), (3, .inl z.1), (4, .inl z.2.1)] [] (z.2.2, τ) r M') (fun q : Int32 × mm => r = some (.inl q.1) ∧ M' = (q.2, τ)))) v9) : Vm mX2_clearBelow 1 52 [(0, .inr (.inr (2, 0))), (1, .inl a1), (2, .inl a2), (3, .inl a3), (4, .inl a4), (5, .inl a5)] [] (σ, τ) r M' := by
  unfold fX2_clearBelow_52 at h
  refine Vm.iload (n := 54) 5 dX2_clearBelow_52 rfl rfl ?_
  refine Vm.aload_n (n := 55) 0 dX2_clearBelow_54 rfl rfl ?_
  refine Vm.gX (n := 58) dX2_clearBelow_55 rfl wf_RX2_24 in_2 rfl (by decide) rfl (by decide) ?_
  refine Vm.icmp_ge (n := 61) 107 dX2_clearBelow_58 rfl rfl (fun c9 => ?_) (fun c9 => ?_)
  · replace h := (if_pos c9).symm.trans h
    refine Vm.iload_n (n := 108) 3 dX2_clearBelow_107 rfl rfl ?_
    refine Vm.ineg (n := 109) dX2_clearBelow_108 rfl ?_
    replace h := Option.bind_eq_some_iff.mp h
    obtain ⟨x1, e1, h⟩ := h
    replace e1 := Option.some.inj e1
    refine Vm.top e1 ?_
    refine Vm.istore_n (n := 110) (lv' := [(3, .inl x1), (0, .inr (.inr (2, 0))), (1, .inl a1), (2, .inl a2), (4, .inl a4), (5, .inl a5)]) dX2_clearBelow_109 rfl (Nat.le_of_ble_eq_true rfl) rfl ?_
    replace h := Option.bind_eq_some_iff.mp h
    obtain ⟨x2, e2, h⟩ := h
    replace e2 := Option.some.inj e2
    refine Vm.iinc (n := 113) (v := x2) (lv' := [(4, .inl x2), (3, .inl x1), (0, .inr (.inr (2, 0))), (1, .inl a1), (2, .inl a2), (5, .inl a5)]) 4 dX2_clearBelow_110 rfl rfl e2 (Nat.le_of_ble_eq_true rfl) rfl ?_
    refine Vm.goto 5 dX2_clearBelow_113 rfl ?_
    refine Vm.sub (lv' := [(0, .inr (.inr (2, 0))), (1, .inl a1), (2, .inl a2), (3, .inl x1), (4, .inl x2)]) [2, 3, 4, 1, 0] rfl ?_
    obtain rfl := Option.some.inj h
    exact hk
  · replace h := (if_neg c9).symm.trans h
    refine Vm.aload_n (n := 62) 0 dX2_clearBelow_61 rfl rfl ?_
    refine Vm.getR (n := 65) dX2_clearBelow_62 rfl wf_RX2_11 in_2 rfl (by decide) rfl ?_
    refine Vm.iload_n (n := 66) 1 dX2_clearBelow_65 rfl rfl ?_
    replace h := Option.bind_eq_some_iff.mp h
    obtain ⟨k3, h3, h⟩ := h
    refine Vm.aald (n := 67) dX2_clearBelow_66 rfl in_29 rfl rfl (by decide) (fun _ => rfl) rfl h3 ?_
    have g3 := rdR_lt h3
    refine Vm.iload (n := 69) 5 dX2_clearBelow_67 rfl rfl ?_
    replace h := Option.bind_eq_some_iff.mp h
    obtain ⟨x4, h4, h⟩ := h
    refine Vm.laldx (n := 70) dX2_clearBelow_69 rfl (ink ik_23 (by omega)) rfl rfl (by decide) h4 ?_
    refine Vm.lstore (n := 72) (lv' := [(6, .inr (.inl x4)), (0, .inr (.inr (2, 0))), (1, .inl a1), (2, .inl a2), (3, .inl a3), (4, .inl a4), (5, .inl a5)]) dX2_clearBelow_70 rfl (Nat.le_of_ble_eq_true rfl) rfl ?_
    refine Vm.aload_n (n := 73) 1 dX2_clearBelow_72 rfl rfl ?_
    refine Vm.getR (n := 76) dX2_clearBelow_73 rfl wf_RX2_11 in_2 rfl (by decide) rfl ?_
    refine Vm.iload_n (n := 77) 2 dX2_clearBelow_76 rfl rfl ?_
    replace h := Option.bind_eq_some_iff.mp h
    obtain ⟨k5, h5, h⟩ := h
    refine Vm.aald (n := 78) dX2_clearBelow_77 rfl in_29 rfl rfl (by decide) (fun _ => rfl) rfl h5 ?_
    have g5 := rdR_lt h5
    refine Vm.iload (n := 80) 6 dX2_clearBelow_78 rfl rfl ?_
    refine Vm.aload_n (n := 81) 1 dX2_clearBelow_80 rfl rfl ?_
    refine Vm.getR (n := 84) dX2_clearBelow_81 rfl wf_RX2_11 in_2 rfl (by decide) rfl ?_
    refine Vm.iload_n (n := 85) 3 dX2_clearBelow_84 rfl rfl ?_
    replace h := Option.bind_eq_some_iff.mp h
    obtain ⟨k6, h6, h⟩ := h
    refine Vm.aald (n := 86) dX2_clearBelow_85 rfl in_29 rfl rfl (by decide) (fun _ => rfl) rfl h6 ?_
    have g6 := rdR_lt h6
    refine Vm.iload (n := 88) 6 dX2_clearBelow_86 rfl rfl ?_
    replace h := Option.bind_eq_some_iff.mp h
    obtain ⟨x7, h7, h⟩ := h
    refine Vm.laldx (n := 89) dX2_clearBelow_88 rfl (ink ik_23 (by omega)) rfl rfl (by decide) h7 ?_
    replace h := Option.bind_eq_some_iff.mp h
    obtain ⟨σ8, h8, h⟩ := h
    refine Vm.lastx (n := 90) dX2_clearBelow_89 rfl (ink ik_23 (by omega)) rfl rfl (by decide) h8 ?_
    refine Vm.aload_n (n := 91) 1 dX2_clearBelow_90 rfl rfl ?_
    refine Vm.getR (n := 94) dX2_clearBelow_91 rfl wf_RX2_11 in_2 rfl (by decide) rfl ?_
    refine Vm.iload_n (n := 95) 3 dX2_clearBelow_94 rfl rfl ?_
    replace h := Option.bind_eq_some_iff.mp h
    obtain ⟨k9, h9, h⟩ := h
    refine Vm.aald (n := 96) dX2_clearBelow_95 rfl in_29 rfl rfl (by decide) (fun _ => rfl) rfl h9 ?_
    have g9 := rdR_lt h9
    refine Vm.iload (n := 98) 6 dX2_clearBelow_96 rfl rfl ?_
    refine Vm.lload (n := 100) 0 dX2_clearBelow_98 rfl rfl ?_
    replace h := Option.bind_eq_some_iff.mp h
    obtain ⟨σ10, h10, h⟩ := h
    refine Vm.lastx (n := 101) dX2_clearBelow_100 rfl (ink ik_23 (by omega)) rfl rfl (by decide) h10 ?_
    replace h := Option.bind_eq_some_iff.mp h
    obtain ⟨x11, e11, h⟩ := h
    replace e11 := Option.some.inj e11
    refine Vm.iinc (n := 104) (v := x11) (lv' := [(5, .inl x11), (6, .inr (.inl x4)), (0, .inr (.inr (2, 0))), (1, .inl a1), (2, .inl a2), (3, .inl a3), (4, .inl a4)]) 6 dX2_clearBelow_101 rfl rfl e11 (Nat.le_of_ble_eq_true rfl) rfl ?_
    refine Vm.goto 52 dX2_clearBelow_104 rfl ?_
    refine Vm.sub (lv' := [(0, .inr (.inr (2, 0))), (1, .inl a1), (2, .inl a2), (3, .inl a3), (4, .inl a4), (5, .inl x11)]) [2, 3, 4, 5, 6, 0] rfl ?_
    obtain rfl := Option.some.inj h
    exact hk
theorem lX2_clearBelow_52_L (a1 : Int32) (a2 : Int32) (a3 : Int32) (a4 : Int32) (τ : mm) {r : Option mv} {M' : mm × mm} (z : Int32 × mm) (w9 : (Int32 × Int32 × mm) ⊕ (Int32 × mm)) (h : lp (fX2_clearBelow_52_L a1 a2 a3 a4) z = some w9) (hk : (Sum.elim (fun z : Int32 × Int32 × mm => Vm mX2_clearBelow 1 5 [(0, .inr (.inr (2, 0))), (1, .inl a1), (2, .inl a2), (3, .inl z.1), (4, .inl z.2.1)] [] (z.2.2, τ) r M') (fun q : Int32 × mm => r = some (.inl q.1) ∧ M' = (q.2, τ))) w9) : Vm mX2_clearBelow 1 52 [(0, .inr (.inr (2, 0))), (1, .inl a1), (2, .inl a2), (3, .inl a3), (4, .inl a4), (5, .inl z.1)] [] (z.2, τ) r M' :=
  lp_link (S := Int32 × mm) (R := (Int32 × Int32 × mm) ⊕ (Int32 × mm)) (body := fX2_clearBelow_52_L a1 a2 a3 a4) (A := fun z : Int32 × mm => Vm mX2_clearBelow 1 52 [(0, .inr (.inr (2, 0))), (1, .inl a1), (2, .inl a2), (3, .inl a3), (4, .inl a4), (5, .inl z.1)] [] (z.2, τ) r M') (B := fun w : (Int32 × Int32 × mm) ⊕ (Int32 × mm) => (Sum.elim (fun z : Int32 × Int32 × mm => Vm mX2_clearBelow 1 5 [(0, .inr (.inr (2, 0))), (1, .inl a1), (2, .inl a2), (3, .inl z.1), (4, .inl z.2.1)] [] (z.2.2, τ) r M') (fun q : Int32 × mm => r = some (.inl q.1) ∧ M' = (q.2, τ))) w) (fun z v hb hv => lX2_clearBelow_52 a1 a2 a3 a4 z.1 z.2 τ hb hv) z w9 h hk
set_option maxRecDepth 20000 in
theorem lX2_clearBelow_5 (a1 : Int32) (a2 : Int32) (a3 : Int32) (a4 : Int32) (σ τ : mm) {r : Option mv} {M' : mm × mm} {v9 : (Int32 × Int32 × mm) ⊕ (Int32 × mm)} (h : fX2_clearBelow_5 a1 a2 a3 a4 σ = some v9) (hk : (Sum.elim (fun z : Int32 × Int32 × mm => Vm mX2_clearBelow 1 5 [(0, .inr (.inr (2, 0))), (1, .inl a1), (2, .inl a2), (3, .inl z.1), (4, .inl z.2.1)] [] (z.2.2, τ) r M') (fun q : Int32 × mm => r = some (.inl q.1) ∧ M' = (q.2, τ))) v9) : Vm mX2_clearBelow 1 5 [(0, .inr (.inr (2, 0))), (1, .inl a1), (2, .inl a2), (3, .inl a3), (4, .inl a4)] [] (σ, τ) r M' := by
  unfold fX2_clearBelow_5 at h
  refine Vm.iload (n := 7) 4 dX2_clearBelow_5 rfl rfl ?_
  refine Vm.bipush (n := 9) (v := (100 : Int32)) dX2_clearBelow_7 rfl (by decide) ?_
  refine Vm.icmp_ge (n := 12) 116 dX2_clearBelow_9 rfl rfl (fun c9 => ?_) (fun c9 => ?_)
  · replace h := (if_pos c9).symm.trans h
    refine Vm.iload_n (n := 117) 3 dX2_clearBelow_116 rfl rfl ?_
    obtain rfl := Option.some.inj h
    exact Vm.iret dX2_clearBelow_117 rfl hk.1 hk.2.symm
  · replace h := (if_neg c9).symm.trans h
    refine Vm.aload_n (n := 13) 0 dX2_clearBelow_12 rfl rfl ?_
    refine Vm.getR (n := 16) dX2_clearBelow_13 rfl wf_RX2_11 in_2 rfl (by decide) rfl ?_
    refine Vm.iload_n (n := 17) 2 dX2_clearBelow_16 rfl rfl ?_
    replace h := Option.bind_eq_some_iff.mp h
    obtain ⟨k1, h1, h⟩ := h
    refine Vm.aald (n := 18) dX2_clearBelow_17 rfl in_29 rfl rfl (by decide) (fun _ => rfl) rfl h1 ?_
    have g1 := rdR_lt h1
    refine Vm.iload_n (n := 19) 1 dX2_clearBelow_18 rfl rfl ?_
    replace h := Option.bind_eq_some_iff.mp h
    obtain ⟨x2, h2, h⟩ := h
    refine Vm.laldx (n := 20) dX2_clearBelow_19 rfl (ink ik_23 (by omega)) rfl rfl (by decide) h2 ?_
    refine Vm.lconst (n := 21) (v := (0 : Int64)) dX2_clearBelow_20 rfl (by decide) ?_
    refine Vm.lcmp (n := 22) dX2_clearBelow_21 rfl ?_
    refine Vm.if_eq (n := 25) 116 dX2_clearBelow_22 rfl rfl (fun c9 => ?_) (fun c9 => ?_)
    · replace h := (if_pos c9).symm.trans h
      refine Vm.iload_n (n := 117) 3 dX2_clearBelow_116 rfl rfl ?_
      obtain rfl := Option.some.inj h
      exact Vm.iret dX2_clearBelow_117 rfl hk.1 hk.2.symm
    · replace h := (if_neg c9).symm.trans h
      refine Vm.aload_n (n := 26) 0 dX2_clearBelow_25 rfl rfl ?_
      refine Vm.iload_n (n := 27) 2 dX2_clearBelow_26 rfl rfl ?_
      refine Vm.iload_n (n := 28) 1 dX2_clearBelow_27 rfl rfl ?_
      refine Vm.aload_n (n := 29) 0 dX2_clearBelow_28 rfl rfl ?_
      refine Vm.getR (n := 32) dX2_clearBelow_29 rfl wf_RX2_11 in_2 rfl (by decide) rfl ?_
      refine Vm.iload_n (n := 33) 1 dX2_clearBelow_32 rfl rfl ?_
      replace h := Option.bind_eq_some_iff.mp h
      obtain ⟨k3, h3, h⟩ := h
      refine Vm.aald (n := 34) dX2_clearBelow_33 rfl in_29 rfl rfl (by decide) (fun _ => rfl) rfl h3 ?_
      have g3 := rdR_lt h3
      refine Vm.iload_n (n := 35) 1 dX2_clearBelow_34 rfl rfl ?_
      replace h := Option.bind_eq_some_iff.mp h
      obtain ⟨x4, h4, h⟩ := h
      refine Vm.laldx (n := 36) dX2_clearBelow_35 rfl (ink ik_23 (by omega)) rfl rfl (by decide) h4 ?_
      refine Vm.aload_n (n := 37) 0 dX2_clearBelow_36 rfl rfl ?_
      refine Vm.getR (n := 40) dX2_clearBelow_37 rfl wf_RX2_11 in_2 rfl (by decide) rfl ?_
      refine Vm.iload_n (n := 41) 2 dX2_clearBelow_40 rfl rfl ?_
      replace h := Option.bind_eq_some_iff.mp h
      obtain ⟨k5, h5, h⟩ := h
      refine Vm.aald (n := 42) dX2_clearBelow_41 rfl in_29 rfl rfl (by decide) (fun _ => rfl) rfl h5 ?_
      have g5 := rdR_lt h5
      refine Vm.iload_n (n := 43) 1 dX2_clearBelow_42 rfl rfl ?_
      replace h := Option.bind_eq_some_iff.mp h
      obtain ⟨x6, h6, h⟩ := h
      refine Vm.laldx (n := 44) dX2_clearBelow_43 rfl (ink ik_23 (by omega)) rfl rfl (by decide) h6 ?_
      replace h := Option.bind_eq_some_iff.mp h
      obtain ⟨x7, h7, h⟩ := h
      refine Vm.ldiv (n := 45) dX2_clearBelow_44 rfl h7 ?_
      refine Vm.lneg (n := 46) dX2_clearBelow_45 rfl ?_
      replace h := Option.bind_eq_some_iff.mp h
      obtain ⟨q8, h8, h⟩ := h
      refine Vm.callVv (Y := mX2_addTimes) (n := 49) [.inl a2, .inl a1, .inr (.inl (-x7))] dX2_clearBelow_46 rfl wv_RX2_50 omX2_addTimes rfl in_2 rfl rfl rfl (Nat.le_of_ble_eq_true rfl) (by decide) (kX2_addTimes a2 a1 (-x7) σ τ h8) ?_
      refine Vm.iconst (n := 50) (v := (0 : Int32)) dX2_clearBelow_49 rfl (by decide) ?_
      refine Vm.istore (n := 52) (lv' := [(5, .inl (0 : Int32)), (0, .inr (.inr (2, 0))), (1, .inl a1), (2, .inl a2), (3, .inl a3), (4, .inl a4)]) dX2_clearBelow_50 rfl (Nat.le_of_ble_eq_true rfl) rfl ?_
      refine Vm.sub (lv' := [(0, .inr (.inr (2, 0))), (1, .inl a1), (2, .inl a2), (3, .inl a3), (4, .inl a4), (5, .inl (0 : Int32))]) [1, 2, 3, 4, 5, 0] rfl ?_
      exact lX2_clearBelow_52_L a1 a2 a3 a4 τ ((0 : Int32), q8) _ h hk
theorem lX2_clearBelow_5_L (a1 : Int32) (a2 : Int32) (τ : mm) {r : Option mv} {M' : mm × mm} (z : Int32 × Int32 × mm) (w9 : Int32 × mm) (h : lp (fX2_clearBelow_5_L a1 a2) z = some w9) (hk : (fun q : Int32 × mm => r = some (.inl q.1) ∧ M' = (q.2, τ)) w9) : Vm mX2_clearBelow 1 5 [(0, .inr (.inr (2, 0))), (1, .inl a1), (2, .inl a2), (3, .inl z.1), (4, .inl z.2.1)] [] (z.2.2, τ) r M' :=
  lp_link (S := Int32 × Int32 × mm) (R := Int32 × mm) (body := fX2_clearBelow_5_L a1 a2) (A := fun z : Int32 × Int32 × mm => Vm mX2_clearBelow 1 5 [(0, .inr (.inr (2, 0))), (1, .inl a1), (2, .inl a2), (3, .inl z.1), (4, .inl z.2.1)] [] (z.2.2, τ) r M') (B := fun w : Int32 × mm => (fun q : Int32 × mm => r = some (.inl q.1) ∧ M' = (q.2, τ)) w) (fun z v hb hv => lX2_clearBelow_5 a1 a2 z.1 z.2.1 z.2.2 τ hb hv) z w9 h hk
set_option maxRecDepth 20000 in
theorem lX2_clearBelow_0 (a1 : Int32) (a2 : Int32) (σ τ : mm) {r : Option mv} {M' : mm × mm} {v9 : Int32 × mm} (h : fX2_clearBelow_0 a1 a2 σ = some v9) (hk : (fun q : Int32 × mm => r = some (.inl q.1) ∧ M' = (q.2, τ)) v9) : Vm mX2_clearBelow 1 0 [(0, .inr (.inr (2, 0))), (1, .inl a1), (2, .inl a2)] [] (σ, τ) r M' := by
  unfold fX2_clearBelow_0 at h
  refine Vm.iconst (n := 1) (v := (1 : Int32)) dX2_clearBelow_0 rfl (by decide) ?_
  refine Vm.istore_n (n := 2) (lv' := [(3, .inl (1 : Int32)), (0, .inr (.inr (2, 0))), (1, .inl a1), (2, .inl a2)]) dX2_clearBelow_1 rfl (Nat.le_of_ble_eq_true rfl) rfl ?_
  refine Vm.iconst (n := 3) (v := (0 : Int32)) dX2_clearBelow_2 rfl (by decide) ?_
  refine Vm.istore (n := 5) (lv' := [(4, .inl (0 : Int32)), (3, .inl (1 : Int32)), (0, .inr (.inr (2, 0))), (1, .inl a1), (2, .inl a2)]) dX2_clearBelow_3 rfl (Nat.le_of_ble_eq_true rfl) rfl ?_
  refine Vm.sub (lv' := [(0, .inr (.inr (2, 0))), (1, .inl a1), (2, .inl a2), (3, .inl (1 : Int32)), (4, .inl (0 : Int32))]) [2, 3, 4, 1, 0] rfl ?_
  exact lX2_clearBelow_5_L a1 a2 τ ((1 : Int32), (0 : Int32), σ) _ h hk
theorem kX2_clearBelow (a1 : Int32) (a2 : Int32) (σ τ : mm) {q : Int32 × mm} (h : fX2_clearBelow a1 a2 σ = some q) : Cx mX2_clearBelow 1 [.inr (.inr (2, 0)), .inl a1, .inl a2] (σ, τ) (some (.inl q.1)) (q.2, τ) :=
  Cx.of (lv := [(0, .inr (.inr (2, 0))), (1, .inl a1), (2, .inl a2)]) (by decide) (fun ad => Nat.le_of_ble_eq_true rfl) (fun ad => rfl) (lX2_clearBelow_0 a1 a2 σ τ h ⟨rfl, rfl⟩)
-- java/lang/Math floorDiv (JJ)J
def fJ9_floorDiv_f86c9_27 (a4 : Int64) : Option (Int64) :=
  some (a4)
def fJ9_floorDiv_f86c9_0 (a0 : Int64) (a2 : Int64) : Option (Int64) :=
  Option.bind (dvL a0 a2) fun x1 =>
  if (0 : Int32) ≤ (lg_cmp (a0 ^^^ a2) (0 : Int64)) then
  fJ9_floorDiv_f86c9_27 x1
  else
  if (lg_cmp (x1 * a2) a0) = (0 : Int32) then
  fJ9_floorDiv_f86c9_27 x1
  else
  some (x1 - (1 : Int64))
def fJ9_floorDiv_f86c9 (a0 : Int64) (a2 : Int64) : Option (Int64) := fJ9_floorDiv_f86c9_0 a0 a2
set_option maxRecDepth 20000 in
theorem lJ9_floorDiv_f86c9_27 (a4 : Int64) {M : mm × mm} {r : Option mv} {M' : mm × mm} {v9 : Int64} (h : fJ9_floorDiv_f86c9_27 a4 = some v9) (hk : (fun q : Int64 => r = some (.inr (.inl q)) ∧ M' = M) v9) : Vm mJ9_floorDiv_f86c9 0 27 [(4, .inr (.inl a4))] [] M r M' := by
  unfold fJ9_floorDiv_f86c9_27 at h
  refine Vm.lload (n := 29) 0 dJ9_floorDiv_f86c9_27 rfl rfl ?_
  obtain rfl := Option.some.inj h
  exact Vm.lret dJ9_floorDiv_f86c9_29 rfl hk.1 hk.2.symm
set_option maxRecDepth 20000 in
theorem lJ9_floorDiv_f86c9_0 (a0 : Int64) (a2 : Int64) {M : mm × mm} {r : Option mv} {M' : mm × mm} {v9 : Int64} (h : fJ9_floorDiv_f86c9_0 a0 a2 = some v9) (hk : (fun q : Int64 => r = some (.inr (.inl q)) ∧ M' = M) v9) : Vm mJ9_floorDiv_f86c9 0 0 [(0, .inr (.inl a0)), (2, .inr (.inl a2))] [] M r M' := by
  unfold fJ9_floorDiv_f86c9_0 at h
  refine Vm.lload_n (n := 1) 0 dJ9_floorDiv_f86c9_0 rfl rfl ?_
  refine Vm.lload_n (n := 2) 1 dJ9_floorDiv_f86c9_1 rfl rfl ?_
  replace h := Option.bind_eq_some_iff.mp h
  obtain ⟨x1, h1, h⟩ := h
  refine Vm.ldiv (n := 3) dJ9_floorDiv_f86c9_2 rfl h1 ?_
  refine Vm.lstore (n := 5) (lv' := [(4, .inr (.inl x1)), (0, .inr (.inl a0)), (2, .inr (.inl a2))]) dJ9_floorDiv_f86c9_3 rfl (Nat.le_of_ble_eq_true rfl) rfl ?_
  refine Vm.lload_n (n := 6) 1 dJ9_floorDiv_f86c9_5 rfl rfl ?_
  refine Vm.lload_n (n := 7) 2 dJ9_floorDiv_f86c9_6 rfl rfl ?_
  refine Vm.lxor (n := 8) dJ9_floorDiv_f86c9_7 rfl ?_
  refine Vm.lconst (n := 9) (v := (0 : Int64)) dJ9_floorDiv_f86c9_8 rfl (by decide) ?_
  refine Vm.lcmp (n := 10) dJ9_floorDiv_f86c9_9 rfl ?_
  refine Vm.if_ge (n := 13) 27 dJ9_floorDiv_f86c9_10 rfl rfl (fun c9 => ?_) (fun c9 => ?_)
  · replace h := (if_pos c9).symm.trans h
    refine Vm.sub (lv' := [(4, .inr (.inl x1))]) [0] rfl ?_
    exact lJ9_floorDiv_f86c9_27 x1 h hk
  · replace h := (if_neg c9).symm.trans h
    refine Vm.lload (n := 15) 0 dJ9_floorDiv_f86c9_13 rfl rfl ?_
    refine Vm.lload_n (n := 16) 2 dJ9_floorDiv_f86c9_15 rfl rfl ?_
    refine Vm.lmul (n := 17) dJ9_floorDiv_f86c9_16 rfl ?_
    refine Vm.lload_n (n := 18) 1 dJ9_floorDiv_f86c9_17 rfl rfl ?_
    refine Vm.lcmp (n := 19) dJ9_floorDiv_f86c9_18 rfl ?_
    refine Vm.if_eq (n := 22) 27 dJ9_floorDiv_f86c9_19 rfl rfl (fun c9 => ?_) (fun c9 => ?_)
    · replace h := (if_pos c9).symm.trans h
      refine Vm.sub (lv' := [(4, .inr (.inl x1))]) [0] rfl ?_
      exact lJ9_floorDiv_f86c9_27 x1 h hk
    · replace h := (if_neg c9).symm.trans h
      refine Vm.lload (n := 24) 0 dJ9_floorDiv_f86c9_22 rfl rfl ?_
      refine Vm.lconst (n := 25) (v := (1 : Int64)) dJ9_floorDiv_f86c9_24 rfl (by decide) ?_
      refine Vm.lsub (n := 26) dJ9_floorDiv_f86c9_25 rfl ?_
      obtain rfl := Option.some.inj h
      exact Vm.lret dJ9_floorDiv_f86c9_26 rfl hk.1 hk.2.symm
theorem kJ9_floorDiv_f86c9 (a0 : Int64) (a2 : Int64) {M : mm × mm} {q : Int64} (h : fJ9_floorDiv_f86c9 a0 a2 = some q) : Cx mJ9_floorDiv_f86c9 0 [.inr (.inl a0), .inr (.inl a2)] M (some (.inr (.inl q))) M :=
  Cx.ofF (lv := [(0, .inr (.inl a0)), (2, .inr (.inl a2))]) (by decide +kernel) (fun ad => Nat.le_of_ble_eq_true rfl) (fun ad => rfl) (lJ9_floorDiv_f86c9_0 a0 a2 h ⟨rfl, rfl⟩)
-- ThinBodies$Lattice lowerAbove ()V
noncomputable def fX2_lowerAbove_62 (a1 : Int32) (a2 : Int32) (σ : mm) : Option ((Int32 × mm) ⊕ ((Int32 × mm) ⊕ (mm))) :=
  Option.bind (some (a2 + (1 : Int32))) fun x1 =>
  some (.inl (x1, σ))
noncomputable def fX2_lowerAbove_15 (a1 : Int32) (a2 : Int32) (σ : mm) : Option ((Int32 × mm) ⊕ ((Int32 × mm) ⊕ (mm))) :=
  if (σ.1 2 0 3) ≤ a2 then
  Option.bind (some (a1 + (-1 : Int32))) fun x1 =>
  some (.inr (.inl (x1, σ)))
  else
  Option.bind (rdR 4 a2) fun k2 =>
  Option.bind (rdL σ 23 k2 4 a2) fun x3 =>
  if (lg_cmp x3 (0 : Int64)) ≤ (0 : Int32) then
  fX2_lowerAbove_62 a1 a2 σ
  else
  Option.bind (rdR 4 a1) fun k4 =>
  Option.bind (rdL σ 23 k4 4 a2) fun x5 =>
  Option.bind (rdR 4 a2) fun k6 =>
  Option.bind (rdL σ 23 k6 4 a2) fun x7 =>
  Option.bind (fJ9_floorDiv_f86c9 x5 x7) fun q8 =>
  Option.bind (fX2_addTimes a2 a1 (-q8) σ) fun q9 =>
  fX2_lowerAbove_62 a1 a2 q9
noncomputable def fX2_lowerAbove_15_L (a1 : Int32) : Int32 × mm → Option ((Int32 × mm) ⊕ ((Int32 × mm) ⊕ (mm))) := fun z => fX2_lowerAbove_15 a1 z.1 z.2
noncomputable def fX2_lowerAbove_7 (a1 : Int32) (σ : mm) : Option ((Int32 × mm) ⊕ (mm)) :=
  if a1 < (0 : Int32) then
  some (.inr (σ))
  else
  Option.bind (some (a1 + (1 : Int32))) fun x1 =>
  lp (fX2_lowerAbove_15_L a1) (x1, σ)
noncomputable def fX2_lowerAbove_7_L : Int32 × mm → Option ((Int32 × mm) ⊕ (mm)) := fun z => fX2_lowerAbove_7 z.1 z.2
noncomputable def fX2_lowerAbove_0 (σ : mm) : Option (mm) :=
  Option.bind (some ((σ.1 2 0 3) - (2 : Int32))) fun x1 =>
  lp (fX2_lowerAbove_7_L) (x1, σ)
noncomputable def fX2_lowerAbove (σ : mm) : Option (mm) := fX2_lowerAbove_0 σ
set_option maxRecDepth 20000 in
theorem lX2_lowerAbove_62 (a1 : Int32) (a2 : Int32) (σ τ : mm) {r : Option mv} {M' : mm × mm} {v9 : (Int32 × mm) ⊕ ((Int32 × mm) ⊕ (mm))} (h : fX2_lowerAbove_62 a1 a2 σ = some v9) (hk : (Sum.elim (fun z : Int32 × mm => Vm mX2_lowerAbove 1 15 [(0, .inr (.inr (2, 0))), (1, .inl a1), (2, .inl z.1)] [] (z.2, τ) r M') (Sum.elim (fun z : Int32 × mm => Vm mX2_lowerAbove 1 7 [(0, .inr (.inr (2, 0))), (1, .inl z.1)] [] (z.2, τ) r M') (fun q : mm => r = none ∧ M' = (q, τ)))) v9) : Vm mX2_lowerAbove 1 62 [(0, .inr (.inr (2, 0))), (1, .inl a1), (2, .inl a2)] [] (σ, τ) r M' := by
  unfold fX2_lowerAbove_62 at h
  replace h := Option.bind_eq_some_iff.mp h
  obtain ⟨x1, e1, h⟩ := h
  replace e1 := Option.some.inj e1
  refine Vm.iinc (n := 65) (v := x1) (lv' := [(2, .inl x1), (0, .inr (.inr (2, 0))), (1, .inl a1)]) 2 dX2_lowerAbove_62 rfl rfl e1 (Nat.le_of_ble_eq_true rfl) rfl ?_
  refine Vm.goto 15 dX2_lowerAbove_65 rfl ?_
  refine Vm.sub (lv' := [(0, .inr (.inr (2, 0))), (1, .inl a1), (2, .inl x1)]) [1, 2, 0] rfl ?_
  obtain rfl := Option.some.inj h
  exact hk
set_option maxRecDepth 20000 in
theorem lX2_lowerAbove_15 (a1 : Int32) (a2 : Int32) (σ τ : mm) {r : Option mv} {M' : mm × mm} {v9 : (Int32 × mm) ⊕ ((Int32 × mm) ⊕ (mm))} (h : fX2_lowerAbove_15 a1 a2 σ = some v9) (hk : (Sum.elim (fun z : Int32 × mm => Vm mX2_lowerAbove 1 15 [(0, .inr (.inr (2, 0))), (1, .inl a1), (2, .inl z.1)] [] (z.2, τ) r M') (Sum.elim (fun z : Int32 × mm => Vm mX2_lowerAbove 1 7 [(0, .inr (.inr (2, 0))), (1, .inl z.1)] [] (z.2, τ) r M') (fun q : mm => r = none ∧ M' = (q, τ)))) v9) : Vm mX2_lowerAbove 1 15 [(0, .inr (.inr (2, 0))), (1, .inl a1), (2, .inl a2)] [] (σ, τ) r M' := by
  unfold fX2_lowerAbove_15 at h
  refine Vm.iload_n (n := 16) 2 dX2_lowerAbove_15 rfl rfl ?_
  refine Vm.aload_n (n := 17) 0 dX2_lowerAbove_16 rfl rfl ?_
  refine Vm.gX (n := 20) dX2_lowerAbove_17 rfl wf_RX2_24 in_2 rfl (by decide) rfl (by decide) ?_
  refine Vm.icmp_ge (n := 23) 68 dX2_lowerAbove_20 rfl rfl (fun c9 => ?_) (fun c9 => ?_)
  · replace h := (if_pos c9).symm.trans h
    replace h := Option.bind_eq_some_iff.mp h
    obtain ⟨x1, e1, h⟩ := h
    replace e1 := Option.some.inj e1
    refine Vm.iinc (n := 71) (v := x1) (lv' := [(1, .inl x1), (0, .inr (.inr (2, 0))), (2, .inl a2)]) 1 dX2_lowerAbove_68 rfl rfl e1 (Nat.le_of_ble_eq_true rfl) rfl ?_
    refine Vm.goto 7 dX2_lowerAbove_71 rfl ?_
    refine Vm.sub (lv' := [(0, .inr (.inr (2, 0))), (1, .inl x1)]) [1, 0] rfl ?_
    obtain rfl := Option.some.inj h
    exact hk
  · replace h := (if_neg c9).symm.trans h
    refine Vm.aload_n (n := 24) 0 dX2_lowerAbove_23 rfl rfl ?_
    refine Vm.getR (n := 27) dX2_lowerAbove_24 rfl wf_RX2_11 in_2 rfl (by decide) rfl ?_
    refine Vm.iload_n (n := 28) 2 dX2_lowerAbove_27 rfl rfl ?_
    replace h := Option.bind_eq_some_iff.mp h
    obtain ⟨k2, h2, h⟩ := h
    refine Vm.aald (n := 29) dX2_lowerAbove_28 rfl in_29 rfl rfl (by decide) (fun _ => rfl) rfl h2 ?_
    have g2 := rdR_lt h2
    refine Vm.iload_n (n := 30) 2 dX2_lowerAbove_29 rfl rfl ?_
    replace h := Option.bind_eq_some_iff.mp h
    obtain ⟨x3, h3, h⟩ := h
    refine Vm.laldx (n := 31) dX2_lowerAbove_30 rfl (ink ik_23 (by omega)) rfl rfl (by decide) h3 ?_
    refine Vm.lconst (n := 32) (v := (0 : Int64)) dX2_lowerAbove_31 rfl (by decide) ?_
    refine Vm.lcmp (n := 33) dX2_lowerAbove_32 rfl ?_
    refine Vm.if_le (n := 36) 62 dX2_lowerAbove_33 rfl rfl (fun c9 => ?_) (fun c9 => ?_)
    · replace h := (if_pos c9).symm.trans h
      exact lX2_lowerAbove_62 a1 a2 σ τ h hk
    · replace h := (if_neg c9).symm.trans h
      refine Vm.aload_n (n := 37) 0 dX2_lowerAbove_36 rfl rfl ?_
      refine Vm.iload_n (n := 38) 2 dX2_lowerAbove_37 rfl rfl ?_
      refine Vm.iload_n (n := 39) 1 dX2_lowerAbove_38 rfl rfl ?_
      refine Vm.aload_n (n := 40) 0 dX2_lowerAbove_39 rfl rfl ?_
      refine Vm.getR (n := 43) dX2_lowerAbove_40 rfl wf_RX2_11 in_2 rfl (by decide) rfl ?_
      refine Vm.iload_n (n := 44) 1 dX2_lowerAbove_43 rfl rfl ?_
      replace h := Option.bind_eq_some_iff.mp h
      obtain ⟨k4, h4, h⟩ := h
      refine Vm.aald (n := 45) dX2_lowerAbove_44 rfl in_29 rfl rfl (by decide) (fun _ => rfl) rfl h4 ?_
      have g4 := rdR_lt h4
      refine Vm.iload_n (n := 46) 2 dX2_lowerAbove_45 rfl rfl ?_
      replace h := Option.bind_eq_some_iff.mp h
      obtain ⟨x5, h5, h⟩ := h
      refine Vm.laldx (n := 47) dX2_lowerAbove_46 rfl (ink ik_23 (by omega)) rfl rfl (by decide) h5 ?_
      refine Vm.aload_n (n := 48) 0 dX2_lowerAbove_47 rfl rfl ?_
      refine Vm.getR (n := 51) dX2_lowerAbove_48 rfl wf_RX2_11 in_2 rfl (by decide) rfl ?_
      refine Vm.iload_n (n := 52) 2 dX2_lowerAbove_51 rfl rfl ?_
      replace h := Option.bind_eq_some_iff.mp h
      obtain ⟨k6, h6, h⟩ := h
      refine Vm.aald (n := 53) dX2_lowerAbove_52 rfl in_29 rfl rfl (by decide) (fun _ => rfl) rfl h6 ?_
      have g6 := rdR_lt h6
      refine Vm.iload_n (n := 54) 2 dX2_lowerAbove_53 rfl rfl ?_
      replace h := Option.bind_eq_some_iff.mp h
      obtain ⟨x7, h7, h⟩ := h
      refine Vm.laldx (n := 55) dX2_lowerAbove_54 rfl (ink ik_23 (by omega)) rfl rfl (by decide) h7 ?_
      replace h := Option.bind_eq_some_iff.mp h
      obtain ⟨q8, h8, h⟩ := h
      refine Vm.callS (Y := mJ9_floorDiv_f86c9) (n := 58) [.inr (.inl x5), .inr (.inl x7)] dX2_lowerAbove_55 rfl wv_RX2_57 omJ9_floorDiv_f86c9 rfl rfl (Nat.le_of_ble_eq_true rfl) (by decide) (kJ9_floorDiv_f86c9 x5 x7 h8) ?_
      refine Vm.lneg (n := 59) dX2_lowerAbove_58 rfl ?_
      replace h := Option.bind_eq_some_iff.mp h
      obtain ⟨q9, h9, h⟩ := h
      refine Vm.callVv (Y := mX2_addTimes) (n := 62) [.inl a2, .inl a1, .inr (.inl (-q8))] dX2_lowerAbove_59 rfl wv_RX2_50 omX2_addTimes rfl in_2 rfl rfl rfl (Nat.le_of_ble_eq_true rfl) (by decide) (kX2_addTimes a2 a1 (-q8) σ τ h9) ?_
      exact lX2_lowerAbove_62 a1 a2 q9 τ h hk
theorem lX2_lowerAbove_15_L (a1 : Int32) (τ : mm) {r : Option mv} {M' : mm × mm} (z : Int32 × mm) (w9 : (Int32 × mm) ⊕ (mm)) (h : lp (fX2_lowerAbove_15_L a1) z = some w9) (hk : (Sum.elim (fun z : Int32 × mm => Vm mX2_lowerAbove 1 7 [(0, .inr (.inr (2, 0))), (1, .inl z.1)] [] (z.2, τ) r M') (fun q : mm => r = none ∧ M' = (q, τ))) w9) : Vm mX2_lowerAbove 1 15 [(0, .inr (.inr (2, 0))), (1, .inl a1), (2, .inl z.1)] [] (z.2, τ) r M' :=
  lp_link (S := Int32 × mm) (R := (Int32 × mm) ⊕ (mm)) (body := fX2_lowerAbove_15_L a1) (A := fun z : Int32 × mm => Vm mX2_lowerAbove 1 15 [(0, .inr (.inr (2, 0))), (1, .inl a1), (2, .inl z.1)] [] (z.2, τ) r M') (B := fun w : (Int32 × mm) ⊕ (mm) => (Sum.elim (fun z : Int32 × mm => Vm mX2_lowerAbove 1 7 [(0, .inr (.inr (2, 0))), (1, .inl z.1)] [] (z.2, τ) r M') (fun q : mm => r = none ∧ M' = (q, τ))) w) (fun z v hb hv => lX2_lowerAbove_15 a1 z.1 z.2 τ hb hv) z w9 h hk
set_option maxRecDepth 20000 in
theorem lX2_lowerAbove_7 (a1 : Int32) (σ τ : mm) {r : Option mv} {M' : mm × mm} {v9 : (Int32 × mm) ⊕ (mm)} (h : fX2_lowerAbove_7 a1 σ = some v9) (hk : (Sum.elim (fun z : Int32 × mm => Vm mX2_lowerAbove 1 7 [(0, .inr (.inr (2, 0))), (1, .inl z.1)] [] (z.2, τ) r M') (fun q : mm => r = none ∧ M' = (q, τ))) v9) : Vm mX2_lowerAbove 1 7 [(0, .inr (.inr (2, 0))), (1, .inl a1)] [] (σ, τ) r M' := by
  unfold fX2_lowerAbove_7 at h
  refine Vm.iload_n (n := 8) 1 dX2_lowerAbove_7 rfl rfl ?_
  refine Vm.if_lt (n := 11) 74 dX2_lowerAbove_8 rfl rfl (fun c9 => ?_) (fun c9 => ?_)
  · replace h := (if_pos c9).symm.trans h
    obtain rfl := Option.some.inj h
    exact Vm.vret dX2_lowerAbove_74 rfl hk.1 hk.2.symm
  · replace h := (if_neg c9).symm.trans h
    refine Vm.iload_n (n := 12) 1 dX2_lowerAbove_11 rfl rfl ?_
    refine Vm.iconst (n := 13) (v := (1 : Int32)) dX2_lowerAbove_12 rfl (by decide) ?_
    refine Vm.iadd (n := 14) dX2_lowerAbove_13 rfl ?_
    replace h := Option.bind_eq_some_iff.mp h
    obtain ⟨x1, e1, h⟩ := h
    replace e1 := Option.some.inj e1
    refine Vm.top e1 ?_
    refine Vm.istore_n (n := 15) (lv' := [(2, .inl x1), (0, .inr (.inr (2, 0))), (1, .inl a1)]) dX2_lowerAbove_14 rfl (Nat.le_of_ble_eq_true rfl) rfl ?_
    refine Vm.sub (lv' := [(0, .inr (.inr (2, 0))), (1, .inl a1), (2, .inl x1)]) [1, 2, 0] rfl ?_
    exact lX2_lowerAbove_15_L a1 τ (x1, σ) _ h hk
theorem lX2_lowerAbove_7_L (τ : mm) {r : Option mv} {M' : mm × mm} (z : Int32 × mm) (w9 : mm) (h : lp (fX2_lowerAbove_7_L) z = some w9) (hk : (fun q : mm => r = none ∧ M' = (q, τ)) w9) : Vm mX2_lowerAbove 1 7 [(0, .inr (.inr (2, 0))), (1, .inl z.1)] [] (z.2, τ) r M' :=
  lp_link (S := Int32 × mm) (R := mm) (body := fX2_lowerAbove_7_L) (A := fun z : Int32 × mm => Vm mX2_lowerAbove 1 7 [(0, .inr (.inr (2, 0))), (1, .inl z.1)] [] (z.2, τ) r M') (B := fun w : mm => (fun q : mm => r = none ∧ M' = (q, τ)) w) (fun z v hb hv => lX2_lowerAbove_7 z.1 z.2 τ hb hv) z w9 h hk
set_option maxRecDepth 20000 in
theorem lX2_lowerAbove_0 (σ τ : mm) {r : Option mv} {M' : mm × mm} {v9 : mm} (h : fX2_lowerAbove_0 σ = some v9) (hk : (fun q : mm => r = none ∧ M' = (q, τ)) v9) : Vm mX2_lowerAbove 1 0 [(0, .inr (.inr (2, 0)))] [] (σ, τ) r M' := by
  unfold fX2_lowerAbove_0 at h
  refine Vm.aload_n (n := 1) 0 dX2_lowerAbove_0 rfl rfl ?_
  refine Vm.gX (n := 4) dX2_lowerAbove_1 rfl wf_RX2_24 in_2 rfl (by decide) rfl (by decide) ?_
  refine Vm.iconst (n := 5) (v := (2 : Int32)) dX2_lowerAbove_4 rfl (by decide) ?_
  refine Vm.isub (n := 6) dX2_lowerAbove_5 rfl ?_
  replace h := Option.bind_eq_some_iff.mp h
  obtain ⟨x1, e1, h⟩ := h
  replace e1 := Option.some.inj e1
  refine Vm.top e1 ?_
  refine Vm.istore_n (n := 7) (lv' := [(1, .inl x1), (0, .inr (.inr (2, 0)))]) dX2_lowerAbove_6 rfl (Nat.le_of_ble_eq_true rfl) rfl ?_
  refine Vm.sub (lv' := [(0, .inr (.inr (2, 0))), (1, .inl x1)]) [1, 0] rfl ?_
  exact lX2_lowerAbove_7_L τ (x1, σ) _ h hk
theorem kX2_lowerAbove (σ τ : mm) {q : mm} (h : fX2_lowerAbove σ = some q) : Cx mX2_lowerAbove 1 [.inr (.inr (2, 0))] (σ, τ) (none) (q, τ) :=
  Cx.of (lv := [(0, .inr (.inr (2, 0)))]) (by decide) (fun ad => Nat.le_of_ble_eq_true rfl) (fun ad => rfl) (lX2_lowerAbove_0 σ τ h ⟨rfl, rfl⟩)
-- ThinBodies$Lattice makeForm (LThinBodies$Body;)I
noncomputable def fX2_makeForm_133 (a2 : Int64) (a4 : Int32) (σ : mm) : Option ((Int64 × Int32 × mm) ⊕ (Int32 × mm)) :=
  Option.bind (rdR 4 a4) fun k1 =>
  Option.bind (rdL σ 23 k1 4 a4) fun x2 =>
  Option.bind (some (a2 * x2)) fun x3 =>
  if (lg_cmp x3 (0 : Int64)) = (0 : Int32) then
  some (.inr (((0 : Int32), σ)))
  else
  Option.bind (some (a4 + (1 : Int32))) fun x4 =>
  some (.inl (x3, x4, σ))
noncomputable def fX2_makeForm_77 (a2 : Int64) (a4 : Int32) (a5 : Int32) (σ : mm) : Option ((Int64 × Int32 × mm) ⊕ ((Int64 × Int32 × mm) ⊕ (Int32 × mm))) :=
  if (σ.1 2 0 3) ≤ a5 then
  Option.bind (rdR 4 a4) fun k1 =>
  Option.bind (rdL σ 23 k1 4 a4) fun x2 =>
  if (0 : Int32) ≤ (lg_cmp x2 (0 : Int64)) then
  Option.map Sum.inr (fX2_makeForm_133 a2 a4 σ)
  else
  Option.bind (fX2_addTimes a4 a4 (-2 : Int64) σ) fun q3 =>
  Option.bind (some (-a2)) fun x4 =>
  Option.map Sum.inr (fX2_makeForm_133 x4 a4 q3)
  else
  Option.bind (fX2_clearBelow a4 a5 σ) fun q5 =>
  Option.bind (some (a2 * q5.1.toInt64)) fun x6 =>
  Option.bind (some (a5 + (1 : Int32))) fun x7 =>
  some (.inl (x6, x7, q5.2))
noncomputable def fX2_makeForm_77_L (a4 : Int32) : Int64 × Int32 × mm → Option ((Int64 × Int32 × mm) ⊕ ((Int64 × Int32 × mm) ⊕ (Int32 × mm))) := fun z => fX2_makeForm_77 z.1 a4 z.2.1 z.2.2
noncomputable def fX2_makeForm_62 (a2 : Int64) (a4 : Int32) (σ : mm) : Option ((Int64 × Int32 × mm) ⊕ (Int32 × mm)) :=
  if (σ.1 2 0 3) ≤ a4 then
  Option.bind (fX2_lowerAbove σ) fun q1 =>
  some (.inr ((a2.toInt32, q1)))
  else
  Option.bind (some (a4 + (1 : Int32))) fun x2 =>
  lp (fX2_makeForm_77_L a4) (a2, x2, σ)
noncomputable def fX2_makeForm_62_L : Int64 × Int32 × mm → Option ((Int64 × Int32 × mm) ⊕ (Int32 × mm)) := fun z => fX2_makeForm_62 z.1 z.2.1 z.2.2
noncomputable def fX2_makeForm_20 (a1 : Nat) (a2 : Int32) (a3 : Int32) (σ : mm) : Option ((Int32 × mm) ⊕ ((Int32 × mm) ⊕ (Int32 × mm))) :=
  if (σ.1 2 0 3) ≤ a3 then
  Option.bind (some (a2 + (1 : Int32))) fun x1 =>
  some (.inr (.inl (x1, σ)))
  else
  Option.bind (rdR 4 a2) fun k2 =>
  Option.bind (rdR 4 a2) fun k3 =>
  Option.bind (rdI σ 11 (4 * a1 + k3) 4 a3) fun x4 =>
  Option.bind (wrL σ 23 k2 4 a3 x4.toInt64) fun σ5 =>
  Option.bind (some (a3 + (1 : Int32))) fun x6 =>
  some (.inl (x6, σ5))
noncomputable def fX2_makeForm_20_L (a1 : Nat) (a2 : Int32) : Int32 × mm → Option ((Int32 × mm) ⊕ ((Int32 × mm) ⊕ (Int32 × mm))) := fun z => fX2_makeForm_20 a1 a2 z.1 z.2
noncomputable def fX2_makeForm_10 (a1 : Nat) (a2 : Int32) (σ : mm) : Option ((Int32 × mm) ⊕ (Int32 × mm)) :=
  if (σ.1 2 0 3) ≤ a2 then
  Option.map Sum.inr (lp (fX2_makeForm_62_L) ((1 : Int64), (0 : Int32), σ))
  else
  lp (fX2_makeForm_20_L a1 a2) ((0 : Int32), σ)
noncomputable def fX2_makeForm_10_L (a1 : Nat) : Int32 × mm → Option ((Int32 × mm) ⊕ (Int32 × mm)) := fun z => fX2_makeForm_10 a1 z.1 z.2
noncomputable def fX2_makeForm_0 (a1 : Nat) (σ : mm) : Option (Int32 × mm) :=
  Option.bind (some (σ.1 0 a1 0)) fun x1 =>
  Option.bind (some (stI σ 2 0 3 x1)) fun σ2 =>
  lp (fX2_makeForm_10_L a1) ((0 : Int32), σ2)
noncomputable def fX2_makeForm (a1 : Nat) (σ : mm) : Option (Int32 × mm) := fX2_makeForm_0 a1 σ
set_option maxRecDepth 20000 in
theorem lX2_makeForm_133 (a2 : Int64) (a4 : Int32) (σ τ : mm) {r : Option mv} {M' : mm × mm} {v9 : (Int64 × Int32 × mm) ⊕ (Int32 × mm)} (h : fX2_makeForm_133 a2 a4 σ = some v9) (hk : (Sum.elim (fun z : Int64 × Int32 × mm => Vm mX2_makeForm 2 62 [(0, .inr (.inr (2, 0))), (2, .inr (.inl z.1)), (4, .inl z.2.1)] [] (z.2.2, τ) r M') (fun q : Int32 × mm => r = some (.inl q.1) ∧ M' = (q.2, τ))) v9) : Vm mX2_makeForm 2 133 [(0, .inr (.inr (2, 0))), (2, .inr (.inl a2)), (4, .inl a4)] [] (σ, τ) r M' := by
  unfold fX2_makeForm_133 at h
  refine Vm.lload_n (n := 134) 1 dX2_makeForm_133 rfl rfl ?_
  refine Vm.aload_n (n := 135) 0 dX2_makeForm_134 rfl rfl ?_
  refine Vm.getR (n := 138) dX2_makeForm_135 rfl wf_RX2_11 in_2 rfl (by decide) rfl ?_
  refine Vm.iload (n := 140) 2 dX2_makeForm_138 rfl rfl ?_
  replace h := Option.bind_eq_some_iff.mp h
  obtain ⟨k1, h1, h⟩ := h
  refine Vm.aald (n := 141) dX2_makeForm_140 rfl in_29 rfl rfl (by decide) (fun _ => rfl) rfl h1 ?_
  have g1 := rdR_lt h1
  refine Vm.iload (n := 143) 2 dX2_makeForm_141 rfl rfl ?_
  replace h := Option.bind_eq_some_iff.mp h
  obtain ⟨x2, h2, h⟩ := h
  refine Vm.laldx (n := 144) dX2_makeForm_143 rfl (ink ik_23 (by omega)) rfl rfl (by decide) h2 ?_
  refine Vm.lmul (n := 145) dX2_makeForm_144 rfl ?_
  replace h := Option.bind_eq_some_iff.mp h
  obtain ⟨x3, e3, h⟩ := h
  replace e3 := Option.some.inj e3
  refine Vm.topl e3 ?_
  refine Vm.lstore_n (n := 146) (lv' := [(2, .inr (.inl x3)), (0, .inr (.inr (2, 0))), (4, .inl a4)]) dX2_makeForm_145 rfl (Nat.le_of_ble_eq_true rfl) rfl ?_
  refine Vm.lload_n (n := 147) 0 dX2_makeForm_146 rfl rfl ?_
  refine Vm.lconst (n := 148) (v := (0 : Int64)) dX2_makeForm_147 rfl (by decide) ?_
  refine Vm.lcmp (n := 149) dX2_makeForm_148 rfl ?_
  refine Vm.if_ne (n := 152) 154 dX2_makeForm_149 rfl rfl (fun c9 => ?_) (fun c9 => ?_)
  · replace h := (if_neg c9).symm.trans h
    replace h := Option.bind_eq_some_iff.mp h
    obtain ⟨x4, e4, h⟩ := h
    replace e4 := Option.some.inj e4
    refine Vm.iinc (n := 157) (v := x4) (lv' := [(4, .inl x4), (2, .inr (.inl x3)), (0, .inr (.inr (2, 0)))]) 2 dX2_makeForm_154 rfl rfl e4 (Nat.le_of_ble_eq_true rfl) rfl ?_
    refine Vm.goto 62 dX2_makeForm_157 rfl ?_
    refine Vm.sub (lv' := [(0, .inr (.inr (2, 0))), (2, .inr (.inl x3)), (4, .inl x4)]) [2, 1, 0] rfl ?_
    obtain rfl := Option.some.inj h
    exact hk
  · replace h := (if_pos c9).symm.trans h
    refine Vm.iconst (n := 153) (v := (0 : Int32)) dX2_makeForm_152 rfl (by decide) ?_
    obtain rfl := Option.some.inj h
    exact Vm.iret dX2_makeForm_153 rfl hk.1 hk.2.symm
set_option maxRecDepth 20000 in
theorem lX2_makeForm_77 (a2 : Int64) (a4 : Int32) (a5 : Int32) (σ τ : mm) {r : Option mv} {M' : mm × mm} {v9 : (Int64 × Int32 × mm) ⊕ ((Int64 × Int32 × mm) ⊕ (Int32 × mm))} (h : fX2_makeForm_77 a2 a4 a5 σ = some v9) (hk : (Sum.elim (fun z : Int64 × Int32 × mm => Vm mX2_makeForm 2 77 [(0, .inr (.inr (2, 0))), (2, .inr (.inl z.1)), (4, .inl a4), (5, .inl z.2.1)] [] (z.2.2, τ) r M') (Sum.elim (fun z : Int64 × Int32 × mm => Vm mX2_makeForm 2 62 [(0, .inr (.inr (2, 0))), (2, .inr (.inl z.1)), (4, .inl z.2.1)] [] (z.2.2, τ) r M') (fun q : Int32 × mm => r = some (.inl q.1) ∧ M' = (q.2, τ)))) v9) : Vm mX2_makeForm 2 77 [(0, .inr (.inr (2, 0))), (2, .inr (.inl a2)), (4, .inl a4), (5, .inl a5)] [] (σ, τ) r M' := by
  unfold fX2_makeForm_77 at h
  refine Vm.iload (n := 79) 3 dX2_makeForm_77 rfl rfl ?_
  refine Vm.aload_n (n := 80) 0 dX2_makeForm_79 rfl rfl ?_
  refine Vm.gX (n := 83) dX2_makeForm_80 rfl wf_RX2_24 in_2 rfl (by decide) rfl (by decide) ?_
  refine Vm.icmp_ge (n := 86) 104 dX2_makeForm_83 rfl rfl (fun c9 => ?_) (fun c9 => ?_)
  · replace h := (if_pos c9).symm.trans h
    refine Vm.aload_n (n := 105) 0 dX2_makeForm_104 rfl rfl ?_
    refine Vm.getR (n := 108) dX2_makeForm_105 rfl wf_RX2_11 in_2 rfl (by decide) rfl ?_
    refine Vm.iload (n := 110) 2 dX2_makeForm_108 rfl rfl ?_
    replace h := Option.bind_eq_some_iff.mp h
    obtain ⟨k1, h1, h⟩ := h
    refine Vm.aald (n := 111) dX2_makeForm_110 rfl in_29 rfl rfl (by decide) (fun _ => rfl) rfl h1 ?_
    have g1 := rdR_lt h1
    refine Vm.iload (n := 113) 2 dX2_makeForm_111 rfl rfl ?_
    replace h := Option.bind_eq_some_iff.mp h
    obtain ⟨x2, h2, h⟩ := h
    refine Vm.laldx (n := 114) dX2_makeForm_113 rfl (ink ik_23 (by omega)) rfl rfl (by decide) h2 ?_
    refine Vm.lconst (n := 115) (v := (0 : Int64)) dX2_makeForm_114 rfl (by decide) ?_
    refine Vm.lcmp (n := 116) dX2_makeForm_115 rfl ?_
    refine Vm.if_ge (n := 119) 133 dX2_makeForm_116 rfl rfl (fun c9 => ?_) (fun c9 => ?_)
    · replace h := (if_pos c9).symm.trans h
      refine Vm.sub (lv' := [(0, .inr (.inr (2, 0))), (2, .inr (.inl a2)), (4, .inl a4)]) [0, 1, 2] rfl ?_
      replace h := Option.map_eq_some_iff.mp h
      obtain ⟨w9, h, e8⟩ := h
      subst e8
      exact lX2_makeForm_133 a2 a4 σ τ h hk
    · replace h := (if_neg c9).symm.trans h
      refine Vm.aload_n (n := 120) 0 dX2_makeForm_119 rfl rfl ?_
      refine Vm.iload (n := 122) 2 dX2_makeForm_120 rfl rfl ?_
      refine Vm.iload (n := 124) 2 dX2_makeForm_122 rfl rfl ?_
      refine Vm.ldc2 (n := 127) dX2_makeForm_124 rfl wl_RX2_48 ?_
      replace h := Option.bind_eq_some_iff.mp h
      obtain ⟨q3, h3, h⟩ := h
      refine Vm.callVv (Y := mX2_addTimes) (n := 130) [.inl a4, .inl a4, .inr (.inl (-2 : Int64))] dX2_makeForm_127 rfl wv_RX2_50 omX2_addTimes rfl in_2 rfl rfl rfl (Nat.le_of_ble_eq_true rfl) (by decide) (kX2_addTimes a4 a4 (-2 : Int64) σ τ h3) ?_
      refine Vm.lload_n (n := 131) 1 dX2_makeForm_130 rfl rfl ?_
      refine Vm.lneg (n := 132) dX2_makeForm_131 rfl ?_
      replace h := Option.bind_eq_some_iff.mp h
      obtain ⟨x4, e4, h⟩ := h
      replace e4 := Option.some.inj e4
      refine Vm.topl e4 ?_
      refine Vm.lstore_n (n := 133) (lv' := [(2, .inr (.inl x4)), (0, .inr (.inr (2, 0))), (4, .inl a4), (5, .inl a5)]) dX2_makeForm_132 rfl (Nat.le_of_ble_eq_true rfl) rfl ?_
      refine Vm.sub (lv' := [(0, .inr (.inr (2, 0))), (2, .inr (.inl x4)), (4, .inl a4)]) [1, 0, 2] rfl ?_
      replace h := Option.map_eq_some_iff.mp h
      obtain ⟨w9, h, e8⟩ := h
      subst e8
      exact lX2_makeForm_133 x4 a4 q3 τ h hk
  · replace h := (if_neg c9).symm.trans h
    refine Vm.lload_n (n := 87) 1 dX2_makeForm_86 rfl rfl ?_
    refine Vm.aload_n (n := 88) 0 dX2_makeForm_87 rfl rfl ?_
    refine Vm.iload (n := 90) 2 dX2_makeForm_88 rfl rfl ?_
    refine Vm.iload (n := 92) 3 dX2_makeForm_90 rfl rfl ?_
    replace h := Option.bind_eq_some_iff.mp h
    obtain ⟨q5, h5, h⟩ := h
    refine Vm.callV (Y := mX2_clearBelow) (n := 95) [.inl a4, .inl a5] dX2_makeForm_92 rfl wv_RX2_44 omX2_clearBelow rfl in_2 rfl rfl rfl (Nat.le_of_ble_eq_true rfl) (by decide) (kX2_clearBelow a4 a5 σ τ h5) ?_
    refine Vm.i2l (n := 96) dX2_makeForm_95 rfl ?_
    refine Vm.lmul (n := 97) dX2_makeForm_96 rfl ?_
    replace h := Option.bind_eq_some_iff.mp h
    obtain ⟨x6, e6, h⟩ := h
    replace e6 := Option.some.inj e6
    refine Vm.topl e6 ?_
    refine Vm.lstore_n (n := 98) (lv' := [(2, .inr (.inl x6)), (0, .inr (.inr (2, 0))), (4, .inl a4), (5, .inl a5)]) dX2_makeForm_97 rfl (Nat.le_of_ble_eq_true rfl) rfl ?_
    replace h := Option.bind_eq_some_iff.mp h
    obtain ⟨x7, e7, h⟩ := h
    replace e7 := Option.some.inj e7
    refine Vm.iinc (n := 101) (v := x7) (lv' := [(5, .inl x7), (2, .inr (.inl x6)), (0, .inr (.inr (2, 0))), (4, .inl a4)]) 3 dX2_makeForm_98 rfl rfl e7 (Nat.le_of_ble_eq_true rfl) rfl ?_
    refine Vm.goto 77 dX2_makeForm_101 rfl ?_
    refine Vm.sub (lv' := [(0, .inr (.inr (2, 0))), (2, .inr (.inl x6)), (4, .inl a4), (5, .inl x7)]) [2, 1, 3, 0] rfl ?_
    obtain rfl := Option.some.inj h
    exact hk
theorem lX2_makeForm_77_L (a4 : Int32) (τ : mm) {r : Option mv} {M' : mm × mm} (z : Int64 × Int32 × mm) (w9 : (Int64 × Int32 × mm) ⊕ (Int32 × mm)) (h : lp (fX2_makeForm_77_L a4) z = some w9) (hk : (Sum.elim (fun z : Int64 × Int32 × mm => Vm mX2_makeForm 2 62 [(0, .inr (.inr (2, 0))), (2, .inr (.inl z.1)), (4, .inl z.2.1)] [] (z.2.2, τ) r M') (fun q : Int32 × mm => r = some (.inl q.1) ∧ M' = (q.2, τ))) w9) : Vm mX2_makeForm 2 77 [(0, .inr (.inr (2, 0))), (2, .inr (.inl z.1)), (4, .inl a4), (5, .inl z.2.1)] [] (z.2.2, τ) r M' :=
  lp_link (S := Int64 × Int32 × mm) (R := (Int64 × Int32 × mm) ⊕ (Int32 × mm)) (body := fX2_makeForm_77_L a4) (A := fun z : Int64 × Int32 × mm => Vm mX2_makeForm 2 77 [(0, .inr (.inr (2, 0))), (2, .inr (.inl z.1)), (4, .inl a4), (5, .inl z.2.1)] [] (z.2.2, τ) r M') (B := fun w : (Int64 × Int32 × mm) ⊕ (Int32 × mm) => (Sum.elim (fun z : Int64 × Int32 × mm => Vm mX2_makeForm 2 62 [(0, .inr (.inr (2, 0))), (2, .inr (.inl z.1)), (4, .inl z.2.1)] [] (z.2.2, τ) r M') (fun q : Int32 × mm => r = some (.inl q.1) ∧ M' = (q.2, τ))) w) (fun z v hb hv => lX2_makeForm_77 z.1 a4 z.2.1 z.2.2 τ hb hv) z w9 h hk
set_option maxRecDepth 20000 in
theorem lX2_makeForm_62 (a2 : Int64) (a4 : Int32) (σ τ : mm) {r : Option mv} {M' : mm × mm} {v9 : (Int64 × Int32 × mm) ⊕ (Int32 × mm)} (h : fX2_makeForm_62 a2 a4 σ = some v9) (hk : (Sum.elim (fun z : Int64 × Int32 × mm => Vm mX2_makeForm 2 62 [(0, .inr (.inr (2, 0))), (2, .inr (.inl z.1)), (4, .inl z.2.1)] [] (z.2.2, τ) r M') (fun q : Int32 × mm => r = some (.inl q.1) ∧ M' = (q.2, τ))) v9) : Vm mX2_makeForm 2 62 [(0, .inr (.inr (2, 0))), (2, .inr (.inl a2)), (4, .inl a4)] [] (σ, τ) r M' := by
  unfold fX2_makeForm_62 at h
  refine Vm.iload (n := 64) 2 dX2_makeForm_62 rfl rfl ?_
  refine Vm.aload_n (n := 65) 0 dX2_makeForm_64 rfl rfl ?_
  refine Vm.gX (n := 68) dX2_makeForm_65 rfl wf_RX2_24 in_2 rfl (by decide) rfl (by decide) ?_
  refine Vm.icmp_ge (n := 71) 160 dX2_makeForm_68 rfl rfl (fun c9 => ?_) (fun c9 => ?_)
  · replace h := (if_pos c9).symm.trans h
    refine Vm.aload_n (n := 161) 0 dX2_makeForm_160 rfl rfl ?_
    replace h := Option.bind_eq_some_iff.mp h
    obtain ⟨q1, h1, h⟩ := h
    refine Vm.callVv (Y := mX2_lowerAbove) (n := 164) [] dX2_makeForm_161 rfl wv_RX2_54 omX2_lowerAbove rfl in_2 rfl rfl rfl (Nat.le_of_ble_eq_true rfl) (by decide) (kX2_lowerAbove σ τ h1) ?_
    refine Vm.lload_n (n := 165) 1 dX2_makeForm_164 rfl rfl ?_
    refine Vm.l2i (n := 166) dX2_makeForm_165 rfl ?_
    obtain rfl := Option.some.inj h
    exact Vm.iret dX2_makeForm_166 rfl hk.1 hk.2.symm
  · replace h := (if_neg c9).symm.trans h
    refine Vm.iload (n := 73) 2 dX2_makeForm_71 rfl rfl ?_
    refine Vm.iconst (n := 74) (v := (1 : Int32)) dX2_makeForm_73 rfl (by decide) ?_
    refine Vm.iadd (n := 75) dX2_makeForm_74 rfl ?_
    replace h := Option.bind_eq_some_iff.mp h
    obtain ⟨x2, e2, h⟩ := h
    replace e2 := Option.some.inj e2
    refine Vm.top e2 ?_
    refine Vm.istore (n := 77) (lv' := [(5, .inl x2), (0, .inr (.inr (2, 0))), (2, .inr (.inl a2)), (4, .inl a4)]) dX2_makeForm_75 rfl (Nat.le_of_ble_eq_true rfl) rfl ?_
    refine Vm.sub (lv' := [(0, .inr (.inr (2, 0))), (2, .inr (.inl a2)), (4, .inl a4), (5, .inl x2)]) [1, 2, 3, 0] rfl ?_
    exact lX2_makeForm_77_L a4 τ (a2, x2, σ) _ h hk
theorem lX2_makeForm_62_L (τ : mm) {r : Option mv} {M' : mm × mm} (z : Int64 × Int32 × mm) (w9 : Int32 × mm) (h : lp (fX2_makeForm_62_L) z = some w9) (hk : (fun q : Int32 × mm => r = some (.inl q.1) ∧ M' = (q.2, τ)) w9) : Vm mX2_makeForm 2 62 [(0, .inr (.inr (2, 0))), (2, .inr (.inl z.1)), (4, .inl z.2.1)] [] (z.2.2, τ) r M' :=
  lp_link (S := Int64 × Int32 × mm) (R := Int32 × mm) (body := fX2_makeForm_62_L) (A := fun z : Int64 × Int32 × mm => Vm mX2_makeForm 2 62 [(0, .inr (.inr (2, 0))), (2, .inr (.inl z.1)), (4, .inl z.2.1)] [] (z.2.2, τ) r M') (B := fun w : Int32 × mm => (fun q : Int32 × mm => r = some (.inl q.1) ∧ M' = (q.2, τ)) w) (fun z v hb hv => lX2_makeForm_62 z.1 z.2.1 z.2.2 τ hb hv) z w9 h hk
set_option maxRecDepth 20000 in
theorem lX2_makeForm_20 (a1 : Nat) (ha1 : a1 < 3) (a2 : Int32) (a3 : Int32) (σ τ : mm) {r : Option mv} {M' : mm × mm} {v9 : (Int32 × mm) ⊕ ((Int32 × mm) ⊕ (Int32 × mm))} (h : fX2_makeForm_20 a1 a2 a3 σ = some v9) (hk : (Sum.elim (fun z : Int32 × mm => Vm mX2_makeForm 2 20 [(0, .inr (.inr (2, 0))), (1, .inr (.inr (0, a1))), (2, .inl a2), (3, .inl z.1)] [] (z.2, τ) r M') (Sum.elim (fun z : Int32 × mm => Vm mX2_makeForm 2 10 [(0, .inr (.inr (2, 0))), (1, .inr (.inr (0, a1))), (2, .inl z.1)] [] (z.2, τ) r M') (fun q : Int32 × mm => r = some (.inl q.1) ∧ M' = (q.2, τ)))) v9) : Vm mX2_makeForm 2 20 [(0, .inr (.inr (2, 0))), (1, .inr (.inr (0, a1))), (2, .inl a2), (3, .inl a3)] [] (σ, τ) r M' := by
  unfold fX2_makeForm_20 at h
  refine Vm.iload_n (n := 21) 3 dX2_makeForm_20 rfl rfl ?_
  refine Vm.aload_n (n := 22) 0 dX2_makeForm_21 rfl rfl ?_
  refine Vm.gX (n := 25) dX2_makeForm_22 rfl wf_RX2_24 in_2 rfl (by decide) rfl (by decide) ?_
  refine Vm.icmp_ge (n := 28) 51 dX2_makeForm_25 rfl rfl (fun c9 => ?_) (fun c9 => ?_)
  · replace h := (if_pos c9).symm.trans h
    replace h := Option.bind_eq_some_iff.mp h
    obtain ⟨x1, e1, h⟩ := h
    replace e1 := Option.some.inj e1
    refine Vm.iinc (n := 54) (v := x1) (lv' := [(2, .inl x1), (0, .inr (.inr (2, 0))), (1, .inr (.inr (0, a1))), (3, .inl a3)]) 2 dX2_makeForm_51 rfl rfl e1 (Nat.le_of_ble_eq_true rfl) rfl ?_
    refine Vm.goto 10 dX2_makeForm_54 rfl ?_
    refine Vm.sub (lv' := [(0, .inr (.inr (2, 0))), (1, .inr (.inr (0, a1))), (2, .inl x1)]) [1, 2, 0] rfl ?_
    obtain rfl := Option.some.inj h
    exact hk
  · replace h := (if_neg c9).symm.trans h
    refine Vm.aload_n (n := 29) 0 dX2_makeForm_28 rfl rfl ?_
    refine Vm.getR (n := 32) dX2_makeForm_29 rfl wf_RX2_11 in_2 rfl (by decide) rfl ?_
    refine Vm.iload_n (n := 33) 2 dX2_makeForm_32 rfl rfl ?_
    replace h := Option.bind_eq_some_iff.mp h
    obtain ⟨k2, h2, h⟩ := h
    refine Vm.aald (n := 34) dX2_makeForm_33 rfl in_29 rfl rfl (by decide) (fun _ => rfl) rfl h2 ?_
    have g2 := rdR_lt h2
    refine Vm.iload_n (n := 35) 3 dX2_makeForm_34 rfl rfl ?_
    refine Vm.aload_n (n := 36) 1 dX2_makeForm_35 rfl rfl ?_
    refine Vm.getR (n := 39) dX2_makeForm_36 rfl wf_RX2_40 (ink ik_0 (by omega)) rfl (by decide) rfl ?_
    refine Vm.iload_n (n := 40) 2 dX2_makeForm_39 rfl rfl ?_
    replace h := Option.bind_eq_some_iff.mp h
    obtain ⟨k3, h3, h⟩ := h
    refine Vm.aald (n := 41) dX2_makeForm_40 rfl (ink ik_28 (by omega)) rfl rfl (by decide) (fun _ => rfl) rfl h3 ?_
    have g3 := rdR_lt h3
    refine Vm.iload_n (n := 42) 3 dX2_makeForm_41 rfl rfl ?_
    replace h := Option.bind_eq_some_iff.mp h
    obtain ⟨x4, h4, h⟩ := h
    refine Vm.ialdx (n := 43) dX2_makeForm_42 rfl (ink ik_11 (by omega)) rfl rfl (by decide) h4 ?_
    refine Vm.i2l (n := 44) dX2_makeForm_43 rfl ?_
    replace h := Option.bind_eq_some_iff.mp h
    obtain ⟨σ5, h5, h⟩ := h
    refine Vm.lastx (n := 45) dX2_makeForm_44 rfl (ink ik_23 (by omega)) rfl rfl (by decide) h5 ?_
    replace h := Option.bind_eq_some_iff.mp h
    obtain ⟨x6, e6, h⟩ := h
    replace e6 := Option.some.inj e6
    refine Vm.iinc (n := 48) (v := x6) (lv' := [(3, .inl x6), (0, .inr (.inr (2, 0))), (1, .inr (.inr (0, a1))), (2, .inl a2)]) 3 dX2_makeForm_45 rfl rfl e6 (Nat.le_of_ble_eq_true rfl) rfl ?_
    refine Vm.goto 20 dX2_makeForm_48 rfl ?_
    refine Vm.sub (lv' := [(0, .inr (.inr (2, 0))), (1, .inr (.inr (0, a1))), (2, .inl a2), (3, .inl x6)]) [1, 2, 3, 0] rfl ?_
    obtain rfl := Option.some.inj h
    exact hk
theorem lX2_makeForm_20_L (a1 : Nat) (ha1 : a1 < 3) (a2 : Int32) (τ : mm) {r : Option mv} {M' : mm × mm} (z : Int32 × mm) (w9 : (Int32 × mm) ⊕ (Int32 × mm)) (h : lp (fX2_makeForm_20_L a1 a2) z = some w9) (hk : (Sum.elim (fun z : Int32 × mm => Vm mX2_makeForm 2 10 [(0, .inr (.inr (2, 0))), (1, .inr (.inr (0, a1))), (2, .inl z.1)] [] (z.2, τ) r M') (fun q : Int32 × mm => r = some (.inl q.1) ∧ M' = (q.2, τ))) w9) : Vm mX2_makeForm 2 20 [(0, .inr (.inr (2, 0))), (1, .inr (.inr (0, a1))), (2, .inl a2), (3, .inl z.1)] [] (z.2, τ) r M' :=
  lp_link (S := Int32 × mm) (R := (Int32 × mm) ⊕ (Int32 × mm)) (body := fX2_makeForm_20_L a1 a2) (A := fun z : Int32 × mm => Vm mX2_makeForm 2 20 [(0, .inr (.inr (2, 0))), (1, .inr (.inr (0, a1))), (2, .inl a2), (3, .inl z.1)] [] (z.2, τ) r M') (B := fun w : (Int32 × mm) ⊕ (Int32 × mm) => (Sum.elim (fun z : Int32 × mm => Vm mX2_makeForm 2 10 [(0, .inr (.inr (2, 0))), (1, .inr (.inr (0, a1))), (2, .inl z.1)] [] (z.2, τ) r M') (fun q : Int32 × mm => r = some (.inl q.1) ∧ M' = (q.2, τ))) w) (fun z v hb hv => lX2_makeForm_20 a1 ha1 a2 z.1 z.2 τ hb hv) z w9 h hk
set_option maxRecDepth 20000 in
theorem lX2_makeForm_10 (a1 : Nat) (ha1 : a1 < 3) (a2 : Int32) (σ τ : mm) {r : Option mv} {M' : mm × mm} {v9 : (Int32 × mm) ⊕ (Int32 × mm)} (h : fX2_makeForm_10 a1 a2 σ = some v9) (hk : (Sum.elim (fun z : Int32 × mm => Vm mX2_makeForm 2 10 [(0, .inr (.inr (2, 0))), (1, .inr (.inr (0, a1))), (2, .inl z.1)] [] (z.2, τ) r M') (fun q : Int32 × mm => r = some (.inl q.1) ∧ M' = (q.2, τ))) v9) : Vm mX2_makeForm 2 10 [(0, .inr (.inr (2, 0))), (1, .inr (.inr (0, a1))), (2, .inl a2)] [] (σ, τ) r M' := by
  unfold fX2_makeForm_10 at h
  refine Vm.iload_n (n := 11) 2 dX2_makeForm_10 rfl rfl ?_
  refine Vm.aload_n (n := 12) 0 dX2_makeForm_11 rfl rfl ?_
  refine Vm.gX (n := 15) dX2_makeForm_12 rfl wf_RX2_24 in_2 rfl (by decide) rfl (by decide) ?_
  refine Vm.icmp_ge (n := 18) 57 dX2_makeForm_15 rfl rfl (fun c9 => ?_) (fun c9 => ?_)
  · replace h := (if_pos c9).symm.trans h
    refine Vm.lconst (n := 58) (v := (1 : Int64)) dX2_makeForm_57 rfl (by decide) ?_
    refine Vm.lstore_n (n := 59) (lv' := [(2, .inr (.inl (1 : Int64))), (0, .inr (.inr (2, 0))), (1, .inr (.inr (0, a1)))]) dX2_makeForm_58 rfl (Nat.le_of_ble_eq_true rfl) rfl ?_
    refine Vm.iconst (n := 60) (v := (0 : Int32)) dX2_makeForm_59 rfl (by decide) ?_
    refine Vm.istore (n := 62) (lv' := [(4, .inl (0 : Int32)), (2, .inr (.inl (1 : Int64))), (0, .inr (.inr (2, 0))), (1, .inr (.inr (0, a1)))]) dX2_makeForm_60 rfl (Nat.le_of_ble_eq_true rfl) rfl ?_
    refine Vm.sub (lv' := [(0, .inr (.inr (2, 0))), (2, .inr (.inl (1 : Int64))), (4, .inl (0 : Int32))]) [2, 1, 0] rfl ?_
    replace h := Option.map_eq_some_iff.mp h
    obtain ⟨w9, h, e8⟩ := h
    subst e8
    exact lX2_makeForm_62_L τ ((1 : Int64), (0 : Int32), σ) _ h hk
  · replace h := (if_neg c9).symm.trans h
    refine Vm.iconst (n := 19) (v := (0 : Int32)) dX2_makeForm_18 rfl (by decide) ?_
    refine Vm.istore_n (n := 20) (lv' := [(3, .inl (0 : Int32)), (0, .inr (.inr (2, 0))), (1, .inr (.inr (0, a1))), (2, .inl a2)]) dX2_makeForm_19 rfl (Nat.le_of_ble_eq_true rfl) rfl ?_
    refine Vm.sub (lv' := [(0, .inr (.inr (2, 0))), (1, .inr (.inr (0, a1))), (2, .inl a2), (3, .inl (0 : Int32))]) [1, 2, 3, 0] rfl ?_
    exact lX2_makeForm_20_L a1 (by omega) a2 τ ((0 : Int32), σ) _ h hk
theorem lX2_makeForm_10_L (a1 : Nat) (ha1 : a1 < 3) (τ : mm) {r : Option mv} {M' : mm × mm} (z : Int32 × mm) (w9 : Int32 × mm) (h : lp (fX2_makeForm_10_L a1) z = some w9) (hk : (fun q : Int32 × mm => r = some (.inl q.1) ∧ M' = (q.2, τ)) w9) : Vm mX2_makeForm 2 10 [(0, .inr (.inr (2, 0))), (1, .inr (.inr (0, a1))), (2, .inl z.1)] [] (z.2, τ) r M' :=
  lp_link (S := Int32 × mm) (R := Int32 × mm) (body := fX2_makeForm_10_L a1) (A := fun z : Int32 × mm => Vm mX2_makeForm 2 10 [(0, .inr (.inr (2, 0))), (1, .inr (.inr (0, a1))), (2, .inl z.1)] [] (z.2, τ) r M') (B := fun w : Int32 × mm => (fun q : Int32 × mm => r = some (.inl q.1) ∧ M' = (q.2, τ)) w) (fun z v hb hv => lX2_makeForm_10 a1 ha1 z.1 z.2 τ hb hv) z w9 h hk
set_option maxRecDepth 20000 in
theorem lX2_makeForm_0 (a1 : Nat) (ha1 : a1 < 3) (σ τ : mm) {r : Option mv} {M' : mm × mm} {v9 : Int32 × mm} (h : fX2_makeForm_0 a1 σ = some v9) (hk : (fun q : Int32 × mm => r = some (.inl q.1) ∧ M' = (q.2, τ)) v9) : Vm mX2_makeForm 2 0 [(0, .inr (.inr (2, 0))), (1, .inr (.inr (0, a1)))] [] (σ, τ) r M' := by
  unfold fX2_makeForm_0 at h
  refine Vm.aload_n (n := 1) 0 dX2_makeForm_0 rfl rfl ?_
  refine Vm.aload_n (n := 2) 1 dX2_makeForm_1 rfl rfl ?_
  refine Vm.gX (n := 5) dX2_makeForm_2 rfl wf_RX2_37 (ink ik_0 (by omega)) rfl (by decide) rfl (by decide) ?_
  replace h := Option.bind_eq_some_iff.mp h
  obtain ⟨x1, e1, h⟩ := h
  replace e1 := Option.some.inj e1
  refine Vm.top e1 ?_
  refine Vm.pX (n := 8) (ty := .int) dX2_makeForm_5 rfl wf_RX2_24 in_2 rfl (by decide) rfl (by decide) rfl rfl rfl rfl ?_
  replace h := Option.bind_eq_some_iff.mp h
  obtain ⟨σ2, e2, h⟩ := h
  replace e2 := Option.some.inj e2
  refine Vm.mem (congrArg (fun z => (z, τ)) e2) ?_
  refine Vm.iconst (n := 9) (v := (0 : Int32)) dX2_makeForm_8 rfl (by decide) ?_
  refine Vm.istore_n (n := 10) (lv' := [(2, .inl (0 : Int32)), (0, .inr (.inr (2, 0))), (1, .inr (.inr (0, a1)))]) dX2_makeForm_9 rfl (Nat.le_of_ble_eq_true rfl) rfl ?_
  refine Vm.sub (lv' := [(0, .inr (.inr (2, 0))), (1, .inr (.inr (0, a1))), (2, .inl (0 : Int32))]) [1, 2, 0] rfl ?_
  exact lX2_makeForm_10_L a1 (by omega) τ ((0 : Int32), σ2) _ h hk
theorem kX2_makeForm (a1 : Nat) (ha1 : a1 < 3) (σ τ : mm) {q : Int32 × mm} (h : fX2_makeForm a1 σ = some q) : Cx mX2_makeForm 2 [.inr (.inr (2, 0)), .inr (.inr (0, a1))] (σ, τ) (some (.inl q.1)) (q.2, τ) :=
  Cx.of (lv := [(0, .inr (.inr (2, 0))), (1, .inr (.inr (0, a1)))]) (by decide) (fun ad => Nat.le_of_ble_eq_true rfl) (fun ad => rfl) (lX2_makeForm_0 a1 ha1 σ τ h ⟨rfl, rfl⟩)
-- ThinBodies det ()I
noncomputable def fX7_det_0 (σ : mm) : Option (Int32 × mm) :=
  Option.bind (fX2_makeForm 0 σ) fun q1 =>
  some ((q1.1, q1.2))
noncomputable def fX7_det (σ : mm) : Option (Int32 × mm) := fX7_det_0 σ
set_option maxRecDepth 20000 in
theorem lX7_det_0 (σ τ : mm) {r : Option mv} {M' : mm × mm} {v9 : Int32 × mm} (h : fX7_det_0 σ = some v9) (hk : (fun q : Int32 × mm => r = some (.inl q.1) ∧ M' = (q.2, τ)) v9) : Vm mX7_det 3 0 [(0, .inr (.inr (7, 0)))] [] (σ, τ) r M' := by
  unfold fX7_det_0 at h
  refine Vm.aload_n (n := 1) 0 dX7_det_0 rfl rfl ?_
  refine Vm.getR (n := 4) dX7_det_1 rfl wf_RX7_43 in_7 rfl (by decide) rfl ?_
  refine Vm.aload_n (n := 5) 0 dX7_det_4 rfl rfl ?_
  refine Vm.getR (n := 8) dX7_det_5 rfl wf_RX7_12 in_7 rfl (by decide) rfl ?_
  replace h := Option.bind_eq_some_iff.mp h
  obtain ⟨q1, h1, h⟩ := h
  refine Vm.callV (Y := mX2_makeForm) (n := 11) [.inr (.inr (0, 0))] dX7_det_8 rfl wv_RX7_297 omX2_makeForm rfl in_2 rfl rfl rfl (Nat.le_of_ble_eq_true rfl) (by decide) (kX2_makeForm 0 (by decide) σ τ h1) ?_
  obtain rfl := Option.some.inj h
  exact Vm.iret dX7_det_11 rfl hk.1 hk.2.symm
theorem kX7_det (σ τ : mm) {q : Int32 × mm} (h : fX7_det σ = some q) : Cx mX7_det 3 [.inr (.inr (7, 0))] (σ, τ) (some (.inl q.1)) (q.2, τ) :=
  Cx.of (lv := [(0, .inr (.inr (7, 0)))]) (by decide) (fun ad => Nat.le_of_ble_eq_true rfl) (fun ad => rfl) (lX7_det_0 σ τ h ⟨rfl, rfl⟩)
-- ThinBodies form (II)I
noncomputable def fX7_form_22 (σ : mm) : Option (Int32 × mm) :=
  Option.bind (fX7_finding (0 : Int32) σ) fun q1 =>
  some ((q1.1, q1.2))
noncomputable def fX7_form_0 (a1 : Int32) (a2 : Int32) (σ : mm) : Option (Int32 × mm) :=
  if (bi (fX0_hasLetter 0 a1 σ)) = (0 : Int32) then
  fX7_form_22 σ
  else
  if (bi (fX0_hasLetter 0 a2 σ)) = (0 : Int32) then
  fX7_form_22 σ
  else
  Option.bind (fX2_makeForm 0 σ) fun q1 =>
  if q1.1 = (0 : Int32) then
  Option.bind (fX7_finding (3 : Int32) q1.2) fun q4 =>
  some ((q4.1, q4.2))
  else
  Option.bind (rdR 4 a1) fun k2 =>
  Option.bind (rdL q1.2 23 k2 4 a2) fun x3 =>
  some ((x3.toInt32, q1.2))
noncomputable def fX7_form (a1 : Int32) (a2 : Int32) (σ : mm) : Option (Int32 × mm) := fX7_form_0 a1 a2 σ
set_option maxRecDepth 20000 in
theorem lX7_form_22 (σ τ : mm) {r : Option mv} {M' : mm × mm} {v9 : Int32 × mm} (h : fX7_form_22 σ = some v9) (hk : (fun q : Int32 × mm => r = some (.inl q.1) ∧ M' = (q.2, τ)) v9) : Vm mX7_form 3 22 [(0, .inr (.inr (7, 0)))] [] (σ, τ) r M' := by
  unfold fX7_form_22 at h
  refine Vm.aload_n (n := 23) 0 dX7_form_22 rfl rfl ?_
  refine Vm.iconst (n := 24) (v := (0 : Int32)) dX7_form_23 rfl (by decide) ?_
  replace h := Option.bind_eq_some_iff.mp h
  obtain ⟨q1, h1, h⟩ := h
  refine Vm.callV (Y := mX7_finding) (n := 27) [.inl (0 : Int32)] dX7_form_24 rfl wv_RX7_68 omX7_finding rfl in_7 rfl rfl rfl (Nat.le_of_ble_eq_true rfl) (by decide) (kX7_finding (0 : Int32) σ τ h1) ?_
  obtain rfl := Option.some.inj h
  exact Vm.iret dX7_form_27 rfl hk.1 hk.2.symm
set_option maxRecDepth 20000 in
theorem lX7_form_0 (a1 : Int32) (a2 : Int32) (σ τ : mm) {r : Option mv} {M' : mm × mm} {v9 : Int32 × mm} (h : fX7_form_0 a1 a2 σ = some v9) (hk : (fun q : Int32 × mm => r = some (.inl q.1) ∧ M' = (q.2, τ)) v9) : Vm mX7_form 3 0 [(0, .inr (.inr (7, 0))), (1, .inl a1), (2, .inl a2)] [] (σ, τ) r M' := by
  unfold fX7_form_0 at h
  refine Vm.aload_n (n := 1) 0 dX7_form_0 rfl rfl ?_
  refine Vm.getR (n := 4) dX7_form_1 rfl wf_RX7_12 in_7 rfl (by decide) rfl ?_
  refine Vm.iload_n (n := 5) 1 dX7_form_4 rfl rfl ?_
  refine Vm.callV (Y := mX0_hasLetter) (n := 8) [.inl a1] dX7_form_5 rfl wv_RX7_86 omX0_hasLetter rfl (ink ik_0 (by decide)) rfl rfl rfl (Nat.le_of_ble_eq_true rfl) (by decide) (kX0_hasLetter 0 (by decide) a1 σ τ rfl) ?_
  refine Vm.if_eq (n := 11) 22 dX7_form_8 rfl rfl (fun c9 => ?_) (fun c9 => ?_)
  · replace h := (if_pos c9).symm.trans h
    refine Vm.sub (lv' := [(0, .inr (.inr (7, 0)))]) [0] rfl ?_
    exact lX7_form_22 σ τ h hk
  · replace h := (if_neg c9).symm.trans h
    refine Vm.aload_n (n := 12) 0 dX7_form_11 rfl rfl ?_
    refine Vm.getR (n := 15) dX7_form_12 rfl wf_RX7_12 in_7 rfl (by decide) rfl ?_
    refine Vm.iload_n (n := 16) 2 dX7_form_15 rfl rfl ?_
    refine Vm.callV (Y := mX0_hasLetter) (n := 19) [.inl a2] dX7_form_16 rfl wv_RX7_86 omX0_hasLetter rfl (ink ik_0 (by decide)) rfl rfl rfl (Nat.le_of_ble_eq_true rfl) (by decide) (kX0_hasLetter 0 (by decide) a2 σ τ rfl) ?_
    refine Vm.if_ne (n := 22) 28 dX7_form_19 rfl rfl (fun c9 => ?_) (fun c9 => ?_)
    · replace h := (if_neg c9).symm.trans h
      refine Vm.aload_n (n := 29) 0 dX7_form_28 rfl rfl ?_
      refine Vm.getR (n := 32) dX7_form_29 rfl wf_RX7_43 in_7 rfl (by decide) rfl ?_
      refine Vm.aload_n (n := 33) 0 dX7_form_32 rfl rfl ?_
      refine Vm.getR (n := 36) dX7_form_33 rfl wf_RX7_12 in_7 rfl (by decide) rfl ?_
      replace h := Option.bind_eq_some_iff.mp h
      obtain ⟨q1, h1, h⟩ := h
      refine Vm.callV (Y := mX2_makeForm) (n := 39) [.inr (.inr (0, 0))] dX7_form_36 rfl wv_RX7_297 omX2_makeForm rfl in_2 rfl rfl rfl (Nat.le_of_ble_eq_true rfl) (by decide) (kX2_makeForm 0 (by decide) σ τ h1) ?_
      refine Vm.if_ne (n := 42) 48 dX7_form_39 rfl rfl (fun c9 => ?_) (fun c9 => ?_)
      · replace h := (if_neg c9).symm.trans h
        refine Vm.aload_n (n := 49) 0 dX7_form_48 rfl rfl ?_
        refine Vm.getR (n := 52) dX7_form_49 rfl wf_RX7_43 in_7 rfl (by decide) rfl ?_
        refine Vm.getR (n := 55) dX7_form_52 rfl wf_RX7_301 in_2 rfl (by decide) rfl ?_
        refine Vm.iload_n (n := 56) 1 dX7_form_55 rfl rfl ?_
        replace h := Option.bind_eq_some_iff.mp h
        obtain ⟨k2, h2, h⟩ := h
        refine Vm.aald (n := 57) dX7_form_56 rfl in_29 rfl rfl (by decide) (fun _ => rfl) rfl h2 ?_
        have g2 := rdR_lt h2
        refine Vm.iload_n (n := 58) 2 dX7_form_57 rfl rfl ?_
        replace h := Option.bind_eq_some_iff.mp h
        obtain ⟨x3, h3, h⟩ := h
        refine Vm.laldx (n := 59) dX7_form_58 rfl (ink ik_23 (by omega)) rfl rfl (by decide) h3 ?_
        refine Vm.l2i (n := 60) dX7_form_59 rfl ?_
        obtain rfl := Option.some.inj h
        exact Vm.iret dX7_form_60 rfl hk.1 hk.2.symm
      · replace h := (if_pos c9).symm.trans h
        refine Vm.aload_n (n := 43) 0 dX7_form_42 rfl rfl ?_
        refine Vm.iconst (n := 44) (v := (3 : Int32)) dX7_form_43 rfl (by decide) ?_
        replace h := Option.bind_eq_some_iff.mp h
        obtain ⟨q4, h4, h⟩ := h
        refine Vm.callV (Y := mX7_finding) (n := 47) [.inl (3 : Int32)] dX7_form_44 rfl wv_RX7_68 omX7_finding rfl in_7 rfl rfl rfl (Nat.le_of_ble_eq_true rfl) (by decide) (kX7_finding (3 : Int32) q1.2 τ h4) ?_
        obtain rfl := Option.some.inj h
        exact Vm.iret dX7_form_47 rfl hk.1 hk.2.symm
    · replace h := (if_pos c9).symm.trans h
      refine Vm.sub (lv' := [(0, .inr (.inr (7, 0)))]) [0] rfl ?_
      exact lX7_form_22 σ τ h hk
theorem kX7_form (a1 : Int32) (a2 : Int32) (σ τ : mm) {q : Int32 × mm} (h : fX7_form a1 a2 σ = some q) : Cx mX7_form 3 [.inr (.inr (7, 0)), .inl a1, .inl a2] (σ, τ) (some (.inl q.1)) (q.2, τ) :=
  Cx.of (lv := [(0, .inr (.inr (7, 0))), (1, .inl a1), (2, .inl a2)]) (by decide) (fun ad => Nat.le_of_ble_eq_true rfl) (fun ad => rfl) (lX7_form_0 a1 a2 σ τ h ⟨rfl, rfl⟩)
-- ThinBodies$Lattice tryLetter (II)V
noncomputable def fX2_tryLetter_170 (rc : Int32 → Int32 → mm → Option (mm)) (a1 : Int32) (a2 : Int32) (a3 : Int64) (a5 : Int64) (a7 : Int32) (σ : mm) : Option ((Int32 × mm) ⊕ (mm)) :=
  Option.bind (some (a7 + (-1 : Int32))) fun x1 =>
  some (.inl (x1, σ))
noncomputable def fX2_tryLetter_100 (rc : Int32 → Int32 → mm → Option (mm)) (a1 : Int32) (a2 : Int32) (a3 : Int64) (a5 : Int64) (a7 : Int32) (σ : mm) : Option ((Int32 × mm) ⊕ (mm)) :=
  if a7 < (-8 : Int32) then
  some (.inr (σ))
  else
  if (σ.1 2 0 2) ≤ (a2 + (a7 * a7)) then
  fX2_tryLetter_170 rc a1 a2 a3 a5 a7 σ
  else
  Option.bind (rmL (a7.toInt64 - a5) a3) fun x1 =>
  if (lg_cmp x1 (0 : Int64)) = (0 : Int32) then
  Option.bind (dvL (a7.toInt64 - a5) a3) fun x2 =>
  Option.bind (wrL σ 25 0 4 a1 x2) fun σ3 =>
  Option.bind (wrI σ3 18 0 4 a1 a7) fun σ4 =>
  Option.bind (rc (a1 + (1 : Int32)) (a2 + (a7 * a7)) σ4) fun q5 =>
  fX2_tryLetter_170 rc a1 a2 a3 a5 a7 q5
  else
  fX2_tryLetter_170 rc a1 a2 a3 a5 a7 σ
noncomputable def fX2_tryLetter_100_L (rc : Int32 → Int32 → mm → Option (mm)) (a1 : Int32) (a2 : Int32) (a3 : Int64) (a5 : Int64) : Int32 × mm → Option ((Int32 × mm) ⊕ (mm)) := fun z => fX2_tryLetter_100 rc a1 a2 a3 a5 z.1 z.2
noncomputable def fX2_tryLetter_62 (rc : Int32 → Int32 → mm → Option (mm)) (a1 : Int32) (a2 : Int32) (a3 : Int64) (a5 : Int64) (a7 : Int32) (σ : mm) : Option ((Int64 × Int32) ⊕ (mm)) :=
  if a1 ≤ a7 then
  Option.map Sum.inr (lp (fX2_tryLetter_100_L rc a1 a2 a3 a5) ((8 : Int32), σ))
  else
  Option.bind (rdL σ 25 0 4 a7) fun x1 =>
  Option.bind (rdR 4 a7) fun k2 =>
  Option.bind (rdL σ 23 k2 4 a1) fun x3 =>
  Option.bind (some (a5 + (x1 * x3))) fun x4 =>
  Option.bind (some (a7 + (1 : Int32))) fun x5 =>
  some (.inl (x4, x5))
noncomputable def fX2_tryLetter_62_L (rc : Int32 → Int32 → mm → Option (mm)) (a1 : Int32) (a2 : Int32) (a3 : Int64) (σ : mm) : Int64 × Int32 → Option ((Int64 × Int32) ⊕ (mm)) := fun z => fX2_tryLetter_62 rc a1 a2 a3 z.1 z.2 σ
noncomputable def fX2_tryLetter_0 (rc : Int32 → Int32 → mm → Option (mm)) (a1 : Int32) (a2 : Int32) (σ : mm) : Option (mm) :=
  if a1 < (σ.1 2 0 3) then
  Option.bind (rdR 4 a1) fun k1 =>
  Option.bind (rdL σ 23 k1 4 a1) fun x2 =>
  if (0 : Int32) < (lg_cmp x2 (0 : Int64)) then
  lp (fX2_tryLetter_62_L rc a1 a2 x2 σ) ((0 : Int64), (0 : Int32))
  else
  some (σ)
  else
  if a2 ≤ (0 : Int32) then
  some (σ)
  else
  if (σ.1 2 0 2) ≤ a2 then
  some (σ)
  else
  Option.bind (some (stI σ 2 0 2 a2)) fun σ3 =>
  Option.bind (cpI σ3 18 0 4 17 0 4 (0 : Int32) (0 : Int32) (4 : Int32)) fun σ4 =>
  some (σ4)
noncomputable def fX2_tryLetter : Nat → Int32 → Int32 → mm → Option (mm)
  | 0, _, _, _ => none
  | m9 + 1, a1, a2, σ => fX2_tryLetter_0 (fX2_tryLetter m9) a1 a2 σ
set_option maxRecDepth 20000 in
theorem lX2_tryLetter_170 (m9 : Nat) (rc : Int32 → Int32 → mm → Option (mm)) (hrc : ∀ (b1 : Int32) (b2 : Int32) (σ9 τ : mm) (q9 : mm), rc b1 b2 σ9 = some q9 → Cx mX2_tryLetter (1 + m9) [.inr (.inr (2, 0)), .inl b1, .inl b2] (σ9, τ) (none) (q9, τ)) (a1 : Int32) (a2 : Int32) (a3 : Int64) (a5 : Int64) (a7 : Int32) (σ τ : mm) {r : Option mv} {M' : mm × mm} {v9 : (Int32 × mm) ⊕ (mm)} (h : fX2_tryLetter_170 rc a1 a2 a3 a5 a7 σ = some v9) (hk : (Sum.elim (fun z : Int32 × mm => Vm mX2_tryLetter (1 + (m9 + 1)) 100 [(0, .inr (.inr (2, 0))), (1, .inl a1), (2, .inl a2), (3, .inr (.inl a3)), (5, .inr (.inl a5)), (7, .inl z.1)] [] (z.2, τ) r M') (fun q : mm => r = none ∧ M' = (q, τ))) v9) : Vm mX2_tryLetter (1 + (m9 + 1)) 170 [(0, .inr (.inr (2, 0))), (1, .inl a1), (2, .inl a2), (3, .inr (.inl a3)), (5, .inr (.inl a5)), (7, .inl a7)] [] (σ, τ) r M' := by
  unfold fX2_tryLetter_170 at h
  replace h := Option.bind_eq_some_iff.mp h
  obtain ⟨x1, e1, h⟩ := h
  replace e1 := Option.some.inj e1
  refine Vm.iinc (n := 173) (v := x1) (lv' := [(7, .inl x1), (0, .inr (.inr (2, 0))), (1, .inl a1), (2, .inl a2), (3, .inr (.inl a3)), (5, .inr (.inl a5))]) 5 dX2_tryLetter_170 rfl rfl e1 (Nat.le_of_ble_eq_true rfl) rfl ?_
  refine Vm.goto 100 dX2_tryLetter_173 rfl ?_
  refine Vm.sub (lv' := [(0, .inr (.inr (2, 0))), (1, .inl a1), (2, .inl a2), (3, .inr (.inl a3)), (5, .inr (.inl a5)), (7, .inl x1)]) [1, 2, 3, 4, 5, 0] rfl ?_
  obtain rfl := Option.some.inj h
  exact hk
set_option maxRecDepth 20000 in
theorem lX2_tryLetter_100 (m9 : Nat) (rc : Int32 → Int32 → mm → Option (mm)) (hrc : ∀ (b1 : Int32) (b2 : Int32) (σ9 τ : mm) (q9 : mm), rc b1 b2 σ9 = some q9 → Cx mX2_tryLetter (1 + m9) [.inr (.inr (2, 0)), .inl b1, .inl b2] (σ9, τ) (none) (q9, τ)) (a1 : Int32) (a2 : Int32) (a3 : Int64) (a5 : Int64) (a7 : Int32) (σ τ : mm) {r : Option mv} {M' : mm × mm} {v9 : (Int32 × mm) ⊕ (mm)} (h : fX2_tryLetter_100 rc a1 a2 a3 a5 a7 σ = some v9) (hk : (Sum.elim (fun z : Int32 × mm => Vm mX2_tryLetter (1 + (m9 + 1)) 100 [(0, .inr (.inr (2, 0))), (1, .inl a1), (2, .inl a2), (3, .inr (.inl a3)), (5, .inr (.inl a5)), (7, .inl z.1)] [] (z.2, τ) r M') (fun q : mm => r = none ∧ M' = (q, τ))) v9) : Vm mX2_tryLetter (1 + (m9 + 1)) 100 [(0, .inr (.inr (2, 0))), (1, .inl a1), (2, .inl a2), (3, .inr (.inl a3)), (5, .inr (.inl a5)), (7, .inl a7)] [] (σ, τ) r M' := by
  unfold fX2_tryLetter_100 at h
  refine Vm.iload (n := 102) 5 dX2_tryLetter_100 rfl rfl ?_
  refine Vm.bipush (n := 104) (v := (-8 : Int32)) dX2_tryLetter_102 rfl (by decide) ?_
  refine Vm.icmp_lt (n := 107) 176 dX2_tryLetter_104 rfl rfl (fun c9 => ?_) (fun c9 => ?_)
  · replace h := (if_pos c9).symm.trans h
    obtain rfl := Option.some.inj h
    exact Vm.vret dX2_tryLetter_176 rfl hk.1 hk.2.symm
  · replace h := (if_neg c9).symm.trans h
    refine Vm.iload_n (n := 108) 2 dX2_tryLetter_107 rfl rfl ?_
    refine Vm.iload (n := 110) 5 dX2_tryLetter_108 rfl rfl ?_
    refine Vm.iload (n := 112) 5 dX2_tryLetter_110 rfl rfl ?_
    refine Vm.imul (n := 113) dX2_tryLetter_112 rfl ?_
    refine Vm.iadd (n := 114) dX2_tryLetter_113 rfl ?_
    refine Vm.aload_n (n := 115) 0 dX2_tryLetter_114 rfl rfl ?_
    refine Vm.gX (n := 118) dX2_tryLetter_115 rfl wf_RX2_20 in_2 rfl (by decide) rfl (by decide) ?_
    refine Vm.icmp_ge (n := 121) 170 dX2_tryLetter_118 rfl rfl (fun c9 => ?_) (fun c9 => ?_)
    · replace h := (if_pos c9).symm.trans h
      exact lX2_tryLetter_170 m9 rc hrc a1 a2 a3 a5 a7 σ τ h hk
    · replace h := (if_neg c9).symm.trans h
      refine Vm.iload (n := 123) 5 dX2_tryLetter_121 rfl rfl ?_
      refine Vm.i2l (n := 124) dX2_tryLetter_123 rfl ?_
      refine Vm.lload (n := 126) 4 dX2_tryLetter_124 rfl rfl ?_
      refine Vm.lsub (n := 127) dX2_tryLetter_126 rfl ?_
      refine Vm.lload_n (n := 128) 3 dX2_tryLetter_127 rfl rfl ?_
      replace h := Option.bind_eq_some_iff.mp h
      obtain ⟨x1, h1, h⟩ := h
      refine Vm.lrem (n := 129) dX2_tryLetter_128 rfl h1 ?_
      refine Vm.lconst (n := 130) (v := (0 : Int64)) dX2_tryLetter_129 rfl (by decide) ?_
      refine Vm.lcmp (n := 131) dX2_tryLetter_130 rfl ?_
      refine Vm.if_ne (n := 134) 170 dX2_tryLetter_131 rfl rfl (fun c9 => ?_) (fun c9 => ?_)
      · replace h := (if_neg c9).symm.trans h
        exact lX2_tryLetter_170 m9 rc hrc a1 a2 a3 a5 a7 σ τ h hk
      · replace h := (if_pos c9).symm.trans h
        refine Vm.aload_n (n := 135) 0 dX2_tryLetter_134 rfl rfl ?_
        refine Vm.getR (n := 138) dX2_tryLetter_135 rfl wf_RX2_31 in_2 rfl (by decide) rfl ?_
        refine Vm.iload_n (n := 139) 1 dX2_tryLetter_138 rfl rfl ?_
        refine Vm.iload (n := 141) 5 dX2_tryLetter_139 rfl rfl ?_
        refine Vm.i2l (n := 142) dX2_tryLetter_141 rfl ?_
        refine Vm.lload (n := 144) 4 dX2_tryLetter_142 rfl rfl ?_
        refine Vm.lsub (n := 145) dX2_tryLetter_144 rfl ?_
        refine Vm.lload_n (n := 146) 3 dX2_tryLetter_145 rfl rfl ?_
        replace h := Option.bind_eq_some_iff.mp h
        obtain ⟨x2, h2, h⟩ := h
        refine Vm.ldiv (n := 147) dX2_tryLetter_146 rfl h2 ?_
        replace h := Option.bind_eq_some_iff.mp h
        obtain ⟨σ3, h3, h⟩ := h
        refine Vm.lastx (n := 148) dX2_tryLetter_147 rfl in_25 rfl rfl (by decide) h3 ?_
        refine Vm.aload_n (n := 149) 0 dX2_tryLetter_148 rfl rfl ?_
        refine Vm.getR (n := 152) dX2_tryLetter_149 rfl wf_RX2_34 in_2 rfl (by decide) rfl ?_
        refine Vm.iload_n (n := 153) 1 dX2_tryLetter_152 rfl rfl ?_
        refine Vm.iload (n := 155) 5 dX2_tryLetter_153 rfl rfl ?_
        replace h := Option.bind_eq_some_iff.mp h
        obtain ⟨σ4, h4, h⟩ := h
        refine Vm.iastx (n := 156) dX2_tryLetter_155 rfl in_18 rfl rfl (by decide) h4 ?_
        refine Vm.aload_n (n := 157) 0 dX2_tryLetter_156 rfl rfl ?_
        refine Vm.iload_n (n := 158) 1 dX2_tryLetter_157 rfl rfl ?_
        refine Vm.iconst (n := 159) (v := (1 : Int32)) dX2_tryLetter_158 rfl (by decide) ?_
        refine Vm.iadd (n := 160) dX2_tryLetter_159 rfl ?_
        refine Vm.iload_n (n := 161) 2 dX2_tryLetter_160 rfl rfl ?_
        refine Vm.iload (n := 163) 5 dX2_tryLetter_161 rfl rfl ?_
        refine Vm.iload (n := 165) 5 dX2_tryLetter_163 rfl rfl ?_
        refine Vm.imul (n := 166) dX2_tryLetter_165 rfl ?_
        refine Vm.iadd (n := 167) dX2_tryLetter_166 rfl ?_
        replace h := Option.bind_eq_some_iff.mp h
        obtain ⟨q5, h5, h⟩ := h
        refine Vm.callVv (Y := mX2_tryLetter) (n := 170) [.inl (a1 + (1 : Int32)), .inl (a2 + (a7 * a7))] dX2_tryLetter_167 rfl wv_RX2_67 omX2_tryLetter rfl in_2 rfl rfl rfl (Nat.le_of_ble_eq_true rfl) (by omega) (hrc (a1 + (1 : Int32)) (a2 + (a7 * a7)) σ4 τ _ h5) ?_
        exact lX2_tryLetter_170 m9 rc hrc a1 a2 a3 a5 a7 q5 τ h hk
theorem lX2_tryLetter_100_L (m9 : Nat) (rc : Int32 → Int32 → mm → Option (mm)) (hrc : ∀ (b1 : Int32) (b2 : Int32) (σ9 τ : mm) (q9 : mm), rc b1 b2 σ9 = some q9 → Cx mX2_tryLetter (1 + m9) [.inr (.inr (2, 0)), .inl b1, .inl b2] (σ9, τ) (none) (q9, τ)) (a1 : Int32) (a2 : Int32) (a3 : Int64) (a5 : Int64) (τ : mm) {r : Option mv} {M' : mm × mm} (z : Int32 × mm) (w9 : mm) (h : lp (fX2_tryLetter_100_L rc a1 a2 a3 a5) z = some w9) (hk : (fun q : mm => r = none ∧ M' = (q, τ)) w9) : Vm mX2_tryLetter (1 + (m9 + 1)) 100 [(0, .inr (.inr (2, 0))), (1, .inl a1), (2, .inl a2), (3, .inr (.inl a3)), (5, .inr (.inl a5)), (7, .inl z.1)] [] (z.2, τ) r M' :=
  lp_link (S := Int32 × mm) (R := mm) (body := fX2_tryLetter_100_L rc a1 a2 a3 a5) (A := fun z : Int32 × mm => Vm mX2_tryLetter (1 + (m9 + 1)) 100 [(0, .inr (.inr (2, 0))), (1, .inl a1), (2, .inl a2), (3, .inr (.inl a3)), (5, .inr (.inl a5)), (7, .inl z.1)] [] (z.2, τ) r M') (B := fun w : mm => (fun q : mm => r = none ∧ M' = (q, τ)) w) (fun z v hb hv => lX2_tryLetter_100 m9 rc hrc a1 a2 a3 a5 z.1 z.2 τ hb hv) z w9 h hk
set_option maxRecDepth 20000 in
theorem lX2_tryLetter_62 (m9 : Nat) (rc : Int32 → Int32 → mm → Option (mm)) (hrc : ∀ (b1 : Int32) (b2 : Int32) (σ9 τ : mm) (q9 : mm), rc b1 b2 σ9 = some q9 → Cx mX2_tryLetter (1 + m9) [.inr (.inr (2, 0)), .inl b1, .inl b2] (σ9, τ) (none) (q9, τ)) (a1 : Int32) (a2 : Int32) (a3 : Int64) (a5 : Int64) (a7 : Int32) (σ τ : mm) {r : Option mv} {M' : mm × mm} {v9 : (Int64 × Int32) ⊕ (mm)} (h : fX2_tryLetter_62 rc a1 a2 a3 a5 a7 σ = some v9) (hk : (Sum.elim (fun z : Int64 × Int32 => Vm mX2_tryLetter (1 + (m9 + 1)) 62 [(0, .inr (.inr (2, 0))), (1, .inl a1), (2, .inl a2), (3, .inr (.inl a3)), (5, .inr (.inl z.1)), (7, .inl z.2)] [] (σ, τ) r M') (fun q : mm => r = none ∧ M' = (q, τ))) v9) : Vm mX2_tryLetter (1 + (m9 + 1)) 62 [(0, .inr (.inr (2, 0))), (1, .inl a1), (2, .inl a2), (3, .inr (.inl a3)), (5, .inr (.inl a5)), (7, .inl a7)] [] (σ, τ) r M' := by
  unfold fX2_tryLetter_62 at h
  refine Vm.iload (n := 64) 5 dX2_tryLetter_62 rfl rfl ?_
  refine Vm.iload_n (n := 65) 1 dX2_tryLetter_64 rfl rfl ?_
  refine Vm.icmp_ge (n := 68) 96 dX2_tryLetter_65 rfl rfl (fun c9 => ?_) (fun c9 => ?_)
  · replace h := (if_pos c9).symm.trans h
    refine Vm.bipush (n := 98) (v := (8 : Int32)) dX2_tryLetter_96 rfl (by decide) ?_
    refine Vm.istore (n := 100) (lv' := [(7, .inl (8 : Int32)), (0, .inr (.inr (2, 0))), (1, .inl a1), (2, .inl a2), (3, .inr (.inl a3)), (5, .inr (.inl a5))]) dX2_tryLetter_98 rfl (Nat.le_of_ble_eq_true rfl) rfl ?_
    refine Vm.sub (lv' := [(0, .inr (.inr (2, 0))), (1, .inl a1), (2, .inl a2), (3, .inr (.inl a3)), (5, .inr (.inl a5)), (7, .inl (8 : Int32))]) [1, 2, 3, 4, 5, 0] rfl ?_
    replace h := Option.map_eq_some_iff.mp h
    obtain ⟨w9, h, e8⟩ := h
    subst e8
    exact lX2_tryLetter_100_L m9 rc hrc a1 a2 a3 a5 τ ((8 : Int32), σ) _ h hk
  · replace h := (if_neg c9).symm.trans h
    refine Vm.lload (n := 70) 4 dX2_tryLetter_68 rfl rfl ?_
    refine Vm.aload_n (n := 71) 0 dX2_tryLetter_70 rfl rfl ?_
    refine Vm.getR (n := 74) dX2_tryLetter_71 rfl wf_RX2_31 in_2 rfl (by decide) rfl ?_
    refine Vm.iload (n := 76) 5 dX2_tryLetter_74 rfl rfl ?_
    replace h := Option.bind_eq_some_iff.mp h
    obtain ⟨x1, h1, h⟩ := h
    refine Vm.laldx (n := 77) dX2_tryLetter_76 rfl in_25 rfl rfl (by decide) h1 ?_
    refine Vm.aload_n (n := 78) 0 dX2_tryLetter_77 rfl rfl ?_
    refine Vm.getR (n := 81) dX2_tryLetter_78 rfl wf_RX2_11 in_2 rfl (by decide) rfl ?_
    refine Vm.iload (n := 83) 5 dX2_tryLetter_81 rfl rfl ?_
    replace h := Option.bind_eq_some_iff.mp h
    obtain ⟨k2, h2, h⟩ := h
    refine Vm.aald (n := 84) dX2_tryLetter_83 rfl in_29 rfl rfl (by decide) (fun _ => rfl) rfl h2 ?_
    have g2 := rdR_lt h2
    refine Vm.iload_n (n := 85) 1 dX2_tryLetter_84 rfl rfl ?_
    replace h := Option.bind_eq_some_iff.mp h
    obtain ⟨x3, h3, h⟩ := h
    refine Vm.laldx (n := 86) dX2_tryLetter_85 rfl (ink ik_23 (by omega)) rfl rfl (by decide) h3 ?_
    refine Vm.lmul (n := 87) dX2_tryLetter_86 rfl ?_
    refine Vm.ladd (n := 88) dX2_tryLetter_87 rfl ?_
    replace h := Option.bind_eq_some_iff.mp h
    obtain ⟨x4, e4, h⟩ := h
    replace e4 := Option.some.inj e4
    refine Vm.topl e4 ?_
    refine Vm.lstore (n := 90) (lv' := [(5, .inr (.inl x4)), (0, .inr (.inr (2, 0))), (1, .inl a1), (2, .inl a2), (3, .inr (.inl a3)), (7, .inl a7)]) dX2_tryLetter_88 rfl (Nat.le_of_ble_eq_true rfl) rfl ?_
    replace h := Option.bind_eq_some_iff.mp h
    obtain ⟨x5, e5, h⟩ := h
    replace e5 := Option.some.inj e5
    refine Vm.iinc (n := 93) (v := x5) (lv' := [(7, .inl x5), (5, .inr (.inl x4)), (0, .inr (.inr (2, 0))), (1, .inl a1), (2, .inl a2), (3, .inr (.inl a3))]) 5 dX2_tryLetter_90 rfl rfl e5 (Nat.le_of_ble_eq_true rfl) rfl ?_
    refine Vm.goto 62 dX2_tryLetter_93 rfl ?_
    refine Vm.sub (lv' := [(0, .inr (.inr (2, 0))), (1, .inl a1), (2, .inl a2), (3, .inr (.inl a3)), (5, .inr (.inl x4)), (7, .inl x5)]) [2, 3, 4, 5, 1, 0] rfl ?_
    obtain rfl := Option.some.inj h
    exact hk
theorem lX2_tryLetter_62_L (m9 : Nat) (rc : Int32 → Int32 → mm → Option (mm)) (hrc : ∀ (b1 : Int32) (b2 : Int32) (σ9 τ : mm) (q9 : mm), rc b1 b2 σ9 = some q9 → Cx mX2_tryLetter (1 + m9) [.inr (.inr (2, 0)), .inl b1, .inl b2] (σ9, τ) (none) (q9, τ)) (a1 : Int32) (a2 : Int32) (a3 : Int64) (σ τ : mm) {r : Option mv} {M' : mm × mm} (z : Int64 × Int32) (w9 : mm) (h : lp (fX2_tryLetter_62_L rc a1 a2 a3 σ) z = some w9) (hk : (fun q : mm => r = none ∧ M' = (q, τ)) w9) : Vm mX2_tryLetter (1 + (m9 + 1)) 62 [(0, .inr (.inr (2, 0))), (1, .inl a1), (2, .inl a2), (3, .inr (.inl a3)), (5, .inr (.inl z.1)), (7, .inl z.2)] [] (σ, τ) r M' :=
  lp_link (S := Int64 × Int32) (R := mm) (body := fX2_tryLetter_62_L rc a1 a2 a3 σ) (A := fun z : Int64 × Int32 => Vm mX2_tryLetter (1 + (m9 + 1)) 62 [(0, .inr (.inr (2, 0))), (1, .inl a1), (2, .inl a2), (3, .inr (.inl a3)), (5, .inr (.inl z.1)), (7, .inl z.2)] [] (σ, τ) r M') (B := fun w : mm => (fun q : mm => r = none ∧ M' = (q, τ)) w) (fun z v hb hv => lX2_tryLetter_62 m9 rc hrc a1 a2 a3 z.1 z.2 σ τ hb hv) z w9 h hk
set_option maxRecDepth 20000 in
theorem lX2_tryLetter_0 (m9 : Nat) (rc : Int32 → Int32 → mm → Option (mm)) (hrc : ∀ (b1 : Int32) (b2 : Int32) (σ9 τ : mm) (q9 : mm), rc b1 b2 σ9 = some q9 → Cx mX2_tryLetter (1 + m9) [.inr (.inr (2, 0)), .inl b1, .inl b2] (σ9, τ) (none) (q9, τ)) (a1 : Int32) (a2 : Int32) (σ τ : mm) {r : Option mv} {M' : mm × mm} {v9 : mm} (h : fX2_tryLetter_0 rc a1 a2 σ = some v9) (hk : (fun q : mm => r = none ∧ M' = (q, τ)) v9) : Vm mX2_tryLetter (1 + (m9 + 1)) 0 [(0, .inr (.inr (2, 0))), (1, .inl a1), (2, .inl a2)] [] (σ, τ) r M' := by
  unfold fX2_tryLetter_0 at h
  refine Vm.iload_n (n := 1) 1 dX2_tryLetter_0 rfl rfl ?_
  refine Vm.aload_n (n := 2) 0 dX2_tryLetter_1 rfl rfl ?_
  refine Vm.gX (n := 5) dX2_tryLetter_2 rfl wf_RX2_24 in_2 rfl (by decide) rfl (by decide) ?_
  refine Vm.icmp_lt (n := 8) 40 dX2_tryLetter_5 rfl rfl (fun c9 => ?_) (fun c9 => ?_)
  · replace h := (if_pos c9).symm.trans h
    refine Vm.aload_n (n := 41) 0 dX2_tryLetter_40 rfl rfl ?_
    refine Vm.getR (n := 44) dX2_tryLetter_41 rfl wf_RX2_11 in_2 rfl (by decide) rfl ?_
    refine Vm.iload_n (n := 45) 1 dX2_tryLetter_44 rfl rfl ?_
    replace h := Option.bind_eq_some_iff.mp h
    obtain ⟨k1, h1, h⟩ := h
    refine Vm.aald (n := 46) dX2_tryLetter_45 rfl in_29 rfl rfl (by decide) (fun _ => rfl) rfl h1 ?_
    have g1 := rdR_lt h1
    refine Vm.iload_n (n := 47) 1 dX2_tryLetter_46 rfl rfl ?_
    replace h := Option.bind_eq_some_iff.mp h
    obtain ⟨x2, h2, h⟩ := h
    refine Vm.laldx (n := 48) dX2_tryLetter_47 rfl (ink ik_23 (by omega)) rfl rfl (by decide) h2 ?_
    refine Vm.lstore_n (n := 49) (lv' := [(3, .inr (.inl x2)), (0, .inr (.inr (2, 0))), (1, .inl a1), (2, .inl a2)]) dX2_tryLetter_48 rfl (Nat.le_of_ble_eq_true rfl) rfl ?_
    refine Vm.lload_n (n := 50) 0 dX2_tryLetter_49 rfl rfl ?_
    refine Vm.lconst (n := 51) (v := (0 : Int64)) dX2_tryLetter_50 rfl (by decide) ?_
    refine Vm.lcmp (n := 52) dX2_tryLetter_51 rfl ?_
    refine Vm.if_gt (n := 55) 56 dX2_tryLetter_52 rfl rfl (fun c9 => ?_) (fun c9 => ?_)
    · replace h := (if_pos c9).symm.trans h
      refine Vm.lconst (n := 57) (v := (0 : Int64)) dX2_tryLetter_56 rfl (by decide) ?_
      refine Vm.lstore (n := 59) (lv' := [(5, .inr (.inl (0 : Int64))), (3, .inr (.inl x2)), (0, .inr (.inr (2, 0))), (1, .inl a1), (2, .inl a2)]) dX2_tryLetter_57 rfl (Nat.le_of_ble_eq_true rfl) rfl ?_
      refine Vm.iconst (n := 60) (v := (0 : Int32)) dX2_tryLetter_59 rfl (by decide) ?_
      refine Vm.istore (n := 62) (lv' := [(7, .inl (0 : Int32)), (5, .inr (.inl (0 : Int64))), (3, .inr (.inl x2)), (0, .inr (.inr (2, 0))), (1, .inl a1), (2, .inl a2)]) dX2_tryLetter_60 rfl (Nat.le_of_ble_eq_true rfl) rfl ?_
      refine Vm.sub (lv' := [(0, .inr (.inr (2, 0))), (1, .inl a1), (2, .inl a2), (3, .inr (.inl x2)), (5, .inr (.inl (0 : Int64))), (7, .inl (0 : Int32))]) [3, 4, 5, 2, 1, 0] rfl ?_
      exact lX2_tryLetter_62_L m9 rc hrc a1 a2 x2 σ τ ((0 : Int64), (0 : Int32)) _ h hk
    · replace h := (if_neg c9).symm.trans h
      obtain rfl := Option.some.inj h
      exact Vm.vret dX2_tryLetter_55 rfl hk.1 hk.2.symm
  · replace h := (if_neg c9).symm.trans h
    refine Vm.iload_n (n := 9) 2 dX2_tryLetter_8 rfl rfl ?_
    refine Vm.if_le (n := 12) 39 dX2_tryLetter_9 rfl rfl (fun c9 => ?_) (fun c9 => ?_)
    · replace h := (if_pos c9).symm.trans h
      obtain rfl := Option.some.inj h
      exact Vm.vret dX2_tryLetter_39 rfl hk.1 hk.2.symm
    · replace h := (if_neg c9).symm.trans h
      refine Vm.iload_n (n := 13) 2 dX2_tryLetter_12 rfl rfl ?_
      refine Vm.aload_n (n := 14) 0 dX2_tryLetter_13 rfl rfl ?_
      refine Vm.gX (n := 17) dX2_tryLetter_14 rfl wf_RX2_20 in_2 rfl (by decide) rfl (by decide) ?_
      refine Vm.icmp_ge (n := 20) 39 dX2_tryLetter_17 rfl rfl (fun c9 => ?_) (fun c9 => ?_)
      · replace h := (if_pos c9).symm.trans h
        obtain rfl := Option.some.inj h
        exact Vm.vret dX2_tryLetter_39 rfl hk.1 hk.2.symm
      · replace h := (if_neg c9).symm.trans h
        refine Vm.aload_n (n := 21) 0 dX2_tryLetter_20 rfl rfl ?_
        refine Vm.iload_n (n := 22) 2 dX2_tryLetter_21 rfl rfl ?_
        refine Vm.pX (n := 25) (ty := .int) dX2_tryLetter_22 rfl wf_RX2_20 in_2 rfl (by decide) rfl (by decide) rfl rfl rfl rfl ?_
        replace h := Option.bind_eq_some_iff.mp h
        obtain ⟨σ3, e3, h⟩ := h
        replace e3 := Option.some.inj e3
        refine Vm.mem (congrArg (fun z => (z, τ)) e3) ?_
        refine Vm.aload_n (n := 26) 0 dX2_tryLetter_25 rfl rfl ?_
        refine Vm.getR (n := 29) dX2_tryLetter_26 rfl wf_RX2_34 in_2 rfl (by decide) rfl ?_
        refine Vm.iconst (n := 30) (v := (0 : Int32)) dX2_tryLetter_29 rfl (by decide) ?_
        refine Vm.aload_n (n := 31) 0 dX2_tryLetter_30 rfl rfl ?_
        refine Vm.getR (n := 34) dX2_tryLetter_31 rfl wf_RX2_16 in_2 rfl (by decide) rfl ?_
        refine Vm.iconst (n := 35) (v := (0 : Int32)) dX2_tryLetter_34 rfl (by decide) ?_
        refine Vm.iconst (n := 36) (v := (4 : Int32)) dX2_tryLetter_35 rfl (by decide) ?_
        replace h := Option.bind_eq_some_iff.mp h
        obtain ⟨σ4, h4, h⟩ := h
        refine Vm.aci (n := 39) dX2_tryLetter_36 rfl wy_RX2_71 in_18 rfl rfl (by decide) in_17 rfl rfl (by decide) (Nat.le_of_ble_eq_true rfl) (by omega) h4 ?_
        obtain rfl := Option.some.inj h
        exact Vm.vret dX2_tryLetter_39 rfl hk.1 hk.2.symm
theorem kX2_tryLetter : ∀ (m9 : Nat) (a1 : Int32) (a2 : Int32) (σ τ : mm) {q : mm} (h : fX2_tryLetter m9 a1 a2 σ = some q), Cx mX2_tryLetter (1 + m9) [.inr (.inr (2, 0)), .inl a1, .inl a2] (σ, τ) (none) (q, τ) := by
  intro m9
  induction m9 with
  | zero =>
    intro a1 a2 σ τ q h
    cases h
  | succ m9 ih =>
    intro a1 a2 σ τ q h
    exact Cx.of (lv := [(0, .inr (.inr (2, 0))), (1, .inl a1), (2, .inl a2)]) (by decide) (fun ad => Nat.le_of_ble_eq_true rfl) (fun ad => rfl) (lX2_tryLetter_0 m9 (fX2_tryLetter m9) (fun a1 a2 σ9 τ q9  h9 => ih a1 a2 σ9 τ h9) a1 a2 σ τ h ⟨rfl, rfl⟩)
-- ThinBodies$Lattice findShort (LThinBodies$Body;)V
noncomputable def fX2_findShort_21 (a1 : Nat) (a2 : Int32) (a3 : Int32) (a4 : Int32) (σ : mm) : Option ((Int32 × Int32) ⊕ ((Int32 × mm) ⊕ (mm))) :=
  if (σ.1 2 0 3) ≤ a4 then
  Option.bind (some ((fJ9_min_7cf53 (σ.1 2 0 2) a3))) fun x1 =>
  Option.bind (some (stI σ 2 0 2 x1)) fun σ2 =>
  Option.bind (some (a2 + (1 : Int32))) fun x3 =>
  some (.inr (.inl (x3, σ2)))
  else
  Option.bind (rdR 4 a2) fun k4 =>
  Option.bind (rdI σ 11 (4 * a1 + k4) 4 a4) fun x5 =>
  Option.bind (rdR 4 a2) fun k6 =>
  Option.bind (rdI σ 11 (4 * a1 + k6) 4 a4) fun x7 =>
  Option.bind (some (a3 + (x5 * x7))) fun x8 =>
  Option.bind (some (a4 + (1 : Int32))) fun x9 =>
  some (.inl (x8, x9))
noncomputable def fX2_findShort_21_L (a1 : Nat) (a2 : Int32) (σ : mm) : Int32 × Int32 → Option ((Int32 × Int32) ⊕ ((Int32 × mm) ⊕ (mm))) := fun z => fX2_findShort_21 a1 a2 z.1 z.2 σ
noncomputable def fX2_findShort_8 (a1 : Nat) (a2 : Int32) (σ : mm) : Option ((Int32 × mm) ⊕ (mm)) :=
  if (σ.1 2 0 3) ≤ a2 then
  Option.bind (some ((σ.1 2 0 2) + (1 : Int32))) fun x1 =>
  Option.bind (some (stI σ 2 0 2 x1)) fun σ2 =>
  Option.bind (fX2_tryLetter 6 (0 : Int32) (0 : Int32) σ2) fun q3 =>
  some (.inr (q3))
  else
  lp (fX2_findShort_21_L a1 a2 σ) ((0 : Int32), (0 : Int32))
noncomputable def fX2_findShort_8_L (a1 : Nat) : Int32 × mm → Option ((Int32 × mm) ⊕ (mm)) := fun z => fX2_findShort_8 a1 z.1 z.2
noncomputable def fX2_findShort_0 (a1 : Nat) (σ : mm) : Option (mm) :=
  Option.bind (some (stI σ 2 0 2 (1000000000 : Int32))) fun σ1 =>
  lp (fX2_findShort_8_L a1) ((0 : Int32), σ1)
noncomputable def fX2_findShort (a1 : Nat) (σ : mm) : Option (mm) := fX2_findShort_0 a1 σ
set_option maxRecDepth 20000 in
theorem lX2_findShort_21 (a1 : Nat) (ha1 : a1 < 3) (a2 : Int32) (a3 : Int32) (a4 : Int32) (σ τ : mm) {r : Option mv} {M' : mm × mm} {v9 : (Int32 × Int32) ⊕ ((Int32 × mm) ⊕ (mm))} (h : fX2_findShort_21 a1 a2 a3 a4 σ = some v9) (hk : (Sum.elim (fun z : Int32 × Int32 => Vm mX2_findShort 8 21 [(0, .inr (.inr (2, 0))), (1, .inr (.inr (0, a1))), (2, .inl a2), (3, .inl z.1), (4, .inl z.2)] [] (σ, τ) r M') (Sum.elim (fun z : Int32 × mm => Vm mX2_findShort 8 8 [(0, .inr (.inr (2, 0))), (1, .inr (.inr (0, a1))), (2, .inl z.1)] [] (z.2, τ) r M') (fun q : mm => r = none ∧ M' = (q, τ)))) v9) : Vm mX2_findShort 8 21 [(0, .inr (.inr (2, 0))), (1, .inr (.inr (0, a1))), (2, .inl a2), (3, .inl a3), (4, .inl a4)] [] (σ, τ) r M' := by
  unfold fX2_findShort_21 at h
  refine Vm.iload (n := 23) 4 dX2_findShort_21 rfl rfl ?_
  refine Vm.aload_n (n := 24) 0 dX2_findShort_23 rfl rfl ?_
  refine Vm.gX (n := 27) dX2_findShort_24 rfl wf_RX2_24 in_2 rfl (by decide) rfl (by decide) ?_
  refine Vm.icmp_ge (n := 30) 58 dX2_findShort_27 rfl rfl (fun c9 => ?_) (fun c9 => ?_)
  · replace h := (if_pos c9).symm.trans h
    refine Vm.aload_n (n := 59) 0 dX2_findShort_58 rfl rfl ?_
    refine Vm.aload_n (n := 60) 0 dX2_findShort_59 rfl rfl ?_
    refine Vm.gX (n := 63) dX2_findShort_60 rfl wf_RX2_20 in_2 rfl (by decide) rfl (by decide) ?_
    refine Vm.iload_n (n := 64) 3 dX2_findShort_63 rfl rfl ?_
    refine Vm.callS (Y := mJ9_min_7cf53) (n := 67) [.inl (σ.1 2 0 2), .inl a3] dX2_findShort_64 rfl wv_RX2_64 omJ9_min_7cf53 rfl rfl (Nat.le_of_ble_eq_true rfl) (by decide) (kJ9_min_7cf53 (σ.1 2 0 2) a3 rfl) ?_
    replace h := Option.bind_eq_some_iff.mp h
    obtain ⟨x1, e1, h⟩ := h
    replace e1 := Option.some.inj e1
    refine Vm.top e1 ?_
    refine Vm.pX (n := 70) (ty := .int) dX2_findShort_67 rfl wf_RX2_20 in_2 rfl (by decide) rfl (by decide) rfl rfl rfl rfl ?_
    replace h := Option.bind_eq_some_iff.mp h
    obtain ⟨σ2, e2, h⟩ := h
    replace e2 := Option.some.inj e2
    refine Vm.mem (congrArg (fun z => (z, τ)) e2) ?_
    replace h := Option.bind_eq_some_iff.mp h
    obtain ⟨x3, e3, h⟩ := h
    replace e3 := Option.some.inj e3
    refine Vm.iinc (n := 73) (v := x3) (lv' := [(2, .inl x3), (0, .inr (.inr (2, 0))), (1, .inr (.inr (0, a1))), (3, .inl a3), (4, .inl a4)]) 2 dX2_findShort_70 rfl rfl e3 (Nat.le_of_ble_eq_true rfl) rfl ?_
    refine Vm.goto 8 dX2_findShort_73 rfl ?_
    refine Vm.sub (lv' := [(0, .inr (.inr (2, 0))), (1, .inr (.inr (0, a1))), (2, .inl x3)]) [1, 2, 0] rfl ?_
    obtain rfl := Option.some.inj h
    exact hk
  · replace h := (if_neg c9).symm.trans h
    refine Vm.iload_n (n := 31) 3 dX2_findShort_30 rfl rfl ?_
    refine Vm.aload_n (n := 32) 1 dX2_findShort_31 rfl rfl ?_
    refine Vm.getR (n := 35) dX2_findShort_32 rfl wf_RX2_40 (ink ik_0 (by omega)) rfl (by decide) rfl ?_
    refine Vm.iload_n (n := 36) 2 dX2_findShort_35 rfl rfl ?_
    replace h := Option.bind_eq_some_iff.mp h
    obtain ⟨k4, h4, h⟩ := h
    refine Vm.aald (n := 37) dX2_findShort_36 rfl (ink ik_28 (by omega)) rfl rfl (by decide) (fun _ => rfl) rfl h4 ?_
    have g4 := rdR_lt h4
    refine Vm.iload (n := 39) 4 dX2_findShort_37 rfl rfl ?_
    replace h := Option.bind_eq_some_iff.mp h
    obtain ⟨x5, h5, h⟩ := h
    refine Vm.ialdx (n := 40) dX2_findShort_39 rfl (ink ik_11 (by omega)) rfl rfl (by decide) h5 ?_
    refine Vm.aload_n (n := 41) 1 dX2_findShort_40 rfl rfl ?_
    refine Vm.getR (n := 44) dX2_findShort_41 rfl wf_RX2_40 (ink ik_0 (by omega)) rfl (by decide) rfl ?_
    refine Vm.iload_n (n := 45) 2 dX2_findShort_44 rfl rfl ?_
    replace h := Option.bind_eq_some_iff.mp h
    obtain ⟨k6, h6, h⟩ := h
    refine Vm.aald (n := 46) dX2_findShort_45 rfl (ink ik_28 (by omega)) rfl rfl (by decide) (fun _ => rfl) rfl h6 ?_
    have g6 := rdR_lt h6
    refine Vm.iload (n := 48) 4 dX2_findShort_46 rfl rfl ?_
    replace h := Option.bind_eq_some_iff.mp h
    obtain ⟨x7, h7, h⟩ := h
    refine Vm.ialdx (n := 49) dX2_findShort_48 rfl (ink ik_11 (by omega)) rfl rfl (by decide) h7 ?_
    refine Vm.imul (n := 50) dX2_findShort_49 rfl ?_
    refine Vm.iadd (n := 51) dX2_findShort_50 rfl ?_
    replace h := Option.bind_eq_some_iff.mp h
    obtain ⟨x8, e8, h⟩ := h
    replace e8 := Option.some.inj e8
    refine Vm.top e8 ?_
    refine Vm.istore_n (n := 52) (lv' := [(3, .inl x8), (0, .inr (.inr (2, 0))), (1, .inr (.inr (0, a1))), (2, .inl a2), (4, .inl a4)]) dX2_findShort_51 rfl (Nat.le_of_ble_eq_true rfl) rfl ?_
    replace h := Option.bind_eq_some_iff.mp h
    obtain ⟨x9, e9, h⟩ := h
    replace e9 := Option.some.inj e9
    refine Vm.iinc (n := 55) (v := x9) (lv' := [(4, .inl x9), (3, .inl x8), (0, .inr (.inr (2, 0))), (1, .inr (.inr (0, a1))), (2, .inl a2)]) 4 dX2_findShort_52 rfl rfl e9 (Nat.le_of_ble_eq_true rfl) rfl ?_
    refine Vm.goto 21 dX2_findShort_55 rfl ?_
    refine Vm.sub (lv' := [(0, .inr (.inr (2, 0))), (1, .inr (.inr (0, a1))), (2, .inl a2), (3, .inl x8), (4, .inl x9)]) [2, 3, 4, 1, 0] rfl ?_
    obtain rfl := Option.some.inj h
    exact hk
theorem lX2_findShort_21_L (a1 : Nat) (ha1 : a1 < 3) (a2 : Int32) (σ τ : mm) {r : Option mv} {M' : mm × mm} (z : Int32 × Int32) (w9 : (Int32 × mm) ⊕ (mm)) (h : lp (fX2_findShort_21_L a1 a2 σ) z = some w9) (hk : (Sum.elim (fun z : Int32 × mm => Vm mX2_findShort 8 8 [(0, .inr (.inr (2, 0))), (1, .inr (.inr (0, a1))), (2, .inl z.1)] [] (z.2, τ) r M') (fun q : mm => r = none ∧ M' = (q, τ))) w9) : Vm mX2_findShort 8 21 [(0, .inr (.inr (2, 0))), (1, .inr (.inr (0, a1))), (2, .inl a2), (3, .inl z.1), (4, .inl z.2)] [] (σ, τ) r M' :=
  lp_link (S := Int32 × Int32) (R := (Int32 × mm) ⊕ (mm)) (body := fX2_findShort_21_L a1 a2 σ) (A := fun z : Int32 × Int32 => Vm mX2_findShort 8 21 [(0, .inr (.inr (2, 0))), (1, .inr (.inr (0, a1))), (2, .inl a2), (3, .inl z.1), (4, .inl z.2)] [] (σ, τ) r M') (B := fun w : (Int32 × mm) ⊕ (mm) => (Sum.elim (fun z : Int32 × mm => Vm mX2_findShort 8 8 [(0, .inr (.inr (2, 0))), (1, .inr (.inr (0, a1))), (2, .inl z.1)] [] (z.2, τ) r M') (fun q : mm => r = none ∧ M' = (q, τ))) w) (fun z v hb hv => lX2_findShort_21 a1 ha1 a2 z.1 z.2 σ τ hb hv) z w9 h hk
set_option maxRecDepth 20000 in
theorem lX2_findShort_8 (a1 : Nat) (ha1 : a1 < 3) (a2 : Int32) (σ τ : mm) {r : Option mv} {M' : mm × mm} {v9 : (Int32 × mm) ⊕ (mm)} (h : fX2_findShort_8 a1 a2 σ = some v9) (hk : (Sum.elim (fun z : Int32 × mm => Vm mX2_findShort 8 8 [(0, .inr (.inr (2, 0))), (1, .inr (.inr (0, a1))), (2, .inl z.1)] [] (z.2, τ) r M') (fun q : mm => r = none ∧ M' = (q, τ))) v9) : Vm mX2_findShort 8 8 [(0, .inr (.inr (2, 0))), (1, .inr (.inr (0, a1))), (2, .inl a2)] [] (σ, τ) r M' := by
  unfold fX2_findShort_8 at h
  refine Vm.iload_n (n := 9) 2 dX2_findShort_8 rfl rfl ?_
  refine Vm.aload_n (n := 10) 0 dX2_findShort_9 rfl rfl ?_
  refine Vm.gX (n := 13) dX2_findShort_10 rfl wf_RX2_24 in_2 rfl (by decide) rfl (by decide) ?_
  refine Vm.icmp_ge (n := 16) 76 dX2_findShort_13 rfl rfl (fun c9 => ?_) (fun c9 => ?_)
  · replace h := (if_pos c9).symm.trans h
    refine Vm.aload_n (n := 77) 0 dX2_findShort_76 rfl rfl ?_
    refine Vm.dup (n := 78) dX2_findShort_77 rfl rfl ?_
    refine Vm.gX (n := 81) dX2_findShort_78 rfl wf_RX2_20 in_2 rfl (by decide) rfl (by decide) ?_
    refine Vm.iconst (n := 82) (v := (1 : Int32)) dX2_findShort_81 rfl (by decide) ?_
    refine Vm.iadd (n := 83) dX2_findShort_82 rfl ?_
    replace h := Option.bind_eq_some_iff.mp h
    obtain ⟨x1, e1, h⟩ := h
    replace e1 := Option.some.inj e1
    refine Vm.top e1 ?_
    refine Vm.pX (n := 86) (ty := .int) dX2_findShort_83 rfl wf_RX2_20 in_2 rfl (by decide) rfl (by decide) rfl rfl rfl rfl ?_
    replace h := Option.bind_eq_some_iff.mp h
    obtain ⟨σ2, e2, h⟩ := h
    replace e2 := Option.some.inj e2
    refine Vm.mem (congrArg (fun z => (z, τ)) e2) ?_
    refine Vm.aload_n (n := 87) 0 dX2_findShort_86 rfl rfl ?_
    refine Vm.iconst (n := 88) (v := (0 : Int32)) dX2_findShort_87 rfl (by decide) ?_
    refine Vm.iconst (n := 89) (v := (0 : Int32)) dX2_findShort_88 rfl (by decide) ?_
    replace h := Option.bind_eq_some_iff.mp h
    obtain ⟨q3, h3, h⟩ := h
    refine Vm.callVv (Y := mX2_tryLetter) (n := 92) [.inl (0 : Int32), .inl (0 : Int32)] dX2_findShort_89 rfl wv_RX2_67 omX2_tryLetter rfl in_2 rfl rfl rfl (Nat.le_of_ble_eq_true rfl) (by decide) (kX2_tryLetter 6 (0 : Int32) (0 : Int32) σ2 τ h3) ?_
    obtain rfl := Option.some.inj h
    exact Vm.vret dX2_findShort_92 rfl hk.1 hk.2.symm
  · replace h := (if_neg c9).symm.trans h
    refine Vm.iconst (n := 17) (v := (0 : Int32)) dX2_findShort_16 rfl (by decide) ?_
    refine Vm.istore_n (n := 18) (lv' := [(3, .inl (0 : Int32)), (0, .inr (.inr (2, 0))), (1, .inr (.inr (0, a1))), (2, .inl a2)]) dX2_findShort_17 rfl (Nat.le_of_ble_eq_true rfl) rfl ?_
    refine Vm.iconst (n := 19) (v := (0 : Int32)) dX2_findShort_18 rfl (by decide) ?_
    refine Vm.istore (n := 21) (lv' := [(4, .inl (0 : Int32)), (3, .inl (0 : Int32)), (0, .inr (.inr (2, 0))), (1, .inr (.inr (0, a1))), (2, .inl a2)]) dX2_findShort_19 rfl (Nat.le_of_ble_eq_true rfl) rfl ?_
    refine Vm.sub (lv' := [(0, .inr (.inr (2, 0))), (1, .inr (.inr (0, a1))), (2, .inl a2), (3, .inl (0 : Int32)), (4, .inl (0 : Int32))]) [2, 3, 4, 1, 0] rfl ?_
    exact lX2_findShort_21_L a1 (by omega) a2 σ τ ((0 : Int32), (0 : Int32)) _ h hk
theorem lX2_findShort_8_L (a1 : Nat) (ha1 : a1 < 3) (τ : mm) {r : Option mv} {M' : mm × mm} (z : Int32 × mm) (w9 : mm) (h : lp (fX2_findShort_8_L a1) z = some w9) (hk : (fun q : mm => r = none ∧ M' = (q, τ)) w9) : Vm mX2_findShort 8 8 [(0, .inr (.inr (2, 0))), (1, .inr (.inr (0, a1))), (2, .inl z.1)] [] (z.2, τ) r M' :=
  lp_link (S := Int32 × mm) (R := mm) (body := fX2_findShort_8_L a1) (A := fun z : Int32 × mm => Vm mX2_findShort 8 8 [(0, .inr (.inr (2, 0))), (1, .inr (.inr (0, a1))), (2, .inl z.1)] [] (z.2, τ) r M') (B := fun w : mm => (fun q : mm => r = none ∧ M' = (q, τ)) w) (fun z v hb hv => lX2_findShort_8 a1 ha1 z.1 z.2 τ hb hv) z w9 h hk
set_option maxRecDepth 20000 in
theorem lX2_findShort_0 (a1 : Nat) (ha1 : a1 < 3) (σ τ : mm) {r : Option mv} {M' : mm × mm} {v9 : mm} (h : fX2_findShort_0 a1 σ = some v9) (hk : (fun q : mm => r = none ∧ M' = (q, τ)) v9) : Vm mX2_findShort 8 0 [(0, .inr (.inr (2, 0))), (1, .inr (.inr (0, a1)))] [] (σ, τ) r M' := by
  unfold fX2_findShort_0 at h
  refine Vm.aload_n (n := 1) 0 dX2_findShort_0 rfl rfl ?_
  refine Vm.ldc (n := 3) dX2_findShort_1 rfl wc_RX2_63 ?_
  refine Vm.pX (n := 6) (ty := .int) dX2_findShort_3 rfl wf_RX2_20 in_2 rfl (by decide) rfl (by decide) rfl rfl rfl rfl ?_
  replace h := Option.bind_eq_some_iff.mp h
  obtain ⟨σ1, e1, h⟩ := h
  replace e1 := Option.some.inj e1
  refine Vm.mem (congrArg (fun z => (z, τ)) e1) ?_
  refine Vm.iconst (n := 7) (v := (0 : Int32)) dX2_findShort_6 rfl (by decide) ?_
  refine Vm.istore_n (n := 8) (lv' := [(2, .inl (0 : Int32)), (0, .inr (.inr (2, 0))), (1, .inr (.inr (0, a1)))]) dX2_findShort_7 rfl (Nat.le_of_ble_eq_true rfl) rfl ?_
  refine Vm.sub (lv' := [(0, .inr (.inr (2, 0))), (1, .inr (.inr (0, a1))), (2, .inl (0 : Int32))]) [1, 2, 0] rfl ?_
  exact lX2_findShort_8_L a1 (by omega) τ ((0 : Int32), σ1) _ h hk
theorem kX2_findShort (a1 : Nat) (ha1 : a1 < 3) (σ τ : mm) {q : mm} (h : fX2_findShort a1 σ = some q) : Cx mX2_findShort 8 [.inr (.inr (2, 0)), .inr (.inr (0, a1))] (σ, τ) (none) (q, τ) :=
  Cx.of (lv := [(0, .inr (.inr (2, 0))), (1, .inr (.inr (0, a1)))]) (by decide) (fun ad => Nat.le_of_ble_eq_true rfl) (fun ad => rfl) (lX2_findShort_0 a1 ha1 σ τ h ⟨rfl, rfl⟩)
