section VR2
variable {X : md} {d pc n : Nat} {lv lv' : List (Nat × mv)} {st : List mv} {M M' : mm × mm} {r : Option mv}
theorem Vm.iadd {x y : Int32} (hd : decode X.2.1 pc = .ok (.iadd, 1)) (hn : pc + 1 = n) (k : Vm X d n lv (.inl (x + y) :: st) M r M') : Vm X d pc lv (.inl y :: .inl x :: st) M r M' := by
  subst hn
  intro p l e R s m args below meth c D cA ad H locs ls C hP hD hS hl0
  exact lv_iadd C.1 C.2.1 hd (k p l e R s m args below meth c D cA ad H locs ls C hP hD hS hl0)
theorem Vm.isub {x y : Int32} (hd : decode X.2.1 pc = .ok (.isub, 1)) (hn : pc + 1 = n) (k : Vm X d n lv (.inl (x - y) :: st) M r M') : Vm X d pc lv (.inl y :: .inl x :: st) M r M' := by
  subst hn
  intro p l e R s m args below meth c D cA ad H locs ls C hP hD hS hl0
  exact lv_isub C.1 C.2.1 hd (k p l e R s m args below meth c D cA ad H locs ls C hP hD hS hl0)
theorem Vm.imul {x y : Int32} (hd : decode X.2.1 pc = .ok (.imul, 1)) (hn : pc + 1 = n) (k : Vm X d n lv (.inl (x * y) :: st) M r M') : Vm X d pc lv (.inl y :: .inl x :: st) M r M' := by
  subst hn
  intro p l e R s m args below meth c D cA ad H locs ls C hP hD hS hl0
  exact lv_imul C.1 C.2.1 hd (k p l e R s m args below meth c D cA ad H locs ls C hP hD hS hl0)
theorem Vm.iand {x y : Int32} (hd : decode X.2.1 pc = .ok (.iand, 1)) (hn : pc + 1 = n) (k : Vm X d n lv (.inl (x &&& y) :: st) M r M') : Vm X d pc lv (.inl y :: .inl x :: st) M r M' := by
  subst hn
  intro p l e R s m args below meth c D cA ad H locs ls C hP hD hS hl0
  exact lv_iand C.1 C.2.1 hd (k p l e R s m args below meth c D cA ad H locs ls C hP hD hS hl0)
theorem Vm.ior {x y : Int32} (hd : decode X.2.1 pc = .ok (.ior, 1)) (hn : pc + 1 = n) (k : Vm X d n lv (.inl (x ||| y) :: st) M r M') : Vm X d pc lv (.inl y :: .inl x :: st) M r M' := by
  subst hn
  intro p l e R s m args below meth c D cA ad H locs ls C hP hD hS hl0
  exact lv_ior C.1 C.2.1 hd (k p l e R s m args below meth c D cA ad H locs ls C hP hD hS hl0)
theorem Vm.ixor {x y : Int32} (hd : decode X.2.1 pc = .ok (.ixor, 1)) (hn : pc + 1 = n) (k : Vm X d n lv (.inl (x ^^^ y) :: st) M r M') : Vm X d pc lv (.inl y :: .inl x :: st) M r M' := by
  subst hn
  intro p l e R s m args below meth c D cA ad H locs ls C hP hD hS hl0
  exact lv_ixor C.1 C.2.1 hd (k p l e R s m args below meth c D cA ad H locs ls C hP hD hS hl0)
theorem Vm.ishl {x y : Int32} (hd : decode X.2.1 pc = .ok (.ishl, 1)) (hn : pc + 1 = n) (k : Vm X d n lv (.inl (x <<< (y &&& 31)) :: st) M r M') : Vm X d pc lv (.inl y :: .inl x :: st) M r M' := by
  subst hn
  intro p l e R s m args below meth c D cA ad H locs ls C hP hD hS hl0
  exact lv_ishl C.1 C.2.1 hd (k p l e R s m args below meth c D cA ad H locs ls C hP hD hS hl0)
theorem Vm.ishr {x y : Int32} (hd : decode X.2.1 pc = .ok (.ishr, 1)) (hn : pc + 1 = n) (k : Vm X d n lv (.inl (x >>> (y &&& 31)) :: st) M r M') : Vm X d pc lv (.inl y :: .inl x :: st) M r M' := by
  subst hn
  intro p l e R s m args below meth c D cA ad H locs ls C hP hD hS hl0
  exact lv_ishr C.1 C.2.1 hd (k p l e R s m args below meth c D cA ad H locs ls C hP hD hS hl0)
theorem Vm.ladd {x y : Int64} (hd : decode X.2.1 pc = .ok (.ladd, 1)) (hn : pc + 1 = n) (k : Vm X d n lv (.inr (.inl (x + y)) :: st) M r M') : Vm X d pc lv (.inr (.inl y) :: .inr (.inl x) :: st) M r M' := by
  subst hn
  intro p l e R s m args below meth c D cA ad H locs ls C hP hD hS hl0
  exact lv_ladd C.1 C.2.1 hd (k p l e R s m args below meth c D cA ad H locs ls C hP hD hS hl0)
theorem Vm.lsub {x y : Int64} (hd : decode X.2.1 pc = .ok (.lsub, 1)) (hn : pc + 1 = n) (k : Vm X d n lv (.inr (.inl (x - y)) :: st) M r M') : Vm X d pc lv (.inr (.inl y) :: .inr (.inl x) :: st) M r M' := by
  subst hn
  intro p l e R s m args below meth c D cA ad H locs ls C hP hD hS hl0
  exact lv_lsub C.1 C.2.1 hd (k p l e R s m args below meth c D cA ad H locs ls C hP hD hS hl0)
theorem Vm.lmul {x y : Int64} (hd : decode X.2.1 pc = .ok (.lmul, 1)) (hn : pc + 1 = n) (k : Vm X d n lv (.inr (.inl (x * y)) :: st) M r M') : Vm X d pc lv (.inr (.inl y) :: .inr (.inl x) :: st) M r M' := by
  subst hn
  intro p l e R s m args below meth c D cA ad H locs ls C hP hD hS hl0
  exact lv_lmul C.1 C.2.1 hd (k p l e R s m args below meth c D cA ad H locs ls C hP hD hS hl0)
theorem Vm.land {x y : Int64} (hd : decode X.2.1 pc = .ok (.land, 1)) (hn : pc + 1 = n) (k : Vm X d n lv (.inr (.inl (x &&& y)) :: st) M r M') : Vm X d pc lv (.inr (.inl y) :: .inr (.inl x) :: st) M r M' := by
  subst hn
  intro p l e R s m args below meth c D cA ad H locs ls C hP hD hS hl0
  exact lv_land C.1 C.2.1 hd (k p l e R s m args below meth c D cA ad H locs ls C hP hD hS hl0)
theorem Vm.lor {x y : Int64} (hd : decode X.2.1 pc = .ok (.lor, 1)) (hn : pc + 1 = n) (k : Vm X d n lv (.inr (.inl (x ||| y)) :: st) M r M') : Vm X d pc lv (.inr (.inl y) :: .inr (.inl x) :: st) M r M' := by
  subst hn
  intro p l e R s m args below meth c D cA ad H locs ls C hP hD hS hl0
  exact lv_lor C.1 C.2.1 hd (k p l e R s m args below meth c D cA ad H locs ls C hP hD hS hl0)
theorem Vm.lxor {x y : Int64} (hd : decode X.2.1 pc = .ok (.lxor, 1)) (hn : pc + 1 = n) (k : Vm X d n lv (.inr (.inl (x ^^^ y)) :: st) M r M') : Vm X d pc lv (.inr (.inl y) :: .inr (.inl x) :: st) M r M' := by
  subst hn
  intro p l e R s m args below meth c D cA ad H locs ls C hP hD hS hl0
  exact lv_lxor C.1 C.2.1 hd (k p l e R s m args below meth c D cA ad H locs ls C hP hD hS hl0)
theorem Vm.ineg {x : Int32} (hd : decode X.2.1 pc = .ok (.ineg, 1)) (hn : pc + 1 = n) (k : Vm X d n lv (.inl (-x) :: st) M r M') : Vm X d pc lv (.inl x :: st) M r M' := by
  subst hn
  intro p l e R s m args below meth c D cA ad H locs ls C hP hD hS hl0
  exact lv_ineg C.1 C.2.1 hd (k p l e R s m args below meth c D cA ad H locs ls C hP hD hS hl0)
theorem Vm.lneg {x : Int64} (hd : decode X.2.1 pc = .ok (.lneg, 1)) (hn : pc + 1 = n) (k : Vm X d n lv (.inr (.inl (-x)) :: st) M r M') : Vm X d pc lv (.inr (.inl x) :: st) M r M' := by
  subst hn
  intro p l e R s m args below meth c D cA ad H locs ls C hP hD hS hl0
  exact lv_lneg C.1 C.2.1 hd (k p l e R s m args below meth c D cA ad H locs ls C hP hD hS hl0)
theorem Vm.idiv {x y z : Int32} (hd : decode X.2.1 pc = .ok (.idiv, 1)) (hn : pc + 1 = n) (h : dvI x y = some z) (k : Vm X d n lv (.inl z :: st) M r M') : Vm X d pc lv (.inl y :: .inl x :: st) M r M' := by
  subst hn
  unfold dvI at h
  split at h
  · cases h
  rename_i hne
  cases h
  intro p l e R s m args below meth c D cA ad H locs ls C hP hD hS hl0
  exact lv_idiv C.1 C.2.1 hd hne (k p l e R s m args below meth c D cA ad H locs ls C hP hD hS hl0)
theorem Vm.irem {x y z : Int32} (hd : decode X.2.1 pc = .ok (.irem, 1)) (hn : pc + 1 = n) (h : rmI x y = some z) (k : Vm X d n lv (.inl z :: st) M r M') : Vm X d pc lv (.inl y :: .inl x :: st) M r M' := by
  subst hn
  unfold rmI at h
  split at h
  · cases h
  rename_i hne
  cases h
  intro p l e R s m args below meth c D cA ad H locs ls C hP hD hS hl0
  exact lv_irem C.1 C.2.1 hd hne (k p l e R s m args below meth c D cA ad H locs ls C hP hD hS hl0)
theorem Vm.ldiv {x y z : Int64} (hd : decode X.2.1 pc = .ok (.ldiv, 1)) (hn : pc + 1 = n) (h : dvL x y = some z) (k : Vm X d n lv (.inr (.inl z) :: st) M r M') : Vm X d pc lv (.inr (.inl y) :: .inr (.inl x) :: st) M r M' := by
  subst hn
  unfold dvL at h
  split at h
  · cases h
  rename_i hne
  cases h
  intro p l e R s m args below meth c D cA ad H locs ls C hP hD hS hl0
  exact lv_ldiv C.1 C.2.1 hd hne (k p l e R s m args below meth c D cA ad H locs ls C hP hD hS hl0)
theorem Vm.lrem {x y z : Int64} (hd : decode X.2.1 pc = .ok (.lrem, 1)) (hn : pc + 1 = n) (h : rmL x y = some z) (k : Vm X d n lv (.inr (.inl z) :: st) M r M') : Vm X d pc lv (.inr (.inl y) :: .inr (.inl x) :: st) M r M' := by
  subst hn
  unfold rmL at h
  split at h
  · cases h
  rename_i hne
  cases h
  intro p l e R s m args below meth c D cA ad H locs ls C hP hD hS hl0
  exact lv_lrem C.1 C.2.1 hd hne (k p l e R s m args below meth c D cA ad H locs ls C hP hD hS hl0)
theorem Vm.iushr {x y : Int32} (hd : decode X.2.1 pc = .ok (.iushr, 1)) (hn : pc + 1 = n) (k : Vm X d n lv (.inl ((x.toUInt32 >>> (y.toUInt32 &&& Int32.toUInt32 31)).toInt32) :: st) M r M') : Vm X d pc lv (.inl y :: .inl x :: st) M r M' := by
  subst hn
  intro p l e R s m args below meth c D cA ad H locs ls C hP hD hS hl0
  exact lv_iushr C.1 C.2.1 hd rfl (k p l e R s m args below meth c D cA ad H locs ls C hP hD hS hl0)
theorem Vm.lshl {x : Int64} {y : Int32} (hd : decode X.2.1 pc = .ok (.lshl, 1)) (hn : pc + 1 = n) (k : Vm X d n lv (.inr (.inl (x <<< (y.toInt64 &&& 63))) :: st) M r M') : Vm X d pc lv (.inl y :: .inr (.inl x) :: st) M r M' := by
  subst hn
  intro p l e R s m args below meth c D cA ad H locs ls C hP hD hS hl0
  exact lv_lshl C.1 C.2.1 hd rfl (k p l e R s m args below meth c D cA ad H locs ls C hP hD hS hl0)
theorem Vm.lshr {x : Int64} {y : Int32} (hd : decode X.2.1 pc = .ok (.lshr, 1)) (hn : pc + 1 = n) (k : Vm X d n lv (.inr (.inl (x >>> (y.toInt64 &&& 63))) :: st) M r M') : Vm X d pc lv (.inl y :: .inr (.inl x) :: st) M r M' := by
  subst hn
  intro p l e R s m args below meth c D cA ad H locs ls C hP hD hS hl0
  exact lv_lshr C.1 C.2.1 hd rfl (k p l e R s m args below meth c D cA ad H locs ls C hP hD hS hl0)
theorem Vm.i2l {x : Int32} (hd : decode X.2.1 pc = .ok (.i2l, 1)) (hn : pc + 1 = n) (k : Vm X d n lv (.inr (.inl x.toInt64) :: st) M r M') : Vm X d pc lv (.inl x :: st) M r M' := by
  subst hn
  intro p l e R s m args below meth c D cA ad H locs ls C hP hD hS hl0
  exact lv_i2l C.1 C.2.1 hd rfl (k p l e R s m args below meth c D cA ad H locs ls C hP hD hS hl0)
theorem Vm.l2i {x : Int64} (hd : decode X.2.1 pc = .ok (.l2i, 1)) (hn : pc + 1 = n) (k : Vm X d n lv (.inl x.toInt32 :: st) M r M') : Vm X d pc lv (.inr (.inl x) :: st) M r M' := by
  subst hn
  intro p l e R s m args below meth c D cA ad H locs ls C hP hD hS hl0
  exact lv_l2i C.1 C.2.1 hd rfl (k p l e R s m args below meth c D cA ad H locs ls C hP hD hS hl0)
theorem Vm.i2b {x : Int32} (hd : decode X.2.1 pc = .ok (.i2b, 1)) (hn : pc + 1 = n) (k : Vm X d n lv (.inl x.toInt8.toInt32 :: st) M r M') : Vm X d pc lv (.inl x :: st) M r M' := by
  subst hn
  intro p l e R s m args below meth c D cA ad H locs ls C hP hD hS hl0
  exact lv_i2b C.1 C.2.1 hd rfl (k p l e R s m args below meth c D cA ad H locs ls C hP hD hS hl0)
theorem Vm.i2s {x : Int32} (hd : decode X.2.1 pc = .ok (.i2s, 1)) (hn : pc + 1 = n) (k : Vm X d n lv (.inl x.toInt16.toInt32 :: st) M r M') : Vm X d pc lv (.inl x :: st) M r M' := by
  subst hn
  intro p l e R s m args below meth c D cA ad H locs ls C hP hD hS hl0
  exact lv_i2s C.1 C.2.1 hd rfl (k p l e R s m args below meth c D cA ad H locs ls C hP hD hS hl0)
theorem Vm.i2c {x : Int32} (hd : decode X.2.1 pc = .ok (.i2c, 1)) (hn : pc + 1 = n) (k : Vm X d n lv (.inl (x.toUInt32 % 65536).toInt32 :: st) M r M') : Vm X d pc lv (.inl x :: st) M r M' := by
  subst hn
  intro p l e R s m args below meth c D cA ad H locs ls C hP hD hS hl0
  exact lv_i2c C.1 C.2.1 hd rfl (k p l e R s m args below meth c D cA ad H locs ls C hP hD hS hl0)
theorem Vm.bipush {z : Int} {v : Int32} (hd : decode X.2.1 pc = .ok (.bipush z, 2)) (hn : pc + 2 = n) (hv : (Int8.ofInt z).toInt32 = v) (k : Vm X d n lv (.inl v :: st) M r M') : Vm X d pc lv (st) M r M' := by
  subst hn
  intro p l e R s m args below meth c D cA ad H locs ls C hP hD hS hl0
  exact lv_bipush C.1 C.2.1 hd hv (k p l e R s m args below meth c D cA ad H locs ls C hP hD hS hl0)
theorem Vm.sipush {z : Int} {v : Int32} (hd : decode X.2.1 pc = .ok (.sipush z, 3)) (hn : pc + 3 = n) (hv : (Int16.ofInt z).toInt32 = v) (k : Vm X d n lv (.inl v :: st) M r M') : Vm X d pc lv (st) M r M' := by
  subst hn
  intro p l e R s m args below meth c D cA ad H locs ls C hP hD hS hl0
  exact lv_sipush C.1 C.2.1 hd hv (k p l e R s m args below meth c D cA ad H locs ls C hP hD hS hl0)
theorem Vm.lconst {z : Fin 2} {v : Int64} (hd : decode X.2.1 pc = .ok (.lconst z, 1)) (hn : pc + 1 = n) (hv : Int64.ofNat (z : Nat) = v) (k : Vm X d n lv (.inr (.inl v) :: st) M r M') : Vm X d pc lv (st) M r M' := by
  subst hn
  intro p l e R s m args below meth c D cA ad H locs ls C hP hD hS hl0
  exact lv_lconst C.1 C.2.1 hd hv (k p l e R s m args below meth c D cA ad H locs ls C hP hD hS hl0)
theorem Vm.ldc {z : Nat} {v : Int32} (hd : decode X.2.1 pc = .ok (.ldc z, 2)) (hn : pc + 2 = n) (hw : Cond.constant X.1.cls z v ∈ tg) (k : Vm X d n lv (.inl v :: st) M r M') : Vm X d pc lv (st) M r M' := by
  subst hn
  intro p l e R s m args below meth c D cA ad H locs ls C hP hD hS hl0
  exact lv_ldc C.1 C.2.1 C.2.2.2.1 (C.2.2.2.2.1 _ (List.mem_cons_of_mem _ hw)) hd (k p l e R s m args below meth c D cA ad H locs ls C hP hD hS hl0)
theorem Vm.ldc_w {z : Nat} {v : Int32} (hd : decode X.2.1 pc = .ok (.ldc_w z, 3)) (hn : pc + 3 = n) (hw : Cond.constant X.1.cls z v ∈ tg) (k : Vm X d n lv (.inl v :: st) M r M') : Vm X d pc lv (st) M r M' := by
  subst hn
  intro p l e R s m args below meth c D cA ad H locs ls C hP hD hS hl0
  exact lv_ldcw C.1 C.2.1 C.2.2.2.1 (C.2.2.2.2.1 _ (List.mem_cons_of_mem _ hw)) hd (k p l e R s m args below meth c D cA ad H locs ls C hP hD hS hl0)
theorem Vm.ldc2 {z : Nat} {v : Int64} (hd : decode X.2.1 pc = .ok (.ldc2_w z, 3)) (hn : pc + 3 = n) (hw : Cond.constantLong X.1.cls z v ∈ tg) (k : Vm X d n lv (.inr (.inl v) :: st) M r M') : Vm X d pc lv (st) M r M' := by
  subst hn
  intro p l e R s m args below meth c D cA ad H locs ls C hP hD hS hl0
  exact lv_ldc2 C.1 C.2.1 C.2.2.2.1 (C.2.2.2.2.1 _ (List.mem_cons_of_mem _ hw)) hd (k p l e R s m args below meth c D cA ad H locs ls C hP hD hS hl0)
theorem Vm.iload_n {i : Fin 4} {x : Int32} (q : Nat) (hd : decode X.2.1 pc = .ok (.iload_n i, 1)) (hn : pc + 1 = n) (hk : lv[q]? = some ((i : Nat), .inl x)) (k : Vm X d n lv (.inl x :: st) M r M') : Vm X d pc lv (st) M r M' := by
  subst hn
  intro p l e R s m args below meth c D cA ad H locs ls C hP hD hS hl0
  exact lv_iload_n C.1 C.2.1 hd rfl (lv_at hl0 q (lm_at hk)) (k p l e R s m args below meth c D cA ad H locs ls C hP hD hS hl0)
theorem Vm.iload {i : Nat} {x : Int32} (q : Nat) (hd : decode X.2.1 pc = .ok (.iload i, 2)) (hn : pc + 2 = n) (hk : lv[q]? = some (i, .inl x)) (k : Vm X d n lv (.inl x :: st) M r M') : Vm X d pc lv (st) M r M' := by
  subst hn
  intro p l e R s m args below meth c D cA ad H locs ls C hP hD hS hl0
  exact lv_iload C.1 C.2.1 hd (lv_at hl0 q (lm_at hk)) (k p l e R s m args below meth c D cA ad H locs ls C hP hD hS hl0)
theorem Vm.lload_n {i : Fin 4} {x : Int64} (q : Nat) (hd : decode X.2.1 pc = .ok (.lload_n i, 1)) (hn : pc + 1 = n) (hk : lv[q]? = some ((i : Nat), .inr (.inl x))) (k : Vm X d n lv (.inr (.inl x) :: st) M r M') : Vm X d pc lv (st) M r M' := by
  subst hn
  intro p l e R s m args below meth c D cA ad H locs ls C hP hD hS hl0
  exact lv_lload_n C.1 C.2.1 hd rfl (lv_at hl0 q (lm_at hk)) (k p l e R s m args below meth c D cA ad H locs ls C hP hD hS hl0)
theorem Vm.lload {i : Nat} {x : Int64} (q : Nat) (hd : decode X.2.1 pc = .ok (.lload i, 2)) (hn : pc + 2 = n) (hk : lv[q]? = some (i, .inr (.inl x))) (k : Vm X d n lv (.inr (.inl x) :: st) M r M') : Vm X d pc lv (st) M r M' := by
  subst hn
  intro p l e R s m args below meth c D cA ad H locs ls C hP hD hS hl0
  exact lv_lload C.1 C.2.1 hd (lv_at hl0 q (lm_at hk)) (k p l e R s m args below meth c D cA ad H locs ls C hP hD hS hl0)
theorem Vm.aload_n {i : Fin 4} {x : Nat × Nat} (q : Nat) (hd : decode X.2.1 pc = .ok (.aload_n i, 1)) (hn : pc + 1 = n) (hk : lv[q]? = some ((i : Nat), .inr (.inr x))) (k : Vm X d n lv (.inr (.inr x) :: st) M r M') : Vm X d pc lv (st) M r M' := by
  subst hn
  intro p l e R s m args below meth c D cA ad H locs ls C hP hD hS hl0
  exact lv_aload_n C.1 C.2.1 hd rfl (lv_at hl0 q (lm_at hk)) (k p l e R s m args below meth c D cA ad H locs ls C hP hD hS hl0)
theorem Vm.aload {i : Nat} {x : Nat × Nat} (q : Nat) (hd : decode X.2.1 pc = .ok (.aload i, 2)) (hn : pc + 2 = n) (hk : lv[q]? = some (i, .inr (.inr x))) (k : Vm X d n lv (.inr (.inr x) :: st) M r M') : Vm X d pc lv (st) M r M' := by
  subst hn
  intro p l e R s m args below meth c D cA ad H locs ls C hP hD hS hl0
  exact lv_aload C.1 C.2.1 hd (lv_at hl0 q (lm_at hk)) (k p l e R s m args below meth c D cA ad H locs ls C hP hD hS hl0)
def isl : mv → Bool
  | .inr (.inl _) => true
  | _ => false
theorem tv_cat (ad : Nat → Nat → Nat) (v : mv) : ((tv ad v).category == 2) = isl v := by
  rcases v with x | x | x <;> rfl
def ls1 (i : Nat) (v : mv) (lv : List (Nat × mv)) : List (Nat × mv) := (i, v) :: lv.filter (fun q => !(q.1 == i) && !(q.1 + 1 == i && isl q.2))
def ls2 (i : Nat) (v : mv) (lv : List (Nat × mv)) : List (Nat × mv) := (i, v) :: lv.filter (fun q => !(q.1 == i) && (!(q.1 == i + 1) && !(q.1 + 1 == i && isl q.2)))
theorem lm_ls1 (ad : Nat → Nat → Nat) (i : Nat) (v : mv) (lv : List (Nat × mv)) : (i, tv ad v) :: (lm ad lv).filter (fun q => !(q.1 == i) && !(q.1 + 1 == i && q.2.category == 2)) = lm ad (ls1 i v lv) := by
  unfold lm ls1
  rw [List.map_cons, List.filter_map]
  congr 2
  apply List.filter_congr
  intro q _
  simp only [Function.comp_apply, tv_cat]
theorem lm_ls2 (ad : Nat → Nat → Nat) (i : Nat) (v : mv) (lv : List (Nat × mv)) : (i, tv ad v) :: (lm ad lv).filter (fun q => !(q.1 == i) && (!(q.1 == i + 1) && !(q.1 + 1 == i && q.2.category == 2))) = lm ad (ls2 i v lv) := by
  unfold lm ls2
  rw [List.map_cons, List.filter_map]
  congr 2
  apply List.filter_congr
  intro q _
  simp only [Function.comp_apply, tv_cat]
theorem Vm.istore_n {i : Fin 4} {x : Int32} (hd : decode X.2.1 pc = .ok (.istore_n i, 1)) (hn : pc + 1 = n) (hi : (i : Nat) < X.2.2.1) (hl : ls1 (i : Nat) (.inl x) lv = lv') (k : Vm X d n lv' st M r M') : Vm X d pc lv (.inl x :: st) M r M' := by
  subst hn
  intro p l e R s m args below meth c D cA ad H locs ls C hP hD hS hl0
  exact lv_istore_n C.1 C.2.1 hd rfl hl0 hi (lm_ls1 ad _ (.inl x) lv) (fun ls2 hl2 => k p l e R s m args below meth c D cA ad H locs ls2 C hP hD hS (by rw [← hl]; exact hl2))
theorem Vm.istore {i : Nat} {x : Int32} (hd : decode X.2.1 pc = .ok (.istore i, 2)) (hn : pc + 2 = n) (hi : i < X.2.2.1) (hl : ls1 i (.inl x) lv = lv') (k : Vm X d n lv' st M r M') : Vm X d pc lv (.inl x :: st) M r M' := by
  subst hn
  intro p l e R s m args below meth c D cA ad H locs ls C hP hD hS hl0
  exact lv_istore C.1 C.2.1 hd hl0 hi (lm_ls1 ad _ (.inl x) lv) (fun ls2 hl2 => k p l e R s m args below meth c D cA ad H locs ls2 C hP hD hS (by rw [← hl]; exact hl2))
theorem Vm.lstore_n {i : Fin 4} {x : Int64} (hd : decode X.2.1 pc = .ok (.lstore_n i, 1)) (hn : pc + 1 = n) (hi : (i : Nat) + 1 < X.2.2.1) (hl : ls2 (i : Nat) (.inr (.inl x)) lv = lv') (k : Vm X d n lv' st M r M') : Vm X d pc lv (.inr (.inl x) :: st) M r M' := by
  subst hn
  intro p l e R s m args below meth c D cA ad H locs ls C hP hD hS hl0
  exact lv_lstore_n C.1 C.2.1 hd rfl hl0 hi (lm_ls2 ad _ (.inr (.inl x)) lv) (fun ls2 hl2 => k p l e R s m args below meth c D cA ad H locs ls2 C hP hD hS (by rw [← hl]; exact hl2))
theorem Vm.lstore {i : Nat} {x : Int64} (hd : decode X.2.1 pc = .ok (.lstore i, 2)) (hn : pc + 2 = n) (hi : i + 1 < X.2.2.1) (hl : ls2 i (.inr (.inl x)) lv = lv') (k : Vm X d n lv' st M r M') : Vm X d pc lv (.inr (.inl x) :: st) M r M' := by
  subst hn
  intro p l e R s m args below meth c D cA ad H locs ls C hP hD hS hl0
  exact lv_lstore C.1 C.2.1 hd hl0 hi (lm_ls2 ad _ (.inr (.inl x)) lv) (fun ls2 hl2 => k p l e R s m args below meth c D cA ad H locs ls2 C hP hD hS (by rw [← hl]; exact hl2))
theorem Vm.astore_n {i : Fin 4} {x : Nat × Nat} (hd : decode X.2.1 pc = .ok (.astore_n i, 1)) (hn : pc + 1 = n) (hi : (i : Nat) < X.2.2.1) (hl : ls1 (i : Nat) (.inr (.inr x)) lv = lv') (k : Vm X d n lv' st M r M') : Vm X d pc lv (.inr (.inr x) :: st) M r M' := by
  subst hn
  intro p l e R s m args below meth c D cA ad H locs ls C hP hD hS hl0
  exact lv_astore_n C.1 C.2.1 hd rfl hl0 hi (lm_ls1 ad _ (.inr (.inr x)) lv) (fun ls2 hl2 => k p l e R s m args below meth c D cA ad H locs ls2 C hP hD hS (by rw [← hl]; exact hl2))
theorem Vm.astore {i : Nat} {x : Nat × Nat} (hd : decode X.2.1 pc = .ok (.astore i, 2)) (hn : pc + 2 = n) (hi : i < X.2.2.1) (hl : ls1 i (.inr (.inr x)) lv = lv') (k : Vm X d n lv' st M r M') : Vm X d pc lv (.inr (.inr x) :: st) M r M' := by
  subst hn
  intro p l e R s m args below meth c D cA ad H locs ls C hP hD hS hl0
  exact lv_astore C.1 C.2.1 hd hl0 hi (lm_ls1 ad _ (.inr (.inr x)) lv) (fun ls2 hl2 => k p l e R s m args below meth c D cA ad H locs ls2 C hP hD hS (by rw [← hl]; exact hl2))
theorem Vm.iinc {i : Nat} {z : Int} {x v : Int32} (q : Nat) (hd : decode X.2.1 pc = .ok (.iinc i z, 3)) (hn : pc + 3 = n) (hk : lv[q]? = some (i, .inl x)) (hv : x + Int32.ofInt z = v) (hi : i < X.2.2.1) (hl : ls1 i (.inl v) lv = lv') (k : Vm X d n lv' st M r M') : Vm X d pc lv st M r M' := by
  subst hn
  intro p l e R s m args below meth c D cA ad H locs ls C hP hD hS hl0
  exact lv_iinc C.1 C.2.1 hd hl0 (lm_at hk) hv hi (lm_ls1 ad _ (.inl v) lv) (fun ls2 hl2 => k p l e R s m args below meth c D cA ad H locs ls2 C hP hD hS (by rw [← hl]; exact hl2))
theorem tv_cat1 (ad : Nat → Nat → Nat) {v : mv} (h : isl v = false) : (tv ad v).category = 1 := by
  rcases v with x | x | x
  · rfl
  · cases h
  · rfl
theorem Vm.dup {v : mv} (hd : decode X.2.1 pc = .ok (.dup, 1)) (hn : pc + 1 = n) (hv : isl v = false) (k : Vm X d n lv (v :: v :: st) M r M') : Vm X d pc lv (v :: st) M r M' := by
  subst hn
  intro p l e R s m args below meth c D cA ad H locs ls C hP hD hS hl0
  exact lv_dup C.1 C.2.1 hd (tv_cat1 ad hv) (k p l e R s m args below meth c D cA ad H locs ls C hP hD hS hl0)
theorem Vm.pop {v : mv} (hd : decode X.2.1 pc = .ok (.pop, 1)) (hn : pc + 1 = n) (hv : isl v = false) (k : Vm X d n lv (st) M r M') : Vm X d pc lv (v :: st) M r M' := by
  subst hn
  intro p l e R s m args below meth c D cA ad H locs ls C hP hD hS hl0
  exact lv_pop C.1 C.2.1 hd (tv_cat1 ad hv) (k p l e R s m args below meth c D cA ad H locs ls C hP hD hS hl0)
theorem Vm.dup2 {v w : mv} (hd : decode X.2.1 pc = .ok (.dup2, 1)) (hn : pc + 1 = n) (hv : isl v = false) (hw : isl w = false) (k : Vm X d n lv (v :: w :: v :: w :: st) M r M') : Vm X d pc lv (v :: w :: st) M r M' := by
  subst hn
  intro p l e R s m args below meth c D cA ad H locs ls C hP hD hS hl0
  exact lv_dup2_11 C.1 C.2.1 hd (tv_cat1 ad hv) (tv_cat1 ad hw) (k p l e R s m args below meth c D cA ad H locs ls C hP hD hS hl0)
theorem Vm.dup_x1 {v w : mv} (hd : decode X.2.1 pc = .ok (.dup_x1, 1)) (hn : pc + 1 = n) (hv : isl v = false) (hw : isl w = false) (k : Vm X d n lv (v :: w :: v :: st) M r M') : Vm X d pc lv (v :: w :: st) M r M' := by
  subst hn
  intro p l e R s m args below meth c D cA ad H locs ls C hP hD hS hl0
  exact lv_dup_x1 C.1 C.2.1 hd (tv_cat1 ad hv) (tv_cat1 ad hw) (k p l e R s m args below meth c D cA ad H locs ls C hP hD hS hl0)
theorem Vm.lcmp {x y : Int64} (hd : decode X.2.1 pc = .ok (.lcmp, 1)) (hn : pc + 1 = n) (k : Vm X d n lv (.inl (lg_cmp x y) :: st) M r M') : Vm X d pc lv (.inr (.inl y) :: .inr (.inl x) :: st) M r M' := by
  subst hn
  intro p l e R s m args below meth c D cA ad H locs ls C hP hD hS hl0
  exact W.lcmp C.1 C.2.1 hd (k p l e R s m args below meth c D cA ad H locs ls C hP hD hS hl0)
theorem Vm.if_eq {x : Int32} {off : Int} (t : Nat) (hd : decode X.2.1 pc = .ok (.ifCond .eq off, 3)) (ht : (pc : Int) + off = (t : Int)) (hn : pc + 3 = n) (k1 : x = 0 → Vm X d t lv st M r M') (k2 : ¬ x = 0 → Vm X d n lv st M r M') : Vm X d pc lv (.inl x :: st) M r M' := by
  subst hn
  intro p l e R s m args below meth c D cA ad H locs ls C hP hD hS hl0
  exact lv_if_eq C.1 C.2.1 hd ht (fun h9 => (k1 h9 p l e R s m args below meth c D cA ad H locs ls C hP hD hS hl0)) (fun h9 => (k2 h9 p l e R s m args below meth c D cA ad H locs ls C hP hD hS hl0))
theorem Vm.if_ne {x : Int32} {off : Int} (t : Nat) (hd : decode X.2.1 pc = .ok (.ifCond .ne off, 3)) (ht : (pc : Int) + off = (t : Int)) (hn : pc + 3 = n) (k1 : ¬ x = 0 → Vm X d t lv st M r M') (k2 : x = 0 → Vm X d n lv st M r M') : Vm X d pc lv (.inl x :: st) M r M' := by
  subst hn
  intro p l e R s m args below meth c D cA ad H locs ls C hP hD hS hl0
  exact lv_if_ne C.1 C.2.1 hd ht (fun h9 => (k1 h9 p l e R s m args below meth c D cA ad H locs ls C hP hD hS hl0)) (fun h9 => (k2 h9 p l e R s m args below meth c D cA ad H locs ls C hP hD hS hl0))
theorem Vm.if_lt {x : Int32} {off : Int} (t : Nat) (hd : decode X.2.1 pc = .ok (.ifCond .lt off, 3)) (ht : (pc : Int) + off = (t : Int)) (hn : pc + 3 = n) (k1 : x < 0 → Vm X d t lv st M r M') (k2 : ¬ x < 0 → Vm X d n lv st M r M') : Vm X d pc lv (.inl x :: st) M r M' := by
  subst hn
  intro p l e R s m args below meth c D cA ad H locs ls C hP hD hS hl0
  exact lv_if_lt C.1 C.2.1 hd ht (fun h9 => (k1 h9 p l e R s m args below meth c D cA ad H locs ls C hP hD hS hl0)) (fun h9 => (k2 h9 p l e R s m args below meth c D cA ad H locs ls C hP hD hS hl0))
theorem Vm.if_ge {x : Int32} {off : Int} (t : Nat) (hd : decode X.2.1 pc = .ok (.ifCond .ge off, 3)) (ht : (pc : Int) + off = (t : Int)) (hn : pc + 3 = n) (k1 : 0 ≤ x → Vm X d t lv st M r M') (k2 : ¬ 0 ≤ x → Vm X d n lv st M r M') : Vm X d pc lv (.inl x :: st) M r M' := by
  subst hn
  intro p l e R s m args below meth c D cA ad H locs ls C hP hD hS hl0
  exact lv_if_ge C.1 C.2.1 hd ht (fun h9 => (k1 h9 p l e R s m args below meth c D cA ad H locs ls C hP hD hS hl0)) (fun h9 => (k2 h9 p l e R s m args below meth c D cA ad H locs ls C hP hD hS hl0))
theorem Vm.if_gt {x : Int32} {off : Int} (t : Nat) (hd : decode X.2.1 pc = .ok (.ifCond .gt off, 3)) (ht : (pc : Int) + off = (t : Int)) (hn : pc + 3 = n) (k1 : 0 < x → Vm X d t lv st M r M') (k2 : ¬ 0 < x → Vm X d n lv st M r M') : Vm X d pc lv (.inl x :: st) M r M' := by
  subst hn
  intro p l e R s m args below meth c D cA ad H locs ls C hP hD hS hl0
  exact lv_if_gt C.1 C.2.1 hd ht (fun h9 => (k1 h9 p l e R s m args below meth c D cA ad H locs ls C hP hD hS hl0)) (fun h9 => (k2 h9 p l e R s m args below meth c D cA ad H locs ls C hP hD hS hl0))
theorem Vm.if_le {x : Int32} {off : Int} (t : Nat) (hd : decode X.2.1 pc = .ok (.ifCond .le off, 3)) (ht : (pc : Int) + off = (t : Int)) (hn : pc + 3 = n) (k1 : x ≤ 0 → Vm X d t lv st M r M') (k2 : ¬ x ≤ 0 → Vm X d n lv st M r M') : Vm X d pc lv (.inl x :: st) M r M' := by
  subst hn
  intro p l e R s m args below meth c D cA ad H locs ls C hP hD hS hl0
  exact lv_if_le C.1 C.2.1 hd ht (fun h9 => (k1 h9 p l e R s m args below meth c D cA ad H locs ls C hP hD hS hl0)) (fun h9 => (k2 h9 p l e R s m args below meth c D cA ad H locs ls C hP hD hS hl0))
theorem Vm.icmp_eq {x y : Int32} {off : Int} (t : Nat) (hd : decode X.2.1 pc = .ok (.if_icmp .eq off, 3)) (ht : (pc : Int) + off = (t : Int)) (hn : pc + 3 = n) (k1 : x = y → Vm X d t lv st M r M') (k2 : ¬ x = y → Vm X d n lv st M r M') : Vm X d pc lv (.inl y :: .inl x :: st) M r M' := by
  subst hn
  intro p l e R s m args below meth c D cA ad H locs ls C hP hD hS hl0
  exact lv_icmp_eq C.1 C.2.1 hd ht (fun h9 => (k1 h9 p l e R s m args below meth c D cA ad H locs ls C hP hD hS hl0)) (fun h9 => (k2 h9 p l e R s m args below meth c D cA ad H locs ls C hP hD hS hl0))
theorem Vm.icmp_ne {x y : Int32} {off : Int} (t : Nat) (hd : decode X.2.1 pc = .ok (.if_icmp .ne off, 3)) (ht : (pc : Int) + off = (t : Int)) (hn : pc + 3 = n) (k1 : ¬ x = y → Vm X d t lv st M r M') (k2 : x = y → Vm X d n lv st M r M') : Vm X d pc lv (.inl y :: .inl x :: st) M r M' := by
  subst hn
  intro p l e R s m args below meth c D cA ad H locs ls C hP hD hS hl0
  exact lv_icmp_ne C.1 C.2.1 hd ht (fun h9 => (k1 h9 p l e R s m args below meth c D cA ad H locs ls C hP hD hS hl0)) (fun h9 => (k2 h9 p l e R s m args below meth c D cA ad H locs ls C hP hD hS hl0))
theorem Vm.icmp_lt {x y : Int32} {off : Int} (t : Nat) (hd : decode X.2.1 pc = .ok (.if_icmp .lt off, 3)) (ht : (pc : Int) + off = (t : Int)) (hn : pc + 3 = n) (k1 : x < y → Vm X d t lv st M r M') (k2 : ¬ x < y → Vm X d n lv st M r M') : Vm X d pc lv (.inl y :: .inl x :: st) M r M' := by
  subst hn
  intro p l e R s m args below meth c D cA ad H locs ls C hP hD hS hl0
  exact lv_icmp_lt C.1 C.2.1 hd ht (fun h9 => (k1 h9 p l e R s m args below meth c D cA ad H locs ls C hP hD hS hl0)) (fun h9 => (k2 h9 p l e R s m args below meth c D cA ad H locs ls C hP hD hS hl0))
theorem Vm.icmp_ge {x y : Int32} {off : Int} (t : Nat) (hd : decode X.2.1 pc = .ok (.if_icmp .ge off, 3)) (ht : (pc : Int) + off = (t : Int)) (hn : pc + 3 = n) (k1 : y ≤ x → Vm X d t lv st M r M') (k2 : ¬ y ≤ x → Vm X d n lv st M r M') : Vm X d pc lv (.inl y :: .inl x :: st) M r M' := by
  subst hn
  intro p l e R s m args below meth c D cA ad H locs ls C hP hD hS hl0
  exact lv_icmp_ge C.1 C.2.1 hd ht (fun h9 => (k1 h9 p l e R s m args below meth c D cA ad H locs ls C hP hD hS hl0)) (fun h9 => (k2 h9 p l e R s m args below meth c D cA ad H locs ls C hP hD hS hl0))
theorem Vm.icmp_gt {x y : Int32} {off : Int} (t : Nat) (hd : decode X.2.1 pc = .ok (.if_icmp .gt off, 3)) (ht : (pc : Int) + off = (t : Int)) (hn : pc + 3 = n) (k1 : y < x → Vm X d t lv st M r M') (k2 : ¬ y < x → Vm X d n lv st M r M') : Vm X d pc lv (.inl y :: .inl x :: st) M r M' := by
  subst hn
  intro p l e R s m args below meth c D cA ad H locs ls C hP hD hS hl0
  exact lv_icmp_gt C.1 C.2.1 hd ht (fun h9 => (k1 h9 p l e R s m args below meth c D cA ad H locs ls C hP hD hS hl0)) (fun h9 => (k2 h9 p l e R s m args below meth c D cA ad H locs ls C hP hD hS hl0))
theorem Vm.icmp_le {x y : Int32} {off : Int} (t : Nat) (hd : decode X.2.1 pc = .ok (.if_icmp .le off, 3)) (ht : (pc : Int) + off = (t : Int)) (hn : pc + 3 = n) (k1 : x ≤ y → Vm X d t lv st M r M') (k2 : ¬ x ≤ y → Vm X d n lv st M r M') : Vm X d pc lv (.inl y :: .inl x :: st) M r M' := by
  subst hn
  intro p l e R s m args below meth c D cA ad H locs ls C hP hD hS hl0
  exact lv_icmp_le C.1 C.2.1 hd ht (fun h9 => (k1 h9 p l e R s m args below meth c D cA ad H locs ls C hP hD hS hl0)) (fun h9 => (k2 h9 p l e R s m args below meth c D cA ad H locs ls C hP hD hS hl0))
theorem Vm.goto {off : Int} (t : Nat) (hd : decode X.2.1 pc = .ok (.goto off, 3)) (ht : (pc : Int) + off = (t : Int)) (k : Vm X d t lv st M r M') : Vm X d pc lv st M r M' := by
  intro p l e R s m args below meth c D cA ad H locs ls C hP hD hS hl0
  exact lv_goto C.1 C.2.1 hd ht (k p l e R s m args below meth c D cA ad H locs ls C hP hD hS hl0)
theorem Vm.tswI {dflt lo hi : Int} {offs : Array Int} {len : Nat} {x : Int32} {off : Int} (v : Int) (t : Nat) (hd : decode X.2.1 pc = .ok (.tableswitch dflt lo hi offs, len)) (hx : x.toInt = v) (h1 : lo ≤ v ∧ v ≤ hi) (ho : offs[(v - lo).toNat]? = some off) (ht : (pc : Int) + off = (t : Int)) (k : Vm X d t lv st M r M') : Vm X d pc lv (.inl x :: st) M r M' := by
  intro p l e R s m args below meth c D cA ad H locs ls C hP hD hS hl0
  subst hx
  exact lv_tableIn C.1 C.2.1 hd (by omega) (by omega) ho ht (k p l e R s m args below meth c D cA ad H locs ls C hP hD hS hl0)
theorem Vm.tswO {dflt lo hi : Int} {offs : Array Int} {len : Nat} {x : Int32} (t : Nat) (hd : decode X.2.1 pc = .ok (.tableswitch dflt lo hi offs, len)) (hx : x.toInt < lo ∨ hi < x.toInt) (ht : (pc : Int) + dflt = (t : Int)) (k : Vm X d t lv st M r M') : Vm X d pc lv (.inl x :: st) M r M' := by
  intro p l e R s m args below meth c D cA ad H locs ls C hP hD hS hl0
  exact lv_tableOut C.1 C.2.1 hd hx ht (k p l e R s m args below meth c D cA ad H locs ls C hP hD hS hl0)
theorem Vm.iret {v : Int32} (hd : decode X.2.1 pc = .ok (.ireturn, 1)) (hr : X.2.2.2 = some .int) (h1 : r = some (.inl v)) (h2 : M = M') : Vm X d pc lv [.inl v] M r M' := by
  subst h1
  subst h2
  intro p l e R s m args below meth c D cA ad H locs ls C hP hD hS hl0
  exact W.iret C.1 C.2.1 (C.2.2.2.2.2.1.trans hr) (fun t ht hW => ⟨rfl, by rw [ht]; exact hP, hS.F ht⟩) hS.2.2 hd (hlocks := C.2.2.2.2.2.2.1)
theorem nar_bool (b : Bool) : narrow .boolean (.int (bi b)) = .int (bi b) := by cases b <;> rfl
theorem Vm.zret {b : Bool} {v : Int32} (hd : decode X.2.1 pc = .ok (.ireturn, 1)) (hr : X.2.2.2 = some .boolean) (hv : v = bi b) (h1 : r = some (.inl (bi b))) (h2 : M = M') : Vm X d pc lv [.inl v] M r M' := by
  subst h1
  subst h2
  subst hv
  intro p l e R s m args below meth c D cA ad H locs ls C hP hD hS hl0
  exact W.zret C.1 C.2.1 (C.2.2.2.2.2.1.trans hr) (nar_bool b) (fun t ht hW => ⟨rfl, by rw [ht]; exact hP, hS.F ht⟩) hS.2.2 hd (hlocks := C.2.2.2.2.2.2.1)
theorem Vm.lret {v : Int64} (hd : decode X.2.1 pc = .ok (.lreturn, 1)) (hr : X.2.2.2 = some .long) (h1 : r = some (.inr (.inl v))) (h2 : M = M') : Vm X d pc lv [.inr (.inl v)] M r M' := by
  subst h1
  subst h2
  intro p l e R s m args below meth c D cA ad H locs ls C hP hD hS hl0
  exact W.lret C.1 C.2.1 (C.2.2.2.2.2.1.trans hr) (fun t ht hW => ⟨rfl, by rw [ht]; exact hP, hS.F ht⟩) hS.2.2 hd (hlocks := C.2.2.2.2.2.2.1)
theorem Vm.vret (hd : decode X.2.1 pc = .ok (.return_, 1)) (hr : X.2.2.2 = none) (h1 : r = none) (h2 : M = M') : Vm X d pc lv [] M r M' := by
  subst h1
  subst h2
  intro p l e R s m args below meth c D cA ad H locs ls C hP hD hS hl0
  exact W.vret C.1 C.2.1 (C.2.2.2.2.2.1.trans hr) (fun t ht hW => ⟨rfl, by rw [ht]; exact hP, hS.F ht⟩) hS.2.2 hd (hlocks := C.2.2.2.2.2.2.1)
theorem Vm.aret {v : Nat × Nat} {cn : String} (hd : decode X.2.1 pc = .ok (.areturn, 1)) (hr : X.2.2.2 = some (.object cn)) (h1 : r = some (.inr (.inr v))) (h2 : M = M') : Vm X d pc lv [.inr (.inr v)] M r M' := by
  subst h1
  subst h2
  intro p l e R s m args below meth c D cA ad H locs ls C hP hD hS hl0
  exact W.aret C.1 C.2.1 (C.2.2.2.2.2.1.trans hr) (Or.inl ⟨_, rfl⟩) (Or.inr ⟨_, rfl⟩) (fun t ht hW => ⟨rfl, by rw [ht]; exact hP, hS.F ht⟩) hS.2.2 hd (hlocks := C.2.2.2.2.2.2.1)
theorem zr_bi {x : Int32} {b : Bool} (h : zr x = some b) : x = bi b := by
  unfold zr at h
  split at h
  · cases h; assumption
  · split at h
    · cases h; assumption
    · cases h
end VR2
