-- the rules with the memory as a pair, and which cells there are
theorem ik_0 : (0, 3) ∈ kinds := by decide
theorem in_1 : (1, 0) ∈ allk := ink (n := 1) (by decide) (by decide)
theorem in_2 : (2, 0) ∈ allk := ink (n := 1) (by decide) (by decide)
theorem in_3 : (3, 0) ∈ allk := ink (n := 1) (by decide) (by decide)
theorem ik_4 : (4, 24) ∈ kinds := by decide
theorem ik_5 : (5, 4) ∈ kinds := by decide
theorem in_6 : (6, 0) ∈ allk := ink (n := 1) (by decide) (by decide)
theorem in_7 : (7, 0) ∈ allk := ink (n := 1) (by decide) (by decide)
theorem ik_8 : (8, 3) ∈ kinds := by decide
theorem ik_9 : (9, 3) ∈ kinds := by decide
theorem ik_10 : (10, 24) ∈ kinds := by decide
theorem ik_11 : (11, 12) ∈ kinds := by decide
theorem in_12 : (12, 0) ∈ allk := ink (n := 1) (by decide) (by decide)
theorem in_13 : (13, 0) ∈ allk := ink (n := 1) (by decide) (by decide)
theorem in_14 : (14, 0) ∈ allk := ink (n := 1) (by decide) (by decide)
theorem in_15 : (15, 0) ∈ allk := ink (n := 1) (by decide) (by decide)
theorem in_16 : (16, 0) ∈ allk := ink (n := 1) (by decide) (by decide)
theorem in_17 : (17, 0) ∈ allk := ink (n := 1) (by decide) (by decide)
theorem in_18 : (18, 0) ∈ allk := ink (n := 1) (by decide) (by decide)
theorem in_19 : (19, 0) ∈ allk := ink (n := 1) (by decide) (by decide)
theorem in_20 : (20, 0) ∈ allk := ink (n := 1) (by decide) (by decide)
theorem in_21 : (21, 0) ∈ allk := ink (n := 1) (by decide) (by decide)
theorem in_22 : (22, 0) ∈ allk := ink (n := 1) (by decide) (by decide)
theorem ik_23 : (23, 4) ∈ kinds := by decide
theorem in_24 : (24, 0) ∈ allk := ink (n := 1) (by decide) (by decide)
theorem in_25 : (25, 0) ∈ allk := ink (n := 1) (by decide) (by decide)
theorem ik_26 : (26, 4) ∈ kinds := by decide
theorem ik_27 : (27, 3) ∈ kinds := by decide
theorem ik_28 : (28, 3) ∈ kinds := by decide
theorem in_29 : (29, 0) ∈ allk := ink (n := 1) (by decide) (by decide)
theorem in_30 : (30, 0) ∈ allk := ink (n := 1) (by decide) (by decide)
theorem in_32 : (32, 0) ∈ allk := ink (n := 1) (by decide) (by decide)
theorem in_40 : (40, 0) ∈ allk := ink (n := 1) (by decide) (by decide)
theorem in_42 : (42, 0) ∈ allk := ink (n := 1) (by decide) (by decide)
theorem in_43 : (43, 0) ∈ allk := ink (n := 1) (by decide) (by decide)
theorem in_45 : (45, 0) ∈ allk := ink (n := 1) (by decide) (by decide)
theorem in_46 : (46, 0) ∈ allk := ink (n := 1) (by decide) (by decide)
theorem in_47 : (47, 0) ∈ allk := ink (n := 1) (by decide) (by decide)
theorem in_48 : (48, 0) ∈ allk := ink (n := 1) (by decide) (by decide)
theorem in_49 : (49, 0) ∈ allk := ink (n := 1) (by decide) (by decide)
theorem in_50 : (50, 0) ∈ allk := ink (n := 1) (by decide) (by decide)
theorem in_55 : (55, 0) ∈ allk := ink (n := 1) (by decide) (by decide)
theorem in_56 : (56, 0) ∈ allk := ink (n := 1) (by decide) (by decide)
theorem in_57 : (57, 0) ∈ allk := ink (n := 1) (by decide) (by decide)
theorem in_62 : (62, 0) ∈ allk := ink (n := 1) (by decide) (by decide)
theorem in_63 : (63, 0) ∈ allk := ink (n := 1) (by decide) (by decide)
theorem in_65 : (65, 0) ∈ allk := ink (n := 1) (by decide) (by decide)
theorem in_66 : (66, 0) ∈ allk := ink (n := 1) (by decide) (by decide)
theorem in_67 : (67, 0) ∈ allk := ink (n := 1) (by decide) (by decide)
theorem in_74 : (74, 0) ∈ allk := ink (n := 1) (by decide) (by decide)
theorem in_75 : (75, 0) ∈ allk := ink (n := 1) (by decide) (by decide)
theorem in_76 : (76, 0) ∈ allk := ink (n := 1) (by decide) (by decide)
theorem in_77 : (77, 0) ∈ allk := ink (n := 1) (by decide) (by decide)
theorem in_78 : (78, 0) ∈ allk := ink (n := 1) (by decide) (by decide)
theorem in_79 : (79, 0) ∈ allk := ink (n := 1) (by decide) (by decide)
theorem in_80 : (80, 0) ∈ allk := ink (n := 1) (by decide) (by decide)
section VSU
variable {X : md} {d pc n : Nat} {lv : List (Nat × mv)} {st : List mv} {M M2 M' : mm × mm} {σ τ : mm} {r : Option mv} {c i j ci nf idx n0 c' i' n1 : Nat}
theorem Vm.mem (h : M = M2) (k : Vm X d pc lv st M2 r M') : Vm X d pc lv st M r M' := h ▸ k
theorem Vm.gX (hd : decode X.2.1 pc = .ok (.getfield idx, 3)) (hn : pc + 3 = n) (hw : fw X.1.cls idx ci j ∈ tg) (hq : (c, i) ∈ allk) (hk : kcls c = some (ci, nf)) (hj : j < nf) (hr : kref c i j = none) (hc : c < 32) (k : Vm X d n lv (.inl (σ.1 c i j) :: st) (σ, τ) r M') : Vm X d pc lv (.inr (.inr (c, i)) :: st) (σ, τ) r M' := Vm.getX hd hn hw hq hk hj hr hc k
theorem Vm.pX {v : Int32} {ty : FieldType} (hd : decode X.2.1 pc = .ok (.putfield idx, 3)) (hn : pc + 3 = n) (hw : fw X.1.cls idx ci j ∈ tg) (hq : (c, i) ∈ allk) (hk : kcls c = some (ci, nf)) (hj : j < nf) (hr : kref c i j = none) (hc : c < 32) (hfin : ((cq ci).2.1 j).2.2.2 = false) (hty : cty ci j = ty) (hna : narrow ty (.int v) = .int v) (hfi : fits ty (.int v) = true) (k : Vm X d n lv st (stI σ c i j v, τ) r M') : Vm X d pc lv (.inl v :: .inr (.inr (c, i)) :: st) (σ, τ) r M' := Vm.putX hd hn hw hq hk hj hr hc hfin hty hna hfi k
theorem Vm.ialdx {x : Int32} {v : Int32} (hd : decode X.2.1 pc = .ok (.iaload, 1)) (hn : pc + 1 = n) (hq : (c, i) ∈ allk) (hk : kcls c = none) (ha : karr c = (0, n0)) (hc : c < 32) (h : rdI σ c i n0 x = some v) (k : Vm X d n lv (.inl v :: st) (σ, τ) r M') : Vm X d pc lv (.inl x :: .inr (.inr (c, i)) :: st) (σ, τ) r M' := Vm.ialdX hd hn hq hk ha hc h k
theorem Vm.laldx {x : Int32} {v : Int64} (hd : decode X.2.1 pc = .ok (.laload, 1)) (hn : pc + 1 = n) (hq : (c, i) ∈ allk) (hk : kcls c = none) (ha : karr c = (1, n0)) (hc : c < 32) (h : rdL σ c i n0 x = some v) (k : Vm X d n lv (.inr (.inl v) :: st) (σ, τ) r M') : Vm X d pc lv (.inl x :: .inr (.inr (c, i)) :: st) (σ, τ) r M' := Vm.laldX hd hn hq hk ha hc h k
theorem Vm.baldx {x : Int32} {v : Int32} (hd : decode X.2.1 pc = .ok (.baload, 1)) (hn : pc + 1 = n) (hq : (c, i) ∈ allk) (hk : kcls c = none) (ha : karr c = (2, n0)) (hc : c < 32) (h : rdI σ c i n0 x = some v) (k : Vm X d n lv (.inl v :: st) (σ, τ) r M') : Vm X d pc lv (.inl x :: .inr (.inr (c, i)) :: st) (σ, τ) r M' := Vm.baldX hd hn hq hk ha hc h k
theorem Vm.caldx {x : Int32} {v : Int32} (hd : decode X.2.1 pc = .ok (.caload, 1)) (hn : pc + 1 = n) (hq : (c, i) ∈ allk) (hk : kcls c = none) (ha : karr c = (3, n0)) (hc : c < 32) (h : rdI σ c i n0 x = some v) (k : Vm X d n lv (.inl v :: st) (σ, τ) r M') : Vm X d pc lv (.inl x :: .inr (.inr (c, i)) :: st) (σ, τ) r M' := Vm.caldX hd hn hq hk ha hc h k
theorem Vm.iastx {x : Int32} {v : Int32} {σ2 : mm} (hd : decode X.2.1 pc = .ok (.iastore, 1)) (hn : pc + 1 = n) (hq : (c, i) ∈ allk) (hk : kcls c = none) (ha : karr c = (0, n0)) (hc : c < 32) (h : wrI σ c i n0 x v = some σ2) (k : Vm X d n lv st (σ2, τ) r M') : Vm X d pc lv (.inl v :: .inl x :: .inr (.inr (c, i)) :: st) (σ, τ) r M' := Vm.iastX hd hn hq hk ha hc h k
theorem Vm.lastx {x : Int32} {v : Int64} {σ2 : mm} (hd : decode X.2.1 pc = .ok (.lastore, 1)) (hn : pc + 1 = n) (hq : (c, i) ∈ allk) (hk : kcls c = none) (ha : karr c = (1, n0)) (hc : c < 32) (h : wrL σ c i n0 x v = some σ2) (k : Vm X d n lv st (σ2, τ) r M') : Vm X d pc lv (.inr (.inl v) :: .inl x :: .inr (.inr (c, i)) :: st) (σ, τ) r M' := Vm.lastX hd hn hq hk ha hc h k
theorem Vm.bastx {x : Int32} {v : Int32} {σ2 : mm} (hd : decode X.2.1 pc = .ok (.bastore, 1)) (hn : pc + 1 = n) (hq : (c, i) ∈ allk) (hk : kcls c = none) (ha : karr c = (2, n0)) (hc : c < 32) (h : wrI σ c i n0 x (vp_nar .byte v) = some σ2) (k : Vm X d n lv st (σ2, τ) r M') : Vm X d pc lv (.inl v :: .inl x :: .inr (.inr (c, i)) :: st) (σ, τ) r M' := Vm.bastX hd hn hq hk ha hc h k
theorem Vm.gM (hd : decode X.2.1 pc = .ok (.getfield idx, 3)) (hn : pc + 3 = n) (hw : fw X.1.cls idx ci j ∈ tg) (hq : (c, i) ∈ allk) (hk : kcls c = some (ci, nf)) (hj : j < nf) (hr : kref c i j = none) (hc : ¬ c < 32) (k : Vm X d n lv (.inl (σ.1 c i j) :: st) (τ, σ) r M') : Vm X d pc lv (.inr (.inr (c, i)) :: st) (τ, σ) r M' := Vm.getM hd hn hw hq hk hj hr hc k
theorem Vm.pM {v : Int32} {ty : FieldType} (hd : decode X.2.1 pc = .ok (.putfield idx, 3)) (hn : pc + 3 = n) (hw : fw X.1.cls idx ci j ∈ tg) (hq : (c, i) ∈ allk) (hk : kcls c = some (ci, nf)) (hj : j < nf) (hr : kref c i j = none) (hc : ¬ c < 32) (hfin : ((cq ci).2.1 j).2.2.2 = false) (hty : cty ci j = ty) (hna : narrow ty (.int v) = .int v) (hfi : fits ty (.int v) = true) (k : Vm X d n lv st (τ, stI σ c i j v) r M') : Vm X d pc lv (.inl v :: .inr (.inr (c, i)) :: st) (τ, σ) r M' := Vm.putM hd hn hw hq hk hj hr hc hfin hty hna hfi k
theorem Vm.ialdm {x : Int32} {v : Int32} (hd : decode X.2.1 pc = .ok (.iaload, 1)) (hn : pc + 1 = n) (hq : (c, i) ∈ allk) (hk : kcls c = none) (ha : karr c = (0, n0)) (hc : ¬ c < 32) (h : rdI σ c i n0 x = some v) (k : Vm X d n lv (.inl v :: st) (τ, σ) r M') : Vm X d pc lv (.inl x :: .inr (.inr (c, i)) :: st) (τ, σ) r M' := Vm.ialdM hd hn hq hk ha hc h k
theorem Vm.laldm {x : Int32} {v : Int64} (hd : decode X.2.1 pc = .ok (.laload, 1)) (hn : pc + 1 = n) (hq : (c, i) ∈ allk) (hk : kcls c = none) (ha : karr c = (1, n0)) (hc : ¬ c < 32) (h : rdL σ c i n0 x = some v) (k : Vm X d n lv (.inr (.inl v) :: st) (τ, σ) r M') : Vm X d pc lv (.inl x :: .inr (.inr (c, i)) :: st) (τ, σ) r M' := Vm.laldM hd hn hq hk ha hc h k
theorem Vm.baldm {x : Int32} {v : Int32} (hd : decode X.2.1 pc = .ok (.baload, 1)) (hn : pc + 1 = n) (hq : (c, i) ∈ allk) (hk : kcls c = none) (ha : karr c = (2, n0)) (hc : ¬ c < 32) (h : rdI σ c i n0 x = some v) (k : Vm X d n lv (.inl v :: st) (τ, σ) r M') : Vm X d pc lv (.inl x :: .inr (.inr (c, i)) :: st) (τ, σ) r M' := Vm.baldM hd hn hq hk ha hc h k
theorem Vm.caldm {x : Int32} {v : Int32} (hd : decode X.2.1 pc = .ok (.caload, 1)) (hn : pc + 1 = n) (hq : (c, i) ∈ allk) (hk : kcls c = none) (ha : karr c = (3, n0)) (hc : ¬ c < 32) (h : rdI σ c i n0 x = some v) (k : Vm X d n lv (.inl v :: st) (τ, σ) r M') : Vm X d pc lv (.inl x :: .inr (.inr (c, i)) :: st) (τ, σ) r M' := Vm.caldM hd hn hq hk ha hc h k
theorem Vm.iastm {x : Int32} {v : Int32} {σ2 : mm} (hd : decode X.2.1 pc = .ok (.iastore, 1)) (hn : pc + 1 = n) (hq : (c, i) ∈ allk) (hk : kcls c = none) (ha : karr c = (0, n0)) (hc : ¬ c < 32) (h : wrI σ c i n0 x v = some σ2) (k : Vm X d n lv st (τ, σ2) r M') : Vm X d pc lv (.inl v :: .inl x :: .inr (.inr (c, i)) :: st) (τ, σ) r M' := Vm.iastM hd hn hq hk ha hc h k
theorem Vm.lastm {x : Int32} {v : Int64} {σ2 : mm} (hd : decode X.2.1 pc = .ok (.lastore, 1)) (hn : pc + 1 = n) (hq : (c, i) ∈ allk) (hk : kcls c = none) (ha : karr c = (1, n0)) (hc : ¬ c < 32) (h : wrL σ c i n0 x v = some σ2) (k : Vm X d n lv st (τ, σ2) r M') : Vm X d pc lv (.inr (.inl v) :: .inl x :: .inr (.inr (c, i)) :: st) (τ, σ) r M' := Vm.lastM hd hn hq hk ha hc h k
theorem Vm.aci {sp dp w : Int32} {σ2 : mm} (hd : decode X.2.1 pc = .ok (.invokestatic idx, 3)) (hn : pc + 3 = n) (hw : okC X.1.cls idx) (hq : (c, i) ∈ allk) (hk : kcls c = none) (ha : karr c = (0, n0)) (hc : c < 32) (hq' : (c', i') ∈ allk) (hk' : kcls c' = none) (ha' : karr c' = (0, n1)) (hc' : c' < 32) (hroom : (st.map mcat).sum ≤ 8) (hdd : 1 ≤ d) (h : cpI σ c i n0 c' i' n1 sp dp w = some σ2) (k : Vm X d n lv st (σ2, τ) r M') : Vm X d pc lv (.inl w :: .inl dp :: .inr (.inr (c', i')) :: .inl sp :: .inr (.inr (c, i)) :: st) (σ, τ) r M' := Vm.acpI hd hn hw hq hk ha hc hq' hk' ha' hc' hroom hdd h k
theorem Vm.acl {sp dp w : Int32} {σ2 : mm} (hd : decode X.2.1 pc = .ok (.invokestatic idx, 3)) (hn : pc + 3 = n) (hw : okC X.1.cls idx) (hq : (c, i) ∈ allk) (hk : kcls c = none) (ha : karr c = (1, n0)) (hc : c < 32) (hq' : (c', i') ∈ allk) (hk' : kcls c' = none) (ha' : karr c' = (1, n1)) (hc' : c' < 32) (hroom : (st.map mcat).sum ≤ 8) (hdd : 1 ≤ d) (h : cpL σ c i n0 c' i' n1 sp dp w = some σ2) (k : Vm X d n lv st (σ2, τ) r M') : Vm X d pc lv (.inl w :: .inl dp :: .inr (.inr (c', i')) :: .inl sp :: .inr (.inr (c, i)) :: st) (σ, τ) r M' := Vm.acpL hd hn hw hq hk ha hc hq' hk' ha' hc' hroom hdd h k
end VSU
