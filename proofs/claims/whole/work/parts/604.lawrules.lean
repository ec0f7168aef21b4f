-- THE LAW'S WALK: its judgement, a row an instruction
def lctx (L : Nat) (xs : Nat → Int32) (p : Program) (s : State) (m : MethodId) (meth : Method) (c : Code) (D : va_G) (cA : Nat → ClassId) (ad : Nat → Nat → Nat) : Prop :=
  p.tables.exec = Jvm.exec ∧ c.code = code ∧ meth.sig.returnType = ret ∧ c.maxLocals = 4 ∧ s.vm.findClass RL = some m.cls ∧ (∀ w ∈ lw_tbl, w.before #[Value.ref (ad 94 0)] s = true) ∧ meth.locks = false ∧ va_K D vwCl (tysw cA) s ∧ xt (Aw ad) ad s s.heap ∧ va_X (ad 94 0) L xs s s.heap ∧ ad 94 0 < s.heap.size ∧ (∀ q, Aw ad q → s.heap.size ≤ q) ∧ va_D (Aw ad) (wl cA ad (S0, S0))
def Lm (L : Nat) (xs : Nat → Int32) (pc : Nat) (lv : List (Nat × mv)) (st : List mv) (M : mm × mm) : Prop :=
  ∀ (p : Program) (l : Launch) (e : Env) (s : State) (m : MethodId) (below : List Frame) (meth : Method) (c : Code) (D : va_G) (cA : Nat → ClassId) (ad : Nat → Nat → Nat) (H : Heap) (locs : List Loc) (ls : Array Slot),
    lctx L xs p s m meth c D cA ad → va_P D vwCl (wl cA ad M) H → va_S (Aw ad) s.heap H locs → lv_has ls 4 (lm ad lv) →
    W p l e room_1 s m #[Value.ref (ad 94 0)] below meth c H locs 600000 7302250 (lw_Z below #[Value.ref (ad 94 0)] s) (F0 m pc ls (st.map (tv ad)))
section LR
variable {L pc n : Nat} {xs : Nat → Int32} {lv lv' : List (Nat × mv)} {st : List mv} {M M1 : mm × mm}
theorem Lm.aload_n {i : Fin 4} {x : Nat × Nat} (q : Nat) (hd : decode code pc = .ok (.aload_n i, 1)) (hn : pc + 1 = n) (hk : lv[q]? = some ((i : Nat), .inr (.inr x))) (k : Lm L xs n lv (.inr (.inr x) :: st) M) : Lm L xs pc lv st M := by
  subst hn
  intro p l e s m below meth c D cA ad H locs ls C hP hS hl0
  exact lv_aload_n C.1 C.2.1 hd rfl (lv_at hl0 q (lm_at hk)) (k p l e s m below meth c D cA ad H locs ls C hP hS hl0)
theorem Lm.iload_n {i : Fin 4} {x : Int32} (q : Nat) (hd : decode code pc = .ok (.iload_n i, 1)) (hn : pc + 1 = n) (hk : lv[q]? = some ((i : Nat), .inl x)) (k : Lm L xs n lv (.inl x :: st) M) : Lm L xs pc lv st M := by
  subst hn
  intro p l e s m below meth c D cA ad H locs ls C hP hS hl0
  exact lv_iload_n C.1 C.2.1 hd rfl (lv_at hl0 q (lm_at hk)) (k p l e s m below meth c D cA ad H locs ls C hP hS hl0)
theorem Lm.iconst {z : Int} {v : Int32} (hd : decode code pc = .ok (.iconst z, 1)) (hn : pc + 1 = n) (hv : Int32.ofInt z = v) (k : Lm L xs n lv (.inl v :: st) M) : Lm L xs pc lv st M := by
  subst hn
  intro p l e s m below meth c D cA ad H locs ls C hP hS hl0
  exact lv_iconst C.1 C.2.1 hd hv (k p l e s m below meth c D cA ad H locs ls C hP hS hl0)
theorem Lm.bipush {z : Int} {v : Int32} (hd : decode code pc = .ok (.bipush z, 2)) (hn : pc + 2 = n) (hv : (Int8.ofInt z).toInt32 = v) (k : Lm L xs n lv (.inl v :: st) M) : Lm L xs pc lv st M := by
  subst hn
  intro p l e s m below meth c D cA ad H locs ls C hP hS hl0
  exact lv_bipush C.1 C.2.1 hd hv (k p l e s m below meth c D cA ad H locs ls C hP hS hl0)
theorem Lm.iadd {x y z : Int32} (hd : decode code pc = .ok (.iadd, 1)) (hn : pc + 1 = n) (hz : x + y = z) (k : Lm L xs n lv (.inl z :: st) M) : Lm L xs pc lv (.inl y :: .inl x :: st) M := by
  subst hn hz
  intro p l e s m below meth c D cA ad H locs ls C hP hS hl0
  exact lv_iadd C.1 C.2.1 hd (k p l e s m below meth c D cA ad H locs ls C hP hS hl0)
theorem Lm.isub {x y z : Int32} (hd : decode code pc = .ok (.isub, 1)) (hn : pc + 1 = n) (hz : x - y = z) (k : Lm L xs n lv (.inl z :: st) M) : Lm L xs pc lv (.inl y :: .inl x :: st) M := by
  subst hn hz
  intro p l e s m below meth c D cA ad H locs ls C hP hS hl0
  exact lv_isub C.1 C.2.1 hd (k p l e s m below meth c D cA ad H locs ls C hP hS hl0)
theorem Lm.iand {x y z : Int32} (hd : decode code pc = .ok (.iand, 1)) (hn : pc + 1 = n) (hz : x &&& y = z) (k : Lm L xs n lv (.inl z :: st) M) : Lm L xs pc lv (.inl y :: .inl x :: st) M := by
  subst hn hz
  intro p l e s m below meth c D cA ad H locs ls C hP hS hl0
  exact lv_iand C.1 C.2.1 hd (k p l e s m below meth c D cA ad H locs ls C hP hS hl0)
theorem Lm.i2l {x : Int32} (hd : decode code pc = .ok (.i2l, 1)) (hn : pc + 1 = n) (k : Lm L xs n lv (.inr (.inl x.toInt64) :: st) M) : Lm L xs pc lv (.inl x :: st) M := by
  subst hn
  intro p l e s m below meth c D cA ad H locs ls C hP hS hl0
  exact lv_i2l C.1 C.2.1 hd rfl (k p l e s m below meth c D cA ad H locs ls C hP hS hl0)
theorem Lm.lshl {x : Int64} {y : Int32} (hd : decode code pc = .ok (.lshl, 1)) (hn : pc + 1 = n) (k : Lm L xs n lv (.inr (.inl (x <<< (y.toInt64 &&& 63))) :: st) M) : Lm L xs pc lv (.inl y :: .inr (.inl x) :: st) M := by
  subst hn
  intro p l e s m below meth c D cA ad H locs ls C hP hS hl0
  exact lv_lshl C.1 C.2.1 hd rfl (k p l e s m below meth c D cA ad H locs ls C hP hS hl0)
theorem Lm.land {x y : Int64} (hd : decode code pc = .ok (.land, 1)) (hn : pc + 1 = n) (k : Lm L xs n lv (.inr (.inl (x &&& y)) :: st) M) : Lm L xs pc lv (.inr (.inl y) :: .inr (.inl x) :: st) M := by
  subst hn
  intro p l e s m below meth c D cA ad H locs ls C hP hS hl0
  exact lv_land C.1 C.2.1 hd (k p l e s m below meth c D cA ad H locs ls C hP hS hl0)
theorem Lm.lor {x y : Int64} (hd : decode code pc = .ok (.lor, 1)) (hn : pc + 1 = n) (k : Lm L xs n lv (.inr (.inl (x ||| y)) :: st) M) : Lm L xs pc lv (.inr (.inl y) :: .inr (.inl x) :: st) M := by
  subst hn
  intro p l e s m below meth c D cA ad H locs ls C hP hS hl0
  exact lv_lor C.1 C.2.1 hd (k p l e s m below meth c D cA ad H locs ls C hP hS hl0)
theorem Lm.ldc2 {z : Nat} {v : Int64} (hd : decode code pc = .ok (.ldc2_w z, 3)) (hn : pc + 3 = n) (hw : Cond.constantLong RL z v ∈ lw_tbl) (k : Lm L xs n lv (.inr (.inl v) :: st) M) : Lm L xs pc lv st M := by
  subst hn
  intro p l e s m below meth c D cA ad H locs ls C hP hS hl0
  exact lv_ldc2 C.1 C.2.1 C.2.2.2.2.1 (C.2.2.2.2.2.1 _ hw) hd (k p l e s m below meth c D cA ad H locs ls C hP hS hl0)
theorem Lm.lcmp {x y : Int64} (hd : decode code pc = .ok (.lcmp, 1)) (hn : pc + 1 = n) (k : Lm L xs n lv (.inl (lg_cmp x y) :: st) M) : Lm L xs pc lv (.inr (.inl y) :: .inr (.inl x) :: st) M := by
  subst hn
  intro p l e s m below meth c D cA ad H locs ls C hP hS hl0
  exact W.lcmp C.1 C.2.1 hd (k p l e s m below meth c D cA ad H locs ls C hP hS hl0)
theorem Lm.if_eq {x : Int32} {off : Int} (t : Nat) (hd : decode code pc = .ok (.ifCond .eq off, 3)) (ht : (pc : Int) + off = (t : Int)) (hx : x = 0) (k : Lm L xs t lv st M) : Lm L xs pc lv (.inl x :: st) M := by
  intro p l e s m below meth c D cA ad H locs ls C hP hS hl0
  exact lv_if_eq C.1 C.2.1 hd ht (fun _ => k p l e s m below meth c D cA ad H locs ls C hP hS hl0) (fun h => absurd hx h)
theorem Lm.icmp_eq {x : Int32} {off : Int} (t : Nat) (hd : decode code pc = .ok (.if_icmp .eq off, 3)) (ht : (pc : Int) + off = (t : Int)) (k : Lm L xs t lv st M) : Lm L xs pc lv (.inl x :: .inl x :: st) M := by
  intro p l e s m below meth c D cA ad H locs ls C hP hS hl0
  exact lv_icmp_eq C.1 C.2.1 hd ht (fun _ => k p l e s m below meth c D cA ad H locs ls C hP hS hl0) (fun h => absurd rfl h)
theorem Lm.icmp_gt {x y : Int32} {off : Int} (t : Nat) (hd : decode code pc = .ok (.if_icmp .gt off, 3)) (ht : (pc : Int) + off = (t : Int)) (hn : pc + 3 = n) (k1 : y < x → Lm L xs t lv st M) (k2 : ¬ y < x → Lm L xs n lv st M) : Lm L xs pc lv (.inl y :: .inl x :: st) M := by
  subst hn
  intro p l e s m below meth c D cA ad H locs ls C hP hS hl0
  exact lv_icmp_gt C.1 C.2.1 hd ht (fun h => k1 h p l e s m below meth c D cA ad H locs ls C hP hS hl0) (fun h => k2 h p l e s m below meth c D cA ad H locs ls C hP hS hl0)
theorem Lm.goto {off : Int} (t : Nat) (hd : decode code pc = .ok (.goto off, 3)) (ht : (pc : Int) + off = (t : Int)) (k : Lm L xs t lv st M) : Lm L xs pc lv st M := by
  intro p l e s m below meth c D cA ad H locs ls C hP hS hl0
  exact lv_goto C.1 C.2.1 hd ht (k p l e s m below meth c D cA ad H locs ls C hP hS hl0)
theorem Lm.iinc {i : Nat} {z : Int} {x v : Int32} (q : Nat) (hd : decode code pc = .ok (.iinc i z, 3)) (hn : pc + 3 = n) (hk : lv[q]? = some (i, .inl x)) (hv : x + Int32.ofInt z = v) (hi : i < 4) (hl : ls1 i (.inl v) lv = lv') (k : Lm L xs n lv' st M) : Lm L xs pc lv st M := by
  subst hn
  intro p l e s m below meth c D cA ad H locs ls C hP hS hl0
  exact lv_iinc C.1 C.2.1 hd hl0 (lm_at hk) hv hi (lm_ls1 ad _ (.inl v) lv) (fun ls2 hl2 => k p l e s m below meth c D cA ad H locs ls2 C hP hS (by rw [← hl]; exact hl2))
theorem lnA {xs : Nat → Int32} {p : Program} {s : State} {m : MethodId} {meth : Method} {c : Code} {D : va_G} {cA : Nat → ClassId} {ad : Nat → Nat → Nat} (C : lctx L xs p s m meth c D cA ad) : ¬ Aw ad (ad 94 0) := fun h => Nat.not_le.mpr C.2.2.2.2.2.2.2.2.2.2.1 (C.2.2.2.2.2.2.2.2.2.2.2.1 _ h)
theorem Lm.slen (hd : decode code pc = .ok (.arraylength, 1)) (hn : pc + 1 = n) (k : Lm L xs n lv (.inl (Int32.ofNat L) :: st) M) : Lm L xs pc lv (.inr (.inr (94, 0)) :: st) M := by
  subst hn
  intro p l e s m below meth c D cA ad H locs ls C hP hS hl0
  exact va_slen C.1 C.2.1 C.2.2.2.2.2.2.2.2.2.1 C.2.2.2.2.2.2.2.2.2.2.1 (lnA C) hS hd (k p l e s m below meth c D cA ad H locs ls C hP hS hl0)
theorem Lm.sld {i : Int32} {j : Nat} (hd : decode code pc = .ok (.iaload, 1)) (hn : pc + 1 = n) (hi : i.toInt = (j : Int)) (hj : j < L) (k : Lm L xs n lv (.inl (xs j) :: st) M) : Lm L xs pc lv (.inl i :: .inr (.inr (94, 0)) :: st) M := by
  subst hn
  have e : i.toNatClampNeg = j := by
    show i.toInt.toNat = j
    omega
  intro p l e' s m below meth c D cA ad H locs ls C hP hS hl0
  refine va_sld C.1 C.2.1 C.2.2.2.2.2.2.2.2.2.1 C.2.2.2.2.2.2.2.2.2.2.1 (lnA C) hS (in_of (n := L) ⟨by omega, by omega⟩) hd ?_
  rw [e]
  exact k p l e' s m below meth c D cA ad H locs ls C hP hS hl0
theorem Lm.tableIn {dflt lo hi : Int} {offs : Array Int} {len : Nat} {x : Int32} {off : Int} (t : Nat) (hd : decode code pc = .ok (.tableswitch dflt lo hi offs, len)) (h1 : ¬ x.toInt < lo) (h2 : ¬ hi < x.toInt) (ho : offs[(x.toInt - lo).toNat]? = some off) (ht : (pc : Int) + off = (t : Int)) (k : Lm L xs t lv st M) : Lm L xs pc lv (.inl x :: st) M := by
  intro p l e s m below meth c D cA ad H locs ls C hP hS hl0
  exact lv_tableIn C.1 C.2.1 hd h1 h2 ho ht (k p l e s m below meth c D cA ad H locs ls C hP hS hl0)
theorem Lm.tableOut {dflt lo hi : Int} {offs : Array Int} {len : Nat} {x : Int32} (t : Nat) (hd : decode code pc = .ok (.tableswitch dflt lo hi offs, len)) (h : x.toInt < lo ∨ hi < x.toInt) (ht : (pc : Int) + dflt = (t : Int)) (k : Lm L xs t lv st M) : Lm L xs pc lv (.inl x :: st) M := by
  intro p l e s m below meth c D cA ad H locs ls C hP hS hl0
  exact lv_tableOut C.1 C.2.1 hd h ht (k p l e s m below meth c D cA ad H locs ls C hP hS hl0)
theorem Lm.ret1 (hd : decode code pc = .ok (.ireturn, 1)) : Lm L xs pc lv [.inl 1] M := by
  intro p l e s m below meth c D cA ad H locs ls C hP hS hl0
  exact va_forget (fun q hq => C.2.2.2.2.2.2.2.2.2.2.2.1 _ (hS.2.2 q hq)) (lw_ret C.1 C.2.1 C.2.2.1 C.2.2.2.2.2.2.1 hd)
theorem lsm_good {Y : md} {np : Nat} (h : okm Y np) : GoodIn lw_tbl (wsm Y) := by
  intro w hw
  rcases List.mem_cons.mp hw with rfl | hw
  · exact ⟨tg_in h.1, (tg_good h.1).2⟩
  · exact ⟨tg_in hw, (tg_good hw).2⟩
theorem Lm.callV {Y : md} {np idx c0 ci nf d' : Nat} {v : mv} {rest : List mv} (as : List mv) (hd : decode code pc = .ok (.invokevirtual idx, 3)) (hn : pc + 3 = n) (hw : okV RL idx Y.1) (hY : okm Y np) (hlen : as.length = np) (hq : (c0, 0) ∈ allk) (hk : kcls c0 = some (ci, nf)) (hcl : (cq ci).1 = Y.1.cls) (hst : st = as.reverse ++ .inr (.inr (c0, 0)) :: rest) (hroom : (rest.map mcat).sum ≤ 8) (hdd : d' ≤ 1000) (hC : Cx Y d' (.inr (.inr (c0, 0)) :: as) M (some v) M1) (k : Lm L xs n lv (v :: rest) M1) : Lm L xs pc lv st M := by
  subst hn
  intro p l e s m below meth c D cA ad H locs ls C hP hS hl0 T hT X0
  obtain ⟨q0, -, he⟩ := wl_at (cA := cA) (ad := ad) (M := M) hq
  rw [cel_o hk] at he
  have h9 := (cq_of hk).1
  have hts := C.2.2.2.2.2.1
  have hD := vaD_any (M1 := M) C.2.2.2.2.2.2.2.2.2.2.2.2
  have hK := C.2.2.2.2.2.2.2.1
  have hrun : va_Run p l e room_1 s m #[Value.ref (ad 94 0)] below meth c H locs 600000 7302250 0 0 (F0 m pc ls (st.map (tv ad))) (rest.map (tv ad)) (Qcm D cA ad (some v) M1 (tv ad (.inr (.inr (c0, 0))) :: as.map (tv ad)).toArray) (Aw ad) := by
    refine va_runV (C := Y.1.cls) (b := ad c0 0) (As := as.map (tv ad)) (n := np) ⟨C.1, C.2.1, C.2.2.2.1, C.2.2.2.2.1, hts⟩ (hC l D cA ad) ⟨callB_of np hts (lsm_good hY) rfl rfl rfl (hts _ (tg_in hw.2.2.2)) (hts _ (tg_in hw.1)) hY.2.1 ⟨?_, ?_⟩, hts _ (tg_in hw.2.1), hts _ (tg_in hw.2.2.1)⟩ ⟨Pcm_blind, ?_, fun U hU hW => ⟨rfl, by rw [hU]; exact hP, va_K.moved hW.alike hK, hD, ?_⟩⟩ rfl (by rw [List.length_map]; exact hlen) hl0.1 ?_ (lv_room (by rw [mcat_sum]; exact hroom)) hd ⟨Nat.le_refl _, Nat.le_refl _⟩
    · show d' + 1 ≤ 2048
      omega
    · have := hY.2.2
      show 8 + (Y.2.2.1 + 11) + 48 * d' ≤ 84000
      omega
    · rw [← hcl]
      exact va_recv hK hP (cq_at h9) he
    · rw [hU]
      exact (C.2.2.2.2.2.2.2.2.1.kept hS.2.1).warm hW
    · rw [hst, List.map_append, List.map_reverse]
      rfl
  obtain ⟨v', st₀, t, T', L', h0, X', hL, e1, e2, ⟨hv, hP1, hz, hk1⟩, go⟩ := hrun T hT X0
  have hv : v' = some (tv ad v) := by
    injection hv
  subst hv
  rw [h0] at hz hk1
  have hS1 : va_S (Aw ad) s.heap T'.heap (locs ++ L') := ⟨Nat.le_trans hS.1 (by rw [e1]; exact hz), fun q h1 h2 => by rw [e1, hk1 q (Nat.lt_of_lt_of_le h1 hS.1) h2]; exact hS.2.1 q h1 h2, fun q hq => by
      rcases List.mem_append.mp hq with h | h
      · exact hS.2.2 q h
      · exact hL q h⟩
  obtain ⟨t2, a1, b1⟩ := k p l e s m below meth c D cA ad T'.heap (locs ++ L') ls C (by rw [e1]; exact hP1) hS1 hl0 T' rfl X'
  exact ⟨t2, go t2 a1, b1⟩
end LR
/-- the locals in the loop -/
def lvL (i : Nat) : List (Nat × mv) := [(3, .inl (ii (i : Nat))), (2, .inr (.inr (32, 0))), (1, .inr (.inr (7, 0))), (0, .inr (.inr (94, 0)))]
/-- a number of the script -/
theorem Lm.arg {L pc n i : Nat} {xs : Nat → Int32} {st : List mv} {M : mm × mm} {k : Nat} (d0 : decode code pc = .ok (.aload_n 0, 1)) (d1 : decode code (pc + 1) = .ok (.iload_n 3, 1)) (d2 : decode code (pc + 2) = .ok (.iconst (k : Int), 1)) (d3 : decode code (pc + 3) = .ok (.iadd, 1)) (d4 : decode code (pc + 4) = .ok (.iaload, 1)) (hn : pc + 5 = n) (hL : L ≤ 3072) (hi : i + k < L) (kk : Lm L xs n (lvL i) (.inl (xs (i + k)) :: st) M) : Lm L xs pc (lvL i) st M := by
  subst hn
  refine Lm.aload_n (x := (94, 0)) 3 d0 rfl rfl ?_
  refine Lm.iload_n (x := ii (i : Nat)) 0 d1 rfl rfl ?_
  refine Lm.iconst (v := ii (k : Nat)) d2 rfl rfl ?_
  refine Lm.iadd (z := ii ((i + k : Nat) : Int)) d3 rfl (by rw [ii_add]; rfl) ?_
  exact Lm.sld (j := i + k) d4 rfl (ii_t (by omega) (by omega)) hi kk
