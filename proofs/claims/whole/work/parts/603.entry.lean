/-! THE CLAIM OUT OF ONE WALK OF THE LAW'S BODY: the skeleton's first rows -/
def R_law : String := "ThinBodiesLaw"
def lw_P (b : Addr) (xs : List Int32) (args : Array Value) (s : State) : Prop := args = #[.ref b] ∧ s.IntsAt b xs ∧ xs.length ≤ 3072 ∧ (Jvm.Cond.and given_1 narrow_1).before args s = true
def lw_Q (_ : Array Value) (s : State) (o : Outcome) (t : State) : Prop := o = .returned (some (.int 1)) ∧ Framed s o t [] 600000 7302250
def lw_Z (below : List Frame) (a : Array Value) (s : State) : State → Prop := fun t => ∃ o, t.status = .running ∧ Ended t below o ∧ lw_Q a s o t
/-- the law's own end, with 1 on the stack, nothing written that was there before, its room as the claim has it -/
theorem lw_ret {p : Program} {l : Launch} {e : Env} {s : State} {m : MethodId} {below : List Frame} {meth : Method} {c : Code} {b : Nat} (hx : p.tables.exec = Jvm.exec) (hb : c.code = code) (hr : meth.sig.returnType = ret) (hlocks : meth.locks = false) {pc : Nat} {H : Heap} {ls : Array Slot} (hdg : decode code pc = .ok (.ireturn, 1)) : W p l e room_1 s m #[Value.ref b] below meth c H [] 600000 7302250 (lw_Z below #[Value.ref b] s) (F0 m pc ls [.int 1]) := by
  intro T hT X
  obtain ⟨fs, hret, hrun, hended, hW, hframe⟩ := X.leave (v := some (.int 1)) (hlocks := hlocks) (fun h => by rw [hr] at h; cases h)
  have hmeth' : T.vm.method? m = some meth := X.method'
  refine ⟨T.setFrames fs, ?_, .returned (some (.int 1)), hrun, hended, rfl, ⟨_, rfl⟩, hW, hframe⟩
  jvm_step X.here [X.here.top, hx, hb, hdg, hmeth', hr, ret, narrow_b1]
  (try refine ⟨rfl, ?_⟩); (try refine ⟨rfl, ?_⟩)
  first | (intro acts; rw [hret _ acts rfl rfl rfl]) | rw [hret _ _ rfl rfl rfl]
  exact Steps.refl _
/-- what holds at the law's entry: the machine, the code, the tables' words (any of lw_tbl by 'hts w (by decide +kernel)'), the script of L ints xs at the cell b, what the Statement gives of the start (any of its parts by flat_of_before) -/
def lw_At (p : Program) (s : State) (m : MethodId) (meth : Method) (c : Code) (b L : Nat) (xs : Nat → Int32) : Prop :=
  p.tables.exec = Jvm.exec ∧ c.code = code ∧ meth.sig.returnType = ret ∧ c.maxLocals = 4 ∧ s.vm.findClass R_law = some m.cls ∧ (∀ w ∈ lw_tbl, w.before #[Value.ref b] s = true) ∧ va_X b L xs s s.heap ∧ b < s.heap.size ∧ meth.locks = false ∧ (Jvm.Cond.and given_1 narrow_1).before #[Value.ref b] s = true
-- WHAT HOLDS AT THE ENTRY
theorem tg_in {w : Cond} (h : w ∈ tg) : w ∈ lw_tbl := (tg_good h).1
theorem clp_at {s : State} {b : Nat} (hts : ∀ w ∈ lw_tbl, w.before #[Value.ref b] s = true) {ty : FieldType} (h : Cond.arrayClass ty ∈ lw_tbl) : ∃ c, ArrOfT s c ty ∧ s.vm.findClass ("[" ++ ty.toString) = some c := by
  obtain ⟨c, k, comp, h1, h2, h3⟩ := Cond.arrayClass_spec (args := #[Value.ref b]) (first := s) (o := none) (s := s) (idx := []) (hts _ h)
  exact ⟨c, fun n z => ⟨(fun k h => by cases h), k, h2, comp, h3⟩, h1⟩
theorem clo_at {s : State} {b : Nat} (hts : ∀ w ∈ lw_tbl, w.before #[Value.ref b] s = true) {n : String} (h : Cond.arrayOver (.object n) ∈ lw_tbl) : ∃ c, ArrOfT s c (.object n) ∧ va_RA s c (.object n) := by
  obtain ⟨comp, c, k, h1, -, h2, h3, h4⟩ := Cond.arrayOver_spec (args := #[Value.ref b]) (first := s) (o := none) (s := s) (idx := []) (hts _ h)
  exact ⟨c, fun n z => ⟨(fun k h => by cases h), k, h2, comp, h3⟩, k, comp, h2, h3, h1, h4⟩
theorem cla_at {s : State} {b : Nat} (hts : ∀ w ∈ lw_tbl, w.before #[Value.ref b] s = true) {ty : FieldType} (h : Cond.arrayOver (.array ty) ∈ lw_tbl) : ∃ c, ArrOfT s c (.array ty) ∧ s.vm.findClass ("[" ++ (FieldType.array ty).toString) = some c := by
  obtain ⟨comp, c, k, h1, h2, h3, h4⟩ := Jvm.Cond.arrayOver_specA (args := #[Value.ref b]) (first := s) (o := none) (s := s) (idx := []) (hts _ h)
  exact ⟨c, fun n z => ⟨(fun k h => by cases h), k, h2, comp, h3⟩, h4⟩
theorem kn_at {s : State} {b : Nat} (hts : ∀ w ∈ lw_tbl, w.before #[Value.ref b] s = true) {ci N : Nat} (h9 : ci < 9) (h : Cond.instantiable (cq ci).1 N ∈ lw_tbl) : ∃ q : ClassId × (Nat → Nat), u_Kn s (cq ci).1 (cq ci).2.1 (cq ci).2.2 q.1 q.2 := by
  obtain ⟨cC, iS, hk⟩ := u_known (C := (cq ci).1) (T := (cq ci).2.1) (N := (cq ci).2.2) (n := N) hts (fun w hw => tg_in (uwg h9 w hw)) (hts _ h)
  exact ⟨(cC, iS), hk⟩
theorem ent_K {s : State} {b : Nat} (hts : ∀ w ∈ lw_tbl, w.before #[Value.ref b] s = true) : ∃ (D : va_G) (cA : Nat → ClassId), va_K D vwCl (tysw cA) s := by
  have h1 : ∀ ci : Nat, ∃ q : ClassId × (Nat → Nat), ci < 9 → u_Kn s (cq ci).1 (cq ci).2.1 (cq ci).2.2 q.1 q.2 := by
    intro ci
    by_cases h : ci < 9
    · have hq : ci = 0 ∨ ci = 1 ∨ ci = 2 ∨ ci = 3 ∨ ci = 4 ∨ ci = 5 ∨ ci = 6 ∨ ci = 7 ∨ ci = 8 := by omega
      rcases hq with rfl | rfl | rfl | rfl | rfl | rfl | rfl | rfl | rfl
      · obtain ⟨q, hq⟩ := kn_at hts (ci := 0) h (tg_in tm_110); exact ⟨q, fun _ => hq⟩
      · obtain ⟨q, hq⟩ := kn_at hts (ci := 1) h (tg_in tm_186); exact ⟨q, fun _ => hq⟩
      · obtain ⟨q, hq⟩ := kn_at hts (ci := 2) h (tg_in tm_271); exact ⟨q, fun _ => hq⟩
      · obtain ⟨q, hq⟩ := kn_at hts (ci := 3) h (tg_in tm_304); exact ⟨q, fun _ => hq⟩
      · obtain ⟨q, hq⟩ := kn_at hts (ci := 4) h (tg_in tm_119); exact ⟨q, fun _ => hq⟩
      · obtain ⟨q, hq⟩ := kn_at hts (ci := 5) h (tg_in tm_332); exact ⟨q, fun _ => hq⟩
      · obtain ⟨q, hq⟩ := kn_at hts (ci := 6) h (tg_in tm_234); exact ⟨q, fun _ => hq⟩
      · obtain ⟨q, hq⟩ := kn_at hts (ci := 7) h lq_102; exact ⟨q, fun _ => hq⟩
      · obtain ⟨q, hq⟩ := kn_at hts (ci := 8) h lq_1053; exact ⟨q, fun _ => hq⟩
    · exact ⟨(default, fun _ => 0), fun h' => absurd h' h⟩
  obtain ⟨f, hf⟩ := Classical.axiomOfChoice h1
  obtain ⟨c0, a0, b0⟩ := clp_at hts (tg_in tm_142)
  obtain ⟨c1, a1, b1⟩ := clp_at hts (tg_in tm_269)
  obtain ⟨c2, a2, b2⟩ := clp_at hts (tg_in tm_329)
  obtain ⟨c3, a3, b3⟩ := clp_at hts (tg_in tm_1190)
  obtain ⟨c4, a4, b4⟩ := clo_at hts lq_116
  obtain ⟨c5, a5, b5⟩ := clo_at hts lq_331
  obtain ⟨c6, a6, b6⟩ := cla_at hts lq_118
  obtain ⟨c7, a7, b7⟩ := cla_at hts lq_277
  refine ⟨(fun c => (f c).1, fun c => (f c).2), fun k => match k with | 0 => c0 | 1 => c1 | 2 => c2 | 3 => c3 | 4 => c4 | 5 => c5 | 6 => c6 | _ => c7, fun c q hq => ?_, fun k q hk => ?_⟩
  · have h9 : c < 9 := by
      have := (List.getElem?_eq_some_iff.mp hq).1
      exact this
    have e := cq_at h9
    rw [hq] at e
    cases e
    exact hf c h9
  · match k, hk with
    | 0, hk => cases hk; exact ⟨a0, b0⟩
    | 1, hk => cases hk; exact ⟨a1, b1⟩
    | 2, hk => cases hk; exact ⟨a2, b2⟩
    | 3, hk => cases hk; exact ⟨a3, b3⟩
    | 4, hk => cases hk; exact ⟨a4, b4⟩
    | 5, hk => cases hk; exact ⟨a5, b5⟩
    | 6, hk => cases hk; exact ⟨a6, b6⟩
    | 7, hk => cases hk; exact ⟨a7, b7⟩
    | k + 8, hk => simp [tysw] at hk
theorem ent_Y {s : State} {b : Nat} (hts : ∀ w ∈ lw_tbl, w.before #[Value.ref b] s = true) : yt s := by
  refine ⟨va_AO.of (hts _ lq_116), va_AO.of (hts _ lq_331), hts _ lq_118, hts _ lq_277, ?_⟩
  refine List.forall_mem_cons.mpr ⟨va_Nw.of rfl (hts _ lq_120), List.forall_mem_cons.mpr ⟨va_Nw.of rfl (hts _ lq_187), List.forall_mem_cons.mpr ⟨va_Nw.of rfl (hts _ lq_235), List.forall_mem_cons.mpr ⟨va_Nw.of rfl (hts _ lq_272), List.forall_mem_cons.mpr ⟨va_Nw.of rfl (hts _ lq_305), List.forall_mem_cons.mpr ⟨va_Nw.of rfl (hts _ lq_333), fun _ h => absurd h List.not_mem_nil⟩⟩⟩⟩⟩⟩
def tmS (i : Nat) : Term := .string "ThinBodies$Reader" (xat i)
abbrev gvn : Cond := Jvm.Cond.and given_1 narrow_1
theorem g_ex : ∀ i, i < 10 → Cond.exactly (tmS i) "java/lang/String" ∈ flatC gvn := by decide +kernel
theorem g_co : ∀ i, i < 10 → Cond.eq (.field (tmS i) "java/lang/String" "coder" "B") (.int 0) ∈ flatC gvn := by decide +kernel
theorem g_ar : ∀ i, i < 10 → Cond.arrayOf (.field (tmS i) "java/lang/String" "value" "[B") .byte ∈ flatC gvn := by decide +kernel
theorem g_le : ∀ i, i < 10 → Cond.eq (.length (.field (tmS i) "java/lang/String" "value" "[B")) (.int (Int32.ofNat (xlen.getD i 0))) ∈ flatC gvn := by decide +kernel
theorem g_el : ∀ i, i < 10 → ∀ j, j < xlen.getD i 0 → Cond.eq (.elem (.field (tmS i) "java/lang/String" "value" "[B") (.int (Int32.ofNat j))) (.int ((xby.getD i []).getD j 0)) ∈ flatC gvn := by decide +kernel
theorem g_nq : ∀ i, i < 10 → ∀ j, j < 10 → i ≠ j → Cond.not (Cond.eq (tmS i) (tmS j)) ∈ flatC gvn ∨ Cond.not (Cond.eq (tmS j) (tmS i)) ∈ flatC gvn := by decide +kernel
theorem g_un : Cond.arrayOf (.static "ThinBodies" "UNDER" "[I") .int ∈ flatC gvn ∧ Cond.eq (.length (.static "ThinBodies" "UNDER" "[I")) (.int 6) ∈ flatC gvn ∧ Cond.eq (.static "java/lang/String" "COMPACT_STRINGS" "Z") (.int 1) ∈ flatC gvn ∧ Cond.isRef (.static "jdk/internal/util/Preconditions" "SIOOBE_FORMATTER" "Ljava/util/function/BiFunction;") ∈ flatC gvn := by decide +kernel
theorem g_ue : ∀ j, j < 6 → Cond.eq (.elem (.static "ThinBodies" "UNDER" "[I") (.int (Int32.ofNat j))) (.int ([-1, 0, 0, 1, 2, 0].getD j 0)) ∈ flatC gvn := by decide +kernel
theorem ent_X {s : State} {b : Nat} (hts : ∀ w ∈ lw_tbl, w.before #[Value.ref b] s = true) (hgv : gvn.before #[Value.ref b] s = true) : ∃ xa : Nat → Nat → Nat, xa 94 0 = b ∧ xt (fun q => s.heap.size ≤ q) (adx s.heap.size xa) s s.heap := by
  have hs := flat_of_before _ hgv
  have hA : ∀ a : Nat, a < s.heap.size → ¬ (fun q : Nat => s.heap.size ≤ q) a := fun a h => Nat.not_le.mpr h
  obtain ⟨u1, u2, u3, u4⟩ := g_un
  obtain ⟨t, ht, hT⟩ := va_Tof (tm := .static "ThinBodies" "UNDER" "[I") (ty := .int) (N := 6) (f := xun) (A := fun q : Nat => s.heap.size ≤ q) (by decide) (hs _ u1) (va_eqt (hs _ u2)) (fun j hj => va_eqt (hs _ (g_ue j hj))) hA
  have hZ := va_Zref (A := fun q : Nat => s.heap.size ≤ q) (hts _ lq_484) (hts _ lq_85) ht hA
  obtain ⟨adK, adV, hS, hE⟩ := vk_Sof (N := 10) (tm := tmS) (len := xlen) (byt := xby) (A := fun q : Nat => s.heap.size ≤ q) (by decide) (fun i hi => hs _ (g_ex i hi)) (fun i hi => hs _ (g_co i hi)) (fun i hi => hs _ (g_ar i hi)) (fun i hi => hs _ (g_le i hi)) (fun i hi j hj => hs _ (g_el i hi j hj)) (fun i j hi hj hij => (g_nq i hi j hj hij).imp (hs _) (hs _)) hA
  have hC := va_Zof (v := .int 1) (A := fun q : Nat => s.heap.size ≤ q) (hts _ lq_926) (hts _ lq_97) (va_eqt (hs _ u3)) hA
  have hQ := va_Zqof (A := fun q : Nat => s.heap.size ≤ q) (hts _ lq_942) (hts _ lq_99) (hs _ u4) hA
  refine ⟨fun c i => if c = 90 then t else if c = 92 then adK i else if c = 93 then adV i else b, rfl, hZ, hT, hS, fun i hi => ?_, hC, hQ, ?_, va_Nw.of rfl (hts _ lq_483)⟩
  · have hr : (Cond.stringRef "ThinBodies$Reader" (xat i) (xtx.getD i "")).before #[Value.ref b] s = true := by
      have hq : i = 0 ∨ i = 1 ∨ i = 2 ∨ i = 3 ∨ i = 4 ∨ i = 5 ∨ i = 6 ∨ i = 7 ∨ i = 8 ∨ i = 9 := by omega
      rcases hq with rfl | rfl | rfl | rfl | rfl | rfl | rfl | rfl | rfl | rfl
      · exact hts _ lq_912
      · exact hts _ lq_975
      · exact hts _ lq_1001
      · exact hts _ lq_1002
      · exact hts _ lq_990
      · exact hts _ lq_991
      · exact hts _ lq_992
      · exact hts _ lq_993
      · exact hts _ lq_994
      · exact hts _ lq_995
    exact vk_R.of hr (hE i hi)
  · refine List.forall_mem_cons.mpr ⟨va_Nw.of rfl (hts _ lq_523), List.forall_mem_cons.mpr ⟨va_Nw.of rfl (hts _ lq_550), List.forall_mem_cons.mpr ⟨va_Nw.of rfl (hts _ lq_674), List.forall_mem_cons.mpr ⟨va_Nw.of rfl (hts _ lq_704), List.forall_mem_cons.mpr ⟨va_Nw.of rfl (hts _ lq_775), fun _ h => absurd h List.not_mem_nil⟩⟩⟩⟩⟩
theorem xt.narrow {A B : Nat → Prop} {ad : Nat → Nat → Nat} {U : State} {H : Heap} (h : xt A ad U H) (hAB : ∀ q, B q → A q) : xt B ad U H :=
  ⟨h.1.narrow hAB, h.2.1.narrow hAB, h.2.2.1.narrow hAB, h.2.2.2.1, h.2.2.2.2.1.narrow hAB, h.2.2.2.2.2.1.narrow hAB, h.2.2.2.2.2.2.1, h.2.2.2.2.2.2.2⟩
