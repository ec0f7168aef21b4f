-- THE LAW FROM ITS ENTRY
theorem gx7 : Gx mX7_init 3 106 8901 [.inr (some 0)] 0 [.inl (7, [.inr none, .inr none, .inr none, .inl 0, .inr none, .inr none, .inr none, .inr none, .inr none, .inr none, .inr none])] EX0 := gX7_init 0
theorem gx8 : Gx mX8_init 2 24 55144 [.inr (some 107)] 107 [.inl (8, [.inr none, .inl 0, .inr none, .inr none, .inl 0, .inr none, .inr none, .inr none, .inr none, .inr none, .inr none, .inl 0, .inl 0, .inl 0, .inl 0, .inr none, .inr none, .inr none, .inl 0, .inl 0, .inl 0, .inl 0, .inr none, .inr none, .inl 0, .inr none, .inr none, .inr none, .inl 0, .inl 0, .inl 0, .inl 0, .inl 0, .inl 0, .inr none, .inr none, .inr none, .inr none, .inr none, .inr none, .inr none, .inl 0])] EM0 := gX8_init 107
section LB
variable {p : Program} {l : Launch} {e : Env} {s : State} {m : MethodId} {below : List Frame} {meth : Method} {c : Code} {b L : Nat} {xs : Nat → Int32} {D : va_G} {cA : Nat → ClassId} {H : Heap} {locs : List Loc} {ls : Array Slot} {st : List Value} {pc idx k n : Nat} {E : List gc}
theorem lw_newc {ci N : Nat} {fs : List gv} (C0 : lw_At p s m meth c b L xs) (hK : va_K D vwCl (tysw cA) s) (hd : decode code pc = .ok (.new idx, 3)) (hw : Cond.classLink RL idx (cq ci).1 ∈ lw_tbl ∧ Cond.instantiable (cq ci).1 N ∈ lw_tbl ∧ Cond.initialized (cq ci).1 ∈ lw_tbl) (h9 : ci < 9) (hN : (cq ci).2.2 = N) (hfs : ∀ b j, j < N → defaultValue (cty ci j) = vp_V (fs.map (gtv b)) j) (hk : k + 1 ≤ 600000) (hm : n + N ≤ 7302250)
    (hP : va_P D vwCl (gw cA s.heap.size E) H) (hz : H.size = s.heap.size + E.length) (hS : va_S (gA s.heap.size) s.heap H locs)
    (kk : ∀ H1, va_P D vwCl (gw cA s.heap.size (E ++ [.inl (ci, fs)])) H1 → H1.size = s.heap.size + (E ++ [(.inl (ci, fs) : gc)]).length → va_S (gA s.heap.size) s.heap H1 locs → W p l e room_1 s m #[Value.ref b] below meth c H1 locs (k + 1) (n + N) (lw_Z below #[Value.ref b] s) (F0 m (pc + 3) ls (.ref (s.heap.size + E.length) :: st))) :
    W p l e room_1 s m #[Value.ref b] below meth c H locs k n (lw_Z below #[Value.ref b] s) (F0 m pc ls st) := by
  subst hN
  obtain ⟨hx, hb, hr, hml, hown, hts, hX, hbl, hlocks, hgv⟩ := id C0
  have hKn := hK.1 ci _ (cq_at h9)
  have hin9 : ∀ w ∈ u_ws (cq ci).1 (cq ci).2.1 (cq ci).2.2, w ∈ lw_tbl := fun w hw => tg_in (uwg h9 w hw)
  refine W.newcK hx hb hown (hts _ hw.1) (hts _ hw.2.1) (hts _ hw.2.2) rfl hd hk hm hKn.2.1 hz fun H1 kC hkC e1 z1 o1 => ?_
  refine kk H1 ?_ ?_ (gS_push (z := 1) hS (by rw [z1, hz]) (fun q hq => o1 q (by rw [← hz]; exact hq)))
  · refine gpush hP (fun q hq => o1 q (by rw [← hz]; exact hq)) ⟨_, cq_at h9, ?_⟩
    exact (u_born (cty ci) hts hin9 hKn hkC e1 (ctyo h9)).to (fun j hj => hfs s.heap.size j hj)
  · rw [z1, List.length_append, List.length_singleton]
    omega
theorem lw_init {Y : md} {d' mc' ms' p0 : Nat} {C E3 E4 : List gc} (C0 : lw_At p s m meth c b L xs) (hK : va_K D vwCl (tysw cA) s) (hYt : yt s) (hd : decode code pc = .ok (.invokespecial idx, 3)) (hl : Cond.methodLink RL idx Y.1 ∈ tg) (hi : Cond.instanceMethod Y.1 ∈ tg) (hni : Cond.initialized Y.1.cls ∈ lw_tbl) (hY : okm Y 0) (hy1 : Y.1.name = "<init>") (hyr : Y.2.2.2 = none) (hroom : (st.map fun v => v.category).sum ≤ 8) (hdd : d' ≤ 1000) (hk : k + mc' ≤ 600000) (hm : n + ms' ≤ 7302250) (hG : Gx Y d' mc' ms' [.inr (some p0)] C.length E3 E4) (hls : ls.size = 4)
    (hP : va_P D vwCl (gw cA s.heap.size (C ++ E3)) H) (hz : H.size = s.heap.size + (C ++ E3).length) (hS : va_S (gA s.heap.size) s.heap H locs)
    (kk : ∀ H1 locs1, va_P D vwCl (gw cA s.heap.size (C ++ E4)) H1 → H1.size = s.heap.size + (C ++ E4).length → va_S (gA s.heap.size) s.heap H1 locs1 → W p l e room_1 s m #[Value.ref b] below meth c H1 locs1 (k + mc') (n + ms') (lw_Z below #[Value.ref b] s) (F0 m (pc + 3) ls st)) :
    W p l e room_1 s m #[Value.ref b] below meth c H locs k n (lw_Z below #[Value.ref b] s) (F0 m pc ls (.ref (s.heap.size + p0) :: st)) := by
  obtain ⟨hx, hb, hr, hml, hown, hts, hX, hbl, hlocks, hgv⟩ := id C0
  intro T hT X0
  have hrun : va_Run p l e room_1 s m #[Value.ref b] below meth c H locs k n mc' ms' (F0 m pc ls (.ref (s.heap.size + p0) :: st)) st (Qcg D cA s.heap.size C E4 [Value.ref (s.heap.size + p0)].toArray) (gA s.heap.size) := by
    refine va_runI (bytes := Y.2.1) (maxL := Y.2.2.1) (b := s.heap.size + p0) (As := []) (n := 0) ⟨hx, hb, hml, hown, hts⟩ (hG l D cA s.heap.size C rfl) ⟨?_, hy1, hts _ (tg_in hi)⟩ ⟨Pcg_blind, fun U hU hW => ⟨rfl, by rw [hU]; exact hP, by rw [hU]; exact hz, va_K.moved hW.alike hK, yt.warm hW hYt⟩⟩ rfl rfl hls rfl (lv_room hroom) hd ⟨hk, hm⟩
    rw [← hyr]
    refine callB_of 0 hts (lsm_good hY) rfl rfl rfl (hts _ hni) (hts _ (tg_in hl)) hY.2.1 ⟨?_, ?_⟩
    · show d' + 1 ≤ 2048
      omega
    · have := hY.2.2
      show 8 + (Y.2.2.1 + 11) + 48 * d' ≤ 84000
      omega
  obtain ⟨v, st₀, t, T', L', h0, X', hL, e1, e2, ⟨hv, hP1, hz1, hzz, hk1⟩, go⟩ := hrun T hT X0
  have hv : v = none := by injection hv
  subst hv
  rw [h0] at hzz hk1
  have hS1 : va_S (gA s.heap.size) s.heap T'.heap (locs ++ L') := ⟨Nat.le_trans hS.1 (by rw [e1]; exact hzz), fun q h1 h2 => by rw [e1, hk1 q (Nat.lt_of_lt_of_le h1 hS.1) h2]; exact hS.2.1 q h1 h2, fun q hq => by
      rcases List.mem_append.mp hq with h | h
      · exact hS.2.2 q h
      · exact hL q h⟩
  obtain ⟨t2, a1, b1⟩ := kk T'.heap (locs ++ L') (by rw [e1]; exact hP1) (by rw [e1]; exact hz1) hS1 T' rfl X'
  exact ⟨t2, go t2 a1, b1⟩
end LB
theorem ex_len : EX0.length = 107 := rfl
theorem ad_7 : adp 7 0 = 0 := rfl
theorem ad_32 : adp 32 0 = 107 := rfl
set_option maxHeartbeats 4000000 in
set_option maxRecDepth 100000 in
theorem whole_start {p : Program} {e : Env} {s : State} {m : MethodId} {below : List Frame} {meth : Method} {c : Code} (l : Launch) (hflags : l.flags = flags0) {b L : Nat} {xs : Nat → Int32} (hL : L ≤ 3072) (C0 : lw_At p s m meth c b L xs) : W p l e room_1 s m #[Value.ref b] below meth c s.heap [] 0 0 (lw_Z below #[Value.ref b] s) (entryFrame m ([Value.ref b] : List Value).toArray 4) := by
  obtain ⟨hx, hb, hr, hml, hown, hts, hX, hbl, hlocks, hgv⟩ := id C0
  obtain ⟨D, cA, hK⟩ := ent_K hts
  have hY := ent_Y hts
  obtain ⟨xa, hxa, hxt⟩ := ent_X hts hgv
  have hl := lv_entry ([.ref b]) (n := 4) (Nat.le_of_ble_eq_true rfl)
  rw [lg_entry_eq]
  generalize (lg_sl ([.ref b]) ++ List.replicate (4 - (lg_sl ([.ref b])).length) Slot.unset).toArray = ls at hl ⊢
  have hl : lv_has ls 4 [(0, .ref b)] := hl
  have hP0 : va_P D vwCl (gw cA s.heap.size []) s.heap := fun k q h => by simp [gw] at h
  refine lw_newc (E := []) (ci := 7) (N := 11) (fs := [.inr none, .inr none, .inr none, .inl 0, .inr none, .inr none, .inr none, .inr none, .inr none, .inr none, .inr none]) C0 hK dL_law_0 ⟨lq_101, lq_102, lq_85⟩ (by decide) rfl (fun b j hj => match j, hj with | 0, _ => rfl | 1, _ => rfl | 2, _ => rfl | 3, _ => rfl | 4, _ => rfl | 5, _ => rfl | 6, _ => rfl | 7, _ => rfl | 8, _ => rfl | 9, _ => rfl | 10, _ => rfl | (z + 11), h => absurd h (by omega)) (Nat.le_of_ble_eq_true rfl) (Nat.le_of_ble_eq_true rfl) hP0 rfl va_S.rf (fun H1 hP1 hz1 hS1 => ?_)
  refine lv_dup hx hb dL_law_3 rfl ?_
  refine lw_init (C := []) (p0 := 0) (E4 := EX0) C0 hK hY dL_law_4 t_103 t_104 lq_85 omX7_init rfl rfl (Nat.le_of_ble_eq_true rfl) (Nat.le_of_ble_eq_true rfl) (Nat.le_of_ble_eq_true rfl) (Nat.le_of_ble_eq_true rfl) gx7 hl.1 hP1 hz1 hS1 (fun H2 locs2 hP2 hz2 hS2 => ?_)
  refine lv_astore_n (lv' := [(1, .ref (s.heap.size + 0)), (0, .ref b)]) hx hb dL_law_7 rfl hl (by decide) rfl (fun ls hl => ?_)
  refine lw_newc (E := EX0) (ci := 8) (N := 42) (fs := [.inr none, .inl 0, .inr none, .inr none, .inl 0, .inr none, .inr none, .inr none, .inr none, .inr none, .inr none, .inl 0, .inl 0, .inl 0, .inl 0, .inr none, .inr none, .inr none, .inl 0, .inl 0, .inl 0, .inl 0, .inr none, .inr none, .inl 0, .inr none, .inr none, .inr none, .inl 0, .inl 0, .inl 0, .inl 0, .inl 0, .inl 0, .inr none, .inr none, .inr none, .inr none, .inr none, .inr none, .inr none, .inl 0]) C0 hK dL_law_8 ⟨lq_1052, lq_1053, lq_93⟩ (by decide) rfl (fun b j hj => match j, hj with | 0, _ => rfl | 1, _ => rfl | 2, _ => rfl | 3, _ => rfl | 4, _ => rfl | 5, _ => rfl | 6, _ => rfl | 7, _ => rfl | 8, _ => rfl | 9, _ => rfl | 10, _ => rfl | 11, _ => rfl | 12, _ => rfl | 13, _ => rfl | 14, _ => rfl | 15, _ => rfl | 16, _ => rfl | 17, _ => rfl | 18, _ => rfl | 19, _ => rfl | 20, _ => rfl | 21, _ => rfl | 22, _ => rfl | 23, _ => rfl | 24, _ => rfl | 25, _ => rfl | 26, _ => rfl | 27, _ => rfl | 28, _ => rfl | 29, _ => rfl | 30, _ => rfl | 31, _ => rfl | 32, _ => rfl | 33, _ => rfl | 34, _ => rfl | 35, _ => rfl | 36, _ => rfl | 37, _ => rfl | 38, _ => rfl | 39, _ => rfl | 40, _ => rfl | 41, _ => rfl | (z + 42), h => absurd h (by omega)) (Nat.le_of_ble_eq_true rfl) (Nat.le_of_ble_eq_true rfl) hP2 hz2 hS2 (fun H3 hP3 hz3 hS3 => ?_)
  refine lv_dup hx hb dL_law_11 rfl ?_
  refine lw_init (C := EX0) (p0 := 107) (E4 := EM0) C0 hK hY dL_law_12 t_1054 t_1055 lq_93 omX8_init rfl rfl (Nat.le_of_ble_eq_true rfl) (Nat.le_of_ble_eq_true rfl) (Nat.le_of_ble_eq_true rfl) (Nat.le_of_ble_eq_true rfl) gx8 hl.1 hP3 hz3 hS3 (fun H4 locs4 hP4 hz4 hS4 => ?_)
  refine lv_astore_n (lv' := [(2, .ref (s.heap.size + 107)), (1, .ref (s.heap.size + 0)), (0, .ref b)]) hx hb dL_law_15 rfl hl (by decide) rfl (fun ls hl => ?_)
  refine lv_iconst (v := 0) hx hb dL_law_16 (by decide) ?_
  refine lv_istore_n (lv' := [(3, .int 0), (2, .ref (s.heap.size + 107)), (1, .ref (s.heap.size + 0)), (0, .ref b)]) hx hb dL_law_17 rfl hl (by decide) rfl (fun ls hl => ?_)
  refine va_forget (fun q hq => hS4.2.2 q hq) ?_
  refine W.widen (k := 600000) (n := 7302250) (Nat.le_of_ble_eq_true rfl) (Nat.le_of_ble_eq_true rfl) ?_
  subst hxa
  have hS5 : va_S (Aw (adx s.heap.size xa)) s.heap H4 [] := ⟨hS4.1, fun q h1 _ => hS4.2.1 q h1 (Nat.not_le.mpr h1), fun q hq => by cases hq⟩
  exact law_go hL (L + 1) 0 S0 S0 (Nat.zero_le _) (by omega) start_rel p l e s m below meth c D cA (adx s.heap.size xa) H4 [] ls ⟨hx, hb, hr, hml, hown, hts, hlocks, hK, hxt.narrow (fun q h => start_A h), hX, hbl, fun q h => start_A h, start_D _⟩ (start_at hP4) hS5 hl
set_option maxHeartbeats 4000000 in
theorem lw_walk (l : Launch) (hflags : l.flags = flags0) (b : Addr) (xs : List Int32) : MetFree l x (headSpec (Jvm.Cond.code x code maxLocals ret :: tables_1) room_1) (lw_P b xs) (fun _ _ _ _ _ => True) lw_Q := by
  refine MetFree.of_bodyS (code := code) (maxLocals := maxLocals) (ret := ret) (by decide) ?_ ?_
  · intro args s m h hn
    obtain ⟨meth, c, h1, h2, h3, h4, h5, h6, -, -⟩ := Cond.code_spec hn (atoms_spec (ws := Jvm.Cond.code x code maxLocals ret :: tables_1) h _ List.mem_cons_self)
    exact ⟨meth, c, h1, h2, h3, h4, h5, h6⟩
  · intro p e s m args below meth c s₁ B hml0 hP _
    obtain ⟨rfl, hx, hbd, hgv⟩ := hP
    obtain ⟨scr, harrAt, hlist, hof, hsmall⟩ := hx
    obtain ⟨hcb, hkn, -, -⟩ := State.arrayAt?_spec harrAt
    have hown : s.vm.findClass R_law = some m.cls := findClass_of_methodNamed B.named
    have hts0 : ∀ c ∈ (Jvm.Cond.code x code maxLocals ret :: tables_1), c.before #[Value.ref b] s = true := atoms_spec (ws := Jvm.Cond.code x code maxLocals ret :: tables_1) B.pre
    have hts : ∀ w ∈ lw_tbl, w.before #[Value.ref b] s = true := k2_hts_sels lw_privs (fun w hw => hts0 w (List.mem_cons_of_mem _ hw)) lw_privs_ok
    have hml : c.maxLocals = 4 := B.maxLocals_eq (hts0 _ List.mem_cons_self)
    have X₀ : Stand p l e room_1 s m #[Value.ref b] below meth c s₁ [] 0 0 := Stand.of_body B
    have hh0 : s₁.heap = s.heap := by rw [B.state]; rfl
    have hsz : scr.slots.size = xs.length := by rw [← Array.length_toList, hlist, List.length_map]
    have hval : ∀ j : Nat, j < xs.length → scr.slots[j]? = some (.int (xs.getD j 0)) := fun j hj => by
      rw [← Array.getElem?_toList, hlist]
      simp [hj]
    have hbl : b < s.heap.size := (Array.getElem?_eq_some_iff.mp hcb).1
    have hX : va_X b xs.length (fun j => xs.getD j 0) s s.heap := ⟨scr, hcb, hof, hkn, hsz, hval⟩
    have K : W p l e room_1 s m #[Value.ref b] below meth c s₁.heap [] 0 0 (lw_Z below #[Value.ref b] s) (entryFrame m ([Value.ref b] : List Value).toArray 4) := by
      rw [hh0]
      exact whole_start l hflags hbd ⟨B.exec, B.bytes, B.returns, hml, hown, hts, hX, hbl, B.notSynchronized, hgv⟩
    obtain ⟨t, a1, o, b1, b2, b3⟩ := K s₁ rfl X₀
    exact ⟨t, o, a1, b1, b2, b3⟩
theorem lw_pre_spec {args : Array Value} {s : State} (h : (Jvm.Cond.and given_1 narrow_1).before args s = true) (hr : rest_1_c.before args s = true) : ∃ (b : Addr) (xs : List Int32), lw_P b xs args s := by
  have hs := flat_of_before _ h
  have hq := flat_of_before _ hr
  have hc : (Cond.count 1).before args s = true := hs _ (by decide +kernel)
  have harr : (Cond.arrayOf (.arg 0) .int).before args s = true := hs _ (by decide +kernel)
  have hle : (Cond.le (.length (.arg 0)) (.int 3072)).before args s = true := hs _ (by decide +kernel)
  have hlen : (Cond.isInt (.length (.arg 0))).before args s = true := hq _ (by decide +kernel)
  have hall : (Cond.all (.arg 0) (.isInt (.elem (.arg 0) (.index 0)))).before args s = true := hq _ (by decide +kernel)
  obtain ⟨b, xs, hb, hx⟩ := State.ints_of_pre rfl harr hlen hall
  have hsm : xs.length < 2 ^ 31 := hx.choose_spec.2.2.2
  have hev : (Term.length (.arg 0)).eval args s none [] s = some (.int xs.length.toInt32) := hx.length_eval hb
  have hv := Cond.le_ints hev (show (Term.int 3072).eval args s none [] s = some (.int 3072) from rfl)
  have hd : xs.length.toInt32 ≤ 3072 := by
    simpa [Cond.before, Cond.holds, hv] using hle
  have hN : xs.length ≤ 3072 := (Int32.ofNat_le_ofNat hsm (by decide)).mp (show Int32.ofNat xs.length ≤ Int32.ofNat 3072 from hd)
  exact ⟨b, xs, Cond.one_arg hc (show args[0]? = some (.ref b) from hb), hx, hN, h⟩
theorem lw_comes (l : Launch) (hflags : l.flags = flags0) : Comes l x (Jvm.Cond.code x code maxLocals ret :: tables_1) room_1 (fun tb e args s => Calls_1 tb e args s ∧ rest_1 tb e args s ∧ Pre_1 tb e args s)
    (fun _ _ args s o t => lw_Q args s o t) := by
  intro p e ha hc hk s m args below hf hfit hheap happ hpre
  obtain ⟨b, xs, hP⟩ := lw_pre_spec hpre.2.2 hpre.2.1
  obtain ⟨k, o, h1, h2, h3, hQ⟩ := lw_walk l hflags b xs p e ha hc hk s m args below hf ((Spec.applies_iff_loose hf).mp happ).1 hP trivial
  exact ⟨k, o, h1, h2, h3, hQ⟩
theorem lw_frame {s t : State} {o : Outcome} {args : Array Value} (h : Framed s o t [] 600000 7302250) :
    Framed s o t (fieldLocs frame_1_writes args s ++ arrayLocs frame_1_arrays args s ++ staticLocs frame_1_statics s) 600000 7302250 := h
theorem lw_limb (L : Cond) (hL : ∀ (args : Array Value) (s t : State), L.after args s (.returned (some (.int 1))) t = true) :
    ArmFor flags0 classFile x code maxLocals ret World_1 tables_1 room_1 Calls_1 rest_1 Pre_1
      (fun tb e a s o t => postC L tb e a s o t ∧ Framed s o t (fieldLocs frame_1_writes a s ++ arrayLocs frame_1_arrays a s ++ staticLocs frame_1_statics s) 600000 7302250) := by
  intro l hflags _ _ p e ha hc hk s m args below hf hfit hheap happ hpre
  obtain ⟨k, o, h1, h2, h3, rfl, hF⟩ := lw_comes l hflags p e ha hc hk s m args below hf hfit hheap happ hpre
  exact ⟨k, _, h1, h2, h3, hL args s _, lw_frame hF⟩
theorem i_vc : Claimed_1_1 ∧ Claimed_1_2 := ⟨lw_limb limb_1_1 (fun args s t => by simp [limb_1_1, Cond.after, Cond.holds, Cond.value]), lw_limb limb_1_2 (fun args s t => Cond.after_iff.mpr (by
  first | (rw [show limb_1_2 = Cond.eq .result (.int 1) from rfl, Cond.eq_ints (x := 1) (y := 1) rfl rfl]; simp; done) | (simp [limb_1_2, Cond.value, Term.eval]; done)))⟩
