-- kind: a row as another kind
theorem lft_setR (A : bdy) (R r : Nat) (q : Nat → Int) (k : Int) (j : Nat) : lft (A.setR R r q) k j = lft A k j := by
  induction j with
  | zero => rfl
  | succ j ih =>
    rw [lft, lft, ih]
    rfl
theorem pt_setR (A : bdy) (R r : Nat) (q : Nat → Int) : pt (A.setR R r q) = pt A := by
  funext k l
  unfold pt
  rw [lft_setR]
  rfl
theorem inP_iff {A : bdy} {k : Nat} : inP A k = true ↔ ∀ r, r < A.R → hdr A (pt A k) r = true := by
  unfold inP brk
  rw [decide_eq_true_iff, mkf_0]
  constructor
  · intro h r hr
    have := h r hr
    simpa using this
  · intro h r hr
    have := h r hr
    simp [this]
theorem frp_iff {A : bdy} {k r : Nat} (hr : r < A.R) : frp A r k = true ↔ ∀ r', r' < A.R → r' ≠ r → hdr A (pt A k) r' = true := by
  unfold frp
  rw [decide_eq_true_iff]
  constructor
  · intro h r' hr' hne
    have hb := mkf_bit (fun r => !hdr A (pt A k) r) A.R r'
    have hb : (brk A k).testBit r' = (decide (r' < A.R) && !hdr A (pt A k) r') := hb
    rcases h with h | h
    · rw [h] at hb
      simp [hr'] at hb
      exact hb
    · rw [h, Nat.testBit_two_pow] at hb
      simp [hr', show ¬ r = r' by omega] at hb
      exact hb
  · intro h
    by_cases hq : hdr A (pt A k) r = true
    · left
      exact mkf_0.mpr (fun r' hr' => by
        by_cases e : r' = r
        · rw [e]
          simp [hq]
        · simp [h r' hr' e])
    · right
      apply Nat.eq_of_testBit_eq
      intro i
      have hb : (brk A k).testBit i = (decide (i < A.R) && !hdr A (pt A k) i) := mkf_bit (fun r => !hdr A (pt A k) r) A.R i
      rw [hb, Nat.testBit_two_pow]
      by_cases e : i = r
      · subst e
        simp only [Bool.not_eq_true] at hq
        simp [hr, hq]
      · by_cases hi : i < A.R
        · simp [h i hi e, show ¬ r = i by omega]
        · simp [hi, show ¬ r = i by omega]
/-- in, with a row as of a kind -/
def kcp (A : bdy) (r : Nat) (kd : Int) (p : Nat) : Bool := frp A r p && hb kd (A.rw r 2) (sm A r (pt A p) - A.rw r 1)
def asK (A : bdy) (r : Nat) (kd : Int) : bdy := A.setR A.R r (up1 (A.rw r) 0 kd)
theorem hdr_asK (A : bdy) (r : Nat) (kd : Int) (x : Nat → Int) (r' : Nat) : hdr (asK A r kd) x r' = if r' = r then hb kd (A.rw r 2) (sm A r x - A.rw r 1) else hdr A x r' := by
  by_cases e : r' = r
  · subst e
    rw [if_pos rfl]
    unfold hdr
    have e1 : (asK A r' kd).rw r' = up1 (A.rw r') 0 kd := up1_same _ _ _
    have e2 : sm (asK A r' kd) r' x = sm A r' x := by
      unfold sm
      refine smf_c (fun l hl => ?_)
      rw [e1, up1_ne _ _ (by omega)]
    rw [e2, e1, up1_same, up1_ne _ _ (by decide), up1_ne _ _ (by decide)]
  · rw [if_neg e]
    unfold hdr
    have e1 : (asK A r kd).rw r' = A.rw r' := up1_ne _ _ e
    have e2 : sm (asK A r kd) r' x = sm A r' x := by
      unfold sm
      refine smf_c (fun l hl => ?_)
      rw [e1]
    rw [e2, e1]
theorem inP_asK {A : bdy} {r : Nat} (hr : r < A.R) (kd : Int) (p : Nat) : inP (asK A r kd) p = kcp A r kd p := by
  have ep : pt (asK A r kd) = pt A := pt_setR A _ _ _
  apply Bool.eq_iff_iff.mpr
  rw [inP_iff, ep]
  unfold kcp
  rw [Bool.and_eq_true, frp_iff hr]
  constructor
  · intro h
    refine ⟨fun r' hr' hne => ?_, ?_⟩
    · have := h r' hr'
      rw [hdr_asK, if_neg hne] at this
      exact this
    · have := h r hr
      rw [hdr_asK, if_pos rfl] at this
      exact this
  · rintro ⟨h1, h2⟩ r' hr'
    rw [hdr_asK]
    split
    · exact h2
    · rename_i e
      exact h1 r' hr' e
theorem asK_asK (A : bdy) (r : Nat) (w k : Int) : (asK A r w).setR (asK A r w).R r (up1 ((asK A r w).rw r) 0 k) = asK A r k := by
  have e : up1 (up1 A.rw r (up1 (A.rw r) 0 w)) r (up1 (up1 A.rw r (up1 (A.rw r) 0 w) r) 0 k) = up1 A.rw r (up1 (A.rw r) 0 k) := by
    funext i j
    by_cases h1 : i = r
    · subst h1
      rw [up1_same, up1_same, up1_same]
      by_cases h2 : j = 0
      · subst h2
        rw [up1_same, up1_same]
      · rw [up1_ne _ _ h2, up1_ne _ _ h2, up1_ne _ _ h2]
    · rw [up1_ne _ _ h1, up1_ne _ _ h1, up1_ne _ _ h1]
  show (A.n, A.R, A.lo, A.hi, up1 (up1 A.rw r (up1 (A.rw r) 0 w)) r (up1 (up1 A.rw r (up1 (A.rw r) 0 w) r) 0 k), A.ve) = (A.n, A.R, A.lo, A.hi, up1 A.rw r (up1 (A.rw r) 0 k), A.ve)
  rw [e]
theorem asK_own (A : bdy) (r : Nat) : asK A r (A.rw r 0) = A := by
  have e : up1 A.rw r (up1 (A.rw r) 0 (A.rw r 0)) = A.rw := by
    funext i j
    by_cases h1 : i = r
    · subst h1
      rw [up1_same]
      by_cases h2 : j = 0
      · subst h2
        rw [up1_same]
      · rw [up1_ne _ _ h2]
    · rw [up1_ne _ _ h1]
  show (A.n, A.R, A.lo, A.hi, up1 A.rw r (up1 (A.rw r) 0 (A.rw r 0)), A.ve) = A
  rw [e]
  rfl
theorem asK_ok {A : bdy} (hA : okb A) {r : Nat} (hr : r < A.R) {kd : Int} (h : 0 ≤ kd ∧ kd ≤ 5) : okb (asK A r kd) := by
  refine hA.part _ ?_
  obtain ⟨q1, q2, q3, q4⟩ := hA.2.2.2.1 r hr
  refine ⟨?_, ?_, ?_, ?_⟩
  · rw [up1_same]; exact h
  · rw [up1_ne _ _ (by decide)]; exact q2
  · rw [up1_ne _ _ (by decide)]; exact q3
  · intro l hl
    rw [up1_ne _ _ (by omega)]
    exact q4 l hl
theorem C_sumInPacked {σ : mm} {A : bdy} (hC : isC σ 0 A) (hA : okb A) {r : Nat} (hr : r < A.R) (p : Nat) : fX4_sumInPacked r (ii (spt A p)) (ii A.n) σ = some (ii (sm A r (pt A p))) := by
  obtain ⟨z1, z2, z3⟩ := hC.z
  have h1 := spt_lt hA p
  have hn1 := hA.1
  unfold fX4_sumInPacked fX4_sumInPacked_0
  refine lp_f (fun k => (ii (smf (fun l => A.rw r (3 + l) * pt A p l) k), ii k)) A.n rfl ?_ ?_
  · intro k hk
    have h3 := pt_9 hA p (l := k) (by omega)
    have e : fX7_unpack (ii (spt A p)) (ii k) = ii (pt A p k) := by
      rw [unpack_n (by omega) (by omega), spt_get hA p hk]
      congr 1
      omega
    simp (disch := omega) only [fX4_sumInPacked_5_L, fX4_sumInPacked_5, z2, e, smf, if_true, if_false, Option.bind_some, Option.map_some, ii_lit, ll_lit, ii_neg, ll_neg, ii_add, ii_sub, ii_mul, ll_add, ll_sub, ll_mul, ii_le, ii_lt, ii_eq, ii_t, bi_0, bi_1, rd_z, wr_z, rr_z, rl_z, wl_z, tn_n, st_s, st_j, st_i, st_c, st_2, sl_s, sl_j, sl_i, sl_c, sl_1, Int.natCast_add, Int.cast_ofNat_Int, if_pos, if_neg]
  · simp (disch := omega) only [fX4_sumInPacked_5_L, fX4_sumInPacked_5, sm, if_true, if_false, Option.bind_some, Option.map_some, ii_lit, ll_lit, ii_neg, ll_neg, ii_add, ii_sub, ii_mul, ll_add, ll_sub, ll_mul, ii_le, ii_lt, ii_eq, ii_t, bi_0, bi_1, rd_z, wr_z, rr_z, rl_z, wl_z, tn_n, st_s, st_j, st_i, st_c, st_2, sl_s, sl_j, sl_i, sl_c, sl_1, Int.natCast_add, Int.cast_ofNat_Int, if_pos, if_neg]
theorem sm_pt {A : bdy} (hA : okb A) {r : Nat} (hr : r < A.R) (p : Nat) : -324 ≤ sm A r (pt A p) ∧ sm A r (pt A p) ≤ 324 := by
  have := sm_r hA hr (x := pt A p) (B := 9) (by omega) (fun l hl => by have := pt_9 hA p (l := l) (by have := hA.1; omega); omega)
  omega
theorem m_kind {σ τ : mm} (h : Rel σ τ) (r : Int32) : Ag (fX7_kind r σ) (fX8_kind r τ) := by
  obtain ⟨A, hR⟩ := h
  obtain ⟨⟨hC, hM, hA⟩, -⟩ := id hR
  obtain ⟨r, rfl, h1, h2⟩ := ii_ex r
  have c1 := C_hasRow hC h1 h2
  have c2 := M_isRow hM h1 h2
  have hR8 := hA.2.1
  by_cases hv : 0 ≤ r ∧ r < A.R
  · obtain ⟨r, rfl⟩ : ∃ k : Nat, r = k := ⟨r.toNat, by omega⟩
    have hr : r < A.R := by omega
    obtain ⟨σ1, e1, f1, f2, -⟩ := hR.cloud
    have hcn := cnt_le hA
    let v : Nat → Nat := fun k => cnf (kcp A r (k : Int)) (np A)
    have hvl : ∀ k, v k ≤ 4096 := fun k => Nat.le_trans (cnf_le _ _) hcn.2
    obtain ⟨⟨r1, r2⟩, ⟨r3, r4⟩, ⟨r5, r6⟩, -⟩ := hA.2.2.2.1 r hr
    obtain ⟨z1, z2, z3⟩ := f1.1.1.z
    have n1 := f1.1.1.2.1
    have ci : ∀ k : Nat, k < 6 → fX1_insideAs 0 (ii r) (ii k) σ1 = some (ii (v k)) := by
      intro k hk
      unfold fX1_insideAs fX1_insideAs_0
      simp (disch := omega) only [if_true, if_false, Option.bind_some, Option.map_some, ii_lit, ll_lit, ii_neg, ll_neg, ii_add, ii_sub, ii_mul, ll_add, ll_sub, ll_mul, ii_le, ii_lt, ii_eq, ii_t, bi_0, bi_1, rd_z, wr_z, rr_z, rl_z, wl_z, tn_n, st_s, st_j, st_i, st_c, st_2, sl_s, sl_j, sl_i, sl_c, sl_1, Int.natCast_add, Int.cast_ofNat_Int, if_pos, if_neg, decide_eq_false_iff_not, decide_eq_true_eq, in_ll, ii_long, Nat.zero_add, Nat.mul_zero, reduceCtorEq]
      refine lp_f (fun p => (ii (cnf (kcp A r (k : Int)) p), ii p)) (np A) rfl ?_ ?_
      · intro p hp
        have q1 := C_isInWithout f2 hA hp (r := r) (by omega)
        have q2 := C_sumInPacked f1.1.1 hA hr p
        have q3 := sm_pt hA hr p
        have q4 := C_allowsAs (σ := σ1) (i := r) (kd := (k : Int)) (z1 r 1 hr (by decide)) (z1 r 2 hr (by decide)) (by omega) (by omega) r5 r6 (s := sm A r (pt A p)) (by omega) (by omega) r3 r4
        have q5 := f2.2.2 p hp
        by_cases w1 : frp A r p = true
        · by_cases w2 : hb (k : Int) (A.rw r 2) (sm A r (pt A p) - A.rw r 1) = true
          · have w3 : kcp A r (k : Int) p = true := by unfold kcp; rw [w1, w2]; rfl
            rw [cnf_yes w3]
            simp (disch := omega) only [fX1_insideAs_14_L, fX1_insideAs_14, fX1_insideAs_61, f2.1, q1, w1, q5, n1, q2, q4, w2, if_true, if_false, Option.bind_some, Option.map_some, ii_lit, ll_lit, ii_neg, ll_neg, ii_add, ii_sub, ii_mul, ll_add, ll_sub, ll_mul, ii_le, ii_lt, ii_eq, ii_t, bi_0, bi_1, rd_z, wr_z, rr_z, rl_z, wl_z, tn_n, st_s, st_j, st_i, st_c, st_2, sl_s, sl_j, sl_i, sl_c, sl_1, Int.natCast_add, Int.cast_ofNat_Int, if_pos, if_neg, decide_eq_false_iff_not, decide_eq_true_eq, in_ll, ii_long, Nat.zero_add, Nat.mul_zero, reduceCtorEq]
          · have w3 : ¬ kcp A r (k : Int) p = true := by unfold kcp; rw [Bool.and_eq_true]; exact fun e => w2 e.2
            rw [cnf_no w3]
            simp only [Bool.not_eq_true] at w2
            simp (disch := omega) only [fX1_insideAs_14_L, fX1_insideAs_14, fX1_insideAs_61, f2.1, q1, w1, q5, n1, q2, q4, w2, if_true, if_false, Option.bind_some, Option.map_some, ii_lit, ll_lit, ii_neg, ll_neg, ii_add, ii_sub, ii_mul, ll_add, ll_sub, ll_mul, ii_le, ii_lt, ii_eq, ii_t, bi_0, bi_1, rd_z, wr_z, rr_z, rl_z, wl_z, tn_n, st_s, st_j, st_i, st_c, st_2, sl_s, sl_j, sl_i, sl_c, sl_1, Int.natCast_add, Int.cast_ofNat_Int, if_pos, if_neg, decide_eq_false_iff_not, decide_eq_true_eq, in_ll, ii_long, Nat.zero_add, Nat.mul_zero, reduceCtorEq]
        · have w3 : ¬ kcp A r (k : Int) p = true := by unfold kcp; rw [Bool.and_eq_true]; exact fun e => w1 e.1
          rw [cnf_no w3]
          simp only [Bool.not_eq_true] at w1
          simp (disch := omega) only [fX1_insideAs_14_L, fX1_insideAs_14, fX1_insideAs_61, f2.1, q1, w1, if_true, if_false, Option.bind_some, Option.map_some, ii_lit, ll_lit, ii_neg, ll_neg, ii_add, ii_sub, ii_mul, ll_add, ll_sub, ll_mul, ii_le, ii_lt, ii_eq, ii_t, bi_0, bi_1, rd_z, wr_z, rr_z, rl_z, wl_z, tn_n, st_s, st_j, st_i, st_c, st_2, sl_s, sl_j, sl_i, sl_c, sl_1, Int.natCast_add, Int.cast_ofNat_Int, if_pos, if_neg, decide_eq_false_iff_not, decide_eq_true_eq, in_ll, ii_long, Nat.zero_add, Nat.mul_zero, reduceCtorEq]
      · simp (disch := omega) only [fX1_insideAs_14_L, fX1_insideAs_14, f2.1, if_true, if_false, Option.bind_some, Option.map_some, ii_lit, ll_lit, ii_neg, ll_neg, ii_add, ii_sub, ii_mul, ll_add, ll_sub, ll_mul, ii_le, ii_lt, ii_eq, ii_t, bi_0, bi_1, rd_z, wr_z, rr_z, rl_z, wl_z, tn_n, st_s, st_j, st_i, st_c, st_2, sl_s, sl_j, sl_i, sl_c, sl_1, Int.natCast_add, Int.cast_ofNat_Int, if_pos, if_neg, decide_eq_false_iff_not, decide_eq_true_eq, in_ll, ii_long, Nat.zero_add, Nat.mul_zero, reduceCtorEq]
        rfl
    have ref : ∃ s, lp (fX8_kind_30_L (ii r) (ii (A.rw r 0))) (ii 0, ii (-1), ii 0, τ) = some s ∧ (s.1 = ii (fmx v 6).1 ∧ isM s.2 A ∧ Fr [45, 48, 49, 50] [11] τ s.2) := by
      refine lp_j (fun k s => s.1 = ii (fmx v k).1 ∧ s.2.1 = ii (fmx v k).2 ∧ s.2.2.1 = ii k ∧ (∃ w, isM s.2.2.2 (asK A r w)) ∧ Fr [45, 48, 49, 50] [11] τ s.2.2.2) _ 6 ⟨rfl, rfl, rfl, ⟨A.rw r 0, by rw [asK_own]; exact hM⟩, Fr.rf _ _ _⟩ ?_ ?_
      · rintro k ⟨a, b, c, s⟩ hk ⟨y1, y2, y3, ⟨w, y4⟩, y5⟩
        have y1 : a = ii (fmx v k).1 := y1
        have y2 : b = ii (fmx v k).2 := y2
        have y3 : c = ii k := y3
        subst y1 y2 y3
        have x4 : isM s (asK A r w) := y4
        have x5 : Fr [45, 48, 49, 50] [11] τ s := y5
        have x6 := x4.part (r := r) hr (w := 0) (by decide) (k : Int)
        rw [asK_asK] at x6
        have okk := asK_ok hA hr (kd := (k : Int)) (by omega)
        obtain ⟨s', e5, o1, o2, o3, o4⟩ := M_looks x6 okk
        have ev : cnf (inP (asK A r (k : Int))) (np (asK A r (k : Int))) = v k := by
          show cnf (inP (asK A r (k : Int))) (np A) = cnf (kcp A r (k : Int)) (np A)
          exact cnf_c (fun p _ => inP_asK hr _ p)
        rw [ev] at o1
        have q2 := fmx_r hvl k
        have q3 := hvl k
        refine ⟨(ii (fmx v (k + 1)).1, ii (fmx v (k + 1)).2, ii ((k + 1 : Nat)), s'), ?_, rfl, rfl, rfl, ⟨_, x6.fr o4 (by decide) (by decide)⟩, (x5.sI (by decide) (by decide)).tr (o4.mono (by decide) (by decide))⟩
        have e6 : (7 * (r : Int)).toNat = 7 * r + 0 := by omega
        by_cases q : (fmx v k).2 < (v k : Int)
        · have e5' : fmx v (k + 1) = (k, (v k : Int)) := by rw [fmx, if_pos q]
          rw [e5']
          simp (disch := omega) only [fX8_kind_30_L, fX8_kind_30, fX8_kind_67, fX8_kind_86, e6, e5, o1, if_true, if_false, Option.bind_some, Option.map_some, ii_lit, ll_lit, ii_neg, ll_neg, ii_add, ii_sub, ii_mul, ll_add, ll_sub, ll_mul, ii_le, ii_lt, ii_eq, ii_t, bi_0, bi_1, rd_z, wr_z, rr_z, rl_z, wl_z, tn_n, st_s, st_j, st_i, st_c, st_2, sl_s, sl_j, sl_i, sl_c, sl_1, Int.natCast_add, Int.cast_ofNat_Int, if_pos, if_neg]
        · have e5' : fmx v (k + 1) = fmx v k := by rw [fmx, if_neg q]
          rw [e5']
          simp (disch := omega) only [fX8_kind_30_L, fX8_kind_30, fX8_kind_67, fX8_kind_86, e6, e5, o1, if_true, if_false, Option.bind_some, Option.map_some, ii_lit, ll_lit, ii_neg, ll_neg, ii_add, ii_sub, ii_mul, ll_add, ll_sub, ll_mul, ii_le, ii_lt, ii_eq, ii_t, bi_0, bi_1, rd_z, wr_z, rr_z, rl_z, wl_z, tn_n, st_s, st_j, st_i, st_c, st_2, sl_s, sl_j, sl_i, sl_c, sl_1, Int.natCast_add, Int.cast_ofNat_Int, if_pos, if_neg]
      · rintro ⟨a, b, c, s⟩ ⟨y1, y2, y3, ⟨w, y4⟩, y5⟩
        have y1 : a = ii (fmx v 6).1 := y1
        have y3 : c = ii 6 := y3
        subst y1 y3
        have x4 : isM s (asK A r w) := y4
        have x5 : Fr [45, 48, 49, 50] [11] τ s := y5
        have x6 := x4.part (r := r) hr (w := 0) (by decide) (A.rw r 0)
        rw [asK_asK, asK_own] at x6
        have e6 : (7 * (r : Int)).toNat = 7 * r + 0 := by omega
        refine ⟨(ii (fmx v 6).1, stI s 45 0 (7 * r + 0) (ii (A.rw r 0))), ?_, rfl, x6, x5.sI (by decide) (by decide)⟩
        simp (disch := omega) only [fX8_kind_30_L, fX8_kind_30, e6, if_true, if_false, Option.bind_some, Option.map_some, ii_lit, ll_lit, ii_neg, ll_neg, ii_add, ii_sub, ii_mul, ll_add, ll_sub, ll_mul, ii_le, ii_lt, ii_eq, ii_t, bi_0, bi_1, rd_z, wr_z, rr_z, rl_z, wl_z, tn_n, st_s, st_j, st_i, st_c, st_2, sl_s, sl_j, sl_i, sl_c, sl_1, Int.natCast_add, Int.cast_ofNat_Int, if_pos, if_neg]
    obtain ⟨⟨x, τ1⟩, e2, w1, w2, w3⟩ := ref
    have w1 : x = ii (fmx v 6).1 := w1
    subst w1
    have hat := M_at hM hr (x := 0) (by decide) (by decide)
    have hRl : RelA σ1 τ1 A := by
      obtain ⟨⟨q1, q2, q3⟩, q4, ⟨d1, d2, d3, d4, d5⟩⟩ := f1
      have rf : Fr [] [] σ1 σ1 := Fr.rf _ _ _
      exact ⟨⟨q1, w2, q3⟩, q4, d1.fr rf w3 (by decide) (by decide) (by decide), d2.fr rf w3 (by decide) (by decide) (by decide), d3.fr rf w3 (by decide) (by decide), d4.fr rf w3 (by decide) (by decide), d5.fr w3 (by decide)⟩
    refine ⟨ii (fmx v 6).1, σ1, τ1, ?_, ?_, _, hRl⟩
    · unfold fX7_kind fX7_kind_0
      simp (disch := omega) only [c1, e1, if_true, if_false, Option.bind_some, Option.map_some, ii_lit, ll_lit, ii_neg, ll_neg, ii_add, ii_sub, ii_mul, ll_add, ll_sub, ll_mul, ii_le, ii_lt, ii_eq, ii_t, bi_0, bi_1, rd_z, wr_z, rr_z, rl_z, wl_z, tn_n, st_s, st_j, st_i, st_c, st_2, sl_s, sl_j, sl_i, sl_c, sl_1, Int.natCast_add, Int.cast_ofNat_Int, if_pos, if_neg, decide_eq_false_iff_not, decide_eq_true_eq, in_ll, ii_long, Nat.zero_add, Nat.mul_zero, reduceCtorEq]
      refine lp_f (fun k => (ii (fmx v k).1, ii (fmx v k).2, ii k)) 6 rfl ?_ ?_
      · intro k hk
        have q1 := ci k hk
        have q2 := fmx_r hvl k
        have q3 := hvl k
        by_cases q : (fmx v k).2 < (v k : Int)
        · have e5 : fmx v (k + 1) = (k, (v k : Int)) := by rw [fmx, if_pos q]
          rw [e5]
          simp (disch := omega) only [fX7_kind_35_L, fX7_kind_35, fX7_kind_70, q1, if_true, if_false, Option.bind_some, Option.map_some, ii_lit, ll_lit, ii_neg, ll_neg, ii_add, ii_sub, ii_mul, ll_add, ll_sub, ll_mul, ii_le, ii_lt, ii_eq, ii_t, bi_0, bi_1, rd_z, wr_z, rr_z, rl_z, wl_z, tn_n, st_s, st_j, st_i, st_c, st_2, sl_s, sl_j, sl_i, sl_c, sl_1, Int.natCast_add, Int.cast_ofNat_Int, if_pos, if_neg, decide_eq_false_iff_not, decide_eq_true_eq, in_ll, ii_long, Nat.zero_add, Nat.mul_zero, reduceCtorEq]
        · have e5 : fmx v (k + 1) = fmx v k := by rw [fmx, if_neg q]
          rw [e5]
          simp (disch := omega) only [fX7_kind_35_L, fX7_kind_35, fX7_kind_70, q1, if_true, if_false, Option.bind_some, Option.map_some, ii_lit, ll_lit, ii_neg, ll_neg, ii_add, ii_sub, ii_mul, ll_add, ll_sub, ll_mul, ii_le, ii_lt, ii_eq, ii_t, bi_0, bi_1, rd_z, wr_z, rr_z, rl_z, wl_z, tn_n, st_s, st_j, st_i, st_c, st_2, sl_s, sl_j, sl_i, sl_c, sl_1, Int.natCast_add, Int.cast_ofNat_Int, if_pos, if_neg, decide_eq_false_iff_not, decide_eq_true_eq, in_ll, ii_long, Nat.zero_add, Nat.mul_zero, reduceCtorEq]
      · simp (disch := omega) only [fX7_kind_35_L, fX7_kind_35, if_true, if_false, Option.bind_some, Option.map_some, ii_lit, ll_lit, ii_neg, ll_neg, ii_add, ii_sub, ii_mul, ll_add, ll_sub, ll_mul, ii_le, ii_lt, ii_eq, ii_t, bi_0, bi_1, rd_z, wr_z, rr_z, rl_z, wl_z, tn_n, st_s, st_j, st_i, st_c, st_2, sl_s, sl_j, sl_i, sl_c, sl_1, Int.natCast_add, Int.cast_ofNat_Int, if_pos, if_neg, decide_eq_false_iff_not, decide_eq_true_eq, in_ll, ii_long, Nat.zero_add, Nat.mul_zero, reduceCtorEq]
    · unfold fX8_kind fX8_kind_0
      simp (disch := omega) only [c2, hat, Int.toNat_zero, e2, if_true, if_false, Option.bind_some, Option.map_some, ii_lit, ll_lit, ii_neg, ll_neg, ii_add, ii_sub, ii_mul, ll_add, ll_sub, ll_mul, ii_le, ii_lt, ii_eq, ii_t, bi_0, bi_1, rd_z, wr_z, rr_z, rl_z, wl_z, tn_n, st_s, st_j, st_i, st_c, st_2, sl_s, sl_j, sl_i, sl_c, sl_1, Int.natCast_add, Int.cast_ofNat_Int, if_pos, if_neg, decide_eq_false_iff_not, decide_eq_true_eq, in_ll, ii_long, Nat.zero_add, Nat.mul_zero, reduceCtorEq]
  · obtain ⟨σ', τ', e3, e4, hr⟩ := fd0 hR
    refine ⟨ii (-1000000001), σ', τ', ?_, ?_, _, hr⟩
    · unfold fX7_kind fX7_kind_0
      simp (disch := omega) only [c1, e3, if_true, if_false, Option.bind_some, Option.map_some, ii_lit, ll_lit, ii_neg, ll_neg, ii_add, ii_sub, ii_mul, ll_add, ll_sub, ll_mul, ii_le, ii_lt, ii_eq, ii_t, bi_0, bi_1, rd_z, wr_z, rr_z, rl_z, wl_z, tn_n, st_s, st_j, st_i, st_c, st_2, sl_s, sl_j, sl_i, sl_c, sl_1, Int.natCast_add, Int.cast_ofNat_Int, if_pos, if_neg, decide_eq_false_iff_not, decide_eq_true_eq, in_ll, ii_long, Nat.zero_add, Nat.mul_zero, reduceCtorEq]
    · unfold fX8_kind fX8_kind_0
      simp (disch := omega) only [c2, e4, if_true, if_false, Option.bind_some, Option.map_some, ii_lit, ll_lit, ii_neg, ll_neg, ii_add, ii_sub, ii_mul, ll_add, ll_sub, ll_mul, ii_le, ii_lt, ii_eq, ii_t, bi_0, bi_1, rd_z, wr_z, rr_z, rl_z, wl_z, tn_n, st_s, st_j, st_i, st_c, st_2, sl_s, sl_j, sl_i, sl_c, sl_1, Int.natCast_add, Int.cast_ofNat_Int, if_pos, if_neg, decide_eq_false_iff_not, decide_eq_true_eq, in_ll, ii_long, Nat.zero_add, Nat.mul_zero, reduceCtorEq]
