-- tree, leaf, side
theorem tr_ok {A : bdy} (hA : okb A) : ∀ (f : Nat) (c : bx), pot A c ≤ f → okc c → ∀ q ∈ tr A f c, okc q.1 ∧ -1 ≤ q.2 ∧ q.2 < 8 := by
  have hR8 := hA.2.1
  have one : ∀ (f : Nat) (c : bx), okc c → vrd A c A.R ≠ -2 → ∀ q ∈ tr A f c, okc q.1 ∧ -1 ≤ q.2 ∧ q.2 < 8 := by
    intro f c hc hv q hq
    rw [(tr_leaf (f := f) hv).1, List.mem_singleton] at hq
    subst hq
    have := vrd_v A c A.R
    exact ⟨hc, by show -1 ≤ vrd A c A.R; omega, by show vrd A c A.R < 8; omega⟩
  intro f
  induction f with
  | zero =>
    intro c hp hc
    refine one 0 c hc ?_
    intro e
    obtain ⟨w1, w2⟩ := open_wide hA hc e
    have q1 := pot_lo hA hc w1 w2
    have q2 := (pot_r hA (cLo A c)).1
    omega
  | succ f ih =>
    intro c hp hc
    by_cases hv : vrd A c A.R = -2
    · obtain ⟨w1, w2⟩ := open_wide hA hc hv
      have q1 := pot_lo hA hc w1 w2
      have q2 := pot_hi hA hc w1 w2
      rw [tr, if_pos hv]
      intro q hq
      rcases List.mem_append.mp hq with h | h
      · exact ih (cLo A c) (by omega) (okc_lo hA hc w2) q h
      · exact ih (cHi A c) (by omega) (okc_hi hA hc w2) q h
    · exact one (f + 1) c hc hv
theorem okc_box {A : bdy} (hA : okb A) : okc (A.lo, A.hi) := fun _ hl => hA.2.2.1 _ hl
theorem trA_ok {A : bdy} (hA : okb A) {k : Nat} {q : bx × Int} (h : (trA A)[k]? = some q) : okc q.1 ∧ -1 ≤ q.2 ∧ q.2 < 8 :=
  tr_ok hA 20 (A.lo, A.hi) (pot_r hA _).2 (okc_box hA) q (List.mem_of_getElem? h)
theorem trA_len {A : bdy} (hA : okb A) : (trA A).length ≤ 4096 := by
  have h := (tr_len hA 20 (A.lo, A.hi) (okc_box hA)).1
  have h2 : pcl A.n (A.lo, A.hi) = pts A := rfl
  have h3 := hA.2.2.2.2.2
  unfold trA
  omega
theorem RelA.cells {σ τ : mm} {A : bdy} (hR : RelA σ τ A) : ∃ σ', fX6_refresh 0 σ = some σ' ∧ RelA σ' τ A ∧ treeP σ' A := by
  obtain ⟨⟨hC, hM, hA⟩, ⟨b1, b2⟩, hX⟩ := id hR
  rcases b2 with b2 | ⟨b2, b3⟩
  · have f5 : Fr [6, 15, 16, 22] [] σ (stI (stI (stI (stI (stI σ 6 0 0 (ii 0)) 6 0 1 (ii 0)) 6 0 2 (ii 0)) 6 0 3 (ii 0)) 6 0 4 (ii 0)) := (((((Fr.rf _ _ _).sI (by decide) (by decide)).sI (by decide) (by decide)).sI (by decide) (by decide)).sI (by decide) (by decide)).sI (by decide) (by decide)
    obtain ⟨s6, e6, c1, c2, c3, c4⟩ := cp_z (σ := stI (stI (stI (stI (stI σ 6 0 0 (ii 0)) 6 0 1 (ii 0)) 6 0 2 (ii 0)) 6 0 3 (ii 0)) 6 0 4 (ii 0)) (c := 8) (i := 0) (n := 4) (c' := 15) (i' := 0) (n' := 4) (sp := 0) (dp := 0) (k := 4) (by decide) (by decide) (by decide) (by decide)
    have e6' : cpI (stI (stI (stI (stI (stI σ 6 0 0 (ii 0)) 6 0 1 (ii 0)) 6 0 2 (ii 0)) 6 0 3 (ii 0)) 6 0 4 (ii 0)) 8 0 4 15 0 4 (ii 0) (ii 0) (ii 4) = some s6 := e6
    obtain ⟨s7, e7, d1, d2, d3, d4⟩ := cp_z (σ := s6) (c := 9) (i := 0) (n := 4) (c' := 16) (i' := 0) (n' := 4) (sp := 0) (dp := 0) (k := 4) (by decide) (by decide) (by decide) (by decide)
    have e7' : cpI s6 9 0 4 16 0 4 (ii 0) (ii 0) (ii 4) = some s7 := e7
    have f7 : Fr [6, 15, 16, 22] [] σ s7 := cp_fr (cp_fr f5 c2 c4 (by decide) (by decide)) d2 d4 (by decide) (by decide)
    have q6 : s7.1 6 = (stI (stI (stI (stI (stI σ 6 0 0 (ii 0)) 6 0 1 (ii 0)) 6 0 2 (ii 0)) 6 0 3 (ii 0)) 6 0 4 (ii 0)).1 6 := by rw [d2 6 (by decide), c2 6 (by decide)]
    have hlen := trA_len hA
    obtain ⟨σ', x1, x2, x3, x4, x5, x6, x7, x8, x9, x10, x11, x12⟩ := C_grow hA 20 (A.lo, A.hi) 26 0 s7 0 0 0 0 (by decide) (pot_r hA _).2 (by decide) (okc_box hA) (hC.fr f7 (by decide))
      (fun l hl => by
        rw [d2 15 (by decide), c1, if_pos (by omega), show 0 + (l - 0) = l by omega]
        simp (disch := omega) only [if_true, if_false, Option.bind_some, Option.map_some, ii_lit, ll_lit, ii_neg, ll_neg, ii_add, ii_sub, ii_mul, ll_add, ll_sub, ll_mul, ii_le, ii_lt, ii_eq, ii_t, bi_0, bi_1, rd_z, wr_z, rr_z, rl_z, wl_z, tn_n, st_s, st_j, st_i, st_c, st_2, sl_s, sl_j, sl_i, sl_c, sl_1, Int.natCast_add, Int.cast_ofNat_Int, if_pos, if_neg]
        exact hC.2.2.2.1 l hl)
      (fun l hl => by
        rw [d1, if_pos (by omega), show 0 + (l - 0) = l by omega, c2 9 (by decide)]
        simp (disch := omega) only [if_true, if_false, Option.bind_some, Option.map_some, ii_lit, ll_lit, ii_neg, ll_neg, ii_add, ii_sub, ii_mul, ll_add, ll_sub, ll_mul, ii_le, ii_lt, ii_eq, ii_t, bi_0, bi_1, rd_z, wr_z, rr_z, rl_z, wl_z, tn_n, st_s, st_j, st_i, st_c, st_2, sl_s, sl_j, sl_i, sl_c, sl_1, Int.natCast_add, Int.cast_ofNat_Int, if_pos, if_neg]
        exact hC.2.2.2.2.1 l hl)
      (by rw [q6]; simp (disch := omega) only [if_true, if_false, Option.bind_some, Option.map_some, ii_lit, ll_lit, ii_neg, ll_neg, ii_add, ii_sub, ii_mul, ll_add, ll_sub, ll_mul, ii_le, ii_lt, ii_eq, ii_t, bi_0, bi_1, rd_z, wr_z, rr_z, rl_z, wl_z, tn_n, st_s, st_j, st_i, st_c, st_2, sl_s, sl_j, sl_i, sl_c, sl_1, Int.natCast_add, Int.cast_ofNat_Int, if_pos, if_neg]) (by rw [q6]; simp (disch := omega) only [if_true, if_false, Option.bind_some, Option.map_some, ii_lit, ll_lit, ii_neg, ll_neg, ii_add, ii_sub, ii_mul, ll_add, ll_sub, ll_mul, ii_le, ii_lt, ii_eq, ii_t, bi_0, bi_1, rd_z, wr_z, rr_z, rl_z, wl_z, tn_n, st_s, st_j, st_i, st_c, st_2, sl_s, sl_j, sl_i, sl_c, sl_1, Int.natCast_add, Int.cast_ofNat_Int, if_pos, if_neg]) (by rw [q6]; simp (disch := omega) only [if_true, if_false, Option.bind_some, Option.map_some, ii_lit, ll_lit, ii_neg, ll_neg, ii_add, ii_sub, ii_mul, ll_add, ll_sub, ll_mul, ii_le, ii_lt, ii_eq, ii_t, bi_0, bi_1, rd_z, wr_z, rr_z, rl_z, wl_z, tn_n, st_s, st_j, st_i, st_c, st_2, sl_s, sl_j, sl_i, sl_c, sl_1, Int.natCast_add, Int.cast_ofNat_Int, if_pos, if_neg]) (by rw [q6]; simp (disch := omega) only [if_true, if_false, Option.bind_some, Option.map_some, ii_lit, ll_lit, ii_neg, ll_neg, ii_add, ii_sub, ii_mul, ll_add, ll_sub, ll_mul, ii_le, ii_lt, ii_eq, ii_t, bi_0, bi_1, rd_z, wr_z, rr_z, rl_z, wl_z, tn_n, st_s, st_j, st_i, st_c, st_2, sl_s, sl_j, sl_i, sl_c, sl_1, Int.natCast_add, Int.cast_ofNat_Int, if_pos, if_neg]) (by rw [Nat.zero_add]; exact hlen) (by decide) (by decide)
    have hT : treeP σ' A := by
      refine ⟨?_, ?_, ?_, ?_, ?_⟩
      · rw [x2, Nat.zero_add]
      · rw [x3, Nat.zero_add]; rfl
      · rw [x4, Nat.zero_add]; rfl
      · rw [x5]
        congr 2
        omega
      · intro k q hk
        have := x9 k q hk
        rw [Nat.zero_add] at this
        exact this
    have h0 : σ'.1 6 0 0 = ii 0 := by
      rw [x6, q6]
      simp (disch := omega) only [if_true, if_false, Option.bind_some, Option.map_some, ii_lit, ll_lit, ii_neg, ll_neg, ii_add, ii_sub, ii_mul, ll_add, ll_sub, ll_mul, ii_le, ii_lt, ii_eq, ii_t, bi_0, bi_1, rd_z, wr_z, rr_z, rl_z, wl_z, tn_n, st_s, st_j, st_i, st_c, st_2, sl_s, sl_j, sl_i, sl_c, sl_1, Int.natCast_add, Int.cast_ofNat_Int, if_pos, if_neg]
    have fr := f7.tr x12
    refine ⟨σ', ?_, ⟨⟨hC.fr fr (by decide), hM, hA⟩, ⟨b1.c fr (by decide), Or.inr ⟨h0, hT⟩⟩, hX.c fr (by decide)⟩, hT⟩
    unfold fX6_refresh fX6_refresh_0
    have x1' : fX6_grow 26 0 (ii 0) s7 = some σ' := x1
    simp (disch := omega) only [b2, e6', e7', x1', if_true, if_false, Option.bind_some, Option.map_some, ii_lit, ll_lit, ii_neg, ll_neg, ii_add, ii_sub, ii_mul, ll_add, ll_sub, ll_mul, ii_le, ii_lt, ii_eq, ii_t, bi_0, bi_1, rd_z, wr_z, rr_z, rl_z, wl_z, tn_n, st_s, st_j, st_i, st_c, st_2, sl_s, sl_j, sl_i, sl_c, sl_1, Int.natCast_add, Int.cast_ofNat_Int, if_pos, if_neg, decide_eq_false_iff_not, decide_eq_true_eq, in_ll, ii_long, Nat.zero_add, Nat.mul_zero, reduceCtorEq]
  · refine ⟨σ, ?_, hR, b3⟩
    unfold fX6_refresh fX6_refresh_0
    simp (disch := omega) only [b2, if_true, if_false, Option.bind_some, Option.map_some, ii_lit, ll_lit, ii_neg, ll_neg, ii_add, ii_sub, ii_mul, ll_add, ll_sub, ll_mul, ii_le, ii_lt, ii_eq, ii_t, bi_0, bi_1, rd_z, wr_z, rr_z, rl_z, wl_z, tn_n, st_s, st_j, st_i, st_c, st_2, sl_s, sl_j, sl_i, sl_c, sl_1, Int.natCast_add, Int.cast_ofNat_Int, if_pos, if_neg, decide_eq_false_iff_not, decide_eq_true_eq, in_ll, ii_long, Nat.zero_add, Nat.mul_zero, reduceCtorEq]
def growP (τ : mm) (A : bdy) : Prop := τ.1 32 0 19 = ii (ncl A 20 (A.lo, A.hi)) ∧ τ.1 32 0 18 = ii (trA A).length ∧ τ.1 32 0 21 = ii (ndd (trA A)) ∧ τ.1 32 0 20 = ii (dpt A 20 (A.lo, A.hi)) ∧ lvM τ A.n 0 (trA A)
theorem RelA.grows {σ τ : mm} {A : bdy} (hR : RelA σ τ A) : ∃ τ', fX8_grows τ = some τ' ∧ RelA σ τ' A ∧ growP τ' A ∧ Fr [47, 57] [18, 19, 20, 21] τ τ' := by
  obtain ⟨⟨hC, hM, hA⟩, -⟩ := id hR
  have f4 : Fr [47, 57] [18, 19, 20, 21] τ (stI (stI (stI (stI τ 32 0 18 (ii 0)) 32 0 19 (ii 0)) 32 0 20 (ii 0)) 32 0 21 (ii 0)) := ((((Fr.rf _ _ _).sF (by decide)).sF (by decide)).sF (by decide)).sF (by decide)
  obtain ⟨s, e1, g1, g2⟩ := M_whole (hM.fr f4 (by decide) (by decide))
  have hMs := (hM.fr f4 (by decide) (by decide)).fr g2 (by decide) (by decide)
  have hlen := trA_len hA
  obtain ⟨τ', x1, x2, x3, x4, x5, x6, x7, x8, x9, x10⟩ := M_parts hA 20 (A.lo, A.hi) 50 0 s 0 0 0 0 (by decide) (pot_r hA _).2 (by decide) (okc_box hA) hMs g1
    (by rw [g2.2.2 19 (by decide)]; simp (disch := omega) only [if_true, if_false, Option.bind_some, Option.map_some, ii_lit, ll_lit, ii_neg, ll_neg, ii_add, ii_sub, ii_mul, ll_add, ll_sub, ll_mul, ii_le, ii_lt, ii_eq, ii_t, bi_0, bi_1, rd_z, wr_z, rr_z, rl_z, wl_z, tn_n, st_s, st_j, st_i, st_c, st_2, sl_s, sl_j, sl_i, sl_c, sl_1, Int.natCast_add, Int.cast_ofNat_Int, if_pos, if_neg]) (by rw [g2.2.2 18 (by decide)]; simp (disch := omega) only [if_true, if_false, Option.bind_some, Option.map_some, ii_lit, ll_lit, ii_neg, ll_neg, ii_add, ii_sub, ii_mul, ll_add, ll_sub, ll_mul, ii_le, ii_lt, ii_eq, ii_t, bi_0, bi_1, rd_z, wr_z, rr_z, rl_z, wl_z, tn_n, st_s, st_j, st_i, st_c, st_2, sl_s, sl_j, sl_i, sl_c, sl_1, Int.natCast_add, Int.cast_ofNat_Int, if_pos, if_neg]) (by rw [g2.2.2 21 (by decide)]; simp (disch := omega) only [if_true, if_false, Option.bind_some, Option.map_some, ii_lit, ll_lit, ii_neg, ll_neg, ii_add, ii_sub, ii_mul, ll_add, ll_sub, ll_mul, ii_le, ii_lt, ii_eq, ii_t, bi_0, bi_1, rd_z, wr_z, rr_z, rl_z, wl_z, tn_n, st_s, st_j, st_i, st_c, st_2, sl_s, sl_j, sl_i, sl_c, sl_1, Int.natCast_add, Int.cast_ofNat_Int, if_pos, if_neg]) (by rw [g2.2.2 20 (by decide)]; simp (disch := omega) only [if_true, if_false, Option.bind_some, Option.map_some, ii_lit, ll_lit, ii_neg, ll_neg, ii_add, ii_sub, ii_mul, ll_add, ll_sub, ll_mul, ii_le, ii_lt, ii_eq, ii_t, bi_0, bi_1, rd_z, wr_z, rr_z, rl_z, wl_z, tn_n, st_s, st_j, st_i, st_c, st_2, sl_s, sl_j, sl_i, sl_c, sl_1, Int.natCast_add, Int.cast_ofNat_Int, if_pos, if_neg]) (by rw [Nat.zero_add]; exact hlen) (by decide)
  have fr := (f4.tr (g2.mono (by decide) (by decide))).tr x10
  refine ⟨τ', ?_, hR.m (fr.mono (by decide) (by decide)), ⟨?_, ?_, ?_, ?_, x6⟩, fr⟩
  · unfold fX8_grows fX8_grows_0
    have x1' : fX8_parts 50 (ii 0) s = some τ' := x1
    simp (disch := omega) only [e1, x1', if_true, if_false, Option.bind_some, Option.map_some, ii_lit, ll_lit, ii_neg, ll_neg, ii_add, ii_sub, ii_mul, ll_add, ll_sub, ll_mul, ii_le, ii_lt, ii_eq, ii_t, bi_0, bi_1, rd_z, wr_z, rr_z, rl_z, wl_z, tn_n, st_s, st_j, st_i, st_c, st_2, sl_s, sl_j, sl_i, sl_c, sl_1, Int.natCast_add, Int.cast_ofNat_Int, if_pos, if_neg, decide_eq_false_iff_not, decide_eq_true_eq, in_ll, ii_long, Nat.zero_add, Nat.mul_zero, reduceCtorEq]
  · rw [x2, Nat.zero_add]
  · rw [x3, Nat.zero_add]; rfl
  · rw [x4, Nat.zero_add]; rfl
  · rw [x5]
    congr 2
    omega
theorem m_tree {σ τ : mm} (h : Rel σ τ) (w : Int32) : Ag (fX7_tree w σ) (fX8_tree w τ) := by
  obtain ⟨A, hR⟩ := h
  obtain ⟨w, rfl, h1, h2⟩ := ii_ex w
  by_cases hv : 0 ≤ w ∧ w ≤ 3
  · obtain ⟨σ1, e1, f1, f2⟩ := hR.cells
    obtain ⟨τ1, e2, g1, g2, -⟩ := f1.grows
    obtain ⟨t1, t2, t3, t4, -⟩ := f2
    obtain ⟨u1, u2, u3, u4, -⟩ := g2
    refine ⟨ii (if w = 0 then (ncl A 20 (A.lo, A.hi) : Int) else if w = 1 then (dpt A 20 (A.lo, A.hi) : Int) else if w = 2 then (ndd (trA A) : Int) else ((trA A).length : Int) - ndd (trA A)), σ1, τ1, ?_, ?_, _, g1⟩
    · unfold fX7_tree fX7_tree_0
      have : w = 0 ∨ w = 1 ∨ w = 2 ∨ w = 3 := by omega
      rcases this with rfl | rfl | rfl | rfl <;> simp (disch := omega) only [e1, t1, t2, t3, t4, if_true, if_false, Option.bind_some, Option.map_some, ii_lit, ll_lit, ii_neg, ll_neg, ii_add, ii_sub, ii_mul, ll_add, ll_sub, ll_mul, ii_le, ii_lt, ii_eq, ii_t, bi_0, bi_1, rd_z, wr_z, rr_z, rl_z, wl_z, tn_n, st_s, st_j, st_i, st_c, st_2, sl_s, sl_j, sl_i, sl_c, sl_1, Int.natCast_add, Int.cast_ofNat_Int, if_pos, if_neg, decide_eq_false_iff_not, decide_eq_true_eq, in_ll, ii_long, Nat.zero_add, Nat.mul_zero, reduceCtorEq]
    · unfold fX8_tree fX8_tree_0
      have : w = 0 ∨ w = 1 ∨ w = 2 ∨ w = 3 := by omega
      rcases this with rfl | rfl | rfl | rfl <;> simp (disch := omega) only [e2, u1, u2, u3, u4, if_true, if_false, Option.bind_some, Option.map_some, ii_lit, ll_lit, ii_neg, ll_neg, ii_add, ii_sub, ii_mul, ll_add, ll_sub, ll_mul, ii_le, ii_lt, ii_eq, ii_t, bi_0, bi_1, rd_z, wr_z, rr_z, rl_z, wl_z, tn_n, st_s, st_j, st_i, st_c, st_2, sl_s, sl_j, sl_i, sl_c, sl_1, Int.natCast_add, Int.cast_ofNat_Int, if_pos, if_neg, decide_eq_false_iff_not, decide_eq_true_eq, in_ll, ii_long, Nat.zero_add, Nat.mul_zero, reduceCtorEq]
  · obtain ⟨σ', τ', e3, e4, hr⟩ := fd0 hR
    refine ⟨ii (-1000000001), σ', τ', ?_, ?_, _, hr⟩
    · unfold fX7_tree fX7_tree_0 fX7_tree_9
      by_cases q : w < 0
      · simp (disch := omega) only [e3, if_true, if_false, Option.bind_some, Option.map_some, ii_lit, ll_lit, ii_neg, ll_neg, ii_add, ii_sub, ii_mul, ll_add, ll_sub, ll_mul, ii_le, ii_lt, ii_eq, ii_t, bi_0, bi_1, rd_z, wr_z, rr_z, rl_z, wl_z, tn_n, st_s, st_j, st_i, st_c, st_2, sl_s, sl_j, sl_i, sl_c, sl_1, Int.natCast_add, Int.cast_ofNat_Int, if_pos, if_neg, decide_eq_false_iff_not, decide_eq_true_eq, in_ll, ii_long, Nat.zero_add, Nat.mul_zero, reduceCtorEq]
      · simp (disch := omega) only [e3, if_true, if_false, Option.bind_some, Option.map_some, ii_lit, ll_lit, ii_neg, ll_neg, ii_add, ii_sub, ii_mul, ll_add, ll_sub, ll_mul, ii_le, ii_lt, ii_eq, ii_t, bi_0, bi_1, rd_z, wr_z, rr_z, rl_z, wl_z, tn_n, st_s, st_j, st_i, st_c, st_2, sl_s, sl_j, sl_i, sl_c, sl_1, Int.natCast_add, Int.cast_ofNat_Int, if_pos, if_neg, decide_eq_false_iff_not, decide_eq_true_eq, in_ll, ii_long, Nat.zero_add, Nat.mul_zero, reduceCtorEq]
    · unfold fX8_tree fX8_tree_0
      simp (disch := omega) only [e4, if_true, if_false, Option.bind_some, Option.map_some, ii_lit, ll_lit, ii_neg, ll_neg, ii_add, ii_sub, ii_mul, ll_add, ll_sub, ll_mul, ii_le, ii_lt, ii_eq, ii_t, bi_0, bi_1, rd_z, wr_z, rr_z, rl_z, wl_z, tn_n, st_s, st_j, st_i, st_c, st_2, sl_s, sl_j, sl_i, sl_c, sl_1, Int.natCast_add, Int.cast_ofNat_Int, if_pos, if_neg, decide_eq_false_iff_not, decide_eq_true_eq, in_ll, ii_long, Nat.zero_add, Nat.mul_zero, reduceCtorEq]
-- a leaf's parts out of its packed number
theorem lfk_b {n : Nat} (hn : n ≤ 4) {q : bx × Int} (hq : okc q.1 ∧ -1 ≤ q.2 ∧ q.2 < 8) : pkf q.1.1 n < 2 ^ 20 ∧ pkf q.1.2 n < 2 ^ 20 ∧ lfk n q < 2 ^ 44 := by
  have q3 : (2 : Nat) ^ (5 * n) ≤ 2 ^ 20 := Nat.pow_le_pow_right (by decide) (by omega)
  have b1 : pkf q.1.1 n < 2 ^ 20 := Nat.lt_of_lt_of_le (pkf_lt (fun l hl => by have := hq.1 l (by omega); omega)) q3
  have b2 : pkf q.1.2 n < 2 ^ 20 := Nat.lt_of_lt_of_le (pkf_lt (fun l hl => by have := hq.1 l (by omega); omega)) q3
  refine ⟨b1, b2, ?_⟩
  unfold lfk
  omega
theorem C_deadRow {σ : mm} {A : bdy} (hT : treeP σ A) (hA : okb A) {k : Nat} {q : bx × Int} (hk : (trA A)[k]? = some q) : fX6_deadRow (ii k) σ = some (ii q.2) := by
  have hq := trA_ok hA hk
  have hb := lfk_b hA.1.2 hq
  have hl := trA_len hA
  have hk' : k < (trA A).length := (List.getElem?_eq_some_iff.mp hk).1
  have e := hT.2.2.2.2 k q hk
  unfold fX6_deadRow fX6_deadRow_0
  simp (disch := omega) only [e, if_true, if_false, Option.bind_some, Option.map_some, ii_lit, ll_lit, ii_neg, ll_neg, ii_add, ii_sub, ii_mul, ll_add, ll_sub, ll_mul, ii_le, ii_lt, ii_eq, ii_t, bi_0, bi_1, rd_z, wr_z, rr_z, rl_z, wl_z, tn_n, st_s, st_j, st_i, st_c, st_2, sl_s, sl_j, sl_i, sl_c, sl_1, Int.natCast_add, Int.cast_ofNat_Int, if_pos, if_neg]
  rw [show (40 : Int) = ((40 : Nat) : Int) from rfl, shrl_n (by omega) (by omega) (by decide), ll_int, ii_sub]
  congr 2
  have : ((lfk A.n q : Nat) : Int) / ((2 ^ 40 : Nat) : Int) = q.2 + 1 := by
    unfold lfk
    omega
  rw [this]
  omega
theorem C_lowOf {σ : mm} {A : bdy} (hT : treeP σ A) (hA : okb A) {k : Nat} {q : bx × Int} (hk : (trA A)[k]? = some q) {l : Nat} (hl : l < A.n) : fX6_lowOf (ii k) (ii l) σ = some (ii (q.1.1 l)) := by
  have hq := trA_ok hA hk
  have hb := lfk_b hA.1.2 hq
  have hlen := trA_len hA
  have hn := hA.1
  have hk' : k < (trA A).length := (List.getElem?_eq_some_iff.mp hk).1
  have e := hT.2.2.2.2 k q hk
  have hc := hq.1 l (by omega)
  unfold fX6_lowOf fX6_lowOf_0
  simp (disch := omega) only [e, if_true, if_false, Option.bind_some, Option.map_some, ii_lit, ll_lit, ii_neg, ll_neg, ii_add, ii_sub, ii_mul, ll_add, ll_sub, ll_mul, ii_le, ii_lt, ii_eq, ii_t, bi_0, bi_1, rd_z, wr_z, rr_z, rl_z, wl_z, tn_n, st_s, st_j, st_i, st_c, st_2, sl_s, sl_j, sl_i, sl_c, sl_1, Int.natCast_add, Int.cast_ofNat_Int, if_pos, if_neg]
  have e1 : lfk A.n q % 2 ^ 20 = pkf q.1.1 A.n := by
    unfold lfk
    omega
  rw [show (1048575 : Int) = ((2 ^ 20 - 1 : Nat) : Int) from rfl, andl_n, Nat.and_two_pow_sub_one_eq_mod, e1, ll_int, unpack_n (by omega) (by omega)]
  have e2 := pkf_get (x := q.1.1) (n := A.n) (l := l) (fun j hj => by have := hq.1 j (by omega); omega) hl 0
  rw [Nat.zero_mul, Nat.add_zero] at e2
  rw [e2]
  congr 2
  omega
theorem C_highOf {σ : mm} {A : bdy} (hT : treeP σ A) (hA : okb A) {k : Nat} {q : bx × Int} (hk : (trA A)[k]? = some q) {l : Nat} (hl : l < A.n) : fX6_highOf (ii k) (ii l) σ = some (ii (q.1.2 l)) := by
  have hq := trA_ok hA hk
  have hb := lfk_b hA.1.2 hq
  have hlen := trA_len hA
  have hn := hA.1
  have hk' : k < (trA A).length := (List.getElem?_eq_some_iff.mp hk).1
  have e := hT.2.2.2.2 k q hk
  have hc := hq.1 l (by omega)
  unfold fX6_highOf fX6_highOf_0
  simp (disch := omega) only [e, if_true, if_false, Option.bind_some, Option.map_some, ii_lit, ll_lit, ii_neg, ll_neg, ii_add, ii_sub, ii_mul, ll_add, ll_sub, ll_mul, ii_le, ii_lt, ii_eq, ii_t, bi_0, bi_1, rd_z, wr_z, rr_z, rl_z, wl_z, tn_n, st_s, st_j, st_i, st_c, st_2, sl_s, sl_j, sl_i, sl_c, sl_1, Int.natCast_add, Int.cast_ofNat_Int, if_pos, if_neg]
  have e1 : lfk A.n q / 2 ^ 20 % 2 ^ 20 = pkf q.1.2 A.n := by
    unfold lfk
    omega
  rw [show (20 : Int) = ((20 : Nat) : Int) from rfl, shrl_n (by omega) (by omega) (by decide), ← Int.natCast_ediv, show (1048575 : Int) = ((2 ^ 20 - 1 : Nat) : Int) from rfl, andl_n, Nat.and_two_pow_sub_one_eq_mod, e1, ll_int, unpack_n (by omega) (by omega)]
  have e2 := pkf_get (x := q.1.2) (n := A.n) (l := l) (fun j hj => by have := hq.1 j (by omega); omega) hl 0
  rw [Nat.zero_mul, Nat.add_zero] at e2
  rw [e2]
  congr 2
  omega
theorem C_pointsIn {σ : mm} {A : bdy} (hT : treeP σ A) (hA : okb A) {k : Nat} {q : bx × Int} (hk : (trA A)[k]? = some q) : fX6_pointsIn (ii k) (ii A.n) σ = some (ii (pcl A.n q.1)) := by
  have hn := hA.1
  unfold fX6_pointsIn fX6_pointsIn_0
  refine lp_f (fun j => (ii (prf (fun l => q.1.2 l - q.1.1 l + 1) j), ii j)) A.n rfl ?_ ?_
  · intro j hj
    have e1 := C_lowOf hT hA hk hj
    have e2 := C_highOf hT hA hk hj
    simp (disch := omega) only [fX6_pointsIn_5_L, fX6_pointsIn_5, e1, e2, prf, if_true, if_false, Option.bind_some, Option.map_some, ii_lit, ll_lit, ii_neg, ll_neg, ii_add, ii_sub, ii_mul, ll_add, ll_sub, ll_mul, ii_le, ii_lt, ii_eq, ii_t, bi_0, bi_1, rd_z, wr_z, rr_z, rl_z, wl_z, tn_n, st_s, st_j, st_i, st_c, st_2, sl_s, sl_j, sl_i, sl_c, sl_1, Int.natCast_add, Int.cast_ofNat_Int, if_pos, if_neg]
  · simp (disch := omega) only [fX6_pointsIn_5_L, fX6_pointsIn_5, pcl, if_true, if_false, Option.bind_some, Option.map_some, ii_lit, ll_lit, ii_neg, ll_neg, ii_add, ii_sub, ii_mul, ll_add, ll_sub, ll_mul, ii_le, ii_lt, ii_eq, ii_t, bi_0, bi_1, rd_z, wr_z, rr_z, rl_z, wl_z, tn_n, st_s, st_j, st_i, st_c, st_2, sl_s, sl_j, sl_i, sl_c, sl_1, Int.natCast_add, Int.cast_ofNat_Int, if_pos, if_neg]
theorem C_hasLeaf {σ : mm} {A : bdy} (hT : treeP σ A) (hA : okb A) {a : Int} (h1 : -2147483648 ≤ a) (h2 : a < 2147483648) : fX6_hasLeaf (ii a) σ = decide (0 ≤ a ∧ a < (trA A).length) := by
  have e := hT.2.1
  have hlen := trA_len hA
  unfold fX6_hasLeaf fX6_hasLeaf_0
  by_cases q1 : 0 ≤ a
  · by_cases q2 : a < (trA A).length
    · rw [decide_eq_true ⟨q1, q2⟩]
      simp (disch := omega) only [e, if_true, if_false, Option.bind_some, Option.map_some, ii_lit, ll_lit, ii_neg, ll_neg, ii_add, ii_sub, ii_mul, ll_add, ll_sub, ll_mul, ii_le, ii_lt, ii_eq, ii_t, bi_0, bi_1, rd_z, wr_z, rr_z, rl_z, wl_z, tn_n, st_s, st_j, st_i, st_c, st_2, sl_s, sl_j, sl_i, sl_c, sl_1, Int.natCast_add, Int.cast_ofNat_Int, if_pos, if_neg]
    · rw [decide_eq_false (by omega)]
      simp (disch := omega) only [e, if_true, if_false, Option.bind_some, Option.map_some, ii_lit, ll_lit, ii_neg, ll_neg, ii_add, ii_sub, ii_mul, ll_add, ll_sub, ll_mul, ii_le, ii_lt, ii_eq, ii_t, bi_0, bi_1, rd_z, wr_z, rr_z, rl_z, wl_z, tn_n, st_s, st_j, st_i, st_c, st_2, sl_s, sl_j, sl_i, sl_c, sl_1, Int.natCast_add, Int.cast_ofNat_Int, if_pos, if_neg]
  · rw [decide_eq_false (by omega)]
    simp (disch := omega) only [e, if_true, if_false, Option.bind_some, Option.map_some, ii_lit, ll_lit, ii_neg, ll_neg, ii_add, ii_sub, ii_mul, ll_add, ll_sub, ll_mul, ii_le, ii_lt, ii_eq, ii_t, bi_0, bi_1, rd_z, wr_z, rr_z, rl_z, wl_z, tn_n, st_s, st_j, st_i, st_c, st_2, sl_s, sl_j, sl_i, sl_c, sl_1, Int.natCast_add, Int.cast_ofNat_Int, if_pos, if_neg]
theorem m_leaf {σ τ : mm} (h : Rel σ τ) (a w : Int32) : Ag (fX7_leaf a w σ) (fX8_leaf a w τ) := by
  obtain ⟨A, hR⟩ := h
  obtain ⟨⟨hC, hM, hA⟩, -⟩ := id hR
  obtain ⟨a, rfl, h1, h2⟩ := ii_ex a
  obtain ⟨w, rfl, h3, h4⟩ := ii_ex w
  have hlen := trA_len hA
  by_cases hv : 0 ≤ w ∧ w ≤ 2
  · obtain ⟨σ1, e1, f1, f2⟩ := hR.cells
    obtain ⟨τ1, e2, g1, g2, -⟩ := f1.grows
    have k1 := C_hasLeaf f2 hA h1 h2
    have u2 := g2.2.1
    by_cases hk : 0 ≤ a ∧ a < (trA A).length
    · obtain ⟨k, rfl⟩ : ∃ k : Nat, a = k := ⟨a.toNat, by omega⟩
      obtain ⟨q, hq⟩ : ∃ q, (trA A)[k]? = some q := ⟨_, List.getElem?_eq_getElem (show k < (trA A).length by omega)⟩
      have d1 := C_deadRow f2 hA hq
      have d2 := C_pointsIn f2 hA hq
      have n1 := f1.1.1.2.1
      have qo := trA_ok hA hq
      have lf := g2.2.2.2.2 k q hq
      rw [Nat.zero_add] at lf
      obtain ⟨m1, m2, m3, -⟩ := lf
      refine ⟨ii (if w = 0 then (if q.2 < 0 then 1 else 0) else if w = 1 then pcl A.n q.1 else q.2), σ1, τ1, ?_, ?_, _, g1⟩
      · unfold fX7_leaf fX7_leaf_0
        have : w = 0 ∨ w = 1 ∨ w = 2 := by omega
        rcases this with rfl | rfl | rfl
        · by_cases q0 : q.2 < 0
          · simp (disch := omega) only [e1, k1, d1, if_true, if_false, Option.bind_some, Option.map_some, ii_lit, ll_lit, ii_neg, ll_neg, ii_add, ii_sub, ii_mul, ll_add, ll_sub, ll_mul, ii_le, ii_lt, ii_eq, ii_t, bi_0, bi_1, rd_z, wr_z, rr_z, rl_z, wl_z, tn_n, st_s, st_j, st_i, st_c, st_2, sl_s, sl_j, sl_i, sl_c, sl_1, Int.natCast_add, Int.cast_ofNat_Int, if_pos, if_neg, decide_eq_false_iff_not, decide_eq_true_eq, in_ll, ii_long, Nat.zero_add, Nat.mul_zero, reduceCtorEq]
          · simp (disch := omega) only [e1, k1, d1, if_true, if_false, Option.bind_some, Option.map_some, ii_lit, ll_lit, ii_neg, ll_neg, ii_add, ii_sub, ii_mul, ll_add, ll_sub, ll_mul, ii_le, ii_lt, ii_eq, ii_t, bi_0, bi_1, rd_z, wr_z, rr_z, rl_z, wl_z, tn_n, st_s, st_j, st_i, st_c, st_2, sl_s, sl_j, sl_i, sl_c, sl_1, Int.natCast_add, Int.cast_ofNat_Int, if_pos, if_neg, decide_eq_false_iff_not, decide_eq_true_eq, in_ll, ii_long, Nat.zero_add, Nat.mul_zero, reduceCtorEq]
        · simp (disch := omega) only [e1, k1, n1, d2, if_true, if_false, Option.bind_some, Option.map_some, ii_lit, ll_lit, ii_neg, ll_neg, ii_add, ii_sub, ii_mul, ll_add, ll_sub, ll_mul, ii_le, ii_lt, ii_eq, ii_t, bi_0, bi_1, rd_z, wr_z, rr_z, rl_z, wl_z, tn_n, st_s, st_j, st_i, st_c, st_2, sl_s, sl_j, sl_i, sl_c, sl_1, Int.natCast_add, Int.cast_ofNat_Int, if_pos, if_neg, decide_eq_false_iff_not, decide_eq_true_eq, in_ll, ii_long, Nat.zero_add, Nat.mul_zero, reduceCtorEq]
        · simp (disch := omega) only [e1, k1, d1, if_true, if_false, Option.bind_some, Option.map_some, ii_lit, ll_lit, ii_neg, ll_neg, ii_add, ii_sub, ii_mul, ll_add, ll_sub, ll_mul, ii_le, ii_lt, ii_eq, ii_t, bi_0, bi_1, rd_z, wr_z, rr_z, rl_z, wl_z, tn_n, st_s, st_j, st_i, st_c, st_2, sl_s, sl_j, sl_i, sl_c, sl_1, Int.natCast_add, Int.cast_ofNat_Int, if_pos, if_neg, decide_eq_false_iff_not, decide_eq_true_eq, in_ll, ii_long, Nat.zero_add, Nat.mul_zero, reduceCtorEq]
      · unfold fX8_leaf fX8_leaf_0
        have : w = 0 ∨ w = 1 ∨ w = 2 := by omega
        rcases this with rfl | rfl | rfl
        · simp (disch := omega) only [e2, u2, show (11 * (k : Int) + 0).toNat = 11 * k by omega, m1, if_true, if_false, Option.bind_some, Option.map_some, ii_lit, ll_lit, ii_neg, ll_neg, ii_add, ii_sub, ii_mul, ll_add, ll_sub, ll_mul, ii_le, ii_lt, ii_eq, ii_t, bi_0, bi_1, rd_z, wr_z, rr_z, rl_z, wl_z, tn_n, st_s, st_j, st_i, st_c, st_2, sl_s, sl_j, sl_i, sl_c, sl_1, Int.natCast_add, Int.cast_ofNat_Int, if_pos, if_neg, decide_eq_false_iff_not, decide_eq_true_eq, in_ll, ii_long, Nat.zero_add, Nat.mul_zero, reduceCtorEq]
        · simp (disch := omega) only [e2, u2, show (11 * (k : Int) + 1).toNat = 11 * k + 1 by omega, m2, if_true, if_false, Option.bind_some, Option.map_some, ii_lit, ll_lit, ii_neg, ll_neg, ii_add, ii_sub, ii_mul, ll_add, ll_sub, ll_mul, ii_le, ii_lt, ii_eq, ii_t, bi_0, bi_1, rd_z, wr_z, rr_z, rl_z, wl_z, tn_n, st_s, st_j, st_i, st_c, st_2, sl_s, sl_j, sl_i, sl_c, sl_1, Int.natCast_add, Int.cast_ofNat_Int, if_pos, if_neg, decide_eq_false_iff_not, decide_eq_true_eq, in_ll, ii_long, Nat.zero_add, Nat.mul_zero, reduceCtorEq]
        · simp (disch := omega) only [e2, u2, show (11 * (k : Int) + 2).toNat = 11 * k + 2 by omega, m3, if_true, if_false, Option.bind_some, Option.map_some, ii_lit, ll_lit, ii_neg, ll_neg, ii_add, ii_sub, ii_mul, ll_add, ll_sub, ll_mul, ii_le, ii_lt, ii_eq, ii_t, bi_0, bi_1, rd_z, wr_z, rr_z, rl_z, wl_z, tn_n, st_s, st_j, st_i, st_c, st_2, sl_s, sl_j, sl_i, sl_c, sl_1, Int.natCast_add, Int.cast_ofNat_Int, if_pos, if_neg, decide_eq_false_iff_not, decide_eq_true_eq, in_ll, ii_long, Nat.zero_add, Nat.mul_zero, reduceCtorEq]
    · obtain ⟨σ', τ', e3, e4, hr⟩ := fd3 g1
      refine ⟨ii (-1000000004), σ', τ', ?_, ?_, _, hr⟩
      · unfold fX7_leaf fX7_leaf_0
        simp (disch := omega) only [e1, k1, e3, if_true, if_false, Option.bind_some, Option.map_some, ii_lit, ll_lit, ii_neg, ll_neg, ii_add, ii_sub, ii_mul, ll_add, ll_sub, ll_mul, ii_le, ii_lt, ii_eq, ii_t, bi_0, bi_1, rd_z, wr_z, rr_z, rl_z, wl_z, tn_n, st_s, st_j, st_i, st_c, st_2, sl_s, sl_j, sl_i, sl_c, sl_1, Int.natCast_add, Int.cast_ofNat_Int, if_pos, if_neg, decide_eq_false_iff_not, decide_eq_true_eq, in_ll, ii_long, Nat.zero_add, Nat.mul_zero, reduceCtorEq]
      · unfold fX8_leaf fX8_leaf_0
        simp (disch := omega) only [e2, u2, e4, if_true, if_false, Option.bind_some, Option.map_some, ii_lit, ll_lit, ii_neg, ll_neg, ii_add, ii_sub, ii_mul, ll_add, ll_sub, ll_mul, ii_le, ii_lt, ii_eq, ii_t, bi_0, bi_1, rd_z, wr_z, rr_z, rl_z, wl_z, tn_n, st_s, st_j, st_i, st_c, st_2, sl_s, sl_j, sl_i, sl_c, sl_1, Int.natCast_add, Int.cast_ofNat_Int, if_pos, if_neg, decide_eq_false_iff_not, decide_eq_true_eq, in_ll, ii_long, Nat.zero_add, Nat.mul_zero, reduceCtorEq]
  · obtain ⟨σ', τ', e3, e4, hr⟩ := fd0 hR
    refine ⟨ii (-1000000001), σ', τ', ?_, ?_, _, hr⟩
    · unfold fX7_leaf fX7_leaf_0 fX7_leaf_9
      by_cases q : w < 0
      · simp (disch := omega) only [e3, if_true, if_false, Option.bind_some, Option.map_some, ii_lit, ll_lit, ii_neg, ll_neg, ii_add, ii_sub, ii_mul, ll_add, ll_sub, ll_mul, ii_le, ii_lt, ii_eq, ii_t, bi_0, bi_1, rd_z, wr_z, rr_z, rl_z, wl_z, tn_n, st_s, st_j, st_i, st_c, st_2, sl_s, sl_j, sl_i, sl_c, sl_1, Int.natCast_add, Int.cast_ofNat_Int, if_pos, if_neg, decide_eq_false_iff_not, decide_eq_true_eq, in_ll, ii_long, Nat.zero_add, Nat.mul_zero, reduceCtorEq]
      · simp (disch := omega) only [e3, if_true, if_false, Option.bind_some, Option.map_some, ii_lit, ll_lit, ii_neg, ll_neg, ii_add, ii_sub, ii_mul, ll_add, ll_sub, ll_mul, ii_le, ii_lt, ii_eq, ii_t, bi_0, bi_1, rd_z, wr_z, rr_z, rl_z, wl_z, tn_n, st_s, st_j, st_i, st_c, st_2, sl_s, sl_j, sl_i, sl_c, sl_1, Int.natCast_add, Int.cast_ofNat_Int, if_pos, if_neg, decide_eq_false_iff_not, decide_eq_true_eq, in_ll, ii_long, Nat.zero_add, Nat.mul_zero, reduceCtorEq]
    · unfold fX8_leaf fX8_leaf_0
      simp (disch := omega) only [e4, if_true, if_false, Option.bind_some, Option.map_some, ii_lit, ll_lit, ii_neg, ll_neg, ii_add, ii_sub, ii_mul, ll_add, ll_sub, ll_mul, ii_le, ii_lt, ii_eq, ii_t, bi_0, bi_1, rd_z, wr_z, rr_z, rl_z, wl_z, tn_n, st_s, st_j, st_i, st_c, st_2, sl_s, sl_j, sl_i, sl_c, sl_1, Int.natCast_add, Int.cast_ofNat_Int, if_pos, if_neg, decide_eq_false_iff_not, decide_eq_true_eq, in_ll, ii_long, Nat.zero_add, Nat.mul_zero, reduceCtorEq]
theorem m_side {σ τ : mm} (h : Rel σ τ) (a l w : Int32) : Ag (fX7_side a l w σ) (fX8_side a l w τ) := by
  obtain ⟨A, hR⟩ := h
  obtain ⟨⟨hC, hM, hA⟩, -⟩ := id hR
  obtain ⟨a, rfl, h1, h2⟩ := ii_ex a
  obtain ⟨l, rfl, h5, h6⟩ := ii_ex l
  obtain ⟨w, rfl, h3, h4⟩ := ii_ex w
  have hlen := trA_len hA
  have c1 := C_hasLetter hC h5 h6
  have c2 := M_isLetter hM h5 h6
  have hn := hA.1
  by_cases hv : (0 ≤ l ∧ l < A.n) ∧ 0 ≤ w ∧ w ≤ 1
  · obtain ⟨⟨v1, v2⟩, v3, v4⟩ := hv
    obtain ⟨l, rfl⟩ : ∃ k : Nat, l = k := ⟨l.toNat, by omega⟩
    obtain ⟨σ1, e1, f1, f2⟩ := hR.cells
    obtain ⟨τ1, e2, g1, g2, -⟩ := f1.grows
    have k1 := C_hasLeaf f2 hA h1 h2
    have u2 := g2.2.1
    by_cases hk : 0 ≤ a ∧ a < (trA A).length
    · obtain ⟨k, rfl⟩ : ∃ k : Nat, a = k := ⟨a.toNat, by omega⟩
      obtain ⟨q, hq⟩ : ∃ q, (trA A)[k]? = some q := ⟨_, List.getElem?_eq_getElem (show k < (trA A).length by omega)⟩
      have d1 := C_lowOf f2 hA hq (l := l) (by omega)
      have d2 := C_highOf f2 hA hq (l := l) (by omega)
      have lf := g2.2.2.2.2 k q hq
      rw [Nat.zero_add] at lf
      have m4 := lf.2.2.2 l (by omega)
      refine ⟨ii (if w = 0 then q.1.1 l else q.1.2 l), σ1, τ1, ?_, ?_, _, g1⟩
      · unfold fX7_side fX7_side_0
        have : w = 0 ∨ w = 1 := by omega
        rcases this with rfl | rfl <;> simp (disch := omega) only [c1, e1, k1, d1, d2, if_true, if_false, Option.bind_some, Option.map_some, ii_lit, ll_lit, ii_neg, ll_neg, ii_add, ii_sub, ii_mul, ll_add, ll_sub, ll_mul, ii_le, ii_lt, ii_eq, ii_t, bi_0, bi_1, rd_z, wr_z, rr_z, rl_z, wl_z, tn_n, st_s, st_j, st_i, st_c, st_2, sl_s, sl_j, sl_i, sl_c, sl_1, Int.natCast_add, Int.cast_ofNat_Int, if_pos, if_neg, decide_eq_false_iff_not, decide_eq_true_eq, in_ll, ii_long, Nat.zero_add, Nat.mul_zero, reduceCtorEq]
      · unfold fX8_side fX8_side_0
        have : w = 0 ∨ w = 1 := by omega
        rcases this with rfl | rfl
        · simp (disch := omega) only [c2, e2, u2, show (11 * (k : Int) + 3 + 2 * (l : Int) + 0).toNat = 11 * k + 3 + 2 * l by omega, m4.1, if_true, if_false, Option.bind_some, Option.map_some, ii_lit, ll_lit, ii_neg, ll_neg, ii_add, ii_sub, ii_mul, ll_add, ll_sub, ll_mul, ii_le, ii_lt, ii_eq, ii_t, bi_0, bi_1, rd_z, wr_z, rr_z, rl_z, wl_z, tn_n, st_s, st_j, st_i, st_c, st_2, sl_s, sl_j, sl_i, sl_c, sl_1, Int.natCast_add, Int.cast_ofNat_Int, if_pos, if_neg, decide_eq_false_iff_not, decide_eq_true_eq, in_ll, ii_long, Nat.zero_add, Nat.mul_zero, reduceCtorEq]
        · simp (disch := omega) only [c2, e2, u2, show (11 * (k : Int) + 3 + 2 * (l : Int) + 1).toNat = 11 * k + 4 + 2 * l by omega, m4.2, if_true, if_false, Option.bind_some, Option.map_some, ii_lit, ll_lit, ii_neg, ll_neg, ii_add, ii_sub, ii_mul, ll_add, ll_sub, ll_mul, ii_le, ii_lt, ii_eq, ii_t, bi_0, bi_1, rd_z, wr_z, rr_z, rl_z, wl_z, tn_n, st_s, st_j, st_i, st_c, st_2, sl_s, sl_j, sl_i, sl_c, sl_1, Int.natCast_add, Int.cast_ofNat_Int, if_pos, if_neg, decide_eq_false_iff_not, decide_eq_true_eq, in_ll, ii_long, Nat.zero_add, Nat.mul_zero, reduceCtorEq]
    · obtain ⟨σ', τ', e3, e4, hr⟩ := fd3 g1
      refine ⟨ii (-1000000004), σ', τ', ?_, ?_, _, hr⟩
      · unfold fX7_side fX7_side_0
        simp (disch := omega) only [c1, e1, k1, e3, if_true, if_false, Option.bind_some, Option.map_some, ii_lit, ll_lit, ii_neg, ll_neg, ii_add, ii_sub, ii_mul, ll_add, ll_sub, ll_mul, ii_le, ii_lt, ii_eq, ii_t, bi_0, bi_1, rd_z, wr_z, rr_z, rl_z, wl_z, tn_n, st_s, st_j, st_i, st_c, st_2, sl_s, sl_j, sl_i, sl_c, sl_1, Int.natCast_add, Int.cast_ofNat_Int, if_pos, if_neg, decide_eq_false_iff_not, decide_eq_true_eq, in_ll, ii_long, Nat.zero_add, Nat.mul_zero, reduceCtorEq]
      · unfold fX8_side fX8_side_0
        simp (disch := omega) only [c2, e2, u2, e4, if_true, if_false, Option.bind_some, Option.map_some, ii_lit, ll_lit, ii_neg, ll_neg, ii_add, ii_sub, ii_mul, ll_add, ll_sub, ll_mul, ii_le, ii_lt, ii_eq, ii_t, bi_0, bi_1, rd_z, wr_z, rr_z, rl_z, wl_z, tn_n, st_s, st_j, st_i, st_c, st_2, sl_s, sl_j, sl_i, sl_c, sl_1, Int.natCast_add, Int.cast_ofNat_Int, if_pos, if_neg, decide_eq_false_iff_not, decide_eq_true_eq, in_ll, ii_long, Nat.zero_add, Nat.mul_zero, reduceCtorEq]
  · obtain ⟨σ', τ', e3, e4, hr⟩ := fd0 hR
    refine ⟨ii (-1000000001), σ', τ', ?_, ?_, _, hr⟩
    · unfold fX7_side fX7_side_0 fX7_side_20
      by_cases q1 : 0 ≤ l ∧ l < A.n
      · by_cases q : w < 0
        · simp (disch := omega) only [c1, e3, if_true, if_false, Option.bind_some, Option.map_some, ii_lit, ll_lit, ii_neg, ll_neg, ii_add, ii_sub, ii_mul, ll_add, ll_sub, ll_mul, ii_le, ii_lt, ii_eq, ii_t, bi_0, bi_1, rd_z, wr_z, rr_z, rl_z, wl_z, tn_n, st_s, st_j, st_i, st_c, st_2, sl_s, sl_j, sl_i, sl_c, sl_1, Int.natCast_add, Int.cast_ofNat_Int, if_pos, if_neg, decide_eq_false_iff_not, decide_eq_true_eq, in_ll, ii_long, Nat.zero_add, Nat.mul_zero, reduceCtorEq]
        · simp (disch := omega) only [c1, e3, if_true, if_false, Option.bind_some, Option.map_some, ii_lit, ll_lit, ii_neg, ll_neg, ii_add, ii_sub, ii_mul, ll_add, ll_sub, ll_mul, ii_le, ii_lt, ii_eq, ii_t, bi_0, bi_1, rd_z, wr_z, rr_z, rl_z, wl_z, tn_n, st_s, st_j, st_i, st_c, st_2, sl_s, sl_j, sl_i, sl_c, sl_1, Int.natCast_add, Int.cast_ofNat_Int, if_pos, if_neg, decide_eq_false_iff_not, decide_eq_true_eq, in_ll, ii_long, Nat.zero_add, Nat.mul_zero, reduceCtorEq]
      · simp (disch := omega) only [c1, e3, if_true, if_false, Option.bind_some, Option.map_some, ii_lit, ll_lit, ii_neg, ll_neg, ii_add, ii_sub, ii_mul, ll_add, ll_sub, ll_mul, ii_le, ii_lt, ii_eq, ii_t, bi_0, bi_1, rd_z, wr_z, rr_z, rl_z, wl_z, tn_n, st_s, st_j, st_i, st_c, st_2, sl_s, sl_j, sl_i, sl_c, sl_1, Int.natCast_add, Int.cast_ofNat_Int, if_pos, if_neg, decide_eq_false_iff_not, decide_eq_true_eq, in_ll, ii_long, Nat.zero_add, Nat.mul_zero, reduceCtorEq]
    · unfold fX8_side fX8_side_0 fX8_side_18
      by_cases q1 : 0 ≤ l ∧ l < A.n
      · simp (disch := omega) only [c2, e4, if_true, if_false, Option.bind_some, Option.map_some, ii_lit, ll_lit, ii_neg, ll_neg, ii_add, ii_sub, ii_mul, ll_add, ll_sub, ll_mul, ii_le, ii_lt, ii_eq, ii_t, bi_0, bi_1, rd_z, wr_z, rr_z, rl_z, wl_z, tn_n, st_s, st_j, st_i, st_c, st_2, sl_s, sl_j, sl_i, sl_c, sl_1, Int.natCast_add, Int.cast_ofNat_Int, if_pos, if_neg, decide_eq_false_iff_not, decide_eq_true_eq, in_ll, ii_long, Nat.zero_add, Nat.mul_zero, reduceCtorEq]
      · simp (disch := omega) only [c2, e4, if_true, if_false, Option.bind_some, Option.map_some, ii_lit, ll_lit, ii_neg, ll_neg, ii_add, ii_sub, ii_mul, ll_add, ll_sub, ll_mul, ii_le, ii_lt, ii_eq, ii_t, bi_0, bi_1, rd_z, wr_z, rr_z, rl_z, wl_z, tn_n, st_s, st_j, st_i, st_c, st_2, sl_s, sl_j, sl_i, sl_c, sl_1, Int.natCast_add, Int.cast_ofNat_Int, if_pos, if_neg, decide_eq_false_iff_not, decide_eq_true_eq, in_ll, ii_long, Nat.zero_add, Nat.mul_zero, reduceCtorEq]
