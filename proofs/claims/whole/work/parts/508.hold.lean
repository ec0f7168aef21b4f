-- WHAT HOLDS IN A POINT
theorem tm_0 {a b : Int} : (a.tmod b = 0) = (a % b = 0) := propext (Int.dvd_iff_tmod_eq_zero.symm.trans Int.dvd_iff_emod_eq_zero)
theorem or_0 (x : Int32) : x ||| ii 0 = x := Int32.or_zero
theorem M_holdsBy {kd wi ov : Int} (h1 : 0 ≤ kd) (h2 : kd ≤ 5) (h3 : 1 ≤ wi) (h4 : wi ≤ 99) (h5 : -1000000 ≤ ov) (h6 : ov ≤ 1000000) : fX8_holdsBy (ii kd) (ii wi) (ll ov) = some (hb kd wi ov) := by
  unfold fX8_holdsBy fX8_holdsBy_0
  have : kd = 0 ∨ kd = 1 ∨ kd = 2 ∨ kd = 3 ∨ kd = 4 ∨ kd = 5 := by omega
  rcases this with rfl | rfl | rfl | rfl | rfl | rfl
  · by_cases h : ov ≤ 0
    · simp (disch := omega) only [hb, cmp_gt0, decide_eq_true h, if_true, if_false, Option.bind_some, Option.map_some, ii_lit, ll_lit, ii_neg, ll_neg, ii_add, ii_sub, ii_mul, ll_add, ll_sub, ll_mul, ii_le, ii_lt, ii_eq, ii_t, bi_0, bi_1, rd_z, wr_z, rr_z, rl_z, wl_z, tn_n, st_s, st_j, st_i, st_c, st_2, sl_s, sl_j, sl_i, sl_c, sl_1, Int.natCast_add, Int.cast_ofNat_Int, if_pos, if_neg]
    · simp (disch := omega) only [hb, cmp_gt0, decide_eq_false h, if_true, if_false, Option.bind_some, Option.map_some, ii_lit, ll_lit, ii_neg, ll_neg, ii_add, ii_sub, ii_mul, ll_add, ll_sub, ll_mul, ii_le, ii_lt, ii_eq, ii_t, bi_0, bi_1, rd_z, wr_z, rr_z, rl_z, wl_z, tn_n, st_s, st_j, st_i, st_c, st_2, sl_s, sl_j, sl_i, sl_c, sl_1, Int.natCast_add, Int.cast_ofNat_Int, if_pos, if_neg]
  · by_cases h : ov = 0
    · simp (disch := omega) only [hb, cmp_eq0, decide_eq_true h, if_true, if_false, Option.bind_some, Option.map_some, ii_lit, ll_lit, ii_neg, ll_neg, ii_add, ii_sub, ii_mul, ll_add, ll_sub, ll_mul, ii_le, ii_lt, ii_eq, ii_t, bi_0, bi_1, rd_z, wr_z, rr_z, rl_z, wl_z, tn_n, st_s, st_j, st_i, st_c, st_2, sl_s, sl_j, sl_i, sl_c, sl_1, Int.natCast_add, Int.cast_ofNat_Int, if_pos, if_neg]
    · simp (disch := omega) only [hb, cmp_eq0, decide_eq_false h, if_true, if_false, Option.bind_some, Option.map_some, ii_lit, ll_lit, ii_neg, ll_neg, ii_add, ii_sub, ii_mul, ll_add, ll_sub, ll_mul, ii_le, ii_lt, ii_eq, ii_t, bi_0, bi_1, rd_z, wr_z, rr_z, rl_z, wl_z, tn_n, st_s, st_j, st_i, st_c, st_2, sl_s, sl_j, sl_i, sl_c, sl_1, Int.natCast_add, Int.cast_ofNat_Int, if_pos, if_neg]
  · simp (disch := omega) only [hb, in_ll, ii_long, if_true, if_false, Option.bind_some, Option.map_some, ii_lit, ll_lit, ii_neg, ll_neg, ii_add, ii_sub, ii_mul, ll_add, ll_sub, ll_mul, ii_le, ii_lt, ii_eq, ii_t, bi_0, bi_1, rd_z, wr_z, rr_z, rl_z, wl_z, tn_n, st_s, st_j, st_i, st_c, st_2, sl_s, sl_j, sl_i, sl_c, sl_1, Int.natCast_add, Int.cast_ofNat_Int, if_pos, if_neg]
  · by_cases h : ov % wi = 0
    · have h0 : ov.tmod wi = 0 := tm_0 ▸ h
      simp (disch := omega) only [hb, cmp_eq0, rm_ll, ii_long, h0, decide_eq_true h, if_true, if_false, Option.bind_some, Option.map_some, ii_lit, ll_lit, ii_neg, ll_neg, ii_add, ii_sub, ii_mul, ll_add, ll_sub, ll_mul, ii_le, ii_lt, ii_eq, ii_t, bi_0, bi_1, rd_z, wr_z, rr_z, rl_z, wl_z, tn_n, st_s, st_j, st_i, st_c, st_2, sl_s, sl_j, sl_i, sl_c, sl_1, Int.natCast_add, Int.cast_ofNat_Int, if_pos, if_neg]
    · have h0 : ov.tmod wi ≠ 0 := fun e => h (tm_0 ▸ e)
      have hr : -99 ≤ ov.tmod wi ∧ ov.tmod wi ≤ 99 := by
        have a1 := Int.tmod_lt_of_pos ov (show 0 < wi by omega)
        have a2 := Int.lt_tmod_of_pos ov (show 0 < wi by omega)
        omega
      simp (disch := omega) only [hb, cmp_eq0, rm_ll, ii_long, decide_eq_false h, if_true, if_false, Option.bind_some, Option.map_some, ii_lit, ll_lit, ii_neg, ll_neg, ii_add, ii_sub, ii_mul, ll_add, ll_sub, ll_mul, ii_le, ii_lt, ii_eq, ii_t, bi_0, bi_1, rd_z, wr_z, rr_z, rl_z, wl_z, tn_n, st_s, st_j, st_i, st_c, st_2, sl_s, sl_j, sl_i, sl_c, sl_1, Int.natCast_add, Int.cast_ofNat_Int, if_pos, if_neg]
  · by_cases h : -wi ≤ ov ∧ ov ≤ wi
    · simp (disch := omega) only [hb, in_ll, ii_long, decide_eq_true h, if_true, if_false, Option.bind_some, Option.map_some, ii_lit, ll_lit, ii_neg, ll_neg, ii_add, ii_sub, ii_mul, ll_add, ll_sub, ll_mul, ii_le, ii_lt, ii_eq, ii_t, bi_0, bi_1, rd_z, wr_z, rr_z, rl_z, wl_z, tn_n, st_s, st_j, st_i, st_c, st_2, sl_s, sl_j, sl_i, sl_c, sl_1, Int.natCast_add, Int.cast_ofNat_Int, if_pos, if_neg]
      rfl
    · simp (disch := omega) only [hb, in_ll, ii_long, decide_eq_false h, if_true, if_false, Option.bind_some, Option.map_some, ii_lit, ll_lit, ii_neg, ll_neg, ii_add, ii_sub, ii_mul, ll_add, ll_sub, ll_mul, ii_le, ii_lt, ii_eq, ii_t, bi_0, bi_1, rd_z, wr_z, rr_z, rl_z, wl_z, tn_n, st_s, st_j, st_i, st_c, st_2, sl_s, sl_j, sl_i, sl_c, sl_1, Int.natCast_add, Int.cast_ofNat_Int, if_pos, if_neg]
      rfl
  · by_cases h : 0 ≤ ov
    · simp (disch := omega) only [hb, cmp_lt0, decide_eq_true h, if_true, if_false, Option.bind_some, Option.map_some, ii_lit, ll_lit, ii_neg, ll_neg, ii_add, ii_sub, ii_mul, ll_add, ll_sub, ll_mul, ii_le, ii_lt, ii_eq, ii_t, bi_0, bi_1, rd_z, wr_z, rr_z, rl_z, wl_z, tn_n, st_s, st_j, st_i, st_c, st_2, sl_s, sl_j, sl_i, sl_c, sl_1, Int.natCast_add, Int.cast_ofNat_Int, if_pos, if_neg]
    · simp (disch := omega) only [hb, cmp_lt0, decide_eq_false h, if_true, if_false, Option.bind_some, Option.map_some, ii_lit, ll_lit, ii_neg, ll_neg, ii_add, ii_sub, ii_mul, ll_add, ll_sub, ll_mul, ii_le, ii_lt, ii_eq, ii_t, bi_0, bi_1, rd_z, wr_z, rr_z, rl_z, wl_z, tn_n, st_s, st_j, st_i, st_c, st_2, sl_s, sl_j, sl_i, sl_c, sl_1, Int.natCast_add, Int.cast_ofNat_Int, if_pos, if_neg]
theorem abs_ii {a : Int} (h1 : -2147483647 ≤ a) (h2 : a < 2147483648) : fJ9_abs_0f7a4 (ii a) = ii (if 0 ≤ a then a else -a) := by
  unfold fJ9_abs_0f7a4 fJ9_abs_0f7a4_0
  by_cases h : 0 ≤ a
  · simp (disch := omega) only [if_true, if_false, Option.bind_some, Option.map_some, ii_lit, ll_lit, ii_neg, ll_neg, ii_add, ii_sub, ii_mul, ll_add, ll_sub, ll_mul, ii_le, ii_lt, ii_eq, ii_t, bi_0, bi_1, rd_z, wr_z, rr_z, rl_z, wl_z, tn_n, st_s, st_j, st_i, st_c, st_2, sl_s, sl_j, sl_i, sl_c, sl_1, Int.natCast_add, Int.cast_ofNat_Int, if_pos, if_neg]
  · simp (disch := omega) only [if_true, if_false, Option.bind_some, Option.map_some, ii_lit, ll_lit, ii_neg, ll_neg, ii_add, ii_sub, ii_mul, ll_add, ll_sub, ll_mul, ii_le, ii_lt, ii_eq, ii_t, bi_0, bi_1, rd_z, wr_z, rr_z, rl_z, wl_z, tn_n, st_s, st_j, st_i, st_c, st_2, sl_s, sl_j, sl_i, sl_c, sl_1, Int.natCast_add, Int.cast_ofNat_Int, if_pos, if_neg]
theorem C_allowsAs {σ : mm} {i : Nat} {kd bo wi s : Int} (hb1 : σ.1 4 i 1 = ii bo) (hw1 : σ.1 4 i 2 = ii wi) (h1 : 0 ≤ kd) (h2 : kd ≤ 5) (h3 : 1 ≤ wi) (h4 : wi ≤ 99) (h5 : -1000000 ≤ s) (h6 : s ≤ 1000000) (h7 : -999 ≤ bo) (h8 : bo ≤ 999) : fX4_allowsAs i (ii kd) (ii s) σ = some (hb kd wi (s - bo)) := by
  unfold fX4_allowsAs fX4_allowsAs_0
  have : kd = 0 ∨ kd = 1 ∨ kd = 2 ∨ kd = 3 ∨ kd = 4 ∨ kd = 5 := by omega
  rcases this with rfl | rfl | rfl | rfl | rfl | rfl
  · by_cases h : s - bo ≤ 0
    · simp (disch := omega) only [hb, hb1, hw1, decide_eq_true h, if_true, if_false, Option.bind_some, Option.map_some, ii_lit, ll_lit, ii_neg, ll_neg, ii_add, ii_sub, ii_mul, ll_add, ll_sub, ll_mul, ii_le, ii_lt, ii_eq, ii_t, bi_0, bi_1, rd_z, wr_z, rr_z, rl_z, wl_z, tn_n, st_s, st_j, st_i, st_c, st_2, sl_s, sl_j, sl_i, sl_c, sl_1, Int.natCast_add, Int.cast_ofNat_Int, if_pos, if_neg]
    · simp (disch := omega) only [hb, hb1, hw1, decide_eq_false h, if_true, if_false, Option.bind_some, Option.map_some, ii_lit, ll_lit, ii_neg, ll_neg, ii_add, ii_sub, ii_mul, ll_add, ll_sub, ll_mul, ii_le, ii_lt, ii_eq, ii_t, bi_0, bi_1, rd_z, wr_z, rr_z, rl_z, wl_z, tn_n, st_s, st_j, st_i, st_c, st_2, sl_s, sl_j, sl_i, sl_c, sl_1, Int.natCast_add, Int.cast_ofNat_Int, if_pos, if_neg]
  · by_cases h : s - bo = 0
    · simp (disch := omega) only [hb, hb1, hw1, decide_eq_true h, if_true, if_false, Option.bind_some, Option.map_some, ii_lit, ll_lit, ii_neg, ll_neg, ii_add, ii_sub, ii_mul, ll_add, ll_sub, ll_mul, ii_le, ii_lt, ii_eq, ii_t, bi_0, bi_1, rd_z, wr_z, rr_z, rl_z, wl_z, tn_n, st_s, st_j, st_i, st_c, st_2, sl_s, sl_j, sl_i, sl_c, sl_1, Int.natCast_add, Int.cast_ofNat_Int, if_pos, if_neg]
    · simp (disch := omega) only [hb, hb1, hw1, decide_eq_false h, if_true, if_false, Option.bind_some, Option.map_some, ii_lit, ll_lit, ii_neg, ll_neg, ii_add, ii_sub, ii_mul, ll_add, ll_sub, ll_mul, ii_le, ii_lt, ii_eq, ii_t, bi_0, bi_1, rd_z, wr_z, rr_z, rl_z, wl_z, tn_n, st_s, st_j, st_i, st_c, st_2, sl_s, sl_j, sl_i, sl_c, sl_1, Int.natCast_add, Int.cast_ofNat_Int, if_pos, if_neg]
  · by_cases h : -wi ≤ s - bo ∧ s - bo ≤ wi
    · by_cases hp : 0 ≤ s - bo
      · simp (disch := omega) only [hb, hb1, hw1, abs_ii, decide_eq_true h, if_true, if_false, Option.bind_some, Option.map_some, ii_lit, ll_lit, ii_neg, ll_neg, ii_add, ii_sub, ii_mul, ll_add, ll_sub, ll_mul, ii_le, ii_lt, ii_eq, ii_t, bi_0, bi_1, rd_z, wr_z, rr_z, rl_z, wl_z, tn_n, st_s, st_j, st_i, st_c, st_2, sl_s, sl_j, sl_i, sl_c, sl_1, Int.natCast_add, Int.cast_ofNat_Int, if_pos, if_neg]
      · simp (disch := omega) only [hb, hb1, hw1, abs_ii, decide_eq_true h, if_true, if_false, Option.bind_some, Option.map_some, ii_lit, ll_lit, ii_neg, ll_neg, ii_add, ii_sub, ii_mul, ll_add, ll_sub, ll_mul, ii_le, ii_lt, ii_eq, ii_t, bi_0, bi_1, rd_z, wr_z, rr_z, rl_z, wl_z, tn_n, st_s, st_j, st_i, st_c, st_2, sl_s, sl_j, sl_i, sl_c, sl_1, Int.natCast_add, Int.cast_ofNat_Int, if_pos, if_neg]
    · by_cases hp : 0 ≤ s - bo
      · simp (disch := omega) only [hb, hb1, hw1, abs_ii, decide_eq_false h, if_true, if_false, Option.bind_some, Option.map_some, ii_lit, ll_lit, ii_neg, ll_neg, ii_add, ii_sub, ii_mul, ll_add, ll_sub, ll_mul, ii_le, ii_lt, ii_eq, ii_t, bi_0, bi_1, rd_z, wr_z, rr_z, rl_z, wl_z, tn_n, st_s, st_j, st_i, st_c, st_2, sl_s, sl_j, sl_i, sl_c, sl_1, Int.natCast_add, Int.cast_ofNat_Int, if_pos, if_neg]
      · simp (disch := omega) only [hb, hb1, hw1, abs_ii, decide_eq_false h, if_true, if_false, Option.bind_some, Option.map_some, ii_lit, ll_lit, ii_neg, ll_neg, ii_add, ii_sub, ii_mul, ll_add, ll_sub, ll_mul, ii_le, ii_lt, ii_eq, ii_t, bi_0, bi_1, rd_z, wr_z, rr_z, rl_z, wl_z, tn_n, st_s, st_j, st_i, st_c, st_2, sl_s, sl_j, sl_i, sl_c, sl_1, Int.natCast_add, Int.cast_ofNat_Int, if_pos, if_neg]
  · have hr : -99 ≤ (s - bo).tmod wi ∧ (s - bo).tmod wi ≤ 99 := by
      have a1 := Int.tmod_lt_of_pos (s - bo) (show 0 < wi by omega)
      have a2 := Int.lt_tmod_of_pos (s - bo) (show 0 < wi by omega)
      omega
    by_cases h : (s - bo) % wi = 0
    · have h0 : (s - bo).tmod wi = 0 := tm_0 ▸ h
      simp (disch := omega) only [hb, hb1, hw1, rm_ii, h0, decide_eq_true h, if_true, if_false, Option.bind_some, Option.map_some, ii_lit, ll_lit, ii_neg, ll_neg, ii_add, ii_sub, ii_mul, ll_add, ll_sub, ll_mul, ii_le, ii_lt, ii_eq, ii_t, bi_0, bi_1, rd_z, wr_z, rr_z, rl_z, wl_z, tn_n, st_s, st_j, st_i, st_c, st_2, sl_s, sl_j, sl_i, sl_c, sl_1, Int.natCast_add, Int.cast_ofNat_Int, if_pos, if_neg]
    · have h0 : (s - bo).tmod wi ≠ 0 := fun e => h (tm_0 ▸ e)
      simp (disch := omega) only [hb, hb1, hw1, rm_ii, decide_eq_false h, if_true, if_false, Option.bind_some, Option.map_some, ii_lit, ll_lit, ii_neg, ll_neg, ii_add, ii_sub, ii_mul, ll_add, ll_sub, ll_mul, ii_le, ii_lt, ii_eq, ii_t, bi_0, bi_1, rd_z, wr_z, rr_z, rl_z, wl_z, tn_n, st_s, st_j, st_i, st_c, st_2, sl_s, sl_j, sl_i, sl_c, sl_1, Int.natCast_add, Int.cast_ofNat_Int, if_pos, if_neg]
  · by_cases h : -wi ≤ s - bo ∧ s - bo ≤ wi
    · by_cases hp : 0 ≤ s - bo
      · simp (disch := omega) only [hb, hb1, hw1, abs_ii, decide_eq_true h, if_true, if_false, Option.bind_some, Option.map_some, ii_lit, ll_lit, ii_neg, ll_neg, ii_add, ii_sub, ii_mul, ll_add, ll_sub, ll_mul, ii_le, ii_lt, ii_eq, ii_t, bi_0, bi_1, rd_z, wr_z, rr_z, rl_z, wl_z, tn_n, st_s, st_j, st_i, st_c, st_2, sl_s, sl_j, sl_i, sl_c, sl_1, Int.natCast_add, Int.cast_ofNat_Int, if_pos, if_neg]
        rfl
      · simp (disch := omega) only [hb, hb1, hw1, abs_ii, decide_eq_true h, if_true, if_false, Option.bind_some, Option.map_some, ii_lit, ll_lit, ii_neg, ll_neg, ii_add, ii_sub, ii_mul, ll_add, ll_sub, ll_mul, ii_le, ii_lt, ii_eq, ii_t, bi_0, bi_1, rd_z, wr_z, rr_z, rl_z, wl_z, tn_n, st_s, st_j, st_i, st_c, st_2, sl_s, sl_j, sl_i, sl_c, sl_1, Int.natCast_add, Int.cast_ofNat_Int, if_pos, if_neg]
        rfl
    · by_cases hp : 0 ≤ s - bo
      · simp (disch := omega) only [hb, hb1, hw1, abs_ii, decide_eq_false h, if_true, if_false, Option.bind_some, Option.map_some, ii_lit, ll_lit, ii_neg, ll_neg, ii_add, ii_sub, ii_mul, ll_add, ll_sub, ll_mul, ii_le, ii_lt, ii_eq, ii_t, bi_0, bi_1, rd_z, wr_z, rr_z, rl_z, wl_z, tn_n, st_s, st_j, st_i, st_c, st_2, sl_s, sl_j, sl_i, sl_c, sl_1, Int.natCast_add, Int.cast_ofNat_Int, if_pos, if_neg]
        rfl
      · simp (disch := omega) only [hb, hb1, hw1, abs_ii, decide_eq_false h, if_true, if_false, Option.bind_some, Option.map_some, ii_lit, ll_lit, ii_neg, ll_neg, ii_add, ii_sub, ii_mul, ll_add, ll_sub, ll_mul, ii_le, ii_lt, ii_eq, ii_t, bi_0, bi_1, rd_z, wr_z, rr_z, rl_z, wl_z, tn_n, st_s, st_j, st_i, st_c, st_2, sl_s, sl_j, sl_i, sl_c, sl_1, Int.natCast_add, Int.cast_ofNat_Int, if_pos, if_neg]
        rfl
  · by_cases h : 0 ≤ s - bo
    · simp (disch := omega) only [hb, hb1, hw1, decide_eq_true h, if_true, if_false, Option.bind_some, Option.map_some, ii_lit, ll_lit, ii_neg, ll_neg, ii_add, ii_sub, ii_mul, ll_add, ll_sub, ll_mul, ii_le, ii_lt, ii_eq, ii_t, bi_0, bi_1, rd_z, wr_z, rr_z, rl_z, wl_z, tn_n, st_s, st_j, st_i, st_c, st_2, sl_s, sl_j, sl_i, sl_c, sl_1, Int.natCast_add, Int.cast_ofNat_Int, if_pos, if_neg]
    · simp (disch := omega) only [hb, hb1, hw1, decide_eq_false h, if_true, if_false, Option.bind_some, Option.map_some, ii_lit, ll_lit, ii_neg, ll_neg, ii_add, ii_sub, ii_mul, ll_add, ll_sub, ll_mul, ii_le, ii_lt, ii_eq, ii_t, bi_0, bi_1, rd_z, wr_z, rr_z, rl_z, wl_z, tn_n, st_s, st_j, st_i, st_c, st_2, sl_s, sl_j, sl_i, sl_c, sl_1, Int.natCast_add, Int.cast_ofNat_Int, if_pos, if_neg]
/-- the point that the reference looks at -/
def atM (τ : mm) (A : bdy) (x : Nat → Int) : Prop := ∀ l, l < A.n → τ.2 48 0 l = ll (x l)
theorem M_sumOf {τ : mm} {A : bdy} (hM : isM τ A) (hA : okb A) {x : Nat → Int} (hx : atM τ A x) {r : Nat} (hr : r < A.R) : fX8_sumOf (ii r) τ = some (ll (sm A r x)) := by
  have hat := fun (y : Int) (h0 : 0 ≤ y) (h1 : y < 7) => M_at hM hr h0 h1
  have hn4 := hA.1
  have hrow := hA.2.2.2.1 r hr
  have hn := hM.2.1
  unfold fX8_sumOf fX8_sumOf_0
  refine lp_f (fun k => (ll (smf (fun l => A.rw r (3 + l) * x l) k), ii k)) A.n rfl ?_ ?_
  · intro k hk
    have h3 := hrow.2.2.2 k (by omega)
    have e : (3 + (k : Int)).toNat = 3 + k := by omega
    simp (disch := omega) only [fX8_sumOf_5_L, fX8_sumOf_5, hn, hat, e, hx k hk, ii_long, smf, if_true, if_false, Option.bind_some, Option.map_some, ii_lit, ll_lit, ii_neg, ll_neg, ii_add, ii_sub, ii_mul, ll_add, ll_sub, ll_mul, ii_le, ii_lt, ii_eq, ii_t, bi_0, bi_1, rd_z, wr_z, rr_z, rl_z, wl_z, tn_n, st_s, st_j, st_i, st_c, st_2, sl_s, sl_j, sl_i, sl_c, sl_1, Int.natCast_add, Int.cast_ofNat_Int, if_pos, if_neg]
  · simp (disch := omega) only [fX8_sumOf_5_L, fX8_sumOf_5, hn, sm, if_true, if_false, Option.bind_some, Option.map_some, ii_lit, ll_lit, ii_neg, ll_neg, ii_add, ii_sub, ii_mul, ll_add, ll_sub, ll_mul, ii_le, ii_lt, ii_eq, ii_t, bi_0, bi_1, rd_z, wr_z, rr_z, rl_z, wl_z, tn_n, st_s, st_j, st_i, st_c, st_2, sl_s, sl_j, sl_i, sl_c, sl_1, Int.natCast_add, Int.cast_ofNat_Int, if_pos, if_neg]
theorem M_holding {τ : mm} {A : bdy} (hM : isM τ A) (hA : okb A) {x : Nat → Int} (hx : atM τ A x) (hr : ∀ l, l < A.n → -999 ≤ x l ∧ x l ≤ 999) : fX8_holding τ = some (ii (mkf (hdr A x) A.R)) := by
  have hR := hM.2.2.1
  have hR8 := hA.2.1
  unfold fX8_holding fX8_holding_0
  refine lp_f (fun k => (ii (mkf (hdr A x) k), ii k)) A.R rfl ?_ ?_
  · intro k hk
    have hs := M_sumOf hM hA hx hk
    have hat := fun (y : Int) (h0 : 0 ≤ y) (h1 : y < 7) => M_at hM hk h0 h1
    have hrow := hA.2.2.2.1 k hk
    have hsr := sm_r hA hk (x := x) (B := 999) (by omega) hr
    have hlt := mkf_lt (hdr A x) k
    obtain ⟨⟨q1, q2⟩, ⟨q3, q4⟩, ⟨q5, q6⟩, -⟩ := hrow
    have hh := M_holdsBy (ov := sm A k x - A.rw k 1) q1 q2 q5 q6 (by omega) (by omega)
    by_cases h : hdr A x k = true
    · have h' : hb (A.rw k 0) (A.rw k 2) (sm A k x - A.rw k 1) = true := h
      have ht : (true = false) = False := by simp
      simp (disch := omega) only [fX8_holding_4_L, fX8_holding_4, fX8_holding_51, hR, hat, hs, ii_long, hh, h', h, or_bit, mkf, ht, if_false, if_true, Int.toNat_zero, Int.toNat_one, show (2 : Int).toNat = 2 from rfl, if_true, if_false, Option.bind_some, Option.map_some, ii_lit, ll_lit, ii_neg, ll_neg, ii_add, ii_sub, ii_mul, ll_add, ll_sub, ll_mul, ii_le, ii_lt, ii_eq, ii_t, bi_0, bi_1, rd_z, wr_z, rr_z, rl_z, wl_z, tn_n, st_s, st_j, st_i, st_c, st_2, sl_s, sl_j, sl_i, sl_c, sl_1, Int.natCast_add, Int.cast_ofNat_Int, if_pos, if_neg]
    · simp only [Bool.not_eq_true] at h
      have h' : hb (A.rw k 0) (A.rw k 2) (sm A k x - A.rw k 1) = false := h
      have ht : (false = true) = False := by simp
      simp (disch := omega) only [fX8_holding_4_L, fX8_holding_4, fX8_holding_51, hR, hat, hs, ii_long, hh, h', h, or_0, mkf, ht, if_false, if_true, Nat.add_zero, Int.toNat_zero, Int.toNat_one, show (2 : Int).toNat = 2 from rfl, if_true, if_false, Option.bind_some, Option.map_some, ii_lit, ll_lit, ii_neg, ll_neg, ii_add, ii_sub, ii_mul, ll_add, ll_sub, ll_mul, ii_le, ii_lt, ii_eq, ii_t, bi_0, bi_1, rd_z, wr_z, rr_z, rl_z, wl_z, tn_n, st_s, st_j, st_i, st_c, st_2, sl_s, sl_j, sl_i, sl_c, sl_1, Int.natCast_add, Int.cast_ofNat_Int, if_pos, if_neg]
  · simp (disch := omega) only [fX8_holding_4_L, fX8_holding_4, hR, if_true, if_false, Option.bind_some, Option.map_some, ii_lit, ll_lit, ii_neg, ll_neg, ii_add, ii_sub, ii_mul, ll_add, ll_sub, ll_mul, ii_le, ii_lt, ii_eq, ii_t, bi_0, bi_1, rd_z, wr_z, rr_z, rl_z, wl_z, tn_n, st_s, st_j, st_i, st_c, st_2, sl_s, sl_j, sl_i, sl_c, sl_1, Int.natCast_add, Int.cast_ofNat_Int, if_pos, if_neg]
theorem M_allRows {τ : mm} {A : bdy} (hM : isM τ A) (hA : okb A) : fX8_allRows τ = ii ((2 ^ A.R - 1 : Nat)) := by
  have hR := hM.2.2.1
  have hR8 := hA.2.1
  have hp := Nat.two_pow_pos A.R
  unfold fX8_allRows fX8_allRows_0
  simp only [hR, ii_lit]
  rw [show ii 1 = ii ((1 : Nat) : Int) from rfl, shl_n 1 (by omega), Nat.one_mul, ii_sub]
  congr 1
  omega
theorem mkf_not (f : Nat → Bool) (n : Nat) : mkf f n + mkf (fun r => !f r) n = 2 ^ n - 1 := by
  induction n with
  | zero => rfl
  | succ n ih =>
    have hp := Nat.two_pow_pos n
    rw [mkf, mkf, Nat.pow_succ]
    cases f n <;> simp <;> omega
theorem held_iff {A : bdy} (k : Nat) : mkf (hdr A (pt A k)) A.R = 2 ^ A.R - 1 ↔ inP A k = true := by
  have h := mkf_not (hdr A (pt A k)) A.R
  unfold inP brk
  rw [decide_eq_true_iff]
  omega
theorem M_goesTo {τ : mm} {A : bdy} (hM : isM τ A) (hA : okb A) {k : Nat} (hk : k < np A) : ∃ τ', fX8_goesTo (ii k) τ = some τ' ∧ atM τ' A (pt A k) ∧ Fr [48] [] τ τ' ∧ τ'.1 = τ.1 := by
  obtain ⟨⟨hn4, hR8⟩, hn, hR, hlo, hhi, -⟩ := hM
  have hn1 := hA.1
  unfold fX8_goesTo fX8_goesTo_0
  simp (disch := omega) only [hn, if_true, if_false, Option.bind_some, Option.map_some, ii_lit, ll_lit, ii_neg, ll_neg, ii_add, ii_sub, ii_mul, ll_add, ll_sub, ll_mul, ii_le, ii_lt, ii_eq, ii_t, bi_0, bi_1, rd_z, wr_z, rr_z, rl_z, wl_z, tn_n, st_s, st_j, st_i, st_c, st_2, sl_s, sl_j, sl_i, sl_c, sl_1, Int.natCast_add, Int.cast_ofNat_Int, if_pos, if_neg]
  refine lp_j (fun j s => s.1 = ii (lft A k j) ∧ s.2.1 = ii ((A.n : Int) - 1 - j) ∧ (∀ l, A.n - j ≤ l → l < A.n → s.2.2.2 48 0 l = ll (pt A k l)) ∧ Fr [48] [] τ s.2.2 ∧ s.2.2.1 = τ.1) _ A.n ⟨rfl, by simp, fun l h1 h2 => by omega, Fr.rf _ _ _, rfl⟩ ?_ ?_
  · rintro j ⟨a, c, s⟩ hj ⟨h1, h2, h3, h4, h5⟩
    have h1 : a = ii (lft A k j) := h1
    have h2 : c = ii ((A.n : Int) - 1 - j) := h2
    have h5 : s.1 = τ.1 := h5
    subst h1 h2
    have h5' : ∀ c i j, s.1 c i j = τ.1 c i j := fun c i j => by rw [h5]
    have hl := lft_r hA hk j
    have hw := hA.wdr (l := A.n - 1 - j) (by omega)
    have hbx := hA.bx (l := A.n - 1 - j) (by omega)
    have e : ((A.n : Int) - 1 - (j : Int)).toNat = A.n - 1 - j := by omega
    have ew : A.hi (A.n - 1 - j) - A.lo (A.n - 1 - j) + 1 = wd A (A.n - 1 - j) := rfl
    have hm1 := Int.emod_nonneg (lft A k j) (show wd A (A.n - 1 - j) ≠ 0 by omega)
    have hm2 := Int.emod_lt_of_pos (lft A k j) (show 0 < wd A (A.n - 1 - j) by omega)
    have ep : A.lo (A.n - 1 - j) + lft A k j % wd A (A.n - 1 - j) = pt A k (A.n - 1 - j) := by
      unfold pt
      rw [if_pos (by omega), show A.n - 1 - (A.n - 1 - j) = j by omega]
    refine ⟨(ii (lft A k (j + 1)), ii ((A.n : Int) - 1 - ((j + 1 : Nat))), stL s 48 0 (A.n - 1 - j) (ll (pt A k (A.n - 1 - j)))), ?_, rfl, rfl, ?_, h4.sL (by decide), h5⟩
    · rw [← ep]
      simp (disch := omega) only [fX8_goesTo_9_L, fX8_goesTo_9, h5', hlo, hhi, e, ew, rm_nn, dv_nn, ii_long, lft, if_true, if_false, Option.bind_some, Option.map_some, ii_lit, ll_lit, ii_neg, ll_neg, ii_add, ii_sub, ii_mul, ll_add, ll_sub, ll_mul, ii_le, ii_lt, ii_eq, ii_t, bi_0, bi_1, rd_z, wr_z, rr_z, rl_z, wl_z, tn_n, st_s, st_j, st_i, st_c, st_2, sl_s, sl_j, sl_i, sl_c, sl_1, Int.natCast_add, Int.cast_ofNat_Int, if_pos, if_neg]
      rw [show (A.n : Int) - 1 - (j : Int) + -1 = (A.n : Int) - 1 - ((j : Int) + 1) by omega]
    · intro l hl1 hl2
      show (stL s 48 0 (A.n - 1 - j) (ll (pt A k (A.n - 1 - j)))).2 48 0 l = _
      by_cases hlj : l = A.n - 1 - j
      · subst hlj
        rw [sl_s]
      · rw [sl_j _ _ hlj]
        exact h3 l (by omega) hl2
  · rintro ⟨a, c, s⟩ ⟨h1, h2, h3, h4, h5⟩
    have h2 : c = ii ((A.n : Int) - 1 - A.n) := h2
    subst h2
    refine ⟨s, ?_, ?_, h4, h5⟩
    · simp (disch := omega) only [fX8_goesTo_9_L, fX8_goesTo_9, if_true, if_false, Option.bind_some, Option.map_some, ii_lit, ll_lit, ii_neg, ll_neg, ii_add, ii_sub, ii_mul, ll_add, ll_sub, ll_mul, ii_le, ii_lt, ii_eq, ii_t, bi_0, bi_1, rd_z, wr_z, rr_z, rl_z, wl_z, tn_n, st_s, st_j, st_i, st_c, st_2, sl_s, sl_j, sl_i, sl_c, sl_1, Int.natCast_add, Int.cast_ofNat_Int, if_pos, if_neg]
    · intro l hl
      exact h3 l (by omega) hl
theorem M_looks {τ : mm} {A : bdy} (hM : isM τ A) (hA : okb A) : ∃ τ', fX8_looks τ = some τ' ∧ τ'.1 32 0 11 = ii (cnf (inP A) (np A)) ∧ (∀ k, k < np A → τ'.1 49 0 k = ii (mkf (hdr A (pt A k)) A.R)) ∧ (∀ k, k < np A → inP A k = true → τ'.1 50 0 (cnf (inP A) k) = ii k) ∧ Fr [48, 49, 50] [11] τ τ' := by
  have hp := hA.2.2.2.2.2
  have hp1 := hA.p1
  have hnp : pts A = (np A : Int) := by unfold np; omega
  have hM1 : isM (stI τ 32 0 11 (ii 0)) A := hM.fr (ks := [48, 49, 50]) (fs := [11]) ((Fr.rf _ _ _).sF (by decide)) (by decide) (by decide)
  unfold fX8_looks fX8_looks_0
  simp (disch := omega) only [M_points hM1, if_true, if_false, Option.bind_some, Option.map_some, ii_lit, ll_lit, ii_neg, ll_neg, ii_add, ii_sub, ii_mul, ll_add, ll_sub, ll_mul, ii_le, ii_lt, ii_eq, ii_t, bi_0, bi_1, rd_z, wr_z, rr_z, rl_z, wl_z, tn_n, st_s, st_j, st_i, st_c, st_2, sl_s, sl_j, sl_i, sl_c, sl_1, Int.natCast_add, Int.cast_ofNat_Int, if_pos, if_neg]
  refine lp_j (fun k s => s.1 = ii k ∧ s.2.1 32 0 11 = ii (cnf (inP A) k) ∧ (∀ j, j < k → s.2.1 49 0 j = ii (mkf (hdr A (pt A j)) A.R)) ∧ (∀ j, j < k → inP A j = true → s.2.1 50 0 (cnf (inP A) j) = ii j) ∧ Fr [48, 49, 50] [11] τ s.2) _ (np A) ⟨rfl, by rw [st_s]; rfl, fun j hj => by omega, fun j hj => by omega, (Fr.rf _ _ _).sF (by decide)⟩ ?_ ?_
  · rintro k ⟨a, s⟩ hk ⟨h1, h2, h3, h4, h5⟩
    have h1 : a = ii k := h1
    subst h1
    have h2 : s.1 32 0 11 = ii (cnf (inP A) k) := h2
    have hMs : isM s A := hM.fr h5 (by decide) (by decide)
    obtain ⟨s1, e1, g1, g2, g3⟩ := M_goesTo hMs hA hk
    have hMs1 : isM s1 A := hMs.fr g2 (by decide) (by decide)
    have e2 := M_holding hMs1 hA g1 (fun l hl => by have := pt_9 hA k (l := l) (by have := hA.1; omega); omega)
    have hMs2 : isM (stI s1 49 0 k (ii (mkf (hdr A (pt A k)) A.R))) A := hMs1.fr (ks := [48, 49, 50]) (fs := [11]) ((Fr.rf _ _ _).sI (by decide) (by decide)) (by decide) (by decide)
    have e3 := M_allRows hMs2 hA
    have hc := cnf_le (inP A) k
    have hR8 := hA.2.1
    have hm : mkf (hdr A (pt A k)) A.R < 256 := by
      have q1 := mkf_lt (hdr A (pt A k)) A.R
      have q2 : (2 : Nat) ^ A.R ≤ 2 ^ 8 := Nat.pow_le_pow_right (by decide) hR8
      omega
    have hm2 : 2 ^ A.R - 1 < 256 := by
      have q2 : (2 : Nat) ^ A.R ≤ 2 ^ 8 := Nat.pow_le_pow_right (by decide) hR8
      omega
    have h2' : s1.1 32 0 11 = ii (cnf (inP A) k) := by rw [g3]; exact h2
    have f1 : Fr [48, 49, 50] [11] τ (stI s1 49 0 k (ii (mkf (hdr A (pt A k)) A.R))) := (h5.tr (g2.mono (by decide) (by decide))).sI (by decide) (by decide)
    have hh := held_iff (A := A) k
    by_cases h : inP A k = true
    · have hq := hh.mpr h
      have hq' : ((mkf (hdr A (pt A k)) A.R : Nat) : Int) = ((2 ^ A.R - 1 : Nat) : Int) := by omega
      refine ⟨(ii ((k + 1 : Nat)), stI (stI (stI s1 49 0 k (ii (mkf (hdr A (pt A k)) A.R))) 50 0 (cnf (inP A) k) (ii k)) 32 0 11 (ii ((cnf (inP A) (k + 1) : Nat)))), ?_, rfl, ?_, ?_, ?_, (f1.sI (by decide) (by decide)).sF (by decide)⟩
      · have e5 : cnf (inP A) (k + 1) = cnf (inP A) k + 1 := by rw [cnf, if_pos h]
        rw [e5]
        simp (disch := omega) only [fX8_looks_12_L, fX8_looks_12, fX8_looks_65, e1, e2, e3, h2', if_true, if_false, Option.bind_some, Option.map_some, ii_lit, ll_lit, ii_neg, ll_neg, ii_add, ii_sub, ii_mul, ll_add, ll_sub, ll_mul, ii_le, ii_lt, ii_eq, ii_t, bi_0, bi_1, rd_z, wr_z, rr_z, rl_z, wl_z, tn_n, st_s, st_j, st_i, st_c, st_2, sl_s, sl_j, sl_i, sl_c, sl_1, Int.natCast_add, Int.cast_ofNat_Int, if_pos, if_neg]
      · rw [st_s]
      · intro j hj
        rw [st_c _ _ _ _ (by decide), st_c _ _ _ _ (by decide)]
        by_cases hjk : j = k
        · subst hjk
          rw [st_s]
        · rw [st_j _ _ hjk, g3]
          exact h3 j (by omega)
      · intro j hj hin
        rw [st_c _ _ _ _ (by decide)]
        by_cases hjk : j = k
        · subst hjk
          rw [st_s]
        · have : cnf (inP A) (j + 1) ≤ cnf (inP A) k := cnf_mono _ (by omega)
          rw [cnf, if_pos hin] at this
          rw [st_j _ _ (by omega), st_c _ _ _ _ (by decide), g3]
          exact h4 j (by omega) hin
    · have hq : ¬ mkf (hdr A (pt A k)) A.R = 2 ^ A.R - 1 := fun e => h (hh.mp e)
      have hq' : ¬ ((mkf (hdr A (pt A k)) A.R : Nat) : Int) = ((2 ^ A.R - 1 : Nat) : Int) := by omega
      refine ⟨(ii ((k + 1 : Nat)), stI s1 49 0 k (ii (mkf (hdr A (pt A k)) A.R))), ?_, rfl, ?_, ?_, ?_, f1⟩
      · simp (disch := omega) only [fX8_looks_12_L, fX8_looks_12, fX8_looks_65, e1, e2, e3, if_true, if_false, Option.bind_some, Option.map_some, ii_lit, ll_lit, ii_neg, ll_neg, ii_add, ii_sub, ii_mul, ll_add, ll_sub, ll_mul, ii_le, ii_lt, ii_eq, ii_t, bi_0, bi_1, rd_z, wr_z, rr_z, rl_z, wl_z, tn_n, st_s, st_j, st_i, st_c, st_2, sl_s, sl_j, sl_i, sl_c, sl_1, Int.natCast_add, Int.cast_ofNat_Int, if_pos, if_neg]
      · rw [st_c _ _ _ _ (by decide), h2', cnf, if_neg h]
        rfl
      · intro j hj
        by_cases hjk : j = k
        · subst hjk
          rw [st_s]
        · rw [st_j _ _ hjk, g3]
          exact h3 j (by omega)
      · intro j hj hin
        have hjk : j ≠ k := by
          rintro rfl
          exact h hin
        rw [st_c _ _ _ _ (by decide), g3]
        exact h4 j (by omega) hin
  · rintro ⟨a, s⟩ ⟨h1, h2, h3, h4, h5⟩
    have h1 : a = ii (np A) := h1
    subst h1
    refine ⟨s, ?_, h2, h3, h4, h5⟩
    simp (disch := omega) only [fX8_looks_12_L, fX8_looks_12, hnp, if_true, if_false, Option.bind_some, Option.map_some, ii_lit, ll_lit, ii_neg, ll_neg, ii_add, ii_sub, ii_mul, ll_add, ll_sub, ll_mul, ii_le, ii_lt, ii_eq, ii_t, bi_0, bi_1, rd_z, wr_z, rr_z, rl_z, wl_z, tn_n, st_s, st_j, st_i, st_c, st_2, sl_s, sl_j, sl_i, sl_c, sl_1, Int.natCast_add, Int.cast_ofNat_Int, if_pos, if_neg]
