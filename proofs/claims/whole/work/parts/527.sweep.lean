-- DIRECTIONS: what is the greatest, the least
theorem lf5_r {d : Int} (h0 : 0 ≤ d) (j : Nat) : 0 ≤ lf5 d j ∧ lf5 d j ≤ d := by
  induction j with
  | zero => exact ⟨h0, Int.le_refl _⟩
  | succ j ih =>
    rw [lf5]
    omega
theorem wy_r (n : Nat) (d : Int) (l : Nat) : -2 ≤ wy n d l ∧ wy n d l ≤ 2 := by
  unfold wy
  omega
theorem ws_r {A : bdy} (hA : okb A) (d : Int) (p : Nat) {k : Nat} (hk : k ≤ A.n) : -72 ≤ smf (fun l => wy A.n d l * pt A p l) k ∧ smf (fun l => wy A.n d l * pt A p l) k ≤ 72 := by
  have hn := hA.1
  have h := smf_r (f := fun l => wy A.n d l * pt A p l) (n := k) (B := 18) (fun l hl => by
    have h1 := pt_9 hA p (l := l) (by omega)
    exact mul_r (A := 2) (B := 9) (wy_r _ _ _) h1 (by omega) (by omega))
  have h4 : (k : Int) * 18 ≤ 4 * 18 := Int.mul_le_mul_of_nonneg_right (by omega) (by omega)
  omega
theorem sw_r {A : bdy} (hA : okb A) (d : Int) (k : Nat) : (-72 ≤ (sw A d k).1 ∧ (sw A d k).1 ≤ 72) ∧ (-72 ≤ (sw A d k).2.1 ∧ (sw A d k).2.1 ≤ 72) ∧ (sw A d k).2.2 ≤ k ∧ (0 < cnf (inP A) k → (sw A d k).2.1 ≤ (sw A d k).1) := by
  induction k with
  | zero =>
    refine ⟨⟨?_, ?_⟩, ⟨?_, ?_⟩, ?_, ?_⟩ <;> simp [sw, fdf, cnf]
  | succ k ih =>
    unfold sw at ih ⊢
    by_cases h : inP A k = true
    · rw [fdf_yes h, cnf_yes h]
      have hw : -72 ≤ ws A d k ∧ ws A d k ≤ 72 := ws_r hA d k (Nat.le_refl _)
      have hc := cnf_le (inP A) k
      obtain ⟨a, b, c, e⟩ := ih
      generalize fdf (inP A) (swg (ws A d)) (0, 0, 0) k = q at a b c e ⊢
      refine ⟨?_, ?_, ?_, ?_⟩
      · show -72 ≤ (if cnf (inP A) k = 0 ∨ q.1 < ws A d k then ws A d k else q.1) ∧ (if cnf (inP A) k = 0 ∨ q.1 < ws A d k then ws A d k else q.1) ≤ 72
        split <;> omega
      · show -72 ≤ (if cnf (inP A) k = 0 ∨ ws A d k < q.2.1 then ws A d k else q.2.1) ∧ (if cnf (inP A) k = 0 ∨ ws A d k < q.2.1 then ws A d k else q.2.1) ≤ 72
        split <;> omega
      · show (if cnf (inP A) k = 0 ∨ q.1 < ws A d k then cnf (inP A) k else q.2.2) ≤ k + 1
        split <;> omega
      · intro _
        show (if cnf (inP A) k = 0 ∨ ws A d k < q.2.1 then ws A d k else q.2.1) ≤ (if cnf (inP A) k = 0 ∨ q.1 < ws A d k then ws A d k else q.1)
        by_cases h0 : cnf (inP A) k = 0
        · rw [if_pos (Or.inl h0), if_pos (Or.inl h0)]
          exact Int.le_refl _
        · have := e (by omega)
          split <;> split <;> omega
    · rw [fdf_no h, cnf_no h]
      obtain ⟨a, b, c, e⟩ := ih
      exact ⟨a, b, by omega, e⟩
theorem sw_mono {A : bdy} {d : Int} {j k : Nat} (hjk : j ≤ k) (hj : 0 < cnf (inP A) j) : (sw A d j).1 ≤ (sw A d k).1 ∧ (sw A d k).2.1 ≤ (sw A d j).2.1 := by
  induction k with
  | zero =>
    have : j = 0 := by omega
    subst this
    exact ⟨Int.le_refl _, Int.le_refl _⟩
  | succ k ih =>
    by_cases hjk2 : j = k + 1
    · subst hjk2
      exact ⟨Int.le_refl _, Int.le_refl _⟩
    · have h1 := ih (by omega)
      have h2 := cnf_mono (inP A) (show j ≤ k by omega)
      unfold sw at h1 ⊢
      by_cases h : inP A k = true
      · rw [fdf_yes h]
        generalize fdf (inP A) (swg (ws A d)) (0, 0, 0) k = q at h1 ⊢
        constructor
        · show _ ≤ (if cnf (inP A) k = 0 ∨ q.1 < ws A d k then ws A d k else q.1)
          split <;> omega
        · show (if cnf (inP A) k = 0 ∨ ws A d k < q.2.1 then ws A d k else q.2.1) ≤ _
          split <;> omega
      · rw [fdf_no h]
        exact h1
theorem C_dirs {n : Nat} (hn : n ≤ 4) : fX1_directions (ii n) = some (ii (d5 n)) := by
  unfold fX1_directions fX1_directions_0 d5
  refine lp_f (fun k => (ii ((5 ^ k : Nat)), ii k)) n rfl ?_ ?_
  · intro k hk
    simp (disch := omega) only [fX1_directions_4_L, fX1_directions_4, Nat.pow_succ, Int.natCast_mul, if_true, if_false, Option.bind_some, Option.map_some, ii_lit, ll_lit, ii_neg, ll_neg, ii_add, ii_sub, ii_mul, ll_add, ll_sub, ll_mul, ii_le, ii_lt, ii_eq, ii_t, bi_0, bi_1, rd_z, wr_z, rr_z, rl_z, wl_z, tn_n, st_s, st_j, st_i, st_c, st_2, sl_s, sl_j, sl_i, sl_c, sl_1, Int.natCast_add, Int.cast_ofNat_Int, if_pos, if_neg]
  · simp (disch := omega) only [fX1_directions_4_L, fX1_directions_4, if_true, if_false, Option.bind_some, Option.map_some, ii_lit, ll_lit, ii_neg, ll_neg, ii_add, ii_sub, ii_mul, ll_add, ll_sub, ll_mul, ii_le, ii_lt, ii_eq, ii_t, bi_0, bi_1, rd_z, wr_z, rr_z, rl_z, wl_z, tn_n, st_s, st_j, st_i, st_c, st_2, sl_s, sl_j, sl_i, sl_c, sl_1, Int.natCast_add, Int.cast_ofNat_Int, if_pos, if_neg]
theorem M_dirs {τ : mm} {A : bdy} (hM : isM τ A) : fX8_directions τ = some (ii (d5 A.n)) := by
  have hn := hM.2.1
  have hn4 := hM.1.1
  unfold fX8_directions fX8_directions_0 d5
  refine lp_f (fun k => (ii ((5 ^ k : Nat)), ii k)) A.n rfl ?_ ?_
  · intro k hk
    simp (disch := omega) only [fX8_directions_4_L, fX8_directions_4, hn, Nat.pow_succ, Int.natCast_mul, if_true, if_false, Option.bind_some, Option.map_some, ii_lit, ll_lit, ii_neg, ll_neg, ii_add, ii_sub, ii_mul, ll_add, ll_sub, ll_mul, ii_le, ii_lt, ii_eq, ii_t, bi_0, bi_1, rd_z, wr_z, rr_z, rl_z, wl_z, tn_n, st_s, st_j, st_i, st_c, st_2, sl_s, sl_j, sl_i, sl_c, sl_1, Int.natCast_add, Int.cast_ofNat_Int, if_pos, if_neg]
  · simp (disch := omega) only [fX8_directions_4_L, fX8_directions_4, hn, if_true, if_false, Option.bind_some, Option.map_some, ii_lit, ll_lit, ii_neg, ll_neg, ii_add, ii_sub, ii_mul, ll_add, ll_sub, ll_mul, ii_le, ii_lt, ii_eq, ii_t, bi_0, bi_1, rd_z, wr_z, rr_z, rl_z, wl_z, tn_n, st_s, st_j, st_i, st_c, st_2, sl_s, sl_j, sl_i, sl_c, sl_1, Int.natCast_add, Int.cast_ofNat_Int, if_pos, if_neg]
theorem d5_r {n : Nat} (h : n ≤ 4) : d5 n ≤ 625 := Nat.pow_le_pow_right (by decide) h
theorem C_weightAt {σ : mm} {A : bdy} (hc : cloudP σ A) (hA : okb A) {d : Int} (hw : ∀ l, l < A.n → σ.1 14 0 l = ii (wy A.n d l)) {p : Nat} (hp : p < np A) : fX1_weightAt (ii p) (ii A.n) σ = some (ii (ws A d p)) := by
  have h1 := spt_lt hA p
  have h2 := (cnt_le hA).2
  have hn1 := hA.1
  unfold fX1_weightAt fX1_weightAt_0
  simp (disch := omega) only [hc.2.2 p hp, if_true, if_false, Option.bind_some, Option.map_some, ii_lit, ll_lit, ii_neg, ll_neg, ii_add, ii_sub, ii_mul, ll_add, ll_sub, ll_mul, ii_le, ii_lt, ii_eq, ii_t, bi_0, bi_1, rd_z, wr_z, rr_z, rl_z, wl_z, tn_n, st_s, st_j, st_i, st_c, st_2, sl_s, sl_j, sl_i, sl_c, sl_1, Int.natCast_add, Int.cast_ofNat_Int, if_pos, if_neg]
  refine lp_f (fun k => (ii (smf (fun l => wy A.n d l * pt A p l) k), ii k)) A.n rfl ?_ ?_
  · intro k hk
    have h3 := pt_9 hA p (l := k) (by omega)
    have e : fX7_unpack (ii (spt A p)) (ii k) = ii (pt A p k) := by
      rw [unpack_n (by omega) (by omega), spt_get hA p hk]
      congr 1
      omega
    simp (disch := omega) only [fX1_weightAt_13_L, fX1_weightAt_13, hw, e, smf, if_true, if_false, Option.bind_some, Option.map_some, ii_lit, ll_lit, ii_neg, ll_neg, ii_add, ii_sub, ii_mul, ll_add, ll_sub, ll_mul, ii_le, ii_lt, ii_eq, ii_t, bi_0, bi_1, rd_z, wr_z, rr_z, rl_z, wl_z, tn_n, st_s, st_j, st_i, st_c, st_2, sl_s, sl_j, sl_i, sl_c, sl_1, Int.natCast_add, Int.cast_ofNat_Int, if_pos, if_neg]
  · simp (disch := omega) only [fX1_weightAt_13_L, fX1_weightAt_13, ws, if_true, if_false, Option.bind_some, Option.map_some, ii_lit, ll_lit, ii_neg, ll_neg, ii_add, ii_sub, ii_mul, ll_add, ll_sub, ll_mul, ii_le, ii_lt, ii_eq, ii_t, bi_0, bi_1, rd_z, wr_z, rr_z, rl_z, wl_z, tn_n, st_s, st_j, st_i, st_c, st_2, sl_s, sl_j, sl_i, sl_c, sl_1, Int.natCast_add, Int.cast_ofNat_Int, if_pos, if_neg]
def u1 (z : mm) (c : Nat) (gr s : Int) : mm := if c = 0 ∨ gr < s then stI (stI z 1 0 3 (ii s)) 1 0 5 (ii c) else z
def u2 (z : mm) (c : Nat) (le s : Int) : mm := if c = 0 ∨ s < le then stI z 1 0 4 (ii s) else z
theorem sweep_step {z : mm} {A : bdy} (hc : cloudP z A) (hA : okb A) {d : Int} (hw : ∀ l, l < A.n → z.1 14 0 l = ii (wy A.n d l)) {k : Nat} (hk : k < np A) (hin : inP A k = true) {E : Int} {c : Nat} (hc4 : c ≤ 4096) {gr le : Int} (h3 : c ≠ 0 → z.1 1 0 3 = ii gr ∧ z.1 1 0 4 = ii le) (r1 : -72 ≤ gr ∧ gr ≤ 72) (r2 : -72 ≤ le ∧ le ≤ 72) :
    fX1_sweep_44 (ii A.n) (ii E) (ii c) (ii k) z = fX1_sweep_120 (ii A.n) (ii E) (ii c) (ii k) (u2 (u1 z c gr (ws A d k)) c le (ws A d k)) := by
  have e1 := C_isIn hc hA hk
  have e2 := C_weightAt hc hA hw hk
  have hs : -72 ≤ ws A d k ∧ ws A d k ≤ 72 := ws_r hA d k (Nat.le_refl _)
  have hl := (cnt_le hA).2
  have s1 := hc.1
  unfold fX1_sweep_44 fX1_sweep_88 fX1_sweep_100 fX1_sweep_114 u2 u1
  by_cases c0 : c = 0
  · simp (disch := omega) only [s1, e1, hin, e2, if_true, if_false, Option.bind_some, Option.map_some, ii_lit, ll_lit, ii_neg, ll_neg, ii_add, ii_sub, ii_mul, ll_add, ll_sub, ll_mul, ii_le, ii_lt, ii_eq, ii_t, bi_0, bi_1, rd_z, wr_z, rr_z, rl_z, wl_z, tn_n, st_s, st_j, st_i, st_c, st_2, sl_s, sl_j, sl_i, sl_c, sl_1, Int.natCast_add, Int.cast_ofNat_Int, if_pos, if_neg, decide_eq_false_iff_not, decide_eq_true_eq, in_ll, ii_long, Nat.zero_add, Nat.mul_zero, reduceCtorEq]
  · obtain ⟨g3, g4⟩ := h3 c0
    by_cases q1 : gr < ws A d k
    · by_cases q2 : ws A d k < le
      · simp (disch := omega) only [s1, e1, hin, e2, g3, g4, if_true, if_false, Option.bind_some, Option.map_some, ii_lit, ll_lit, ii_neg, ll_neg, ii_add, ii_sub, ii_mul, ll_add, ll_sub, ll_mul, ii_le, ii_lt, ii_eq, ii_t, bi_0, bi_1, rd_z, wr_z, rr_z, rl_z, wl_z, tn_n, st_s, st_j, st_i, st_c, st_2, sl_s, sl_j, sl_i, sl_c, sl_1, Int.natCast_add, Int.cast_ofNat_Int, if_pos, if_neg, decide_eq_false_iff_not, decide_eq_true_eq, in_ll, ii_long, Nat.zero_add, Nat.mul_zero, reduceCtorEq]
      · simp (disch := omega) only [s1, e1, hin, e2, g3, g4, if_true, if_false, Option.bind_some, Option.map_some, ii_lit, ll_lit, ii_neg, ll_neg, ii_add, ii_sub, ii_mul, ll_add, ll_sub, ll_mul, ii_le, ii_lt, ii_eq, ii_t, bi_0, bi_1, rd_z, wr_z, rr_z, rl_z, wl_z, tn_n, st_s, st_j, st_i, st_c, st_2, sl_s, sl_j, sl_i, sl_c, sl_1, Int.natCast_add, Int.cast_ofNat_Int, if_pos, if_neg, decide_eq_false_iff_not, decide_eq_true_eq, in_ll, ii_long, Nat.zero_add, Nat.mul_zero, reduceCtorEq]
    · by_cases q2 : ws A d k < le
      · simp (disch := omega) only [s1, e1, hin, e2, g3, g4, if_true, if_false, Option.bind_some, Option.map_some, ii_lit, ll_lit, ii_neg, ll_neg, ii_add, ii_sub, ii_mul, ll_add, ll_sub, ll_mul, ii_le, ii_lt, ii_eq, ii_t, bi_0, bi_1, rd_z, wr_z, rr_z, rl_z, wl_z, tn_n, st_s, st_j, st_i, st_c, st_2, sl_s, sl_j, sl_i, sl_c, sl_1, Int.natCast_add, Int.cast_ofNat_Int, if_pos, if_neg, decide_eq_false_iff_not, decide_eq_true_eq, in_ll, ii_long, Nat.zero_add, Nat.mul_zero, reduceCtorEq]
      · simp (disch := omega) only [s1, e1, hin, e2, g3, g4, if_true, if_false, Option.bind_some, Option.map_some, ii_lit, ll_lit, ii_neg, ll_neg, ii_add, ii_sub, ii_mul, ll_add, ll_sub, ll_mul, ii_le, ii_lt, ii_eq, ii_t, bi_0, bi_1, rd_z, wr_z, rr_z, rl_z, wl_z, tn_n, st_s, st_j, st_i, st_c, st_2, sl_s, sl_j, sl_i, sl_c, sl_1, Int.natCast_add, Int.cast_ofNat_Int, if_pos, if_neg, decide_eq_false_iff_not, decide_eq_true_eq, in_ll, ii_long, Nat.zero_add, Nat.mul_zero, reduceCtorEq]
theorem u_fields (z : mm) (c : Nat) (gr le s : Int) (fi : Nat) (h : c ≠ 0 → z.1 1 0 3 = ii gr ∧ z.1 1 0 4 = ii le ∧ z.1 1 0 5 = ii fi) : (u2 (u1 z c gr s) c le s).1 1 0 3 = ii (if c = 0 ∨ gr < s then s else gr) ∧ (u2 (u1 z c gr s) c le s).1 1 0 4 = ii (if c = 0 ∨ s < le then s else le) ∧ (u2 (u1 z c gr s) c le s).1 1 0 5 = ii ((if c = 0 ∨ gr < s then c else fi : Nat)) ∧ (∀ j, j ≠ 3 → j ≠ 4 → j ≠ 5 → (u2 (u1 z c gr s) c le s).1 1 0 j = z.1 1 0 j) ∧ Fr [1] [] z (u2 (u1 z c gr s) c le s) := by
  unfold u2 u1
  have fr2 : ∀ y : mm, Fr [1] [] z y → ∀ j v, Fr [1] [] z (stI y 1 0 j v) := fun y hy j v => hy.sI (by decide) (by decide)
  by_cases q1 : c = 0 ∨ gr < s
  · by_cases q2 : c = 0 ∨ s < le
    · rw [if_pos q1, if_pos q2, if_pos q1, if_pos q2, if_pos q1]
      refine ⟨?_, ?_, ?_, ?_, fr2 _ (fr2 _ (fr2 _ (Fr.rf _ _ _) _ _) _ _) _ _⟩
      · simp (disch := omega) only [if_true, if_false, Option.bind_some, Option.map_some, ii_lit, ll_lit, ii_neg, ll_neg, ii_add, ii_sub, ii_mul, ll_add, ll_sub, ll_mul, ii_le, ii_lt, ii_eq, ii_t, bi_0, bi_1, rd_z, wr_z, rr_z, rl_z, wl_z, tn_n, st_s, st_j, st_i, st_c, st_2, sl_s, sl_j, sl_i, sl_c, sl_1, Int.natCast_add, Int.cast_ofNat_Int, if_pos, if_neg]
      · simp (disch := omega) only [if_true, if_false, Option.bind_some, Option.map_some, ii_lit, ll_lit, ii_neg, ll_neg, ii_add, ii_sub, ii_mul, ll_add, ll_sub, ll_mul, ii_le, ii_lt, ii_eq, ii_t, bi_0, bi_1, rd_z, wr_z, rr_z, rl_z, wl_z, tn_n, st_s, st_j, st_i, st_c, st_2, sl_s, sl_j, sl_i, sl_c, sl_1, Int.natCast_add, Int.cast_ofNat_Int, if_pos, if_neg]
      · simp (disch := omega) only [if_true, if_false, Option.bind_some, Option.map_some, ii_lit, ll_lit, ii_neg, ll_neg, ii_add, ii_sub, ii_mul, ll_add, ll_sub, ll_mul, ii_le, ii_lt, ii_eq, ii_t, bi_0, bi_1, rd_z, wr_z, rr_z, rl_z, wl_z, tn_n, st_s, st_j, st_i, st_c, st_2, sl_s, sl_j, sl_i, sl_c, sl_1, Int.natCast_add, Int.cast_ofNat_Int, if_pos, if_neg]
      · intro j h3 h4 h5
        rw [st_j _ _ h4, st_j _ _ h5, st_j _ _ h3]
    · rw [if_pos q1, if_neg q2, if_pos q1, if_neg q2, if_pos q1]
      have := h (by omega)
      refine ⟨?_, ?_, ?_, ?_, fr2 _ (fr2 _ (Fr.rf _ _ _) _ _) _ _⟩
      · simp (disch := omega) only [if_true, if_false, Option.bind_some, Option.map_some, ii_lit, ll_lit, ii_neg, ll_neg, ii_add, ii_sub, ii_mul, ll_add, ll_sub, ll_mul, ii_le, ii_lt, ii_eq, ii_t, bi_0, bi_1, rd_z, wr_z, rr_z, rl_z, wl_z, tn_n, st_s, st_j, st_i, st_c, st_2, sl_s, sl_j, sl_i, sl_c, sl_1, Int.natCast_add, Int.cast_ofNat_Int, if_pos, if_neg]
      · simp (disch := omega) only [if_true, if_false, Option.bind_some, Option.map_some, ii_lit, ll_lit, ii_neg, ll_neg, ii_add, ii_sub, ii_mul, ll_add, ll_sub, ll_mul, ii_le, ii_lt, ii_eq, ii_t, bi_0, bi_1, rd_z, wr_z, rr_z, rl_z, wl_z, tn_n, st_s, st_j, st_i, st_c, st_2, sl_s, sl_j, sl_i, sl_c, sl_1, Int.natCast_add, Int.cast_ofNat_Int, if_pos, if_neg]
        exact this.2.1
      · simp (disch := omega) only [if_true, if_false, Option.bind_some, Option.map_some, ii_lit, ll_lit, ii_neg, ll_neg, ii_add, ii_sub, ii_mul, ll_add, ll_sub, ll_mul, ii_le, ii_lt, ii_eq, ii_t, bi_0, bi_1, rd_z, wr_z, rr_z, rl_z, wl_z, tn_n, st_s, st_j, st_i, st_c, st_2, sl_s, sl_j, sl_i, sl_c, sl_1, Int.natCast_add, Int.cast_ofNat_Int, if_pos, if_neg]
      · intro j h3 h4 h5
        rw [st_j _ _ h5, st_j _ _ h3]
  · have := h (by omega)
    by_cases q2 : c = 0 ∨ s < le
    · rw [if_neg q1, if_pos q2, if_neg q1, if_pos q2, if_neg q1]
      refine ⟨?_, ?_, ?_, ?_, fr2 _ (Fr.rf _ _ _) _ _⟩
      · simp (disch := omega) only [if_true, if_false, Option.bind_some, Option.map_some, ii_lit, ll_lit, ii_neg, ll_neg, ii_add, ii_sub, ii_mul, ll_add, ll_sub, ll_mul, ii_le, ii_lt, ii_eq, ii_t, bi_0, bi_1, rd_z, wr_z, rr_z, rl_z, wl_z, tn_n, st_s, st_j, st_i, st_c, st_2, sl_s, sl_j, sl_i, sl_c, sl_1, Int.natCast_add, Int.cast_ofNat_Int, if_pos, if_neg]
        exact this.1
      · simp (disch := omega) only [if_true, if_false, Option.bind_some, Option.map_some, ii_lit, ll_lit, ii_neg, ll_neg, ii_add, ii_sub, ii_mul, ll_add, ll_sub, ll_mul, ii_le, ii_lt, ii_eq, ii_t, bi_0, bi_1, rd_z, wr_z, rr_z, rl_z, wl_z, tn_n, st_s, st_j, st_i, st_c, st_2, sl_s, sl_j, sl_i, sl_c, sl_1, Int.natCast_add, Int.cast_ofNat_Int, if_pos, if_neg]
      · simp (disch := omega) only [if_true, if_false, Option.bind_some, Option.map_some, ii_lit, ll_lit, ii_neg, ll_neg, ii_add, ii_sub, ii_mul, ll_add, ll_sub, ll_mul, ii_le, ii_lt, ii_eq, ii_t, bi_0, bi_1, rd_z, wr_z, rr_z, rl_z, wl_z, tn_n, st_s, st_j, st_i, st_c, st_2, sl_s, sl_j, sl_i, sl_c, sl_1, Int.natCast_add, Int.cast_ofNat_Int, if_pos, if_neg]
        exact this.2.2
      · intro j h3 h4 h5
        rw [st_j _ _ h4]
    · rw [if_neg q1, if_neg q2, if_neg q1, if_neg q2, if_neg q1]
      exact ⟨this.1, this.2.1, this.2.2, fun _ _ _ _ => rfl, Fr.rf _ _ _⟩
theorem C_sweep {σ : mm} {A : bdy} (hC : isC σ 0 A) (hc : cloudP σ A) (hA : okb A) (hcnt : 0 < cnf (inP A) (np A)) {d : Nat} (hd : d < 625) {E : Int} (hE : 0 ≤ E) (hE2 : E ≤ 1000000000) :
    ∃ σ', fX1_sweep (ii d) (ii A.n) (ii E) σ = some σ' ∧ (∀ j, j ≠ 3 → j ≠ 4 → j ≠ 5 → σ'.1 1 0 j = σ.1 1 0 j) ∧ Fr [1, 14] [] σ σ' ∧
      ∃ k, 0 < cnf (inP A) k ∧ σ'.1 1 0 3 = ii (sw A d k).1 ∧ σ'.1 1 0 4 = ii (sw A d k).2.1 ∧ σ'.1 1 0 5 = ii (sw A d k).2.2 ∧ ((k = np A ∧ spn A d < E) ∨ (k ≤ np A ∧ E ≤ (sw A d k).1 - (sw A d k).2.1)) := by
  have hn1 := hA.1
  have hcn := cnt_le hA
  unfold fX1_sweep fX1_sweep_0
  simp (disch := omega) only [if_true, if_false, Option.bind_some, Option.map_some, ii_lit, ll_lit, ii_neg, ll_neg, ii_add, ii_sub, ii_mul, ll_add, ll_sub, ll_mul, ii_le, ii_lt, ii_eq, ii_t, bi_0, bi_1, rd_z, wr_z, rr_z, rl_z, wl_z, tn_n, st_s, st_j, st_i, st_c, st_2, sl_s, sl_j, sl_i, sl_c, sl_1, Int.natCast_add, Int.cast_ofNat_Int, if_pos, if_neg]
  refine lp_j (fun j s => s.1 = ii (lf5 d j) ∧ s.2.1 = ii ((A.n : Int) - 1 - j) ∧ (∀ l, A.n - j ≤ l → l < A.n → s.2.2.1 14 0 l = ii (wy A.n d l)) ∧ Fr [14] [] σ s.2.2) _ A.n ⟨rfl, by simp, fun l h1 h2 => by omega, Fr.rf _ _ _⟩ ?_ ?_
  · rintro j ⟨a, b, s⟩ hj ⟨h1, h2, h3, h4⟩
    have h1 : a = ii (lf5 d j) := h1
    have h2 : b = ii ((A.n : Int) - 1 - j) := h2
    subst h1 h2
    have hl := lf5_r (d := (d : Int)) (by omega) j
    have e : ((A.n : Int) - 1 - (j : Int)).toNat = A.n - 1 - j := by omega
    have ew : lf5 d j % 5 - 2 = wy A.n d (A.n - 1 - j) := by
      unfold wy
      rw [show A.n - 1 - (A.n - 1 - j) = j by omega]
    have e1 : (A.n : Int) - 1 - (j : Int) + -1 = (A.n : Int) - 1 - ((j : Int) + 1) := by omega
    refine ⟨(ii (lf5 d (j + 1)), ii ((A.n : Int) - 1 - ((j + 1 : Nat))), stI s 14 0 (A.n - 1 - j) (ii (wy A.n d (A.n - 1 - j)))), ?_, rfl, rfl, ?_, h4.sI (by decide) (by decide)⟩
    · simp (disch := omega) only [fX1_sweep_8_L, fX1_sweep_8, e, ew, e1, rm_nn, dv_nn, lf5, if_true, if_false, Option.bind_some, Option.map_some, ii_lit, ll_lit, ii_neg, ll_neg, ii_add, ii_sub, ii_mul, ll_add, ll_sub, ll_mul, ii_le, ii_lt, ii_eq, ii_t, bi_0, bi_1, rd_z, wr_z, rr_z, rl_z, wl_z, tn_n, st_s, st_j, st_i, st_c, st_2, sl_s, sl_j, sl_i, sl_c, sl_1, Int.natCast_add, Int.cast_ofNat_Int, if_pos, if_neg]
    · intro l hl1 hl2
      show (stI s 14 0 (A.n - 1 - j) _).1 14 0 l = _
      by_cases hlj : l = A.n - 1 - j
      · subst hlj
        rw [st_s]
      · rw [st_j _ _ hlj]
        exact h3 l (by omega) hl2
  · rintro ⟨a, b, s⟩ ⟨h1, h2, h3, h4⟩
    have h2 : b = ii ((A.n : Int) - 1 - A.n) := h2
    have h4 : Fr [14] [] σ s := h4
    have h3 : ∀ l, A.n - A.n ≤ l → l < A.n → s.1 14 0 l = ii (wy A.n d l) := h3
    subst h2
    have hcs := hc.fr h4 (by decide)
    have key : ∃ r, lp (fX1_sweep_44_L (ii A.n) (ii E)) (ii 0, ii 0, s) = some r ∧ ((∀ j, j ≠ 3 → j ≠ 4 → j ≠ 5 → r.1 1 0 j = s.1 1 0 j) ∧ Fr [1] [] s r ∧ ∃ k, 0 < cnf (inP A) k ∧ r.1 1 0 3 = ii (sw A d k).1 ∧ r.1 1 0 4 = ii (sw A d k).2.1 ∧ r.1 1 0 5 = ii (sw A d k).2.2 ∧ ((k = np A ∧ spn A d < E) ∨ (k ≤ np A ∧ E ≤ (sw A d k).1 - (sw A d k).2.1))) := by
      refine lp_i (fun k z => z.1 = ii (cnf (inP A) k) ∧ z.2.1 = ii k ∧ (cnf (inP A) k ≠ 0 → (z.2.2.1 1 0 3 = ii (sw A d k).1 ∧ z.2.2.1 1 0 4 = ii (sw A d k).2.1 ∧ z.2.2.1 1 0 5 = ii (sw A d k).2.2) ∧ (sw A d k).1 - (sw A d k).2.1 < E) ∧ (∀ j, j ≠ 3 → j ≠ 4 → j ≠ 5 → z.2.2.1 1 0 j = s.1 1 0 j) ∧ Fr [1] [] s z.2.2) _ (np A) ⟨rfl, rfl, fun h => absurd rfl h, fun _ _ _ _ => rfl, Fr.rf _ _ _⟩ ?_ ?_
      · rintro k ⟨a, b, z⟩ hk ⟨y1, y2, y3, y4, y5⟩
        have y1 : a = ii (cnf (inP A) k) := y1
        have y2 : b = ii k := y2
        have y3 : cnf (inP A) k ≠ 0 → (z.1 1 0 3 = ii (sw A d k).1 ∧ z.1 1 0 4 = ii (sw A d k).2.1 ∧ z.1 1 0 5 = ii (sw A d k).2.2) ∧ (sw A d k).1 - (sw A d k).2.1 < E := y3
        have y4 : ∀ j, j ≠ 3 → j ≠ 4 → j ≠ 5 → z.1 1 0 j = s.1 1 0 j := y4
        have y5 : Fr [1] [] s z := y5
        subst y1 y2
        have hck := cnf_le (inP A) k
        have hcz : cloudP z A := by
          refine ⟨?_, ?_, ?_⟩
          · rw [y4 1 (by decide) (by decide) (by decide)]; exact hcs.1
          · rw [y4 2 (by decide) (by decide) (by decide)]; exact hcs.2.1
          · rw [y5.1 12 (by decide) (by decide)]; exact hcs.2.2
        by_cases hin : inP A k = true
        · have hsr := sw_r hA d k
          have st := sweep_step hcz hA (d := d) (fun l hl => by rw [y5.1 14 (by decide) (by decide)]; exact h3 l (by omega) hl) hk hin (E := E) (c := cnf (inP A) k) (by omega) (gr := (sw A d k).1) (le := (sw A d k).2.1) (fun h => ⟨(y3 h).1.1, (y3 h).1.2.1⟩) hsr.1 hsr.2.1
          obtain ⟨w3, w4, w5, w6, w7⟩ := u_fields z (cnf (inP A) k) (sw A d k).1 (sw A d k).2.1 (ws A d k) (sw A d k).2.2 (fun h => (y3 h).1)
          have es : sw A d (k + 1) = swg (ws A d) k (cnf (inP A) k) (sw A d k) := fdf_yes hin
          have es1 : (sw A d (k + 1)).1 = if cnf (inP A) k = 0 ∨ (sw A d k).1 < ws A d k then ws A d k else (sw A d k).1 := by rw [es]; rfl
          have es2 : (sw A d (k + 1)).2.1 = if cnf (inP A) k = 0 ∨ ws A d k < (sw A d k).2.1 then ws A d k else (sw A d k).2.1 := by rw [es]; rfl
          have es3 : (sw A d (k + 1)).2.2 = if cnf (inP A) k = 0 ∨ (sw A d k).1 < ws A d k then cnf (inP A) k else (sw A d k).2.2 := by rw [es]; rfl
          rw [← es1] at w3
          rw [← es2] at w4
          rw [← es3] at w5
          have hsr2 := sw_r hA d (k + 1)
          generalize hz' : u2 (u1 z (cnf (inP A) k) (sw A d k).1 (ws A d k)) (cnf (inP A) k) (sw A d k).2.1 (ws A d k) = z' at *
          by_cases hsp : (sw A d (k + 1)).1 - (sw A d (k + 1)).2.1 < E
          · left
            refine ⟨(ii (cnf (inP A) (k + 1)), ii ((k + 1 : Nat)), z'), ?_, rfl, rfl, fun _ => ⟨⟨w3, w4, w5⟩, hsp⟩, ?_, y5.tr w7⟩
            · rw [cnf_yes hin]
              show fX1_sweep_44 (ii A.n) (ii E) (ii (cnf (inP A) k)) (ii k) z = _
              rw [st]
              simp (disch := omega) only [fX1_sweep_120, fX1_sweep_137, w3, w4, if_true, if_false, Option.bind_some, Option.map_some, ii_lit, ll_lit, ii_neg, ll_neg, ii_add, ii_sub, ii_mul, ll_add, ll_sub, ll_mul, ii_le, ii_lt, ii_eq, ii_t, bi_0, bi_1, rd_z, wr_z, rr_z, rl_z, wl_z, tn_n, st_s, st_j, st_i, st_c, st_2, sl_s, sl_j, sl_i, sl_c, sl_1, Int.natCast_add, Int.cast_ofNat_Int, if_pos, if_neg]
            · intro j j3 j4 j5
              show z'.1 1 0 j = _
              rw [w6 j j3 j4 j5]
              exact y4 j j3 j4 j5
          · right
            refine ⟨z', ?_, ?_, y5.tr w7, k + 1, ?_, w3, w4, w5, Or.inr ⟨by omega, by omega⟩⟩
            · show fX1_sweep_44 (ii A.n) (ii E) (ii (cnf (inP A) k)) (ii k) z = _
              rw [st]
              simp (disch := omega) only [fX1_sweep_120, fX1_sweep_137, w3, w4, if_true, if_false, Option.bind_some, Option.map_some, ii_lit, ll_lit, ii_neg, ll_neg, ii_add, ii_sub, ii_mul, ll_add, ll_sub, ll_mul, ii_le, ii_lt, ii_eq, ii_t, bi_0, bi_1, rd_z, wr_z, rr_z, rl_z, wl_z, tn_n, st_s, st_j, st_i, st_c, st_2, sl_s, sl_j, sl_i, sl_c, sl_1, Int.natCast_add, Int.cast_ofNat_Int, if_pos, if_neg]
            · intro j j3 j4 j5
              rw [w6 j j3 j4 j5]
              exact y4 j j3 j4 j5
            · rw [cnf_yes hin]
              omega
        · left
          have e1 := C_isIn hcz hA hk
          have es : sw A d (k + 1) = sw A d k := fdf_no hin
          refine ⟨(ii (cnf (inP A) (k + 1)), ii ((k + 1 : Nat)), z), ?_, rfl, rfl, ?_, y4, y5⟩
          · rw [cnf_no hin]
            simp only [Bool.not_eq_true] at hin
            simp (disch := omega) only [fX1_sweep_44_L, fX1_sweep_44, fX1_sweep_137, hcz.1, e1, hin, if_true, if_false, Option.bind_some, Option.map_some, ii_lit, ll_lit, ii_neg, ll_neg, ii_add, ii_sub, ii_mul, ll_add, ll_sub, ll_mul, ii_le, ii_lt, ii_eq, ii_t, bi_0, bi_1, rd_z, wr_z, rr_z, rl_z, wl_z, tn_n, st_s, st_j, st_i, st_c, st_2, sl_s, sl_j, sl_i, sl_c, sl_1, Int.natCast_add, Int.cast_ofNat_Int, if_pos, if_neg, decide_eq_false_iff_not, decide_eq_true_eq, in_ll, ii_long, Nat.zero_add, Nat.mul_zero, reduceCtorEq]
          · rw [cnf_no hin, es]
            exact y3
      · rintro ⟨a, b, z⟩ ⟨y1, y2, y3, y4, y5⟩
        have y1 : a = ii (cnf (inP A) (np A)) := y1
        have y2 : b = ii (np A) := y2
        have y4 : ∀ j, j ≠ 3 → j ≠ 4 → j ≠ 5 → z.1 1 0 j = s.1 1 0 j := y4
        subst y1 y2
        obtain ⟨⟨w1, w2, w3⟩, w4⟩ := y3 (by omega)
        have hs1 : z.1 1 0 1 = ii (np A) := by rw [y4 1 (by decide) (by decide) (by decide)]; exact hcs.1
        refine ⟨z, ?_, y4, y5, np A, hcnt, w1, w2, w3, Or.inl ⟨rfl, w4⟩⟩
        simp (disch := omega) only [fX1_sweep_44_L, fX1_sweep_44, hs1, if_true, if_false, Option.bind_some, Option.map_some, ii_lit, ll_lit, ii_neg, ll_neg, ii_add, ii_sub, ii_mul, ll_add, ll_sub, ll_mul, ii_le, ii_lt, ii_eq, ii_t, bi_0, bi_1, rd_z, wr_z, rr_z, rl_z, wl_z, tn_n, st_s, st_j, st_i, st_c, st_2, sl_s, sl_j, sl_i, sl_c, sl_1, Int.natCast_add, Int.cast_ofNat_Int, if_pos, if_neg, decide_eq_false_iff_not, decide_eq_true_eq, in_ll, ii_long, Nat.zero_add, Nat.mul_zero, reduceCtorEq]
    obtain ⟨r, e, r1, r2, r3⟩ := key
    refine ⟨r, ?_, ?_, (h4.mono (by decide) (by decide)).tr (r2.mono (by decide) (by decide)), r3⟩
    · simp (disch := omega) only [fX1_sweep_8_L, fX1_sweep_8, e, if_true, if_false, Option.bind_some, Option.map_some, ii_lit, ll_lit, ii_neg, ll_neg, ii_add, ii_sub, ii_mul, ll_add, ll_sub, ll_mul, ii_le, ii_lt, ii_eq, ii_t, bi_0, bi_1, rd_z, wr_z, rr_z, rl_z, wl_z, tn_n, st_s, st_j, st_i, st_c, st_2, sl_s, sl_j, sl_i, sl_c, sl_1, Int.natCast_add, Int.cast_ofNat_Int, if_pos, if_neg]
    · intro j j3 j4 j5
      rw [r1 j j3 j4 j5, h4.1 1 (by decide) (by decide)]
