-- CELLS: dead, whole, the verdict
def okc (c : bx) : Prop := ∀ l, l < 4 → -9 ≤ c.1 l ∧ c.1 l ≤ c.2 l ∧ c.2 l ≤ 9
theorem smf_le {f g : Nat → Int} {n : Nat} (h : ∀ k, k < n → f k ≤ g k) : smf f n ≤ smf g n := by
  induction n with
  | zero => exact Int.le_refl _
  | succ n ih =>
    have h1 := ih (fun k hk => h k (by omega))
    have h2 := h n (by omega)
    rw [smf, smf]
    omega
theorem lm_r {A : bdy} (hA : okb A) {c : bx} (hc : okc c) {r : Nat} (hr : r < A.R) : (-324 ≤ lsc A c r ∧ lsc A c r ≤ 324) ∧ (-324 ≤ msc A c r ∧ msc A c r ≤ 324) ∧ lsc A c r ≤ msc A c r := by
  have hn := hA.1
  have hrow := (hA.2.2.2.1 r hr).2.2.2
  have h4 : (A.n : Int) * 81 ≤ 4 * 81 := Int.mul_le_mul_of_nonneg_right (by omega) (by omega)
  have b1 := smf_r (f := fun l => A.rw r (3 + l) * (if 0 < A.rw r (3 + l) then c.1 l else c.2 l)) (n := A.n) (B := 81) (fun l hl => by
    have := hc l (by omega)
    exact mul_r (A := 9) (B := 9) (hrow l (by omega)) (by split <;> omega) (by omega) (by omega))
  have b2 := smf_r (f := fun l => A.rw r (3 + l) * (if 0 < A.rw r (3 + l) then c.2 l else c.1 l)) (n := A.n) (B := 81) (fun l hl => by
    have := hc l (by omega)
    exact mul_r (A := 9) (B := 9) (hrow l (by omega)) (by split <;> omega) (by omega) (by omega))
  have b3 : lsc A c r ≤ msc A c r := smf_le (fun l hl => by
    have := hc l (by omega)
    show A.rw r (3 + l) * _ ≤ A.rw r (3 + l) * _
    by_cases q : 0 < A.rw r (3 + l)
    · rw [if_pos q, if_pos q]
      exact Int.mul_le_mul_of_nonneg_left this.2.1 (by omega)
    · rw [if_neg q, if_neg q]
      exact Int.mul_le_mul_of_nonpos_left (by omega) this.2.1)
  unfold lsc msc at *
  omega
theorem C_isDead {σ : mm} {i : Nat} {kd bo wi a b : Int} (k0 : σ.1 4 i 0 = ii kd) (k1 : σ.1 4 i 1 = ii bo) (k2 : σ.1 4 i 2 = ii wi) (h1 : 0 ≤ kd) (h2 : kd ≤ 5) (h3 : 1 ≤ wi) (h4 : wi ≤ 99) (h5 : -324 ≤ a ∧ a ≤ 324) (h6 : -324 ≤ b ∧ b ≤ 324) (h7 : -999 ≤ bo ∧ bo ≤ 999) : fX4_isDead i (ii a) (ii b) σ = some (ddk kd bo wi a b) := by
  have r1 := Int.emod_nonneg (bo - a) (show wi ≠ 0 by omega)
  have r2 := Int.emod_lt_of_pos (bo - a) (show 0 < wi by omega)
  unfold fX4_isDead fX4_isDead_0 fX4_isDead_70 fX4_isDead_102 ddk
  have : kd = 0 ∨ kd = 1 ∨ kd = 2 ∨ kd = 3 ∨ kd = 4 ∨ kd = 5 := by omega
  rcases this with rfl | rfl | rfl | rfl | rfl | rfl
  · by_cases q : bo < a
    · simp (disch := omega) only [k0, k1, k2, decide_eq_true q, if_true, if_false, Option.bind_some, Option.map_some, ii_lit, ll_lit, ii_neg, ll_neg, ii_add, ii_sub, ii_mul, ll_add, ll_sub, ll_mul, ii_le, ii_lt, ii_eq, ii_t, bi_0, bi_1, rd_z, wr_z, rr_z, rl_z, wl_z, tn_n, st_s, st_j, st_i, st_c, st_2, sl_s, sl_j, sl_i, sl_c, sl_1, Int.natCast_add, Int.cast_ofNat_Int, if_pos, if_neg]
    · simp (disch := omega) only [k0, k1, k2, decide_eq_false q, if_true, if_false, Option.bind_some, Option.map_some, ii_lit, ll_lit, ii_neg, ll_neg, ii_add, ii_sub, ii_mul, ll_add, ll_sub, ll_mul, ii_le, ii_lt, ii_eq, ii_t, bi_0, bi_1, rd_z, wr_z, rr_z, rl_z, wl_z, tn_n, st_s, st_j, st_i, st_c, st_2, sl_s, sl_j, sl_i, sl_c, sl_1, Int.natCast_add, Int.cast_ofNat_Int, if_pos, if_neg]
  · by_cases q : bo < a ∨ b < bo
    · by_cases q2 : bo < a
      · simp (disch := omega) only [k0, k1, k2, decide_eq_true q, if_true, if_false, Option.bind_some, Option.map_some, ii_lit, ll_lit, ii_neg, ll_neg, ii_add, ii_sub, ii_mul, ll_add, ll_sub, ll_mul, ii_le, ii_lt, ii_eq, ii_t, bi_0, bi_1, rd_z, wr_z, rr_z, rl_z, wl_z, tn_n, st_s, st_j, st_i, st_c, st_2, sl_s, sl_j, sl_i, sl_c, sl_1, Int.natCast_add, Int.cast_ofNat_Int, if_pos, if_neg]
      · simp (disch := omega) only [k0, k1, k2, decide_eq_true q, if_true, if_false, Option.bind_some, Option.map_some, ii_lit, ll_lit, ii_neg, ll_neg, ii_add, ii_sub, ii_mul, ll_add, ll_sub, ll_mul, ii_le, ii_lt, ii_eq, ii_t, bi_0, bi_1, rd_z, wr_z, rr_z, rl_z, wl_z, tn_n, st_s, st_j, st_i, st_c, st_2, sl_s, sl_j, sl_i, sl_c, sl_1, Int.natCast_add, Int.cast_ofNat_Int, if_pos, if_neg]
    · simp (disch := omega) only [k0, k1, k2, decide_eq_false q, if_true, if_false, Option.bind_some, Option.map_some, ii_lit, ll_lit, ii_neg, ll_neg, ii_add, ii_sub, ii_mul, ll_add, ll_sub, ll_mul, ii_le, ii_lt, ii_eq, ii_t, bi_0, bi_1, rd_z, wr_z, rr_z, rl_z, wl_z, tn_n, st_s, st_j, st_i, st_c, st_2, sl_s, sl_j, sl_i, sl_c, sl_1, Int.natCast_add, Int.cast_ofNat_Int, if_pos, if_neg]
  · by_cases q : bo + wi < a ∨ b < bo - wi
    · by_cases q2 : bo + wi < a
      · simp (disch := omega) only [k0, k1, k2, decide_eq_true q, if_true, if_false, Option.bind_some, Option.map_some, ii_lit, ll_lit, ii_neg, ll_neg, ii_add, ii_sub, ii_mul, ll_add, ll_sub, ll_mul, ii_le, ii_lt, ii_eq, ii_t, bi_0, bi_1, rd_z, wr_z, rr_z, rl_z, wl_z, tn_n, st_s, st_j, st_i, st_c, st_2, sl_s, sl_j, sl_i, sl_c, sl_1, Int.natCast_add, Int.cast_ofNat_Int, if_pos, if_neg]
      · simp (disch := omega) only [k0, k1, k2, decide_eq_true q, if_true, if_false, Option.bind_some, Option.map_some, ii_lit, ll_lit, ii_neg, ll_neg, ii_add, ii_sub, ii_mul, ll_add, ll_sub, ll_mul, ii_le, ii_lt, ii_eq, ii_t, bi_0, bi_1, rd_z, wr_z, rr_z, rl_z, wl_z, tn_n, st_s, st_j, st_i, st_c, st_2, sl_s, sl_j, sl_i, sl_c, sl_1, Int.natCast_add, Int.cast_ofNat_Int, if_pos, if_neg]
    · simp (disch := omega) only [k0, k1, k2, decide_eq_false q, if_true, if_false, Option.bind_some, Option.map_some, ii_lit, ll_lit, ii_neg, ll_neg, ii_add, ii_sub, ii_mul, ll_add, ll_sub, ll_mul, ii_le, ii_lt, ii_eq, ii_t, bi_0, bi_1, rd_z, wr_z, rr_z, rl_z, wl_z, tn_n, st_s, st_j, st_i, st_c, st_2, sl_s, sl_j, sl_i, sl_c, sl_1, Int.natCast_add, Int.cast_ofNat_Int, if_pos, if_neg]
  · by_cases q : b < a + (bo - a) % wi
    · simp (disch := omega) only [k0, k1, k2, fm_ii, decide_eq_true q, if_true, if_false, Option.bind_some, Option.map_some, ii_lit, ll_lit, ii_neg, ll_neg, ii_add, ii_sub, ii_mul, ll_add, ll_sub, ll_mul, ii_le, ii_lt, ii_eq, ii_t, bi_0, bi_1, rd_z, wr_z, rr_z, rl_z, wl_z, tn_n, st_s, st_j, st_i, st_c, st_2, sl_s, sl_j, sl_i, sl_c, sl_1, Int.natCast_add, Int.cast_ofNat_Int, if_pos, if_neg]
    · simp (disch := omega) only [k0, k1, k2, fm_ii, decide_eq_false q, if_true, if_false, Option.bind_some, Option.map_some, ii_lit, ll_lit, ii_neg, ll_neg, ii_add, ii_sub, ii_mul, ll_add, ll_sub, ll_mul, ii_le, ii_lt, ii_eq, ii_t, bi_0, bi_1, rd_z, wr_z, rr_z, rl_z, wl_z, tn_n, st_s, st_j, st_i, st_c, st_2, sl_s, sl_j, sl_i, sl_c, sl_1, Int.natCast_add, Int.cast_ofNat_Int, if_pos, if_neg]
  · by_cases q : bo - wi ≤ a ∧ b ≤ bo + wi
    · simp (disch := omega) only [k0, k1, k2, decide_eq_true q, if_true, if_false, Option.bind_some, Option.map_some, ii_lit, ll_lit, ii_neg, ll_neg, ii_add, ii_sub, ii_mul, ll_add, ll_sub, ll_mul, ii_le, ii_lt, ii_eq, ii_t, bi_0, bi_1, rd_z, wr_z, rr_z, rl_z, wl_z, tn_n, st_s, st_j, st_i, st_c, st_2, sl_s, sl_j, sl_i, sl_c, sl_1, Int.natCast_add, Int.cast_ofNat_Int, if_pos, if_neg]
    · by_cases q2 : a < bo - wi
      · simp (disch := omega) only [k0, k1, k2, decide_eq_false q, if_true, if_false, Option.bind_some, Option.map_some, ii_lit, ll_lit, ii_neg, ll_neg, ii_add, ii_sub, ii_mul, ll_add, ll_sub, ll_mul, ii_le, ii_lt, ii_eq, ii_t, bi_0, bi_1, rd_z, wr_z, rr_z, rl_z, wl_z, tn_n, st_s, st_j, st_i, st_c, st_2, sl_s, sl_j, sl_i, sl_c, sl_1, Int.natCast_add, Int.cast_ofNat_Int, if_pos, if_neg]
      · simp (disch := omega) only [k0, k1, k2, decide_eq_false q, if_true, if_false, Option.bind_some, Option.map_some, ii_lit, ll_lit, ii_neg, ll_neg, ii_add, ii_sub, ii_mul, ll_add, ll_sub, ll_mul, ii_le, ii_lt, ii_eq, ii_t, bi_0, bi_1, rd_z, wr_z, rr_z, rl_z, wl_z, tn_n, st_s, st_j, st_i, st_c, st_2, sl_s, sl_j, sl_i, sl_c, sl_1, Int.natCast_add, Int.cast_ofNat_Int, if_pos, if_neg]
  · by_cases q : b < bo
    · simp (disch := omega) only [k0, k1, k2, decide_eq_true q, if_true, if_false, Option.bind_some, Option.map_some, ii_lit, ll_lit, ii_neg, ll_neg, ii_add, ii_sub, ii_mul, ll_add, ll_sub, ll_mul, ii_le, ii_lt, ii_eq, ii_t, bi_0, bi_1, rd_z, wr_z, rr_z, rl_z, wl_z, tn_n, st_s, st_j, st_i, st_c, st_2, sl_s, sl_j, sl_i, sl_c, sl_1, Int.natCast_add, Int.cast_ofNat_Int, if_pos, if_neg]
    · simp (disch := omega) only [k0, k1, k2, decide_eq_false q, if_true, if_false, Option.bind_some, Option.map_some, ii_lit, ll_lit, ii_neg, ll_neg, ii_add, ii_sub, ii_mul, ll_add, ll_sub, ll_mul, ii_le, ii_lt, ii_eq, ii_t, bi_0, bi_1, rd_z, wr_z, rr_z, rl_z, wl_z, tn_n, st_s, st_j, st_i, st_c, st_2, sl_s, sl_j, sl_i, sl_c, sl_1, Int.natCast_add, Int.cast_ofNat_Int, if_pos, if_neg]
theorem C_isWhole {σ : mm} {i : Nat} {kd bo wi a b : Int} (k0 : σ.1 4 i 0 = ii kd) (k1 : σ.1 4 i 1 = ii bo) (k2 : σ.1 4 i 2 = ii wi) (h1 : 0 ≤ kd) (h2 : kd ≤ 5) (h3 : 1 ≤ wi) (h4 : wi ≤ 99) (h5 : -324 ≤ a ∧ a ≤ 324) (h6 : -324 ≤ b ∧ b ≤ 324) (h7 : -999 ≤ bo ∧ bo ≤ 999) : fX4_isWhole i (ii a) (ii b) σ = some (whk kd bo wi a b) := by
  have al := C_allowsAs (σ := σ) (i := i) (kd := kd) (s := a) k1 k2 h1 h2 h3 h4 (by omega) (by omega) h7.1 h7.2
  have al2 : fX4_allows i (ii a) σ = some (hb kd wi (a - bo)) := by
    unfold fX4_allows fX4_allows_0
    rw [k0, al]
    rfl
  unfold fX4_isWhole fX4_isWhole_0 fX4_isWhole_129 fX4_isWhole_161 whk
  have : kd = 0 ∨ kd = 1 ∨ kd = 2 ∨ kd = 3 ∨ kd = 4 ∨ kd = 5 := by omega
  rcases this with rfl | rfl | rfl | rfl | rfl | rfl
  · by_cases q : b ≤ bo
    · simp (disch := omega) only [k0, k1, k2, decide_eq_true q, if_true, if_false, Option.bind_some, Option.map_some, ii_lit, ll_lit, ii_neg, ll_neg, ii_add, ii_sub, ii_mul, ll_add, ll_sub, ll_mul, ii_le, ii_lt, ii_eq, ii_t, bi_0, bi_1, rd_z, wr_z, rr_z, rl_z, wl_z, tn_n, st_s, st_j, st_i, st_c, st_2, sl_s, sl_j, sl_i, sl_c, sl_1, Int.natCast_add, Int.cast_ofNat_Int, if_pos, if_neg]
    · simp (disch := omega) only [k0, k1, k2, decide_eq_false q, if_true, if_false, Option.bind_some, Option.map_some, ii_lit, ll_lit, ii_neg, ll_neg, ii_add, ii_sub, ii_mul, ll_add, ll_sub, ll_mul, ii_le, ii_lt, ii_eq, ii_t, bi_0, bi_1, rd_z, wr_z, rr_z, rl_z, wl_z, tn_n, st_s, st_j, st_i, st_c, st_2, sl_s, sl_j, sl_i, sl_c, sl_1, Int.natCast_add, Int.cast_ofNat_Int, if_pos, if_neg]
  · by_cases q : a = bo ∧ b = bo
    · simp (disch := omega) only [k0, k1, k2, decide_eq_true q, if_true, if_false, Option.bind_some, Option.map_some, ii_lit, ll_lit, ii_neg, ll_neg, ii_add, ii_sub, ii_mul, ll_add, ll_sub, ll_mul, ii_le, ii_lt, ii_eq, ii_t, bi_0, bi_1, rd_z, wr_z, rr_z, rl_z, wl_z, tn_n, st_s, st_j, st_i, st_c, st_2, sl_s, sl_j, sl_i, sl_c, sl_1, Int.natCast_add, Int.cast_ofNat_Int, if_pos, if_neg]
    · by_cases q2 : a = bo
      · simp (disch := omega) only [k0, k1, k2, decide_eq_false q, if_true, if_false, Option.bind_some, Option.map_some, ii_lit, ll_lit, ii_neg, ll_neg, ii_add, ii_sub, ii_mul, ll_add, ll_sub, ll_mul, ii_le, ii_lt, ii_eq, ii_t, bi_0, bi_1, rd_z, wr_z, rr_z, rl_z, wl_z, tn_n, st_s, st_j, st_i, st_c, st_2, sl_s, sl_j, sl_i, sl_c, sl_1, Int.natCast_add, Int.cast_ofNat_Int, if_pos, if_neg]
      · simp (disch := omega) only [k0, k1, k2, decide_eq_false q, if_true, if_false, Option.bind_some, Option.map_some, ii_lit, ll_lit, ii_neg, ll_neg, ii_add, ii_sub, ii_mul, ll_add, ll_sub, ll_mul, ii_le, ii_lt, ii_eq, ii_t, bi_0, bi_1, rd_z, wr_z, rr_z, rl_z, wl_z, tn_n, st_s, st_j, st_i, st_c, st_2, sl_s, sl_j, sl_i, sl_c, sl_1, Int.natCast_add, Int.cast_ofNat_Int, if_pos, if_neg]
  · by_cases q : bo - wi ≤ a ∧ b ≤ bo + wi
    · simp (disch := omega) only [k0, k1, k2, decide_eq_true q, if_true, if_false, Option.bind_some, Option.map_some, ii_lit, ll_lit, ii_neg, ll_neg, ii_add, ii_sub, ii_mul, ll_add, ll_sub, ll_mul, ii_le, ii_lt, ii_eq, ii_t, bi_0, bi_1, rd_z, wr_z, rr_z, rl_z, wl_z, tn_n, st_s, st_j, st_i, st_c, st_2, sl_s, sl_j, sl_i, sl_c, sl_1, Int.natCast_add, Int.cast_ofNat_Int, if_pos, if_neg]
    · by_cases q2 : a < bo - wi
      · simp (disch := omega) only [k0, k1, k2, decide_eq_false q, if_true, if_false, Option.bind_some, Option.map_some, ii_lit, ll_lit, ii_neg, ll_neg, ii_add, ii_sub, ii_mul, ll_add, ll_sub, ll_mul, ii_le, ii_lt, ii_eq, ii_t, bi_0, bi_1, rd_z, wr_z, rr_z, rl_z, wl_z, tn_n, st_s, st_j, st_i, st_c, st_2, sl_s, sl_j, sl_i, sl_c, sl_1, Int.natCast_add, Int.cast_ofNat_Int, if_pos, if_neg]
      · simp (disch := omega) only [k0, k1, k2, decide_eq_false q, if_true, if_false, Option.bind_some, Option.map_some, ii_lit, ll_lit, ii_neg, ll_neg, ii_add, ii_sub, ii_mul, ll_add, ll_sub, ll_mul, ii_le, ii_lt, ii_eq, ii_t, bi_0, bi_1, rd_z, wr_z, rr_z, rl_z, wl_z, tn_n, st_s, st_j, st_i, st_c, st_2, sl_s, sl_j, sl_i, sl_c, sl_1, Int.natCast_add, Int.cast_ofNat_Int, if_pos, if_neg]
  · have hb3 : hb 3 wi (a - bo) = decide ((a - bo) % wi = 0) := by simp [hb]
    rw [hb3] at al2
    by_cases q1 : wi = 1
    · simp (disch := omega) only [k0, k1, k2, decide_eq_true (show wi = 1 ∨ a = b ∧ (a - bo) % wi = 0 from Or.inl q1), if_true, if_false, Option.bind_some, Option.map_some, ii_lit, ll_lit, ii_neg, ll_neg, ii_add, ii_sub, ii_mul, ll_add, ll_sub, ll_mul, ii_le, ii_lt, ii_eq, ii_t, bi_0, bi_1, rd_z, wr_z, rr_z, rl_z, wl_z, tn_n, st_s, st_j, st_i, st_c, st_2, sl_s, sl_j, sl_i, sl_c, sl_1, Int.natCast_add, Int.cast_ofNat_Int, if_pos, if_neg]
    · by_cases q2 : a = b
      · by_cases q3 : (a - bo) % wi = 0
        · simp (disch := omega) only [k0, k1, k2, al2, decide_eq_true q3, decide_eq_true (show wi = 1 ∨ a = b ∧ (a - bo) % wi = 0 from Or.inr ⟨q2, q3⟩), reduceCtorEq, if_true, if_false, Option.bind_some, Option.map_some, ii_lit, ll_lit, ii_neg, ll_neg, ii_add, ii_sub, ii_mul, ll_add, ll_sub, ll_mul, ii_le, ii_lt, ii_eq, ii_t, bi_0, bi_1, rd_z, wr_z, rr_z, rl_z, wl_z, tn_n, st_s, st_j, st_i, st_c, st_2, sl_s, sl_j, sl_i, sl_c, sl_1, Int.natCast_add, Int.cast_ofNat_Int, if_pos, if_neg]
        · simp (disch := omega) only [k0, k1, k2, al2, decide_eq_false q3, decide_eq_false (show ¬ (wi = 1 ∨ a = b ∧ (a - bo) % wi = 0) from fun e => e.elim q1 (fun e => q3 e.2)), reduceCtorEq, if_true, if_false, Option.bind_some, Option.map_some, ii_lit, ll_lit, ii_neg, ll_neg, ii_add, ii_sub, ii_mul, ll_add, ll_sub, ll_mul, ii_le, ii_lt, ii_eq, ii_t, bi_0, bi_1, rd_z, wr_z, rr_z, rl_z, wl_z, tn_n, st_s, st_j, st_i, st_c, st_2, sl_s, sl_j, sl_i, sl_c, sl_1, Int.natCast_add, Int.cast_ofNat_Int, if_pos, if_neg]
      · simp (disch := omega) only [k0, k1, k2, decide_eq_false (show ¬ (wi = 1 ∨ a = b ∧ (a - bo) % wi = 0) from fun e => e.elim q1 (fun e => q2 e.1)), if_true, if_false, Option.bind_some, Option.map_some, ii_lit, ll_lit, ii_neg, ll_neg, ii_add, ii_sub, ii_mul, ll_add, ll_sub, ll_mul, ii_le, ii_lt, ii_eq, ii_t, bi_0, bi_1, rd_z, wr_z, rr_z, rl_z, wl_z, tn_n, st_s, st_j, st_i, st_c, st_2, sl_s, sl_j, sl_i, sl_c, sl_1, Int.natCast_add, Int.cast_ofNat_Int, if_pos, if_neg]
  · by_cases q : b < bo - wi ∨ bo + wi < a
    · by_cases q2 : b < bo - wi
      · simp (disch := omega) only [k0, k1, k2, decide_eq_true q, if_true, if_false, Option.bind_some, Option.map_some, ii_lit, ll_lit, ii_neg, ll_neg, ii_add, ii_sub, ii_mul, ll_add, ll_sub, ll_mul, ii_le, ii_lt, ii_eq, ii_t, bi_0, bi_1, rd_z, wr_z, rr_z, rl_z, wl_z, tn_n, st_s, st_j, st_i, st_c, st_2, sl_s, sl_j, sl_i, sl_c, sl_1, Int.natCast_add, Int.cast_ofNat_Int, if_pos, if_neg]
      · simp (disch := omega) only [k0, k1, k2, decide_eq_true q, if_true, if_false, Option.bind_some, Option.map_some, ii_lit, ll_lit, ii_neg, ll_neg, ii_add, ii_sub, ii_mul, ll_add, ll_sub, ll_mul, ii_le, ii_lt, ii_eq, ii_t, bi_0, bi_1, rd_z, wr_z, rr_z, rl_z, wl_z, tn_n, st_s, st_j, st_i, st_c, st_2, sl_s, sl_j, sl_i, sl_c, sl_1, Int.natCast_add, Int.cast_ofNat_Int, if_pos, if_neg]
    · simp (disch := omega) only [k0, k1, k2, decide_eq_false q, if_true, if_false, Option.bind_some, Option.map_some, ii_lit, ll_lit, ii_neg, ll_neg, ii_add, ii_sub, ii_mul, ll_add, ll_sub, ll_mul, ii_le, ii_lt, ii_eq, ii_t, bi_0, bi_1, rd_z, wr_z, rr_z, rl_z, wl_z, tn_n, st_s, st_j, st_i, st_c, st_2, sl_s, sl_j, sl_i, sl_c, sl_1, Int.natCast_add, Int.cast_ofNat_Int, if_pos, if_neg]
  · by_cases q : bo ≤ a
    · simp (disch := omega) only [k0, k1, k2, decide_eq_true q, if_true, if_false, Option.bind_some, Option.map_some, ii_lit, ll_lit, ii_neg, ll_neg, ii_add, ii_sub, ii_mul, ll_add, ll_sub, ll_mul, ii_le, ii_lt, ii_eq, ii_t, bi_0, bi_1, rd_z, wr_z, rr_z, rl_z, wl_z, tn_n, st_s, st_j, st_i, st_c, st_2, sl_s, sl_j, sl_i, sl_c, sl_1, Int.natCast_add, Int.cast_ofNat_Int, if_pos, if_neg]
    · simp (disch := omega) only [k0, k1, k2, decide_eq_false q, if_true, if_false, Option.bind_some, Option.map_some, ii_lit, ll_lit, ii_neg, ll_neg, ii_add, ii_sub, ii_mul, ll_add, ll_sub, ll_mul, ii_le, ii_lt, ii_eq, ii_t, bi_0, bi_1, rd_z, wr_z, rr_z, rl_z, wl_z, tn_n, st_s, st_j, st_i, st_c, st_2, sl_s, sl_j, sl_i, sl_c, sl_1, Int.natCast_add, Int.cast_ofNat_Int, if_pos, if_neg]
theorem M_anyOf {τ : mm} {A : bdy} (hM : isM τ A) (hA : okb A) {r : Nat} (hr : r < A.R) {a b : Int} (h5 : -324 ≤ a ∧ a ≤ 324) (h6 : -324 ≤ b ∧ b ≤ 324) (hab : a ≤ b) : fX8_anyOf (ii r) (ii a) (ii b) τ = some (decide (a + (A.rw r 1 - a) % A.rw r 2 ≤ b)) := by
  obtain ⟨⟨r1, r2⟩, ⟨r3, r4⟩, ⟨r5, r6⟩, -⟩ := hA.2.2.2.1 r hr
  have hat := fun (y : Int) (h0 : 0 ≤ y) (h1 : y < 7) => M_at hM hr h0 h1
  have hat1 := hat 1 (by decide) (by decide)
  have hat2 := hat 2 (by decide) (by decide)
  simp only [Int.toNat_one, show (2 : Int).toNat = 2 from rfl] at hat1 hat2
  clear hat
  generalize A.rw r 1 = bo at *
  generalize A.rw r 2 = wi at *
  obtain ⟨m, hm⟩ : ∃ m, m = (bo - a) % wi := ⟨_, rfl⟩
  have m1 := Int.emod_nonneg (bo - a) (show wi ≠ 0 by omega)
  have m2 := Int.emod_lt_of_pos (bo - a) (show 0 < wi by omega)
  rw [← hm] at m1 m2 ⊢
  have key : ∃ x, lp (fX8_anyOf_6_L (ii r) (ii b) τ) (ii 0, ii a) = some x ∧ x = decide (a + m ≤ b) := by
    refine lp_j (fun k z => z.2 = ii (a + k) ∧ ((z.1 = ii 1 ∧ m < k) ∨ (z.1 = ii 0 ∧ (k : Int) ≤ m))) _ (b - a + 1).toNat ⟨by simp, Or.inr ⟨rfl, by omega⟩⟩ ?_ ?_
    · rintro k ⟨x, y⟩ hk ⟨y1, y2⟩
      have y1 : y = ii (a + k) := y1
      subst y1
      rcases y2 with ⟨y2, y3⟩ | ⟨y2, y3⟩
      · have y2 : x = ii 1 := y2
        subst y2
        refine ⟨(ii 1, ii (a + ((k + 1 : Nat)))), ?_, rfl, Or.inl ⟨rfl, by omega⟩⟩
        simp (disch := omega) only [fX8_anyOf_6_L, fX8_anyOf_6, fX8_anyOf_36, fX8_anyOf_41, Int.add_assoc, if_true, if_false, Option.bind_some, Option.map_some, ii_lit, ll_lit, ii_neg, ll_neg, ii_add, ii_sub, ii_mul, ll_add, ll_sub, ll_mul, ii_le, ii_lt, ii_eq, ii_t, bi_0, bi_1, rd_z, wr_z, rr_z, rl_z, wl_z, tn_n, st_s, st_j, st_i, st_c, st_2, sl_s, sl_j, sl_i, sl_c, sl_1, Int.natCast_add, Int.cast_ofNat_Int, if_pos, if_neg, decide_eq_false_iff_not, decide_eq_true_eq, in_ll, ii_long, Nat.zero_add, Nat.mul_zero, reduceCtorEq]
      · have y2 : x = ii 0 := y2
        subst y2
        have t1 := Int.tmod_lt_of_pos (a + k - bo) (show 0 < wi by omega)
        have t2 := Int.lt_tmod_of_pos (a + k - bo) (show 0 < wi by omega)
        have tz : (a + k - bo).tmod wi = 0 ↔ (k : Int) = m := by
          have e1 : (a + k - bo).tmod wi = 0 ↔ (a + k - bo) % wi = 0 := Iff.of_eq tm_0
          have e2 : (k : Int) % wi = (bo - a) % wi ↔ ((k : Int) - (bo - a)) % wi = 0 := Int.emod_eq_emod_iff_emod_sub_eq_zero
          rw [show (k : Int) - (bo - a) = a + k - bo by omega, Int.emod_eq_of_lt (by omega) (by omega), ← hm] at e2
          exact e1.trans e2.symm
        by_cases q : (k : Int) = m
        · have q' := tz.mpr q
          refine ⟨(ii 1, ii (a + ((k + 1 : Nat)))), ?_, rfl, Or.inl ⟨rfl, by omega⟩⟩
          simp (disch := omega) only [fX8_anyOf_6_L, fX8_anyOf_6, fX8_anyOf_36, fX8_anyOf_41, hat1, hat2, rm_ii, q', Int.add_assoc, if_true, if_false, Option.bind_some, Option.map_some, ii_lit, ll_lit, ii_neg, ll_neg, ii_add, ii_sub, ii_mul, ll_add, ll_sub, ll_mul, ii_le, ii_lt, ii_eq, ii_t, bi_0, bi_1, rd_z, wr_z, rr_z, rl_z, wl_z, tn_n, st_s, st_j, st_i, st_c, st_2, sl_s, sl_j, sl_i, sl_c, sl_1, Int.natCast_add, Int.cast_ofNat_Int, if_pos, if_neg, decide_eq_false_iff_not, decide_eq_true_eq, in_ll, ii_long, Nat.zero_add, Nat.mul_zero, reduceCtorEq]
        · have q' : ¬ (a + k - bo).tmod wi = 0 := fun e => q (tz.mp e)
          refine ⟨(ii 0, ii (a + ((k + 1 : Nat)))), ?_, rfl, Or.inr ⟨rfl, by omega⟩⟩
          simp (disch := omega) only [fX8_anyOf_6_L, fX8_anyOf_6, fX8_anyOf_36, fX8_anyOf_41, hat1, hat2, rm_ii, if_true, if_false, Option.bind_some, Option.map_some, ii_lit, ll_lit, ii_neg, ll_neg, ii_add, ii_sub, ii_mul, ll_add, ll_sub, ll_mul, ii_le, ii_lt, ii_eq, ii_t, bi_0, bi_1, rd_z, wr_z, rr_z, rl_z, wl_z, tn_n, st_s, st_j, st_i, st_c, st_2, sl_s, sl_j, sl_i, sl_c, sl_1, Int.natCast_add, Int.cast_ofNat_Int, if_pos, if_neg, decide_eq_false_iff_not, decide_eq_true_eq, in_ll, ii_long, Nat.zero_add, Nat.mul_zero, reduceCtorEq]
          rw [Int.add_assoc]
    · rintro ⟨x, y⟩ ⟨y1, y2⟩
      have y1 : y = ii (a + (b - a + 1).toNat) := y1
      subst y1
      rcases y2 with ⟨y2, y3⟩ | ⟨y2, y3⟩
      · have y2 : x = ii 1 := y2
        subst y2
        refine ⟨true, ?_, (decide_eq_true (by omega)).symm⟩
        simp (disch := omega) only [fX8_anyOf_6_L, fX8_anyOf_6, zr, if_true, if_false, Option.bind_some, Option.map_some, ii_lit, ll_lit, ii_neg, ll_neg, ii_add, ii_sub, ii_mul, ll_add, ll_sub, ll_mul, ii_le, ii_lt, ii_eq, ii_t, bi_0, bi_1, rd_z, wr_z, rr_z, rl_z, wl_z, tn_n, st_s, st_j, st_i, st_c, st_2, sl_s, sl_j, sl_i, sl_c, sl_1, Int.natCast_add, Int.cast_ofNat_Int, if_pos, if_neg, decide_eq_false_iff_not, decide_eq_true_eq, in_ll, ii_long, Nat.zero_add, Nat.mul_zero, reduceCtorEq]
      · have y2 : x = ii 0 := y2
        subst y2
        refine ⟨false, ?_, (decide_eq_false (by omega)).symm⟩
        simp (disch := omega) only [fX8_anyOf_6_L, fX8_anyOf_6, zr, if_true, if_false, Option.bind_some, Option.map_some, ii_lit, ll_lit, ii_neg, ll_neg, ii_add, ii_sub, ii_mul, ll_add, ll_sub, ll_mul, ii_le, ii_lt, ii_eq, ii_t, bi_0, bi_1, rd_z, wr_z, rr_z, rl_z, wl_z, tn_n, st_s, st_j, st_i, st_c, st_2, sl_s, sl_j, sl_i, sl_c, sl_1, Int.natCast_add, Int.cast_ofNat_Int, if_pos, if_neg, decide_eq_false_iff_not, decide_eq_true_eq, in_ll, ii_long, Nat.zero_add, Nat.mul_zero, reduceCtorEq]
  obtain ⟨x, e, rfl⟩ := key
  unfold fX8_anyOf fX8_anyOf_0
  exact e
theorem M_mayHold {τ : mm} {A : bdy} (hM : isM τ A) (hA : okb A) {r : Nat} (hr : r < A.R) {a b : Int} (h5 : -324 ≤ a ∧ a ≤ 324) (h6 : -324 ≤ b ∧ b ≤ 324) (hab : a ≤ b) : fX8_mayHold (ii r) (ii a) (ii b) τ = some (!ddk (A.rw r 0) (A.rw r 1) (A.rw r 2) a b) := by
  have an := M_anyOf hM hA hr h5 h6 hab
  obtain ⟨⟨r1, r2⟩, ⟨r3, r4⟩, ⟨r5, r6⟩, -⟩ := hA.2.2.2.1 r hr
  have hat := fun (y : Int) (h0 : 0 ≤ y) (h1 : y < 7) => M_at hM hr h0 h1
  have hat0 := hat 0 (by decide) (by decide)
  have hat1 := hat 1 (by decide) (by decide)
  have hat2 := hat 2 (by decide) (by decide)
  simp only [Int.toNat_zero, Int.toNat_one, show (2 : Int).toNat = 2 from rfl] at hat0 hat1 hat2
  clear hat
  generalize A.rw r 0 = kd at *
  generalize A.rw r 1 = bo at *
  generalize A.rw r 2 = wi at *
  have m1 := Int.emod_nonneg (bo - a) (show wi ≠ 0 by omega)
  have m2 := Int.emod_lt_of_pos (bo - a) (show 0 < wi by omega)
  unfold fX8_mayHold fX8_mayHold_0 fX8_mayHold_111 fX8_mayHold_135 ddk
  simp only [ii_lit, hat0, hat1, hat2, Option.bind_some]
  have : kd = 0 ∨ kd = 1 ∨ kd = 2 ∨ kd = 3 ∨ kd = 4 ∨ kd = 5 := by omega
  rcases this with rfl | rfl | rfl | rfl | rfl | rfl
  · by_cases q : bo < a
    · simp (disch := omega) only [decide_eq_true q, Bool.not_true, if_true, if_false, Option.bind_some, Option.map_some, ii_lit, ll_lit, ii_neg, ll_neg, ii_add, ii_sub, ii_mul, ll_add, ll_sub, ll_mul, ii_le, ii_lt, ii_eq, ii_t, bi_0, bi_1, rd_z, wr_z, rr_z, rl_z, wl_z, tn_n, st_s, st_j, st_i, st_c, st_2, sl_s, sl_j, sl_i, sl_c, sl_1, Int.natCast_add, Int.cast_ofNat_Int, if_pos, if_neg, decide_eq_false_iff_not, decide_eq_true_eq, in_ll, ii_long, Nat.zero_add, Nat.mul_zero, reduceCtorEq]
    · simp (disch := omega) only [decide_eq_false q, Bool.not_false, if_true, if_false, Option.bind_some, Option.map_some, ii_lit, ll_lit, ii_neg, ll_neg, ii_add, ii_sub, ii_mul, ll_add, ll_sub, ll_mul, ii_le, ii_lt, ii_eq, ii_t, bi_0, bi_1, rd_z, wr_z, rr_z, rl_z, wl_z, tn_n, st_s, st_j, st_i, st_c, st_2, sl_s, sl_j, sl_i, sl_c, sl_1, Int.natCast_add, Int.cast_ofNat_Int, if_pos, if_neg, decide_eq_false_iff_not, decide_eq_true_eq, in_ll, ii_long, Nat.zero_add, Nat.mul_zero, reduceCtorEq]
  · by_cases q : bo < a ∨ b < bo
    · simp (disch := omega) only [decide_eq_true q, Bool.not_true, decide_eq_false (show ¬ (a ≤ bo ∧ bo ≤ b) by omega), if_true, if_false, Option.bind_some, Option.map_some, ii_lit, ll_lit, ii_neg, ll_neg, ii_add, ii_sub, ii_mul, ll_add, ll_sub, ll_mul, ii_le, ii_lt, ii_eq, ii_t, bi_0, bi_1, rd_z, wr_z, rr_z, rl_z, wl_z, tn_n, st_s, st_j, st_i, st_c, st_2, sl_s, sl_j, sl_i, sl_c, sl_1, Int.natCast_add, Int.cast_ofNat_Int, if_pos, if_neg, decide_eq_false_iff_not, decide_eq_true_eq, in_ll, ii_long, Nat.zero_add, Nat.mul_zero, reduceCtorEq]
    · simp (disch := omega) only [decide_eq_false q, Bool.not_false, decide_eq_true (show a ≤ bo ∧ bo ≤ b by omega), if_true, if_false, Option.bind_some, Option.map_some, ii_lit, ll_lit, ii_neg, ll_neg, ii_add, ii_sub, ii_mul, ll_add, ll_sub, ll_mul, ii_le, ii_lt, ii_eq, ii_t, bi_0, bi_1, rd_z, wr_z, rr_z, rl_z, wl_z, tn_n, st_s, st_j, st_i, st_c, st_2, sl_s, sl_j, sl_i, sl_c, sl_1, Int.natCast_add, Int.cast_ofNat_Int, if_pos, if_neg, decide_eq_false_iff_not, decide_eq_true_eq, in_ll, ii_long, Nat.zero_add, Nat.mul_zero, reduceCtorEq]
  · by_cases q : bo + wi < a ∨ b < bo - wi
    · by_cases q2 : b < bo - wi
      · simp (disch := omega) only [decide_eq_true q, Bool.not_true, if_true, if_false, Option.bind_some, Option.map_some, ii_lit, ll_lit, ii_neg, ll_neg, ii_add, ii_sub, ii_mul, ll_add, ll_sub, ll_mul, ii_le, ii_lt, ii_eq, ii_t, bi_0, bi_1, rd_z, wr_z, rr_z, rl_z, wl_z, tn_n, st_s, st_j, st_i, st_c, st_2, sl_s, sl_j, sl_i, sl_c, sl_1, Int.natCast_add, Int.cast_ofNat_Int, if_pos, if_neg, decide_eq_false_iff_not, decide_eq_true_eq, in_ll, ii_long, Nat.zero_add, Nat.mul_zero, reduceCtorEq]
      · simp (disch := omega) only [decide_eq_true q, Bool.not_true, if_true, if_false, Option.bind_some, Option.map_some, ii_lit, ll_lit, ii_neg, ll_neg, ii_add, ii_sub, ii_mul, ll_add, ll_sub, ll_mul, ii_le, ii_lt, ii_eq, ii_t, bi_0, bi_1, rd_z, wr_z, rr_z, rl_z, wl_z, tn_n, st_s, st_j, st_i, st_c, st_2, sl_s, sl_j, sl_i, sl_c, sl_1, Int.natCast_add, Int.cast_ofNat_Int, if_pos, if_neg, decide_eq_false_iff_not, decide_eq_true_eq, in_ll, ii_long, Nat.zero_add, Nat.mul_zero, reduceCtorEq]
    · simp (disch := omega) only [decide_eq_false q, Bool.not_false, if_true, if_false, Option.bind_some, Option.map_some, ii_lit, ll_lit, ii_neg, ll_neg, ii_add, ii_sub, ii_mul, ll_add, ll_sub, ll_mul, ii_le, ii_lt, ii_eq, ii_t, bi_0, bi_1, rd_z, wr_z, rr_z, rl_z, wl_z, tn_n, st_s, st_j, st_i, st_c, st_2, sl_s, sl_j, sl_i, sl_c, sl_1, Int.natCast_add, Int.cast_ofNat_Int, if_pos, if_neg, decide_eq_false_iff_not, decide_eq_true_eq, in_ll, ii_long, Nat.zero_add, Nat.mul_zero, reduceCtorEq]
  · by_cases q0 : wi ≤ b - a + 1
    · have q : ¬ b < a + (bo - a) % wi := by omega
      simp (disch := omega) only [decide_eq_false q, Bool.not_false, if_true, if_false, Option.bind_some, Option.map_some, ii_lit, ll_lit, ii_neg, ll_neg, ii_add, ii_sub, ii_mul, ll_add, ll_sub, ll_mul, ii_le, ii_lt, ii_eq, ii_t, bi_0, bi_1, rd_z, wr_z, rr_z, rl_z, wl_z, tn_n, st_s, st_j, st_i, st_c, st_2, sl_s, sl_j, sl_i, sl_c, sl_1, Int.natCast_add, Int.cast_ofNat_Int, if_pos, if_neg, decide_eq_false_iff_not, decide_eq_true_eq, in_ll, ii_long, Nat.zero_add, Nat.mul_zero, reduceCtorEq]
    · by_cases q : b < a + (bo - a) % wi
      · simp (disch := omega) only [an, decide_eq_true q, Bool.not_true, decide_eq_false (show ¬ a + (bo - a) % wi ≤ b by omega), if_true, if_false, Option.bind_some, Option.map_some, ii_lit, ll_lit, ii_neg, ll_neg, ii_add, ii_sub, ii_mul, ll_add, ll_sub, ll_mul, ii_le, ii_lt, ii_eq, ii_t, bi_0, bi_1, rd_z, wr_z, rr_z, rl_z, wl_z, tn_n, st_s, st_j, st_i, st_c, st_2, sl_s, sl_j, sl_i, sl_c, sl_1, Int.natCast_add, Int.cast_ofNat_Int, if_pos, if_neg, decide_eq_false_iff_not, decide_eq_true_eq, in_ll, ii_long, Nat.zero_add, Nat.mul_zero, reduceCtorEq]
      · simp (disch := omega) only [an, decide_eq_false q, Bool.not_false, decide_eq_true (show a + (bo - a) % wi ≤ b by omega), if_true, if_false, Option.bind_some, Option.map_some, ii_lit, ll_lit, ii_neg, ll_neg, ii_add, ii_sub, ii_mul, ll_add, ll_sub, ll_mul, ii_le, ii_lt, ii_eq, ii_t, bi_0, bi_1, rd_z, wr_z, rr_z, rl_z, wl_z, tn_n, st_s, st_j, st_i, st_c, st_2, sl_s, sl_j, sl_i, sl_c, sl_1, Int.natCast_add, Int.cast_ofNat_Int, if_pos, if_neg, decide_eq_false_iff_not, decide_eq_true_eq, in_ll, ii_long, Nat.zero_add, Nat.mul_zero, reduceCtorEq]
  · by_cases q : bo - wi ≤ a ∧ b ≤ bo + wi
    · simp (disch := omega) only [decide_eq_true q, Bool.not_true, if_true, if_false, Option.bind_some, Option.map_some, ii_lit, ll_lit, ii_neg, ll_neg, ii_add, ii_sub, ii_mul, ll_add, ll_sub, ll_mul, ii_le, ii_lt, ii_eq, ii_t, bi_0, bi_1, rd_z, wr_z, rr_z, rl_z, wl_z, tn_n, st_s, st_j, st_i, st_c, st_2, sl_s, sl_j, sl_i, sl_c, sl_1, Int.natCast_add, Int.cast_ofNat_Int, if_pos, if_neg, decide_eq_false_iff_not, decide_eq_true_eq, in_ll, ii_long, Nat.zero_add, Nat.mul_zero, reduceCtorEq]
    · by_cases q2 : a < bo - wi
      · simp (disch := omega) only [decide_eq_false q, Bool.not_false, if_true, if_false, Option.bind_some, Option.map_some, ii_lit, ll_lit, ii_neg, ll_neg, ii_add, ii_sub, ii_mul, ll_add, ll_sub, ll_mul, ii_le, ii_lt, ii_eq, ii_t, bi_0, bi_1, rd_z, wr_z, rr_z, rl_z, wl_z, tn_n, st_s, st_j, st_i, st_c, st_2, sl_s, sl_j, sl_i, sl_c, sl_1, Int.natCast_add, Int.cast_ofNat_Int, if_pos, if_neg, decide_eq_false_iff_not, decide_eq_true_eq, in_ll, ii_long, Nat.zero_add, Nat.mul_zero, reduceCtorEq]
      · simp (disch := omega) only [decide_eq_false q, Bool.not_false, if_true, if_false, Option.bind_some, Option.map_some, ii_lit, ll_lit, ii_neg, ll_neg, ii_add, ii_sub, ii_mul, ll_add, ll_sub, ll_mul, ii_le, ii_lt, ii_eq, ii_t, bi_0, bi_1, rd_z, wr_z, rr_z, rl_z, wl_z, tn_n, st_s, st_j, st_i, st_c, st_2, sl_s, sl_j, sl_i, sl_c, sl_1, Int.natCast_add, Int.cast_ofNat_Int, if_pos, if_neg, decide_eq_false_iff_not, decide_eq_true_eq, in_ll, ii_long, Nat.zero_add, Nat.mul_zero, reduceCtorEq]
  · by_cases q : b < bo
    · simp (disch := omega) only [decide_eq_true q, Bool.not_true, if_true, if_false, Option.bind_some, Option.map_some, ii_lit, ll_lit, ii_neg, ll_neg, ii_add, ii_sub, ii_mul, ll_add, ll_sub, ll_mul, ii_le, ii_lt, ii_eq, ii_t, bi_0, bi_1, rd_z, wr_z, rr_z, rl_z, wl_z, tn_n, st_s, st_j, st_i, st_c, st_2, sl_s, sl_j, sl_i, sl_c, sl_1, Int.natCast_add, Int.cast_ofNat_Int, if_pos, if_neg, decide_eq_false_iff_not, decide_eq_true_eq, in_ll, ii_long, Nat.zero_add, Nat.mul_zero, reduceCtorEq]
    · simp (disch := omega) only [decide_eq_false q, Bool.not_false, if_true, if_false, Option.bind_some, Option.map_some, ii_lit, ll_lit, ii_neg, ll_neg, ii_add, ii_sub, ii_mul, ll_add, ll_sub, ll_mul, ii_le, ii_lt, ii_eq, ii_t, bi_0, bi_1, rd_z, wr_z, rr_z, rl_z, wl_z, tn_n, st_s, st_j, st_i, st_c, st_2, sl_s, sl_j, sl_i, sl_c, sl_1, Int.natCast_add, Int.cast_ofNat_Int, if_pos, if_neg, decide_eq_false_iff_not, decide_eq_true_eq, in_ll, ii_long, Nat.zero_add, Nat.mul_zero, reduceCtorEq]
theorem M_mustHold {τ : mm} {A : bdy} (hM : isM τ A) (hA : okb A) {r : Nat} (hr : r < A.R) {a b : Int} (h5 : -324 ≤ a ∧ a ≤ 324) (h6 : -324 ≤ b ∧ b ≤ 324) : fX8_mustHold (ii r) (ii a) (ii b) τ = some (whk (A.rw r 0) (A.rw r 1) (A.rw r 2) a b) := by
  obtain ⟨⟨r1, r2⟩, ⟨r3, r4⟩, ⟨r5, r6⟩, -⟩ := hA.2.2.2.1 r hr
  have hat := fun (y : Int) (h0 : 0 ≤ y) (h1 : y < 7) => M_at hM hr h0 h1
  have hat0 := hat 0 (by decide) (by decide)
  have hat1 := hat 1 (by decide) (by decide)
  have hat2 := hat 2 (by decide) (by decide)
  simp only [Int.toNat_zero, Int.toNat_one, show (2 : Int).toNat = 2 from rfl] at hat0 hat1 hat2
  clear hat
  generalize A.rw r 0 = kd at *
  generalize A.rw r 1 = bo at *
  generalize A.rw r 2 = wi at *
  have t1 := Int.tmod_lt_of_pos (a - bo) (show 0 < wi by omega)
  have t2 := Int.lt_tmod_of_pos (a - bo) (show 0 < wi by omega)
  unfold fX8_mustHold fX8_mustHold_0 fX8_mustHold_119 fX8_mustHold_143 whk
  simp only [ii_lit, hat0, hat1, hat2, Option.bind_some]
  have : kd = 0 ∨ kd = 1 ∨ kd = 2 ∨ kd = 3 ∨ kd = 4 ∨ kd = 5 := by omega
  rcases this with rfl | rfl | rfl | rfl | rfl | rfl
  · by_cases q : b ≤ bo
    · simp (disch := omega) only [decide_eq_true q, if_true, if_false, Option.bind_some, Option.map_some, ii_lit, ll_lit, ii_neg, ll_neg, ii_add, ii_sub, ii_mul, ll_add, ll_sub, ll_mul, ii_le, ii_lt, ii_eq, ii_t, bi_0, bi_1, rd_z, wr_z, rr_z, rl_z, wl_z, tn_n, st_s, st_j, st_i, st_c, st_2, sl_s, sl_j, sl_i, sl_c, sl_1, Int.natCast_add, Int.cast_ofNat_Int, if_pos, if_neg, decide_eq_false_iff_not, decide_eq_true_eq, in_ll, ii_long, Nat.zero_add, Nat.mul_zero, reduceCtorEq]
    · simp (disch := omega) only [decide_eq_false q, if_true, if_false, Option.bind_some, Option.map_some, ii_lit, ll_lit, ii_neg, ll_neg, ii_add, ii_sub, ii_mul, ll_add, ll_sub, ll_mul, ii_le, ii_lt, ii_eq, ii_t, bi_0, bi_1, rd_z, wr_z, rr_z, rl_z, wl_z, tn_n, st_s, st_j, st_i, st_c, st_2, sl_s, sl_j, sl_i, sl_c, sl_1, Int.natCast_add, Int.cast_ofNat_Int, if_pos, if_neg, decide_eq_false_iff_not, decide_eq_true_eq, in_ll, ii_long, Nat.zero_add, Nat.mul_zero, reduceCtorEq]
  · by_cases q : a = bo ∧ b = bo
    · simp (disch := omega) only [decide_eq_true q, if_true, if_false, Option.bind_some, Option.map_some, ii_lit, ll_lit, ii_neg, ll_neg, ii_add, ii_sub, ii_mul, ll_add, ll_sub, ll_mul, ii_le, ii_lt, ii_eq, ii_t, bi_0, bi_1, rd_z, wr_z, rr_z, rl_z, wl_z, tn_n, st_s, st_j, st_i, st_c, st_2, sl_s, sl_j, sl_i, sl_c, sl_1, Int.natCast_add, Int.cast_ofNat_Int, if_pos, if_neg, decide_eq_false_iff_not, decide_eq_true_eq, in_ll, ii_long, Nat.zero_add, Nat.mul_zero, reduceCtorEq]
    · by_cases q2 : a = bo
      · simp (disch := omega) only [decide_eq_false q, if_true, if_false, Option.bind_some, Option.map_some, ii_lit, ll_lit, ii_neg, ll_neg, ii_add, ii_sub, ii_mul, ll_add, ll_sub, ll_mul, ii_le, ii_lt, ii_eq, ii_t, bi_0, bi_1, rd_z, wr_z, rr_z, rl_z, wl_z, tn_n, st_s, st_j, st_i, st_c, st_2, sl_s, sl_j, sl_i, sl_c, sl_1, Int.natCast_add, Int.cast_ofNat_Int, if_pos, if_neg, decide_eq_false_iff_not, decide_eq_true_eq, in_ll, ii_long, Nat.zero_add, Nat.mul_zero, reduceCtorEq]
      · simp (disch := omega) only [decide_eq_false q, if_true, if_false, Option.bind_some, Option.map_some, ii_lit, ll_lit, ii_neg, ll_neg, ii_add, ii_sub, ii_mul, ll_add, ll_sub, ll_mul, ii_le, ii_lt, ii_eq, ii_t, bi_0, bi_1, rd_z, wr_z, rr_z, rl_z, wl_z, tn_n, st_s, st_j, st_i, st_c, st_2, sl_s, sl_j, sl_i, sl_c, sl_1, Int.natCast_add, Int.cast_ofNat_Int, if_pos, if_neg, decide_eq_false_iff_not, decide_eq_true_eq, in_ll, ii_long, Nat.zero_add, Nat.mul_zero, reduceCtorEq]
  · by_cases q : bo - wi ≤ a ∧ b ≤ bo + wi
    · simp (disch := omega) only [decide_eq_true q, if_true, if_false, Option.bind_some, Option.map_some, ii_lit, ll_lit, ii_neg, ll_neg, ii_add, ii_sub, ii_mul, ll_add, ll_sub, ll_mul, ii_le, ii_lt, ii_eq, ii_t, bi_0, bi_1, rd_z, wr_z, rr_z, rl_z, wl_z, tn_n, st_s, st_j, st_i, st_c, st_2, sl_s, sl_j, sl_i, sl_c, sl_1, Int.natCast_add, Int.cast_ofNat_Int, if_pos, if_neg, decide_eq_false_iff_not, decide_eq_true_eq, in_ll, ii_long, Nat.zero_add, Nat.mul_zero, reduceCtorEq]
    · by_cases q2 : a < bo - wi
      · simp (disch := omega) only [decide_eq_false q, if_true, if_false, Option.bind_some, Option.map_some, ii_lit, ll_lit, ii_neg, ll_neg, ii_add, ii_sub, ii_mul, ll_add, ll_sub, ll_mul, ii_le, ii_lt, ii_eq, ii_t, bi_0, bi_1, rd_z, wr_z, rr_z, rl_z, wl_z, tn_n, st_s, st_j, st_i, st_c, st_2, sl_s, sl_j, sl_i, sl_c, sl_1, Int.natCast_add, Int.cast_ofNat_Int, if_pos, if_neg, decide_eq_false_iff_not, decide_eq_true_eq, in_ll, ii_long, Nat.zero_add, Nat.mul_zero, reduceCtorEq]
      · simp (disch := omega) only [decide_eq_false q, if_true, if_false, Option.bind_some, Option.map_some, ii_lit, ll_lit, ii_neg, ll_neg, ii_add, ii_sub, ii_mul, ll_add, ll_sub, ll_mul, ii_le, ii_lt, ii_eq, ii_t, bi_0, bi_1, rd_z, wr_z, rr_z, rl_z, wl_z, tn_n, st_s, st_j, st_i, st_c, st_2, sl_s, sl_j, sl_i, sl_c, sl_1, Int.natCast_add, Int.cast_ofNat_Int, if_pos, if_neg, decide_eq_false_iff_not, decide_eq_true_eq, in_ll, ii_long, Nat.zero_add, Nat.mul_zero, reduceCtorEq]
  · by_cases q1 : wi = 1
    · simp (disch := omega) only [decide_eq_true (show wi = 1 ∨ a = b ∧ (a - bo) % wi = 0 from Or.inl q1), if_true, if_false, Option.bind_some, Option.map_some, ii_lit, ll_lit, ii_neg, ll_neg, ii_add, ii_sub, ii_mul, ll_add, ll_sub, ll_mul, ii_le, ii_lt, ii_eq, ii_t, bi_0, bi_1, rd_z, wr_z, rr_z, rl_z, wl_z, tn_n, st_s, st_j, st_i, st_c, st_2, sl_s, sl_j, sl_i, sl_c, sl_1, Int.natCast_add, Int.cast_ofNat_Int, if_pos, if_neg, decide_eq_false_iff_not, decide_eq_true_eq, in_ll, ii_long, Nat.zero_add, Nat.mul_zero, reduceCtorEq]
    · by_cases q2 : a = b
      · by_cases q3 : (a - bo) % wi = 0
        · have q4 : (a - bo).tmod wi = 0 := tm_0 ▸ q3
          simp (disch := omega) only [rm_ii, q4, decide_eq_true (show wi = 1 ∨ a = b ∧ (a - bo) % wi = 0 from Or.inr ⟨q2, q3⟩), if_true, if_false, Option.bind_some, Option.map_some, ii_lit, ll_lit, ii_neg, ll_neg, ii_add, ii_sub, ii_mul, ll_add, ll_sub, ll_mul, ii_le, ii_lt, ii_eq, ii_t, bi_0, bi_1, rd_z, wr_z, rr_z, rl_z, wl_z, tn_n, st_s, st_j, st_i, st_c, st_2, sl_s, sl_j, sl_i, sl_c, sl_1, Int.natCast_add, Int.cast_ofNat_Int, if_pos, if_neg, decide_eq_false_iff_not, decide_eq_true_eq, in_ll, ii_long, Nat.zero_add, Nat.mul_zero, reduceCtorEq]
        · have q4 : ¬ (a - bo).tmod wi = 0 := fun e => q3 (tm_0 ▸ e)
          simp (disch := omega) only [rm_ii, decide_eq_false (show ¬ (wi = 1 ∨ a = b ∧ (a - bo) % wi = 0) from fun e => e.elim q1 (fun e => q3 e.2)), if_true, if_false, Option.bind_some, Option.map_some, ii_lit, ll_lit, ii_neg, ll_neg, ii_add, ii_sub, ii_mul, ll_add, ll_sub, ll_mul, ii_le, ii_lt, ii_eq, ii_t, bi_0, bi_1, rd_z, wr_z, rr_z, rl_z, wl_z, tn_n, st_s, st_j, st_i, st_c, st_2, sl_s, sl_j, sl_i, sl_c, sl_1, Int.natCast_add, Int.cast_ofNat_Int, if_pos, if_neg, decide_eq_false_iff_not, decide_eq_true_eq, in_ll, ii_long, Nat.zero_add, Nat.mul_zero, reduceCtorEq]
      · simp (disch := omega) only [decide_eq_false (show ¬ (wi = 1 ∨ a = b ∧ (a - bo) % wi = 0) from fun e => e.elim q1 (fun e => q2 e.1)), if_true, if_false, Option.bind_some, Option.map_some, ii_lit, ll_lit, ii_neg, ll_neg, ii_add, ii_sub, ii_mul, ll_add, ll_sub, ll_mul, ii_le, ii_lt, ii_eq, ii_t, bi_0, bi_1, rd_z, wr_z, rr_z, rl_z, wl_z, tn_n, st_s, st_j, st_i, st_c, st_2, sl_s, sl_j, sl_i, sl_c, sl_1, Int.natCast_add, Int.cast_ofNat_Int, if_pos, if_neg, decide_eq_false_iff_not, decide_eq_true_eq, in_ll, ii_long, Nat.zero_add, Nat.mul_zero, reduceCtorEq]
  · by_cases q : b < bo - wi ∨ bo + wi < a
    · by_cases q2 : b < bo - wi
      · simp (disch := omega) only [decide_eq_true q, if_true, if_false, Option.bind_some, Option.map_some, ii_lit, ll_lit, ii_neg, ll_neg, ii_add, ii_sub, ii_mul, ll_add, ll_sub, ll_mul, ii_le, ii_lt, ii_eq, ii_t, bi_0, bi_1, rd_z, wr_z, rr_z, rl_z, wl_z, tn_n, st_s, st_j, st_i, st_c, st_2, sl_s, sl_j, sl_i, sl_c, sl_1, Int.natCast_add, Int.cast_ofNat_Int, if_pos, if_neg, decide_eq_false_iff_not, decide_eq_true_eq, in_ll, ii_long, Nat.zero_add, Nat.mul_zero, reduceCtorEq]
      · simp (disch := omega) only [decide_eq_true q, if_true, if_false, Option.bind_some, Option.map_some, ii_lit, ll_lit, ii_neg, ll_neg, ii_add, ii_sub, ii_mul, ll_add, ll_sub, ll_mul, ii_le, ii_lt, ii_eq, ii_t, bi_0, bi_1, rd_z, wr_z, rr_z, rl_z, wl_z, tn_n, st_s, st_j, st_i, st_c, st_2, sl_s, sl_j, sl_i, sl_c, sl_1, Int.natCast_add, Int.cast_ofNat_Int, if_pos, if_neg, decide_eq_false_iff_not, decide_eq_true_eq, in_ll, ii_long, Nat.zero_add, Nat.mul_zero, reduceCtorEq]
    · simp (disch := omega) only [decide_eq_false q, if_true, if_false, Option.bind_some, Option.map_some, ii_lit, ll_lit, ii_neg, ll_neg, ii_add, ii_sub, ii_mul, ll_add, ll_sub, ll_mul, ii_le, ii_lt, ii_eq, ii_t, bi_0, bi_1, rd_z, wr_z, rr_z, rl_z, wl_z, tn_n, st_s, st_j, st_i, st_c, st_2, sl_s, sl_j, sl_i, sl_c, sl_1, Int.natCast_add, Int.cast_ofNat_Int, if_pos, if_neg, decide_eq_false_iff_not, decide_eq_true_eq, in_ll, ii_long, Nat.zero_add, Nat.mul_zero, reduceCtorEq]
  · by_cases q : bo ≤ a
    · simp (disch := omega) only [decide_eq_true q, if_true, if_false, Option.bind_some, Option.map_some, ii_lit, ll_lit, ii_neg, ll_neg, ii_add, ii_sub, ii_mul, ll_add, ll_sub, ll_mul, ii_le, ii_lt, ii_eq, ii_t, bi_0, bi_1, rd_z, wr_z, rr_z, rl_z, wl_z, tn_n, st_s, st_j, st_i, st_c, st_2, sl_s, sl_j, sl_i, sl_c, sl_1, Int.natCast_add, Int.cast_ofNat_Int, if_pos, if_neg, decide_eq_false_iff_not, decide_eq_true_eq, in_ll, ii_long, Nat.zero_add, Nat.mul_zero, reduceCtorEq]
    · simp (disch := omega) only [decide_eq_false q, if_true, if_false, Option.bind_some, Option.map_some, ii_lit, ll_lit, ii_neg, ll_neg, ii_add, ii_sub, ii_mul, ll_add, ll_sub, ll_mul, ii_le, ii_lt, ii_eq, ii_t, bi_0, bi_1, rd_z, wr_z, rr_z, rl_z, wl_z, tn_n, st_s, st_j, st_i, st_c, st_2, sl_s, sl_j, sl_i, sl_c, sl_1, Int.natCast_add, Int.cast_ofNat_Int, if_pos, if_neg, decide_eq_false_iff_not, decide_eq_true_eq, in_ll, ii_long, Nat.zero_add, Nat.mul_zero, reduceCtorEq]
