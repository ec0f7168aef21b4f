-- of, change, as; LEAST and MOST of a row in a cell
theorem isC.z {σ : mm} {A : bdy} (h : isC σ 0 A) : (∀ r w, r < A.R → w < 3 → σ.1 4 r w = ii (A.rw r w)) ∧ (∀ r l, r < A.R → l < 4 → σ.1 10 r l = ii (A.rw r (3 + l))) ∧ (∀ v l, v < 4 → l < 4 → σ.1 11 v l = ii (A.ve v l)) := by
  obtain ⟨-, -, -, -, -, h5, h6, h7⟩ := h
  simp only [Nat.mul_zero, Nat.zero_add] at h5 h6 h7
  exact ⟨h5, h6, h7⟩
theorem C_least_8_9 {σ : mm} {b : Nat} {A : bdy} (hC : isC σ b A) {c : bx} (hx : ∀ l, l < A.n → σ.1 9 b l = ii (c.2 l)) (hy : ∀ l, l < A.n → σ.1 8 b l = ii (c.1 l)) {r : Nat} (hr : r < A.R) (hA : okb A) : fX4_leastIn_8_9 (8 * b + r) b b (ii A.n) σ = some (ii (lsc A c r)) := by
  obtain ⟨⟨hn4, hR8⟩, hn, hR, hlo, hhi, hk, hnu, -⟩ := hC
  have hrow := hA.2.2.2.1 r hr
  unfold fX4_leastIn_8_9 fX4_leastIn_8_9_0
  refine lp_f (fun k => (ii (smf (fun l => A.rw r (3 + l) * (if 0 < A.rw r (3 + l) then c.1 l else c.2 l)) k), ii k)) A.n rfl ?_ ?_
  · intro k hk
    have h3 := hrow.2.2.2 k (by omega)
    by_cases h : 0 < A.rw r (3 + k)
    · simp (disch := omega) only [fX4_leastIn_8_9_6_L, fX4_leastIn_8_9_6, fX4_leastIn_8_9_42, hnu, hx, hy, smf, if_true, if_false, Option.bind_some, Option.map_some, ii_lit, ll_lit, ii_neg, ll_neg, ii_add, ii_sub, ii_mul, ll_add, ll_sub, ll_mul, ii_le, ii_lt, ii_eq, ii_t, bi_0, bi_1, rd_z, wr_z, rr_z, rl_z, wl_z, tn_n, st_s, st_j, st_i, st_c, st_2, sl_s, sl_j, sl_i, sl_c, sl_1, Int.natCast_add, Int.cast_ofNat_Int, if_pos, if_neg]
    · simp (disch := omega) only [fX4_leastIn_8_9_6_L, fX4_leastIn_8_9_6, fX4_leastIn_8_9_42, hnu, hx, hy, smf, if_true, if_false, Option.bind_some, Option.map_some, ii_lit, ll_lit, ii_neg, ll_neg, ii_add, ii_sub, ii_mul, ll_add, ll_sub, ll_mul, ii_le, ii_lt, ii_eq, ii_t, bi_0, bi_1, rd_z, wr_z, rr_z, rl_z, wl_z, tn_n, st_s, st_j, st_i, st_c, st_2, sl_s, sl_j, sl_i, sl_c, sl_1, Int.natCast_add, Int.cast_ofNat_Int, if_pos, if_neg]
  · simp (disch := omega) only [fX4_leastIn_8_9_6_L, fX4_leastIn_8_9_6, lsc, if_true, if_false, Option.bind_some, Option.map_some, ii_lit, ll_lit, ii_neg, ll_neg, ii_add, ii_sub, ii_mul, ll_add, ll_sub, ll_mul, ii_le, ii_lt, ii_eq, ii_t, bi_0, bi_1, rd_z, wr_z, rr_z, rl_z, wl_z, tn_n, st_s, st_j, st_i, st_c, st_2, sl_s, sl_j, sl_i, sl_c, sl_1, Int.natCast_add, Int.cast_ofNat_Int, if_pos, if_neg]
theorem C_least_15_16 {σ : mm} {b : Nat} {A : bdy} (hC : isC σ b A) {c : bx} (hx : ∀ l, l < A.n → σ.1 16 0 l = ii (c.2 l)) (hy : ∀ l, l < A.n → σ.1 15 0 l = ii (c.1 l)) {r : Nat} (hr : r < A.R) (hA : okb A) : fX4_leastIn_15_16 (8 * b + r)   (ii A.n) σ = some (ii (lsc A c r)) := by
  obtain ⟨⟨hn4, hR8⟩, hn, hR, hlo, hhi, hk, hnu, -⟩ := hC
  have hrow := hA.2.2.2.1 r hr
  unfold fX4_leastIn_15_16 fX4_leastIn_15_16_0
  refine lp_f (fun k => (ii (smf (fun l => A.rw r (3 + l) * (if 0 < A.rw r (3 + l) then c.1 l else c.2 l)) k), ii k)) A.n rfl ?_ ?_
  · intro k hk
    have h3 := hrow.2.2.2 k (by omega)
    by_cases h : 0 < A.rw r (3 + k)
    · simp (disch := omega) only [fX4_leastIn_15_16_6_L, fX4_leastIn_15_16_6, fX4_leastIn_15_16_42, hnu, hx, hy, smf, if_true, if_false, Option.bind_some, Option.map_some, ii_lit, ll_lit, ii_neg, ll_neg, ii_add, ii_sub, ii_mul, ll_add, ll_sub, ll_mul, ii_le, ii_lt, ii_eq, ii_t, bi_0, bi_1, rd_z, wr_z, rr_z, rl_z, wl_z, tn_n, st_s, st_j, st_i, st_c, st_2, sl_s, sl_j, sl_i, sl_c, sl_1, Int.natCast_add, Int.cast_ofNat_Int, if_pos, if_neg]
    · simp (disch := omega) only [fX4_leastIn_15_16_6_L, fX4_leastIn_15_16_6, fX4_leastIn_15_16_42, hnu, hx, hy, smf, if_true, if_false, Option.bind_some, Option.map_some, ii_lit, ll_lit, ii_neg, ll_neg, ii_add, ii_sub, ii_mul, ll_add, ll_sub, ll_mul, ii_le, ii_lt, ii_eq, ii_t, bi_0, bi_1, rd_z, wr_z, rr_z, rl_z, wl_z, tn_n, st_s, st_j, st_i, st_c, st_2, sl_s, sl_j, sl_i, sl_c, sl_1, Int.natCast_add, Int.cast_ofNat_Int, if_pos, if_neg]
  · simp (disch := omega) only [fX4_leastIn_15_16_6_L, fX4_leastIn_15_16_6, lsc, if_true, if_false, Option.bind_some, Option.map_some, ii_lit, ll_lit, ii_neg, ll_neg, ii_add, ii_sub, ii_mul, ll_add, ll_sub, ll_mul, ii_le, ii_lt, ii_eq, ii_t, bi_0, bi_1, rd_z, wr_z, rr_z, rl_z, wl_z, tn_n, st_s, st_j, st_i, st_c, st_2, sl_s, sl_j, sl_i, sl_c, sl_1, Int.natCast_add, Int.cast_ofNat_Int, if_pos, if_neg]
theorem C_most_8_9 {σ : mm} {b : Nat} {A : bdy} (hC : isC σ b A) {c : bx} (hx : ∀ l, l < A.n → σ.1 8 b l = ii (c.1 l)) (hy : ∀ l, l < A.n → σ.1 9 b l = ii (c.2 l)) {r : Nat} (hr : r < A.R) (hA : okb A) : fX4_mostIn_8_9 (8 * b + r) b b (ii A.n) σ = some (ii (msc A c r)) := by
  obtain ⟨⟨hn4, hR8⟩, hn, hR, hlo, hhi, hk, hnu, -⟩ := hC
  have hrow := hA.2.2.2.1 r hr
  unfold fX4_mostIn_8_9 fX4_mostIn_8_9_0
  refine lp_f (fun k => (ii (smf (fun l => A.rw r (3 + l) * (if 0 < A.rw r (3 + l) then c.2 l else c.1 l)) k), ii k)) A.n rfl ?_ ?_
  · intro k hk
    have h3 := hrow.2.2.2 k (by omega)
    by_cases h : 0 < A.rw r (3 + k)
    · simp (disch := omega) only [fX4_mostIn_8_9_6_L, fX4_mostIn_8_9_6, fX4_mostIn_8_9_42, hnu, hx, hy, smf, if_true, if_false, Option.bind_some, Option.map_some, ii_lit, ll_lit, ii_neg, ll_neg, ii_add, ii_sub, ii_mul, ll_add, ll_sub, ll_mul, ii_le, ii_lt, ii_eq, ii_t, bi_0, bi_1, rd_z, wr_z, rr_z, rl_z, wl_z, tn_n, st_s, st_j, st_i, st_c, st_2, sl_s, sl_j, sl_i, sl_c, sl_1, Int.natCast_add, Int.cast_ofNat_Int, if_pos, if_neg]
    · simp (disch := omega) only [fX4_mostIn_8_9_6_L, fX4_mostIn_8_9_6, fX4_mostIn_8_9_42, hnu, hx, hy, smf, if_true, if_false, Option.bind_some, Option.map_some, ii_lit, ll_lit, ii_neg, ll_neg, ii_add, ii_sub, ii_mul, ll_add, ll_sub, ll_mul, ii_le, ii_lt, ii_eq, ii_t, bi_0, bi_1, rd_z, wr_z, rr_z, rl_z, wl_z, tn_n, st_s, st_j, st_i, st_c, st_2, sl_s, sl_j, sl_i, sl_c, sl_1, Int.natCast_add, Int.cast_ofNat_Int, if_pos, if_neg]
  · simp (disch := omega) only [fX4_mostIn_8_9_6_L, fX4_mostIn_8_9_6, msc, if_true, if_false, Option.bind_some, Option.map_some, ii_lit, ll_lit, ii_neg, ll_neg, ii_add, ii_sub, ii_mul, ll_add, ll_sub, ll_mul, ii_le, ii_lt, ii_eq, ii_t, bi_0, bi_1, rd_z, wr_z, rr_z, rl_z, wl_z, tn_n, st_s, st_j, st_i, st_c, st_2, sl_s, sl_j, sl_i, sl_c, sl_1, Int.natCast_add, Int.cast_ofNat_Int, if_pos, if_neg]
theorem C_most_15_16 {σ : mm} {b : Nat} {A : bdy} (hC : isC σ b A) {c : bx} (hx : ∀ l, l < A.n → σ.1 15 0 l = ii (c.1 l)) (hy : ∀ l, l < A.n → σ.1 16 0 l = ii (c.2 l)) {r : Nat} (hr : r < A.R) (hA : okb A) : fX4_mostIn_15_16 (8 * b + r)   (ii A.n) σ = some (ii (msc A c r)) := by
  obtain ⟨⟨hn4, hR8⟩, hn, hR, hlo, hhi, hk, hnu, -⟩ := hC
  have hrow := hA.2.2.2.1 r hr
  unfold fX4_mostIn_15_16 fX4_mostIn_15_16_0
  refine lp_f (fun k => (ii (smf (fun l => A.rw r (3 + l) * (if 0 < A.rw r (3 + l) then c.2 l else c.1 l)) k), ii k)) A.n rfl ?_ ?_
  · intro k hk
    have h3 := hrow.2.2.2 k (by omega)
    by_cases h : 0 < A.rw r (3 + k)
    · simp (disch := omega) only [fX4_mostIn_15_16_6_L, fX4_mostIn_15_16_6, fX4_mostIn_15_16_42, hnu, hx, hy, smf, if_true, if_false, Option.bind_some, Option.map_some, ii_lit, ll_lit, ii_neg, ll_neg, ii_add, ii_sub, ii_mul, ll_add, ll_sub, ll_mul, ii_le, ii_lt, ii_eq, ii_t, bi_0, bi_1, rd_z, wr_z, rr_z, rl_z, wl_z, tn_n, st_s, st_j, st_i, st_c, st_2, sl_s, sl_j, sl_i, sl_c, sl_1, Int.natCast_add, Int.cast_ofNat_Int, if_pos, if_neg]
    · simp (disch := omega) only [fX4_mostIn_15_16_6_L, fX4_mostIn_15_16_6, fX4_mostIn_15_16_42, hnu, hx, hy, smf, if_true, if_false, Option.bind_some, Option.map_some, ii_lit, ll_lit, ii_neg, ll_neg, ii_add, ii_sub, ii_mul, ll_add, ll_sub, ll_mul, ii_le, ii_lt, ii_eq, ii_t, bi_0, bi_1, rd_z, wr_z, rr_z, rl_z, wl_z, tn_n, st_s, st_j, st_i, st_c, st_2, sl_s, sl_j, sl_i, sl_c, sl_1, Int.natCast_add, Int.cast_ofNat_Int, if_pos, if_neg]
  · simp (disch := omega) only [fX4_mostIn_15_16_6_L, fX4_mostIn_15_16_6, msc, if_true, if_false, Option.bind_some, Option.map_some, ii_lit, ll_lit, ii_neg, ll_neg, ii_add, ii_sub, ii_mul, ll_add, ll_sub, ll_mul, ii_le, ii_lt, ii_eq, ii_t, bi_0, bi_1, rd_z, wr_z, rr_z, rl_z, wl_z, tn_n, st_s, st_j, st_i, st_c, st_2, sl_s, sl_j, sl_i, sl_c, sl_1, Int.natCast_add, Int.cast_ofNat_Int, if_pos, if_neg]
/-- the reference's cell at a depth -/
def atE (τ : mm) (d : Nat) (c : bx) : Prop := ∀ l, l < 4 → τ.1 47 0 (8 * d + 2 * l) = ii (c.1 l) ∧ τ.1 47 0 (8 * d + 2 * l + 1) = ii (c.2 l)
theorem M_edge0 {τ : mm} {d : Nat} {c : bx} (h : atE τ d c) (hd : d ≤ 48) {l : Nat} (hl : l < 4) : fX8_edge (ii d) (ii l) (ii 0) τ = some (ii (c.1 l)) := by
  unfold fX8_edge fX8_edge_0
  simp (disch := omega) only [show (8 * (d : Int) + 2 * (l : Int) + 0).toNat = 8 * d + 2 * l by omega, (h l hl).1, if_true, if_false, Option.bind_some, Option.map_some, ii_lit, ll_lit, ii_neg, ll_neg, ii_add, ii_sub, ii_mul, ll_add, ll_sub, ll_mul, ii_le, ii_lt, ii_eq, ii_t, bi_0, bi_1, rd_z, wr_z, rr_z, rl_z, wl_z, tn_n, st_s, st_j, st_i, st_c, st_2, sl_s, sl_j, sl_i, sl_c, sl_1, Int.natCast_add, Int.cast_ofNat_Int, if_pos, if_neg]
theorem M_edge1 {τ : mm} {d : Nat} {c : bx} (h : atE τ d c) (hd : d ≤ 48) {l : Nat} (hl : l < 4) : fX8_edge (ii d) (ii l) (ii 1) τ = some (ii (c.2 l)) := by
  unfold fX8_edge fX8_edge_0
  simp (disch := omega) only [show (8 * (d : Int) + 2 * (l : Int) + 1).toNat = 8 * d + 2 * l + 1 by omega, (h l hl).2, if_true, if_false, Option.bind_some, Option.map_some, ii_lit, ll_lit, ii_neg, ll_neg, ii_add, ii_sub, ii_mul, ll_add, ll_sub, ll_mul, ii_le, ii_lt, ii_eq, ii_t, bi_0, bi_1, rd_z, wr_z, rr_z, rl_z, wl_z, tn_n, st_s, st_j, st_i, st_c, st_2, sl_s, sl_j, sl_i, sl_c, sl_1, Int.natCast_add, Int.cast_ofNat_Int, if_pos, if_neg]
theorem M_least {τ : mm} {A : bdy} (hM : isM τ A) (hA : okb A) {d : Nat} {c : bx} (h : atE τ d c) (hd : d ≤ 48) {r : Nat} (hr : r < A.R) : fX8_least (ii r) (ii d) τ = some (ii (lsc A c r)) := by
  have hn := hM.2.1
  have hn1 := hA.1
  have hrow := hA.2.2.2.1 r hr
  have hat := fun (y : Int) (h0 : 0 ≤ y) (h1 : y < 7) => M_at hM hr h0 h1
  unfold fX8_least fX8_least_0
  refine lp_f (fun k => (ii (smf (fun l => A.rw r (3 + l) * (if 0 < A.rw r (3 + l) then c.1 l else c.2 l)) k), ii k)) A.n rfl ?_ ?_
  · intro k hk
    have h3 := hrow.2.2.2 k (by omega)
    have e : (3 + (k : Int)).toNat = 3 + k := by omega
    have e0 := M_edge0 h hd (l := k) (by omega)
    have e1 := M_edge1 h hd (l := k) (by omega)
    rcases Int.lt_trichotomy 0 (A.rw r (3 + k)) with q | q | q
    · simp (disch := omega) only [fX8_least_5_L, fX8_least_5, fX8_least_42, hn, hat, e, e0, e1, smf, if_true, if_false, Option.bind_some, Option.map_some, ii_lit, ll_lit, ii_neg, ll_neg, ii_add, ii_sub, ii_mul, ll_add, ll_sub, ll_mul, ii_le, ii_lt, ii_eq, ii_t, bi_0, bi_1, rd_z, wr_z, rr_z, rl_z, wl_z, tn_n, st_s, st_j, st_i, st_c, st_2, sl_s, sl_j, sl_i, sl_c, sl_1, Int.natCast_add, Int.cast_ofNat_Int, if_pos, if_neg]
    · simp (disch := omega) only [fX8_least_5_L, fX8_least_5, fX8_least_42, hn, hat, e, e0, e1, smf, ← q, Int.zero_mul, Int.add_zero, if_true, if_false, Option.bind_some, Option.map_some, ii_lit, ll_lit, ii_neg, ll_neg, ii_add, ii_sub, ii_mul, ll_add, ll_sub, ll_mul, ii_le, ii_lt, ii_eq, ii_t, bi_0, bi_1, rd_z, wr_z, rr_z, rl_z, wl_z, tn_n, st_s, st_j, st_i, st_c, st_2, sl_s, sl_j, sl_i, sl_c, sl_1, Int.natCast_add, Int.cast_ofNat_Int, if_pos, if_neg]
    · simp (disch := omega) only [fX8_least_5_L, fX8_least_5, fX8_least_42, hn, hat, e, e0, e1, smf, if_true, if_false, Option.bind_some, Option.map_some, ii_lit, ll_lit, ii_neg, ll_neg, ii_add, ii_sub, ii_mul, ll_add, ll_sub, ll_mul, ii_le, ii_lt, ii_eq, ii_t, bi_0, bi_1, rd_z, wr_z, rr_z, rl_z, wl_z, tn_n, st_s, st_j, st_i, st_c, st_2, sl_s, sl_j, sl_i, sl_c, sl_1, Int.natCast_add, Int.cast_ofNat_Int, if_pos, if_neg]
  · simp (disch := omega) only [fX8_least_5_L, fX8_least_5, hn, lsc, if_true, if_false, Option.bind_some, Option.map_some, ii_lit, ll_lit, ii_neg, ll_neg, ii_add, ii_sub, ii_mul, ll_add, ll_sub, ll_mul, ii_le, ii_lt, ii_eq, ii_t, bi_0, bi_1, rd_z, wr_z, rr_z, rl_z, wl_z, tn_n, st_s, st_j, st_i, st_c, st_2, sl_s, sl_j, sl_i, sl_c, sl_1, Int.natCast_add, Int.cast_ofNat_Int, if_pos, if_neg]
theorem M_most {τ : mm} {A : bdy} (hM : isM τ A) (hA : okb A) {d : Nat} {c : bx} (h : atE τ d c) (hd : d ≤ 48) {r : Nat} (hr : r < A.R) : fX8_most (ii r) (ii d) τ = some (ii (msc A c r)) := by
  have hn := hM.2.1
  have hn1 := hA.1
  have hrow := hA.2.2.2.1 r hr
  have hat := fun (y : Int) (h0 : 0 ≤ y) (h1 : y < 7) => M_at hM hr h0 h1
  unfold fX8_most fX8_most_0
  refine lp_f (fun k => (ii (smf (fun l => A.rw r (3 + l) * (if 0 < A.rw r (3 + l) then c.2 l else c.1 l)) k), ii k)) A.n rfl ?_ ?_
  · intro k hk
    have h3 := hrow.2.2.2 k (by omega)
    have e : (3 + (k : Int)).toNat = 3 + k := by omega
    have e0 := M_edge0 h hd (l := k) (by omega)
    have e1 := M_edge1 h hd (l := k) (by omega)
    rcases Int.lt_trichotomy 0 (A.rw r (3 + k)) with q | q | q
    · simp (disch := omega) only [fX8_most_5_L, fX8_most_5, fX8_most_42, hn, hat, e, e0, e1, smf, if_true, if_false, Option.bind_some, Option.map_some, ii_lit, ll_lit, ii_neg, ll_neg, ii_add, ii_sub, ii_mul, ll_add, ll_sub, ll_mul, ii_le, ii_lt, ii_eq, ii_t, bi_0, bi_1, rd_z, wr_z, rr_z, rl_z, wl_z, tn_n, st_s, st_j, st_i, st_c, st_2, sl_s, sl_j, sl_i, sl_c, sl_1, Int.natCast_add, Int.cast_ofNat_Int, if_pos, if_neg]
    · simp (disch := omega) only [fX8_most_5_L, fX8_most_5, fX8_most_42, hn, hat, e, e0, e1, smf, ← q, Int.zero_mul, Int.add_zero, if_true, if_false, Option.bind_some, Option.map_some, ii_lit, ll_lit, ii_neg, ll_neg, ii_add, ii_sub, ii_mul, ll_add, ll_sub, ll_mul, ii_le, ii_lt, ii_eq, ii_t, bi_0, bi_1, rd_z, wr_z, rr_z, rl_z, wl_z, tn_n, st_s, st_j, st_i, st_c, st_2, sl_s, sl_j, sl_i, sl_c, sl_1, Int.natCast_add, Int.cast_ofNat_Int, if_pos, if_neg]
    · simp (disch := omega) only [fX8_most_5_L, fX8_most_5, fX8_most_42, hn, hat, e, e0, e1, smf, if_true, if_false, Option.bind_some, Option.map_some, ii_lit, ll_lit, ii_neg, ll_neg, ii_add, ii_sub, ii_mul, ll_add, ll_sub, ll_mul, ii_le, ii_lt, ii_eq, ii_t, bi_0, bi_1, rd_z, wr_z, rr_z, rl_z, wl_z, tn_n, st_s, st_j, st_i, st_c, st_2, sl_s, sl_j, sl_i, sl_c, sl_1, Int.natCast_add, Int.cast_ofNat_Int, if_pos, if_neg]
  · simp (disch := omega) only [fX8_most_5_L, fX8_most_5, hn, msc, if_true, if_false, Option.bind_some, Option.map_some, ii_lit, ll_lit, ii_neg, ll_neg, ii_add, ii_sub, ii_mul, ll_add, ll_sub, ll_mul, ii_le, ii_lt, ii_eq, ii_t, bi_0, bi_1, rd_z, wr_z, rr_z, rl_z, wl_z, tn_n, st_s, st_j, st_i, st_c, st_2, sl_s, sl_j, sl_i, sl_c, sl_1, Int.natCast_add, Int.cast_ofNat_Int, if_pos, if_neg]
theorem M_whole {τ : mm} {A : bdy} (hM : isM τ A) : ∃ τ', fX8_whole τ = some τ' ∧ atE τ' 0 (A.lo, A.hi) ∧ Fr [47] [] τ τ' := by
  have hlo := hM.2.2.2.1
  have hhi := hM.2.2.2.2.1
  unfold fX8_whole fX8_whole_0
  refine lp_j (fun k s => s.1 = ii k ∧ (∀ l, l < k → s.2.1 47 0 (2 * l) = ii (A.lo l) ∧ s.2.1 47 0 (2 * l + 1) = ii (A.hi l)) ∧ Fr [47] [] τ s.2) _ 4 ⟨rfl, fun l hl => by omega, Fr.rf _ _ _⟩ ?_ ?_
  · rintro k ⟨a, s⟩ hk ⟨h1, h2, h3⟩
    have h1 : a = ii k := h1
    subst h1
    have e1 : s.1 42 0 k = ii (A.lo k) := by rw [h3.1 42 (by decide) (by decide)]; exact hlo k hk
    have e2 : s.1 43 0 k = ii (A.hi k) := by rw [h3.1 43 (by decide) (by decide)]; exact hhi k hk
    refine ⟨(ii ((k + 1 : Nat)), stI (stI s 47 0 (2 * k) (ii (A.lo k))) 47 0 (2 * k + 1) (ii (A.hi k))), ?_, rfl, ?_, (h3.sI (by decide) (by decide)).sI (by decide) (by decide)⟩
    · simp (disch := omega) only [fX8_whole_2_L, fX8_whole_2, e1, e2, show (2 * (k : Int)).toNat = 2 * k by omega, show (2 * (k : Int) + 1).toNat = 2 * k + 1 by omega, if_true, if_false, Option.bind_some, Option.map_some, ii_lit, ll_lit, ii_neg, ll_neg, ii_add, ii_sub, ii_mul, ll_add, ll_sub, ll_mul, ii_le, ii_lt, ii_eq, ii_t, bi_0, bi_1, rd_z, wr_z, rr_z, rl_z, wl_z, tn_n, st_s, st_j, st_i, st_c, st_2, sl_s, sl_j, sl_i, sl_c, sl_1, Int.natCast_add, Int.cast_ofNat_Int, if_pos, if_neg]
    · intro l hl
      show (stI (stI s 47 0 (2 * k) (ii (A.lo k))) 47 0 (2 * k + 1) (ii (A.hi k))).1 47 0 (2 * l) = _ ∧ (stI (stI s 47 0 (2 * k) (ii (A.lo k))) 47 0 (2 * k + 1) (ii (A.hi k))).1 47 0 (2 * l + 1) = _
      by_cases hlk : l = k
      · subst hlk
        rw [st_j _ _ (by omega), st_s, st_s]
        exact ⟨rfl, rfl⟩
      · rw [st_j _ _ (by omega), st_j _ _ (by omega), st_j _ _ (by omega), st_j _ _ (by omega)]
        exact h2 l (by omega)
  · rintro ⟨a, s⟩ ⟨h1, h2, h3⟩
    have h1 : a = ii 4 := h1
    subst h1
    refine ⟨s, ?_, ?_, h3⟩
    · simp (disch := omega) only [fX8_whole_2_L, fX8_whole_2, if_true, if_false, Option.bind_some, Option.map_some, ii_lit, ll_lit, ii_neg, ll_neg, ii_add, ii_sub, ii_mul, ll_add, ll_sub, ll_mul, ii_le, ii_lt, ii_eq, ii_t, bi_0, bi_1, rd_z, wr_z, rr_z, rl_z, wl_z, tn_n, st_s, st_j, st_i, st_c, st_2, sl_s, sl_j, sl_i, sl_c, sl_1, Int.natCast_add, Int.cast_ofNat_Int, if_pos, if_neg]
    · intro l hl
      rw [show 8 * 0 + 2 * l = 2 * l by omega]
      exact h2 l hl
theorem m_of {σ τ : mm} (h : Rel σ τ) (r w : Int32) : Ag (fX7_of r w σ) (fX8_of r w τ) := by
  obtain ⟨A, hR⟩ := h
  obtain ⟨⟨hC, hM, hA⟩, -⟩ := id hR
  obtain ⟨r, rfl, h1, h2⟩ := ii_ex r
  obtain ⟨w, rfl, h3, h4⟩ := ii_ex w
  have c1 := C_hasRow hC h1 h2
  have c2 := M_isRow hM h1 h2
  have hR8 := hA.2.1
  by_cases hv : (0 ≤ r ∧ r < A.R) ∧ 0 ≤ w ∧ w ≤ 8
  · obtain ⟨⟨v1, v2⟩, v3, v4⟩ := hv
    obtain ⟨r, rfl⟩ : ∃ k : Nat, r = k := ⟨r.toNat, by omega⟩
    obtain ⟨w, rfl⟩ : ∃ k : Nat, w = k := ⟨w.toNat, by omega⟩
    have hn := hC.2.1
    obtain ⟨z1, z2, z3⟩ := hC.z
    obtain ⟨τ1, e1, g1, g2⟩ := M_whole hM
    have hM1 : isM τ1 A := hM.fr g2 (by decide) (by decide)
    have hRl : RelA σ τ1 A := hR.m (g2.mono (by decide) (by decide))
    have a1 := C_least_8_9 hC (c := (A.lo, A.hi)) (fun l hl => hC.2.2.2.2.1 l (by have := hA.1; omega)) (fun l hl => hC.2.2.2.1 l (by have := hA.1; omega)) (r := r) (by omega) hA
    have a2 := C_most_8_9 hC (c := (A.lo, A.hi)) (fun l hl => hC.2.2.2.1 l (by have := hA.1; omega)) (fun l hl => hC.2.2.2.2.1 l (by have := hA.1; omega)) (r := r) (by omega) hA
    have b1 := M_least hM1 hA g1 (by decide) (r := r) (by omega)
    have b2 := M_most hM1 hA g1 (by decide) (r := r) (by omega)
    have b3 := fun (y : Int) (h0 : 0 ≤ y) (h1 : y < 7) => M_at hM1 (r := r) (by omega) h0 h1
    simp only [Nat.mul_zero, Nat.zero_add, show ((0 : Nat) : Int) = 0 from rfl] at a1 a2 b1 b2
    refine ⟨ii (if w = 7 then lsc A (A.lo, A.hi) r else if w = 8 then msc A (A.lo, A.hi) r else A.rw r w), σ, τ1, ?_, ?_, _, hRl⟩
    · unfold fX7_of fX7_of_0 fX4_part fX4_part_0
      by_cases k7 : w = 7
      · subst k7
        simp (disch := omega) only [c1, hn, a1, if_true, if_false, Option.bind_some, Option.map_some, ii_lit, ll_lit, ii_neg, ll_neg, ii_add, ii_sub, ii_mul, ll_add, ll_sub, ll_mul, ii_le, ii_lt, ii_eq, ii_t, bi_0, bi_1, rd_z, wr_z, rr_z, rl_z, wl_z, tn_n, st_s, st_j, st_i, st_c, st_2, sl_s, sl_j, sl_i, sl_c, sl_1, Int.natCast_add, Int.cast_ofNat_Int, if_pos, if_neg, decide_eq_false_iff_not, decide_eq_true_eq, in_ll, ii_long, Nat.zero_add, Nat.mul_zero, reduceCtorEq]
      · by_cases k8 : w = 8
        · subst k8
          simp (disch := omega) only [c1, hn, a2, if_true, if_false, Option.bind_some, Option.map_some, ii_lit, ll_lit, ii_neg, ll_neg, ii_add, ii_sub, ii_mul, ll_add, ll_sub, ll_mul, ii_le, ii_lt, ii_eq, ii_t, bi_0, bi_1, rd_z, wr_z, rr_z, rl_z, wl_z, tn_n, st_s, st_j, st_i, st_c, st_2, sl_s, sl_j, sl_i, sl_c, sl_1, Int.natCast_add, Int.cast_ofNat_Int, if_pos, if_neg, decide_eq_false_iff_not, decide_eq_true_eq, in_ll, ii_long, Nat.zero_add, Nat.mul_zero, reduceCtorEq]
        · have : w = 0 ∨ w = 1 ∨ w = 2 ∨ 3 ≤ w := by omega
          rcases this with rfl | rfl | rfl | q
          · simp (disch := omega) only [c1, z1, z2, if_true, if_false, Option.bind_some, Option.map_some, ii_lit, ll_lit, ii_neg, ll_neg, ii_add, ii_sub, ii_mul, ll_add, ll_sub, ll_mul, ii_le, ii_lt, ii_eq, ii_t, bi_0, bi_1, rd_z, wr_z, rr_z, rl_z, wl_z, tn_n, st_s, st_j, st_i, st_c, st_2, sl_s, sl_j, sl_i, sl_c, sl_1, Int.natCast_add, Int.cast_ofNat_Int, if_pos, if_neg, decide_eq_false_iff_not, decide_eq_true_eq, in_ll, ii_long, Nat.zero_add, Nat.mul_zero, reduceCtorEq]
          · simp (disch := omega) only [c1, z1, z2, if_true, if_false, Option.bind_some, Option.map_some, ii_lit, ll_lit, ii_neg, ll_neg, ii_add, ii_sub, ii_mul, ll_add, ll_sub, ll_mul, ii_le, ii_lt, ii_eq, ii_t, bi_0, bi_1, rd_z, wr_z, rr_z, rl_z, wl_z, tn_n, st_s, st_j, st_i, st_c, st_2, sl_s, sl_j, sl_i, sl_c, sl_1, Int.natCast_add, Int.cast_ofNat_Int, if_pos, if_neg, decide_eq_false_iff_not, decide_eq_true_eq, in_ll, ii_long, Nat.zero_add, Nat.mul_zero, reduceCtorEq]
          · simp (disch := omega) only [c1, z1, z2, if_true, if_false, Option.bind_some, Option.map_some, ii_lit, ll_lit, ii_neg, ll_neg, ii_add, ii_sub, ii_mul, ll_add, ll_sub, ll_mul, ii_le, ii_lt, ii_eq, ii_t, bi_0, bi_1, rd_z, wr_z, rr_z, rl_z, wl_z, tn_n, st_s, st_j, st_i, st_c, st_2, sl_s, sl_j, sl_i, sl_c, sl_1, Int.natCast_add, Int.cast_ofNat_Int, if_pos, if_neg, decide_eq_false_iff_not, decide_eq_true_eq, in_ll, ii_long, Nat.zero_add, Nat.mul_zero, reduceCtorEq]
          · simp (disch := omega) only [c1, z1, z2, show ((w : Int) - 3).toNat = w - 3 by omega, show 3 + (w - 3) = w by omega, if_true, if_false, Option.bind_some, Option.map_some, ii_lit, ll_lit, ii_neg, ll_neg, ii_add, ii_sub, ii_mul, ll_add, ll_sub, ll_mul, ii_le, ii_lt, ii_eq, ii_t, bi_0, bi_1, rd_z, wr_z, rr_z, rl_z, wl_z, tn_n, st_s, st_j, st_i, st_c, st_2, sl_s, sl_j, sl_i, sl_c, sl_1, Int.natCast_add, Int.cast_ofNat_Int, if_pos, if_neg, decide_eq_false_iff_not, decide_eq_true_eq, in_ll, ii_long, Nat.zero_add, Nat.mul_zero, reduceCtorEq]
    · unfold fX8_of fX8_of_0
      by_cases k7 : w = 7
      · subst k7
        simp (disch := omega) only [c2, e1, b1, if_true, if_false, Option.bind_some, Option.map_some, ii_lit, ll_lit, ii_neg, ll_neg, ii_add, ii_sub, ii_mul, ll_add, ll_sub, ll_mul, ii_le, ii_lt, ii_eq, ii_t, bi_0, bi_1, rd_z, wr_z, rr_z, rl_z, wl_z, tn_n, st_s, st_j, st_i, st_c, st_2, sl_s, sl_j, sl_i, sl_c, sl_1, Int.natCast_add, Int.cast_ofNat_Int, if_pos, if_neg, decide_eq_false_iff_not, decide_eq_true_eq, in_ll, ii_long, Nat.zero_add, Nat.mul_zero, reduceCtorEq]
      · by_cases k8 : w = 8
        · subst k8
          simp (disch := omega) only [c2, e1, b2, if_true, if_false, Option.bind_some, Option.map_some, ii_lit, ll_lit, ii_neg, ll_neg, ii_add, ii_sub, ii_mul, ll_add, ll_sub, ll_mul, ii_le, ii_lt, ii_eq, ii_t, bi_0, bi_1, rd_z, wr_z, rr_z, rl_z, wl_z, tn_n, st_s, st_j, st_i, st_c, st_2, sl_s, sl_j, sl_i, sl_c, sl_1, Int.natCast_add, Int.cast_ofNat_Int, if_pos, if_neg, decide_eq_false_iff_not, decide_eq_true_eq, in_ll, ii_long, Nat.zero_add, Nat.mul_zero, reduceCtorEq]
        · simp (disch := omega) only [c2, e1, b3, if_true, if_false, Option.bind_some, Option.map_some, ii_lit, ll_lit, ii_neg, ll_neg, ii_add, ii_sub, ii_mul, ll_add, ll_sub, ll_mul, ii_le, ii_lt, ii_eq, ii_t, bi_0, bi_1, rd_z, wr_z, rr_z, rl_z, wl_z, tn_n, st_s, st_j, st_i, st_c, st_2, sl_s, sl_j, sl_i, sl_c, sl_1, Int.natCast_add, Int.cast_ofNat_Int, if_pos, if_neg, decide_eq_false_iff_not, decide_eq_true_eq, in_ll, ii_long, Nat.zero_add, Nat.mul_zero, reduceCtorEq]
  · obtain ⟨σ', τ', e3, e4, hr⟩ := fd0 hR
    refine ⟨ii (-1000000001), σ', τ', ?_, ?_, _, hr⟩
    · unfold fX7_of fX7_of_0 fX7_of_21
      by_cases k1 : 0 ≤ r ∧ r < A.R
      · by_cases k2 : w < 0
        · simp (disch := omega) only [c1, e3, if_true, if_false, Option.bind_some, Option.map_some, ii_lit, ll_lit, ii_neg, ll_neg, ii_add, ii_sub, ii_mul, ll_add, ll_sub, ll_mul, ii_le, ii_lt, ii_eq, ii_t, bi_0, bi_1, rd_z, wr_z, rr_z, rl_z, wl_z, tn_n, st_s, st_j, st_i, st_c, st_2, sl_s, sl_j, sl_i, sl_c, sl_1, Int.natCast_add, Int.cast_ofNat_Int, if_pos, if_neg, decide_eq_false_iff_not, decide_eq_true_eq, in_ll, ii_long, Nat.zero_add, Nat.mul_zero, reduceCtorEq]
        · simp (disch := omega) only [c1, e3, if_true, if_false, Option.bind_some, Option.map_some, ii_lit, ll_lit, ii_neg, ll_neg, ii_add, ii_sub, ii_mul, ll_add, ll_sub, ll_mul, ii_le, ii_lt, ii_eq, ii_t, bi_0, bi_1, rd_z, wr_z, rr_z, rl_z, wl_z, tn_n, st_s, st_j, st_i, st_c, st_2, sl_s, sl_j, sl_i, sl_c, sl_1, Int.natCast_add, Int.cast_ofNat_Int, if_pos, if_neg, decide_eq_false_iff_not, decide_eq_true_eq, in_ll, ii_long, Nat.zero_add, Nat.mul_zero, reduceCtorEq]
      · simp (disch := omega) only [c1, e3, if_true, if_false, Option.bind_some, Option.map_some, ii_lit, ll_lit, ii_neg, ll_neg, ii_add, ii_sub, ii_mul, ll_add, ll_sub, ll_mul, ii_le, ii_lt, ii_eq, ii_t, bi_0, bi_1, rd_z, wr_z, rr_z, rl_z, wl_z, tn_n, st_s, st_j, st_i, st_c, st_2, sl_s, sl_j, sl_i, sl_c, sl_1, Int.natCast_add, Int.cast_ofNat_Int, if_pos, if_neg, decide_eq_false_iff_not, decide_eq_true_eq, in_ll, ii_long, Nat.zero_add, Nat.mul_zero, reduceCtorEq]
    · unfold fX8_of fX8_of_0 fX8_of_20
      by_cases k1 : 0 ≤ r ∧ r < A.R
      · simp (disch := omega) only [c2, e4, if_true, if_false, Option.bind_some, Option.map_some, ii_lit, ll_lit, ii_neg, ll_neg, ii_add, ii_sub, ii_mul, ll_add, ll_sub, ll_mul, ii_le, ii_lt, ii_eq, ii_t, bi_0, bi_1, rd_z, wr_z, rr_z, rl_z, wl_z, tn_n, st_s, st_j, st_i, st_c, st_2, sl_s, sl_j, sl_i, sl_c, sl_1, Int.natCast_add, Int.cast_ofNat_Int, if_pos, if_neg, decide_eq_false_iff_not, decide_eq_true_eq, in_ll, ii_long, Nat.zero_add, Nat.mul_zero, reduceCtorEq]
      · simp (disch := omega) only [c2, e4, if_true, if_false, Option.bind_some, Option.map_some, ii_lit, ll_lit, ii_neg, ll_neg, ii_add, ii_sub, ii_mul, ll_add, ll_sub, ll_mul, ii_le, ii_lt, ii_eq, ii_t, bi_0, bi_1, rd_z, wr_z, rr_z, rl_z, wl_z, tn_n, st_s, st_j, st_i, st_c, st_2, sl_s, sl_j, sl_i, sl_c, sl_1, Int.natCast_add, Int.cast_ofNat_Int, if_pos, if_neg, decide_eq_false_iff_not, decide_eq_true_eq, in_ll, ii_long, Nat.zero_add, Nat.mul_zero, reduceCtorEq]
theorem m_as {σ τ : mm} (h : Rel σ τ) (r w : Int32) : Ag (fX7_as r w σ) (fX8_as r w τ) := by
  obtain ⟨A, hR⟩ := h
  obtain ⟨⟨hC, hM, hA⟩, -⟩ := id hR
  obtain ⟨r, rfl, h1, h2⟩ := ii_ex r
  obtain ⟨w, rfl, h3, h4⟩ := ii_ex w
  have c1 := C_hasRow hC h1 h2
  have c2 := M_isRow hM h1 h2
  have hR8 := hA.2.1
  by_cases hv : (0 ≤ r ∧ r < A.R) ∧ 0 ≤ w ∧ w ≤ 5
  · obtain ⟨⟨v1, v2⟩, v3, v4⟩ := hv
    obtain ⟨r, rfl⟩ : ∃ k : Nat, r = k := ⟨r.toNat, by omega⟩
    have hr' : r < A.R := by omega
    obtain ⟨z1, z2, z3⟩ := hC.z
    have b3 := fun (y : Int) (h0 : 0 ≤ y) (h1 : y < 7) => M_at hM hr' h0 h1
    have hkd := (hA.2.2.2.1 r hr').1
    have un : fX4_isUnder (ii (A.rw r 0)) (ii w) σ = some (decide (w = 0 ∨ w = A.rw r 0 ∨ w = 1 ∧ A.rw r 0 = 3 ∨ w = 2 ∧ A.rw r 0 = 4)) := by
      have hq : ∀ (a b : Fin 6) (s : mm), fX4_isUnder (ii a.val) (ii b.val) s = some (decide ((b.val : Int) = 0 ∨ (b.val : Int) = a.val ∨ (b.val : Int) = 1 ∧ (a.val : Int) = 3 ∨ (b.val : Int) = 2 ∧ (a.val : Int) = 4)) := by
        intro a b s
        unfold fX4_isUnder fX4_isUnder_0
        refine lp_iff.mpr ⟨7, ?_⟩
        revert a b
        unfold fX4_isUnder_4_L fX4_isUnder_4
        decide +kernel
      have := hq ⟨(A.rw r 0).toNat, by omega⟩ ⟨w.toNat, by omega⟩ σ
      simp only [Int.toNat_of_nonneg v3, Int.toNat_of_nonneg hkd.1] at this
      exact this
    by_cases hu : w = 0 ∨ w = A.rw r 0 ∨ w = 1 ∧ A.rw r 0 = 3 ∨ w = 2 ∧ A.rw r 0 = 4
    · rw [decide_eq_true hu] at un
      refine ⟨ii (A.rw r 1), σ, τ, ?_, ?_, _, hR⟩
      · unfold fX7_as fX7_as_0
        simp (disch := omega) only [c1, z1, un, if_true, if_false, Option.bind_some, Option.map_some, ii_lit, ll_lit, ii_neg, ll_neg, ii_add, ii_sub, ii_mul, ll_add, ll_sub, ll_mul, ii_le, ii_lt, ii_eq, ii_t, bi_0, bi_1, rd_z, wr_z, rr_z, rl_z, wl_z, tn_n, st_s, st_j, st_i, st_c, st_2, sl_s, sl_j, sl_i, sl_c, sl_1, Int.natCast_add, Int.cast_ofNat_Int, if_pos, if_neg, decide_eq_false_iff_not, decide_eq_true_eq, in_ll, ii_long, Nat.zero_add, Nat.mul_zero, reduceCtorEq]
      · unfold fX8_as fX8_as_0 fX8_as_63 fX8_as_53 fX8_as_63 fX8_as_68
        by_cases u1 : w = 0
        · simp (disch := omega) only [c2, b3, Int.toNat_zero, Int.toNat_one, if_true, if_false, Option.bind_some, Option.map_some, ii_lit, ll_lit, ii_neg, ll_neg, ii_add, ii_sub, ii_mul, ll_add, ll_sub, ll_mul, ii_le, ii_lt, ii_eq, ii_t, bi_0, bi_1, rd_z, wr_z, rr_z, rl_z, wl_z, tn_n, st_s, st_j, st_i, st_c, st_2, sl_s, sl_j, sl_i, sl_c, sl_1, Int.natCast_add, Int.cast_ofNat_Int, if_pos, if_neg, decide_eq_false_iff_not, decide_eq_true_eq, in_ll, ii_long, Nat.zero_add, Nat.mul_zero, reduceCtorEq]
        · by_cases u2 : w = A.rw r 0
          · simp (disch := omega) only [c2, b3, Int.toNat_zero, Int.toNat_one, if_true, if_false, Option.bind_some, Option.map_some, ii_lit, ll_lit, ii_neg, ll_neg, ii_add, ii_sub, ii_mul, ll_add, ll_sub, ll_mul, ii_le, ii_lt, ii_eq, ii_t, bi_0, bi_1, rd_z, wr_z, rr_z, rl_z, wl_z, tn_n, st_s, st_j, st_i, st_c, st_2, sl_s, sl_j, sl_i, sl_c, sl_1, Int.natCast_add, Int.cast_ofNat_Int, if_pos, if_neg, decide_eq_false_iff_not, decide_eq_true_eq, in_ll, ii_long, Nat.zero_add, Nat.mul_zero, reduceCtorEq]
          · by_cases u3 : w = 1
            · simp (disch := omega) only [c2, b3, Int.toNat_zero, Int.toNat_one, if_true, if_false, Option.bind_some, Option.map_some, ii_lit, ll_lit, ii_neg, ll_neg, ii_add, ii_sub, ii_mul, ll_add, ll_sub, ll_mul, ii_le, ii_lt, ii_eq, ii_t, bi_0, bi_1, rd_z, wr_z, rr_z, rl_z, wl_z, tn_n, st_s, st_j, st_i, st_c, st_2, sl_s, sl_j, sl_i, sl_c, sl_1, Int.natCast_add, Int.cast_ofNat_Int, if_pos, if_neg, decide_eq_false_iff_not, decide_eq_true_eq, in_ll, ii_long, Nat.zero_add, Nat.mul_zero, reduceCtorEq]
            · simp (disch := omega) only [c2, b3, Int.toNat_zero, Int.toNat_one, if_true, if_false, Option.bind_some, Option.map_some, ii_lit, ll_lit, ii_neg, ll_neg, ii_add, ii_sub, ii_mul, ll_add, ll_sub, ll_mul, ii_le, ii_lt, ii_eq, ii_t, bi_0, bi_1, rd_z, wr_z, rr_z, rl_z, wl_z, tn_n, st_s, st_j, st_i, st_c, st_2, sl_s, sl_j, sl_i, sl_c, sl_1, Int.natCast_add, Int.cast_ofNat_Int, if_pos, if_neg, decide_eq_false_iff_not, decide_eq_true_eq, in_ll, ii_long, Nat.zero_add, Nat.mul_zero, reduceCtorEq]
    · rw [decide_eq_false hu] at un
      obtain ⟨σ', τ', e3, e4, hr⟩ := fd2 hR
      refine ⟨ii (-1000000003), σ', τ', ?_, ?_, _, hr⟩
      · unfold fX7_as fX7_as_0
        simp (disch := omega) only [c1, z1, un, e3, if_true, if_false, Option.bind_some, Option.map_some, ii_lit, ll_lit, ii_neg, ll_neg, ii_add, ii_sub, ii_mul, ll_add, ll_sub, ll_mul, ii_le, ii_lt, ii_eq, ii_t, bi_0, bi_1, rd_z, wr_z, rr_z, rl_z, wl_z, tn_n, st_s, st_j, st_i, st_c, st_2, sl_s, sl_j, sl_i, sl_c, sl_1, Int.natCast_add, Int.cast_ofNat_Int, if_pos, if_neg, decide_eq_false_iff_not, decide_eq_true_eq, in_ll, ii_long, Nat.zero_add, Nat.mul_zero, reduceCtorEq]
      · unfold fX8_as fX8_as_0 fX8_as_53 fX8_as_67 fX8_as_68
        by_cases u3 : w = 1
        · simp (disch := omega) only [c2, b3, e4, Int.toNat_zero, Int.toNat_one, if_true, if_false, Option.bind_some, Option.map_some, ii_lit, ll_lit, ii_neg, ll_neg, ii_add, ii_sub, ii_mul, ll_add, ll_sub, ll_mul, ii_le, ii_lt, ii_eq, ii_t, bi_0, bi_1, rd_z, wr_z, rr_z, rl_z, wl_z, tn_n, st_s, st_j, st_i, st_c, st_2, sl_s, sl_j, sl_i, sl_c, sl_1, Int.natCast_add, Int.cast_ofNat_Int, if_pos, if_neg, decide_eq_false_iff_not, decide_eq_true_eq, in_ll, ii_long, Nat.zero_add, Nat.mul_zero, reduceCtorEq]
        · by_cases u4 : w = 2
          · simp (disch := omega) only [c2, b3, e4, Int.toNat_zero, Int.toNat_one, if_true, if_false, Option.bind_some, Option.map_some, ii_lit, ll_lit, ii_neg, ll_neg, ii_add, ii_sub, ii_mul, ll_add, ll_sub, ll_mul, ii_le, ii_lt, ii_eq, ii_t, bi_0, bi_1, rd_z, wr_z, rr_z, rl_z, wl_z, tn_n, st_s, st_j, st_i, st_c, st_2, sl_s, sl_j, sl_i, sl_c, sl_1, Int.natCast_add, Int.cast_ofNat_Int, if_pos, if_neg, decide_eq_false_iff_not, decide_eq_true_eq, in_ll, ii_long, Nat.zero_add, Nat.mul_zero, reduceCtorEq]
          · simp (disch := omega) only [c2, b3, e4, Int.toNat_zero, Int.toNat_one, if_true, if_false, Option.bind_some, Option.map_some, ii_lit, ll_lit, ii_neg, ll_neg, ii_add, ii_sub, ii_mul, ll_add, ll_sub, ll_mul, ii_le, ii_lt, ii_eq, ii_t, bi_0, bi_1, rd_z, wr_z, rr_z, rl_z, wl_z, tn_n, st_s, st_j, st_i, st_c, st_2, sl_s, sl_j, sl_i, sl_c, sl_1, Int.natCast_add, Int.cast_ofNat_Int, if_pos, if_neg, decide_eq_false_iff_not, decide_eq_true_eq, in_ll, ii_long, Nat.zero_add, Nat.mul_zero, reduceCtorEq]
  · obtain ⟨σ', τ', e3, e4, hr⟩ := fd0 hR
    refine ⟨ii (-1000000001), σ', τ', ?_, ?_, _, hr⟩
    · unfold fX7_as fX7_as_0 fX7_as_21
      by_cases k1 : 0 ≤ r ∧ r < A.R
      · by_cases k2 : w < 0
        · simp (disch := omega) only [c1, e3, if_true, if_false, Option.bind_some, Option.map_some, ii_lit, ll_lit, ii_neg, ll_neg, ii_add, ii_sub, ii_mul, ll_add, ll_sub, ll_mul, ii_le, ii_lt, ii_eq, ii_t, bi_0, bi_1, rd_z, wr_z, rr_z, rl_z, wl_z, tn_n, st_s, st_j, st_i, st_c, st_2, sl_s, sl_j, sl_i, sl_c, sl_1, Int.natCast_add, Int.cast_ofNat_Int, if_pos, if_neg, decide_eq_false_iff_not, decide_eq_true_eq, in_ll, ii_long, Nat.zero_add, Nat.mul_zero, reduceCtorEq]
        · simp (disch := omega) only [c1, e3, if_true, if_false, Option.bind_some, Option.map_some, ii_lit, ll_lit, ii_neg, ll_neg, ii_add, ii_sub, ii_mul, ll_add, ll_sub, ll_mul, ii_le, ii_lt, ii_eq, ii_t, bi_0, bi_1, rd_z, wr_z, rr_z, rl_z, wl_z, tn_n, st_s, st_j, st_i, st_c, st_2, sl_s, sl_j, sl_i, sl_c, sl_1, Int.natCast_add, Int.cast_ofNat_Int, if_pos, if_neg, decide_eq_false_iff_not, decide_eq_true_eq, in_ll, ii_long, Nat.zero_add, Nat.mul_zero, reduceCtorEq]
      · simp (disch := omega) only [c1, e3, if_true, if_false, Option.bind_some, Option.map_some, ii_lit, ll_lit, ii_neg, ll_neg, ii_add, ii_sub, ii_mul, ll_add, ll_sub, ll_mul, ii_le, ii_lt, ii_eq, ii_t, bi_0, bi_1, rd_z, wr_z, rr_z, rl_z, wl_z, tn_n, st_s, st_j, st_i, st_c, st_2, sl_s, sl_j, sl_i, sl_c, sl_1, Int.natCast_add, Int.cast_ofNat_Int, if_pos, if_neg, decide_eq_false_iff_not, decide_eq_true_eq, in_ll, ii_long, Nat.zero_add, Nat.mul_zero, reduceCtorEq]
    · unfold fX8_as fX8_as_0 fX8_as_20
      by_cases k1 : 0 ≤ r ∧ r < A.R
      · simp (disch := omega) only [c2, e4, if_true, if_false, Option.bind_some, Option.map_some, ii_lit, ll_lit, ii_neg, ll_neg, ii_add, ii_sub, ii_mul, ll_add, ll_sub, ll_mul, ii_le, ii_lt, ii_eq, ii_t, bi_0, bi_1, rd_z, wr_z, rr_z, rl_z, wl_z, tn_n, st_s, st_j, st_i, st_c, st_2, sl_s, sl_j, sl_i, sl_c, sl_1, Int.natCast_add, Int.cast_ofNat_Int, if_pos, if_neg, decide_eq_false_iff_not, decide_eq_true_eq, in_ll, ii_long, Nat.zero_add, Nat.mul_zero, reduceCtorEq]
      · simp (disch := omega) only [c2, e4, if_true, if_false, Option.bind_some, Option.map_some, ii_lit, ll_lit, ii_neg, ll_neg, ii_add, ii_sub, ii_mul, ll_add, ll_sub, ll_mul, ii_le, ii_lt, ii_eq, ii_t, bi_0, bi_1, rd_z, wr_z, rr_z, rl_z, wl_z, tn_n, st_s, st_j, st_i, st_c, st_2, sl_s, sl_j, sl_i, sl_c, sl_1, Int.natCast_add, Int.cast_ofNat_Int, if_pos, if_neg, decide_eq_false_iff_not, decide_eq_true_eq, in_ll, ii_long, Nat.zero_add, Nat.mul_zero, reduceCtorEq]
theorem m_change {σ τ : mm} (h : Rel σ τ) (r w v : Int32) : Ag (fX7_change r w v σ) (fX8_change r w v τ) := by
  obtain ⟨A, hR⟩ := h
  obtain ⟨⟨hC, hM, hA⟩, -⟩ := id hR
  obtain ⟨r, rfl, h1, h2⟩ := ii_ex r
  obtain ⟨w, rfl, h3, h4⟩ := ii_ex w
  obtain ⟨v, rfl, h5, h6⟩ := ii_ex v
  have c1 := C_hasRow hC h1 h2
  have c2 := M_isRow hM h1 h2
  have hR8 := hA.2.1
  have tk : fX4_takesPart (ii w) (ii v) = decide (0 ≤ w ∧ w ≤ 6 ∧ (if w = 0 then 0 ≤ v ∧ v ≤ 5 else if w = 1 then -999 ≤ v ∧ v ≤ 999 else if w = 2 then 1 ≤ v ∧ v ≤ 99 else -9 ≤ v ∧ v ≤ 9)) := by
    by_cases k : w < 0 ∨ 7 ≤ w
    · rw [C_takesN h3 h4 k, decide_eq_false (by omega)]
    · have : w = 0 ∨ w = 1 ∨ w = 2 ∨ 3 ≤ w := by omega
      rcases this with rfl | rfl | rfl | q
      · rw [C_takes0 h5 h6]
        exact decide_eq_decide.mpr (by simp)
      · rw [C_takes1 h5 h6]
        exact decide_eq_decide.mpr (by simp)
      · rw [C_takes2 h5 h6]
        exact decide_eq_decide.mpr (by simp)
      · rw [C_takes3 h5 h6 q (by omega)]
        exact decide_eq_decide.mpr (by rw [if_neg (by omega), if_neg (by omega), if_neg (by omega)]; omega)
  have io : fX8_isOf (ii w) (ii v) = decide (if w = 0 then 0 ≤ v ∧ v ≤ 5 else if w = 1 then -999 ≤ v ∧ v ≤ 999 else if w = 2 then 1 ≤ v ∧ v ≤ 99 else -9 ≤ v ∧ v ≤ 9) := by
    unfold fX8_isOf fX8_isOf_0
    by_cases k0 : w = 0
    · simp (disch := omega) only [if_true, if_false, Option.bind_some, Option.map_some, ii_lit, ll_lit, ii_neg, ll_neg, ii_add, ii_sub, ii_mul, ll_add, ll_sub, ll_mul, ii_le, ii_lt, ii_eq, ii_t, bi_0, bi_1, rd_z, wr_z, rr_z, rl_z, wl_z, tn_n, st_s, st_j, st_i, st_c, st_2, sl_s, sl_j, sl_i, sl_c, sl_1, Int.natCast_add, Int.cast_ofNat_Int, if_pos, if_neg, decide_eq_false_iff_not, decide_eq_true_eq, in_ll, ii_long, Nat.zero_add, Nat.mul_zero, reduceCtorEq]
    · by_cases k1 : w = 1
      · simp (disch := omega) only [if_true, if_false, Option.bind_some, Option.map_some, ii_lit, ll_lit, ii_neg, ll_neg, ii_add, ii_sub, ii_mul, ll_add, ll_sub, ll_mul, ii_le, ii_lt, ii_eq, ii_t, bi_0, bi_1, rd_z, wr_z, rr_z, rl_z, wl_z, tn_n, st_s, st_j, st_i, st_c, st_2, sl_s, sl_j, sl_i, sl_c, sl_1, Int.natCast_add, Int.cast_ofNat_Int, if_pos, if_neg, decide_eq_false_iff_not, decide_eq_true_eq, in_ll, ii_long, Nat.zero_add, Nat.mul_zero, reduceCtorEq]
      · by_cases k2 : w = 2
        · simp (disch := omega) only [if_true, if_false, Option.bind_some, Option.map_some, ii_lit, ll_lit, ii_neg, ll_neg, ii_add, ii_sub, ii_mul, ll_add, ll_sub, ll_mul, ii_le, ii_lt, ii_eq, ii_t, bi_0, bi_1, rd_z, wr_z, rr_z, rl_z, wl_z, tn_n, st_s, st_j, st_i, st_c, st_2, sl_s, sl_j, sl_i, sl_c, sl_1, Int.natCast_add, Int.cast_ofNat_Int, if_pos, if_neg, decide_eq_false_iff_not, decide_eq_true_eq, in_ll, ii_long, Nat.zero_add, Nat.mul_zero, reduceCtorEq]
        · simp (disch := omega) only [if_true, if_false, Option.bind_some, Option.map_some, ii_lit, ll_lit, ii_neg, ll_neg, ii_add, ii_sub, ii_mul, ll_add, ll_sub, ll_mul, ii_le, ii_lt, ii_eq, ii_t, bi_0, bi_1, rd_z, wr_z, rr_z, rl_z, wl_z, tn_n, st_s, st_j, st_i, st_c, st_2, sl_s, sl_j, sl_i, sl_c, sl_1, Int.natCast_add, Int.cast_ofNat_Int, if_pos, if_neg, decide_eq_false_iff_not, decide_eq_true_eq, in_ll, ii_long, Nat.zero_add, Nat.mul_zero, reduceCtorEq]
  by_cases hv : (0 ≤ r ∧ r < A.R) ∧ 0 ≤ w ∧ w ≤ 6 ∧ (if w = 0 then 0 ≤ v ∧ v ≤ 5 else if w = 1 then -999 ≤ v ∧ v ≤ 999 else if w = 2 then 1 ≤ v ∧ v ≤ 99 else -9 ≤ v ∧ v ≤ 9)
  · obtain ⟨⟨v1, v2⟩, v3, v4, v5⟩ := hv
    obtain ⟨r, rfl⟩ : ∃ k : Nat, r = k := ⟨r.toNat, by omega⟩
    obtain ⟨w, rfl⟩ : ∃ k : Nat, w = k := ⟨w.toNat, by omega⟩
    have hr' : r < A.R := by omega
    obtain ⟨z1, z2, z3⟩ := hC.z
    rw [decide_eq_true ⟨v3, v4, v5⟩] at tk
    rw [decide_eq_true v5] at io
    have hrow := hA.2.2.2.1 r hr'
    have okq : okr (up1 (A.rw r) w v) := by
      obtain ⟨q1, q2, q3, q4⟩ := hrow
      refine ⟨?_, ?_, ?_, ?_⟩
      · unfold up1
        split
        · subst_vars
          simpa using v5
        · exact q1
      · unfold up1
        split
        · subst_vars
          simpa using v5
        · exact q2
      · unfold up1
        split
        · subst_vars
          simpa using v5
        · exact q3
      · intro l hl
        unfold up1
        split
        · rename_i e
          rw [if_neg (by omega), if_neg (by omega), if_neg (by omega)] at v5
          exact v5
        · exact q4 l hl
    have hM1 := hM.part hr' (w := w) (by omega) v
    have b3 := fun (y : Int) (h0 : 0 ≤ y) (h1 : y < 7) => M_at hM hr' h0 h1
    have key : ∃ σ1, fX7_change (ii r) (ii w) (ii v) σ = some (ii (A.rw r w), fX7_bodyChanged σ1) ∧ isC σ1 0 (A.setR A.R r (up1 (A.rw r) w v)) ∧ Fb 0 σ σ1 := by
      have : w = 0 ∨ w = 1 ∨ w = 2 ∨ 3 ≤ w := by omega
      rcases this with rfl | rfl | rfl | q
      · have tk : fX4_takesPart (ii 0) (ii v) = true := tk
        refine ⟨stI σ 4 (8 * 0 + r) 0 (ii v), ?_, hC.part hr' (by decide) v, (Fb.rf 0 σ).sI (Or.inr (Or.inl ⟨by omega, r, by omega, rfl⟩))⟩
        unfold fX7_change fX7_change_0 fX4_part fX4_part_0 fX4_setPart fX4_setPart_0
        simp (disch := omega) only [c1, tk, z1, z2, if_true, if_false, Option.bind_some, Option.map_some, ii_lit, ll_lit, ii_neg, ll_neg, ii_add, ii_sub, ii_mul, ll_add, ll_sub, ll_mul, ii_le, ii_lt, ii_eq, ii_t, bi_0, bi_1, rd_z, wr_z, rr_z, rl_z, wl_z, tn_n, st_s, st_j, st_i, st_c, st_2, sl_s, sl_j, sl_i, sl_c, sl_1, Int.natCast_add, Int.cast_ofNat_Int, if_pos, if_neg, decide_eq_false_iff_not, decide_eq_true_eq, in_ll, ii_long, Nat.zero_add, Nat.mul_zero, reduceCtorEq]
      · have tk : fX4_takesPart (ii 1) (ii v) = true := tk
        refine ⟨stI σ 4 (8 * 0 + r) 1 (ii v), ?_, hC.part hr' (by decide) v, (Fb.rf 0 σ).sI (Or.inr (Or.inl ⟨by omega, r, by omega, rfl⟩))⟩
        unfold fX7_change fX7_change_0 fX4_part fX4_part_0 fX4_setPart fX4_setPart_0
        simp (disch := omega) only [c1, tk, z1, z2, if_true, if_false, Option.bind_some, Option.map_some, ii_lit, ll_lit, ii_neg, ll_neg, ii_add, ii_sub, ii_mul, ll_add, ll_sub, ll_mul, ii_le, ii_lt, ii_eq, ii_t, bi_0, bi_1, rd_z, wr_z, rr_z, rl_z, wl_z, tn_n, st_s, st_j, st_i, st_c, st_2, sl_s, sl_j, sl_i, sl_c, sl_1, Int.natCast_add, Int.cast_ofNat_Int, if_pos, if_neg, decide_eq_false_iff_not, decide_eq_true_eq, in_ll, ii_long, Nat.zero_add, Nat.mul_zero, reduceCtorEq]
      · have tk : fX4_takesPart (ii 2) (ii v) = true := tk
        refine ⟨stI σ 4 (8 * 0 + r) 2 (ii v), ?_, hC.part hr' (by decide) v, (Fb.rf 0 σ).sI (Or.inr (Or.inl ⟨by omega, r, by omega, rfl⟩))⟩
        unfold fX7_change fX7_change_0 fX4_part fX4_part_0 fX4_setPart fX4_setPart_0
        simp (disch := omega) only [c1, tk, z1, z2, if_true, if_false, Option.bind_some, Option.map_some, ii_lit, ll_lit, ii_neg, ll_neg, ii_add, ii_sub, ii_mul, ll_add, ll_sub, ll_mul, ii_le, ii_lt, ii_eq, ii_t, bi_0, bi_1, rd_z, wr_z, rr_z, rl_z, wl_z, tn_n, st_s, st_j, st_i, st_c, st_2, sl_s, sl_j, sl_i, sl_c, sl_1, Int.natCast_add, Int.cast_ofNat_Int, if_pos, if_neg, decide_eq_false_iff_not, decide_eq_true_eq, in_ll, ii_long, Nat.zero_add, Nat.mul_zero, reduceCtorEq]
      · have hN := hC.num hr' (w := w - 3) (by omega) v
        rw [show 3 + (w - 3) = w by omega] at hN
        refine ⟨stI σ 10 (8 * 0 + r) (w - 3) (ii v), ?_, hN, (Fb.rf 0 σ).sI (Or.inr (Or.inl ⟨by omega, r, by omega, rfl⟩))⟩
        unfold fX7_change fX7_change_0 fX4_part fX4_part_0 fX4_setPart fX4_setPart_0
        simp (disch := omega) only [c1, tk, z1, z2, show ((w : Int) - 3).toNat = w - 3 by omega, show 3 + (w - 3) = w by omega, if_true, if_false, Option.bind_some, Option.map_some, ii_lit, ll_lit, ii_neg, ll_neg, ii_add, ii_sub, ii_mul, ll_add, ll_sub, ll_mul, ii_le, ii_lt, ii_eq, ii_t, bi_0, bi_1, rd_z, wr_z, rr_z, rl_z, wl_z, tn_n, st_s, st_j, st_i, st_c, st_2, sl_s, sl_j, sl_i, sl_c, sl_1, Int.natCast_add, Int.cast_ofNat_Int, if_pos, if_neg, decide_eq_false_iff_not, decide_eq_true_eq, in_ll, ii_long, Nat.zero_add, Nat.mul_zero, reduceCtorEq]
    obtain ⟨σ1, e1, f1, f2⟩ := key
    have hRl := Rel.body hR f1 hM1 (hA.part _ okq) f2 ((Fr.rf _ _ _).sI (by decide) (by decide))
    refine ⟨ii (A.rw r w), _, _, e1, ?_, _, hRl⟩
    unfold fX8_change fX8_change_0
    simp (disch := omega) only [c2, io, b3, show (7 * (r : Int) + (w : Int)).toNat = 7 * r + w by omega, if_true, if_false, Option.bind_some, Option.map_some, ii_lit, ll_lit, ii_neg, ll_neg, ii_add, ii_sub, ii_mul, ll_add, ll_sub, ll_mul, ii_le, ii_lt, ii_eq, ii_t, bi_0, bi_1, rd_z, wr_z, rr_z, rl_z, wl_z, tn_n, st_s, st_j, st_i, st_c, st_2, sl_s, sl_j, sl_i, sl_c, sl_1, Int.natCast_add, Int.cast_ofNat_Int, if_pos, if_neg, decide_eq_false_iff_not, decide_eq_true_eq, in_ll, ii_long, Nat.zero_add, Nat.mul_zero, reduceCtorEq]
  · obtain ⟨σ', τ', e3, e4, hr⟩ := fd0 hR
    refine ⟨ii (-1000000001), σ', τ', ?_, ?_, _, hr⟩
    · unfold fX7_change fX7_change_0 fX7_change_19
      by_cases k1 : 0 ≤ r ∧ r < A.R
      · rw [decide_eq_false (fun q => hv ⟨k1, q⟩)] at tk
        simp (disch := omega) only [c1, tk, e3, if_true, if_false, Option.bind_some, Option.map_some, ii_lit, ll_lit, ii_neg, ll_neg, ii_add, ii_sub, ii_mul, ll_add, ll_sub, ll_mul, ii_le, ii_lt, ii_eq, ii_t, bi_0, bi_1, rd_z, wr_z, rr_z, rl_z, wl_z, tn_n, st_s, st_j, st_i, st_c, st_2, sl_s, sl_j, sl_i, sl_c, sl_1, Int.natCast_add, Int.cast_ofNat_Int, if_pos, if_neg, decide_eq_false_iff_not, decide_eq_true_eq, in_ll, ii_long, Nat.zero_add, Nat.mul_zero, reduceCtorEq]
      · simp (disch := omega) only [c1, tk, e3, if_true, if_false, Option.bind_some, Option.map_some, ii_lit, ll_lit, ii_neg, ll_neg, ii_add, ii_sub, ii_mul, ll_add, ll_sub, ll_mul, ii_le, ii_lt, ii_eq, ii_t, bi_0, bi_1, rd_z, wr_z, rr_z, rl_z, wl_z, tn_n, st_s, st_j, st_i, st_c, st_2, sl_s, sl_j, sl_i, sl_c, sl_1, Int.natCast_add, Int.cast_ofNat_Int, if_pos, if_neg, decide_eq_false_iff_not, decide_eq_true_eq, in_ll, ii_long, Nat.zero_add, Nat.mul_zero, reduceCtorEq]
    · unfold fX8_change fX8_change_0 fX8_change_28
      by_cases k1 : 0 ≤ r ∧ r < A.R
      · by_cases k2 : 0 ≤ w ∧ w ≤ 6
        · rw [decide_eq_false (fun q => hv ⟨k1, k2.1, k2.2, q⟩)] at io
          simp (disch := omega) only [c2, io, e4, if_true, if_false, Option.bind_some, Option.map_some, ii_lit, ll_lit, ii_neg, ll_neg, ii_add, ii_sub, ii_mul, ll_add, ll_sub, ll_mul, ii_le, ii_lt, ii_eq, ii_t, bi_0, bi_1, rd_z, wr_z, rr_z, rl_z, wl_z, tn_n, st_s, st_j, st_i, st_c, st_2, sl_s, sl_j, sl_i, sl_c, sl_1, Int.natCast_add, Int.cast_ofNat_Int, if_pos, if_neg, decide_eq_false_iff_not, decide_eq_true_eq, in_ll, ii_long, Nat.zero_add, Nat.mul_zero, reduceCtorEq]
        · simp (disch := omega) only [c2, io, e4, if_true, if_false, Option.bind_some, Option.map_some, ii_lit, ll_lit, ii_neg, ll_neg, ii_add, ii_sub, ii_mul, ll_add, ll_sub, ll_mul, ii_le, ii_lt, ii_eq, ii_t, bi_0, bi_1, rd_z, wr_z, rr_z, rl_z, wl_z, tn_n, st_s, st_j, st_i, st_c, st_2, sl_s, sl_j, sl_i, sl_c, sl_1, Int.natCast_add, Int.cast_ofNat_Int, if_pos, if_neg, decide_eq_false_iff_not, decide_eq_true_eq, in_ll, ii_long, Nat.zero_add, Nat.mul_zero, reduceCtorEq]
      · simp (disch := omega) only [c2, io, e4, if_true, if_false, Option.bind_some, Option.map_some, ii_lit, ll_lit, ii_neg, ll_neg, ii_add, ii_sub, ii_mul, ll_add, ll_sub, ll_mul, ii_le, ii_lt, ii_eq, ii_t, bi_0, bi_1, rd_z, wr_z, rr_z, rl_z, wl_z, tn_n, st_s, st_j, st_i, st_c, st_2, sl_s, sl_j, sl_i, sl_c, sl_1, Int.natCast_add, Int.cast_ofNat_Int, if_pos, if_neg, decide_eq_false_iff_not, decide_eq_true_eq, in_ll, ii_long, Nat.zero_add, Nat.mul_zero, reduceCtorEq]
