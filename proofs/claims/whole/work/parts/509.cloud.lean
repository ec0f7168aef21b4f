-- THE CLASS'S CLOUD: what holds in a point, packed points, the next point
theorem C_sumIn_13 {σ : mm} {b : Nat} {A : bdy} (hC : isC σ b A) {x : Nat → Int} (hx : ∀ l, l < A.n → σ.1 13 0 l = ii (x l)) {r : Nat} (hr : r < A.R) : fX4_sumIn_13 (8 * b + r) (ii A.n) σ = some (ii (sm A r x)) := by
  obtain ⟨⟨hn4, hR8⟩, hn, hR, hlo, hhi, hk, hnu, -⟩ := hC
  unfold fX4_sumIn_13 fX4_sumIn_13_0
  refine lp_f (fun k => (ii (smf (fun l => A.rw r (3 + l) * x l) k), ii k)) A.n rfl ?_ ?_
  · intro k hk
    simp (disch := omega) only [fX4_sumIn_13_5_L, fX4_sumIn_13_5, hnu, hx, smf, if_true, if_false, Option.bind_some, Option.map_some, ii_lit, ll_lit, ii_neg, ll_neg, ii_add, ii_sub, ii_mul, ll_add, ll_sub, ll_mul, ii_le, ii_lt, ii_eq, ii_t, bi_0, bi_1, rd_z, wr_z, rr_z, rl_z, wl_z, tn_n, st_s, st_j, st_i, st_c, st_2, sl_s, sl_j, sl_i, sl_c, sl_1, Int.natCast_add, Int.cast_ofNat_Int, if_pos, if_neg]
  · simp (disch := omega) only [fX4_sumIn_13_5_L, fX4_sumIn_13_5, sm, if_true, if_false, Option.bind_some, Option.map_some, ii_lit, ll_lit, ii_neg, ll_neg, ii_add, ii_sub, ii_mul, ll_add, ll_sub, ll_mul, ii_le, ii_lt, ii_eq, ii_t, bi_0, bi_1, rd_z, wr_z, rr_z, rl_z, wl_z, tn_n, st_s, st_j, st_i, st_c, st_2, sl_s, sl_j, sl_i, sl_c, sl_1, Int.natCast_add, Int.cast_ofNat_Int, if_pos, if_neg]
theorem C_brokenIn_13 {σ : mm} {b : Nat} {A : bdy} (hC : isC σ b A) (hA : okb A) {x : Nat → Int} (hx : ∀ l, l < A.n → σ.1 13 0 l = ii (x l)) (hr : ∀ l, l < A.n → -999 ≤ x l ∧ x l ≤ 999) : fX0_brokenIn_13 b σ = some (ii (mkf (fun r => !hdr A x r) A.R)) := by
  have hn := hC.2.1
  have hR := hC.2.2.1
  have hR8 := hA.2.1
  unfold fX0_brokenIn_13 fX0_brokenIn_13_0
  refine lp_f (fun k => (ii (mkf (fun r => !hdr A x r) k), ii k)) A.R rfl ?_ ?_
  · intro k hk
    have hs := C_sumIn_13 hC hx hk
    have hrow := hA.2.2.2.1 k hk
    have hsr := sm_r hA hk (x := x) (B := 999) (by omega) hr
    have hlt := mkf_lt (fun r => !hdr A x r) k
    obtain ⟨⟨q1, q2⟩, ⟨q3, q4⟩, ⟨q5, q6⟩, -⟩ := hrow
    have h0 := hC.2.2.2.2.2.1 k 0 hk (by decide)
    have hh := C_allowsAs (σ := σ) (i := 8 * b + k) (hC.2.2.2.2.2.1 k 1 hk (by decide)) (hC.2.2.2.2.2.1 k 2 hk (by decide)) q1 q2 q5 q6 (s := sm A k x) (by omega) (by omega) q3 q4
    have hl : fX4_allows (8 * b + k) (ii (sm A k x)) σ = some (hdr A x k) := by
      unfold fX4_allows fX4_allows_0
      rw [h0, hh]
      rfl
    by_cases h : hdr A x k = true
    · have ht : (true = false) = False := by simp
      have ht2 : (false = true) = False := by simp
      simp (disch := omega) only [fX0_brokenIn_13_4_L, fX0_brokenIn_13_4, fX0_brokenIn_13_44, hR, hn, hs, hl, h, mkf, Bool.not_true, ht, ht2, Nat.add_zero, if_true, if_false, Option.bind_some, Option.map_some, ii_lit, ll_lit, ii_neg, ll_neg, ii_add, ii_sub, ii_mul, ll_add, ll_sub, ll_mul, ii_le, ii_lt, ii_eq, ii_t, bi_0, bi_1, rd_z, wr_z, rr_z, rl_z, wl_z, tn_n, st_s, st_j, st_i, st_c, st_2, sl_s, sl_j, sl_i, sl_c, sl_1, Int.natCast_add, Int.cast_ofNat_Int, if_pos, if_neg]
    · simp only [Bool.not_eq_true] at h
      simp (disch := omega) only [fX0_brokenIn_13_4_L, fX0_brokenIn_13_4, fX0_brokenIn_13_44, hR, hn, hs, hl, h, or_bit, mkf, Bool.not_false, if_true, if_false, Option.bind_some, Option.map_some, ii_lit, ll_lit, ii_neg, ll_neg, ii_add, ii_sub, ii_mul, ll_add, ll_sub, ll_mul, ii_le, ii_lt, ii_eq, ii_t, bi_0, bi_1, rd_z, wr_z, rr_z, rl_z, wl_z, tn_n, st_s, st_j, st_i, st_c, st_2, sl_s, sl_j, sl_i, sl_c, sl_1, Int.natCast_add, Int.cast_ofNat_Int, if_pos, if_neg]
  · simp (disch := omega) only [fX0_brokenIn_13_4_L, fX0_brokenIn_13_4, hR, if_true, if_false, Option.bind_some, Option.map_some, ii_lit, ll_lit, ii_neg, ll_neg, ii_add, ii_sub, ii_mul, ll_add, ll_sub, ll_mul, ii_le, ii_lt, ii_eq, ii_t, bi_0, bi_1, rd_z, wr_z, rr_z, rl_z, wl_z, tn_n, st_s, st_j, st_i, st_c, st_2, sl_s, sl_j, sl_i, sl_c, sl_1, Int.natCast_add, Int.cast_ofNat_Int, if_pos, if_neg]
theorem C_sumIn_20 {σ : mm} {b : Nat} {A : bdy} (hC : isC σ b A) {x : Nat → Int} (hx : ∀ l, l < A.n → σ.1 20 0 l = ii (x l)) {r : Nat} (hr : r < A.R) : fX4_sumIn_20 (8 * b + r) (ii A.n) σ = some (ii (sm A r x)) := by
  obtain ⟨⟨hn4, hR8⟩, hn, hR, hlo, hhi, hk, hnu, -⟩ := hC
  unfold fX4_sumIn_20 fX4_sumIn_20_0
  refine lp_f (fun k => (ii (smf (fun l => A.rw r (3 + l) * x l) k), ii k)) A.n rfl ?_ ?_
  · intro k hk
    simp (disch := omega) only [fX4_sumIn_20_5_L, fX4_sumIn_20_5, hnu, hx, smf, if_true, if_false, Option.bind_some, Option.map_some, ii_lit, ll_lit, ii_neg, ll_neg, ii_add, ii_sub, ii_mul, ll_add, ll_sub, ll_mul, ii_le, ii_lt, ii_eq, ii_t, bi_0, bi_1, rd_z, wr_z, rr_z, rl_z, wl_z, tn_n, st_s, st_j, st_i, st_c, st_2, sl_s, sl_j, sl_i, sl_c, sl_1, Int.natCast_add, Int.cast_ofNat_Int, if_pos, if_neg]
  · simp (disch := omega) only [fX4_sumIn_20_5_L, fX4_sumIn_20_5, sm, if_true, if_false, Option.bind_some, Option.map_some, ii_lit, ll_lit, ii_neg, ll_neg, ii_add, ii_sub, ii_mul, ll_add, ll_sub, ll_mul, ii_le, ii_lt, ii_eq, ii_t, bi_0, bi_1, rd_z, wr_z, rr_z, rl_z, wl_z, tn_n, st_s, st_j, st_i, st_c, st_2, sl_s, sl_j, sl_i, sl_c, sl_1, Int.natCast_add, Int.cast_ofNat_Int, if_pos, if_neg]
theorem C_brokenIn_20 {σ : mm} {b : Nat} {A : bdy} (hC : isC σ b A) (hA : okb A) {x : Nat → Int} (hx : ∀ l, l < A.n → σ.1 20 0 l = ii (x l)) (hr : ∀ l, l < A.n → -999 ≤ x l ∧ x l ≤ 999) : fX0_brokenIn_20 b σ = some (ii (mkf (fun r => !hdr A x r) A.R)) := by
  have hn := hC.2.1
  have hR := hC.2.2.1
  have hR8 := hA.2.1
  unfold fX0_brokenIn_20 fX0_brokenIn_20_0
  refine lp_f (fun k => (ii (mkf (fun r => !hdr A x r) k), ii k)) A.R rfl ?_ ?_
  · intro k hk
    have hs := C_sumIn_20 hC hx hk
    have hrow := hA.2.2.2.1 k hk
    have hsr := sm_r hA hk (x := x) (B := 999) (by omega) hr
    have hlt := mkf_lt (fun r => !hdr A x r) k
    obtain ⟨⟨q1, q2⟩, ⟨q3, q4⟩, ⟨q5, q6⟩, -⟩ := hrow
    have h0 := hC.2.2.2.2.2.1 k 0 hk (by decide)
    have hh := C_allowsAs (σ := σ) (i := 8 * b + k) (hC.2.2.2.2.2.1 k 1 hk (by decide)) (hC.2.2.2.2.2.1 k 2 hk (by decide)) q1 q2 q5 q6 (s := sm A k x) (by omega) (by omega) q3 q4
    have hl : fX4_allows (8 * b + k) (ii (sm A k x)) σ = some (hdr A x k) := by
      unfold fX4_allows fX4_allows_0
      rw [h0, hh]
      rfl
    by_cases h : hdr A x k = true
    · have ht : (true = false) = False := by simp
      have ht2 : (false = true) = False := by simp
      simp (disch := omega) only [fX0_brokenIn_20_4_L, fX0_brokenIn_20_4, fX0_brokenIn_20_44, hR, hn, hs, hl, h, mkf, Bool.not_true, ht, ht2, Nat.add_zero, if_true, if_false, Option.bind_some, Option.map_some, ii_lit, ll_lit, ii_neg, ll_neg, ii_add, ii_sub, ii_mul, ll_add, ll_sub, ll_mul, ii_le, ii_lt, ii_eq, ii_t, bi_0, bi_1, rd_z, wr_z, rr_z, rl_z, wl_z, tn_n, st_s, st_j, st_i, st_c, st_2, sl_s, sl_j, sl_i, sl_c, sl_1, Int.natCast_add, Int.cast_ofNat_Int, if_pos, if_neg]
    · simp only [Bool.not_eq_true] at h
      simp (disch := omega) only [fX0_brokenIn_20_4_L, fX0_brokenIn_20_4, fX0_brokenIn_20_44, hR, hn, hs, hl, h, or_bit, mkf, Bool.not_false, if_true, if_false, Option.bind_some, Option.map_some, ii_lit, ll_lit, ii_neg, ll_neg, ii_add, ii_sub, ii_mul, ll_add, ll_sub, ll_mul, ii_le, ii_lt, ii_eq, ii_t, bi_0, bi_1, rd_z, wr_z, rr_z, rl_z, wl_z, tn_n, st_s, st_j, st_i, st_c, st_2, sl_s, sl_j, sl_i, sl_c, sl_1, Int.natCast_add, Int.cast_ofNat_Int, if_pos, if_neg]
  · simp (disch := omega) only [fX0_brokenIn_20_4_L, fX0_brokenIn_20_4, hR, if_true, if_false, Option.bind_some, Option.map_some, ii_lit, ll_lit, ii_neg, ll_neg, ii_add, ii_sub, ii_mul, ll_add, ll_sub, ll_mul, ii_le, ii_lt, ii_eq, ii_t, bi_0, bi_1, rd_z, wr_z, rr_z, rl_z, wl_z, tn_n, st_s, st_j, st_i, st_c, st_2, sl_s, sl_j, sl_i, sl_c, sl_1, Int.natCast_add, Int.cast_ofNat_Int, if_pos, if_neg]
theorem pk_or {m k : Nat} {a : Int} (h0 : 0 ≤ a) (hm : m < 2 ^ (5 * k)) (hk : k < 4) : ii (m : Nat) ||| (ii a <<< (ii (5 * (k : Int)) &&& ii 31)) = ii ((m + a.toNat * 2 ^ (5 * k) : Nat)) := by
  rw [show (5 : Int) * (k : Int) = ((5 * k : Nat) : Int) by omega, show a = ((a.toNat : Nat) : Int) by omega, shl_n _ (by omega), or_n, or_hi hm]
  rfl
theorem C_pack_13 {σ : mm} {n : Nat} (hn : n ≤ 4) {x : Nat → Int} (hx : ∀ l, l < n → σ.1 13 0 l = ii (x l)) (hr : ∀ l, l < n → -9 ≤ x l ∧ x l ≤ 22) : fX7_pack_13 (ii n) σ = some (ii (pkf x n)) := by
  unfold fX7_pack_13 fX7_pack_13_0
  refine lp_f (fun k => (ii (pkf x k), ii k)) n rfl ?_ ?_
  · intro k hk
    have h1 := hr k hk
    have h2 := pkf_lt (x := x) (n := k) (fun l hl => hr l (by omega))
    simp (disch := omega) only [fX7_pack_13_4_L, fX7_pack_13_4, hx, pk_or, pkf, if_true, if_false, Option.bind_some, Option.map_some, ii_lit, ll_lit, ii_neg, ll_neg, ii_add, ii_sub, ii_mul, ll_add, ll_sub, ll_mul, ii_le, ii_lt, ii_eq, ii_t, bi_0, bi_1, rd_z, wr_z, rr_z, rl_z, wl_z, tn_n, st_s, st_j, st_i, st_c, st_2, sl_s, sl_j, sl_i, sl_c, sl_1, Int.natCast_add, Int.cast_ofNat_Int, if_pos, if_neg]
  · simp (disch := omega) only [fX7_pack_13_4_L, fX7_pack_13_4, if_true, if_false, Option.bind_some, Option.map_some, ii_lit, ll_lit, ii_neg, ll_neg, ii_add, ii_sub, ii_mul, ll_add, ll_sub, ll_mul, ii_le, ii_lt, ii_eq, ii_t, bi_0, bi_1, rd_z, wr_z, rr_z, rl_z, wl_z, tn_n, st_s, st_j, st_i, st_c, st_2, sl_s, sl_j, sl_i, sl_c, sl_1, Int.natCast_add, Int.cast_ofNat_Int, if_pos, if_neg]
theorem C_pack_15 {σ : mm} {n : Nat} (hn : n ≤ 4) {x : Nat → Int} (hx : ∀ l, l < n → σ.1 15 0 l = ii (x l)) (hr : ∀ l, l < n → -9 ≤ x l ∧ x l ≤ 22) : fX7_pack_15 (ii n) σ = some (ii (pkf x n)) := by
  unfold fX7_pack_15 fX7_pack_15_0
  refine lp_f (fun k => (ii (pkf x k), ii k)) n rfl ?_ ?_
  · intro k hk
    have h1 := hr k hk
    have h2 := pkf_lt (x := x) (n := k) (fun l hl => hr l (by omega))
    simp (disch := omega) only [fX7_pack_15_4_L, fX7_pack_15_4, hx, pk_or, pkf, if_true, if_false, Option.bind_some, Option.map_some, ii_lit, ll_lit, ii_neg, ll_neg, ii_add, ii_sub, ii_mul, ll_add, ll_sub, ll_mul, ii_le, ii_lt, ii_eq, ii_t, bi_0, bi_1, rd_z, wr_z, rr_z, rl_z, wl_z, tn_n, st_s, st_j, st_i, st_c, st_2, sl_s, sl_j, sl_i, sl_c, sl_1, Int.natCast_add, Int.cast_ofNat_Int, if_pos, if_neg]
  · simp (disch := omega) only [fX7_pack_15_4_L, fX7_pack_15_4, if_true, if_false, Option.bind_some, Option.map_some, ii_lit, ll_lit, ii_neg, ll_neg, ii_add, ii_sub, ii_mul, ll_add, ll_sub, ll_mul, ii_le, ii_lt, ii_eq, ii_t, bi_0, bi_1, rd_z, wr_z, rr_z, rl_z, wl_z, tn_n, st_s, st_j, st_i, st_c, st_2, sl_s, sl_j, sl_i, sl_c, sl_1, Int.natCast_add, Int.cast_ofNat_Int, if_pos, if_neg]
theorem C_pack_16 {σ : mm} {n : Nat} (hn : n ≤ 4) {x : Nat → Int} (hx : ∀ l, l < n → σ.1 16 0 l = ii (x l)) (hr : ∀ l, l < n → -9 ≤ x l ∧ x l ≤ 22) : fX7_pack_16 (ii n) σ = some (ii (pkf x n)) := by
  unfold fX7_pack_16 fX7_pack_16_0
  refine lp_f (fun k => (ii (pkf x k), ii k)) n rfl ?_ ?_
  · intro k hk
    have h1 := hr k hk
    have h2 := pkf_lt (x := x) (n := k) (fun l hl => hr l (by omega))
    simp (disch := omega) only [fX7_pack_16_4_L, fX7_pack_16_4, hx, pk_or, pkf, if_true, if_false, Option.bind_some, Option.map_some, ii_lit, ll_lit, ii_neg, ll_neg, ii_add, ii_sub, ii_mul, ll_add, ll_sub, ll_mul, ii_le, ii_lt, ii_eq, ii_t, bi_0, bi_1, rd_z, wr_z, rr_z, rl_z, wl_z, tn_n, st_s, st_j, st_i, st_c, st_2, sl_s, sl_j, sl_i, sl_c, sl_1, Int.natCast_add, Int.cast_ofNat_Int, if_pos, if_neg]
  · simp (disch := omega) only [fX7_pack_16_4_L, fX7_pack_16_4, if_true, if_false, Option.bind_some, Option.map_some, ii_lit, ll_lit, ii_neg, ll_neg, ii_add, ii_sub, ii_mul, ll_add, ll_sub, ll_mul, ii_le, ii_lt, ii_eq, ii_t, bi_0, bi_1, rd_z, wr_z, rr_z, rl_z, wl_z, tn_n, st_s, st_j, st_i, st_c, st_2, sl_s, sl_j, sl_i, sl_c, sl_1, Int.natCast_add, Int.cast_ofNat_Int, if_pos, if_neg]
-- the next point
theorem dm_succ {x w : Int} (hw : 1 ≤ w) (h : x % w + 1 < w) : (x + 1) / w = x / w ∧ (x + 1) % w = x % w + 1 := by
  have e := Int.emod_add_mul_ediv x w
  have h0 := Int.emod_nonneg x (show w ≠ 0 by omega)
  have e2 : x + 1 = (x % w + 1) + w * (x / w) := by omega
  constructor
  · rw [e2, Int.add_mul_ediv_left _ _ (by omega), Int.ediv_eq_zero_of_lt (by omega) h, Int.zero_add]
  · rw [e2, Int.add_mul_emod_self_left, Int.emod_eq_of_lt (by omega) h]
theorem dm_carry {x w : Int} (hw : 1 ≤ w) (h : ¬ x % w + 1 < w) : (x + 1) / w = x / w + 1 ∧ (x + 1) % w = 0 := by
  have e := Int.emod_add_mul_ediv x w
  have h0 := Int.emod_lt_of_pos x (show 0 < w by omega)
  have e2 : x + 1 = w + w * (x / w) := by omega
  constructor
  · rw [e2, Int.add_mul_ediv_left _ _ (by omega), Int.ediv_self (by omega)]
    omega
  · rw [e2, Int.add_mul_emod_self_left, Int.emod_self]
theorem lft_same {A : bdy} {k k' : Int} {j : Nat} (h : lft A k j = lft A k' j) (i : Nat) : lft A k (j + i) = lft A k' (j + i) := by
  induction i with
  | zero => exact h
  | succ i ih =>
    rw [← Nat.add_assoc, lft, lft, ih]
theorem pt_lft {A : bdy} {k j : Nat} (hj : j < A.n) : pt A k (A.n - 1 - j) = A.lo (A.n - 1 - j) + lft A k j % wd A (A.n - 1 - j) := by
  unfold pt
  rw [if_pos (by omega), show A.n - 1 - (A.n - 1 - j) = j by omega]
theorem C_stepOn {σ : mm} {b : Nat} {A : bdy} (hC : isC σ b A) (hA : okb A) {k : Nat} (hx : ∀ l, l < A.n → σ.1 13 0 l = ii (pt A k l)) : ∃ σ', fX1_stepOn b σ = some σ' ∧ (∀ l, l < A.n → σ'.1 13 0 l = ii (pt A (k + 1) l)) ∧ Fr [13] [] σ σ' := by
  have hn1 := hA.1
  obtain ⟨⟨hn4, hR8⟩, hn, hR, hlo, hhi, -⟩ := hC
  unfold fX1_stepOn fX1_stepOn_0
  simp (disch := omega) only [hn, if_true, if_false, Option.bind_some, Option.map_some, ii_lit, ll_lit, ii_neg, ll_neg, ii_add, ii_sub, ii_mul, ll_add, ll_sub, ll_mul, ii_le, ii_lt, ii_eq, ii_t, bi_0, bi_1, rd_z, wr_z, rr_z, rl_z, wl_z, tn_n, st_s, st_j, st_i, st_c, st_2, sl_s, sl_j, sl_i, sl_c, sl_1, Int.natCast_add, Int.cast_ofNat_Int, if_pos, if_neg]
  refine lp_i (fun j s => s.1 = ii ((A.n : Int) - 1 - j) ∧ lft A ((k + 1 : Nat)) j = lft A k j + 1 ∧ (∀ l, l < A.n - j → s.2.1 13 0 l = ii (pt A k l)) ∧ (∀ l, A.n - j ≤ l → l < A.n → s.2.1 13 0 l = ii (pt A (k + 1) l)) ∧ Fr [13] [] σ s.2) _ A.n ⟨by simp, by simp [lft], fun l hl => hx l hl, fun l h1 h2 => by omega, Fr.rf _ _ _⟩ ?_ ?_
  · rintro j ⟨a, s⟩ hj ⟨h1, h2, h3, h4, h5⟩
    have h1 : a = ii ((A.n : Int) - 1 - j) := h1
    subst h1
    have hw := hA.wdr (l := A.n - 1 - j) (by omega)
    have hbx := hA.bx (l := A.n - 1 - j) (by omega)
    have e : ((A.n : Int) - 1 - (j : Int)).toNat = A.n - 1 - j := by omega
    have ew : A.hi (A.n - 1 - j) - A.lo (A.n - 1 - j) + 1 = wd A (A.n - 1 - j) := rfl
    have e8 : ∀ l, l < 4 → s.1 8 b l = ii (A.lo l) := fun l hl => by rw [h5.1 8 (by decide) (by decide)]; exact hlo l hl
    have e9 : ∀ l, l < 4 → s.1 9 b l = ii (A.hi l) := fun l hl => by rw [h5.1 9 (by decide) (by decide)]; exact hhi l hl
    have e13 : s.1 13 0 (A.n - 1 - j) = ii (pt A k (A.n - 1 - j)) := h3 _ (by omega)
    have hp := pt_9 hA k (l := A.n - 1 - j) (by omega)
    have p1 := pt_lft (A := A) (k := k) hj
    have p2 := pt_lft (A := A) (k := k + 1) hj
    rw [h2] at p2
    by_cases h : pt A k (A.n - 1 - j) < A.hi (A.n - 1 - j)
    · right
      have hc : lft A k j % wd A (A.n - 1 - j) + 1 < wd A (A.n - 1 - j) := by omega
      obtain ⟨q1, q2⟩ := dm_succ (by omega) hc
      rw [q2] at p2
      have p3 : pt A (k + 1) (A.n - 1 - j) = pt A k (A.n - 1 - j) + 1 := by omega
      refine ⟨stI s 13 0 (A.n - 1 - j) (ii (pt A (k + 1) (A.n - 1 - j))), ?_, ?_, h5.sI (by decide) (by decide)⟩
      · rw [p3]
        simp (disch := omega) only [fX1_stepOn_7_L, fX1_stepOn_7, e, e8, e9, e13, if_true, if_false, Option.bind_some, Option.map_some, ii_lit, ll_lit, ii_neg, ll_neg, ii_add, ii_sub, ii_mul, ll_add, ll_sub, ll_mul, ii_le, ii_lt, ii_eq, ii_t, bi_0, bi_1, rd_z, wr_z, rr_z, rl_z, wl_z, tn_n, st_s, st_j, st_i, st_c, st_2, sl_s, sl_j, sl_i, sl_c, sl_1, Int.natCast_add, Int.cast_ofNat_Int, if_pos, if_neg]
      · intro l hl
        by_cases hlj : l = A.n - 1 - j
        · subst hlj
          rw [st_s]
        · rw [st_j _ _ hlj]
          by_cases hl2 : l < A.n - 1 - j
          · rw [h3 l (by omega)]
            have hs : lft A ((k + 1 : Nat)) (j + 1) = lft A k (j + 1) := by
              rw [lft, lft, h2, q1]
            have hs2 := lft_same hs (A.n - 1 - l - (j + 1))
            rw [show j + 1 + (A.n - 1 - l - (j + 1)) = A.n - 1 - l by omega] at hs2
            unfold pt
            rw [if_pos hl, if_pos hl, hs2]
          · exact h4 l (by omega) hl
    · left
      have hb := pt_r hA k (l := A.n - 1 - j) (by omega)
      have hc : ¬ lft A k j % wd A (A.n - 1 - j) + 1 < wd A (A.n - 1 - j) := by omega
      obtain ⟨q1, q2⟩ := dm_carry (by omega) hc
      rw [q2] at p2
      refine ⟨(ii ((A.n : Int) - 1 - ((j + 1 : Nat))), stI s 13 0 (A.n - 1 - j) (ii (A.lo (A.n - 1 - j)))), ?_, rfl, ?_, ?_, ?_, h5.sI (by decide) (by decide)⟩
      · simp (disch := omega) only [fX1_stepOn_7_L, fX1_stepOn_7, e, e8, e9, e13, if_true, if_false, Option.bind_some, Option.map_some, ii_lit, ll_lit, ii_neg, ll_neg, ii_add, ii_sub, ii_mul, ll_add, ll_sub, ll_mul, ii_le, ii_lt, ii_eq, ii_t, bi_0, bi_1, rd_z, wr_z, rr_z, rl_z, wl_z, tn_n, st_s, st_j, st_i, st_c, st_2, sl_s, sl_j, sl_i, sl_c, sl_1, Int.natCast_add, Int.cast_ofNat_Int, if_pos, if_neg]
        rw [show (A.n : Int) - 1 - (j : Int) + -1 = (A.n : Int) - 1 - ((j : Int) + 1) by omega]
      · rw [lft, lft, h2, q1]
      · intro l hl
        show (stI s 13 0 (A.n - 1 - j) _).1 13 0 l = _
        rw [st_j _ _ (by omega)]
        exact h3 l (by omega)
      · intro l hl1 hl2
        show (stI s 13 0 (A.n - 1 - j) _).1 13 0 l = _
        by_cases hlj : l = A.n - 1 - j
        · subst hlj
          rw [st_s, p2, Int.add_zero]
        · rw [st_j _ _ hlj]
          exact h4 l (by omega) hl2
  · rintro ⟨a, s⟩ ⟨h1, h2, h3, h4, h5⟩
    have h1 : a = ii ((A.n : Int) - 1 - A.n) := h1
    subst h1
    refine ⟨s, ?_, ?_, h5⟩
    · simp (disch := omega) only [fX1_stepOn_7_L, fX1_stepOn_7, if_true, if_false, Option.bind_some, Option.map_some, ii_lit, ll_lit, ii_neg, ll_neg, ii_add, ii_sub, ii_mul, ll_add, ll_sub, ll_mul, ii_le, ii_lt, ii_eq, ii_t, bi_0, bi_1, rd_z, wr_z, rr_z, rl_z, wl_z, tn_n, st_s, st_j, st_i, st_c, st_2, sl_s, sl_j, sl_i, sl_c, sl_1, Int.natCast_add, Int.cast_ofNat_Int, if_pos, if_neg]
    · intro l hl
      exact h4 l (by omega) hl
/-- a copy of a row -/
theorem cp_z {σ : mm} {c i n c' i' n' : Nat} {sp dp k : Nat} (h1 : sp + k ≤ n) (h2 : dp + k ≤ n') (h3 : n < 2147483648) (h4 : n' < 2147483648) : ∃ σ', cpI σ c i n c' i' n' (ii sp) (ii dp) (ii k) = some σ' ∧ (∀ j, σ'.1 c' i' j = if dp ≤ j ∧ j < dp + k then σ.1 c i (sp + (j - dp)) else σ.1 c' i' j) ∧ (∀ a, a ≠ c' → σ'.1 a = σ.1 a) ∧ (∀ b, b ≠ i' → σ'.1 c' b = σ.1 c' b) ∧ σ'.2 = σ.2 := by
  have e1 : (ii (sp : Int)).toInt = sp := ii_t (by omega) (by omega)
  have e2 : (ii (dp : Int)).toInt = dp := ii_t (by omega) (by omega)
  have e3 : (ii (k : Int)).toInt = k := ii_t (by omega) (by omega)
  unfold cpI
  rw [e1, e2, e3, if_pos (by omega)]
  refine ⟨_, rfl, ?_, ?_, ?_, rfl⟩
  · intro j
    show up1 σ.1 c' _ c' i' j = _
    rw [up1_same, up1_same]
    rfl
  · intro a ha
    exact up1_ne _ _ ha
  · intro b hb
    show up1 σ.1 c' _ c' b = _
    rw [up1_same, up1_ne _ _ hb]
theorem cl_z {σ : mm} {c i n c' i' n' : Nat} {sp dp k : Nat} (h1 : sp + k ≤ n) (h2 : dp + k ≤ n') (h3 : n < 2147483648) (h4 : n' < 2147483648) : ∃ σ', cpL σ c i n c' i' n' (ii sp) (ii dp) (ii k) = some σ' ∧ (∀ j, σ'.2 c' i' j = if dp ≤ j ∧ j < dp + k then σ.2 c i (sp + (j - dp)) else σ.2 c' i' j) ∧ (∀ a, a ≠ c' → σ'.2 a = σ.2 a) ∧ (∀ b, b ≠ i' → σ'.2 c' b = σ.2 c' b) ∧ σ'.1 = σ.1 := by
  have e1 : (ii (sp : Int)).toInt = sp := ii_t (by omega) (by omega)
  have e2 : (ii (dp : Int)).toInt = dp := ii_t (by omega) (by omega)
  have e3 : (ii (k : Int)).toInt = k := ii_t (by omega) (by omega)
  unfold cpL
  rw [e1, e2, e3, if_pos (by omega)]
  refine ⟨_, rfl, ?_, ?_, ?_, rfl⟩
  · intro j
    show up1 σ.2 c' _ c' i' j = _
    rw [up1_same, up1_same]
    rfl
  · intro a ha
    exact up1_ne _ _ ha
  · intro b hb
    show up1 σ.2 c' _ c' b = _
    rw [up1_same, up1_ne _ _ hb]
theorem cp_fr {ks fs : List Nat} {σ0 σ σ' : mm} {c' : Nat} (f : Fr ks fs σ0 σ) (h3 : ∀ a, a ≠ c' → σ'.1 a = σ.1 a) (h4 : σ'.2 = σ.2) (hc : c' ∈ ks) (h32 : c' ≠ 32) : Fr ks fs σ0 σ' :=
  f.tr ⟨fun a _ ha => h3 a (fun e => ha (e ▸ hc)), fun a _ => by rw [h4], fun j _ => by rw [h3 32 (Ne.symm h32)]⟩
/-- what the cloud tells of a body -/
def cloudP (σ : mm) (A : bdy) : Prop := σ.1 1 0 1 = ii (np A) ∧ σ.1 1 0 2 = ii (cnf (inP A) (np A)) ∧ ∀ k, k < np A → σ.1 12 0 k = ii (spt A k)
theorem lft_0 (A : bdy) (j : Nat) : lft A 0 j = 0 := by
  induction j with
  | zero => rfl
  | succ j ih => rw [lft, ih, Int.zero_ediv]
theorem pt_0 (A : bdy) (l : Nat) : pt A 0 l = A.lo l := by
  unfold pt
  rw [show ((0 : Nat) : Int) = 0 from rfl, lft_0, Int.zero_emod, Int.add_zero]
  split <;> rfl
theorem min_ii {a b : Int} (h1 : -2147483648 ≤ a) (h2 : a < 2147483648) (h3 : -2147483648 ≤ b) (h4 : b < 2147483648) : fJ9_min_7cf53 (ii a) (ii b) = ii (if b < a then b else a) := by
  unfold fJ9_min_7cf53 fJ9_min_7cf53_0
  by_cases h : b < a
  · simp (disch := omega) only [if_true, if_false, Option.bind_some, Option.map_some, ii_lit, ll_lit, ii_neg, ll_neg, ii_add, ii_sub, ii_mul, ll_add, ll_sub, ll_mul, ii_le, ii_lt, ii_eq, ii_t, bi_0, bi_1, rd_z, wr_z, rr_z, rl_z, wl_z, tn_n, st_s, st_j, st_i, st_c, st_2, sl_s, sl_j, sl_i, sl_c, sl_1, Int.natCast_add, Int.cast_ofNat_Int, if_pos, if_neg]
  · simp (disch := omega) only [if_true, if_false, Option.bind_some, Option.map_some, ii_lit, ll_lit, ii_neg, ll_neg, ii_add, ii_sub, ii_mul, ll_add, ll_sub, ll_mul, ii_le, ii_lt, ii_eq, ii_t, bi_0, bi_1, rd_z, wr_z, rr_z, rl_z, wl_z, tn_n, st_s, st_j, st_i, st_c, st_2, sl_s, sl_j, sl_i, sl_c, sl_1, Int.natCast_add, Int.cast_ofNat_Int, if_pos, if_neg]
theorem max_ii {a b : Int} (h1 : -2147483648 ≤ a) (h2 : a < 2147483648) (h3 : -2147483648 ≤ b) (h4 : b < 2147483648) : fJ9_max_7cf53 (ii a) (ii b) = ii (if a < b then b else a) := by
  unfold fJ9_max_7cf53 fJ9_max_7cf53_0
  by_cases h : a < b
  · simp (disch := omega) only [if_true, if_false, Option.bind_some, Option.map_some, ii_lit, ll_lit, ii_neg, ll_neg, ii_add, ii_sub, ii_mul, ll_add, ll_sub, ll_mul, ii_le, ii_lt, ii_eq, ii_t, bi_0, bi_1, rd_z, wr_z, rr_z, rl_z, wl_z, tn_n, st_s, st_j, st_i, st_c, st_2, sl_s, sl_j, sl_i, sl_c, sl_1, Int.natCast_add, Int.cast_ofNat_Int, if_pos, if_neg]
  · simp (disch := omega) only [if_true, if_false, Option.bind_some, Option.map_some, ii_lit, ll_lit, ii_neg, ll_neg, ii_add, ii_sub, ii_mul, ll_add, ll_sub, ll_mul, ii_le, ii_lt, ii_eq, ii_t, bi_0, bi_1, rd_z, wr_z, rr_z, rl_z, wl_z, tn_n, st_s, st_j, st_i, st_c, st_2, sl_s, sl_j, sl_i, sl_c, sl_1, Int.natCast_add, Int.cast_ofNat_Int, if_pos, if_neg]
theorem C_refresh {σ : mm} {A : bdy} (hC : isC σ 0 A) (hA : okb A) (hs : σ.1 1 0 0 = ii 1) : ∃ σ', fX1_refresh 0 σ = some σ' ∧ σ'.1 1 0 0 = ii 0 ∧ cloudP σ' A ∧ σ'.1 1 0 7 = ii (-1) ∧ Fr [1, 12, 13] [] σ σ' := by
  have hp := hA.2.2.2.2.2
  have hp1 := hA.p1
  have hn1 := hA.1
  have hnp : pts A = (np A : Int) := by unfold np; omega
  have f3 : Fr [1, 12, 13] [] σ (stI (stI (stI σ 1 0 0 (ii 0)) 1 0 2 (ii 0)) 1 0 7 (ii (-1))) := (((Fr.rf _ _ _).sI (by decide) (by decide)).sI (by decide) (by decide)).sI (by decide) (by decide)
  have hC3 := hC.fr f3 (by decide)
  have hpp := C_points hC3
  have hlo := hC.2.2.2.1
  unfold fX1_refresh fX1_refresh_0
  simp (disch := omega) only [hs, hpp, min_ii, if_true, if_false, Option.bind_some, Option.map_some, ii_lit, ll_lit, ii_neg, ll_neg, ii_add, ii_sub, ii_mul, ll_add, ll_sub, ll_mul, ii_le, ii_lt, ii_eq, ii_t, bi_0, bi_1, rd_z, wr_z, rr_z, rl_z, wl_z, tn_n, st_s, st_j, st_i, st_c, st_2, sl_s, sl_j, sl_i, sl_c, sl_1, Int.natCast_add, Int.cast_ofNat_Int, if_pos, if_neg]
  obtain ⟨s7, e7, c1, c2, c3, c4⟩ := cp_z (σ := stI (stI (stI (stI σ 1 0 0 (ii 0)) 1 0 2 (ii 0)) 1 0 7 (ii (-1))) 1 0 1 (ii (pts A))) (c := 8) (i := 0) (n := 4) (c' := 13) (i' := 0) (n' := 4) (sp := 0) (dp := 0) (k := 4) (by decide) (by decide) (by decide) (by decide)
  have e7' : cpI (stI (stI (stI (stI σ 1 0 0 (ii 0)) 1 0 2 (ii 0)) 1 0 7 (ii (-1))) 1 0 1 (ii (pts A))) 8 0 4 13 0 4 (ii 0) (ii 0) (ii 4) = some s7 := e7
  rw [e7']
  simp only [Option.bind_some]
  have q1 := c2 1 (by decide)
  refine lp_j (fun k s => s.1 = ii k ∧ s.2.1 1 0 0 = ii 0 ∧ s.2.1 1 0 1 = ii (np A) ∧ s.2.1 1 0 2 = ii (cnf (inP A) k) ∧ s.2.1 1 0 7 = ii (-1) ∧ (∀ l, l < A.n → s.2.1 13 0 l = ii (pt A k l)) ∧ (∀ j, j < k → s.2.1 12 0 j = ii (spt A j)) ∧ Fr [1, 12, 13] [] σ s.2) _ (np A) ⟨rfl, ?_, ?_, ?_, ?_, ?_, fun j hj => by omega, ?_⟩ ?_ ?_
  · show s7.1 1 0 0 = _
    rw [q1]
    simp (disch := omega) only [if_true, if_false, Option.bind_some, Option.map_some, ii_lit, ll_lit, ii_neg, ll_neg, ii_add, ii_sub, ii_mul, ll_add, ll_sub, ll_mul, ii_le, ii_lt, ii_eq, ii_t, bi_0, bi_1, rd_z, wr_z, rr_z, rl_z, wl_z, tn_n, st_s, st_j, st_i, st_c, st_2, sl_s, sl_j, sl_i, sl_c, sl_1, Int.natCast_add, Int.cast_ofNat_Int, if_pos, if_neg]
  · show s7.1 1 0 1 = _
    rw [q1, hnp]
    simp (disch := omega) only [if_true, if_false, Option.bind_some, Option.map_some, ii_lit, ll_lit, ii_neg, ll_neg, ii_add, ii_sub, ii_mul, ll_add, ll_sub, ll_mul, ii_le, ii_lt, ii_eq, ii_t, bi_0, bi_1, rd_z, wr_z, rr_z, rl_z, wl_z, tn_n, st_s, st_j, st_i, st_c, st_2, sl_s, sl_j, sl_i, sl_c, sl_1, Int.natCast_add, Int.cast_ofNat_Int, if_pos, if_neg]
  · show s7.1 1 0 2 = _
    rw [q1]
    simp (disch := omega) only [if_true, if_false, Option.bind_some, Option.map_some, ii_lit, ll_lit, ii_neg, ll_neg, ii_add, ii_sub, ii_mul, ll_add, ll_sub, ll_mul, ii_le, ii_lt, ii_eq, ii_t, bi_0, bi_1, rd_z, wr_z, rr_z, rl_z, wl_z, tn_n, st_s, st_j, st_i, st_c, st_2, sl_s, sl_j, sl_i, sl_c, sl_1, Int.natCast_add, Int.cast_ofNat_Int, if_pos, if_neg]
    rfl
  · show s7.1 1 0 7 = _
    rw [q1]
    simp (disch := omega) only [if_true, if_false, Option.bind_some, Option.map_some, ii_lit, ll_lit, ii_neg, ll_neg, ii_add, ii_sub, ii_mul, ll_add, ll_sub, ll_mul, ii_le, ii_lt, ii_eq, ii_t, bi_0, bi_1, rd_z, wr_z, rr_z, rl_z, wl_z, tn_n, st_s, st_j, st_i, st_c, st_2, sl_s, sl_j, sl_i, sl_c, sl_1, Int.natCast_add, Int.cast_ofNat_Int, if_pos, if_neg]
  · intro l hl
    show s7.1 13 0 l = _
    rw [pt_0, ← hlo l (by omega), c1, if_pos (by omega), show 0 + (l - 0) = l by omega]
    simp (disch := omega) only [if_true, if_false, Option.bind_some, Option.map_some, ii_lit, ll_lit, ii_neg, ll_neg, ii_add, ii_sub, ii_mul, ll_add, ll_sub, ll_mul, ii_le, ii_lt, ii_eq, ii_t, bi_0, bi_1, rd_z, wr_z, rr_z, rl_z, wl_z, tn_n, st_s, st_j, st_i, st_c, st_2, sl_s, sl_j, sl_i, sl_c, sl_1, Int.natCast_add, Int.cast_ofNat_Int, if_pos, if_neg]
  · exact cp_fr (f3.sI (by decide) (by decide)) c2 c4 (by decide) (by decide)
  · rintro k ⟨a, s⟩ hk ⟨h1, h2, h3, h4, h5, h6, h7, h8⟩
    have h1 : a = ii k := h1
    subst h1
    have h2 : s.1 1 0 0 = ii 0 := h2
    have h3 : s.1 1 0 1 = ii (np A) := h3
    have h4 : s.1 1 0 2 = ii (cnf (inP A) k) := h4
    have h5 : s.1 1 0 7 = ii (-1) := h5
    have hCs : isC s 0 A := hC.fr h8 (by decide)
    have hb := C_brokenIn_13 hCs hA h6 (fun l hl => by have := pt_9 hA k (l := l) (by omega); omega)
    have hbl := brk_lt hA k
    have e4 : cnf (inP A) (k + 1) = cnf (inP A) k + if brk A k = 0 then 1 else 0 := by
      rw [cnf]
      unfold inP
      simp
    have hpk : ∀ z : Int32, fX7_pack_13 (ii A.n) (stI s 1 0 2 z) = some (ii (pkf (pt A k) A.n)) := fun z => C_pack_13 hn1.2 (x := pt A k) (fun l hl => by rw [st_c _ _ _ _ (by decide)]; exact h6 l hl) (fun l hl => by have := pt_9 hA k (l := l) (by omega); omega)
    have hpl : pkf (pt A k) A.n < 2 ^ 20 := by
      have q := pkf_lt (x := pt A k) (n := A.n) (fun l hl => by have := pt_9 hA k (l := l) (by omega); omega)
      have q3 : (2 : Nat) ^ (5 * A.n) ≤ 2 ^ 20 := Nat.pow_le_pow_right (by decide) (by omega)
      omega
    have hsp : ii (pkf (pt A k) A.n : Nat) ||| (ii (brk A k : Nat) <<< (ii 20 &&& ii 31)) = ii (spt A k) := by
      rw [show ii 20 = ii ((20 : Nat) : Int) from rfl, shl_n _ (by decide), or_n, or_hi hpl]
      rfl
    have hb' : fX0_brokenIn_13 0 s = some (ii (brk A k)) := hb
    have n0 : ∀ z : Int32, (stI s 1 0 2 z).1 0 0 0 = ii A.n := fun z => by rw [st_c _ _ _ _ (by decide)]; exact hCs.2.1
    generalize hz : ii ((cnf (inP A) (k + 1) : Nat) : Int) = z at *
    have f9 : Fr [1, 12, 13] [] σ (stI (stI s 1 0 2 z) 12 0 k (ii (spt A k))) := (h8.sI (by decide) (by decide)).sI (by decide) (by decide)
    obtain ⟨s', e1, g1, g2⟩ := C_stepOn (hC.fr f9 (by decide)) hA (k := k) (fun l hl => by rw [st_c _ _ _ _ (by decide), st_c _ _ _ _ (by decide)]; exact h6 l hl)
    refine ⟨(ii ((k + 1 : Nat)), s'), ?_, rfl, ?_, ?_, ?_, ?_, g1, ?_, f9.tr (g2.mono (by decide) (by decide))⟩
    · by_cases h : brk A k = 0
      · have hz2 : ii ((cnf (inP A) k : Nat) + 1) = z := by
          rw [← hz, e4, if_pos h]
          rfl
        simp (disch := omega) only [fX1_refresh_53_L, fX1_refresh_53, fX1_refresh_84, h3, hb', h4, hz2, n0, hpk, hsp, e1, if_true, if_false, Option.bind_some, Option.map_some, ii_lit, ll_lit, ii_neg, ll_neg, ii_add, ii_sub, ii_mul, ll_add, ll_sub, ll_mul, ii_le, ii_lt, ii_eq, ii_t, bi_0, bi_1, rd_z, wr_z, rr_z, rl_z, wl_z, tn_n, st_s, st_j, st_i, st_c, st_2, sl_s, sl_j, sl_i, sl_c, sl_1, Int.natCast_add, Int.cast_ofNat_Int, if_pos, if_neg]
      · have hz2 : ii ((cnf (inP A) k : Nat) + 0) = z := by
          rw [← hz, e4, if_neg h]
          rfl
        simp (disch := omega) only [fX1_refresh_53_L, fX1_refresh_53, fX1_refresh_84, h3, hb', h4, hz2, n0, hpk, hsp, e1, if_true, if_false, Option.bind_some, Option.map_some, ii_lit, ll_lit, ii_neg, ll_neg, ii_add, ii_sub, ii_mul, ll_add, ll_sub, ll_mul, ii_le, ii_lt, ii_eq, ii_t, bi_0, bi_1, rd_z, wr_z, rr_z, rl_z, wl_z, tn_n, st_s, st_j, st_i, st_c, st_2, sl_s, sl_j, sl_i, sl_c, sl_1, Int.natCast_add, Int.cast_ofNat_Int, if_pos, if_neg]
    · show s'.1 1 0 0 = _
      rw [g2.1 1 (by decide) (by decide)]
      simp (disch := omega) only [if_true, if_false, Option.bind_some, Option.map_some, ii_lit, ll_lit, ii_neg, ll_neg, ii_add, ii_sub, ii_mul, ll_add, ll_sub, ll_mul, ii_le, ii_lt, ii_eq, ii_t, bi_0, bi_1, rd_z, wr_z, rr_z, rl_z, wl_z, tn_n, st_s, st_j, st_i, st_c, st_2, sl_s, sl_j, sl_i, sl_c, sl_1, Int.natCast_add, Int.cast_ofNat_Int, if_pos, if_neg]
      exact h2
    · show s'.1 1 0 1 = _
      rw [g2.1 1 (by decide) (by decide)]
      simp (disch := omega) only [if_true, if_false, Option.bind_some, Option.map_some, ii_lit, ll_lit, ii_neg, ll_neg, ii_add, ii_sub, ii_mul, ll_add, ll_sub, ll_mul, ii_le, ii_lt, ii_eq, ii_t, bi_0, bi_1, rd_z, wr_z, rr_z, rl_z, wl_z, tn_n, st_s, st_j, st_i, st_c, st_2, sl_s, sl_j, sl_i, sl_c, sl_1, Int.natCast_add, Int.cast_ofNat_Int, if_pos, if_neg]
      exact h3
    · show s'.1 1 0 2 = _
      rw [g2.1 1 (by decide) (by decide)]
      simp (disch := omega) only [if_true, if_false, Option.bind_some, Option.map_some, ii_lit, ll_lit, ii_neg, ll_neg, ii_add, ii_sub, ii_mul, ll_add, ll_sub, ll_mul, ii_le, ii_lt, ii_eq, ii_t, bi_0, bi_1, rd_z, wr_z, rr_z, rl_z, wl_z, tn_n, st_s, st_j, st_i, st_c, st_2, sl_s, sl_j, sl_i, sl_c, sl_1, Int.natCast_add, Int.cast_ofNat_Int, if_pos, if_neg]
    · show s'.1 1 0 7 = _
      rw [g2.1 1 (by decide) (by decide)]
      simp (disch := omega) only [if_true, if_false, Option.bind_some, Option.map_some, ii_lit, ll_lit, ii_neg, ll_neg, ii_add, ii_sub, ii_mul, ll_add, ll_sub, ll_mul, ii_le, ii_lt, ii_eq, ii_t, bi_0, bi_1, rd_z, wr_z, rr_z, rl_z, wl_z, tn_n, st_s, st_j, st_i, st_c, st_2, sl_s, sl_j, sl_i, sl_c, sl_1, Int.natCast_add, Int.cast_ofNat_Int, if_pos, if_neg]
      exact h5
    · intro j hj
      show s'.1 12 0 j = _
      rw [g2.1 12 (by decide) (by decide)]
      by_cases hjk : j = k
      · subst hjk
        rw [st_s]
      · rw [st_j _ _ hjk, st_c _ _ _ _ (by decide)]
        exact h7 j (by omega)
  · rintro ⟨a, s⟩ ⟨h1, h2, h3, h4, h5, h6, h7, h8⟩
    have h1 : a = ii (np A) := h1
    subst h1
    have h3 : s.1 1 0 1 = ii (np A) := h3
    refine ⟨s, ?_, h2, ⟨h3, h4, h7⟩, h5, h8⟩
    simp (disch := omega) only [fX1_refresh_53_L, fX1_refresh_53, h3, if_true, if_false, Option.bind_some, Option.map_some, ii_lit, ll_lit, ii_neg, ll_neg, ii_add, ii_sub, ii_mul, ll_add, ll_sub, ll_mul, ii_le, ii_lt, ii_eq, ii_t, bi_0, bi_1, rd_z, wr_z, rr_z, rl_z, wl_z, tn_n, st_s, st_j, st_i, st_c, st_2, sl_s, sl_j, sl_i, sl_c, sl_1, Int.natCast_add, Int.cast_ofNat_Int, if_pos, if_neg]
