-- POINTS OF SHEETS
theorem trouble {σ τ : mm} {A : bdy} (hR : RelA σ τ A) {s : Int} (h1 : -2147483648 ≤ s) (h2 : s < 2147483648) : (∃ e : Nat, e < 7 ∧ fX7_pointTrouble (ii s) σ = some (ii e) ∧ fX8_takes (ii s) τ = some (ii (-1000000001 - e), τ)) ∨
    (∃ (k : Nat) (x : Nat → Int) (τ' : mm), s = k ∧ k < 4 ∧ fX7_pointTrouble (ii s) σ = some (ii (-1)) ∧ fX8_takes (ii s) τ = some (ii 0, τ') ∧ (∀ l, l < A.n → σ.2 26 k l = ll (x l) ∧ (-9223372036854775808 ≤ x l ∧ x l < 9223372036854775808)) ∧ atM τ' A x ∧ Fr [48] [] τ τ') := by
  obtain ⟨⟨hC, hM, hA⟩, -⟩ := id hR
  have hn1 := hA.1
  have n1 := hC.2.1
  have n2 := hM.2.1
  have c3 := hR.2.2.2.2.1
  have k2 := M_isSheet h1 h2
  by_cases hs : 0 ≤ s ∧ s < 4
  · obtain ⟨s, rfl⟩ : ∃ k : Nat, s = k := ⟨s.toNat, by omega⟩
    obtain ⟨bits, size, p1, p2, p3, p4, p5, p6, p7⟩ := c3 s (by omega)
    have k1 := C_sheetTrouble c3 (s := s) (by omega) p3 (by omega)
    by_cases hb : bits = 0
    · left
      refine ⟨5, by decide, ?_, ?_⟩
      · unfold fX7_pointTrouble fX7_pointTrouble_0
        simp (disch := omega) only [k1, if_true, if_false, Option.bind_some, Option.map_some, ii_lit, ll_lit, ii_neg, ll_neg, ii_add, ii_sub, ii_mul, ll_add, ll_sub, ll_mul, ii_le, ii_lt, ii_eq, ii_t, bi_0, bi_1, rd_z, wr_z, rr_z, rl_z, wl_z, tn_n, st_s, st_j, st_i, st_c, st_2, sl_s, sl_j, sl_i, sl_c, sl_1, Int.natCast_add, Int.cast_ofNat_Int, if_pos, if_neg, decide_eq_false_iff_not, decide_eq_true_eq, in_ll, ii_long, Nat.zero_add, Nat.mul_zero, reduceCtorEq]
      · unfold fX8_takes fX8_takes_0
        simp (disch := omega) only [k2, p4, if_true, if_false, Option.bind_some, Option.map_some, ii_lit, ll_lit, ii_neg, ll_neg, ii_add, ii_sub, ii_mul, ll_add, ll_sub, ll_mul, ii_le, ii_lt, ii_eq, ii_t, bi_0, bi_1, rd_z, wr_z, rr_z, rl_z, wl_z, tn_n, st_s, st_j, st_i, st_c, st_2, sl_s, sl_j, sl_i, sl_c, sl_1, Int.natCast_add, Int.cast_ofNat_Int, if_pos, if_neg, decide_eq_false_iff_not, decide_eq_true_eq, in_ll, ii_long, Nat.zero_add, Nat.mul_zero, reduceCtorEq]
        rfl
    · by_cases hz : size < A.n
      · left
        refine ⟨6, by decide, ?_, ?_⟩
        · unfold fX7_pointTrouble fX7_pointTrouble_0
          simp (disch := omega) only [k1, n1, p5, if_true, if_false, Option.bind_some, Option.map_some, ii_lit, ll_lit, ii_neg, ll_neg, ii_add, ii_sub, ii_mul, ll_add, ll_sub, ll_mul, ii_le, ii_lt, ii_eq, ii_t, bi_0, bi_1, rd_z, wr_z, rr_z, rl_z, wl_z, tn_n, st_s, st_j, st_i, st_c, st_2, sl_s, sl_j, sl_i, sl_c, sl_1, Int.natCast_add, Int.cast_ofNat_Int, if_pos, if_neg, decide_eq_false_iff_not, decide_eq_true_eq, in_ll, ii_long, Nat.zero_add, Nat.mul_zero, reduceCtorEq]
        · unfold fX8_takes fX8_takes_0
          simp (disch := omega) only [k2, p4, p6, n2, if_true, if_false, Option.bind_some, Option.map_some, ii_lit, ll_lit, ii_neg, ll_neg, ii_add, ii_sub, ii_mul, ll_add, ll_sub, ll_mul, ii_le, ii_lt, ii_eq, ii_t, bi_0, bi_1, rd_z, wr_z, rr_z, rl_z, wl_z, tn_n, st_s, st_j, st_i, st_c, st_2, sl_s, sl_j, sl_i, sl_c, sl_1, Int.natCast_add, Int.cast_ofNat_Int, if_pos, if_neg, decide_eq_false_iff_not, decide_eq_true_eq, in_ll, ii_long, Nat.zero_add, Nat.mul_zero, reduceCtorEq]
          rfl
      · right
        have key : ∃ r, lp (fX8_takes_40_L (ii s)) (ii 0, τ) = some r ∧ (r.1 = ii 0 ∧ (∀ l, l < A.n → r.2.2 48 0 l = σ.2 26 s l) ∧ Fr [48] [] τ r.2) := by
          refine lp_j (fun k z => z.1 = ii k ∧ (∀ l, l < k → z.2.2 48 0 l = σ.2 26 s l) ∧ Fr [48] [] τ z.2) _ A.n ⟨rfl, fun l hl => by omega, Fr.rf _ _ _⟩ ?_ ?_
          · rintro k ⟨a, z⟩ hk ⟨g1, g2, g3⟩
            have g1 : a = ii k := g1
            subst g1
            have e0 : z.1 32 0 1 = ii A.n := by rw [g3.2.2 1 (by decide)]; exact n2
            have e1 : z.2 77 0 (40 * s + k) = σ.2 26 s k := by rw [g3.2.1 77 (by decide)]; exact (p7 k (by omega)).symm
            refine ⟨(ii ((k + 1 : Nat)), stL z 48 0 k (σ.2 26 s k)), ?_, rfl, ?_, g3.sL (by decide)⟩
            · simp (disch := omega) only [fX8_takes_40_L, fX8_takes_40, e0, e1, show (40 * (s : Int) + (k : Int)).toNat = 40 * s + k by omega, if_true, if_false, Option.bind_some, Option.map_some, ii_lit, ll_lit, ii_neg, ll_neg, ii_add, ii_sub, ii_mul, ll_add, ll_sub, ll_mul, ii_le, ii_lt, ii_eq, ii_t, bi_0, bi_1, rd_z, wr_z, rr_z, rl_z, wl_z, tn_n, st_s, st_j, st_i, st_c, st_2, sl_s, sl_j, sl_i, sl_c, sl_1, Int.natCast_add, Int.cast_ofNat_Int, if_pos, if_neg, decide_eq_false_iff_not, decide_eq_true_eq, in_ll, ii_long, Nat.zero_add, Nat.mul_zero, reduceCtorEq]
            · intro l hl
              show (stL z 48 0 k _).2 48 0 l = _
              by_cases hlk : l = k
              · subst hlk
                rw [sl_s]
              · rw [sl_j _ _ hlk]
                exact g2 l (by omega)
          · rintro ⟨a, z⟩ ⟨g1, g2, g3⟩
            have g1 : a = ii A.n := g1
            subst g1
            have e0 : z.1 32 0 1 = ii A.n := by rw [g3.2.2 1 (by decide)]; exact n2
            refine ⟨(ii 0, z), ?_, rfl, g2, g3⟩
            simp (disch := omega) only [fX8_takes_40_L, fX8_takes_40, e0, if_true, if_false, Option.bind_some, Option.map_some, ii_lit, ll_lit, ii_neg, ll_neg, ii_add, ii_sub, ii_mul, ll_add, ll_sub, ll_mul, ii_le, ii_lt, ii_eq, ii_t, bi_0, bi_1, rd_z, wr_z, rr_z, rl_z, wl_z, tn_n, st_s, st_j, st_i, st_c, st_2, sl_s, sl_j, sl_i, sl_c, sl_1, Int.natCast_add, Int.cast_ofNat_Int, if_pos, if_neg, decide_eq_false_iff_not, decide_eq_true_eq, in_ll, ii_long, Nat.zero_add, Nat.mul_zero, reduceCtorEq]
        obtain ⟨⟨r, τ'⟩, e, r1, r2, r3⟩ := key
        have r1 : r = ii 0 := r1
        subst r1
        have hx : ∀ l, σ.2 26 s l = ll (σ.2 26 s l).toInt := fun l => (ll_of _).symm
        refine ⟨s, fun l => (σ.2 26 s l).toInt, τ', rfl, by omega, ?_, ?_, ?_, ?_, r3⟩
        · unfold fX7_pointTrouble fX7_pointTrouble_0
          simp (disch := omega) only [k1, n1, p5, if_true, if_false, Option.bind_some, Option.map_some, ii_lit, ll_lit, ii_neg, ll_neg, ii_add, ii_sub, ii_mul, ll_add, ll_sub, ll_mul, ii_le, ii_lt, ii_eq, ii_t, bi_0, bi_1, rd_z, wr_z, rr_z, rl_z, wl_z, tn_n, st_s, st_j, st_i, st_c, st_2, sl_s, sl_j, sl_i, sl_c, sl_1, Int.natCast_add, Int.cast_ofNat_Int, if_pos, if_neg, decide_eq_false_iff_not, decide_eq_true_eq, in_ll, ii_long, Nat.zero_add, Nat.mul_zero, reduceCtorEq]
        · unfold fX8_takes fX8_takes_0
          simp (disch := omega) only [k2, p4, p6, n2, e, if_true, if_false, Option.bind_some, Option.map_some, ii_lit, ll_lit, ii_neg, ll_neg, ii_add, ii_sub, ii_mul, ll_add, ll_sub, ll_mul, ii_le, ii_lt, ii_eq, ii_t, bi_0, bi_1, rd_z, wr_z, rr_z, rl_z, wl_z, tn_n, st_s, st_j, st_i, st_c, st_2, sl_s, sl_j, sl_i, sl_c, sl_1, Int.natCast_add, Int.cast_ofNat_Int, if_pos, if_neg, decide_eq_false_iff_not, decide_eq_true_eq, in_ll, ii_long, Nat.zero_add, Nat.mul_zero, reduceCtorEq]
        · intro l _
          refine ⟨hx l, ?_⟩
          have a1 := (σ.2 26 s l).le_toInt
          have a2 := (σ.2 26 s l).toInt_lt
          show -9223372036854775808 ≤ (σ.2 26 s l).toInt ∧ (σ.2 26 s l).toInt < 9223372036854775808
          omega
        · intro l hl
          show τ'.2 48 0 l = _
          have r2 : τ'.2 48 0 l = σ.2 26 s l := r2 l hl
          rw [r2]
          exact hx l
  · left
    refine ⟨0, by decide, ?_, ?_⟩
    · unfold fX7_pointTrouble fX7_pointTrouble_0
      simp (disch := omega) only [C_sheetTroubleN h1 h2 hs, if_true, if_false, Option.bind_some, Option.map_some, ii_lit, ll_lit, ii_neg, ll_neg, ii_add, ii_sub, ii_mul, ll_add, ll_sub, ll_mul, ii_le, ii_lt, ii_eq, ii_t, bi_0, bi_1, rd_z, wr_z, rr_z, rl_z, wl_z, tn_n, st_s, st_j, st_i, st_c, st_2, sl_s, sl_j, sl_i, sl_c, sl_1, Int.natCast_add, Int.cast_ofNat_Int, if_pos, if_neg, decide_eq_false_iff_not, decide_eq_true_eq, in_ll, ii_long, Nat.zero_add, Nat.mul_zero, reduceCtorEq]
    · unfold fX8_takes fX8_takes_0
      simp (disch := omega) only [k2, if_true, if_false, Option.bind_some, Option.map_some, ii_lit, ll_lit, ii_neg, ll_neg, ii_add, ii_sub, ii_mul, ll_add, ll_sub, ll_mul, ii_le, ii_lt, ii_eq, ii_t, bi_0, bi_1, rd_z, wr_z, rr_z, rl_z, wl_z, tn_n, st_s, st_j, st_i, st_c, st_2, sl_s, sl_j, sl_i, sl_c, sl_1, Int.natCast_add, Int.cast_ofNat_Int, if_pos, if_neg, decide_eq_false_iff_not, decide_eq_true_eq, in_ll, ii_long, Nat.zero_add, Nat.mul_zero, reduceCtorEq]
      rfl
/-- all are -999 to 999 -/
def nearP (n : Nat) (x : Nat → Int) : Prop := ∀ l, l < n → -999 ≤ x l ∧ x l ≤ 999
theorem C_small {σ : mm} {A : bdy} (hC : isC σ 0 A) (hA : okb A) {s : Nat} (hs : s < 4) {x : Nat → Int} (hp : fX7_pointTrouble (ii s) σ = some (ii (-1))) (hx : ∀ l, l < A.n → σ.2 26 s l = ll (x l) ∧ (-9223372036854775808 ≤ x l ∧ x l < 9223372036854775808)) : (nearP A.n x ∧ fX7_smallPointTrouble (ii s) σ = some (ii (-1))) ∨ (¬ nearP A.n x ∧ fX7_smallPointTrouble (ii s) σ = some (ii 4)) := by
  have hn1 := hA.1
  have n1 := hC.2.1
  unfold fX7_smallPointTrouble fX7_smallPointTrouble_0
  simp (disch := omega) only [hp, if_true, if_false, Option.bind_some, Option.map_some, ii_lit, ll_lit, ii_neg, ll_neg, ii_add, ii_sub, ii_mul, ll_add, ll_sub, ll_mul, ii_le, ii_lt, ii_eq, ii_t, bi_0, bi_1, rd_z, wr_z, rr_z, rl_z, wl_z, tn_n, st_s, st_j, st_i, st_c, st_2, sl_s, sl_j, sl_i, sl_c, sl_1, Int.natCast_add, Int.cast_ofNat_Int, if_pos, if_neg, decide_eq_false_iff_not, decide_eq_true_eq, in_ll, ii_long, Nat.zero_add, Nat.mul_zero, reduceCtorEq]
  by_cases hnear : nearP A.n x
  · left
    refine ⟨hnear, ?_⟩
    refine lp_f (fun k => ii k) A.n rfl ?_ ?_
    · intro k hk
      have q := hnear k hk
      simp (disch := omega) only [fX7_smallPointTrouble_15_L, fX7_smallPointTrouble_15, n1, (hx k hk).1, cmp_lt0, cmp_le0, if_true, if_false, Option.bind_some, Option.map_some, ii_lit, ll_lit, ii_neg, ll_neg, ii_add, ii_sub, ii_mul, ll_add, ll_sub, ll_mul, ii_le, ii_lt, ii_eq, ii_t, bi_0, bi_1, rd_z, wr_z, rr_z, rl_z, wl_z, tn_n, st_s, st_j, st_i, st_c, st_2, sl_s, sl_j, sl_i, sl_c, sl_1, Int.natCast_add, Int.cast_ofNat_Int, if_pos, if_neg, decide_eq_false_iff_not, decide_eq_true_eq, in_ll, ii_long, Nat.zero_add, Nat.mul_zero, reduceCtorEq]
    · simp (disch := omega) only [fX7_smallPointTrouble_15_L, fX7_smallPointTrouble_15, n1, if_true, if_false, Option.bind_some, Option.map_some, ii_lit, ll_lit, ii_neg, ll_neg, ii_add, ii_sub, ii_mul, ll_add, ll_sub, ll_mul, ii_le, ii_lt, ii_eq, ii_t, bi_0, bi_1, rd_z, wr_z, rr_z, rl_z, wl_z, tn_n, st_s, st_j, st_i, st_c, st_2, sl_s, sl_j, sl_i, sl_c, sl_1, Int.natCast_add, Int.cast_ofNat_Int, if_pos, if_neg, decide_eq_false_iff_not, decide_eq_true_eq, in_ll, ii_long, Nat.zero_add, Nat.mul_zero, reduceCtorEq]
  · right
    refine ⟨hnear, ?_⟩
    have key : ∃ r, lp (fX7_smallPointTrouble_15_L (ii s) σ) (ii 0) = some r ∧ r = ii 4 := by
      refine lp_i (fun k z => z = ii k ∧ ∀ l, l < k → -999 ≤ x l ∧ x l ≤ 999) _ A.n ⟨rfl, fun l hl => by omega⟩ ?_ ?_
      · rintro k z hk ⟨rfl, g2⟩
        obtain ⟨hx1, hx2⟩ := hx k hk
        by_cases q1 : x k < -999
        · right
          refine ⟨_, ?_, rfl⟩
          simp (disch := omega) only [fX7_smallPointTrouble_15_L, fX7_smallPointTrouble_15, n1, hx1, cmp_lt0, cmp_le0, if_true, if_false, Option.bind_some, Option.map_some, ii_lit, ll_lit, ii_neg, ll_neg, ii_add, ii_sub, ii_mul, ll_add, ll_sub, ll_mul, ii_le, ii_lt, ii_eq, ii_t, bi_0, bi_1, rd_z, wr_z, rr_z, rl_z, wl_z, tn_n, st_s, st_j, st_i, st_c, st_2, sl_s, sl_j, sl_i, sl_c, sl_1, Int.natCast_add, Int.cast_ofNat_Int, if_pos, if_neg, decide_eq_false_iff_not, decide_eq_true_eq, in_ll, ii_long, Nat.zero_add, Nat.mul_zero, reduceCtorEq]
        · by_cases q2 : x k ≤ 999
          · left
            refine ⟨ii ((k + 1 : Nat)), ?_, rfl, ?_⟩
            · simp (disch := omega) only [fX7_smallPointTrouble_15_L, fX7_smallPointTrouble_15, n1, hx1, cmp_lt0, cmp_le0, if_true, if_false, Option.bind_some, Option.map_some, ii_lit, ll_lit, ii_neg, ll_neg, ii_add, ii_sub, ii_mul, ll_add, ll_sub, ll_mul, ii_le, ii_lt, ii_eq, ii_t, bi_0, bi_1, rd_z, wr_z, rr_z, rl_z, wl_z, tn_n, st_s, st_j, st_i, st_c, st_2, sl_s, sl_j, sl_i, sl_c, sl_1, Int.natCast_add, Int.cast_ofNat_Int, if_pos, if_neg, decide_eq_false_iff_not, decide_eq_true_eq, in_ll, ii_long, Nat.zero_add, Nat.mul_zero, reduceCtorEq]
            · intro l hl
              by_cases hlk : l = k
              · subst hlk
                omega
              · exact g2 l (by omega)
          · right
            refine ⟨_, ?_, rfl⟩
            simp (disch := omega) only [fX7_smallPointTrouble_15_L, fX7_smallPointTrouble_15, n1, hx1, cmp_lt0, cmp_le0, if_true, if_false, Option.bind_some, Option.map_some, ii_lit, ll_lit, ii_neg, ll_neg, ii_add, ii_sub, ii_mul, ll_add, ll_sub, ll_mul, ii_le, ii_lt, ii_eq, ii_t, bi_0, bi_1, rd_z, wr_z, rr_z, rl_z, wl_z, tn_n, st_s, st_j, st_i, st_c, st_2, sl_s, sl_j, sl_i, sl_c, sl_1, Int.natCast_add, Int.cast_ofNat_Int, if_pos, if_neg, decide_eq_false_iff_not, decide_eq_true_eq, in_ll, ii_long, Nat.zero_add, Nat.mul_zero, reduceCtorEq]
      · rintro z ⟨rfl, g2⟩
        exact absurd g2 hnear
    obtain ⟨r, e, rfl⟩ := key
    exact e
theorem M_isNear {τ : mm} {A : bdy} (hM : isM τ A) {x : Nat → Int} (hx : atM τ A x) (hr : ∀ l, l < A.n → -9223372036854775808 ≤ x l ∧ x l < 9223372036854775808) : (nearP A.n x ∧ fX8_isNear τ = some true) ∨ (¬ nearP A.n x ∧ fX8_isNear τ = some false) := by
  have hn4 := hM.1.1
  have n2 := hM.2.1
  have key : ∃ r, lp (fX8_isNear_4_L τ) (ii 1, ii 0) = some r ∧ (r = true ↔ nearP A.n x) := by
    refine lp_j (fun k z => z.2 = ii k ∧ ((z.1 = ii 1 ∧ ∀ l, l < k → -999 ≤ x l ∧ x l ≤ 999) ∨ (z.1 = ii 0 ∧ ¬ ∀ l, l < k → -999 ≤ x l ∧ x l ≤ 999))) _ A.n ⟨rfl, Or.inl ⟨rfl, fun l hl => by omega⟩⟩ ?_ ?_
    · rintro k ⟨a, b⟩ hk ⟨g1, g2⟩
      have g1 : b = ii k := g1
      subst g1
      rcases g2 with ⟨g2, g3⟩ | ⟨g2, g3⟩
      · have g2 : a = ii 1 := g2
        subst g2
        have hx1 := hx k hk
        have hx2 := hr k hk
        by_cases q : -999 ≤ x k ∧ x k ≤ 999
        · refine ⟨(ii 1, ii ((k + 1 : Nat))), ?_, rfl, Or.inl ⟨rfl, ?_⟩⟩
          · simp (disch := omega) only [fX8_isNear_4_L, fX8_isNear_4, fX8_isNear_38, fX8_isNear_39, n2, hx1, if_true, if_false, Option.bind_some, Option.map_some, ii_lit, ll_lit, ii_neg, ll_neg, ii_add, ii_sub, ii_mul, ll_add, ll_sub, ll_mul, ii_le, ii_lt, ii_eq, ii_t, bi_0, bi_1, rd_z, wr_z, rr_z, rl_z, wl_z, tn_n, st_s, st_j, st_i, st_c, st_2, sl_s, sl_j, sl_i, sl_c, sl_1, Int.natCast_add, Int.cast_ofNat_Int, if_pos, if_neg, decide_eq_false_iff_not, decide_eq_true_eq, in_ll, ii_long, Nat.zero_add, Nat.mul_zero, reduceCtorEq]
          · intro l hl
            by_cases hlk : l = k
            · subst hlk
              exact q
            · exact g3 l (by omega)
        · refine ⟨(ii 0, ii ((k + 1 : Nat))), ?_, rfl, Or.inr ⟨rfl, fun h => q (h k (by omega))⟩⟩
          simp (disch := omega) only [fX8_isNear_4_L, fX8_isNear_4, fX8_isNear_38, fX8_isNear_39, n2, hx1, if_true, if_false, Option.bind_some, Option.map_some, ii_lit, ll_lit, ii_neg, ll_neg, ii_add, ii_sub, ii_mul, ll_add, ll_sub, ll_mul, ii_le, ii_lt, ii_eq, ii_t, bi_0, bi_1, rd_z, wr_z, rr_z, rl_z, wl_z, tn_n, st_s, st_j, st_i, st_c, st_2, sl_s, sl_j, sl_i, sl_c, sl_1, Int.natCast_add, Int.cast_ofNat_Int, if_pos, if_neg, decide_eq_false_iff_not, decide_eq_true_eq, in_ll, ii_long, Nat.zero_add, Nat.mul_zero, reduceCtorEq]
      · have g2 : a = ii 0 := g2
        subst g2
        refine ⟨(ii 0, ii ((k + 1 : Nat))), ?_, rfl, Or.inr ⟨rfl, fun h => g3 (fun l hl => h l (by omega))⟩⟩
        simp (disch := omega) only [fX8_isNear_4_L, fX8_isNear_4, fX8_isNear_38, fX8_isNear_39, n2, if_true, if_false, Option.bind_some, Option.map_some, ii_lit, ll_lit, ii_neg, ll_neg, ii_add, ii_sub, ii_mul, ll_add, ll_sub, ll_mul, ii_le, ii_lt, ii_eq, ii_t, bi_0, bi_1, rd_z, wr_z, rr_z, rl_z, wl_z, tn_n, st_s, st_j, st_i, st_c, st_2, sl_s, sl_j, sl_i, sl_c, sl_1, Int.natCast_add, Int.cast_ofNat_Int, if_pos, if_neg, decide_eq_false_iff_not, decide_eq_true_eq, in_ll, ii_long, Nat.zero_add, Nat.mul_zero, reduceCtorEq]
    · rintro ⟨a, b⟩ ⟨g1, g2⟩
      have g1 : b = ii A.n := g1
      subst g1
      rcases g2 with ⟨g2, g3⟩ | ⟨g2, g3⟩
      · have g2 : a = ii 1 := g2
        subst g2
        refine ⟨true, ?_, ⟨fun _ => g3, fun _ => rfl⟩⟩
        simp (disch := omega) only [fX8_isNear_4_L, fX8_isNear_4, n2, zr, if_true, if_false, Option.bind_some, Option.map_some, ii_lit, ll_lit, ii_neg, ll_neg, ii_add, ii_sub, ii_mul, ll_add, ll_sub, ll_mul, ii_le, ii_lt, ii_eq, ii_t, bi_0, bi_1, rd_z, wr_z, rr_z, rl_z, wl_z, tn_n, st_s, st_j, st_i, st_c, st_2, sl_s, sl_j, sl_i, sl_c, sl_1, Int.natCast_add, Int.cast_ofNat_Int, if_pos, if_neg, decide_eq_false_iff_not, decide_eq_true_eq, in_ll, ii_long, Nat.zero_add, Nat.mul_zero, reduceCtorEq]
      · have g2 : a = ii 0 := g2
        subst g2
        refine ⟨false, ?_, ⟨fun h => by simp at h, fun h => absurd h g3⟩⟩
        simp (disch := omega) only [fX8_isNear_4_L, fX8_isNear_4, n2, zr, if_true, if_false, Option.bind_some, Option.map_some, ii_lit, ll_lit, ii_neg, ll_neg, ii_add, ii_sub, ii_mul, ll_add, ll_sub, ll_mul, ii_le, ii_lt, ii_eq, ii_t, bi_0, bi_1, rd_z, wr_z, rr_z, rl_z, wl_z, tn_n, st_s, st_j, st_i, st_c, st_2, sl_s, sl_j, sl_i, sl_c, sl_1, Int.natCast_add, Int.cast_ofNat_Int, if_pos, if_neg, decide_eq_false_iff_not, decide_eq_true_eq, in_ll, ii_long, Nat.zero_add, Nat.mul_zero, reduceCtorEq]
  obtain ⟨r, e, hr2⟩ := key
  cases r
  · exact Or.inr ⟨fun h => by simpa using hr2.mpr h, e⟩
  · exact Or.inl ⟨hr2.mp rfl, e⟩
theorem C_readSpot {σ : mm} {A : bdy} (hC : isC σ 0 A) (hA : okb A) {s : Nat} {x : Nat → Int} (hx : ∀ l, l < A.n → σ.2 26 s l = ll (x l)) : ∃ σ', fX7_readSpot s σ = some σ' ∧ (∀ l, l < A.n → σ'.1 20 0 l = ii (x l)) ∧ Fr [20] [] σ σ' := by
  have hn1 := hA.1
  have n1 := hC.2.1
  unfold fX7_readSpot fX7_readSpot_0
  refine lp_j (fun k z => z.1 = ii k ∧ (∀ l, l < k → z.2.1 20 0 l = ii (x l)) ∧ Fr [20] [] σ z.2) _ A.n ⟨rfl, fun l hl => by omega, Fr.rf _ _ _⟩ ?_ ?_
  · rintro k ⟨a, z⟩ hk ⟨g1, g2, g3⟩
    have g1 : a = ii k := g1
    subst g1
    have e0 : z.1 0 0 0 = ii A.n := by rw [g3.1 0 (by decide) (by decide)]; exact n1
    have e1 : z.2 26 s k = ll (x k) := by rw [g3.2.1 26 (by decide)]; exact hx k hk
    refine ⟨(ii ((k + 1 : Nat)), stI z 20 0 k (ii (x k))), ?_, rfl, ?_, g3.sI (by decide) (by decide)⟩
    · simp (disch := omega) only [fX7_readSpot_2_L, fX7_readSpot_2, e0, e1, ll_int, if_true, if_false, Option.bind_some, Option.map_some, ii_lit, ll_lit, ii_neg, ll_neg, ii_add, ii_sub, ii_mul, ll_add, ll_sub, ll_mul, ii_le, ii_lt, ii_eq, ii_t, bi_0, bi_1, rd_z, wr_z, rr_z, rl_z, wl_z, tn_n, st_s, st_j, st_i, st_c, st_2, sl_s, sl_j, sl_i, sl_c, sl_1, Int.natCast_add, Int.cast_ofNat_Int, if_pos, if_neg, decide_eq_false_iff_not, decide_eq_true_eq, in_ll, ii_long, Nat.zero_add, Nat.mul_zero, reduceCtorEq]
    · intro l hl
      show (stI z 20 0 k _).1 20 0 l = _
      by_cases hlk : l = k
      · subst hlk
        rw [st_s]
      · rw [st_j _ _ hlk]
        exact g2 l (by omega)
  · rintro ⟨a, z⟩ ⟨g1, g2, g3⟩
    have g1 : a = ii A.n := g1
    subst g1
    have e0 : z.1 0 0 0 = ii A.n := by rw [g3.1 0 (by decide) (by decide)]; exact n1
    refine ⟨z, ?_, g2, g3⟩
    simp (disch := omega) only [fX7_readSpot_2_L, fX7_readSpot_2, e0, if_true, if_false, Option.bind_some, Option.map_some, ii_lit, ll_lit, ii_neg, ll_neg, ii_add, ii_sub, ii_mul, ll_add, ll_sub, ll_mul, ii_le, ii_lt, ii_eq, ii_t, bi_0, bi_1, rd_z, wr_z, rr_z, rl_z, wl_z, tn_n, st_s, st_j, st_i, st_c, st_2, sl_s, sl_j, sl_i, sl_c, sl_1, Int.natCast_add, Int.cast_ofNat_Int, if_pos, if_neg, decide_eq_false_iff_not, decide_eq_true_eq, in_ll, ii_long, Nat.zero_add, Nat.mul_zero, reduceCtorEq]
theorem and_not : ∀ R : Fin 9, ∀ b : Fin 256, b.val < 2 ^ R.val → (ii 1 <<< (ii (R.val : Nat) &&& ii 31)) - ii 1 &&& (ii (b.val : Nat) ^^^ ii (-1)) = ii ((2 ^ R.val - 1 - b.val : Nat)) := by decide +kernel
theorem m_holds {σ τ : mm} (h : Rel σ τ) (s : Int32) : Ag (fX7_holds s σ) (fX8_holds s τ) := by
  obtain ⟨A, hR⟩ := h
  obtain ⟨⟨hC, hM, hA⟩, -⟩ := id hR
  obtain ⟨s, rfl, h1, h2⟩ := ii_ex s
  rcases trouble hR h1 h2 with ⟨e, he, t1, t2⟩ | ⟨s, x, τ1, rfl, hs, t1, t2, t3, t4, t5⟩
  · obtain ⟨σ', τ', e3, e4, hr⟩ := fnd hR he
    refine ⟨ii (-1000000001 - e), σ', τ', ?_, ?_, _, hr⟩
    · unfold fX7_holds fX7_holds_0 fX7_smallPointTrouble fX7_smallPointTrouble_0
      simp (disch := omega) only [t1, e3, if_true, if_false, Option.bind_some, Option.map_some, ii_lit, ll_lit, ii_neg, ll_neg, ii_add, ii_sub, ii_mul, ll_add, ll_sub, ll_mul, ii_le, ii_lt, ii_eq, ii_t, bi_0, bi_1, rd_z, wr_z, rr_z, rl_z, wl_z, tn_n, st_s, st_j, st_i, st_c, st_2, sl_s, sl_j, sl_i, sl_c, sl_1, Int.natCast_add, Int.cast_ofNat_Int, if_pos, if_neg, decide_eq_false_iff_not, decide_eq_true_eq, in_ll, ii_long, Nat.zero_add, Nat.mul_zero, reduceCtorEq]
    · unfold fX8_holds fX8_holds_0
      simp (disch := omega) only [t2, e4, if_true, if_false, Option.bind_some, Option.map_some, ii_lit, ll_lit, ii_neg, ll_neg, ii_add, ii_sub, ii_mul, ll_add, ll_sub, ll_mul, ii_le, ii_lt, ii_eq, ii_t, bi_0, bi_1, rd_z, wr_z, rr_z, rl_z, wl_z, tn_n, st_s, st_j, st_i, st_c, st_2, sl_s, sl_j, sl_i, sl_c, sl_1, Int.natCast_add, Int.cast_ofNat_Int, if_pos, if_neg, decide_eq_false_iff_not, decide_eq_true_eq, in_ll, ii_long, Nat.zero_add, Nat.mul_zero, reduceCtorEq]
  · have hR1 := hR.m (t5.mono (by decide) (by decide))
    have hM1 := hR1.1.2.1
    rcases C_small hC hA hs t1 t3 with ⟨q1, q2⟩ | ⟨q1, q2⟩
    · rcases M_isNear hM1 t4 (fun l hl => (t3 l hl).2) with ⟨w1, w2⟩ | ⟨w1, w2⟩
      · obtain ⟨σ1, e1, f1, f2⟩ := C_readSpot hC hA (fun l hl => (t3 l hl).1)
        have hR2 := hR1.c (f2.mono (by decide) (by decide))
        have b1 := C_brokenIn_20 hR2.1.1 hA f1 q1
        have b2 := M_holding hM1 hA t4 q1
        have r1 := hR2.1.1.2.2.1
        have hnot := mkf_not (hdr A x) A.R
        have hlt := mkf_lt (fun r => !hdr A x r) A.R
        have h8 : (2 : Nat) ^ A.R ≤ 2 ^ 8 := Nat.pow_le_pow_right (by decide) hA.2.1
        have an := and_not ⟨A.R, by have := hA.2.1; omega⟩ ⟨mkf (fun r => !hdr A x r) A.R, by omega⟩ hlt
        simp only at an
        rw [show 2 ^ A.R - 1 - mkf (fun r => !hdr A x r) A.R = mkf (hdr A x) A.R by omega] at an
        refine ⟨ii (mkf (hdr A x) A.R), σ1, τ1, ?_, ?_, _, hR2⟩
        · unfold fX7_holds fX7_holds_0
          simp (disch := omega) only [q2, e1, r1, b1, if_true, if_false, Option.bind_some, Option.map_some, ii_lit, ll_lit, ii_neg, ll_neg, ii_add, ii_sub, ii_mul, ll_add, ll_sub, ll_mul, ii_le, ii_lt, ii_eq, ii_t, bi_0, bi_1, rd_z, wr_z, rr_z, rl_z, wl_z, tn_n, st_s, st_j, st_i, st_c, st_2, sl_s, sl_j, sl_i, sl_c, sl_1, Int.natCast_add, Int.cast_ofNat_Int, if_pos, if_neg, decide_eq_false_iff_not, decide_eq_true_eq, in_ll, ii_long, Nat.zero_add, Nat.mul_zero, reduceCtorEq]
          rw [an]
        · unfold fX8_holds fX8_holds_0
          simp (disch := omega) only [t2, w2, b2, if_true, if_false, Option.bind_some, Option.map_some, ii_lit, ll_lit, ii_neg, ll_neg, ii_add, ii_sub, ii_mul, ll_add, ll_sub, ll_mul, ii_le, ii_lt, ii_eq, ii_t, bi_0, bi_1, rd_z, wr_z, rr_z, rl_z, wl_z, tn_n, st_s, st_j, st_i, st_c, st_2, sl_s, sl_j, sl_i, sl_c, sl_1, Int.natCast_add, Int.cast_ofNat_Int, if_pos, if_neg, decide_eq_false_iff_not, decide_eq_true_eq, in_ll, ii_long, Nat.zero_add, Nat.mul_zero, reduceCtorEq]
      · exact absurd q1 w1
    · rcases M_isNear hM1 t4 (fun l hl => (t3 l hl).2) with ⟨w1, w2⟩ | ⟨w1, w2⟩
      · exact absurd w1 q1
      · obtain ⟨σ', τ', e3, e4, hr⟩ := fd4 hR1
        refine ⟨ii (-1000000005), σ', τ', ?_, ?_, _, hr⟩
        · unfold fX7_holds fX7_holds_0
          simp (disch := omega) only [q2, e3, if_true, if_false, Option.bind_some, Option.map_some, ii_lit, ll_lit, ii_neg, ll_neg, ii_add, ii_sub, ii_mul, ll_add, ll_sub, ll_mul, ii_le, ii_lt, ii_eq, ii_t, bi_0, bi_1, rd_z, wr_z, rr_z, rl_z, wl_z, tn_n, st_s, st_j, st_i, st_c, st_2, sl_s, sl_j, sl_i, sl_c, sl_1, Int.natCast_add, Int.cast_ofNat_Int, if_pos, if_neg, decide_eq_false_iff_not, decide_eq_true_eq, in_ll, ii_long, Nat.zero_add, Nat.mul_zero, reduceCtorEq]
        · unfold fX8_holds fX8_holds_0
          simp (disch := omega) only [t2, w2, e4, if_true, if_false, Option.bind_some, Option.map_some, ii_lit, ll_lit, ii_neg, ll_neg, ii_add, ii_sub, ii_mul, ll_add, ll_sub, ll_mul, ii_le, ii_lt, ii_eq, ii_t, bi_0, bi_1, rd_z, wr_z, rr_z, rl_z, wl_z, tn_n, st_s, st_j, st_i, st_c, st_2, sl_s, sl_j, sl_i, sl_c, sl_1, Int.natCast_add, Int.cast_ofNat_Int, if_pos, if_neg, decide_eq_false_iff_not, decide_eq_true_eq, in_ll, ii_long, Nat.zero_add, Nat.mul_zero, reduceCtorEq]
