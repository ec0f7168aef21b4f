-- THE REFERENCE KEEPS, AND COMES BACK
theorem M_keeps_79 {τ : mm} {A : bdy} (hM : isM τ A) : ∃ τ', fX8_keeps_79 τ = some τ' ∧ isK τ' 79 A ∧ Fr [79] [] τ τ' := by
  obtain ⟨h0, h1, h2, h3, h4, h5, h6⟩ := hM
  unfold fX8_keeps_79 fX8_keeps_79_0
  simp (disch := omega) only [h1, h2, Int.toNat_zero, Int.toNat_one, if_true, if_false, Option.bind_some, Option.map_some, ii_lit, ll_lit, ii_neg, ll_neg, ii_add, ii_sub, ii_mul, ll_add, ll_sub, ll_mul, ii_le, ii_lt, ii_eq, ii_t, bi_0, bi_1, rd_z, wr_z, rr_z, rl_z, wl_z, tn_n, st_s, st_j, st_i, st_c, st_2, sl_s, sl_j, sl_i, sl_c, sl_1, Int.natCast_add, Int.cast_ofNat_Int, if_pos, if_neg, decide_eq_false_iff_not, decide_eq_true_eq, in_ll, ii_long, Nat.zero_add, Nat.mul_zero, reduceCtorEq]
  refine lp_j (fun k s => s.1 = ii k ∧ s.2.1 79 0 0 = ii A.n ∧ s.2.1 79 0 1 = ii A.R ∧ (∀ l, l < k → s.2.1 79 0 (2 + l) = ii (A.lo l) ∧ s.2.1 79 0 (6 + l) = ii (A.hi l)) ∧ Fr [79] [] τ s.2) _ 4 ⟨rfl, ?_, ?_, fun l hl => by omega, ((Fr.rf _ _ _).sI (by decide) (by decide)).sI (by decide) (by decide)⟩ ?_ ?_
  · simp (disch := omega) only [if_true, if_false, Option.bind_some, Option.map_some, ii_lit, ll_lit, ii_neg, ll_neg, ii_add, ii_sub, ii_mul, ll_add, ll_sub, ll_mul, ii_le, ii_lt, ii_eq, ii_t, bi_0, bi_1, rd_z, wr_z, rr_z, rl_z, wl_z, tn_n, st_s, st_j, st_i, st_c, st_2, sl_s, sl_j, sl_i, sl_c, sl_1, Int.natCast_add, Int.cast_ofNat_Int, if_pos, if_neg, decide_eq_false_iff_not, decide_eq_true_eq, in_ll, ii_long, Nat.zero_add, Nat.mul_zero, reduceCtorEq]
  · simp (disch := omega) only [if_true, if_false, Option.bind_some, Option.map_some, ii_lit, ll_lit, ii_neg, ll_neg, ii_add, ii_sub, ii_mul, ll_add, ll_sub, ll_mul, ii_le, ii_lt, ii_eq, ii_t, bi_0, bi_1, rd_z, wr_z, rr_z, rl_z, wl_z, tn_n, st_s, st_j, st_i, st_c, st_2, sl_s, sl_j, sl_i, sl_c, sl_1, Int.natCast_add, Int.cast_ofNat_Int, if_pos, if_neg, decide_eq_false_iff_not, decide_eq_true_eq, in_ll, ii_long, Nat.zero_add, Nat.mul_zero, reduceCtorEq]
  · rintro k ⟨a, s⟩ hk ⟨g1, g2, g3, g4, g5⟩
    have g1 : a = ii k := g1
    subst g1
    have e1 : s.1 42 0 k = ii (A.lo k) := by rw [g5.1 42 (by decide) (by decide)]; exact h3 k hk
    have e2 : s.1 43 0 k = ii (A.hi k) := by rw [g5.1 43 (by decide) (by decide)]; exact h4 k hk
    refine ⟨(ii ((k + 1 : Nat)), stI (stI s 79 0 (2 + k) (ii (A.lo k))) 79 0 (6 + k) (ii (A.hi k))), ?_, rfl, ?_, ?_, ?_, (g5.sI (by decide) (by decide)).sI (by decide) (by decide)⟩
    · simp (disch := omega) only [fX8_keeps_79_16_L, fX8_keeps_79_16, e1, e2, show (2 + (k : Int)).toNat = 2 + k by omega, show (6 + (k : Int)).toNat = 6 + k by omega, if_true, if_false, Option.bind_some, Option.map_some, ii_lit, ll_lit, ii_neg, ll_neg, ii_add, ii_sub, ii_mul, ll_add, ll_sub, ll_mul, ii_le, ii_lt, ii_eq, ii_t, bi_0, bi_1, rd_z, wr_z, rr_z, rl_z, wl_z, tn_n, st_s, st_j, st_i, st_c, st_2, sl_s, sl_j, sl_i, sl_c, sl_1, Int.natCast_add, Int.cast_ofNat_Int, if_pos, if_neg]
    · show (stI (stI s 79 0 (2 + k) (ii (A.lo k))) 79 0 (6 + k) (ii (A.hi k))).1 79 0 0 = _
      rw [st_j _ _ (by omega), st_j _ _ (by omega)]
      exact g2
    · show (stI (stI s 79 0 (2 + k) (ii (A.lo k))) 79 0 (6 + k) (ii (A.hi k))).1 79 0 1 = _
      rw [st_j _ _ (by omega), st_j _ _ (by omega)]
      exact g3
    · intro l hl
      show (stI (stI s 79 0 (2 + k) (ii (A.lo k))) 79 0 (6 + k) (ii (A.hi k))).1 79 0 (2 + l) = _ ∧ (stI (stI s 79 0 (2 + k) (ii (A.lo k))) 79 0 (6 + k) (ii (A.hi k))).1 79 0 (6 + l) = _
      by_cases hlk : l = k
      · subst hlk
        rw [st_j _ _ (by omega), st_s, st_s]
        exact ⟨rfl, rfl⟩
      · rw [st_j _ _ (by omega), st_j _ _ (by omega), st_j _ _ (by omega), st_j _ _ (by omega)]
        exact g4 l (by omega)
  · rintro ⟨a, s⟩ ⟨g1, g2, g3, g4, g5⟩
    have g1 : a = ii 4 := g1
    subst g1
    have g2 : s.1 79 0 0 = ii A.n := g2
    have g3 : s.1 79 0 1 = ii A.R := g3
    have key : ∃ s', lp fX8_keeps_79_52_L (ii 0, s) = some s' ∧ isK s' 79 A ∧ Fr [79] [] τ s' := by
      refine lp_j (fun k z => z.1 = ii k ∧ (∀ j, j < 10 → z.2.1 79 0 j = s.1 79 0 j) ∧ (∀ j, j < k → z.2.1 79 0 (10 + j) = τ.1 45 0 j) ∧ Fr [79] [] τ z.2) _ 56 ⟨rfl, fun _ _ => rfl, fun j hj => by omega, g5⟩ ?_ ?_
      · rintro k ⟨a, z⟩ hk ⟨p1, p2, p3, p4⟩
        have p1 : a = ii k := p1
        subst p1
        have e1 : z.1 45 0 k = τ.1 45 0 k := by rw [p4.1 45 (by decide) (by decide)]
        refine ⟨(ii ((k + 1 : Nat)), stI z 79 0 (10 + k) (τ.1 45 0 k)), ?_, rfl, ?_, ?_, p4.sI (by decide) (by decide)⟩
        · simp (disch := omega) only [fX8_keeps_79_52_L, fX8_keeps_79_52, e1, show (10 + (k : Int)).toNat = 10 + k by omega, if_true, if_false, Option.bind_some, Option.map_some, ii_lit, ll_lit, ii_neg, ll_neg, ii_add, ii_sub, ii_mul, ll_add, ll_sub, ll_mul, ii_le, ii_lt, ii_eq, ii_t, bi_0, bi_1, rd_z, wr_z, rr_z, rl_z, wl_z, tn_n, st_s, st_j, st_i, st_c, st_2, sl_s, sl_j, sl_i, sl_c, sl_1, Int.natCast_add, Int.cast_ofNat_Int, if_pos, if_neg]
        · intro j hj
          show (stI z 79 0 (10 + k) (τ.1 45 0 k)).1 79 0 j = _
          rw [st_j _ _ (by omega)]
          exact p2 j hj
        · intro j hj
          show (stI z 79 0 (10 + k) (τ.1 45 0 k)).1 79 0 (10 + j) = _
          by_cases hjk : j = k
          · subst hjk
            rw [st_s]
          · rw [st_j _ _ (by omega)]
            exact p3 j (by omega)
      · rintro ⟨a, z⟩ ⟨p1, p2, p3, p4⟩
        have p1 : a = ii 56 := p1
        subst p1
        have key2 : ∃ s', lp fX8_keeps_79_78_L (ii 0, z) = some s' ∧ ((∀ j, j < 66 → s'.1 79 0 j = z.1 79 0 j) ∧ (∀ j, j < 16 → s'.1 79 0 (66 + j) = τ.1 46 0 j) ∧ Fr [79] [] τ s') := by
          refine lp_j (fun k y => y.1 = ii k ∧ (∀ j, j < 66 → y.2.1 79 0 j = z.1 79 0 j) ∧ (∀ j, j < k → y.2.1 79 0 (66 + j) = τ.1 46 0 j) ∧ Fr [79] [] τ y.2) _ 16 ⟨rfl, fun _ _ => rfl, fun j hj => by omega, p4⟩ ?_ ?_
          · rintro k ⟨a, y⟩ hk ⟨o1, o2, o3, o4⟩
            have o1 : a = ii k := o1
            subst o1
            have e1 : y.1 46 0 k = τ.1 46 0 k := by rw [o4.1 46 (by decide) (by decide)]
            refine ⟨(ii ((k + 1 : Nat)), stI y 79 0 (66 + k) (τ.1 46 0 k)), ?_, rfl, ?_, ?_, o4.sI (by decide) (by decide)⟩
            · simp (disch := omega) only [fX8_keeps_79_78_L, fX8_keeps_79_78, e1, show (66 + (k : Int)).toNat = 66 + k by omega, if_true, if_false, Option.bind_some, Option.map_some, ii_lit, ll_lit, ii_neg, ll_neg, ii_add, ii_sub, ii_mul, ll_add, ll_sub, ll_mul, ii_le, ii_lt, ii_eq, ii_t, bi_0, bi_1, rd_z, wr_z, rr_z, rl_z, wl_z, tn_n, st_s, st_j, st_i, st_c, st_2, sl_s, sl_j, sl_i, sl_c, sl_1, Int.natCast_add, Int.cast_ofNat_Int, if_pos, if_neg]
            · intro j hj
              show (stI y 79 0 (66 + k) (τ.1 46 0 k)).1 79 0 j = _
              rw [st_j _ _ (by omega)]
              exact o2 j hj
            · intro j hj
              show (stI y 79 0 (66 + k) (τ.1 46 0 k)).1 79 0 (66 + j) = _
              by_cases hjk : j = k
              · subst hjk
                rw [st_s]
              · rw [st_j _ _ (by omega)]
                exact o3 j (by omega)
          · rintro ⟨a, y⟩ ⟨o1, o2, o3, o4⟩
            have o1 : a = ii 16 := o1
            subst o1
            refine ⟨y, ?_, o2, o3, o4⟩
            simp (disch := omega) only [fX8_keeps_79_78_L, fX8_keeps_79_78, if_true, if_false, Option.bind_some, Option.map_some, ii_lit, ll_lit, ii_neg, ll_neg, ii_add, ii_sub, ii_mul, ll_add, ll_sub, ll_mul, ii_le, ii_lt, ii_eq, ii_t, bi_0, bi_1, rd_z, wr_z, rr_z, rl_z, wl_z, tn_n, st_s, st_j, st_i, st_c, st_2, sl_s, sl_j, sl_i, sl_c, sl_1, Int.natCast_add, Int.cast_ofNat_Int, if_pos, if_neg]
        obtain ⟨s', e, o1, o2, o3⟩ := key2
        refine ⟨s', ?_, ?_, o3⟩
        · simp (disch := omega) only [fX8_keeps_79_52_L, fX8_keeps_79_52, e, if_true, if_false, Option.bind_some, Option.map_some, ii_lit, ll_lit, ii_neg, ll_neg, ii_add, ii_sub, ii_mul, ll_add, ll_sub, ll_mul, ii_le, ii_lt, ii_eq, ii_t, bi_0, bi_1, rd_z, wr_z, rr_z, rl_z, wl_z, tn_n, st_s, st_j, st_i, st_c, st_2, sl_s, sl_j, sl_i, sl_c, sl_1, Int.natCast_add, Int.cast_ofNat_Int, if_pos, if_neg]
        · refine ⟨h0, ?_, ?_, ?_, ?_, ?_, ?_⟩
          · rw [o1 0 (by decide), p2 0 (by decide)]; exact g2
          · rw [o1 1 (by decide), p2 1 (by decide)]; exact g3
          · intro l hl
            rw [o1 _ (by omega), p2 _ (by omega)]; exact (g4 l hl).1
          · intro l hl
            rw [o1 _ (by omega), p2 _ (by omega)]; exact (g4 l hl).2
          · intro r w hr hw
            rw [o1 _ (by omega), p3 _ (by omega)]; exact h5 r w hr hw
          · intro v l hv hl
            rw [o2 _ (by omega)]; exact h6 v l hv hl
    obtain ⟨s', e, p1, p2⟩ := key
    refine ⟨s', ?_, p1, p2⟩
    simp (disch := omega) only [fX8_keeps_79_16_L, fX8_keeps_79_16, e, if_true, if_false, Option.bind_some, Option.map_some, ii_lit, ll_lit, ii_neg, ll_neg, ii_add, ii_sub, ii_mul, ll_add, ll_sub, ll_mul, ii_le, ii_lt, ii_eq, ii_t, bi_0, bi_1, rd_z, wr_z, rr_z, rl_z, wl_z, tn_n, st_s, st_j, st_i, st_c, st_2, sl_s, sl_j, sl_i, sl_c, sl_1, Int.natCast_add, Int.cast_ofNat_Int, if_pos, if_neg]
theorem M_back_79 {τ : mm} {A : bdy} (hK : isK τ 79 A) : ∃ τ', fX8_comesBack_79 τ = some τ' ∧ isM τ' A ∧ Fr [42, 43, 45, 46] [1, 4] τ τ' := by
  obtain ⟨h0, h1, h2, h3, h4, h5, h6⟩ := hK
  unfold fX8_comesBack_79 fX8_comesBack_79_0
  simp (disch := omega) only [h1, h2, Int.toNat_zero, Int.toNat_one, if_true, if_false, Option.bind_some, Option.map_some, ii_lit, ll_lit, ii_neg, ll_neg, ii_add, ii_sub, ii_mul, ll_add, ll_sub, ll_mul, ii_le, ii_lt, ii_eq, ii_t, bi_0, bi_1, rd_z, wr_z, rr_z, rl_z, wl_z, tn_n, st_s, st_j, st_i, st_c, st_2, sl_s, sl_j, sl_i, sl_c, sl_1, Int.natCast_add, Int.cast_ofNat_Int, if_pos, if_neg, decide_eq_false_iff_not, decide_eq_true_eq, in_ll, ii_long, Nat.zero_add, Nat.mul_zero, reduceCtorEq]
  refine lp_j (fun k s => s.1 = ii k ∧ s.2.1 32 0 1 = ii A.n ∧ s.2.1 32 0 4 = ii A.R ∧ (∀ l, l < k → s.2.1 42 0 l = ii (A.lo l) ∧ s.2.1 43 0 l = ii (A.hi l)) ∧ Fr [42, 43, 45, 46] [1, 4] τ s.2) _ 4 ⟨rfl, ?_, ?_, fun l hl => by omega, ((Fr.rf _ _ _).sF (by decide)).sF (by decide)⟩ ?_ ?_
  · simp (disch := omega) only [if_true, if_false, Option.bind_some, Option.map_some, ii_lit, ll_lit, ii_neg, ll_neg, ii_add, ii_sub, ii_mul, ll_add, ll_sub, ll_mul, ii_le, ii_lt, ii_eq, ii_t, bi_0, bi_1, rd_z, wr_z, rr_z, rl_z, wl_z, tn_n, st_s, st_j, st_i, st_c, st_2, sl_s, sl_j, sl_i, sl_c, sl_1, Int.natCast_add, Int.cast_ofNat_Int, if_pos, if_neg, decide_eq_false_iff_not, decide_eq_true_eq, in_ll, ii_long, Nat.zero_add, Nat.mul_zero, reduceCtorEq]
  · simp (disch := omega) only [if_true, if_false, Option.bind_some, Option.map_some, ii_lit, ll_lit, ii_neg, ll_neg, ii_add, ii_sub, ii_mul, ll_add, ll_sub, ll_mul, ii_le, ii_lt, ii_eq, ii_t, bi_0, bi_1, rd_z, wr_z, rr_z, rl_z, wl_z, tn_n, st_s, st_j, st_i, st_c, st_2, sl_s, sl_j, sl_i, sl_c, sl_1, Int.natCast_add, Int.cast_ofNat_Int, if_pos, if_neg, decide_eq_false_iff_not, decide_eq_true_eq, in_ll, ii_long, Nat.zero_add, Nat.mul_zero, reduceCtorEq]
  · rintro k ⟨a, s⟩ hk ⟨g1, g2, g3, g4, g5⟩
    have g1 : a = ii k := g1
    subst g1
    have e1 : s.1 79 0 (2 + k) = ii (A.lo k) := by rw [g5.1 79 (by decide) (by decide)]; exact h3 k hk
    have e2 : s.1 79 0 (6 + k) = ii (A.hi k) := by rw [g5.1 79 (by decide) (by decide)]; exact h4 k hk
    refine ⟨(ii ((k + 1 : Nat)), stI (stI s 42 0 k (ii (A.lo k))) 43 0 k (ii (A.hi k))), ?_, rfl, ?_, ?_, ?_, (g5.sI (by decide) (by decide)).sI (by decide) (by decide)⟩
    · simp (disch := omega) only [fX8_comesBack_79_16_L, fX8_comesBack_79_16, e1, e2, show (2 + (k : Int)).toNat = 2 + k by omega, show (6 + (k : Int)).toNat = 6 + k by omega, if_true, if_false, Option.bind_some, Option.map_some, ii_lit, ll_lit, ii_neg, ll_neg, ii_add, ii_sub, ii_mul, ll_add, ll_sub, ll_mul, ii_le, ii_lt, ii_eq, ii_t, bi_0, bi_1, rd_z, wr_z, rr_z, rl_z, wl_z, tn_n, st_s, st_j, st_i, st_c, st_2, sl_s, sl_j, sl_i, sl_c, sl_1, Int.natCast_add, Int.cast_ofNat_Int, if_pos, if_neg]
    · show (stI (stI s 42 0 k (ii (A.lo k))) 43 0 k (ii (A.hi k))).1 32 0 1 = _
      rw [st_c _ _ _ _ (by decide), st_c _ _ _ _ (by decide)]
      exact g2
    · show (stI (stI s 42 0 k (ii (A.lo k))) 43 0 k (ii (A.hi k))).1 32 0 4 = _
      rw [st_c _ _ _ _ (by decide), st_c _ _ _ _ (by decide)]
      exact g3
    · intro l hl
      show (stI (stI s 42 0 k (ii (A.lo k))) 43 0 k (ii (A.hi k))).1 42 0 l = _ ∧ (stI (stI s 42 0 k (ii (A.lo k))) 43 0 k (ii (A.hi k))).1 43 0 l = _
      rw [st_c _ _ _ _ (by decide)]
      by_cases hlk : l = k
      · subst hlk
        rw [st_s, st_s]
        exact ⟨rfl, rfl⟩
      · rw [st_j _ _ hlk, st_j _ _ hlk, st_c _ _ _ _ (by decide)]
        exact g4 l (by omega)
  · rintro ⟨a, s⟩ ⟨g1, g2, g3, g4, g5⟩
    have g1 : a = ii 4 := g1
    subst g1
    have g2 : s.1 32 0 1 = ii A.n := g2
    have g3 : s.1 32 0 4 = ii A.R := g3
    have key : ∃ s', lp fX8_comesBack_79_52_L (ii 0, s) = some s' ∧ isM s' A ∧ Fr [42, 43, 45, 46] [1, 4] τ s' := by
      refine lp_j (fun k z => z.1 = ii k ∧ (∀ c, c ≠ 45 → z.2.1 c = s.1 c) ∧ (∀ j, j < k → z.2.1 45 0 j = τ.1 79 0 (10 + j)) ∧ Fr [42, 43, 45, 46] [1, 4] τ z.2) _ 56 ⟨rfl, fun _ _ => rfl, fun j hj => by omega, g5⟩ ?_ ?_
      · rintro k ⟨a, z⟩ hk ⟨p1, p2, p3, p4⟩
        have p1 : a = ii k := p1
        subst p1
        have e1 : z.1 79 0 (10 + k) = τ.1 79 0 (10 + k) := by rw [p4.1 79 (by decide) (by decide)]
        refine ⟨(ii ((k + 1 : Nat)), stI z 45 0 k (τ.1 79 0 (10 + k))), ?_, rfl, ?_, ?_, p4.sI (by decide) (by decide)⟩
        · simp (disch := omega) only [fX8_comesBack_79_52_L, fX8_comesBack_79_52, e1, show (10 + (k : Int)).toNat = 10 + k by omega, if_true, if_false, Option.bind_some, Option.map_some, ii_lit, ll_lit, ii_neg, ll_neg, ii_add, ii_sub, ii_mul, ll_add, ll_sub, ll_mul, ii_le, ii_lt, ii_eq, ii_t, bi_0, bi_1, rd_z, wr_z, rr_z, rl_z, wl_z, tn_n, st_s, st_j, st_i, st_c, st_2, sl_s, sl_j, sl_i, sl_c, sl_1, Int.natCast_add, Int.cast_ofNat_Int, if_pos, if_neg]
        · intro c hc
          show (stI z 45 0 k (τ.1 79 0 (10 + k))).1 c = _
          rw [st_c _ _ _ _ hc]
          exact p2 c hc
        · intro j hj
          show (stI z 45 0 k (τ.1 79 0 (10 + k))).1 45 0 j = _
          by_cases hjk : j = k
          · subst hjk
            rw [st_s]
          · rw [st_j _ _ (by omega)]
            exact p3 j (by omega)
      · rintro ⟨a, z⟩ ⟨p1, p2, p3, p4⟩
        have p1 : a = ii 56 := p1
        subst p1
        have key2 : ∃ s', lp fX8_comesBack_79_78_L (ii 0, z) = some s' ∧ ((∀ c, c ≠ 46 → s'.1 c = z.1 c) ∧ (∀ j, j < 16 → s'.1 46 0 j = τ.1 79 0 (66 + j)) ∧ Fr [42, 43, 45, 46] [1, 4] τ s') := by
          refine lp_j (fun k y => y.1 = ii k ∧ (∀ c, c ≠ 46 → y.2.1 c = z.1 c) ∧ (∀ j, j < k → y.2.1 46 0 j = τ.1 79 0 (66 + j)) ∧ Fr [42, 43, 45, 46] [1, 4] τ y.2) _ 16 ⟨rfl, fun _ _ => rfl, fun j hj => by omega, p4⟩ ?_ ?_
          · rintro k ⟨a, y⟩ hk ⟨o1, o2, o3, o4⟩
            have o1 : a = ii k := o1
            subst o1
            have e1 : y.1 79 0 (66 + k) = τ.1 79 0 (66 + k) := by rw [o4.1 79 (by decide) (by decide)]
            refine ⟨(ii ((k + 1 : Nat)), stI y 46 0 k (τ.1 79 0 (66 + k))), ?_, rfl, ?_, ?_, o4.sI (by decide) (by decide)⟩
            · simp (disch := omega) only [fX8_comesBack_79_78_L, fX8_comesBack_79_78, e1, show (66 + (k : Int)).toNat = 66 + k by omega, if_true, if_false, Option.bind_some, Option.map_some, ii_lit, ll_lit, ii_neg, ll_neg, ii_add, ii_sub, ii_mul, ll_add, ll_sub, ll_mul, ii_le, ii_lt, ii_eq, ii_t, bi_0, bi_1, rd_z, wr_z, rr_z, rl_z, wl_z, tn_n, st_s, st_j, st_i, st_c, st_2, sl_s, sl_j, sl_i, sl_c, sl_1, Int.natCast_add, Int.cast_ofNat_Int, if_pos, if_neg]
            · intro c hc
              show (stI y 46 0 k (τ.1 79 0 (66 + k))).1 c = _
              rw [st_c _ _ _ _ hc]
              exact o2 c hc
            · intro j hj
              show (stI y 46 0 k (τ.1 79 0 (66 + k))).1 46 0 j = _
              by_cases hjk : j = k
              · subst hjk
                rw [st_s]
              · rw [st_j _ _ (by omega)]
                exact o3 j (by omega)
          · rintro ⟨a, y⟩ ⟨o1, o2, o3, o4⟩
            have o1 : a = ii 16 := o1
            subst o1
            refine ⟨y, ?_, o2, o3, o4⟩
            simp (disch := omega) only [fX8_comesBack_79_78_L, fX8_comesBack_79_78, if_true, if_false, Option.bind_some, Option.map_some, ii_lit, ll_lit, ii_neg, ll_neg, ii_add, ii_sub, ii_mul, ll_add, ll_sub, ll_mul, ii_le, ii_lt, ii_eq, ii_t, bi_0, bi_1, rd_z, wr_z, rr_z, rl_z, wl_z, tn_n, st_s, st_j, st_i, st_c, st_2, sl_s, sl_j, sl_i, sl_c, sl_1, Int.natCast_add, Int.cast_ofNat_Int, if_pos, if_neg]
        obtain ⟨s', e, o1, o2, o3⟩ := key2
        refine ⟨s', ?_, ?_, o3⟩
        · simp (disch := omega) only [fX8_comesBack_79_52_L, fX8_comesBack_79_52, e, if_true, if_false, Option.bind_some, Option.map_some, ii_lit, ll_lit, ii_neg, ll_neg, ii_add, ii_sub, ii_mul, ll_add, ll_sub, ll_mul, ii_le, ii_lt, ii_eq, ii_t, bi_0, bi_1, rd_z, wr_z, rr_z, rl_z, wl_z, tn_n, st_s, st_j, st_i, st_c, st_2, sl_s, sl_j, sl_i, sl_c, sl_1, Int.natCast_add, Int.cast_ofNat_Int, if_pos, if_neg]
        · refine ⟨h0, ?_, ?_, ?_, ?_, ?_, ?_⟩
          · rw [o1 32 (by decide), p2 32 (by decide)]; exact g2
          · rw [o1 32 (by decide), p2 32 (by decide)]; exact g3
          · intro l hl
            rw [o1 42 (by decide), p2 42 (by decide)]; exact (g4 l hl).1
          · intro l hl
            rw [o1 43 (by decide), p2 43 (by decide)]; exact (g4 l hl).2
          · intro r w hr hw
            rw [o1 45 (by decide), p3 _ (by omega)]; exact h5 r w hr hw
          · intro v l hv hl
            rw [o2 _ (by omega)]; exact h6 v l hv hl
    obtain ⟨s', e, p1, p2⟩ := key
    refine ⟨s', ?_, p1, p2⟩
    simp (disch := omega) only [fX8_comesBack_79_16_L, fX8_comesBack_79_16, e, if_true, if_false, Option.bind_some, Option.map_some, ii_lit, ll_lit, ii_neg, ll_neg, ii_add, ii_sub, ii_mul, ll_add, ll_sub, ll_mul, ii_le, ii_lt, ii_eq, ii_t, bi_0, bi_1, rd_z, wr_z, rr_z, rl_z, wl_z, tn_n, st_s, st_j, st_i, st_c, st_2, sl_s, sl_j, sl_i, sl_c, sl_1, Int.natCast_add, Int.cast_ofNat_Int, if_pos, if_neg]
theorem M_keeps_80 {τ : mm} {A : bdy} (hM : isM τ A) : ∃ τ', fX8_keeps_80 τ = some τ' ∧ isK τ' 80 A ∧ Fr [80] [] τ τ' := by
  obtain ⟨h0, h1, h2, h3, h4, h5, h6⟩ := hM
  unfold fX8_keeps_80 fX8_keeps_80_0
  simp (disch := omega) only [h1, h2, Int.toNat_zero, Int.toNat_one, if_true, if_false, Option.bind_some, Option.map_some, ii_lit, ll_lit, ii_neg, ll_neg, ii_add, ii_sub, ii_mul, ll_add, ll_sub, ll_mul, ii_le, ii_lt, ii_eq, ii_t, bi_0, bi_1, rd_z, wr_z, rr_z, rl_z, wl_z, tn_n, st_s, st_j, st_i, st_c, st_2, sl_s, sl_j, sl_i, sl_c, sl_1, Int.natCast_add, Int.cast_ofNat_Int, if_pos, if_neg, decide_eq_false_iff_not, decide_eq_true_eq, in_ll, ii_long, Nat.zero_add, Nat.mul_zero, reduceCtorEq]
  refine lp_j (fun k s => s.1 = ii k ∧ s.2.1 80 0 0 = ii A.n ∧ s.2.1 80 0 1 = ii A.R ∧ (∀ l, l < k → s.2.1 80 0 (2 + l) = ii (A.lo l) ∧ s.2.1 80 0 (6 + l) = ii (A.hi l)) ∧ Fr [80] [] τ s.2) _ 4 ⟨rfl, ?_, ?_, fun l hl => by omega, ((Fr.rf _ _ _).sI (by decide) (by decide)).sI (by decide) (by decide)⟩ ?_ ?_
  · simp (disch := omega) only [if_true, if_false, Option.bind_some, Option.map_some, ii_lit, ll_lit, ii_neg, ll_neg, ii_add, ii_sub, ii_mul, ll_add, ll_sub, ll_mul, ii_le, ii_lt, ii_eq, ii_t, bi_0, bi_1, rd_z, wr_z, rr_z, rl_z, wl_z, tn_n, st_s, st_j, st_i, st_c, st_2, sl_s, sl_j, sl_i, sl_c, sl_1, Int.natCast_add, Int.cast_ofNat_Int, if_pos, if_neg, decide_eq_false_iff_not, decide_eq_true_eq, in_ll, ii_long, Nat.zero_add, Nat.mul_zero, reduceCtorEq]
  · simp (disch := omega) only [if_true, if_false, Option.bind_some, Option.map_some, ii_lit, ll_lit, ii_neg, ll_neg, ii_add, ii_sub, ii_mul, ll_add, ll_sub, ll_mul, ii_le, ii_lt, ii_eq, ii_t, bi_0, bi_1, rd_z, wr_z, rr_z, rl_z, wl_z, tn_n, st_s, st_j, st_i, st_c, st_2, sl_s, sl_j, sl_i, sl_c, sl_1, Int.natCast_add, Int.cast_ofNat_Int, if_pos, if_neg, decide_eq_false_iff_not, decide_eq_true_eq, in_ll, ii_long, Nat.zero_add, Nat.mul_zero, reduceCtorEq]
  · rintro k ⟨a, s⟩ hk ⟨g1, g2, g3, g4, g5⟩
    have g1 : a = ii k := g1
    subst g1
    have e1 : s.1 42 0 k = ii (A.lo k) := by rw [g5.1 42 (by decide) (by decide)]; exact h3 k hk
    have e2 : s.1 43 0 k = ii (A.hi k) := by rw [g5.1 43 (by decide) (by decide)]; exact h4 k hk
    refine ⟨(ii ((k + 1 : Nat)), stI (stI s 80 0 (2 + k) (ii (A.lo k))) 80 0 (6 + k) (ii (A.hi k))), ?_, rfl, ?_, ?_, ?_, (g5.sI (by decide) (by decide)).sI (by decide) (by decide)⟩
    · simp (disch := omega) only [fX8_keeps_80_16_L, fX8_keeps_80_16, e1, e2, show (2 + (k : Int)).toNat = 2 + k by omega, show (6 + (k : Int)).toNat = 6 + k by omega, if_true, if_false, Option.bind_some, Option.map_some, ii_lit, ll_lit, ii_neg, ll_neg, ii_add, ii_sub, ii_mul, ll_add, ll_sub, ll_mul, ii_le, ii_lt, ii_eq, ii_t, bi_0, bi_1, rd_z, wr_z, rr_z, rl_z, wl_z, tn_n, st_s, st_j, st_i, st_c, st_2, sl_s, sl_j, sl_i, sl_c, sl_1, Int.natCast_add, Int.cast_ofNat_Int, if_pos, if_neg]
    · show (stI (stI s 80 0 (2 + k) (ii (A.lo k))) 80 0 (6 + k) (ii (A.hi k))).1 80 0 0 = _
      rw [st_j _ _ (by omega), st_j _ _ (by omega)]
      exact g2
    · show (stI (stI s 80 0 (2 + k) (ii (A.lo k))) 80 0 (6 + k) (ii (A.hi k))).1 80 0 1 = _
      rw [st_j _ _ (by omega), st_j _ _ (by omega)]
      exact g3
    · intro l hl
      show (stI (stI s 80 0 (2 + k) (ii (A.lo k))) 80 0 (6 + k) (ii (A.hi k))).1 80 0 (2 + l) = _ ∧ (stI (stI s 80 0 (2 + k) (ii (A.lo k))) 80 0 (6 + k) (ii (A.hi k))).1 80 0 (6 + l) = _
      by_cases hlk : l = k
      · subst hlk
        rw [st_j _ _ (by omega), st_s, st_s]
        exact ⟨rfl, rfl⟩
      · rw [st_j _ _ (by omega), st_j _ _ (by omega), st_j _ _ (by omega), st_j _ _ (by omega)]
        exact g4 l (by omega)
  · rintro ⟨a, s⟩ ⟨g1, g2, g3, g4, g5⟩
    have g1 : a = ii 4 := g1
    subst g1
    have g2 : s.1 80 0 0 = ii A.n := g2
    have g3 : s.1 80 0 1 = ii A.R := g3
    have key : ∃ s', lp fX8_keeps_80_52_L (ii 0, s) = some s' ∧ isK s' 80 A ∧ Fr [80] [] τ s' := by
      refine lp_j (fun k z => z.1 = ii k ∧ (∀ j, j < 10 → z.2.1 80 0 j = s.1 80 0 j) ∧ (∀ j, j < k → z.2.1 80 0 (10 + j) = τ.1 45 0 j) ∧ Fr [80] [] τ z.2) _ 56 ⟨rfl, fun _ _ => rfl, fun j hj => by omega, g5⟩ ?_ ?_
      · rintro k ⟨a, z⟩ hk ⟨p1, p2, p3, p4⟩
        have p1 : a = ii k := p1
        subst p1
        have e1 : z.1 45 0 k = τ.1 45 0 k := by rw [p4.1 45 (by decide) (by decide)]
        refine ⟨(ii ((k + 1 : Nat)), stI z 80 0 (10 + k) (τ.1 45 0 k)), ?_, rfl, ?_, ?_, p4.sI (by decide) (by decide)⟩
        · simp (disch := omega) only [fX8_keeps_80_52_L, fX8_keeps_80_52, e1, show (10 + (k : Int)).toNat = 10 + k by omega, if_true, if_false, Option.bind_some, Option.map_some, ii_lit, ll_lit, ii_neg, ll_neg, ii_add, ii_sub, ii_mul, ll_add, ll_sub, ll_mul, ii_le, ii_lt, ii_eq, ii_t, bi_0, bi_1, rd_z, wr_z, rr_z, rl_z, wl_z, tn_n, st_s, st_j, st_i, st_c, st_2, sl_s, sl_j, sl_i, sl_c, sl_1, Int.natCast_add, Int.cast_ofNat_Int, if_pos, if_neg]
        · intro j hj
          show (stI z 80 0 (10 + k) (τ.1 45 0 k)).1 80 0 j = _
          rw [st_j _ _ (by omega)]
          exact p2 j hj
        · intro j hj
          show (stI z 80 0 (10 + k) (τ.1 45 0 k)).1 80 0 (10 + j) = _
          by_cases hjk : j = k
          · subst hjk
            rw [st_s]
          · rw [st_j _ _ (by omega)]
            exact p3 j (by omega)
      · rintro ⟨a, z⟩ ⟨p1, p2, p3, p4⟩
        have p1 : a = ii 56 := p1
        subst p1
        have key2 : ∃ s', lp fX8_keeps_80_78_L (ii 0, z) = some s' ∧ ((∀ j, j < 66 → s'.1 80 0 j = z.1 80 0 j) ∧ (∀ j, j < 16 → s'.1 80 0 (66 + j) = τ.1 46 0 j) ∧ Fr [80] [] τ s') := by
          refine lp_j (fun k y => y.1 = ii k ∧ (∀ j, j < 66 → y.2.1 80 0 j = z.1 80 0 j) ∧ (∀ j, j < k → y.2.1 80 0 (66 + j) = τ.1 46 0 j) ∧ Fr [80] [] τ y.2) _ 16 ⟨rfl, fun _ _ => rfl, fun j hj => by omega, p4⟩ ?_ ?_
          · rintro k ⟨a, y⟩ hk ⟨o1, o2, o3, o4⟩
            have o1 : a = ii k := o1
            subst o1
            have e1 : y.1 46 0 k = τ.1 46 0 k := by rw [o4.1 46 (by decide) (by decide)]
            refine ⟨(ii ((k + 1 : Nat)), stI y 80 0 (66 + k) (τ.1 46 0 k)), ?_, rfl, ?_, ?_, o4.sI (by decide) (by decide)⟩
            · simp (disch := omega) only [fX8_keeps_80_78_L, fX8_keeps_80_78, e1, show (66 + (k : Int)).toNat = 66 + k by omega, if_true, if_false, Option.bind_some, Option.map_some, ii_lit, ll_lit, ii_neg, ll_neg, ii_add, ii_sub, ii_mul, ll_add, ll_sub, ll_mul, ii_le, ii_lt, ii_eq, ii_t, bi_0, bi_1, rd_z, wr_z, rr_z, rl_z, wl_z, tn_n, st_s, st_j, st_i, st_c, st_2, sl_s, sl_j, sl_i, sl_c, sl_1, Int.natCast_add, Int.cast_ofNat_Int, if_pos, if_neg]
            · intro j hj
              show (stI y 80 0 (66 + k) (τ.1 46 0 k)).1 80 0 j = _
              rw [st_j _ _ (by omega)]
              exact o2 j hj
            · intro j hj
              show (stI y 80 0 (66 + k) (τ.1 46 0 k)).1 80 0 (66 + j) = _
              by_cases hjk : j = k
              · subst hjk
                rw [st_s]
              · rw [st_j _ _ (by omega)]
                exact o3 j (by omega)
          · rintro ⟨a, y⟩ ⟨o1, o2, o3, o4⟩
            have o1 : a = ii 16 := o1
            subst o1
            refine ⟨y, ?_, o2, o3, o4⟩
            simp (disch := omega) only [fX8_keeps_80_78_L, fX8_keeps_80_78, if_true, if_false, Option.bind_some, Option.map_some, ii_lit, ll_lit, ii_neg, ll_neg, ii_add, ii_sub, ii_mul, ll_add, ll_sub, ll_mul, ii_le, ii_lt, ii_eq, ii_t, bi_0, bi_1, rd_z, wr_z, rr_z, rl_z, wl_z, tn_n, st_s, st_j, st_i, st_c, st_2, sl_s, sl_j, sl_i, sl_c, sl_1, Int.natCast_add, Int.cast_ofNat_Int, if_pos, if_neg]
        obtain ⟨s', e, o1, o2, o3⟩ := key2
        refine ⟨s', ?_, ?_, o3⟩
        · simp (disch := omega) only [fX8_keeps_80_52_L, fX8_keeps_80_52, e, if_true, if_false, Option.bind_some, Option.map_some, ii_lit, ll_lit, ii_neg, ll_neg, ii_add, ii_sub, ii_mul, ll_add, ll_sub, ll_mul, ii_le, ii_lt, ii_eq, ii_t, bi_0, bi_1, rd_z, wr_z, rr_z, rl_z, wl_z, tn_n, st_s, st_j, st_i, st_c, st_2, sl_s, sl_j, sl_i, sl_c, sl_1, Int.natCast_add, Int.cast_ofNat_Int, if_pos, if_neg]
        · refine ⟨h0, ?_, ?_, ?_, ?_, ?_, ?_⟩
          · rw [o1 0 (by decide), p2 0 (by decide)]; exact g2
          · rw [o1 1 (by decide), p2 1 (by decide)]; exact g3
          · intro l hl
            rw [o1 _ (by omega), p2 _ (by omega)]; exact (g4 l hl).1
          · intro l hl
            rw [o1 _ (by omega), p2 _ (by omega)]; exact (g4 l hl).2
          · intro r w hr hw
            rw [o1 _ (by omega), p3 _ (by omega)]; exact h5 r w hr hw
          · intro v l hv hl
            rw [o2 _ (by omega)]; exact h6 v l hv hl
    obtain ⟨s', e, p1, p2⟩ := key
    refine ⟨s', ?_, p1, p2⟩
    simp (disch := omega) only [fX8_keeps_80_16_L, fX8_keeps_80_16, e, if_true, if_false, Option.bind_some, Option.map_some, ii_lit, ll_lit, ii_neg, ll_neg, ii_add, ii_sub, ii_mul, ll_add, ll_sub, ll_mul, ii_le, ii_lt, ii_eq, ii_t, bi_0, bi_1, rd_z, wr_z, rr_z, rl_z, wl_z, tn_n, st_s, st_j, st_i, st_c, st_2, sl_s, sl_j, sl_i, sl_c, sl_1, Int.natCast_add, Int.cast_ofNat_Int, if_pos, if_neg]
theorem M_back_80 {τ : mm} {A : bdy} (hK : isK τ 80 A) : ∃ τ', fX8_comesBack_80 τ = some τ' ∧ isM τ' A ∧ Fr [42, 43, 45, 46] [1, 4] τ τ' := by
  obtain ⟨h0, h1, h2, h3, h4, h5, h6⟩ := hK
  unfold fX8_comesBack_80 fX8_comesBack_80_0
  simp (disch := omega) only [h1, h2, Int.toNat_zero, Int.toNat_one, if_true, if_false, Option.bind_some, Option.map_some, ii_lit, ll_lit, ii_neg, ll_neg, ii_add, ii_sub, ii_mul, ll_add, ll_sub, ll_mul, ii_le, ii_lt, ii_eq, ii_t, bi_0, bi_1, rd_z, wr_z, rr_z, rl_z, wl_z, tn_n, st_s, st_j, st_i, st_c, st_2, sl_s, sl_j, sl_i, sl_c, sl_1, Int.natCast_add, Int.cast_ofNat_Int, if_pos, if_neg, decide_eq_false_iff_not, decide_eq_true_eq, in_ll, ii_long, Nat.zero_add, Nat.mul_zero, reduceCtorEq]
  refine lp_j (fun k s => s.1 = ii k ∧ s.2.1 32 0 1 = ii A.n ∧ s.2.1 32 0 4 = ii A.R ∧ (∀ l, l < k → s.2.1 42 0 l = ii (A.lo l) ∧ s.2.1 43 0 l = ii (A.hi l)) ∧ Fr [42, 43, 45, 46] [1, 4] τ s.2) _ 4 ⟨rfl, ?_, ?_, fun l hl => by omega, ((Fr.rf _ _ _).sF (by decide)).sF (by decide)⟩ ?_ ?_
  · simp (disch := omega) only [if_true, if_false, Option.bind_some, Option.map_some, ii_lit, ll_lit, ii_neg, ll_neg, ii_add, ii_sub, ii_mul, ll_add, ll_sub, ll_mul, ii_le, ii_lt, ii_eq, ii_t, bi_0, bi_1, rd_z, wr_z, rr_z, rl_z, wl_z, tn_n, st_s, st_j, st_i, st_c, st_2, sl_s, sl_j, sl_i, sl_c, sl_1, Int.natCast_add, Int.cast_ofNat_Int, if_pos, if_neg, decide_eq_false_iff_not, decide_eq_true_eq, in_ll, ii_long, Nat.zero_add, Nat.mul_zero, reduceCtorEq]
  · simp (disch := omega) only [if_true, if_false, Option.bind_some, Option.map_some, ii_lit, ll_lit, ii_neg, ll_neg, ii_add, ii_sub, ii_mul, ll_add, ll_sub, ll_mul, ii_le, ii_lt, ii_eq, ii_t, bi_0, bi_1, rd_z, wr_z, rr_z, rl_z, wl_z, tn_n, st_s, st_j, st_i, st_c, st_2, sl_s, sl_j, sl_i, sl_c, sl_1, Int.natCast_add, Int.cast_ofNat_Int, if_pos, if_neg, decide_eq_false_iff_not, decide_eq_true_eq, in_ll, ii_long, Nat.zero_add, Nat.mul_zero, reduceCtorEq]
  · rintro k ⟨a, s⟩ hk ⟨g1, g2, g3, g4, g5⟩
    have g1 : a = ii k := g1
    subst g1
    have e1 : s.1 80 0 (2 + k) = ii (A.lo k) := by rw [g5.1 80 (by decide) (by decide)]; exact h3 k hk
    have e2 : s.1 80 0 (6 + k) = ii (A.hi k) := by rw [g5.1 80 (by decide) (by decide)]; exact h4 k hk
    refine ⟨(ii ((k + 1 : Nat)), stI (stI s 42 0 k (ii (A.lo k))) 43 0 k (ii (A.hi k))), ?_, rfl, ?_, ?_, ?_, (g5.sI (by decide) (by decide)).sI (by decide) (by decide)⟩
    · simp (disch := omega) only [fX8_comesBack_80_16_L, fX8_comesBack_80_16, e1, e2, show (2 + (k : Int)).toNat = 2 + k by omega, show (6 + (k : Int)).toNat = 6 + k by omega, if_true, if_false, Option.bind_some, Option.map_some, ii_lit, ll_lit, ii_neg, ll_neg, ii_add, ii_sub, ii_mul, ll_add, ll_sub, ll_mul, ii_le, ii_lt, ii_eq, ii_t, bi_0, bi_1, rd_z, wr_z, rr_z, rl_z, wl_z, tn_n, st_s, st_j, st_i, st_c, st_2, sl_s, sl_j, sl_i, sl_c, sl_1, Int.natCast_add, Int.cast_ofNat_Int, if_pos, if_neg]
    · show (stI (stI s 42 0 k (ii (A.lo k))) 43 0 k (ii (A.hi k))).1 32 0 1 = _
      rw [st_c _ _ _ _ (by decide), st_c _ _ _ _ (by decide)]
      exact g2
    · show (stI (stI s 42 0 k (ii (A.lo k))) 43 0 k (ii (A.hi k))).1 32 0 4 = _
      rw [st_c _ _ _ _ (by decide), st_c _ _ _ _ (by decide)]
      exact g3
    · intro l hl
      show (stI (stI s 42 0 k (ii (A.lo k))) 43 0 k (ii (A.hi k))).1 42 0 l = _ ∧ (stI (stI s 42 0 k (ii (A.lo k))) 43 0 k (ii (A.hi k))).1 43 0 l = _
      rw [st_c _ _ _ _ (by decide)]
      by_cases hlk : l = k
      · subst hlk
        rw [st_s, st_s]
        exact ⟨rfl, rfl⟩
      · rw [st_j _ _ hlk, st_j _ _ hlk, st_c _ _ _ _ (by decide)]
        exact g4 l (by omega)
  · rintro ⟨a, s⟩ ⟨g1, g2, g3, g4, g5⟩
    have g1 : a = ii 4 := g1
    subst g1
    have g2 : s.1 32 0 1 = ii A.n := g2
    have g3 : s.1 32 0 4 = ii A.R := g3
    have key : ∃ s', lp fX8_comesBack_80_52_L (ii 0, s) = some s' ∧ isM s' A ∧ Fr [42, 43, 45, 46] [1, 4] τ s' := by
      refine lp_j (fun k z => z.1 = ii k ∧ (∀ c, c ≠ 45 → z.2.1 c = s.1 c) ∧ (∀ j, j < k → z.2.1 45 0 j = τ.1 80 0 (10 + j)) ∧ Fr [42, 43, 45, 46] [1, 4] τ z.2) _ 56 ⟨rfl, fun _ _ => rfl, fun j hj => by omega, g5⟩ ?_ ?_
      · rintro k ⟨a, z⟩ hk ⟨p1, p2, p3, p4⟩
        have p1 : a = ii k := p1
        subst p1
        have e1 : z.1 80 0 (10 + k) = τ.1 80 0 (10 + k) := by rw [p4.1 80 (by decide) (by decide)]
        refine ⟨(ii ((k + 1 : Nat)), stI z 45 0 k (τ.1 80 0 (10 + k))), ?_, rfl, ?_, ?_, p4.sI (by decide) (by decide)⟩
        · simp (disch := omega) only [fX8_comesBack_80_52_L, fX8_comesBack_80_52, e1, show (10 + (k : Int)).toNat = 10 + k by omega, if_true, if_false, Option.bind_some, Option.map_some, ii_lit, ll_lit, ii_neg, ll_neg, ii_add, ii_sub, ii_mul, ll_add, ll_sub, ll_mul, ii_le, ii_lt, ii_eq, ii_t, bi_0, bi_1, rd_z, wr_z, rr_z, rl_z, wl_z, tn_n, st_s, st_j, st_i, st_c, st_2, sl_s, sl_j, sl_i, sl_c, sl_1, Int.natCast_add, Int.cast_ofNat_Int, if_pos, if_neg]
        · intro c hc
          show (stI z 45 0 k (τ.1 80 0 (10 + k))).1 c = _
          rw [st_c _ _ _ _ hc]
          exact p2 c hc
        · intro j hj
          show (stI z 45 0 k (τ.1 80 0 (10 + k))).1 45 0 j = _
          by_cases hjk : j = k
          · subst hjk
            rw [st_s]
          · rw [st_j _ _ (by omega)]
            exact p3 j (by omega)
      · rintro ⟨a, z⟩ ⟨p1, p2, p3, p4⟩
        have p1 : a = ii 56 := p1
        subst p1
        have key2 : ∃ s', lp fX8_comesBack_80_78_L (ii 0, z) = some s' ∧ ((∀ c, c ≠ 46 → s'.1 c = z.1 c) ∧ (∀ j, j < 16 → s'.1 46 0 j = τ.1 80 0 (66 + j)) ∧ Fr [42, 43, 45, 46] [1, 4] τ s') := by
          refine lp_j (fun k y => y.1 = ii k ∧ (∀ c, c ≠ 46 → y.2.1 c = z.1 c) ∧ (∀ j, j < k → y.2.1 46 0 j = τ.1 80 0 (66 + j)) ∧ Fr [42, 43, 45, 46] [1, 4] τ y.2) _ 16 ⟨rfl, fun _ _ => rfl, fun j hj => by omega, p4⟩ ?_ ?_
          · rintro k ⟨a, y⟩ hk ⟨o1, o2, o3, o4⟩
            have o1 : a = ii k := o1
            subst o1
            have e1 : y.1 80 0 (66 + k) = τ.1 80 0 (66 + k) := by rw [o4.1 80 (by decide) (by decide)]
            refine ⟨(ii ((k + 1 : Nat)), stI y 46 0 k (τ.1 80 0 (66 + k))), ?_, rfl, ?_, ?_, o4.sI (by decide) (by decide)⟩
            · simp (disch := omega) only [fX8_comesBack_80_78_L, fX8_comesBack_80_78, e1, show (66 + (k : Int)).toNat = 66 + k by omega, if_true, if_false, Option.bind_some, Option.map_some, ii_lit, ll_lit, ii_neg, ll_neg, ii_add, ii_sub, ii_mul, ll_add, ll_sub, ll_mul, ii_le, ii_lt, ii_eq, ii_t, bi_0, bi_1, rd_z, wr_z, rr_z, rl_z, wl_z, tn_n, st_s, st_j, st_i, st_c, st_2, sl_s, sl_j, sl_i, sl_c, sl_1, Int.natCast_add, Int.cast_ofNat_Int, if_pos, if_neg]
            · intro c hc
              show (stI y 46 0 k (τ.1 80 0 (66 + k))).1 c = _
              rw [st_c _ _ _ _ hc]
              exact o2 c hc
            · intro j hj
              show (stI y 46 0 k (τ.1 80 0 (66 + k))).1 46 0 j = _
              by_cases hjk : j = k
              · subst hjk
                rw [st_s]
              · rw [st_j _ _ (by omega)]
                exact o3 j (by omega)
          · rintro ⟨a, y⟩ ⟨o1, o2, o3, o4⟩
            have o1 : a = ii 16 := o1
            subst o1
            refine ⟨y, ?_, o2, o3, o4⟩
            simp (disch := omega) only [fX8_comesBack_80_78_L, fX8_comesBack_80_78, if_true, if_false, Option.bind_some, Option.map_some, ii_lit, ll_lit, ii_neg, ll_neg, ii_add, ii_sub, ii_mul, ll_add, ll_sub, ll_mul, ii_le, ii_lt, ii_eq, ii_t, bi_0, bi_1, rd_z, wr_z, rr_z, rl_z, wl_z, tn_n, st_s, st_j, st_i, st_c, st_2, sl_s, sl_j, sl_i, sl_c, sl_1, Int.natCast_add, Int.cast_ofNat_Int, if_pos, if_neg]
        obtain ⟨s', e, o1, o2, o3⟩ := key2
        refine ⟨s', ?_, ?_, o3⟩
        · simp (disch := omega) only [fX8_comesBack_80_52_L, fX8_comesBack_80_52, e, if_true, if_false, Option.bind_some, Option.map_some, ii_lit, ll_lit, ii_neg, ll_neg, ii_add, ii_sub, ii_mul, ll_add, ll_sub, ll_mul, ii_le, ii_lt, ii_eq, ii_t, bi_0, bi_1, rd_z, wr_z, rr_z, rl_z, wl_z, tn_n, st_s, st_j, st_i, st_c, st_2, sl_s, sl_j, sl_i, sl_c, sl_1, Int.natCast_add, Int.cast_ofNat_Int, if_pos, if_neg]
        · refine ⟨h0, ?_, ?_, ?_, ?_, ?_, ?_⟩
          · rw [o1 32 (by decide), p2 32 (by decide)]; exact g2
          · rw [o1 32 (by decide), p2 32 (by decide)]; exact g3
          · intro l hl
            rw [o1 42 (by decide), p2 42 (by decide)]; exact (g4 l hl).1
          · intro l hl
            rw [o1 43 (by decide), p2 43 (by decide)]; exact (g4 l hl).2
          · intro r w hr hw
            rw [o1 45 (by decide), p3 _ (by omega)]; exact h5 r w hr hw
          · intro v l hv hl
            rw [o2 _ (by omega)]; exact h6 v l hv hl
    obtain ⟨s', e, p1, p2⟩ := key
    refine ⟨s', ?_, p1, p2⟩
    simp (disch := omega) only [fX8_comesBack_80_16_L, fX8_comesBack_80_16, e, if_true, if_false, Option.bind_some, Option.map_some, ii_lit, ll_lit, ii_neg, ll_neg, ii_add, ii_sub, ii_mul, ll_add, ll_sub, ll_mul, ii_le, ii_lt, ii_eq, ii_t, bi_0, bi_1, rd_z, wr_z, rr_z, rl_z, wl_z, tn_n, st_s, st_j, st_i, st_c, st_2, sl_s, sl_j, sl_i, sl_c, sl_1, Int.natCast_add, Int.cast_ofNat_Int, if_pos, if_neg]
theorem m_image {σ τ : mm} (h : Rel σ τ) : Ag (fX7_image σ) (fX8_image τ) := by
  obtain ⟨A, hR⟩ := h
  obtain ⟨⟨hC, hM, hA⟩, ⟨b1, b2⟩, ⟨c1, c2, c3, c4, c5⟩⟩ := id hR
  obtain ⟨σ1, e1, f1, f2⟩ := C_take (a := 1) (b := 0) (by decide) hC
  obtain ⟨τ1, e2, g1, g2⟩ := M_keeps_79 hM
  have hC0 : isC σ1 0 A := hC.fb f2 (by decide)
  have fs : Fr [7] [] σ1 (stI σ1 7 0 3 (ii 1)) := (Fr.rf _ _ _).sI (by decide) (by decide)
  have fr : Fr [0, 4, 8, 9, 10, 11, 7] [] σ (stI σ1 7 0 3 (ii 1)) := Fr.tr ⟨fun c _ hc => f2.1 c (fun e => hc (by revert e; simp; omega)), fun c _ => by rw [f2.2.1], fun j _ => by rw [f2.1 32 (by decide)]⟩ (fs.mono (by decide) (by decide))
  have gr : Fr [79] [41] τ (stI τ1 32 0 41 (ii 1)) := (g2.mono (by decide) (by decide)).sF (by decide)
  have gs : Fr [] [41] τ1 (stI τ1 32 0 41 (ii 1)) := (Fr.rf _ _ _).sF (by decide)
  refine ⟨ii 1, stI σ1 7 0 3 (ii 1), stI τ1 32 0 41 (ii 1), ?_, ?_, A, ⟨hC0.fr fs (by decide), hM.fr gr (by decide) (by decide), hA⟩, ⟨b1.c fr (by decide), b2.c fr (by decide)⟩, Or.inr ⟨st_s _ _ _ _ _, st_s _ _ _ _ _, A, f1.fr fs (by decide), g1.fr gs (by decide) (by decide), hA⟩, c2.fr fr gr (by decide) (by decide) (by decide), c3.fr fr gr (by decide) (by decide), c4.fr fr gr (by decide) (by decide), c5.fr gr (by decide)⟩
  · unfold fX7_image fX7_image_0
    simp (disch := omega) only [e1, if_true, if_false, Option.bind_some, Option.map_some, ii_lit, ll_lit, ii_neg, ll_neg, ii_add, ii_sub, ii_mul, ll_add, ll_sub, ll_mul, ii_le, ii_lt, ii_eq, ii_t, bi_0, bi_1, rd_z, wr_z, rr_z, rl_z, wl_z, tn_n, st_s, st_j, st_i, st_c, st_2, sl_s, sl_j, sl_i, sl_c, sl_1, Int.natCast_add, Int.cast_ofNat_Int, if_pos, if_neg, decide_eq_false_iff_not, decide_eq_true_eq, in_ll, ii_long, Nat.zero_add, Nat.mul_zero, reduceCtorEq]
  · unfold fX8_image fX8_image_0
    simp (disch := omega) only [e2, if_true, if_false, Option.bind_some, Option.map_some, ii_lit, ll_lit, ii_neg, ll_neg, ii_add, ii_sub, ii_mul, ll_add, ll_sub, ll_mul, ii_le, ii_lt, ii_eq, ii_t, bi_0, bi_1, rd_z, wr_z, rr_z, rl_z, wl_z, tn_n, st_s, st_j, st_i, st_c, st_2, sl_s, sl_j, sl_i, sl_c, sl_1, Int.natCast_add, Int.cast_ofNat_Int, if_pos, if_neg, decide_eq_false_iff_not, decide_eq_true_eq, in_ll, ii_long, Nat.zero_add, Nat.mul_zero, reduceCtorEq]
theorem m_undo {σ τ : mm} (h : Rel σ τ) : Ag (fX7_undo σ) (fX8_undo τ) := by
  obtain ⟨A, hR⟩ := h
  obtain ⟨⟨hC, hM, hA⟩, -, ⟨c1, -⟩⟩ := id hR
  rcases c1 with ⟨a, b⟩ | ⟨a, b, K, d1, d2, d3⟩
  · obtain ⟨σ', τ', e3, e4, hr⟩ := fd3 hR
    refine ⟨ii (-1000000004), σ', τ', ?_, ?_, _, hr⟩
    · unfold fX7_undo fX7_undo_0
      simp (disch := omega) only [a, e3, if_true, if_false, Option.bind_some, Option.map_some, ii_lit, ll_lit, ii_neg, ll_neg, ii_add, ii_sub, ii_mul, ll_add, ll_sub, ll_mul, ii_le, ii_lt, ii_eq, ii_t, bi_0, bi_1, rd_z, wr_z, rr_z, rl_z, wl_z, tn_n, st_s, st_j, st_i, st_c, st_2, sl_s, sl_j, sl_i, sl_c, sl_1, Int.natCast_add, Int.cast_ofNat_Int, if_pos, if_neg, decide_eq_false_iff_not, decide_eq_true_eq, in_ll, ii_long, Nat.zero_add, Nat.mul_zero, reduceCtorEq]
    · unfold fX8_undo fX8_undo_0
      simp (disch := omega) only [b, e4, if_true, if_false, Option.bind_some, Option.map_some, ii_lit, ll_lit, ii_neg, ll_neg, ii_add, ii_sub, ii_mul, ll_add, ll_sub, ll_mul, ii_le, ii_lt, ii_eq, ii_t, bi_0, bi_1, rd_z, wr_z, rr_z, rl_z, wl_z, tn_n, st_s, st_j, st_i, st_c, st_2, sl_s, sl_j, sl_i, sl_c, sl_1, Int.natCast_add, Int.cast_ofNat_Int, if_pos, if_neg, decide_eq_false_iff_not, decide_eq_true_eq, in_ll, ii_long, Nat.zero_add, Nat.mul_zero, reduceCtorEq]
  · obtain ⟨σ1, e1, f1, f2⟩ := C_take (a := 0) (b := 1) (by decide) d1
    obtain ⟨τ1, e2, g1, g2⟩ := M_back_79 d2
    have hRl := Rel.body hR f1 g1 d3 f2 g2
    have p1 := hRl.1.1.2.2.1
    have p2 := g1.2.2.1
    refine ⟨ii K.R, _, _, ?_, ?_, _, hRl⟩
    · unfold fX7_undo fX7_undo_0
      simp (disch := omega) only [a, e1, p1, if_true, if_false, Option.bind_some, Option.map_some, ii_lit, ll_lit, ii_neg, ll_neg, ii_add, ii_sub, ii_mul, ll_add, ll_sub, ll_mul, ii_le, ii_lt, ii_eq, ii_t, bi_0, bi_1, rd_z, wr_z, rr_z, rl_z, wl_z, tn_n, st_s, st_j, st_i, st_c, st_2, sl_s, sl_j, sl_i, sl_c, sl_1, Int.natCast_add, Int.cast_ofNat_Int, if_pos, if_neg, decide_eq_false_iff_not, decide_eq_true_eq, in_ll, ii_long, Nat.zero_add, Nat.mul_zero, reduceCtorEq]
    · unfold fX8_undo fX8_undo_0
      simp (disch := omega) only [b, e2, p2, if_true, if_false, Option.bind_some, Option.map_some, ii_lit, ll_lit, ii_neg, ll_neg, ii_add, ii_sub, ii_mul, ll_add, ll_sub, ll_mul, ii_le, ii_lt, ii_eq, ii_t, bi_0, bi_1, rd_z, wr_z, rr_z, rl_z, wl_z, tn_n, st_s, st_j, st_i, st_c, st_2, sl_s, sl_j, sl_i, sl_c, sl_1, Int.natCast_add, Int.cast_ofNat_Int, if_pos, if_neg, decide_eq_false_iff_not, decide_eq_true_eq, in_ll, ii_long, Nat.zero_add, Nat.mul_zero, reduceCtorEq]
