-- copy
theorem C_hasRange {σ : mm} {s : Nat} {size a n : Int} (hs : σ.1 5 s 1 = ii size) (hr : 0 ≤ size ∧ size ≤ 40) (h1 : -2147483648 ≤ a) (h2 : a < 2147483648) (h3 : -2147483648 ≤ n) (h4 : n < 2147483648) : fX5_hasRange s (ii a) (ii n) σ = decide (0 ≤ a ∧ 0 ≤ n ∧ a + n ≤ size) := by
  unfold fX5_hasRange fX5_hasRange_0
  by_cases k : 0 ≤ a ∧ 0 ≤ n ∧ a + n ≤ size
  · rw [decide_eq_true k]
    simp (disch := omega) only [hs, if_true, if_false, Option.bind_some, Option.map_some, ii_lit, ll_lit, ii_neg, ll_neg, ii_add, ii_sub, ii_mul, ll_add, ll_sub, ll_mul, ii_le, ii_lt, ii_eq, ii_t, bi_0, bi_1, rd_z, wr_z, rr_z, rl_z, wl_z, tn_n, st_s, st_j, st_i, st_c, st_2, sl_s, sl_j, sl_i, sl_c, sl_1, Int.natCast_add, Int.cast_ofNat_Int, if_pos, if_neg, decide_eq_false_iff_not, decide_eq_true_eq, in_ll, ii_long, Nat.zero_add, Nat.mul_zero, reduceCtorEq]
  · rw [decide_eq_false k]
    by_cases q1 : a < 0
    · simp (disch := omega) only [hs, if_true, if_false, Option.bind_some, Option.map_some, ii_lit, ll_lit, ii_neg, ll_neg, ii_add, ii_sub, ii_mul, ll_add, ll_sub, ll_mul, ii_le, ii_lt, ii_eq, ii_t, bi_0, bi_1, rd_z, wr_z, rr_z, rl_z, wl_z, tn_n, st_s, st_j, st_i, st_c, st_2, sl_s, sl_j, sl_i, sl_c, sl_1, Int.natCast_add, Int.cast_ofNat_Int, if_pos, if_neg, decide_eq_false_iff_not, decide_eq_true_eq, in_ll, ii_long, Nat.zero_add, Nat.mul_zero, reduceCtorEq]
    · by_cases q2 : n < 0
      · simp (disch := omega) only [hs, if_true, if_false, Option.bind_some, Option.map_some, ii_lit, ll_lit, ii_neg, ll_neg, ii_add, ii_sub, ii_mul, ll_add, ll_sub, ll_mul, ii_le, ii_lt, ii_eq, ii_t, bi_0, bi_1, rd_z, wr_z, rr_z, rl_z, wl_z, tn_n, st_s, st_j, st_i, st_c, st_2, sl_s, sl_j, sl_i, sl_c, sl_1, Int.natCast_add, Int.cast_ofNat_Int, if_pos, if_neg, decide_eq_false_iff_not, decide_eq_true_eq, in_ll, ii_long, Nat.zero_add, Nat.mul_zero, reduceCtorEq]
      · by_cases q3 : size < a
        · simp (disch := omega) only [hs, if_true, if_false, Option.bind_some, Option.map_some, ii_lit, ll_lit, ii_neg, ll_neg, ii_add, ii_sub, ii_mul, ll_add, ll_sub, ll_mul, ii_le, ii_lt, ii_eq, ii_t, bi_0, bi_1, rd_z, wr_z, rr_z, rl_z, wl_z, tn_n, st_s, st_j, st_i, st_c, st_2, sl_s, sl_j, sl_i, sl_c, sl_1, Int.natCast_add, Int.cast_ofNat_Int, if_pos, if_neg, decide_eq_false_iff_not, decide_eq_true_eq, in_ll, ii_long, Nat.zero_add, Nat.mul_zero, reduceCtorEq]
        · simp (disch := omega) only [hs, if_true, if_false, Option.bind_some, Option.map_some, ii_lit, ll_lit, ii_neg, ll_neg, ii_add, ii_sub, ii_mul, ll_add, ll_sub, ll_mul, ii_le, ii_lt, ii_eq, ii_t, bi_0, bi_1, rd_z, wr_z, rr_z, rl_z, wl_z, tn_n, st_s, st_j, st_i, st_c, st_2, sl_s, sl_j, sl_i, sl_c, sl_1, Int.natCast_add, Int.cast_ofNat_Int, if_pos, if_neg, decide_eq_false_iff_not, decide_eq_true_eq, in_ll, ii_long, Nat.zero_add, Nat.mul_zero, reduceCtorEq]
theorem m_copy {σ τ : mm} (h : Rel σ τ) (s a t b n : Int32) : Ag (fX7_copy s a t b n σ) (fX8_copy s a t b n τ) := by
  obtain ⟨A, hR⟩ := h
  obtain ⟨s, rfl, h1, h2⟩ := ii_ex s
  obtain ⟨a, rfl, h3, h4⟩ := ii_ex a
  obtain ⟨t, rfl, h5, h6⟩ := ii_ex t
  obtain ⟨b, rfl, h7, h8⟩ := ii_ex b
  obtain ⟨n, rfl, h9, h10⟩ := ii_ex n
  have k1 := C_isSheet h1 h2
  have k2 := M_isSheet h1 h2
  have k3 := C_isSheet h5 h6
  have k4 := M_isSheet h5 h6
  obtain ⟨c1, c2, c3, c4, c5⟩ := hR.2.2
  by_cases hs : (0 ≤ s ∧ s < 4) ∧ 0 ≤ t ∧ t < 4
  · obtain ⟨⟨v1, v2⟩, v3, v4⟩ := hs
    obtain ⟨s, rfl⟩ : ∃ k : Nat, s = k := ⟨s.toNat, by omega⟩
    obtain ⟨t, rfl⟩ : ∃ k : Nat, t = k := ⟨t.toNat, by omega⟩
    obtain ⟨bs, zs, p1, p2, p3, p4, p5, p6, p7⟩ := c3 s (by omega)
    obtain ⟨bt, zt, q1, q2, q3, q4, q5, q6, q7⟩ := c3 t (by omega)
    by_cases hm : bs = 0 ∨ bt = 0
    · obtain ⟨σ', τ', e3, e4, hr⟩ := fd5 hR
      refine ⟨ii (-1000000006), σ', τ', ?_, ?_, _, hr⟩
      · unfold fX7_copy fX7_copy_0 fX7_copy_52
        by_cases q : bs = 0
        · simp (disch := omega) only [k1, k3, p3, q3, e3, if_true, if_false, Option.bind_some, Option.map_some, ii_lit, ll_lit, ii_neg, ll_neg, ii_add, ii_sub, ii_mul, ll_add, ll_sub, ll_mul, ii_le, ii_lt, ii_eq, ii_t, bi_0, bi_1, rd_z, wr_z, rr_z, rl_z, wl_z, tn_n, st_s, st_j, st_i, st_c, st_2, sl_s, sl_j, sl_i, sl_c, sl_1, Int.natCast_add, Int.cast_ofNat_Int, if_pos, if_neg, decide_eq_false_iff_not, decide_eq_true_eq, in_ll, ii_long, Nat.zero_add, Nat.mul_zero, reduceCtorEq]
        · simp (disch := omega) only [k1, k3, p3, q3, e3, if_true, if_false, Option.bind_some, Option.map_some, ii_lit, ll_lit, ii_neg, ll_neg, ii_add, ii_sub, ii_mul, ll_add, ll_sub, ll_mul, ii_le, ii_lt, ii_eq, ii_t, bi_0, bi_1, rd_z, wr_z, rr_z, rl_z, wl_z, tn_n, st_s, st_j, st_i, st_c, st_2, sl_s, sl_j, sl_i, sl_c, sl_1, Int.natCast_add, Int.cast_ofNat_Int, if_pos, if_neg, decide_eq_false_iff_not, decide_eq_true_eq, in_ll, ii_long, Nat.zero_add, Nat.mul_zero, reduceCtorEq]
      · unfold fX8_copy fX8_copy_0 fX8_copy_39
        by_cases q : bs = 0
        · simp (disch := omega) only [k2, k4, p4, q4, e4, if_true, if_false, Option.bind_some, Option.map_some, ii_lit, ll_lit, ii_neg, ll_neg, ii_add, ii_sub, ii_mul, ll_add, ll_sub, ll_mul, ii_le, ii_lt, ii_eq, ii_t, bi_0, bi_1, rd_z, wr_z, rr_z, rl_z, wl_z, tn_n, st_s, st_j, st_i, st_c, st_2, sl_s, sl_j, sl_i, sl_c, sl_1, Int.natCast_add, Int.cast_ofNat_Int, if_pos, if_neg, decide_eq_false_iff_not, decide_eq_true_eq, in_ll, ii_long, Nat.zero_add, Nat.mul_zero, reduceCtorEq]
        · simp (disch := omega) only [k2, k4, p4, q4, e4, if_true, if_false, Option.bind_some, Option.map_some, ii_lit, ll_lit, ii_neg, ll_neg, ii_add, ii_sub, ii_mul, ll_add, ll_sub, ll_mul, ii_le, ii_lt, ii_eq, ii_t, bi_0, bi_1, rd_z, wr_z, rr_z, rl_z, wl_z, tn_n, st_s, st_j, st_i, st_c, st_2, sl_s, sl_j, sl_i, sl_c, sl_1, Int.natCast_add, Int.cast_ofNat_Int, if_pos, if_neg, decide_eq_false_iff_not, decide_eq_true_eq, in_ll, ii_long, Nat.zero_add, Nat.mul_zero, reduceCtorEq]
    · by_cases hk : bs = bt
      · subst hk
        have r1 := C_hasRange p5 p2 h3 h4 h9 h10
        have r2 := C_hasRange q5 q2 h7 h8 h9 h10
        by_cases hok : 0 ≤ a ∧ 0 ≤ b ∧ 0 ≤ n ∧ a + n ≤ zs ∧ b + n ≤ zt
        · obtain ⟨o1, o2, o3, o4, o5⟩ := hok
          obtain ⟨a, rfl⟩ : ∃ k : Nat, a = k := ⟨a.toNat, by omega⟩
          obtain ⟨b, rfl⟩ : ∃ k : Nat, b = k := ⟨b.toNat, by omega⟩
          obtain ⟨n, rfl⟩ : ∃ k : Nat, n = k := ⟨n.toNat, by omega⟩
          obtain ⟨σ1, e1, f1, f2, f3, f4⟩ := cl_z (σ := σ) (c := 26) (i := s) (n := 40) (c' := 26) (i' := t) (n' := 40) (sp := a) (dp := b) (k := n) (by omega) (by omega) (by decide) (by decide)
          have fr : Fr [26] [] σ σ1 := ⟨fun c _ _ => by rw [f4], fun c hc => f2 c (fun e => hc (by rw [e]; decide)), fun j _ => by rw [f4]⟩
          have s2 : ∃ r, lp (fX8_copy_119_L (ii s) (ii a) (ii t) (ii b) (ii n)) (ii 0, τ) = some r ∧ (r.1 = ii n ∧ (∀ i, i < 40 → r.2.2 77 0 (40 * t + i) = if b ≤ i ∧ i < b + n then τ.2 77 0 (40 * s + (a + (i - b))) else τ.2 77 0 (40 * t + i)) ∧ (∀ u, u ≠ t → ∀ i, i < 40 → r.2.2 77 0 (40 * u + i) = τ.2 77 0 (40 * u + i)) ∧ Fr [77, 78] [] τ r.2 ∧ r.2.1 = τ.1) := by
            refine lp_j (fun k z => z.1 = ii k ∧ (∀ i, i < k → z.2.2 78 0 i = τ.2 77 0 (40 * s + (a + i))) ∧ z.2.2 77 = τ.2 77 ∧ Fr [77, 78] [] τ z.2 ∧ z.2.1 = τ.1) _ n ⟨rfl, fun i hi => by omega, rfl, Fr.rf _ _ _, rfl⟩ ?_ ?_
            · rintro k ⟨x, z⟩ hk ⟨g1, g2, g3, g4, g5⟩
              have g1 : x = ii k := g1
              subst g1
              have e : z.2 77 0 (40 * s + (a + k)) = τ.2 77 0 (40 * s + (a + k)) := by
                have g3 : z.2 77 = τ.2 77 := g3
                rw [g3]
              refine ⟨(ii ((k + 1 : Nat)), stL z 78 0 k (τ.2 77 0 (40 * s + (a + k)))), ?_, rfl, ?_, ?_, g4.sL (by decide), g5⟩
              · simp (disch := omega) only [fX8_copy_119_L, fX8_copy_119, show (40 * (s : Int) + (a : Int) + (k : Int)).toNat = 40 * s + (a + k) by omega, e, if_true, if_false, Option.bind_some, Option.map_some, ii_lit, ll_lit, ii_neg, ll_neg, ii_add, ii_sub, ii_mul, ll_add, ll_sub, ll_mul, ii_le, ii_lt, ii_eq, ii_t, bi_0, bi_1, rd_z, wr_z, rr_z, rl_z, wl_z, tn_n, st_s, st_j, st_i, st_c, st_2, sl_s, sl_j, sl_i, sl_c, sl_1, Int.natCast_add, Int.cast_ofNat_Int, if_pos, if_neg]
              · intro i hi
                show (stL z 78 0 k _).2 78 0 i = _
                by_cases hik : i = k
                · subst hik
                  rw [sl_s]
                · rw [sl_j _ _ hik]
                  exact g2 i (by omega)
              · show (stL z 78 0 k _).2 77 = _
                rw [sl_c _ _ _ _ (by decide)]
                exact g3
            · rintro ⟨x, z⟩ ⟨g1, g2, g3, g4, g5⟩
              have g1 : x = ii n := g1
              subst g1
              have g3 : z.2 77 = τ.2 77 := g3
              have inner : ∃ r, lp (fX8_copy_156_L (ii t) (ii b) (ii n)) (ii 0, z) = some r ∧ (r.1 = ii n ∧ (∀ i, i < 40 → r.2.2 77 0 (40 * t + i) = if b ≤ i ∧ i < b + n then τ.2 77 0 (40 * s + (a + (i - b))) else τ.2 77 0 (40 * t + i)) ∧ (∀ u, u ≠ t → ∀ i, i < 40 → r.2.2 77 0 (40 * u + i) = τ.2 77 0 (40 * u + i)) ∧ Fr [77, 78] [] τ r.2 ∧ r.2.1 = τ.1) := by
                refine lp_j (fun k y => y.1 = ii k ∧ y.2.2 78 = z.2 78 ∧ (∀ i, i < 40 → y.2.2 77 0 (40 * t + i) = if b ≤ i ∧ i < b + k then τ.2 77 0 (40 * s + (a + (i - b))) else τ.2 77 0 (40 * t + i)) ∧ (∀ u, u ≠ t → ∀ i, i < 40 → y.2.2 77 0 (40 * u + i) = τ.2 77 0 (40 * u + i)) ∧ Fr [77, 78] [] τ y.2 ∧ y.2.1 = τ.1) _ n ⟨rfl, rfl, ?_, ?_, g4, g5⟩ ?_ ?_
                · intro i hi
                  show z.2 77 0 (40 * t + i) = _
                  rw [if_neg (by omega), g3]
                · intro u hu i hi
                  show z.2 77 0 (40 * u + i) = _
                  rw [g3]
                · rintro k ⟨x, y⟩ hk ⟨w1, w2, w3, w4, w5, w6⟩
                  have w1 : x = ii k := w1
                  subst w1
                  have w2 : y.2 78 = z.2 78 := w2
                  have e : y.2 78 0 k = τ.2 77 0 (40 * s + (a + k)) := by
                    rw [w2]
                    exact g2 k hk
                  refine ⟨(ii ((k + 1 : Nat)), stL y 77 0 (40 * t + (b + k)) (τ.2 77 0 (40 * s + (a + k)))), ?_, rfl, ?_, ?_, ?_, w5.sL (by decide), w6⟩
                  · simp (disch := omega) only [fX8_copy_156_L, fX8_copy_156, show (40 * (t : Int) + (b : Int) + (k : Int)).toNat = 40 * t + (b + k) by omega, e, if_true, if_false, Option.bind_some, Option.map_some, ii_lit, ll_lit, ii_neg, ll_neg, ii_add, ii_sub, ii_mul, ll_add, ll_sub, ll_mul, ii_le, ii_lt, ii_eq, ii_t, bi_0, bi_1, rd_z, wr_z, rr_z, rl_z, wl_z, tn_n, st_s, st_j, st_i, st_c, st_2, sl_s, sl_j, sl_i, sl_c, sl_1, Int.natCast_add, Int.cast_ofNat_Int, if_pos, if_neg]
                  · show (stL y 77 0 (40 * t + (b + k)) _).2 78 = _
                    rw [sl_c _ _ _ _ (by decide)]
                    exact w2
                  · intro i hi
                    show (stL y 77 0 (40 * t + (b + k)) _).2 77 0 (40 * t + i) = _
                    by_cases hib : i = b + k
                    · subst hib
                      rw [sl_s, if_pos (by omega), show b + k - b = k by omega]
                    · rw [sl_j _ _ (by omega), w3 i hi]
                      by_cases hq : b ≤ i ∧ i < b + k
                      · rw [if_pos hq, if_pos (by omega)]
                      · rw [if_neg hq, if_neg (by omega)]
                  · intro u hu i hi
                    show (stL y 77 0 (40 * t + (b + k)) _).2 77 0 (40 * u + i) = _
                    rw [sl_j _ _ (by omega)]
                    exact w4 u hu i hi
                · rintro ⟨x, y⟩ ⟨w1, w2, w3, w4, w5, w6⟩
                  have w1 : x = ii n := w1
                  subst w1
                  refine ⟨(ii n, y), ?_, rfl, w3, w4, w5, w6⟩
                  simp (disch := omega) only [fX8_copy_156_L, fX8_copy_156, if_true, if_false, Option.bind_some, Option.map_some, ii_lit, ll_lit, ii_neg, ll_neg, ii_add, ii_sub, ii_mul, ll_add, ll_sub, ll_mul, ii_le, ii_lt, ii_eq, ii_t, bi_0, bi_1, rd_z, wr_z, rr_z, rl_z, wl_z, tn_n, st_s, st_j, st_i, st_c, st_2, sl_s, sl_j, sl_i, sl_c, sl_1, Int.natCast_add, Int.cast_ofNat_Int, if_pos, if_neg]
              obtain ⟨r, e, hr⟩ := inner
              refine ⟨r, ?_, hr⟩
              simp (disch := omega) only [fX8_copy_119_L, fX8_copy_119, e, if_true, if_false, Option.bind_some, Option.map_some, ii_lit, ll_lit, ii_neg, ll_neg, ii_add, ii_sub, ii_mul, ll_add, ll_sub, ll_mul, ii_le, ii_lt, ii_eq, ii_t, bi_0, bi_1, rd_z, wr_z, rr_z, rl_z, wl_z, tn_n, st_s, st_j, st_i, st_c, st_2, sl_s, sl_j, sl_i, sl_c, sl_1, Int.natCast_add, Int.cast_ofNat_Int, if_pos, if_neg]
          obtain ⟨⟨r2, τ1⟩, e2, g0, g1, g2, g3, g4⟩ := s2
          have g0 : r2 = ii n := g0
          subst g0
          have g4 : τ1.1 = τ.1 := g4
          have hRl : RelA σ1 τ1 A := hR.fr fr g3 (by decide) (by decide) (by decide) ⟨c1.fr fr g3 (by decide) (by decide) (by decide), c2.fr fr g3 (by decide) (by decide) (by decide), c3.upd (s := t) bs zt q1 q2 ?_ ?_ ?_ ?_ ?_ ?_, c4.fr fr g3 (by decide) (by decide), c5.fr g3 (by decide)⟩
          · refine ⟨ii n, σ1, τ1, ?_, ?_, _, hRl⟩
            · unfold fX7_copy fX7_copy_0
              simp (disch := omega) only [k1, k3, p3, q3, r1, r2, e1, if_true, if_false, Option.bind_some, Option.map_some, ii_lit, ll_lit, ii_neg, ll_neg, ii_add, ii_sub, ii_mul, ll_add, ll_sub, ll_mul, ii_le, ii_lt, ii_eq, ii_t, bi_0, bi_1, rd_z, wr_z, rr_z, rl_z, wl_z, tn_n, st_s, st_j, st_i, st_c, st_2, sl_s, sl_j, sl_i, sl_c, sl_1, Int.natCast_add, Int.cast_ofNat_Int, if_pos, if_neg, decide_eq_false_iff_not, decide_eq_true_eq, in_ll, ii_long, Nat.zero_add, Nat.mul_zero, reduceCtorEq]
            · unfold fX8_copy fX8_copy_0
              simp (disch := omega) only [k2, k4, p4, q4, p6, q6, e2, if_true, if_false, Option.bind_some, Option.map_some, ii_lit, ll_lit, ii_neg, ll_neg, ii_add, ii_sub, ii_mul, ll_add, ll_sub, ll_mul, ii_le, ii_lt, ii_eq, ii_t, bi_0, bi_1, rd_z, wr_z, rr_z, rl_z, wl_z, tn_n, st_s, st_j, st_i, st_c, st_2, sl_s, sl_j, sl_i, sl_c, sl_1, Int.natCast_add, Int.cast_ofNat_Int, if_pos, if_neg, decide_eq_false_iff_not, decide_eq_true_eq, in_ll, ii_long, Nat.zero_add, Nat.mul_zero, reduceCtorEq]
          · rw [f4]; exact q3
          · rw [f4]; exact q5
          · rw [g4]; exact q4
          · rw [g4]; exact q6
          · intro i hi
            rw [f1 i, g1 i hi]
            by_cases hq : b ≤ i ∧ i < b + n
            · rw [if_pos hq, if_pos hq]
              exact p7 _ (by omega)
            · rw [if_neg hq, if_neg hq]
              exact q7 i hi
          · intro u hu
            rw [f4, g4, f3 u hu]
            exact ⟨rfl, rfl, rfl, rfl, g2 u hu⟩
        · obtain ⟨σ', τ', e3, e4, hr⟩ := fd0 hR
          refine ⟨ii (-1000000001), σ', τ', ?_, ?_, _, hr⟩
          · unfold fX7_copy fX7_copy_0 fX7_copy_100
            by_cases w1 : 0 ≤ a ∧ 0 ≤ n ∧ a + n ≤ zs
            · simp (disch := omega) only [k1, k3, p3, q3, r1, r2, e3, if_true, if_false, Option.bind_some, Option.map_some, ii_lit, ll_lit, ii_neg, ll_neg, ii_add, ii_sub, ii_mul, ll_add, ll_sub, ll_mul, ii_le, ii_lt, ii_eq, ii_t, bi_0, bi_1, rd_z, wr_z, rr_z, rl_z, wl_z, tn_n, st_s, st_j, st_i, st_c, st_2, sl_s, sl_j, sl_i, sl_c, sl_1, Int.natCast_add, Int.cast_ofNat_Int, if_pos, if_neg, decide_eq_false_iff_not, decide_eq_true_eq, in_ll, ii_long, Nat.zero_add, Nat.mul_zero, reduceCtorEq]
            · simp (disch := omega) only [k1, k3, p3, q3, r1, r2, e3, if_true, if_false, Option.bind_some, Option.map_some, ii_lit, ll_lit, ii_neg, ll_neg, ii_add, ii_sub, ii_mul, ll_add, ll_sub, ll_mul, ii_le, ii_lt, ii_eq, ii_t, bi_0, bi_1, rd_z, wr_z, rr_z, rl_z, wl_z, tn_n, st_s, st_j, st_i, st_c, st_2, sl_s, sl_j, sl_i, sl_c, sl_1, Int.natCast_add, Int.cast_ofNat_Int, if_pos, if_neg, decide_eq_false_iff_not, decide_eq_true_eq, in_ll, ii_long, Nat.zero_add, Nat.mul_zero, reduceCtorEq]
          · unfold fX8_copy fX8_copy_0 fX8_copy_109
            by_cases w1 : n < 0
            · simp (disch := omega) only [k2, k4, p4, q4, p6, q6, e4, if_true, if_false, Option.bind_some, Option.map_some, ii_lit, ll_lit, ii_neg, ll_neg, ii_add, ii_sub, ii_mul, ll_add, ll_sub, ll_mul, ii_le, ii_lt, ii_eq, ii_t, bi_0, bi_1, rd_z, wr_z, rr_z, rl_z, wl_z, tn_n, st_s, st_j, st_i, st_c, st_2, sl_s, sl_j, sl_i, sl_c, sl_1, Int.natCast_add, Int.cast_ofNat_Int, if_pos, if_neg, decide_eq_false_iff_not, decide_eq_true_eq, in_ll, ii_long, Nat.zero_add, Nat.mul_zero, reduceCtorEq]
            · by_cases w2 : a < 0
              · simp (disch := omega) only [k2, k4, p4, q4, p6, q6, e4, if_true, if_false, Option.bind_some, Option.map_some, ii_lit, ll_lit, ii_neg, ll_neg, ii_add, ii_sub, ii_mul, ll_add, ll_sub, ll_mul, ii_le, ii_lt, ii_eq, ii_t, bi_0, bi_1, rd_z, wr_z, rr_z, rl_z, wl_z, tn_n, st_s, st_j, st_i, st_c, st_2, sl_s, sl_j, sl_i, sl_c, sl_1, Int.natCast_add, Int.cast_ofNat_Int, if_pos, if_neg, decide_eq_false_iff_not, decide_eq_true_eq, in_ll, ii_long, Nat.zero_add, Nat.mul_zero, reduceCtorEq]
              · by_cases w3 : b < 0
                · simp (disch := omega) only [k2, k4, p4, q4, p6, q6, e4, if_true, if_false, Option.bind_some, Option.map_some, ii_lit, ll_lit, ii_neg, ll_neg, ii_add, ii_sub, ii_mul, ll_add, ll_sub, ll_mul, ii_le, ii_lt, ii_eq, ii_t, bi_0, bi_1, rd_z, wr_z, rr_z, rl_z, wl_z, tn_n, st_s, st_j, st_i, st_c, st_2, sl_s, sl_j, sl_i, sl_c, sl_1, Int.natCast_add, Int.cast_ofNat_Int, if_pos, if_neg, decide_eq_false_iff_not, decide_eq_true_eq, in_ll, ii_long, Nat.zero_add, Nat.mul_zero, reduceCtorEq]
                · by_cases w4 : zs - n < a
                  · simp (disch := omega) only [k2, k4, p4, q4, p6, q6, e4, if_true, if_false, Option.bind_some, Option.map_some, ii_lit, ll_lit, ii_neg, ll_neg, ii_add, ii_sub, ii_mul, ll_add, ll_sub, ll_mul, ii_le, ii_lt, ii_eq, ii_t, bi_0, bi_1, rd_z, wr_z, rr_z, rl_z, wl_z, tn_n, st_s, st_j, st_i, st_c, st_2, sl_s, sl_j, sl_i, sl_c, sl_1, Int.natCast_add, Int.cast_ofNat_Int, if_pos, if_neg, decide_eq_false_iff_not, decide_eq_true_eq, in_ll, ii_long, Nat.zero_add, Nat.mul_zero, reduceCtorEq]
                  · simp (disch := omega) only [k2, k4, p4, q4, p6, q6, e4, if_true, if_false, Option.bind_some, Option.map_some, ii_lit, ll_lit, ii_neg, ll_neg, ii_add, ii_sub, ii_mul, ll_add, ll_sub, ll_mul, ii_le, ii_lt, ii_eq, ii_t, bi_0, bi_1, rd_z, wr_z, rr_z, rl_z, wl_z, tn_n, st_s, st_j, st_i, st_c, st_2, sl_s, sl_j, sl_i, sl_c, sl_1, Int.natCast_add, Int.cast_ofNat_Int, if_pos, if_neg, decide_eq_false_iff_not, decide_eq_true_eq, in_ll, ii_long, Nat.zero_add, Nat.mul_zero, reduceCtorEq]
      · obtain ⟨σ', τ', e3, e4, hr⟩ := fd2 hR
        refine ⟨ii (-1000000003), σ', τ', ?_, ?_, _, hr⟩
        · unfold fX7_copy fX7_copy_0
          simp (disch := omega) only [k1, k3, p3, q3, e3, if_true, if_false, Option.bind_some, Option.map_some, ii_lit, ll_lit, ii_neg, ll_neg, ii_add, ii_sub, ii_mul, ll_add, ll_sub, ll_mul, ii_le, ii_lt, ii_eq, ii_t, bi_0, bi_1, rd_z, wr_z, rr_z, rl_z, wl_z, tn_n, st_s, st_j, st_i, st_c, st_2, sl_s, sl_j, sl_i, sl_c, sl_1, Int.natCast_add, Int.cast_ofNat_Int, if_pos, if_neg, decide_eq_false_iff_not, decide_eq_true_eq, in_ll, ii_long, Nat.zero_add, Nat.mul_zero, reduceCtorEq]
        · unfold fX8_copy fX8_copy_0
          simp (disch := omega) only [k2, k4, p4, q4, e4, if_true, if_false, Option.bind_some, Option.map_some, ii_lit, ll_lit, ii_neg, ll_neg, ii_add, ii_sub, ii_mul, ll_add, ll_sub, ll_mul, ii_le, ii_lt, ii_eq, ii_t, bi_0, bi_1, rd_z, wr_z, rr_z, rl_z, wl_z, tn_n, st_s, st_j, st_i, st_c, st_2, sl_s, sl_j, sl_i, sl_c, sl_1, Int.natCast_add, Int.cast_ofNat_Int, if_pos, if_neg, decide_eq_false_iff_not, decide_eq_true_eq, in_ll, ii_long, Nat.zero_add, Nat.mul_zero, reduceCtorEq]
  · obtain ⟨σ', τ', e3, e4, hr⟩ := fd0 hR
    refine ⟨ii (-1000000001), σ', τ', ?_, ?_, _, hr⟩
    · unfold fX7_copy fX7_copy_0 fX7_copy_14
      by_cases q : 0 ≤ s ∧ s < 4
      · simp (disch := omega) only [k1, k3, e3, if_true, if_false, Option.bind_some, Option.map_some, ii_lit, ll_lit, ii_neg, ll_neg, ii_add, ii_sub, ii_mul, ll_add, ll_sub, ll_mul, ii_le, ii_lt, ii_eq, ii_t, bi_0, bi_1, rd_z, wr_z, rr_z, rl_z, wl_z, tn_n, st_s, st_j, st_i, st_c, st_2, sl_s, sl_j, sl_i, sl_c, sl_1, Int.natCast_add, Int.cast_ofNat_Int, if_pos, if_neg, decide_eq_false_iff_not, decide_eq_true_eq, in_ll, ii_long, Nat.zero_add, Nat.mul_zero, reduceCtorEq]
      · simp (disch := omega) only [k1, k3, e3, if_true, if_false, Option.bind_some, Option.map_some, ii_lit, ll_lit, ii_neg, ll_neg, ii_add, ii_sub, ii_mul, ll_add, ll_sub, ll_mul, ii_le, ii_lt, ii_eq, ii_t, bi_0, bi_1, rd_z, wr_z, rr_z, rl_z, wl_z, tn_n, st_s, st_j, st_i, st_c, st_2, sl_s, sl_j, sl_i, sl_c, sl_1, Int.natCast_add, Int.cast_ofNat_Int, if_pos, if_neg, decide_eq_false_iff_not, decide_eq_true_eq, in_ll, ii_long, Nat.zero_add, Nat.mul_zero, reduceCtorEq]
    · unfold fX8_copy fX8_copy_0 fX8_copy_14
      by_cases q : 0 ≤ s ∧ s < 4
      · simp (disch := omega) only [k2, k4, e4, if_true, if_false, Option.bind_some, Option.map_some, ii_lit, ll_lit, ii_neg, ll_neg, ii_add, ii_sub, ii_mul, ll_add, ll_sub, ll_mul, ii_le, ii_lt, ii_eq, ii_t, bi_0, bi_1, rd_z, wr_z, rr_z, rl_z, wl_z, tn_n, st_s, st_j, st_i, st_c, st_2, sl_s, sl_j, sl_i, sl_c, sl_1, Int.natCast_add, Int.cast_ofNat_Int, if_pos, if_neg, decide_eq_false_iff_not, decide_eq_true_eq, in_ll, ii_long, Nat.zero_add, Nat.mul_zero, reduceCtorEq]
      · simp (disch := omega) only [k2, k4, e4, if_true, if_false, Option.bind_some, Option.map_some, ii_lit, ll_lit, ii_neg, ll_neg, ii_add, ii_sub, ii_mul, ll_add, ll_sub, ll_mul, ii_le, ii_lt, ii_eq, ii_t, bi_0, bi_1, rd_z, wr_z, rr_z, rl_z, wl_z, tn_n, st_s, st_j, st_i, st_c, st_2, sl_s, sl_j, sl_i, sl_c, sl_1, Int.natCast_add, Int.cast_ofNat_Int, if_pos, if_neg, decide_eq_false_iff_not, decide_eq_true_eq, in_ll, ii_long, Nat.zero_add, Nat.mul_zero, reduceCtorEq]
