-- mix, swap
theorem m_mix {σ τ : mm} (h : Rel σ τ) (v o k : Int32) : Ag (fX7_mix v o k σ) (fX8_mix v o k τ) := by
  obtain ⟨A, hR⟩ := h
  obtain ⟨⟨hC, hM, hA⟩, -⟩ := id hR
  obtain ⟨v, rfl, h1, h2⟩ := ii_ex v
  obtain ⟨o, rfl, h3, h4⟩ := ii_ex o
  obtain ⟨k, rfl, h5, h6⟩ := ii_ex k
  have c1 := C_isPair hC h1 h2 h3 h4
  have c2 := M_areTwo hM h1 h2 h3 h4
  have c5 := C_within h5 h6 (m := 3) (by omega) (by omega)
  have hn1 := hA.1
  have hn := hC.2.1
  have hn' := hM.2.1
  by_cases hv : ((0 ≤ v ∧ v < A.n) ∧ (0 ≤ o ∧ o < A.n) ∧ v ≠ o) ∧ -3 ≤ k ∧ k ≤ 3
  · obtain ⟨⟨⟨v1, v2⟩, ⟨v3, v4⟩, v6⟩, v5⟩ := hv
    obtain ⟨v, rfl⟩ : ∃ k : Nat, v = k := ⟨v.toNat, by omega⟩
    obtain ⟨o, rfl⟩ : ∃ k : Nat, o = k := ⟨o.toNat, by omega⟩
    obtain ⟨z1, z2, z3⟩ := hC.z
    have z4 := hM.2.2.2.2.2.2
    have hve := hA.2.2.2.2.1
    have hvo : v ≠ o := by omega
    have hbd : ∀ l, l < 4 → -16 ≤ A.ve o l + k * A.ve v l ∧ A.ve o l + k * A.ve v l ≤ 16 := by
      intro l hl
      have q1 := hve o l (by omega) hl
      have q2 := mul_r (A := 3) (B := 4) v5 (hve v l (by omega) hl) (by omega) (by omega)
      omega
    by_cases hall : ∀ l, l < A.n → -4 ≤ A.ve o l + k * A.ve v l ∧ A.ve o l + k * A.ve v l ≤ 4
    · have s1 : ∃ r, lp (fX7_mix_95_L (ii k) v o) (ii 0, σ) = some r ∧ (r.1 = ii 1 ∧ (∀ c, c ≠ 11 → r.2.1 c = σ.1 c) ∧ Fb 0 σ r.2 ∧ ∀ a l, a < 4 → l < 4 → r.2.1 11 a l = ii (if a = o ∧ l < A.n then A.ve o l + k * A.ve v l else A.ve a l)) := by
        refine lp_j (fun j s => s.1 = ii j ∧ (∀ c, c ≠ 11 → s.2.1 c = σ.1 c) ∧ Fb 0 σ s.2 ∧ ∀ a l, a < 4 → l < 4 → s.2.1 11 a l = ii (if a = o ∧ l < j then A.ve o l + k * A.ve v l else A.ve a l)) _ A.n ⟨rfl, fun _ _ => rfl, Fb.rf _ _, ?_⟩ ?_ ?_
        · intro a l ha hl
          rw [if_neg (by omega)]
          exact z3 a l ha hl
        · rintro j ⟨a, s⟩ hj ⟨g1, g2, g3, g4⟩
          have g1 : a = ii j := g1
          subst g1
          have e0 : s.1 0 0 0 = ii A.n := by rw [g2 0 (by decide)]; exact hn
          have e1 : s.1 11 o j = ii (A.ve o j) := by rw [g4 o j (by omega) (by omega), if_neg (by omega)]
          have e2 : s.1 11 v j = ii (A.ve v j) := by rw [g4 v j (by omega) (by omega), if_neg (by omega)]
          refine ⟨(ii ((j + 1 : Nat)), stI s 11 o j (ii (A.ve o j + k * A.ve v j))), ?_, rfl, ?_, g3.sI (Or.inr (Or.inr ⟨rfl, o, by omega, by omega⟩)), ?_⟩
          · simp (disch := omega) only [fX7_mix_95_L, fX7_mix_95, e0, e1, e2, if_true, if_false, Option.bind_some, Option.map_some, ii_lit, ll_lit, ii_neg, ll_neg, ii_add, ii_sub, ii_mul, ll_add, ll_sub, ll_mul, ii_le, ii_lt, ii_eq, ii_t, bi_0, bi_1, rd_z, wr_z, rr_z, rl_z, wl_z, tn_n, st_s, st_j, st_i, st_c, st_2, sl_s, sl_j, sl_i, sl_c, sl_1, Int.natCast_add, Int.cast_ofNat_Int, if_pos, if_neg, decide_eq_false_iff_not, decide_eq_true_eq, in_ll, ii_long, Nat.zero_add, Nat.mul_zero, reduceCtorEq]
          · intro c hc
            show (stI s 11 o j _).1 c = _
            rw [st_c _ _ _ _ hc]
            exact g2 c hc
          · intro a l ha hl
            show (stI s 11 o j _).1 11 a l = _
            by_cases q1 : a = o
            · subst q1
              by_cases q2 : l = j
              · subst q2
                rw [st_s, if_pos (by omega)]
              · rw [st_j _ _ q2, g4 a l ha hl]
                by_cases q3 : l < j
                · rw [if_pos ⟨rfl, q3⟩, if_pos ⟨rfl, by omega⟩]
                · rw [if_neg (by omega), if_neg (by omega)]
            · rw [st_i _ _ _ q1, g4 a l ha hl, if_neg (by omega), if_neg (by omega)]
        · rintro ⟨a, s⟩ ⟨g1, g2, g3, g4⟩
          have g1 : a = ii A.n := g1
          subst g1
          have e0 : s.1 0 0 0 = ii A.n := by rw [g2 0 (by decide)]; exact hn
          refine ⟨(ii 1, s), ?_, rfl, g2, g3, g4⟩
          simp (disch := omega) only [fX7_mix_95_L, fX7_mix_95, e0, if_true, if_false, Option.bind_some, Option.map_some, ii_lit, ll_lit, ii_neg, ll_neg, ii_add, ii_sub, ii_mul, ll_add, ll_sub, ll_mul, ii_le, ii_lt, ii_eq, ii_t, bi_0, bi_1, rd_z, wr_z, rr_z, rl_z, wl_z, tn_n, st_s, st_j, st_i, st_c, st_2, sl_s, sl_j, sl_i, sl_c, sl_1, Int.natCast_add, Int.cast_ofNat_Int, if_pos, if_neg, decide_eq_false_iff_not, decide_eq_true_eq, in_ll, ii_long, Nat.zero_add, Nat.mul_zero, reduceCtorEq]
      have s2 : ∃ r, lp (fX8_mix_96_L (ii v) (ii o) (ii k)) (ii 0, τ) = some r ∧ (r.1 = ii 1 ∧ Fr [46] [] τ r.2 ∧ ∀ a l, a < 4 → l < 4 → r.2.1 46 0 (4 * a + l) = ii (if a = o ∧ l < A.n then A.ve o l + k * A.ve v l else A.ve a l)) := by
        refine lp_j (fun j s => s.1 = ii j ∧ Fr [46] [] τ s.2 ∧ ∀ a l, a < 4 → l < 4 → s.2.1 46 0 (4 * a + l) = ii (if a = o ∧ l < j then A.ve o l + k * A.ve v l else A.ve a l)) _ A.n ⟨rfl, Fr.rf _ _ _, ?_⟩ ?_ ?_
        · intro a l ha hl
          rw [if_neg (by omega)]
          exact z4 a l ha hl
        · rintro j ⟨a, s⟩ hj ⟨g1, g3, g4⟩
          have g1 : a = ii j := g1
          subst g1
          have e0 : s.1 32 0 1 = ii A.n := by rw [g3.2.2 1 (by decide)]; exact hn'
          have e1 : s.1 46 0 (4 * o + j) = ii (A.ve o j) := by rw [g4 o j (by omega) (by omega), if_neg (by omega)]
          have e2 : s.1 46 0 (4 * v + j) = ii (A.ve v j) := by rw [g4 v j (by omega) (by omega), if_neg (by omega)]
          refine ⟨(ii ((j + 1 : Nat)), stI s 46 0 (4 * o + j) (ii (A.ve o j + k * A.ve v j))), ?_, rfl, g3.sI (by decide) (by decide), ?_⟩
          · simp (disch := omega) only [fX8_mix_96_L, fX8_mix_96, e0, e1, e2, show (4 * (o : Int) + (j : Int)).toNat = 4 * o + j by omega, show (4 * (v : Int) + (j : Int)).toNat = 4 * v + j by omega, if_true, if_false, Option.bind_some, Option.map_some, ii_lit, ll_lit, ii_neg, ll_neg, ii_add, ii_sub, ii_mul, ll_add, ll_sub, ll_mul, ii_le, ii_lt, ii_eq, ii_t, bi_0, bi_1, rd_z, wr_z, rr_z, rl_z, wl_z, tn_n, st_s, st_j, st_i, st_c, st_2, sl_s, sl_j, sl_i, sl_c, sl_1, Int.natCast_add, Int.cast_ofNat_Int, if_pos, if_neg, decide_eq_false_iff_not, decide_eq_true_eq, in_ll, ii_long, Nat.zero_add, Nat.mul_zero, reduceCtorEq]
          · intro a l ha hl
            show (stI s 46 0 (4 * o + j) _).1 46 0 (4 * a + l) = _
            by_cases q1 : a = o ∧ l = j
            · obtain ⟨rfl, rfl⟩ := q1
              rw [st_s, if_pos (by omega)]
            · rw [st_j _ _ (by omega), g4 a l ha hl]
              by_cases q3 : a = o ∧ l < j
              · rw [if_pos q3, if_pos ⟨q3.1, by omega⟩]
              · rw [if_neg q3, if_neg (by omega)]
        · rintro ⟨a, s⟩ ⟨g1, g3, g4⟩
          have g1 : a = ii A.n := g1
          subst g1
          have e0 : s.1 32 0 1 = ii A.n := by rw [g3.2.2 1 (by decide)]; exact hn'
          refine ⟨(ii 1, s), ?_, rfl, g3, g4⟩
          simp (disch := omega) only [fX8_mix_96_L, fX8_mix_96, e0, if_true, if_false, Option.bind_some, Option.map_some, ii_lit, ll_lit, ii_neg, ll_neg, ii_add, ii_sub, ii_mul, ll_add, ll_sub, ll_mul, ii_le, ii_lt, ii_eq, ii_t, bi_0, bi_1, rd_z, wr_z, rr_z, rl_z, wl_z, tn_n, st_s, st_j, st_i, st_c, st_2, sl_s, sl_j, sl_i, sl_c, sl_1, Int.natCast_add, Int.cast_ofNat_Int, if_pos, if_neg, decide_eq_false_iff_not, decide_eq_true_eq, in_ll, ii_long, Nat.zero_add, Nat.mul_zero, reduceCtorEq]
      obtain ⟨⟨r1, σ1⟩, e1, f1, f2, f3, f4⟩ := s1
      obtain ⟨⟨r2, τ1⟩, e2, g1, g2, g3⟩ := s2
      have f1 : r1 = ii 1 := f1
      have g1 : r2 = ii 1 := g1
      subst f1 g1
      have hRl := Rel.vec (ve := fun a l => if a = o ∧ l < A.n then A.ve o l + k * A.ve v l else A.ve a l) hR f2 f3 f4 g2 g3 (fun a l ha hl => by
        show -4 ≤ (if a = o ∧ l < A.n then A.ve o l + k * A.ve v l else A.ve a l) ∧ (if a = o ∧ l < A.n then A.ve o l + k * A.ve v l else A.ve a l) ≤ 4
        split
        · rename_i q
          exact hall l q.2
        · exact hve a l ha hl)
      refine ⟨ii 1, σ1, τ1, ?_, ?_, _, hRl⟩
      · unfold fX7_mix fX7_mix_0
        simp (disch := omega) only [c1, c5, if_true, if_false, Option.bind_some, Option.map_some, ii_lit, ll_lit, ii_neg, ll_neg, ii_add, ii_sub, ii_mul, ll_add, ll_sub, ll_mul, ii_le, ii_lt, ii_eq, ii_t, bi_0, bi_1, rd_z, wr_z, rr_z, rl_z, wl_z, tn_n, st_s, st_j, st_i, st_c, st_2, sl_s, sl_j, sl_i, sl_c, sl_1, Int.natCast_add, Int.cast_ofNat_Int, if_pos, if_neg, decide_eq_false_iff_not, decide_eq_true_eq, in_ll, ii_long, Nat.zero_add, Nat.mul_zero, reduceCtorEq]
        refine lp_f (fun j => ii j) A.n rfl ?_ ?_
        · intro j hj
          have q1 := hall j hj
          have q2 := C_within (a := A.ve o j + k * A.ve v j) (m := 4) (by omega) (by omega) (by omega) (by omega)
          simp (disch := omega) only [fX7_mix_48_L, fX7_mix_48, hn, z3, q2, if_true, if_false, Option.bind_some, Option.map_some, ii_lit, ll_lit, ii_neg, ll_neg, ii_add, ii_sub, ii_mul, ll_add, ll_sub, ll_mul, ii_le, ii_lt, ii_eq, ii_t, bi_0, bi_1, rd_z, wr_z, rr_z, rl_z, wl_z, tn_n, st_s, st_j, st_i, st_c, st_2, sl_s, sl_j, sl_i, sl_c, sl_1, Int.natCast_add, Int.cast_ofNat_Int, if_pos, if_neg, decide_eq_false_iff_not, decide_eq_true_eq, in_ll, ii_long, Nat.zero_add, Nat.mul_zero, reduceCtorEq]
        · simp (disch := omega) only [fX7_mix_48_L, fX7_mix_48, hn, e1, if_true, if_false, Option.bind_some, Option.map_some, ii_lit, ll_lit, ii_neg, ll_neg, ii_add, ii_sub, ii_mul, ll_add, ll_sub, ll_mul, ii_le, ii_lt, ii_eq, ii_t, bi_0, bi_1, rd_z, wr_z, rr_z, rl_z, wl_z, tn_n, st_s, st_j, st_i, st_c, st_2, sl_s, sl_j, sl_i, sl_c, sl_1, Int.natCast_add, Int.cast_ofNat_Int, if_pos, if_neg, decide_eq_false_iff_not, decide_eq_true_eq, in_ll, ii_long, Nat.zero_add, Nat.mul_zero, reduceCtorEq]
      · unfold fX8_mix fX8_mix_0
        simp (disch := omega) only [c2, if_true, if_false, Option.bind_some, Option.map_some, ii_lit, ll_lit, ii_neg, ll_neg, ii_add, ii_sub, ii_mul, ll_add, ll_sub, ll_mul, ii_le, ii_lt, ii_eq, ii_t, bi_0, bi_1, rd_z, wr_z, rr_z, rl_z, wl_z, tn_n, st_s, st_j, st_i, st_c, st_2, sl_s, sl_j, sl_i, sl_c, sl_1, Int.natCast_add, Int.cast_ofNat_Int, if_pos, if_neg, decide_eq_false_iff_not, decide_eq_true_eq, in_ll, ii_long, Nat.zero_add, Nat.mul_zero, reduceCtorEq]
        refine lp_f (fun j => ii j) A.n rfl ?_ ?_
        · intro j hj
          have q1 := hall j hj
          simp (disch := omega) only [fX8_mix_33_L, fX8_mix_33, hn', z4, show (4 * (o : Int) + (j : Int)).toNat = 4 * o + j by omega, show (4 * (v : Int) + (j : Int)).toNat = 4 * v + j by omega, if_true, if_false, Option.bind_some, Option.map_some, ii_lit, ll_lit, ii_neg, ll_neg, ii_add, ii_sub, ii_mul, ll_add, ll_sub, ll_mul, ii_le, ii_lt, ii_eq, ii_t, bi_0, bi_1, rd_z, wr_z, rr_z, rl_z, wl_z, tn_n, st_s, st_j, st_i, st_c, st_2, sl_s, sl_j, sl_i, sl_c, sl_1, Int.natCast_add, Int.cast_ofNat_Int, if_pos, if_neg, decide_eq_false_iff_not, decide_eq_true_eq, in_ll, ii_long, Nat.zero_add, Nat.mul_zero, reduceCtorEq]
        · simp (disch := omega) only [fX8_mix_33_L, fX8_mix_33, hn', e2, if_true, if_false, Option.bind_some, Option.map_some, ii_lit, ll_lit, ii_neg, ll_neg, ii_add, ii_sub, ii_mul, ll_add, ll_sub, ll_mul, ii_le, ii_lt, ii_eq, ii_t, bi_0, bi_1, rd_z, wr_z, rr_z, rl_z, wl_z, tn_n, st_s, st_j, st_i, st_c, st_2, sl_s, sl_j, sl_i, sl_c, sl_1, Int.natCast_add, Int.cast_ofNat_Int, if_pos, if_neg, decide_eq_false_iff_not, decide_eq_true_eq, in_ll, ii_long, Nat.zero_add, Nat.mul_zero, reduceCtorEq]
    · obtain ⟨σ', τ', e3, e4, hr⟩ := fd4 hR
      refine ⟨ii (-1000000005), σ', τ', ?_, ?_, _, hr⟩
      · unfold fX7_mix fX7_mix_0
        simp (disch := omega) only [c1, c5, if_true, if_false, Option.bind_some, Option.map_some, ii_lit, ll_lit, ii_neg, ll_neg, ii_add, ii_sub, ii_mul, ll_add, ll_sub, ll_mul, ii_le, ii_lt, ii_eq, ii_t, bi_0, bi_1, rd_z, wr_z, rr_z, rl_z, wl_z, tn_n, st_s, st_j, st_i, st_c, st_2, sl_s, sl_j, sl_i, sl_c, sl_1, Int.natCast_add, Int.cast_ofNat_Int, if_pos, if_neg, decide_eq_false_iff_not, decide_eq_true_eq, in_ll, ii_long, Nat.zero_add, Nat.mul_zero, reduceCtorEq]
        have key : ∃ r, lp (fX7_mix_48_L (ii k) v o σ) (ii 0) = some r ∧ r = (ii (-1000000005), σ') := by
          refine lp_i (fun j s => s = ii j ∧ ∀ l, l < j → -4 ≤ A.ve o l + k * A.ve v l ∧ A.ve o l + k * A.ve v l ≤ 4) _ A.n ⟨rfl, fun l hl => by omega⟩ ?_ ?_
          · rintro j s hj ⟨rfl, g2⟩
            have q1 := hbd j (by omega)
            have q2 := C_within (a := A.ve o j + k * A.ve v j) (m := 4) (by omega) (by omega) (by omega) (by omega)
            by_cases q : -4 ≤ A.ve o j + k * A.ve v j ∧ A.ve o j + k * A.ve v j ≤ 4
            · left
              refine ⟨ii ((j + 1 : Nat)), ?_, rfl, ?_⟩
              · simp (disch := omega) only [fX7_mix_48_L, fX7_mix_48, hn, z3, q2, if_true, if_false, Option.bind_some, Option.map_some, ii_lit, ll_lit, ii_neg, ll_neg, ii_add, ii_sub, ii_mul, ll_add, ll_sub, ll_mul, ii_le, ii_lt, ii_eq, ii_t, bi_0, bi_1, rd_z, wr_z, rr_z, rl_z, wl_z, tn_n, st_s, st_j, st_i, st_c, st_2, sl_s, sl_j, sl_i, sl_c, sl_1, Int.natCast_add, Int.cast_ofNat_Int, if_pos, if_neg, decide_eq_false_iff_not, decide_eq_true_eq, in_ll, ii_long, Nat.zero_add, Nat.mul_zero, reduceCtorEq]
              · intro l hl
                by_cases hlj : l = j
                · rw [hlj]; exact q
                · exact g2 l (by omega)
            · right
              refine ⟨_, ?_, rfl⟩
              simp (disch := omega) only [fX7_mix_48_L, fX7_mix_48, hn, z3, q2, e3, if_true, if_false, Option.bind_some, Option.map_some, ii_lit, ll_lit, ii_neg, ll_neg, ii_add, ii_sub, ii_mul, ll_add, ll_sub, ll_mul, ii_le, ii_lt, ii_eq, ii_t, bi_0, bi_1, rd_z, wr_z, rr_z, rl_z, wl_z, tn_n, st_s, st_j, st_i, st_c, st_2, sl_s, sl_j, sl_i, sl_c, sl_1, Int.natCast_add, Int.cast_ofNat_Int, if_pos, if_neg, decide_eq_false_iff_not, decide_eq_true_eq, in_ll, ii_long, Nat.zero_add, Nat.mul_zero, reduceCtorEq]
          · rintro s ⟨rfl, g2⟩
            exact absurd g2 hall
        obtain ⟨r, e, rfl⟩ := key
        exact e
      · unfold fX8_mix fX8_mix_0
        simp (disch := omega) only [c2, if_true, if_false, Option.bind_some, Option.map_some, ii_lit, ll_lit, ii_neg, ll_neg, ii_add, ii_sub, ii_mul, ll_add, ll_sub, ll_mul, ii_le, ii_lt, ii_eq, ii_t, bi_0, bi_1, rd_z, wr_z, rr_z, rl_z, wl_z, tn_n, st_s, st_j, st_i, st_c, st_2, sl_s, sl_j, sl_i, sl_c, sl_1, Int.natCast_add, Int.cast_ofNat_Int, if_pos, if_neg, decide_eq_false_iff_not, decide_eq_true_eq, in_ll, ii_long, Nat.zero_add, Nat.mul_zero, reduceCtorEq]
        have key : ∃ r, lp (fX8_mix_33_L (ii v) (ii o) (ii k) τ) (ii 0) = some r ∧ r = (ii (-1000000005), τ') := by
          refine lp_i (fun j s => s = ii j ∧ ∀ l, l < j → -4 ≤ A.ve o l + k * A.ve v l ∧ A.ve o l + k * A.ve v l ≤ 4) _ A.n ⟨rfl, fun l hl => by omega⟩ ?_ ?_
          · rintro j s hj ⟨rfl, g2⟩
            have q1 := hbd j (by omega)
            by_cases q : -4 ≤ A.ve o j + k * A.ve v j ∧ A.ve o j + k * A.ve v j ≤ 4
            · left
              refine ⟨ii ((j + 1 : Nat)), ?_, rfl, ?_⟩
              · simp (disch := omega) only [fX8_mix_33_L, fX8_mix_33, hn', z4, show (4 * (o : Int) + (j : Int)).toNat = 4 * o + j by omega, show (4 * (v : Int) + (j : Int)).toNat = 4 * v + j by omega, if_true, if_false, Option.bind_some, Option.map_some, ii_lit, ll_lit, ii_neg, ll_neg, ii_add, ii_sub, ii_mul, ll_add, ll_sub, ll_mul, ii_le, ii_lt, ii_eq, ii_t, bi_0, bi_1, rd_z, wr_z, rr_z, rl_z, wl_z, tn_n, st_s, st_j, st_i, st_c, st_2, sl_s, sl_j, sl_i, sl_c, sl_1, Int.natCast_add, Int.cast_ofNat_Int, if_pos, if_neg, decide_eq_false_iff_not, decide_eq_true_eq, in_ll, ii_long, Nat.zero_add, Nat.mul_zero, reduceCtorEq]
              · intro l hl
                by_cases hlj : l = j
                · rw [hlj]; exact q
                · exact g2 l (by omega)
            · right
              refine ⟨_, ?_, rfl⟩
              simp (disch := omega) only [fX8_mix_33_L, fX8_mix_33, hn', z4, show (4 * (o : Int) + (j : Int)).toNat = 4 * o + j by omega, show (4 * (v : Int) + (j : Int)).toNat = 4 * v + j by omega, e4, if_true, if_false, Option.bind_some, Option.map_some, ii_lit, ll_lit, ii_neg, ll_neg, ii_add, ii_sub, ii_mul, ll_add, ll_sub, ll_mul, ii_le, ii_lt, ii_eq, ii_t, bi_0, bi_1, rd_z, wr_z, rr_z, rl_z, wl_z, tn_n, st_s, st_j, st_i, st_c, st_2, sl_s, sl_j, sl_i, sl_c, sl_1, Int.natCast_add, Int.cast_ofNat_Int, if_pos, if_neg, decide_eq_false_iff_not, decide_eq_true_eq, in_ll, ii_long, Nat.zero_add, Nat.mul_zero, reduceCtorEq]
          · rintro s ⟨rfl, g2⟩
            exact absurd g2 hall
        obtain ⟨r, e, rfl⟩ := key
        exact e
  · obtain ⟨σ', τ', e3, e4, hr⟩ := fd0 hR
    refine ⟨ii (-1000000001), σ', τ', ?_, ?_, _, hr⟩
    · unfold fX7_mix fX7_mix_0 fX7_mix_17
      by_cases k1 : (0 ≤ v ∧ v < A.n) ∧ (0 ≤ o ∧ o < A.n) ∧ v ≠ o
      · simp (disch := omega) only [c1, c5, e3, if_true, if_false, Option.bind_some, Option.map_some, ii_lit, ll_lit, ii_neg, ll_neg, ii_add, ii_sub, ii_mul, ll_add, ll_sub, ll_mul, ii_le, ii_lt, ii_eq, ii_t, bi_0, bi_1, rd_z, wr_z, rr_z, rl_z, wl_z, tn_n, st_s, st_j, st_i, st_c, st_2, sl_s, sl_j, sl_i, sl_c, sl_1, Int.natCast_add, Int.cast_ofNat_Int, if_pos, if_neg, decide_eq_false_iff_not, decide_eq_true_eq, in_ll, ii_long, Nat.zero_add, Nat.mul_zero, reduceCtorEq]
      · simp (disch := omega) only [c1, c5, e3, if_true, if_false, Option.bind_some, Option.map_some, ii_lit, ll_lit, ii_neg, ll_neg, ii_add, ii_sub, ii_mul, ll_add, ll_sub, ll_mul, ii_le, ii_lt, ii_eq, ii_t, bi_0, bi_1, rd_z, wr_z, rr_z, rl_z, wl_z, tn_n, st_s, st_j, st_i, st_c, st_2, sl_s, sl_j, sl_i, sl_c, sl_1, Int.natCast_add, Int.cast_ofNat_Int, if_pos, if_neg, decide_eq_false_iff_not, decide_eq_true_eq, in_ll, ii_long, Nat.zero_add, Nat.mul_zero, reduceCtorEq]
    · unfold fX8_mix fX8_mix_0 fX8_mix_23
      by_cases k1 : (0 ≤ v ∧ v < A.n) ∧ (0 ≤ o ∧ o < A.n) ∧ v ≠ o
      · simp (disch := omega) only [c2, e4, if_true, if_false, Option.bind_some, Option.map_some, ii_lit, ll_lit, ii_neg, ll_neg, ii_add, ii_sub, ii_mul, ll_add, ll_sub, ll_mul, ii_le, ii_lt, ii_eq, ii_t, bi_0, bi_1, rd_z, wr_z, rr_z, rl_z, wl_z, tn_n, st_s, st_j, st_i, st_c, st_2, sl_s, sl_j, sl_i, sl_c, sl_1, Int.natCast_add, Int.cast_ofNat_Int, if_pos, if_neg, decide_eq_false_iff_not, decide_eq_true_eq, in_ll, ii_long, Nat.zero_add, Nat.mul_zero, reduceCtorEq]
      · simp (disch := omega) only [c2, e4, if_true, if_false, Option.bind_some, Option.map_some, ii_lit, ll_lit, ii_neg, ll_neg, ii_add, ii_sub, ii_mul, ll_add, ll_sub, ll_mul, ii_le, ii_lt, ii_eq, ii_t, bi_0, bi_1, rd_z, wr_z, rr_z, rl_z, wl_z, tn_n, st_s, st_j, st_i, st_c, st_2, sl_s, sl_j, sl_i, sl_c, sl_1, Int.natCast_add, Int.cast_ofNat_Int, if_pos, if_neg, decide_eq_false_iff_not, decide_eq_true_eq, in_ll, ii_long, Nat.zero_add, Nat.mul_zero, reduceCtorEq]
theorem m_swap {σ τ : mm} (h : Rel σ τ) (v o : Int32) : Ag (fX7_swap v o σ) (fX8_swap v o τ) := by
  obtain ⟨A, hR⟩ := h
  obtain ⟨⟨hC, hM, hA⟩, -⟩ := id hR
  obtain ⟨v, rfl, h1, h2⟩ := ii_ex v
  obtain ⟨o, rfl, h3, h4⟩ := ii_ex o
  have c1 := C_isPair hC h1 h2 h3 h4
  have c2 := M_areTwo hM h1 h2 h3 h4
  have hn1 := hA.1
  have hn := hC.2.1
  have hn' := hM.2.1
  by_cases hv : (0 ≤ v ∧ v < A.n) ∧ (0 ≤ o ∧ o < A.n) ∧ v ≠ o
  · obtain ⟨⟨v1, v2⟩, ⟨v3, v4⟩, v6⟩ := hv
    obtain ⟨v, rfl⟩ : ∃ k : Nat, v = k := ⟨v.toNat, by omega⟩
    obtain ⟨o, rfl⟩ : ∃ k : Nat, o = k := ⟨o.toNat, by omega⟩
    obtain ⟨z1, z2, z3⟩ := hC.z
    have z4 := hM.2.2.2.2.2.2
    have hve := hA.2.2.2.2.1
    have hvo : v ≠ o := by omega
    have s1 : ∃ r, lp (fX7_swap_17_L (ii v) (ii o)) (ii 0, σ) = some r ∧ (r.1 = ii 1 ∧ (∀ c, c ≠ 11 → r.2.1 c = σ.1 c) ∧ Fb 0 σ r.2 ∧ ∀ a l, a < 4 → l < 4 → r.2.1 11 a l = ii (if l < A.n ∧ a = v then A.ve o l else if l < A.n ∧ a = o then A.ve v l else A.ve a l)) := by
      refine lp_j (fun j s => s.1 = ii j ∧ (∀ c, c ≠ 11 → s.2.1 c = σ.1 c) ∧ Fb 0 σ s.2 ∧ ∀ a l, a < 4 → l < 4 → s.2.1 11 a l = ii (if l < j ∧ a = v then A.ve o l else if l < j ∧ a = o then A.ve v l else A.ve a l)) _ A.n ⟨rfl, fun _ _ => rfl, Fb.rf _ _, ?_⟩ ?_ ?_
      · intro a l ha hl
        rw [if_neg (by omega), if_neg (by omega)]
        exact z3 a l ha hl
      · rintro j ⟨a, s⟩ hj ⟨g1, g2, g3, g4⟩
        have g1 : a = ii j := g1
        subst g1
        have e0 : s.1 0 0 0 = ii A.n := by rw [g2 0 (by decide)]; exact hn
        have e1 : s.1 11 o j = ii (A.ve o j) := by rw [g4 o j (by omega) (by omega), if_neg (by omega), if_neg (by omega)]
        have e2 : s.1 11 v j = ii (A.ve v j) := by rw [g4 v j (by omega) (by omega), if_neg (by omega), if_neg (by omega)]
        refine ⟨(ii ((j + 1 : Nat)), stI (stI s 11 v j (ii (A.ve o j))) 11 o j (ii (A.ve v j))), ?_, rfl, ?_, (g3.sI (Or.inr (Or.inr ⟨rfl, v, by omega, by omega⟩))).sI (Or.inr (Or.inr ⟨rfl, o, by omega, by omega⟩)), ?_⟩
        · simp (disch := omega) only [fX7_swap_17_L, fX7_swap_17, e0, e1, e2, if_true, if_false, Option.bind_some, Option.map_some, ii_lit, ll_lit, ii_neg, ll_neg, ii_add, ii_sub, ii_mul, ll_add, ll_sub, ll_mul, ii_le, ii_lt, ii_eq, ii_t, bi_0, bi_1, rd_z, wr_z, rr_z, rl_z, wl_z, tn_n, st_s, st_j, st_i, st_c, st_2, sl_s, sl_j, sl_i, sl_c, sl_1, Int.natCast_add, Int.cast_ofNat_Int, if_pos, if_neg, decide_eq_false_iff_not, decide_eq_true_eq, in_ll, ii_long, Nat.zero_add, Nat.mul_zero, reduceCtorEq]
        · intro c hc
          show (stI (stI s 11 v j _) 11 o j _).1 c = _
          rw [st_c _ _ _ _ hc, st_c _ _ _ _ hc]
          exact g2 c hc
        · intro a l ha hl
          show (stI (stI s 11 v j _) 11 o j _).1 11 a l = _
          by_cases q1 : a = o
          · subst q1
            by_cases q2 : l = j
            · subst q2
              rw [st_s, if_neg (by omega), if_pos (by omega)]
            · rw [st_j _ _ q2, st_i _ _ _ (by omega), g4 a l ha hl]
              by_cases q3 : l < j
              · rw [if_neg (by omega), if_pos (by omega), if_neg (by omega), if_pos (by omega)]
              · rw [if_neg (by omega), if_neg (by omega), if_neg (by omega), if_neg (by omega)]
          · rw [st_i _ _ _ q1]
            by_cases q4 : a = v
            · subst q4
              by_cases q2 : l = j
              · subst q2
                rw [st_s, if_pos (by omega)]
              · rw [st_j _ _ q2, g4 a l ha hl]
                by_cases q3 : l < j
                · rw [if_pos (by omega), if_pos (by omega)]
                · rw [if_neg (by omega), if_neg (by omega), if_neg (by omega), if_neg (by omega)]
            · rw [st_i _ _ _ q4, g4 a l ha hl, if_neg (by omega), if_neg (by omega), if_neg (by omega), if_neg (by omega)]
      · rintro ⟨a, s⟩ ⟨g1, g2, g3, g4⟩
        have g1 : a = ii A.n := g1
        subst g1
        have e0 : s.1 0 0 0 = ii A.n := by rw [g2 0 (by decide)]; exact hn
        refine ⟨(ii 1, s), ?_, rfl, g2, g3, g4⟩
        simp (disch := omega) only [fX7_swap_17_L, fX7_swap_17, e0, if_true, if_false, Option.bind_some, Option.map_some, ii_lit, ll_lit, ii_neg, ll_neg, ii_add, ii_sub, ii_mul, ll_add, ll_sub, ll_mul, ii_le, ii_lt, ii_eq, ii_t, bi_0, bi_1, rd_z, wr_z, rr_z, rl_z, wl_z, tn_n, st_s, st_j, st_i, st_c, st_2, sl_s, sl_j, sl_i, sl_c, sl_1, Int.natCast_add, Int.cast_ofNat_Int, if_pos, if_neg, decide_eq_false_iff_not, decide_eq_true_eq, in_ll, ii_long, Nat.zero_add, Nat.mul_zero, reduceCtorEq]
    have s2 : ∃ r, lp (fX8_swap_18_L (ii v) (ii o)) (ii 0, τ) = some r ∧ (r.1 = ii 1 ∧ Fr [46] [] τ r.2 ∧ ∀ a l, a < 4 → l < 4 → r.2.1 46 0 (4 * a + l) = ii (if l < A.n ∧ a = v then A.ve o l else if l < A.n ∧ a = o then A.ve v l else A.ve a l)) := by
      refine lp_j (fun j s => s.1 = ii j ∧ Fr [46] [] τ s.2 ∧ ∀ a l, a < 4 → l < 4 → s.2.1 46 0 (4 * a + l) = ii (if l < j ∧ a = v then A.ve o l else if l < j ∧ a = o then A.ve v l else A.ve a l)) _ A.n ⟨rfl, Fr.rf _ _ _, ?_⟩ ?_ ?_
      · intro a l ha hl
        rw [if_neg (by omega), if_neg (by omega)]
        exact z4 a l ha hl
      · rintro j ⟨a, s⟩ hj ⟨g1, g3, g4⟩
        have g1 : a = ii j := g1
        subst g1
        have e0 : s.1 32 0 1 = ii A.n := by rw [g3.2.2 1 (by decide)]; exact hn'
        have e1 : s.1 46 0 (4 * o + j) = ii (A.ve o j) := by rw [g4 o j (by omega) (by omega), if_neg (by omega), if_neg (by omega)]
        have e2 : s.1 46 0 (4 * v + j) = ii (A.ve v j) := by rw [g4 v j (by omega) (by omega), if_neg (by omega), if_neg (by omega)]
        refine ⟨(ii ((j + 1 : Nat)), stI (stI s 46 0 (4 * v + j) (ii (A.ve o j))) 46 0 (4 * o + j) (ii (A.ve v j))), ?_, rfl, (g3.sI (by decide) (by decide)).sI (by decide) (by decide), ?_⟩
        · simp (disch := omega) only [fX8_swap_18_L, fX8_swap_18, e0, e1, e2, show (4 * (o : Int) + (j : Int)).toNat = 4 * o + j by omega, show (4 * (v : Int) + (j : Int)).toNat = 4 * v + j by omega, if_true, if_false, Option.bind_some, Option.map_some, ii_lit, ll_lit, ii_neg, ll_neg, ii_add, ii_sub, ii_mul, ll_add, ll_sub, ll_mul, ii_le, ii_lt, ii_eq, ii_t, bi_0, bi_1, rd_z, wr_z, rr_z, rl_z, wl_z, tn_n, st_s, st_j, st_i, st_c, st_2, sl_s, sl_j, sl_i, sl_c, sl_1, Int.natCast_add, Int.cast_ofNat_Int, if_pos, if_neg, decide_eq_false_iff_not, decide_eq_true_eq, in_ll, ii_long, Nat.zero_add, Nat.mul_zero, reduceCtorEq]
        · intro a l ha hl
          show (stI (stI s 46 0 (4 * v + j) _) 46 0 (4 * o + j) _).1 46 0 (4 * a + l) = _
          by_cases q1 : a = o ∧ l = j
          · obtain ⟨rfl, rfl⟩ := q1
            rw [st_s, if_neg (by omega), if_pos (by omega)]
          · rw [st_j _ _ (by omega)]
            by_cases q2 : a = v ∧ l = j
            · obtain ⟨rfl, rfl⟩ := q2
              rw [st_s, if_pos (by omega)]
            · rw [st_j _ _ (by omega), g4 a l ha hl]
              by_cases q3 : l < j ∧ a = v
              · rw [if_pos q3, if_pos (by omega)]
              · rw [if_neg q3, if_neg (by omega : ¬ (l < j + 1 ∧ a = v))]
                by_cases q5 : l < j ∧ a = o
                · rw [if_pos q5, if_pos (by omega)]
                · rw [if_neg q5, if_neg (by omega)]
      · rintro ⟨a, s⟩ ⟨g1, g3, g4⟩
        have g1 : a = ii A.n := g1
        subst g1
        have e0 : s.1 32 0 1 = ii A.n := by rw [g3.2.2 1 (by decide)]; exact hn'
        refine ⟨(ii 1, s), ?_, rfl, g3, g4⟩
        simp (disch := omega) only [fX8_swap_18_L, fX8_swap_18, e0, if_true, if_false, Option.bind_some, Option.map_some, ii_lit, ll_lit, ii_neg, ll_neg, ii_add, ii_sub, ii_mul, ll_add, ll_sub, ll_mul, ii_le, ii_lt, ii_eq, ii_t, bi_0, bi_1, rd_z, wr_z, rr_z, rl_z, wl_z, tn_n, st_s, st_j, st_i, st_c, st_2, sl_s, sl_j, sl_i, sl_c, sl_1, Int.natCast_add, Int.cast_ofNat_Int, if_pos, if_neg, decide_eq_false_iff_not, decide_eq_true_eq, in_ll, ii_long, Nat.zero_add, Nat.mul_zero, reduceCtorEq]
    obtain ⟨⟨r1, σ1⟩, e1, f1, f2, f3, f4⟩ := s1
    obtain ⟨⟨r2, τ1⟩, e2, g1, g2, g3⟩ := s2
    have f1 : r1 = ii 1 := f1
    have g1 : r2 = ii 1 := g1
    subst f1 g1
    have hRl := Rel.vec (ve := fun a l => if l < A.n ∧ a = v then A.ve o l else if l < A.n ∧ a = o then A.ve v l else A.ve a l) hR f2 f3 f4 g2 g3 (fun a l ha hl => by
      show -4 ≤ (if l < A.n ∧ a = v then A.ve o l else if l < A.n ∧ a = o then A.ve v l else A.ve a l) ∧ (if l < A.n ∧ a = v then A.ve o l else if l < A.n ∧ a = o then A.ve v l else A.ve a l) ≤ 4
      split
      · exact hve o l (by omega) hl
      · split
        · exact hve v l (by omega) hl
        · exact hve a l ha hl)
    refine ⟨ii 1, σ1, τ1, ?_, ?_, _, hRl⟩
    · unfold fX7_swap fX7_swap_0
      simp (disch := omega) only [c1, e1, if_true, if_false, Option.bind_some, Option.map_some, ii_lit, ll_lit, ii_neg, ll_neg, ii_add, ii_sub, ii_mul, ll_add, ll_sub, ll_mul, ii_le, ii_lt, ii_eq, ii_t, bi_0, bi_1, rd_z, wr_z, rr_z, rl_z, wl_z, tn_n, st_s, st_j, st_i, st_c, st_2, sl_s, sl_j, sl_i, sl_c, sl_1, Int.natCast_add, Int.cast_ofNat_Int, if_pos, if_neg, decide_eq_false_iff_not, decide_eq_true_eq, in_ll, ii_long, Nat.zero_add, Nat.mul_zero, reduceCtorEq]
    · unfold fX8_swap fX8_swap_0
      simp (disch := omega) only [c2, e2, if_true, if_false, Option.bind_some, Option.map_some, ii_lit, ll_lit, ii_neg, ll_neg, ii_add, ii_sub, ii_mul, ll_add, ll_sub, ll_mul, ii_le, ii_lt, ii_eq, ii_t, bi_0, bi_1, rd_z, wr_z, rr_z, rl_z, wl_z, tn_n, st_s, st_j, st_i, st_c, st_2, sl_s, sl_j, sl_i, sl_c, sl_1, Int.natCast_add, Int.cast_ofNat_Int, if_pos, if_neg, decide_eq_false_iff_not, decide_eq_true_eq, in_ll, ii_long, Nat.zero_add, Nat.mul_zero, reduceCtorEq]
  · obtain ⟨σ', τ', e3, e4, hr⟩ := fd0 hR
    refine ⟨ii (-1000000001), σ', τ', ?_, ?_, _, hr⟩
    · unfold fX7_swap fX7_swap_0
      simp (disch := omega) only [c1, e3, if_true, if_false, Option.bind_some, Option.map_some, ii_lit, ll_lit, ii_neg, ll_neg, ii_add, ii_sub, ii_mul, ll_add, ll_sub, ll_mul, ii_le, ii_lt, ii_eq, ii_t, bi_0, bi_1, rd_z, wr_z, rr_z, rl_z, wl_z, tn_n, st_s, st_j, st_i, st_c, st_2, sl_s, sl_j, sl_i, sl_c, sl_1, Int.natCast_add, Int.cast_ofNat_Int, if_pos, if_neg, decide_eq_false_iff_not, decide_eq_true_eq, in_ll, ii_long, Nat.zero_add, Nat.mul_zero, reduceCtorEq]
    · unfold fX8_swap fX8_swap_0
      simp (disch := omega) only [c2, e4, if_true, if_false, Option.bind_some, Option.map_some, ii_lit, ll_lit, ii_neg, ll_neg, ii_add, ii_sub, ii_mul, ll_add, ll_sub, ll_mul, ii_le, ii_lt, ii_eq, ii_t, bi_0, bi_1, rd_z, wr_z, rr_z, rl_z, wl_z, tn_n, st_s, st_j, st_i, st_c, st_2, sl_s, sl_j, sl_i, sl_c, sl_1, Int.natCast_add, Int.cast_ofNat_Int, if_pos, if_neg, decide_eq_false_iff_not, decide_eq_true_eq, in_ll, ii_long, Nat.zero_add, Nat.mul_zero, reduceCtorEq]
