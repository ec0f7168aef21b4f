-- SHEETS
theorem C_isSheet {a : Int} (h1 : -2147483648 ≤ a) (h2 : a < 2147483648) : fX7_isSheet (ii a) = decide (0 ≤ a ∧ a < 4) := by
  unfold fX7_isSheet fX7_isSheet_0
  by_cases h : 0 ≤ a
  · by_cases h' : a < 4
    · rw [decide_eq_true ⟨h, h'⟩]
      simp (disch := omega) only [if_true, if_false, Option.bind_some, Option.map_some, ii_lit, ll_lit, ii_neg, ll_neg, ii_add, ii_sub, ii_mul, ll_add, ll_sub, ll_mul, ii_le, ii_lt, ii_eq, ii_t, bi_0, bi_1, rd_z, wr_z, rr_z, rl_z, wl_z, tn_n, st_s, st_j, st_i, st_c, st_2, sl_s, sl_j, sl_i, sl_c, sl_1, Int.natCast_add, Int.cast_ofNat_Int, if_pos, if_neg]
    · rw [decide_eq_false (by omega)]
      simp (disch := omega) only [if_true, if_false, Option.bind_some, Option.map_some, ii_lit, ll_lit, ii_neg, ll_neg, ii_add, ii_sub, ii_mul, ll_add, ll_sub, ll_mul, ii_le, ii_lt, ii_eq, ii_t, bi_0, bi_1, rd_z, wr_z, rr_z, rl_z, wl_z, tn_n, st_s, st_j, st_i, st_c, st_2, sl_s, sl_j, sl_i, sl_c, sl_1, Int.natCast_add, Int.cast_ofNat_Int, if_pos, if_neg]
  · rw [decide_eq_false (by omega)]
    simp (disch := omega) only [if_true, if_false, Option.bind_some, Option.map_some, ii_lit, ll_lit, ii_neg, ll_neg, ii_add, ii_sub, ii_mul, ll_add, ll_sub, ll_mul, ii_le, ii_lt, ii_eq, ii_t, bi_0, bi_1, rd_z, wr_z, rr_z, rl_z, wl_z, tn_n, st_s, st_j, st_i, st_c, st_2, sl_s, sl_j, sl_i, sl_c, sl_1, Int.natCast_add, Int.cast_ofNat_Int, if_pos, if_neg]
theorem M_isSheet {a : Int} (h1 : -2147483648 ≤ a) (h2 : a < 2147483648) : fX8_isSheet (ii a) = decide (0 ≤ a ∧ a < 4) := by
  unfold fX8_isSheet fX8_isSheet_0
  simp (disch := omega) only [if_true, if_false, Option.bind_some, Option.map_some, ii_lit, ll_lit, ii_neg, ll_neg, ii_add, ii_sub, ii_mul, ll_add, ll_sub, ll_mul, ii_le, ii_lt, ii_eq, ii_t, bi_0, bi_1, rd_z, wr_z, rr_z, rl_z, wl_z, tn_n, st_s, st_j, st_i, st_c, st_2, sl_s, sl_j, sl_i, sl_c, sl_1, Int.natCast_add, Int.cast_ofNat_Int, if_pos, if_neg, decide_eq_false_iff_not, decide_eq_true_eq, in_ll, ii_long, Nat.zero_add, Nat.mul_zero, reduceCtorEq]
  exact decide_eq_decide.mpr (by omega)
/-- a sheet is as told, all others as they were -/
theorem rSh.upd {σ σ' τ τ' : mm} (h : rSh σ τ) {s : Nat} (bits size : Int) (hb : bits = 0 ∨ bits = 8 ∨ bits = 16 ∨ bits = 64) (hs : 0 ≤ size ∧ size ≤ 40) (a1 : σ'.1 5 s 0 = ii bits) (a2 : σ'.1 5 s 1 = ii size) (a3 : τ'.1 75 0 s = ii bits) (a4 : τ'.1 76 0 s = ii size)
    (a5 : ∀ i, i < 40 → σ'.2 26 s i = τ'.2 77 0 (40 * s + i)) (b1 : ∀ t, t ≠ s → σ'.1 5 t = σ.1 5 t ∧ σ'.2 26 t = σ.2 26 t ∧ τ'.1 75 0 t = τ.1 75 0 t ∧ τ'.1 76 0 t = τ.1 76 0 t ∧ ∀ i, i < 40 → τ'.2 77 0 (40 * t + i) = τ.2 77 0 (40 * t + i)) : rSh σ' τ' := by
  intro t ht
  by_cases hts : t = s
  · subst hts
    exact ⟨bits, size, hb, hs, a1, a3, a2, a4, a5⟩
  · obtain ⟨q1, q2, q3, q4, q5⟩ := b1 t hts
    obtain ⟨x, y, p1, p2, p3, p4, p5, p6, p7⟩ := h t ht
    refine ⟨x, y, p1, p2, by rw [q1]; exact p3, by rw [q3]; exact p4, by rw [q1]; exact p5, by rw [q4]; exact p6, ?_⟩
    intro i hi
    rw [q2, q5 i hi]
    exact p7 i hi
theorem C_sbegin (σ : mm) (s : Nat) (x y : Int32) : ∃ σ', fX5_begin s x y σ = some σ' ∧ σ'.1 5 s 0 = x ∧ σ'.1 5 s 1 = y ∧ (∀ i, i < 40 → σ'.2 26 s i = ll 0) ∧ (∀ t, t ≠ s → σ'.1 5 t = σ.1 5 t ∧ σ'.2 26 t = σ.2 26 t) ∧ Fr [5, 26] [] σ σ' := by
  unfold fX5_begin fX5_begin_0
  simp only [Option.bind_some]
  refine lp_j (fun k z => z.1 = ii k ∧ z.2.1 5 s 0 = x ∧ z.2.1 5 s 1 = y ∧ (∀ i, i < k → z.2.2 26 s i = ll 0) ∧ (∀ t, t ≠ s → z.2.1 5 t = σ.1 5 t ∧ z.2.2 26 t = σ.2 26 t) ∧ Fr [5, 26] [] σ z.2) _ 40 ⟨rfl, ?_, ?_, fun i hi => by omega, ?_, ((Fr.rf _ _ _).sI (by decide) (by decide)).sI (by decide) (by decide)⟩ ?_ ?_
  · rw [st_j _ _ (by decide), st_s]
  · rw [st_s]
  · intro t ht
    rw [st_i _ _ _ ht, st_i _ _ _ ht]
    exact ⟨rfl, rfl⟩
  · rintro k ⟨a, z⟩ hk ⟨g1, g2, g3, g4, g5, g6⟩
    have g1 : a = ii k := g1
    subst g1
    refine ⟨(ii ((k + 1 : Nat)), stL z 26 s k (ll 0)), ?_, rfl, g2, g3, ?_, ?_, g6.sL (by decide)⟩
    · simp (disch := omega) only [fX5_begin_12_L, fX5_begin_12, if_true, if_false, Option.bind_some, Option.map_some, ii_lit, ll_lit, ii_neg, ll_neg, ii_add, ii_sub, ii_mul, ll_add, ll_sub, ll_mul, ii_le, ii_lt, ii_eq, ii_t, bi_0, bi_1, rd_z, wr_z, rr_z, rl_z, wl_z, tn_n, st_s, st_j, st_i, st_c, st_2, sl_s, sl_j, sl_i, sl_c, sl_1, Int.natCast_add, Int.cast_ofNat_Int, if_pos, if_neg]
    · intro i hi
      show (stL z 26 s k (ll 0)).2 26 s i = _
      by_cases hik : i = k
      · subst hik
        rw [sl_s]
      · rw [sl_j _ _ hik]
        exact g4 i (by omega)
    · intro t ht
      show (stL z 26 s k (ll 0)).1 5 t = _ ∧ (stL z 26 s k (ll 0)).2 26 t = _
      rw [sl_i _ _ _ ht]
      exact g5 t ht
  · rintro ⟨a, z⟩ ⟨g1, g2, g3, g4, g5, g6⟩
    have g1 : a = ii 40 := g1
    subst g1
    refine ⟨z, ?_, g2, g3, g4, g5, g6⟩
    simp (disch := omega) only [fX5_begin_12_L, fX5_begin_12, if_true, if_false, Option.bind_some, Option.map_some, ii_lit, ll_lit, ii_neg, ll_neg, ii_add, ii_sub, ii_mul, ll_add, ll_sub, ll_mul, ii_le, ii_lt, ii_eq, ii_t, bi_0, bi_1, rd_z, wr_z, rr_z, rl_z, wl_z, tn_n, st_s, st_j, st_i, st_c, st_2, sl_s, sl_j, sl_i, sl_c, sl_1, Int.natCast_add, Int.cast_ofNat_Int, if_pos, if_neg]
theorem m_sheet {σ τ : mm} (h : Rel σ τ) (s b n : Int32) : Ag (fX7_sheet s b n σ) (fX8_sheet s b n τ) := by
  obtain ⟨A, hR⟩ := h
  obtain ⟨s, rfl, h1, h2⟩ := ii_ex s
  obtain ⟨b, rfl, h3, h4⟩ := ii_ex b
  obtain ⟨n, rfl, h5, h6⟩ := ii_ex n
  have k1 := C_isSheet h1 h2
  have k2 := M_isSheet h1 h2
  obtain ⟨c1, c2, c3, c4, c5⟩ := hR.2.2
  by_cases hs : (0 ≤ s ∧ s < 4) ∧ (b = 0 ∨ b = 8 ∨ b = 16 ∨ b = 64)
  · obtain ⟨⟨v1, v2⟩, v3⟩ := hs
    obtain ⟨s, rfl⟩ : ∃ k : Nat, s = k := ⟨s.toNat, by omega⟩
    have d1 : fX7_sheet (ii s) (ii b) (ii n) σ = fX7_sheet_35 (ii s) (ii b) (ii n) σ := by
      unfold fX7_sheet fX7_sheet_0
      rcases v3 with rfl | rfl | rfl | rfl <;> simp (disch := omega) only [k1, if_true, if_false, Option.bind_some, Option.map_some, ii_lit, ll_lit, ii_neg, ll_neg, ii_add, ii_sub, ii_mul, ll_add, ll_sub, ll_mul, ii_le, ii_lt, ii_eq, ii_t, bi_0, bi_1, rd_z, wr_z, rr_z, rl_z, wl_z, tn_n, st_s, st_j, st_i, st_c, st_2, sl_s, sl_j, sl_i, sl_c, sl_1, Int.natCast_add, Int.cast_ofNat_Int, if_pos, if_neg, decide_eq_false_iff_not, decide_eq_true_eq, in_ll, ii_long, Nat.zero_add, Nat.mul_zero, reduceCtorEq]
    have d2 : fX8_sheet (ii s) (ii b) (ii n) τ = fX8_sheet_36 (ii s) (ii b) (ii n) τ := by
      unfold fX8_sheet fX8_sheet_0
      rcases v3 with rfl | rfl | rfl | rfl <;> simp (disch := omega) only [k2, if_true, if_false, Option.bind_some, Option.map_some, ii_lit, ll_lit, ii_neg, ll_neg, ii_add, ii_sub, ii_mul, ll_add, ll_sub, ll_mul, ii_le, ii_lt, ii_eq, ii_t, bi_0, bi_1, rd_z, wr_z, rr_z, rl_z, wl_z, tn_n, st_s, st_j, st_i, st_c, st_2, sl_s, sl_j, sl_i, sl_c, sl_1, Int.natCast_add, Int.cast_ofNat_Int, if_pos, if_neg, decide_eq_false_iff_not, decide_eq_true_eq, in_ll, ii_long, Nat.zero_add, Nat.mul_zero, reduceCtorEq]
    rw [d1, d2]
    by_cases hn : b ≠ 0 ∧ n < 0
    · obtain ⟨σ', τ', e3, e4, hr⟩ := fd6 hR
      refine ⟨ii (-1000000007), σ', τ', ?_, ?_, _, hr⟩
      · unfold fX7_sheet_35
        simp (disch := omega) only [e3, if_true, if_false, Option.bind_some, Option.map_some, ii_lit, ll_lit, ii_neg, ll_neg, ii_add, ii_sub, ii_mul, ll_add, ll_sub, ll_mul, ii_le, ii_lt, ii_eq, ii_t, bi_0, bi_1, rd_z, wr_z, rr_z, rl_z, wl_z, tn_n, st_s, st_j, st_i, st_c, st_2, sl_s, sl_j, sl_i, sl_c, sl_1, Int.natCast_add, Int.cast_ofNat_Int, if_pos, if_neg, decide_eq_false_iff_not, decide_eq_true_eq, in_ll, ii_long, Nat.zero_add, Nat.mul_zero, reduceCtorEq]
      · unfold fX8_sheet_36
        simp (disch := omega) only [e4, if_true, if_false, Option.bind_some, Option.map_some, ii_lit, ll_lit, ii_neg, ll_neg, ii_add, ii_sub, ii_mul, ll_add, ll_sub, ll_mul, ii_le, ii_lt, ii_eq, ii_t, bi_0, bi_1, rd_z, wr_z, rr_z, rl_z, wl_z, tn_n, st_s, st_j, st_i, st_c, st_2, sl_s, sl_j, sl_i, sl_c, sl_1, Int.natCast_add, Int.cast_ofNat_Int, if_pos, if_neg, decide_eq_false_iff_not, decide_eq_true_eq, in_ll, ii_long, Nat.zero_add, Nat.mul_zero, reduceCtorEq]
    · have d3 : fX7_sheet_35 (ii s) (ii b) (ii n) σ = fX7_sheet_50 (ii s) (ii b) (ii n) σ := by
        unfold fX7_sheet_35
        by_cases q : b = 0
        · simp (disch := omega) only [if_true, if_false, Option.bind_some, Option.map_some, ii_lit, ll_lit, ii_neg, ll_neg, ii_add, ii_sub, ii_mul, ll_add, ll_sub, ll_mul, ii_le, ii_lt, ii_eq, ii_t, bi_0, bi_1, rd_z, wr_z, rr_z, rl_z, wl_z, tn_n, st_s, st_j, st_i, st_c, st_2, sl_s, sl_j, sl_i, sl_c, sl_1, Int.natCast_add, Int.cast_ofNat_Int, if_pos, if_neg, decide_eq_false_iff_not, decide_eq_true_eq, in_ll, ii_long, Nat.zero_add, Nat.mul_zero, reduceCtorEq]
        · simp (disch := omega) only [if_true, if_false, Option.bind_some, Option.map_some, ii_lit, ll_lit, ii_neg, ll_neg, ii_add, ii_sub, ii_mul, ll_add, ll_sub, ll_mul, ii_le, ii_lt, ii_eq, ii_t, bi_0, bi_1, rd_z, wr_z, rr_z, rl_z, wl_z, tn_n, st_s, st_j, st_i, st_c, st_2, sl_s, sl_j, sl_i, sl_c, sl_1, Int.natCast_add, Int.cast_ofNat_Int, if_pos, if_neg, decide_eq_false_iff_not, decide_eq_true_eq, in_ll, ii_long, Nat.zero_add, Nat.mul_zero, reduceCtorEq]
      have d4 : fX8_sheet_36 (ii s) (ii b) (ii n) τ = fX8_sheet_51 (ii s) (ii b) (ii n) τ := by
        unfold fX8_sheet_36
        by_cases q : b = 0
        · simp (disch := omega) only [if_true, if_false, Option.bind_some, Option.map_some, ii_lit, ll_lit, ii_neg, ll_neg, ii_add, ii_sub, ii_mul, ll_add, ll_sub, ll_mul, ii_le, ii_lt, ii_eq, ii_t, bi_0, bi_1, rd_z, wr_z, rr_z, rl_z, wl_z, tn_n, st_s, st_j, st_i, st_c, st_2, sl_s, sl_j, sl_i, sl_c, sl_1, Int.natCast_add, Int.cast_ofNat_Int, if_pos, if_neg, decide_eq_false_iff_not, decide_eq_true_eq, in_ll, ii_long, Nat.zero_add, Nat.mul_zero, reduceCtorEq]
        · simp (disch := omega) only [if_true, if_false, Option.bind_some, Option.map_some, ii_lit, ll_lit, ii_neg, ll_neg, ii_add, ii_sub, ii_mul, ll_add, ll_sub, ll_mul, ii_le, ii_lt, ii_eq, ii_t, bi_0, bi_1, rd_z, wr_z, rr_z, rl_z, wl_z, tn_n, st_s, st_j, st_i, st_c, st_2, sl_s, sl_j, sl_i, sl_c, sl_1, Int.natCast_add, Int.cast_ofNat_Int, if_pos, if_neg, decide_eq_false_iff_not, decide_eq_true_eq, in_ll, ii_long, Nat.zero_add, Nat.mul_zero, reduceCtorEq]
      rw [d3, d4]
      by_cases hn2 : b ≠ 0 ∧ 40 < n
      · obtain ⟨σ', τ', e3, e4, hr⟩ := fd0 hR
        refine ⟨ii (-1000000001), σ', τ', ?_, ?_, _, hr⟩
        · unfold fX7_sheet_50
          simp (disch := omega) only [e3, if_true, if_false, Option.bind_some, Option.map_some, ii_lit, ll_lit, ii_neg, ll_neg, ii_add, ii_sub, ii_mul, ll_add, ll_sub, ll_mul, ii_le, ii_lt, ii_eq, ii_t, bi_0, bi_1, rd_z, wr_z, rr_z, rl_z, wl_z, tn_n, st_s, st_j, st_i, st_c, st_2, sl_s, sl_j, sl_i, sl_c, sl_1, Int.natCast_add, Int.cast_ofNat_Int, if_pos, if_neg, decide_eq_false_iff_not, decide_eq_true_eq, in_ll, ii_long, Nat.zero_add, Nat.mul_zero, reduceCtorEq]
        · unfold fX8_sheet_51
          simp (disch := omega) only [e4, if_true, if_false, Option.bind_some, Option.map_some, ii_lit, ll_lit, ii_neg, ll_neg, ii_add, ii_sub, ii_mul, ll_add, ll_sub, ll_mul, ii_le, ii_lt, ii_eq, ii_t, bi_0, bi_1, rd_z, wr_z, rr_z, rl_z, wl_z, tn_n, st_s, st_j, st_i, st_c, st_2, sl_s, sl_j, sl_i, sl_c, sl_1, Int.natCast_add, Int.cast_ofNat_Int, if_pos, if_neg, decide_eq_false_iff_not, decide_eq_true_eq, in_ll, ii_long, Nat.zero_add, Nat.mul_zero, reduceCtorEq]
      · have hsz : ∃ z : Int, z = (if b = 0 then 0 else n) := ⟨_, rfl⟩
        obtain ⟨z, hz⟩ := hsz
        have hzr : 0 ≤ z ∧ z ≤ 40 := by
          rw [hz]
          split <;> omega
        obtain ⟨σ1, e1, f1, f2, f3, f4, f5⟩ := C_sbegin σ s (ii b) (ii z)
        have d5 : fX7_sheet_50 (ii s) (ii b) (ii n) σ = some (ii z, σ1) := by
          unfold fX7_sheet_50 fX7_sheet_66 fX7_sheet_82
          by_cases q : b = 0
          · have hz0 : z = 0 := by rw [hz, if_pos q]
            subst hz0
            simp (disch := omega) only [e1, f2, if_true, if_false, Option.bind_some, Option.map_some, ii_lit, ll_lit, ii_neg, ll_neg, ii_add, ii_sub, ii_mul, ll_add, ll_sub, ll_mul, ii_le, ii_lt, ii_eq, ii_t, bi_0, bi_1, rd_z, wr_z, rr_z, rl_z, wl_z, tn_n, st_s, st_j, st_i, st_c, st_2, sl_s, sl_j, sl_i, sl_c, sl_1, Int.natCast_add, Int.cast_ofNat_Int, if_pos, if_neg, decide_eq_false_iff_not, decide_eq_true_eq, in_ll, ii_long, Nat.zero_add, Nat.mul_zero, reduceCtorEq]
          · have hz0 : z = n := by rw [hz, if_neg q]
            subst hz0
            simp (disch := omega) only [e1, f2, if_true, if_false, Option.bind_some, Option.map_some, ii_lit, ll_lit, ii_neg, ll_neg, ii_add, ii_sub, ii_mul, ll_add, ll_sub, ll_mul, ii_le, ii_lt, ii_eq, ii_t, bi_0, bi_1, rd_z, wr_z, rr_z, rl_z, wl_z, tn_n, st_s, st_j, st_i, st_c, st_2, sl_s, sl_j, sl_i, sl_c, sl_1, Int.natCast_add, Int.cast_ofNat_Int, if_pos, if_neg, decide_eq_false_iff_not, decide_eq_true_eq, in_ll, ii_long, Nat.zero_add, Nat.mul_zero, reduceCtorEq]
        have s2 : ∃ r, lp (fX8_sheet_93_L (ii s)) (ii 0, stI (stI τ 75 0 s (ii b)) 76 0 s (ii z)) = some r ∧ (r.1 = ii z ∧ r.2.1 75 0 s = ii b ∧ r.2.1 76 0 s = ii z ∧ (∀ i, i < 40 → r.2.2 77 0 (40 * s + i) = ll 0) ∧ (∀ t, t ≠ s → r.2.1 75 0 t = τ.1 75 0 t ∧ r.2.1 76 0 t = τ.1 76 0 t ∧ ∀ i, i < 40 → r.2.2 77 0 (40 * t + i) = τ.2 77 0 (40 * t + i)) ∧ Fr [75, 76, 77] [] τ r.2) := by
          refine lp_j (fun k y => y.1 = ii k ∧ y.2.1 75 0 s = ii b ∧ y.2.1 76 0 s = ii z ∧ (∀ i, i < k → y.2.2 77 0 (40 * s + i) = ll 0) ∧ (∀ t, t ≠ s → y.2.1 75 0 t = τ.1 75 0 t ∧ y.2.1 76 0 t = τ.1 76 0 t ∧ ∀ i, i < 40 → y.2.2 77 0 (40 * t + i) = τ.2 77 0 (40 * t + i)) ∧ Fr [75, 76, 77] [] τ y.2) _ 40 ⟨rfl, ?_, ?_, fun i hi => by omega, ?_, ((Fr.rf _ _ _).sI (by decide) (by decide)).sI (by decide) (by decide)⟩ ?_ ?_
          · rw [st_c _ _ _ _ (by decide), st_s]
          · rw [st_s]
          · intro t ht
            rw [st_c _ _ _ _ (by decide), st_j _ _ ht, st_j _ _ ht, st_c _ _ _ _ (by decide)]
            exact ⟨rfl, rfl, fun _ _ => rfl⟩
          · rintro k ⟨a, y⟩ hk ⟨g1, g2, g3, g4, g5, g6⟩
            have g1 : a = ii k := g1
            subst g1
            refine ⟨(ii ((k + 1 : Nat)), stL y 77 0 (40 * s + k) (ll 0)), ?_, rfl, g2, g3, ?_, ?_, g6.sL (by decide)⟩
            · simp (disch := omega) only [fX8_sheet_93_L, fX8_sheet_93, show (40 * (s : Int) + (k : Int)).toNat = 40 * s + k by omega, if_true, if_false, Option.bind_some, Option.map_some, ii_lit, ll_lit, ii_neg, ll_neg, ii_add, ii_sub, ii_mul, ll_add, ll_sub, ll_mul, ii_le, ii_lt, ii_eq, ii_t, bi_0, bi_1, rd_z, wr_z, rr_z, rl_z, wl_z, tn_n, st_s, st_j, st_i, st_c, st_2, sl_s, sl_j, sl_i, sl_c, sl_1, Int.natCast_add, Int.cast_ofNat_Int, if_pos, if_neg]
            · intro i hi
              show (stL y 77 0 (40 * s + k) (ll 0)).2 77 0 (40 * s + i) = _
              by_cases hik : i = k
              · subst hik
                rw [sl_s]
              · rw [sl_j _ _ (by omega)]
                exact g4 i (by omega)
            · intro t ht
              obtain ⟨o1, o2, o3⟩ := g5 t ht
              refine ⟨o1, o2, ?_⟩
              intro i hi
              show (stL y 77 0 (40 * s + k) (ll 0)).2 77 0 (40 * t + i) = _
              rw [sl_j _ _ (by omega)]
              exact o3 i hi
          · rintro ⟨a, y⟩ ⟨g1, g2, g3, g4, g5, g6⟩
            have g1 : a = ii 40 := g1
            subst g1
            have g3 : y.1 76 0 s = ii z := g3
            refine ⟨(ii z, y), ?_, rfl, g2, g3, g4, g5, g6⟩
            simp (disch := omega) only [fX8_sheet_93_L, fX8_sheet_93, g3, if_true, if_false, Option.bind_some, Option.map_some, ii_lit, ll_lit, ii_neg, ll_neg, ii_add, ii_sub, ii_mul, ll_add, ll_sub, ll_mul, ii_le, ii_lt, ii_eq, ii_t, bi_0, bi_1, rd_z, wr_z, rr_z, rl_z, wl_z, tn_n, st_s, st_j, st_i, st_c, st_2, sl_s, sl_j, sl_i, sl_c, sl_1, Int.natCast_add, Int.cast_ofNat_Int, if_pos, if_neg]
        obtain ⟨⟨r2, τ1⟩, e2, g0, g1, g2, g3, g4, g5⟩ := s2
        have g0 : r2 = ii z := g0
        subst g0
        have d6 : fX8_sheet_51 (ii s) (ii b) (ii n) τ = some (ii z, τ1) := by
          unfold fX8_sheet_51 fX8_sheet_68 fX8_sheet_89
          by_cases q : b = 0
          · have hz0 : z = 0 := by rw [hz, if_pos q]
            subst hz0
            simp (disch := omega) only [e2, if_true, if_false, Option.bind_some, Option.map_some, ii_lit, ll_lit, ii_neg, ll_neg, ii_add, ii_sub, ii_mul, ll_add, ll_sub, ll_mul, ii_le, ii_lt, ii_eq, ii_t, bi_0, bi_1, rd_z, wr_z, rr_z, rl_z, wl_z, tn_n, st_s, st_j, st_i, st_c, st_2, sl_s, sl_j, sl_i, sl_c, sl_1, Int.natCast_add, Int.cast_ofNat_Int, if_pos, if_neg, decide_eq_false_iff_not, decide_eq_true_eq, in_ll, ii_long, Nat.zero_add, Nat.mul_zero, reduceCtorEq]
          · have hz0 : z = n := by rw [hz, if_neg q]
            subst hz0
            simp (disch := omega) only [e2, if_true, if_false, Option.bind_some, Option.map_some, ii_lit, ll_lit, ii_neg, ll_neg, ii_add, ii_sub, ii_mul, ll_add, ll_sub, ll_mul, ii_le, ii_lt, ii_eq, ii_t, bi_0, bi_1, rd_z, wr_z, rr_z, rl_z, wl_z, tn_n, st_s, st_j, st_i, st_c, st_2, sl_s, sl_j, sl_i, sl_c, sl_1, Int.natCast_add, Int.cast_ofNat_Int, if_pos, if_neg, decide_eq_false_iff_not, decide_eq_true_eq, in_ll, ii_long, Nat.zero_add, Nat.mul_zero, reduceCtorEq]
        have hRl : RelA σ1 τ1 A := hR.fr f5 g5 (by decide) (by decide) (by decide) ⟨c1.fr f5 g5 (by decide) (by decide) (by decide), c2.fr f5 g5 (by decide) (by decide) (by decide), c3.upd b z v3 hzr f1 f2 g1 g2 (fun i hi => by rw [f3 i hi]; exact (g3 i hi).symm) (fun t ht => ⟨(f4 t ht).1, (f4 t ht).2, (g4 t ht).1, (g4 t ht).2.1, (g4 t ht).2.2⟩), c4.fr f5 g5 (by decide) (by decide), c5.fr g5 (by decide)⟩
        exact ⟨ii z, σ1, τ1, d5, d6, _, hRl⟩
  · obtain ⟨σ', τ', e3, e4, hr⟩ := fd0 hR
    refine ⟨ii (-1000000001), σ', τ', ?_, ?_, _, hr⟩
    · unfold fX7_sheet fX7_sheet_0 fX7_sheet_29
      by_cases q : 0 ≤ s ∧ s < 4
      · simp (disch := omega) only [k1, e3, if_true, if_false, Option.bind_some, Option.map_some, ii_lit, ll_lit, ii_neg, ll_neg, ii_add, ii_sub, ii_mul, ll_add, ll_sub, ll_mul, ii_le, ii_lt, ii_eq, ii_t, bi_0, bi_1, rd_z, wr_z, rr_z, rl_z, wl_z, tn_n, st_s, st_j, st_i, st_c, st_2, sl_s, sl_j, sl_i, sl_c, sl_1, Int.natCast_add, Int.cast_ofNat_Int, if_pos, if_neg, decide_eq_false_iff_not, decide_eq_true_eq, in_ll, ii_long, Nat.zero_add, Nat.mul_zero, reduceCtorEq]
      · simp (disch := omega) only [k1, e3, if_true, if_false, Option.bind_some, Option.map_some, ii_lit, ll_lit, ii_neg, ll_neg, ii_add, ii_sub, ii_mul, ll_add, ll_sub, ll_mul, ii_le, ii_lt, ii_eq, ii_t, bi_0, bi_1, rd_z, wr_z, rr_z, rl_z, wl_z, tn_n, st_s, st_j, st_i, st_c, st_2, sl_s, sl_j, sl_i, sl_c, sl_1, Int.natCast_add, Int.cast_ofNat_Int, if_pos, if_neg, decide_eq_false_iff_not, decide_eq_true_eq, in_ll, ii_long, Nat.zero_add, Nat.mul_zero, reduceCtorEq]
    · unfold fX8_sheet fX8_sheet_0 fX8_sheet_29
      by_cases q : 0 ≤ s ∧ s < 4
      · simp (disch := omega) only [k2, e4, if_true, if_false, Option.bind_some, Option.map_some, ii_lit, ll_lit, ii_neg, ll_neg, ii_add, ii_sub, ii_mul, ll_add, ll_sub, ll_mul, ii_le, ii_lt, ii_eq, ii_t, bi_0, bi_1, rd_z, wr_z, rr_z, rl_z, wl_z, tn_n, st_s, st_j, st_i, st_c, st_2, sl_s, sl_j, sl_i, sl_c, sl_1, Int.natCast_add, Int.cast_ofNat_Int, if_pos, if_neg, decide_eq_false_iff_not, decide_eq_true_eq, in_ll, ii_long, Nat.zero_add, Nat.mul_zero, reduceCtorEq]
      · simp (disch := omega) only [k2, e4, if_true, if_false, Option.bind_some, Option.map_some, ii_lit, ll_lit, ii_neg, ll_neg, ii_add, ii_sub, ii_mul, ll_add, ll_sub, ll_mul, ii_le, ii_lt, ii_eq, ii_t, bi_0, bi_1, rd_z, wr_z, rr_z, rl_z, wl_z, tn_n, st_s, st_j, st_i, st_c, st_2, sl_s, sl_j, sl_i, sl_c, sl_1, Int.natCast_add, Int.cast_ofNat_Int, if_pos, if_neg, decide_eq_false_iff_not, decide_eq_true_eq, in_ll, ii_long, Nat.zero_add, Nat.mul_zero, reduceCtorEq]
theorem C_sheetTrouble {σ τ : mm} (h : rSh σ τ) {s : Nat} (hs : s < 4) {bits : Int} (hb : σ.1 5 s 0 = ii bits) (hr : 0 ≤ bits ∧ bits ≤ 64) : fX7_sheetTrouble (ii s) σ = some (if bits = 0 then ii 5 else ii (-1)) := by
  have k1 := C_isSheet (a := s) (by omega) (by omega)
  unfold fX7_sheetTrouble fX7_sheetTrouble_0
  by_cases q : bits = 0
  · simp (disch := omega) only [k1, hb, if_true, if_false, Option.bind_some, Option.map_some, ii_lit, ll_lit, ii_neg, ll_neg, ii_add, ii_sub, ii_mul, ll_add, ll_sub, ll_mul, ii_le, ii_lt, ii_eq, ii_t, bi_0, bi_1, rd_z, wr_z, rr_z, rl_z, wl_z, tn_n, st_s, st_j, st_i, st_c, st_2, sl_s, sl_j, sl_i, sl_c, sl_1, Int.natCast_add, Int.cast_ofNat_Int, if_pos, if_neg, decide_eq_false_iff_not, decide_eq_true_eq, in_ll, ii_long, Nat.zero_add, Nat.mul_zero, reduceCtorEq]
  · simp (disch := omega) only [k1, hb, if_true, if_false, Option.bind_some, Option.map_some, ii_lit, ll_lit, ii_neg, ll_neg, ii_add, ii_sub, ii_mul, ll_add, ll_sub, ll_mul, ii_le, ii_lt, ii_eq, ii_t, bi_0, bi_1, rd_z, wr_z, rr_z, rl_z, wl_z, tn_n, st_s, st_j, st_i, st_c, st_2, sl_s, sl_j, sl_i, sl_c, sl_1, Int.natCast_add, Int.cast_ofNat_Int, if_pos, if_neg, decide_eq_false_iff_not, decide_eq_true_eq, in_ll, ii_long, Nat.zero_add, Nat.mul_zero, reduceCtorEq]
theorem C_sheetTroubleN {σ : mm} {s : Int} (h1 : -2147483648 ≤ s) (h2 : s < 2147483648) (hs : ¬ (0 ≤ s ∧ s < 4)) : fX7_sheetTrouble (ii s) σ = some (ii 0) := by
  have k1 := C_isSheet h1 h2
  unfold fX7_sheetTrouble fX7_sheetTrouble_0
  simp (disch := omega) only [k1, if_true, if_false, Option.bind_some, Option.map_some, ii_lit, ll_lit, ii_neg, ll_neg, ii_add, ii_sub, ii_mul, ll_add, ll_sub, ll_mul, ii_le, ii_lt, ii_eq, ii_t, bi_0, bi_1, rd_z, wr_z, rr_z, rl_z, wl_z, tn_n, st_s, st_j, st_i, st_c, st_2, sl_s, sl_j, sl_i, sl_c, sl_1, Int.natCast_add, Int.cast_ofNat_Int, if_pos, if_neg, decide_eq_false_iff_not, decide_eq_true_eq, in_ll, ii_long, Nat.zero_add, Nat.mul_zero, reduceCtorEq]
theorem C_put {σ : mm} {s : Nat} {bits : Int} (hb : σ.1 5 s 0 = ii bits) (hr : 0 ≤ bits ∧ bits ≤ 64) {i : Nat} (hi : i < 40) (v : Int64) : fX5_put s (ii i) v σ = some (stL σ 26 s i (fX8_narrow (ii bits) v)) := by
  unfold fX5_put fX5_put_0 fX8_narrow fX8_narrow_0
  by_cases q : bits = 8
  · simp (disch := omega) only [hb, if_true, if_false, Option.bind_some, Option.map_some, ii_lit, ll_lit, ii_neg, ll_neg, ii_add, ii_sub, ii_mul, ll_add, ll_sub, ll_mul, ii_le, ii_lt, ii_eq, ii_t, bi_0, bi_1, rd_z, wr_z, rr_z, rl_z, wl_z, tn_n, st_s, st_j, st_i, st_c, st_2, sl_s, sl_j, sl_i, sl_c, sl_1, Int.natCast_add, Int.cast_ofNat_Int, if_pos, if_neg, decide_eq_false_iff_not, decide_eq_true_eq, in_ll, ii_long, Nat.zero_add, Nat.mul_zero, reduceCtorEq]
  · by_cases q2 : bits = 16
    · simp (disch := omega) only [hb, if_true, if_false, Option.bind_some, Option.map_some, ii_lit, ll_lit, ii_neg, ll_neg, ii_add, ii_sub, ii_mul, ll_add, ll_sub, ll_mul, ii_le, ii_lt, ii_eq, ii_t, bi_0, bi_1, rd_z, wr_z, rr_z, rl_z, wl_z, tn_n, st_s, st_j, st_i, st_c, st_2, sl_s, sl_j, sl_i, sl_c, sl_1, Int.natCast_add, Int.cast_ofNat_Int, if_pos, if_neg, decide_eq_false_iff_not, decide_eq_true_eq, in_ll, ii_long, Nat.zero_add, Nat.mul_zero, reduceCtorEq]
    · simp (disch := omega) only [hb, if_true, if_false, Option.bind_some, Option.map_some, ii_lit, ll_lit, ii_neg, ll_neg, ii_add, ii_sub, ii_mul, ll_add, ll_sub, ll_mul, ii_le, ii_lt, ii_eq, ii_t, bi_0, bi_1, rd_z, wr_z, rr_z, rl_z, wl_z, tn_n, st_s, st_j, st_i, st_c, st_2, sl_s, sl_j, sl_i, sl_c, sl_1, Int.natCast_add, Int.cast_ofNat_Int, if_pos, if_neg, decide_eq_false_iff_not, decide_eq_true_eq, in_ll, ii_long, Nat.zero_add, Nat.mul_zero, reduceCtorEq]
theorem m_write {σ τ : mm} (h : Rel σ τ) (s i : Int32) (v : Int64) : Ag (fX7_write s i v σ) (fX8_write s i v τ) := by
  obtain ⟨A, hR⟩ := h
  obtain ⟨s, rfl, h1, h2⟩ := ii_ex s
  obtain ⟨i, rfl, h3, h4⟩ := ii_ex i
  have k2 := M_isSheet h1 h2
  obtain ⟨c1, c2, c3, c4, c5⟩ := hR.2.2
  by_cases hs : 0 ≤ s ∧ s < 4
  · obtain ⟨s, rfl⟩ : ∃ k : Nat, s = k := ⟨s.toNat, by omega⟩
    obtain ⟨bits, size, p1, p2, p3, p4, p5, p6, p7⟩ := c3 s (by omega)
    have k1 := C_sheetTrouble c3 (s := s) (by omega) p3 (by omega)
    by_cases q : bits = 0
    · obtain ⟨σ', τ', e3, e4, hr⟩ := fd5 hR
      refine ⟨ll (-1000000006), σ', τ', ?_, ?_, _, hr⟩
      · unfold fX7_write fX7_write_0
        simp (disch := omega) only [k1, e3, if_true, if_false, Option.bind_some, Option.map_some, ii_lit, ll_lit, ii_neg, ll_neg, ii_add, ii_sub, ii_mul, ll_add, ll_sub, ll_mul, ii_le, ii_lt, ii_eq, ii_t, bi_0, bi_1, rd_z, wr_z, rr_z, rl_z, wl_z, tn_n, st_s, st_j, st_i, st_c, st_2, sl_s, sl_j, sl_i, sl_c, sl_1, Int.natCast_add, Int.cast_ofNat_Int, if_pos, if_neg, decide_eq_false_iff_not, decide_eq_true_eq, in_ll, ii_long, Nat.zero_add, Nat.mul_zero, reduceCtorEq]
      · unfold fX8_write fX8_write_0
        simp (disch := omega) only [k2, p4, e4, if_true, if_false, Option.bind_some, Option.map_some, ii_lit, ll_lit, ii_neg, ll_neg, ii_add, ii_sub, ii_mul, ll_add, ll_sub, ll_mul, ii_le, ii_lt, ii_eq, ii_t, bi_0, bi_1, rd_z, wr_z, rr_z, rl_z, wl_z, tn_n, st_s, st_j, st_i, st_c, st_2, sl_s, sl_j, sl_i, sl_c, sl_1, Int.natCast_add, Int.cast_ofNat_Int, if_pos, if_neg, decide_eq_false_iff_not, decide_eq_true_eq, in_ll, ii_long, Nat.zero_add, Nat.mul_zero, reduceCtorEq]
    · by_cases hi : 0 ≤ i ∧ i < size
      · obtain ⟨i, rfl⟩ : ∃ k : Nat, i = k := ⟨i.toNat, by omega⟩
        have pu := C_put p3 (by omega) (i := i) (by omega) v
        have f : Fr [26] [] σ (stL σ 26 s i (fX8_narrow (ii bits) v)) := (Fr.rf _ _ _).sL (by decide)
        have g : Fr [77] [] τ (stL τ 77 0 (40 * s + i) (fX8_narrow (ii bits) v)) := (Fr.rf _ _ _).sL (by decide)
        have hRl : RelA (stL σ 26 s i (fX8_narrow (ii bits) v)) (stL τ 77 0 (40 * s + i) (fX8_narrow (ii bits) v)) A := hR.fr f g (by decide) (by decide) (by decide) ⟨c1.fr f g (by decide) (by decide) (by decide), c2.fr f g (by decide) (by decide) (by decide), c3.upd (s := s) bits size p1 p2 p3 p5 p4 p6 ?_ ?_, c4.fr f g (by decide) (by decide), c5.fr g (by decide)⟩
        · refine ⟨σ.2 26 s i, _, _, ?_, ?_, _, hRl⟩
          · unfold fX7_write fX7_write_0
            simp (disch := omega) only [k1, p5, pu, if_true, if_false, Option.bind_some, Option.map_some, ii_lit, ll_lit, ii_neg, ll_neg, ii_add, ii_sub, ii_mul, ll_add, ll_sub, ll_mul, ii_le, ii_lt, ii_eq, ii_t, bi_0, bi_1, rd_z, wr_z, rr_z, rl_z, wl_z, tn_n, st_s, st_j, st_i, st_c, st_2, sl_s, sl_j, sl_i, sl_c, sl_1, Int.natCast_add, Int.cast_ofNat_Int, if_pos, if_neg, decide_eq_false_iff_not, decide_eq_true_eq, in_ll, ii_long, Nat.zero_add, Nat.mul_zero, reduceCtorEq]
          · unfold fX8_write fX8_write_0
            simp (disch := omega) only [k2, p4, p6, p7, show (40 * (s : Int) + (i : Int)).toNat = 40 * s + i by omega, if_true, if_false, Option.bind_some, Option.map_some, ii_lit, ll_lit, ii_neg, ll_neg, ii_add, ii_sub, ii_mul, ll_add, ll_sub, ll_mul, ii_le, ii_lt, ii_eq, ii_t, bi_0, bi_1, rd_z, wr_z, rr_z, rl_z, wl_z, tn_n, st_s, st_j, st_i, st_c, st_2, sl_s, sl_j, sl_i, sl_c, sl_1, Int.natCast_add, Int.cast_ofNat_Int, if_pos, if_neg, decide_eq_false_iff_not, decide_eq_true_eq, in_ll, ii_long, Nat.zero_add, Nat.mul_zero, reduceCtorEq]
        · intro j hj
          by_cases hji : j = i
          · subst hji
            rw [sl_s, sl_s]
          · rw [sl_j _ _ hji, sl_j _ _ (by omega)]
            exact p7 j hj
        · intro t ht
          rw [sl_i _ _ _ ht]
          exact ⟨rfl, rfl, rfl, rfl, fun j hj => sl_j _ _ (by omega)⟩
      · obtain ⟨σ', τ', e3, e4, hr⟩ := fd0 hR
        refine ⟨ll (-1000000001), σ', τ', ?_, ?_, _, hr⟩
        · unfold fX7_write fX7_write_0 fX7_write_42
          by_cases q2 : i < 0
          · simp (disch := omega) only [k1, p5, e3, if_true, if_false, Option.bind_some, Option.map_some, ii_lit, ll_lit, ii_neg, ll_neg, ii_add, ii_sub, ii_mul, ll_add, ll_sub, ll_mul, ii_le, ii_lt, ii_eq, ii_t, bi_0, bi_1, rd_z, wr_z, rr_z, rl_z, wl_z, tn_n, st_s, st_j, st_i, st_c, st_2, sl_s, sl_j, sl_i, sl_c, sl_1, Int.natCast_add, Int.cast_ofNat_Int, if_pos, if_neg, decide_eq_false_iff_not, decide_eq_true_eq, in_ll, ii_long, Nat.zero_add, Nat.mul_zero, reduceCtorEq]
          · simp (disch := omega) only [k1, p5, e3, if_true, if_false, Option.bind_some, Option.map_some, ii_lit, ll_lit, ii_neg, ll_neg, ii_add, ii_sub, ii_mul, ll_add, ll_sub, ll_mul, ii_le, ii_lt, ii_eq, ii_t, bi_0, bi_1, rd_z, wr_z, rr_z, rl_z, wl_z, tn_n, st_s, st_j, st_i, st_c, st_2, sl_s, sl_j, sl_i, sl_c, sl_1, Int.natCast_add, Int.cast_ofNat_Int, if_pos, if_neg, decide_eq_false_iff_not, decide_eq_true_eq, in_ll, ii_long, Nat.zero_add, Nat.mul_zero, reduceCtorEq]
        · unfold fX8_write fX8_write_0
          simp (disch := omega) only [k2, p4, p6, e4, if_true, if_false, Option.bind_some, Option.map_some, ii_lit, ll_lit, ii_neg, ll_neg, ii_add, ii_sub, ii_mul, ll_add, ll_sub, ll_mul, ii_le, ii_lt, ii_eq, ii_t, bi_0, bi_1, rd_z, wr_z, rr_z, rl_z, wl_z, tn_n, st_s, st_j, st_i, st_c, st_2, sl_s, sl_j, sl_i, sl_c, sl_1, Int.natCast_add, Int.cast_ofNat_Int, if_pos, if_neg, decide_eq_false_iff_not, decide_eq_true_eq, in_ll, ii_long, Nat.zero_add, Nat.mul_zero, reduceCtorEq]
  · obtain ⟨σ', τ', e3, e4, hr⟩ := fd0 hR
    refine ⟨ll (-1000000001), σ', τ', ?_, ?_, _, hr⟩
    · unfold fX7_write fX7_write_0
      simp (disch := omega) only [C_sheetTroubleN h1 h2 hs, e3, if_true, if_false, Option.bind_some, Option.map_some, ii_lit, ll_lit, ii_neg, ll_neg, ii_add, ii_sub, ii_mul, ll_add, ll_sub, ll_mul, ii_le, ii_lt, ii_eq, ii_t, bi_0, bi_1, rd_z, wr_z, rr_z, rl_z, wl_z, tn_n, st_s, st_j, st_i, st_c, st_2, sl_s, sl_j, sl_i, sl_c, sl_1, Int.natCast_add, Int.cast_ofNat_Int, if_pos, if_neg, decide_eq_false_iff_not, decide_eq_true_eq, in_ll, ii_long, Nat.zero_add, Nat.mul_zero, reduceCtorEq]
    · unfold fX8_write fX8_write_0
      simp (disch := omega) only [k2, e4, if_true, if_false, Option.bind_some, Option.map_some, ii_lit, ll_lit, ii_neg, ll_neg, ii_add, ii_sub, ii_mul, ll_add, ll_sub, ll_mul, ii_le, ii_lt, ii_eq, ii_t, bi_0, bi_1, rd_z, wr_z, rr_z, rl_z, wl_z, tn_n, st_s, st_j, st_i, st_c, st_2, sl_s, sl_j, sl_i, sl_c, sl_1, Int.natCast_add, Int.cast_ofNat_Int, if_pos, if_neg, decide_eq_false_iff_not, decide_eq_true_eq, in_ll, ii_long, Nat.zero_add, Nat.mul_zero, reduceCtorEq]
