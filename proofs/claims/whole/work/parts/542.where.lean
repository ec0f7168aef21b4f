-- where, judge
theorem least_ex {P : Nat → Prop} {n : Nat} (h : ∃ k, k < n ∧ P k) : ∃ k, k < n ∧ P k ∧ ∀ j, j < k → ¬ P j := by
  induction n with
  | zero =>
    obtain ⟨k, hk, -⟩ := h
    omega
  | succ n ih =>
    by_cases q : ∃ k, k < n ∧ P k
    · obtain ⟨k, h1, h2, h3⟩ := ih q
      exact ⟨k, by omega, h2, h3⟩
    · obtain ⟨k, h1, h2⟩ := h
      refine ⟨k, h1, h2, fun j hj hp => q ⟨j, by omega, hp⟩⟩
/-- a point lies in a leaf -/
def wth (A : bdy) (x : Nat → Int) (k : Nat) : Prop := ∃ q, (trA A)[k]? = some q ∧ ∀ l, l < A.n → q.1.1 l ≤ x l ∧ x l ≤ q.1.2 l
theorem C_isWith {σ : mm} {A : bdy} (hT : treeP σ A) (hA : okb A) {s : Nat} {x : Nat → Int} (hx : ∀ l, l < A.n → σ.2 26 s l = ll (x l) ∧ (-9223372036854775808 ≤ x l ∧ x l < 9223372036854775808)) {k : Nat} (hk : k < (trA A).length) : (wth A x k ∧ fX6_isWith (ii k) s (ii A.n) σ = some true) ∨ (¬ wth A x k ∧ fX6_isWith (ii k) s (ii A.n) σ = some false) := by
  obtain ⟨q, hq⟩ : ∃ q, (trA A)[k]? = some q := ⟨_, List.getElem?_eq_getElem hk⟩
  have hn := hA.1
  have qo := trA_ok hA hq
  by_cases hw : ∀ l, l < A.n → q.1.1 l ≤ x l ∧ x l ≤ q.1.2 l
  · left
    refine ⟨⟨q, hq, hw⟩, ?_⟩
    unfold fX6_isWith fX6_isWith_0
    refine lp_f (fun j => ii j) A.n rfl ?_ ?_
    · intro j hj
      have e1 := C_lowOf hT hA hq hj
      have e2 := C_highOf hT hA hq hj
      have hc := qo.1 j (by omega)
      obtain ⟨x1, x2⟩ := hx j hj
      have := hw j hj
      simp (disch := omega) only [fX6_isWith_3_L, fX6_isWith_3, e1, e2, x1, cmp_lt0, cmp_le0, if_true, if_false, Option.bind_some, Option.map_some, ii_lit, ll_lit, ii_neg, ll_neg, ii_add, ii_sub, ii_mul, ll_add, ll_sub, ll_mul, ii_le, ii_lt, ii_eq, ii_t, bi_0, bi_1, rd_z, wr_z, rr_z, rl_z, wl_z, tn_n, st_s, st_j, st_i, st_c, st_2, sl_s, sl_j, sl_i, sl_c, sl_1, Int.natCast_add, Int.cast_ofNat_Int, if_pos, if_neg, decide_eq_false_iff_not, decide_eq_true_eq, in_ll, ii_long, Nat.zero_add, Nat.mul_zero, reduceCtorEq]
    · simp (disch := omega) only [fX6_isWith_3_L, fX6_isWith_3, if_true, if_false, Option.bind_some, Option.map_some, ii_lit, ll_lit, ii_neg, ll_neg, ii_add, ii_sub, ii_mul, ll_add, ll_sub, ll_mul, ii_le, ii_lt, ii_eq, ii_t, bi_0, bi_1, rd_z, wr_z, rr_z, rl_z, wl_z, tn_n, st_s, st_j, st_i, st_c, st_2, sl_s, sl_j, sl_i, sl_c, sl_1, Int.natCast_add, Int.cast_ofNat_Int, if_pos, if_neg, decide_eq_false_iff_not, decide_eq_true_eq, in_ll, ii_long, Nat.zero_add, Nat.mul_zero, reduceCtorEq]
  · right
    refine ⟨fun ⟨q', h1, h2⟩ => ?_, ?_⟩
    · rw [hq] at h1
      cases h1
      exact hw h2
    · have key : ∃ r, lp (fX6_isWith_3_L (ii k) s (ii A.n) σ) (ii 0) = some r ∧ r = false := by
        refine lp_i (fun j z => z = ii j ∧ ∀ l, l < j → q.1.1 l ≤ x l ∧ x l ≤ q.1.2 l) _ A.n ⟨rfl, fun l hl => by omega⟩ ?_ ?_
        · rintro j z hj ⟨rfl, g2⟩
          have e1 := C_lowOf hT hA hq hj
          have e2 := C_highOf hT hA hq hj
          have hc := qo.1 j (by omega)
          obtain ⟨x1, x2⟩ := hx j hj
          by_cases q1 : x j < q.1.1 j
          · right
            refine ⟨_, ?_, rfl⟩
            simp (disch := omega) only [fX6_isWith_3_L, fX6_isWith_3, e1, e2, x1, cmp_lt0, cmp_le0, if_true, if_false, Option.bind_some, Option.map_some, ii_lit, ll_lit, ii_neg, ll_neg, ii_add, ii_sub, ii_mul, ll_add, ll_sub, ll_mul, ii_le, ii_lt, ii_eq, ii_t, bi_0, bi_1, rd_z, wr_z, rr_z, rl_z, wl_z, tn_n, st_s, st_j, st_i, st_c, st_2, sl_s, sl_j, sl_i, sl_c, sl_1, Int.natCast_add, Int.cast_ofNat_Int, if_pos, if_neg, decide_eq_false_iff_not, decide_eq_true_eq, in_ll, ii_long, Nat.zero_add, Nat.mul_zero, reduceCtorEq]
          · by_cases q2 : x j ≤ q.1.2 j
            · left
              refine ⟨ii ((j + 1 : Nat)), ?_, rfl, ?_⟩
              · simp (disch := omega) only [fX6_isWith_3_L, fX6_isWith_3, e1, e2, x1, cmp_lt0, cmp_le0, if_true, if_false, Option.bind_some, Option.map_some, ii_lit, ll_lit, ii_neg, ll_neg, ii_add, ii_sub, ii_mul, ll_add, ll_sub, ll_mul, ii_le, ii_lt, ii_eq, ii_t, bi_0, bi_1, rd_z, wr_z, rr_z, rl_z, wl_z, tn_n, st_s, st_j, st_i, st_c, st_2, sl_s, sl_j, sl_i, sl_c, sl_1, Int.natCast_add, Int.cast_ofNat_Int, if_pos, if_neg, decide_eq_false_iff_not, decide_eq_true_eq, in_ll, ii_long, Nat.zero_add, Nat.mul_zero, reduceCtorEq]
              · intro l hl
                by_cases e : l = j
                · subst e
                  omega
                · exact g2 l (by omega)
            · right
              refine ⟨_, ?_, rfl⟩
              simp (disch := omega) only [fX6_isWith_3_L, fX6_isWith_3, e1, e2, x1, cmp_lt0, cmp_le0, if_true, if_false, Option.bind_some, Option.map_some, ii_lit, ll_lit, ii_neg, ll_neg, ii_add, ii_sub, ii_mul, ll_add, ll_sub, ll_mul, ii_le, ii_lt, ii_eq, ii_t, bi_0, bi_1, rd_z, wr_z, rr_z, rl_z, wl_z, tn_n, st_s, st_j, st_i, st_c, st_2, sl_s, sl_j, sl_i, sl_c, sl_1, Int.natCast_add, Int.cast_ofNat_Int, if_pos, if_neg, decide_eq_false_iff_not, decide_eq_true_eq, in_ll, ii_long, Nat.zero_add, Nat.mul_zero, reduceCtorEq]
        · rintro z ⟨rfl, g2⟩
          exact absurd g2 hw
      obtain ⟨r, e, rfl⟩ := key
      unfold fX6_isWith fX6_isWith_0
      exact e
theorem M_with {τ : mm} {A : bdy} (hM : isM τ A) (hA : okb A) (hG : growP τ A) {x : Nat → Int} (hx : atM τ A x) (hr : ∀ l, l < A.n → -9223372036854775808 ≤ x l ∧ x l < 9223372036854775808) {k : Nat} (hk : k < (trA A).length) : (wth A x k ∧ lp (fX8_where_36_L (ii k) τ) (ii 1, ii 0) = some (.inr (ii k, τ))) ∨ (¬ wth A x k ∧ lp (fX8_where_36_L (ii k) τ) (ii 1, ii 0) = some (.inl (ii ((k + 1 : Nat))))) := by
  obtain ⟨q, hq⟩ : ∃ q, (trA A)[k]? = some q := ⟨_, List.getElem?_eq_getElem hk⟩
  have hn := hA.1
  have n1 := hM.2.1
  have qo := trA_ok hA hq
  have hlen := trA_len hA
  have lf := hG.2.2.2.2 k q hq
  rw [Nat.zero_add] at lf
  have m4 := lf.2.2.2
  have key : ∃ r, lp (fX8_where_36_L (ii k) τ) (ii 1, ii 0) = some r ∧ (((∀ l, l < A.n → q.1.1 l ≤ x l ∧ x l ≤ q.1.2 l) ∧ r = .inr (ii k, τ)) ∨ (¬ (∀ l, l < A.n → q.1.1 l ≤ x l ∧ x l ≤ q.1.2 l) ∧ r = .inl (ii ((k + 1 : Nat))))) := by
    refine lp_j (fun j z => z.2 = ii j ∧ ((z.1 = ii 1 ∧ ∀ l, l < j → q.1.1 l ≤ x l ∧ x l ≤ q.1.2 l) ∨ (z.1 = ii 0 ∧ ¬ ∀ l, l < j → q.1.1 l ≤ x l ∧ x l ≤ q.1.2 l))) _ A.n ⟨rfl, Or.inl ⟨rfl, fun l hl => by omega⟩⟩ ?_ ?_
    · rintro j ⟨a, b⟩ hj ⟨g1, g2⟩
      have g1 : b = ii j := g1
      subst g1
      rcases g2 with ⟨g2, g3⟩ | ⟨g2, g3⟩
      · have g2 : a = ii 1 := g2
        subst g2
        have x1 := hx j hj
        have x2 := hr j hj
        have hc := qo.1 j (by omega)
        obtain ⟨w1, w2⟩ := m4 j (by omega)
        have t1 : (11 * (k : Int) + 3 + 2 * (j : Int)).toNat = 11 * k + 3 + 2 * j := by omega
        have t2 : (11 * (k : Int) + 4 + 2 * (j : Int)).toNat = 11 * k + 4 + 2 * j := by omega
        by_cases q1 : q.1.1 j ≤ x j ∧ x j ≤ q.1.2 j
        · refine ⟨(ii 1, ii ((j + 1 : Nat))), ?_, rfl, Or.inl ⟨rfl, ?_⟩⟩
          · simp (disch := omega) only [fX8_where_36_L, fX8_where_36, fX8_where_101, fX8_where_102, n1, x1, t1, t2, w1, w2, if_true, if_false, Option.bind_some, Option.map_some, ii_lit, ll_lit, ii_neg, ll_neg, ii_add, ii_sub, ii_mul, ll_add, ll_sub, ll_mul, ii_le, ii_lt, ii_eq, ii_t, bi_0, bi_1, rd_z, wr_z, rr_z, rl_z, wl_z, tn_n, st_s, st_j, st_i, st_c, st_2, sl_s, sl_j, sl_i, sl_c, sl_1, Int.natCast_add, Int.cast_ofNat_Int, if_pos, if_neg, decide_eq_false_iff_not, decide_eq_true_eq, in_ll, ii_long, Nat.zero_add, Nat.mul_zero, reduceCtorEq]
          · intro l hl
            by_cases e : l = j
            · subst e
              exact q1
            · exact g3 l (by omega)
        · refine ⟨(ii 0, ii ((j + 1 : Nat))), ?_, rfl, Or.inr ⟨rfl, fun h => q1 (h j (by omega))⟩⟩
          simp (disch := omega) only [fX8_where_36_L, fX8_where_36, fX8_where_101, fX8_where_102, n1, x1, t1, t2, w1, w2, if_true, if_false, Option.bind_some, Option.map_some, ii_lit, ll_lit, ii_neg, ll_neg, ii_add, ii_sub, ii_mul, ll_add, ll_sub, ll_mul, ii_le, ii_lt, ii_eq, ii_t, bi_0, bi_1, rd_z, wr_z, rr_z, rl_z, wl_z, tn_n, st_s, st_j, st_i, st_c, st_2, sl_s, sl_j, sl_i, sl_c, sl_1, Int.natCast_add, Int.cast_ofNat_Int, if_pos, if_neg, decide_eq_false_iff_not, decide_eq_true_eq, in_ll, ii_long, Nat.zero_add, Nat.mul_zero, reduceCtorEq]
      · have g2 : a = ii 0 := g2
        subst g2
        refine ⟨(ii 0, ii ((j + 1 : Nat))), ?_, rfl, Or.inr ⟨rfl, fun h => g3 (fun l hl => h l (by omega))⟩⟩
        simp (disch := omega) only [fX8_where_36_L, fX8_where_36, fX8_where_101, fX8_where_102, n1, if_true, if_false, Option.bind_some, Option.map_some, ii_lit, ll_lit, ii_neg, ll_neg, ii_add, ii_sub, ii_mul, ll_add, ll_sub, ll_mul, ii_le, ii_lt, ii_eq, ii_t, bi_0, bi_1, rd_z, wr_z, rr_z, rl_z, wl_z, tn_n, st_s, st_j, st_i, st_c, st_2, sl_s, sl_j, sl_i, sl_c, sl_1, Int.natCast_add, Int.cast_ofNat_Int, if_pos, if_neg, decide_eq_false_iff_not, decide_eq_true_eq, in_ll, ii_long, Nat.zero_add, Nat.mul_zero, reduceCtorEq]
    · rintro ⟨a, b⟩ ⟨g1, g2⟩
      have g1 : b = ii A.n := g1
      subst g1
      rcases g2 with ⟨g2, g3⟩ | ⟨g2, g3⟩
      · have g2 : a = ii 1 := g2
        subst g2
        refine ⟨.inr (ii k, τ), ?_, Or.inl ⟨g3, rfl⟩⟩
        simp (disch := omega) only [fX8_where_36_L, fX8_where_36, n1, if_true, if_false, Option.bind_some, Option.map_some, ii_lit, ll_lit, ii_neg, ll_neg, ii_add, ii_sub, ii_mul, ll_add, ll_sub, ll_mul, ii_le, ii_lt, ii_eq, ii_t, bi_0, bi_1, rd_z, wr_z, rr_z, rl_z, wl_z, tn_n, st_s, st_j, st_i, st_c, st_2, sl_s, sl_j, sl_i, sl_c, sl_1, Int.natCast_add, Int.cast_ofNat_Int, if_pos, if_neg, decide_eq_false_iff_not, decide_eq_true_eq, in_ll, ii_long, Nat.zero_add, Nat.mul_zero, reduceCtorEq]
      · have g2 : a = ii 0 := g2
        subst g2
        refine ⟨.inl (ii ((k + 1 : Nat))), ?_, Or.inr ⟨g3, rfl⟩⟩
        simp (disch := omega) only [fX8_where_36_L, fX8_where_36, n1, if_true, if_false, Option.bind_some, Option.map_some, ii_lit, ll_lit, ii_neg, ll_neg, ii_add, ii_sub, ii_mul, ll_add, ll_sub, ll_mul, ii_le, ii_lt, ii_eq, ii_t, bi_0, bi_1, rd_z, wr_z, rr_z, rl_z, wl_z, tn_n, st_s, st_j, st_i, st_c, st_2, sl_s, sl_j, sl_i, sl_c, sl_1, Int.natCast_add, Int.cast_ofNat_Int, if_pos, if_neg, decide_eq_false_iff_not, decide_eq_true_eq, in_ll, ii_long, Nat.zero_add, Nat.mul_zero, reduceCtorEq]
  obtain ⟨r, e, ⟨h1, rfl⟩ | ⟨h1, rfl⟩⟩ := key
  · exact Or.inl ⟨⟨q, hq, h1⟩, e⟩
  · refine Or.inr ⟨fun ⟨q', h3, h4⟩ => ?_, e⟩
    rw [hq] at h3
    cases h3
    exact h1 h4
theorem m_where {σ τ : mm} (h : Rel σ τ) (s : Int32) : Ag (fX7_where s σ) (fX8_where s τ) := by
  obtain ⟨A, hR⟩ := h
  obtain ⟨⟨hC, hM, hA⟩, -⟩ := id hR
  obtain ⟨s, rfl, h1, h2⟩ := ii_ex s
  rcases trouble hR h1 h2 with ⟨e, he, t1, t2⟩ | ⟨s, x, τ1, rfl, hs, t1, t2, t3, t4, t5⟩
  · obtain ⟨σ', τ', e3, e4, hr⟩ := fnd hR he
    refine ⟨ii (-1000000001 - e), σ', τ', ?_, ?_, _, hr⟩
    · unfold fX7_where fX7_where_0
      simp (disch := omega) only [t1, e3, if_true, if_false, Option.bind_some, Option.map_some, ii_lit, ll_lit, ii_neg, ll_neg, ii_add, ii_sub, ii_mul, ll_add, ll_sub, ll_mul, ii_le, ii_lt, ii_eq, ii_t, bi_0, bi_1, rd_z, wr_z, rr_z, rl_z, wl_z, tn_n, st_s, st_j, st_i, st_c, st_2, sl_s, sl_j, sl_i, sl_c, sl_1, Int.natCast_add, Int.cast_ofNat_Int, if_pos, if_neg, decide_eq_false_iff_not, decide_eq_true_eq, in_ll, ii_long, Nat.zero_add, Nat.mul_zero, reduceCtorEq]
    · unfold fX8_where fX8_where_0
      simp (disch := omega) only [t2, e4, if_true, if_false, Option.bind_some, Option.map_some, ii_lit, ll_lit, ii_neg, ll_neg, ii_add, ii_sub, ii_mul, ll_add, ll_sub, ll_mul, ii_le, ii_lt, ii_eq, ii_t, bi_0, bi_1, rd_z, wr_z, rr_z, rl_z, wl_z, tn_n, st_s, st_j, st_i, st_c, st_2, sl_s, sl_j, sl_i, sl_c, sl_1, Int.natCast_add, Int.cast_ofNat_Int, if_pos, if_neg, decide_eq_false_iff_not, decide_eq_true_eq, in_ll, ii_long, Nat.zero_add, Nat.mul_zero, reduceCtorEq]
  · have hR1 := hR.m (t5.mono (by decide) (by decide))
    obtain ⟨σ1, e1, f1, f2⟩ := hR1.cells
    obtain ⟨τ2, e2, g1, g2, g3⟩ := f1.grows
    have hlen := trA_len hA
    have t4' : atM τ2 A x := fun l hl => by rw [g3.2.1 48 (by decide)]; exact t4 l hl
    have t3' : ∀ l, l < A.n → σ1.2 26 s l = ll (x l) ∧ (-9223372036854775808 ≤ x l ∧ x l < 9223372036854775808) := by
      obtain ⟨⟨hC', -, -⟩, -, ⟨-, -, c3, -, -⟩⟩ := f1
      obtain ⟨-, -, ⟨-, -, d3, -, -⟩⟩ := hR1
      intro l hl
      obtain ⟨b1, z1, -, -, -, -, -, -, q1⟩ := c3 s hs
      obtain ⟨b2, z2, -, -, -, -, -, -, q2⟩ := d3 s hs
      have := t3 l hl
      rw [q1 l (by have := hA.1; omega), ← q2 l (by have := hA.1; omega)]
      exact this
    have n1 := f1.1.1.2.1
    have u2 := g2.2.1
    have ci := fun k (hk : k < (trA A).length) => C_isWith f2 hA t3' hk
    have mi := fun k (hk : k < (trA A).length) => M_with g1.1.2.1 hA g2 t4' (fun l hl => (t3 l hl).2) hk
    have lc := f2.2.1
    by_cases hex : ∃ k, k < (trA A).length ∧ wth A x k
    · obtain ⟨k0, w1, w2, w3⟩ := least_ex hex
      have cw : ∃ r, lp (fX6_leafWith_2_L s (ii A.n) σ1) (ii 0) = some r ∧ r = ii k0 := by
        refine lp_i (fun k z => z = ii k ∧ k ≤ k0) _ (trA A).length ⟨rfl, by omega⟩ ?_ ?_
        · rintro k z hk ⟨rfl, hle⟩
          rcases ci k hk with ⟨p1, p2⟩ | ⟨p1, p2⟩
          · have : k = k0 := by
              rcases Nat.lt_or_ge k k0 with q | q
              · exact absurd p1 (w3 k q)
              · omega
            subst this
            right
            refine ⟨_, ?_, rfl⟩
            simp (disch := omega) only [fX6_leafWith_2_L, fX6_leafWith_2, lc, p2, if_true, if_false, Option.bind_some, Option.map_some, ii_lit, ll_lit, ii_neg, ll_neg, ii_add, ii_sub, ii_mul, ll_add, ll_sub, ll_mul, ii_le, ii_lt, ii_eq, ii_t, bi_0, bi_1, rd_z, wr_z, rr_z, rl_z, wl_z, tn_n, st_s, st_j, st_i, st_c, st_2, sl_s, sl_j, sl_i, sl_c, sl_1, Int.natCast_add, Int.cast_ofNat_Int, if_pos, if_neg, decide_eq_false_iff_not, decide_eq_true_eq, in_ll, ii_long, Nat.zero_add, Nat.mul_zero, reduceCtorEq]
          · left
            refine ⟨ii ((k + 1 : Nat)), ?_, rfl, ?_⟩
            · simp (disch := omega) only [fX6_leafWith_2_L, fX6_leafWith_2, lc, p2, if_true, if_false, Option.bind_some, Option.map_some, ii_lit, ll_lit, ii_neg, ll_neg, ii_add, ii_sub, ii_mul, ll_add, ll_sub, ll_mul, ii_le, ii_lt, ii_eq, ii_t, bi_0, bi_1, rd_z, wr_z, rr_z, rl_z, wl_z, tn_n, st_s, st_j, st_i, st_c, st_2, sl_s, sl_j, sl_i, sl_c, sl_1, Int.natCast_add, Int.cast_ofNat_Int, if_pos, if_neg, decide_eq_false_iff_not, decide_eq_true_eq, in_ll, ii_long, Nat.zero_add, Nat.mul_zero, reduceCtorEq]
            · by_cases e : k = k0
              · subst e
                exact absurd w2 p1
              · omega
        · rintro z ⟨rfl, hle⟩
          omega
      obtain ⟨r, cw, rfl⟩ := cw
      have mw : ∃ r, lp (fX8_where_22_L τ2) (ii 0) = some r ∧ r = (ii k0, τ2) := by
        refine lp_i (fun k z => z = ii k ∧ k ≤ k0) _ (trA A).length ⟨rfl, by omega⟩ ?_ ?_
        · rintro k z hk ⟨rfl, hle⟩
          rcases mi k hk with ⟨p1, p2⟩ | ⟨p1, p2⟩
          · have : k = k0 := by
              rcases Nat.lt_or_ge k k0 with q | q
              · exact absurd p1 (w3 k q)
              · omega
            subst this
            right
            refine ⟨_, ?_, rfl⟩
            simp (disch := omega) only [fX8_where_22_L, fX8_where_22, u2, p2, if_true, if_false, Option.bind_some, Option.map_some, ii_lit, ll_lit, ii_neg, ll_neg, ii_add, ii_sub, ii_mul, ll_add, ll_sub, ll_mul, ii_le, ii_lt, ii_eq, ii_t, bi_0, bi_1, rd_z, wr_z, rr_z, rl_z, wl_z, tn_n, st_s, st_j, st_i, st_c, st_2, sl_s, sl_j, sl_i, sl_c, sl_1, Int.natCast_add, Int.cast_ofNat_Int, if_pos, if_neg, decide_eq_false_iff_not, decide_eq_true_eq, in_ll, ii_long, Nat.zero_add, Nat.mul_zero, reduceCtorEq]
          · left
            refine ⟨ii ((k + 1 : Nat)), ?_, rfl, ?_⟩
            · simp (disch := omega) only [fX8_where_22_L, fX8_where_22, u2, p2, if_true, if_false, Option.bind_some, Option.map_some, ii_lit, ll_lit, ii_neg, ll_neg, ii_add, ii_sub, ii_mul, ll_add, ll_sub, ll_mul, ii_le, ii_lt, ii_eq, ii_t, bi_0, bi_1, rd_z, wr_z, rr_z, rl_z, wl_z, tn_n, st_s, st_j, st_i, st_c, st_2, sl_s, sl_j, sl_i, sl_c, sl_1, Int.natCast_add, Int.cast_ofNat_Int, if_pos, if_neg, decide_eq_false_iff_not, decide_eq_true_eq, in_ll, ii_long, Nat.zero_add, Nat.mul_zero, reduceCtorEq]
            · by_cases e : k = k0
              · subst e
                exact absurd w2 p1
              · omega
        · rintro z ⟨rfl, hle⟩
          omega
      obtain ⟨r, mw, rfl⟩ := mw
      have cw' : fX6_leafWith s (ii A.n) σ1 = some (ii k0) := cw
      refine ⟨ii k0, σ1, τ2, ?_, ?_, _, g1⟩
      · unfold fX7_where fX7_where_0
        simp (disch := omega) only [t1, e1, n1, cw', if_true, if_false, Option.bind_some, Option.map_some, ii_lit, ll_lit, ii_neg, ll_neg, ii_add, ii_sub, ii_mul, ll_add, ll_sub, ll_mul, ii_le, ii_lt, ii_eq, ii_t, bi_0, bi_1, rd_z, wr_z, rr_z, rl_z, wl_z, tn_n, st_s, st_j, st_i, st_c, st_2, sl_s, sl_j, sl_i, sl_c, sl_1, Int.natCast_add, Int.cast_ofNat_Int, if_pos, if_neg, decide_eq_false_iff_not, decide_eq_true_eq, in_ll, ii_long, Nat.zero_add, Nat.mul_zero, reduceCtorEq]
      · unfold fX8_where fX8_where_0
        simp (disch := omega) only [t2, e2, mw, if_true, if_false, Option.bind_some, Option.map_some, ii_lit, ll_lit, ii_neg, ll_neg, ii_add, ii_sub, ii_mul, ll_add, ll_sub, ll_mul, ii_le, ii_lt, ii_eq, ii_t, bi_0, bi_1, rd_z, wr_z, rr_z, rl_z, wl_z, tn_n, st_s, st_j, st_i, st_c, st_2, sl_s, sl_j, sl_i, sl_c, sl_1, Int.natCast_add, Int.cast_ofNat_Int, if_pos, if_neg, decide_eq_false_iff_not, decide_eq_true_eq, in_ll, ii_long, Nat.zero_add, Nat.mul_zero, reduceCtorEq]
    · have no : ∀ k, k < (trA A).length → ¬ wth A x k := fun k hk hw => hex ⟨k, hk, hw⟩
      obtain ⟨σ', τ', e3, e4, hr⟩ := fd3 g1
      have cw : lp (fX6_leafWith_2_L s (ii A.n) σ1) (ii 0) = some (ii (-1)) := by
        refine lp_f (fun k => ii k) (trA A).length rfl ?_ ?_
        · intro k hk
          rcases ci k hk with ⟨p1, p2⟩ | ⟨p1, p2⟩
          · exact absurd p1 (no k hk)
          · simp (disch := omega) only [fX6_leafWith_2_L, fX6_leafWith_2, lc, p2, if_true, if_false, Option.bind_some, Option.map_some, ii_lit, ll_lit, ii_neg, ll_neg, ii_add, ii_sub, ii_mul, ll_add, ll_sub, ll_mul, ii_le, ii_lt, ii_eq, ii_t, bi_0, bi_1, rd_z, wr_z, rr_z, rl_z, wl_z, tn_n, st_s, st_j, st_i, st_c, st_2, sl_s, sl_j, sl_i, sl_c, sl_1, Int.natCast_add, Int.cast_ofNat_Int, if_pos, if_neg, decide_eq_false_iff_not, decide_eq_true_eq, in_ll, ii_long, Nat.zero_add, Nat.mul_zero, reduceCtorEq]
        · simp (disch := omega) only [fX6_leafWith_2_L, fX6_leafWith_2, lc, if_true, if_false, Option.bind_some, Option.map_some, ii_lit, ll_lit, ii_neg, ll_neg, ii_add, ii_sub, ii_mul, ll_add, ll_sub, ll_mul, ii_le, ii_lt, ii_eq, ii_t, bi_0, bi_1, rd_z, wr_z, rr_z, rl_z, wl_z, tn_n, st_s, st_j, st_i, st_c, st_2, sl_s, sl_j, sl_i, sl_c, sl_1, Int.natCast_add, Int.cast_ofNat_Int, if_pos, if_neg, decide_eq_false_iff_not, decide_eq_true_eq, in_ll, ii_long, Nat.zero_add, Nat.mul_zero, reduceCtorEq]
      have mw : lp (fX8_where_22_L τ2) (ii 0) = some (ii (-1000000004), τ') := by
        refine lp_f (fun k => ii k) (trA A).length rfl ?_ ?_
        · intro k hk
          rcases mi k hk with ⟨p1, p2⟩ | ⟨p1, p2⟩
          · exact absurd p1 (no k hk)
          · simp (disch := omega) only [fX8_where_22_L, fX8_where_22, u2, p2, if_true, if_false, Option.bind_some, Option.map_some, ii_lit, ll_lit, ii_neg, ll_neg, ii_add, ii_sub, ii_mul, ll_add, ll_sub, ll_mul, ii_le, ii_lt, ii_eq, ii_t, bi_0, bi_1, rd_z, wr_z, rr_z, rl_z, wl_z, tn_n, st_s, st_j, st_i, st_c, st_2, sl_s, sl_j, sl_i, sl_c, sl_1, Int.natCast_add, Int.cast_ofNat_Int, if_pos, if_neg, decide_eq_false_iff_not, decide_eq_true_eq, in_ll, ii_long, Nat.zero_add, Nat.mul_zero, reduceCtorEq]
        · simp (disch := omega) only [fX8_where_22_L, fX8_where_22, u2, e4, if_true, if_false, Option.bind_some, Option.map_some, ii_lit, ll_lit, ii_neg, ll_neg, ii_add, ii_sub, ii_mul, ll_add, ll_sub, ll_mul, ii_le, ii_lt, ii_eq, ii_t, bi_0, bi_1, rd_z, wr_z, rr_z, rl_z, wl_z, tn_n, st_s, st_j, st_i, st_c, st_2, sl_s, sl_j, sl_i, sl_c, sl_1, Int.natCast_add, Int.cast_ofNat_Int, if_pos, if_neg, decide_eq_false_iff_not, decide_eq_true_eq, in_ll, ii_long, Nat.zero_add, Nat.mul_zero, reduceCtorEq]
      have cw' : fX6_leafWith s (ii A.n) σ1 = some (ii (-1)) := cw
      refine ⟨ii (-1000000004), σ', τ', ?_, ?_, _, hr⟩
      · unfold fX7_where fX7_where_0
        simp (disch := omega) only [t1, e1, n1, cw', e3, if_true, if_false, Option.bind_some, Option.map_some, ii_lit, ll_lit, ii_neg, ll_neg, ii_add, ii_sub, ii_mul, ll_add, ll_sub, ll_mul, ii_le, ii_lt, ii_eq, ii_t, bi_0, bi_1, rd_z, wr_z, rr_z, rl_z, wl_z, tn_n, st_s, st_j, st_i, st_c, st_2, sl_s, sl_j, sl_i, sl_c, sl_1, Int.natCast_add, Int.cast_ofNat_Int, if_pos, if_neg, decide_eq_false_iff_not, decide_eq_true_eq, in_ll, ii_long, Nat.zero_add, Nat.mul_zero, reduceCtorEq]
      · unfold fX8_where fX8_where_0
        simp (disch := omega) only [t2, e2, mw, if_true, if_false, Option.bind_some, Option.map_some, ii_lit, ll_lit, ii_neg, ll_neg, ii_add, ii_sub, ii_mul, ll_add, ll_sub, ll_mul, ii_le, ii_lt, ii_eq, ii_t, bi_0, bi_1, rd_z, wr_z, rr_z, rl_z, wl_z, tn_n, st_s, st_j, st_i, st_c, st_2, sl_s, sl_j, sl_i, sl_c, sl_1, Int.natCast_add, Int.cast_ofNat_Int, if_pos, if_neg, decide_eq_false_iff_not, decide_eq_true_eq, in_ll, ii_long, Nat.zero_add, Nat.mul_zero, reduceCtorEq]
