-- judge
def pfv (n : Nat) (q : bx × Int) : Int := if q.2 < 0 then pcl n q.1 else -pcl n q.1
theorem pcl_r {A : bdy} (hA : okb A) {c : bx} (hc : okc c) : 1 ≤ pcl A.n c ∧ pcl A.n c ≤ 130321 := by
  have hn := hA.1
  refine ⟨pcl_pos hA hc, ?_⟩
  have h4 := prf_le (f := fun l => c.2 l - c.1 l + 1) (n := A.n) (B := 19) (fun k hk => by
    have := hc k (by omega)
    show 1 ≤ c.2 k - c.1 k + 1 ∧ c.2 k - c.1 k + 1 ≤ (19 : Nat)
    omega)
  have h5 : (19 : Nat) ^ A.n ≤ 19 ^ 4 := Nat.pow_le_pow_right (by decide) hn.2
  unfold pcl
  omega
theorem m_judge {σ τ : mm} (h : Rel σ τ) (s : Int32) : Ag (fX7_judge s σ) (fX8_judge s τ) := by
  obtain ⟨A, hR⟩ := h
  obtain ⟨⟨hC, hM, hA⟩, -⟩ := id hR
  obtain ⟨s, rfl, h1, h2⟩ := ii_ex s
  have k2 := M_isSheet h1 h2
  have hlen := trA_len hA
  by_cases hs : 0 ≤ s ∧ s < 4
  · obtain ⟨s, rfl⟩ : ∃ k : Nat, s = k := ⟨s.toNat, by omega⟩
    obtain ⟨bits, size, p1, p2, p3, p4, p5, p6, p7⟩ := hR.2.2.2.2.1 s (by omega)
    have k1 := C_sheetTrouble hR.2.2.2.2.1 (s := s) (by omega) p3 (by omega)
    by_cases q : bits = 0
    · obtain ⟨σ', τ', e3, e4, hr⟩ := fd5 hR
      refine ⟨ii (-1000000006), σ', τ', ?_, ?_, _, hr⟩
      · unfold fX7_judge fX7_judge_0
        simp (disch := omega) only [k1, e3, if_true, if_false, Option.bind_some, Option.map_some, ii_lit, ll_lit, ii_neg, ll_neg, ii_add, ii_sub, ii_mul, ll_add, ll_sub, ll_mul, ii_le, ii_lt, ii_eq, ii_t, bi_0, bi_1, rd_z, wr_z, rr_z, rl_z, wl_z, tn_n, st_s, st_j, st_i, st_c, st_2, sl_s, sl_j, sl_i, sl_c, sl_1, Int.natCast_add, Int.cast_ofNat_Int, if_pos, if_neg, decide_eq_false_iff_not, decide_eq_true_eq, in_ll, ii_long, Nat.zero_add, Nat.mul_zero, reduceCtorEq]
      · unfold fX8_judge fX8_judge_0
        simp (disch := omega) only [k2, p4, e4, if_true, if_false, Option.bind_some, Option.map_some, ii_lit, ll_lit, ii_neg, ll_neg, ii_add, ii_sub, ii_mul, ll_add, ll_sub, ll_mul, ii_le, ii_lt, ii_eq, ii_t, bi_0, bi_1, rd_z, wr_z, rr_z, rl_z, wl_z, tn_n, st_s, st_j, st_i, st_c, st_2, sl_s, sl_j, sl_i, sl_c, sl_1, Int.natCast_add, Int.cast_ofNat_Int, if_pos, if_neg, decide_eq_false_iff_not, decide_eq_true_eq, in_ll, ii_long, Nat.zero_add, Nat.mul_zero, reduceCtorEq]
    · obtain ⟨σ1, e1, f1, f2⟩ := hR.cells
      obtain ⟨τ1, e2, g1, g2, g3⟩ := f1.grows
      obtain ⟨bits', size', u1, u2, u3, u4, u5, u6, u7⟩ := g1.2.2.2.2.1 s (by omega)
      have u6' : size' = size := by
        have : (ii size').toInt = (ii size).toInt := by rw [← u6, ← p6, g3.1 76 (by decide) (by decide)]
        rw [ii_t (by omega) (by omega), ii_t (by omega) (by omega)] at this
        exact this
      subst u6'
      obtain ⟨size, rfl⟩ : ∃ k : Nat, size' = k := ⟨size'.toNat, by omega⟩
      have lc := f2.2.1
      have uc := g2.2.1
      have n1 := f1.1.1.2.1
      obtain ⟨m, hm⟩ : ∃ m : Nat, m = if (trA A).length < size then (trA A).length else size := ⟨_, rfl⟩
      have hm2 : m ≤ size ∧ m ≤ (trA A).length ∧ (m = size ∨ m = (trA A).length) := by
        rw [hm]
        split <;> omega
      have hx : ∀ i, σ1.2 26 s i = ll (σ1.2 26 s i).toInt := fun i => (ll_of _).symm
      have hxr : ∀ i, -9223372036854775808 ≤ (σ1.2 26 s i).toInt ∧ (σ1.2 26 s i).toInt < 9223372036854775808 := fun i => by
        have a1 := (σ1.2 26 s i).le_toInt
        have a2 := (σ1.2 26 s i).toInt_lt
        omega
      have ok : ∀ k, k < m → ∃ q, (trA A)[k]? = some q := fun k hk => ⟨_, List.getElem?_eq_getElem (show k < (trA A).length by omega)⟩
      have pf : ∀ (k : Nat) q, (trA A)[k]? = some q → fX6_proofOf (ii k) (ii A.n) σ1 = some (ii (pfv A.n q)) := by
        intro k q hq
        have d1 := C_deadRow f2 hA hq
        have d2 := C_pointsIn f2 hA hq
        have qo := trA_ok hA hq
        unfold fX6_proofOf fX6_proofOf_0 pfv
        by_cases q0 : q.2 < 0
        · simp (disch := omega) only [d1, d2, if_true, if_false, Option.bind_some, Option.map_some, ii_lit, ll_lit, ii_neg, ll_neg, ii_add, ii_sub, ii_mul, ll_add, ll_sub, ll_mul, ii_le, ii_lt, ii_eq, ii_t, bi_0, bi_1, rd_z, wr_z, rr_z, rl_z, wl_z, tn_n, st_s, st_j, st_i, st_c, st_2, sl_s, sl_j, sl_i, sl_c, sl_1, Int.natCast_add, Int.cast_ofNat_Int, if_pos, if_neg, decide_eq_false_iff_not, decide_eq_true_eq, in_ll, ii_long, Nat.zero_add, Nat.mul_zero, reduceCtorEq]
        · simp (disch := omega) only [d1, d2, if_true, if_false, Option.bind_some, Option.map_some, ii_lit, ll_lit, ii_neg, ll_neg, ii_add, ii_sub, ii_mul, ll_add, ll_sub, ll_mul, ii_le, ii_lt, ii_eq, ii_t, bi_0, bi_1, rd_z, wr_z, rr_z, rl_z, wl_z, tn_n, st_s, st_j, st_i, st_c, st_2, sl_s, sl_j, sl_i, sl_c, sl_1, Int.natCast_add, Int.cast_ofNat_Int, if_pos, if_neg, decide_eq_false_iff_not, decide_eq_true_eq, in_ll, ii_long, Nat.zero_add, Nat.mul_zero, reduceCtorEq]
      have cstep : ∀ k, k < m → ∀ q, (trA A)[k]? = some q → ((σ1.2 26 s k).toInt = pfv A.n q → fX7_judge_54_L s (ii m) σ1 (ii k) = some (.inl (ii ((k + 1 : Nat))))) ∧ ((σ1.2 26 s k).toInt ≠ pfv A.n q → fX7_judge_54_L s (ii m) σ1 (ii k) = some (.inr (ii (1 + (k : Int)), σ1))) := by
        intro k hk q hq
        have e5 := pf k q hq
        have qo := trA_ok hA hq
        have pr := pcl_r hA qo.1
        have pv : -130321 ≤ pfv A.n q ∧ pfv A.n q ≤ 130321 := by
          unfold pfv
          split <;> omega
        have xr := hxr k
        have xe := hx k
        generalize (σ1.2 26 s k).toInt = X at *
        refine ⟨fun e => ?_, fun e => ?_⟩
        · simp (disch := omega) only [fX7_judge_54_L, fX7_judge_54, xe, n1, e5, cmp_eq0, if_true, if_false, Option.bind_some, Option.map_some, ii_lit, ll_lit, ii_neg, ll_neg, ii_add, ii_sub, ii_mul, ll_add, ll_sub, ll_mul, ii_le, ii_lt, ii_eq, ii_t, bi_0, bi_1, rd_z, wr_z, rr_z, rl_z, wl_z, tn_n, st_s, st_j, st_i, st_c, st_2, sl_s, sl_j, sl_i, sl_c, sl_1, Int.natCast_add, Int.cast_ofNat_Int, if_pos, if_neg, decide_eq_false_iff_not, decide_eq_true_eq, in_ll, ii_long, Nat.zero_add, Nat.mul_zero, reduceCtorEq]
        · simp (disch := omega) only [fX7_judge_54_L, fX7_judge_54, xe, n1, e5, cmp_eq0, if_true, if_false, Option.bind_some, Option.map_some, ii_lit, ll_lit, ii_neg, ll_neg, ii_add, ii_sub, ii_mul, ll_add, ll_sub, ll_mul, ii_le, ii_lt, ii_eq, ii_t, bi_0, bi_1, rd_z, wr_z, rr_z, rl_z, wl_z, tn_n, st_s, st_j, st_i, st_c, st_2, sl_s, sl_j, sl_i, sl_c, sl_1, Int.natCast_add, Int.cast_ofNat_Int, if_pos, if_neg, decide_eq_false_iff_not, decide_eq_true_eq, in_ll, ii_long, Nat.zero_add, Nat.mul_zero, reduceCtorEq]
      have mstep : ∀ k, k < m → ∀ q, (trA A)[k]? = some q → ((σ1.2 26 s k).toInt = pfv A.n q → fX8_judge_36_L (ii s) τ1 (ii k) = some (.inl (ii ((k + 1 : Nat))))) ∧ ((σ1.2 26 s k).toInt ≠ pfv A.n q → fX8_judge_36_L (ii s) τ1 (ii k) = some (.inr (ii (1 + (k : Int)), τ1))) := by
        intro k hk q hq
        have lf := g2.2.2.2.2 k q hq
        rw [Nat.zero_add] at lf
        obtain ⟨m1, m2, m3, -⟩ := lf
        have qo := trA_ok hA hq
        have pr := pcl_r hA qo.1
        have xr := hxr k
        have xe : τ1.2 77 0 (40 * s + k) = ll (σ1.2 26 s k).toInt := by rw [← u7 k (by omega)]; exact hx k
        have t1 : (40 * (s : Int) + (k : Int)).toNat = 40 * s + k := by omega
        have t2 : (11 * (k : Int)).toNat = 11 * k := by omega
        have t3 : (11 * (k : Int) + 1).toNat = 11 * k + 1 := by omega
        generalize (σ1.2 26 s k).toInt = X at *
        unfold pfv
        by_cases q0 : q.2 < 0
        · rw [if_pos q0] at m1 ⊢
          refine ⟨fun e => ?_, fun e => ?_⟩
          · simp (disch := omega) only [fX8_judge_36_L, fX8_judge_36, fX8_judge_104, uc, u6, t1, t2, t3, xe, m1, m2, cmp_eq0, if_true, if_false, Option.bind_some, Option.map_some, ii_lit, ll_lit, ii_neg, ll_neg, ii_add, ii_sub, ii_mul, ll_add, ll_sub, ll_mul, ii_le, ii_lt, ii_eq, ii_t, bi_0, bi_1, rd_z, wr_z, rr_z, rl_z, wl_z, tn_n, st_s, st_j, st_i, st_c, st_2, sl_s, sl_j, sl_i, sl_c, sl_1, Int.natCast_add, Int.cast_ofNat_Int, if_pos, if_neg, decide_eq_false_iff_not, decide_eq_true_eq, in_ll, ii_long, Nat.zero_add, Nat.mul_zero, reduceCtorEq]
          · simp (disch := omega) only [fX8_judge_36_L, fX8_judge_36, fX8_judge_104, fX8_judge_115, fX8_judge_137, uc, u6, t1, t2, t3, xe, m1, m2, cmp_eq0, if_true, if_false, Option.bind_some, Option.map_some, ii_lit, ll_lit, ii_neg, ll_neg, ii_add, ii_sub, ii_mul, ll_add, ll_sub, ll_mul, ii_le, ii_lt, ii_eq, ii_t, bi_0, bi_1, rd_z, wr_z, rr_z, rl_z, wl_z, tn_n, st_s, st_j, st_i, st_c, st_2, sl_s, sl_j, sl_i, sl_c, sl_1, Int.natCast_add, Int.cast_ofNat_Int, if_pos, if_neg, decide_eq_false_iff_not, decide_eq_true_eq, in_ll, ii_long, Nat.zero_add, Nat.mul_zero, reduceCtorEq]
        · rw [if_neg q0] at m1 ⊢
          refine ⟨fun e => ?_, fun e => ?_⟩
          · simp (disch := omega) only [fX8_judge_36_L, fX8_judge_36, fX8_judge_104, uc, u6, t1, t2, t3, xe, m1, m2, cmp_eq0, if_true, if_false, Option.bind_some, Option.map_some, ii_lit, ll_lit, ii_neg, ll_neg, ii_add, ii_sub, ii_mul, ll_add, ll_sub, ll_mul, ii_le, ii_lt, ii_eq, ii_t, bi_0, bi_1, rd_z, wr_z, rr_z, rl_z, wl_z, tn_n, st_s, st_j, st_i, st_c, st_2, sl_s, sl_j, sl_i, sl_c, sl_1, Int.natCast_add, Int.cast_ofNat_Int, if_pos, if_neg, decide_eq_false_iff_not, decide_eq_true_eq, in_ll, ii_long, Nat.zero_add, Nat.mul_zero, reduceCtorEq]
          · simp (disch := omega) only [fX8_judge_36_L, fX8_judge_36, fX8_judge_104, fX8_judge_115, fX8_judge_137, uc, u6, t1, t2, t3, xe, m1, m2, cmp_eq0, if_true, if_false, Option.bind_some, Option.map_some, ii_lit, ll_lit, ii_neg, ll_neg, ii_add, ii_sub, ii_mul, ll_add, ll_sub, ll_mul, ii_le, ii_lt, ii_eq, ii_t, bi_0, bi_1, rd_z, wr_z, rr_z, rl_z, wl_z, tn_n, st_s, st_j, st_i, st_c, st_2, sl_s, sl_j, sl_i, sl_c, sl_1, Int.natCast_add, Int.cast_ofNat_Int, if_pos, if_neg, decide_eq_false_iff_not, decide_eq_true_eq, in_ll, ii_long, Nat.zero_add, Nat.mul_zero, reduceCtorEq]
      have mn2 : fJ9_min_7cf53 (ii (size : Nat)) (ii ((trA A).length : Nat)) = ii (m : Nat) := by
        rw [min_ii (by omega) (by omega) (by omega) (by omega), hm]
        congr 1
        split <;> split <;> omega
      by_cases hex : ∃ k, k < m ∧ ∃ q, (trA A)[k]? = some q ∧ (σ1.2 26 s k).toInt ≠ pfv A.n q
      · obtain ⟨k0, w1, ⟨q, w2, w3⟩, w4⟩ := least_ex hex
        have cw : ∃ r, lp (fX7_judge_54_L s (ii m) σ1) (ii 0) = some r ∧ r = (ii (1 + (k0 : Int)), σ1) := by
          refine lp_i (fun k z => z = ii k ∧ k ≤ k0) _ m ⟨rfl, by omega⟩ ?_ ?_
          · rintro k z hk ⟨rfl, hle⟩
            by_cases e : k = k0
            · subst e
              exact Or.inr ⟨_, (cstep k hk q w2).2 w3, rfl⟩
            · obtain ⟨q', hq'⟩ := ok k hk
              have : (σ1.2 26 s k).toInt = pfv A.n q' := by
                rcases Int.decEq (σ1.2 26 s k).toInt (pfv A.n q') with d | d
                · exact absurd ⟨q', hq', d⟩ (w4 k (by omega))
                · exact d
              exact Or.inl ⟨_, (cstep k hk q' hq').1 this, rfl, by omega⟩
          · rintro z ⟨rfl, hle⟩
            omega
        have mw : ∃ r, lp (fX8_judge_36_L (ii s) τ1) (ii 0) = some r ∧ r = (ii (1 + (k0 : Int)), τ1) := by
          refine lp_i (fun k z => z = ii k ∧ k ≤ k0) _ m ⟨rfl, by omega⟩ ?_ ?_
          · rintro k z hk ⟨rfl, hle⟩
            by_cases e : k = k0
            · subst e
              exact Or.inr ⟨_, (mstep k hk q w2).2 w3, rfl⟩
            · obtain ⟨q', hq'⟩ := ok k hk
              have : (σ1.2 26 s k).toInt = pfv A.n q' := by
                rcases Int.decEq (σ1.2 26 s k).toInt (pfv A.n q') with d | d
                · exact absurd ⟨q', hq', d⟩ (w4 k (by omega))
                · exact d
              exact Or.inl ⟨_, (mstep k hk q' hq').1 this, rfl, by omega⟩
          · rintro z ⟨rfl, hle⟩
            omega
        obtain ⟨r, cw, rfl⟩ := cw
        obtain ⟨r, mw, rfl⟩ := mw
        refine ⟨ii (1 + (k0 : Int)), σ1, τ1, ?_, ?_, _, g1⟩
        · unfold fX7_judge fX7_judge_0
          simp (disch := omega) only [k1, e1, u5, lc, mn2, cw, if_true, if_false, Option.bind_some, Option.map_some, ii_lit, ll_lit, ii_neg, ll_neg, ii_add, ii_sub, ii_mul, ll_add, ll_sub, ll_mul, ii_le, ii_lt, ii_eq, ii_t, bi_0, bi_1, rd_z, wr_z, rr_z, rl_z, wl_z, tn_n, st_s, st_j, st_i, st_c, st_2, sl_s, sl_j, sl_i, sl_c, sl_1, Int.natCast_add, Int.cast_ofNat_Int, if_pos, if_neg, decide_eq_false_iff_not, decide_eq_true_eq, in_ll, ii_long, Nat.zero_add, Nat.mul_zero, reduceCtorEq]
        · unfold fX8_judge fX8_judge_0
          simp (disch := omega) only [k2, p4, e2, mw, if_true, if_false, Option.bind_some, Option.map_some, ii_lit, ll_lit, ii_neg, ll_neg, ii_add, ii_sub, ii_mul, ll_add, ll_sub, ll_mul, ii_le, ii_lt, ii_eq, ii_t, bi_0, bi_1, rd_z, wr_z, rr_z, rl_z, wl_z, tn_n, st_s, st_j, st_i, st_c, st_2, sl_s, sl_j, sl_i, sl_c, sl_1, Int.natCast_add, Int.cast_ofNat_Int, if_pos, if_neg, decide_eq_false_iff_not, decide_eq_true_eq, in_ll, ii_long, Nat.zero_add, Nat.mul_zero, reduceCtorEq]
      · have all : ∀ k, k < m → ∀ q, (trA A)[k]? = some q → (σ1.2 26 s k).toInt = pfv A.n q := by
          intro k hk q hq
          rcases Int.decEq (σ1.2 26 s k).toInt (pfv A.n q) with d | d
          · exact absurd ⟨k, hk, q, hq, d⟩ hex
          · exact d
        have cw : lp (fX7_judge_54_L s (ii m) σ1) (ii 0) = some (ii (if size = (trA A).length then 0 else 1 + (m : Int)), σ1) := by
          refine lp_f (fun k => ii k) m rfl ?_ ?_
          · intro k hk
            obtain ⟨q', hq'⟩ := ok k hk
            exact (cstep k hk q' hq').1 (all k hk q' hq')
          · by_cases q3 : size = (trA A).length
            · simp (disch := omega) only [fX7_judge_54_L, fX7_judge_54, u5, lc, if_true, if_false, Option.bind_some, Option.map_some, ii_lit, ll_lit, ii_neg, ll_neg, ii_add, ii_sub, ii_mul, ll_add, ll_sub, ll_mul, ii_le, ii_lt, ii_eq, ii_t, bi_0, bi_1, rd_z, wr_z, rr_z, rl_z, wl_z, tn_n, st_s, st_j, st_i, st_c, st_2, sl_s, sl_j, sl_i, sl_c, sl_1, Int.natCast_add, Int.cast_ofNat_Int, if_pos, if_neg, decide_eq_false_iff_not, decide_eq_true_eq, in_ll, ii_long, Nat.zero_add, Nat.mul_zero, reduceCtorEq]
            · simp (disch := omega) only [fX7_judge_54_L, fX7_judge_54, u5, lc, if_true, if_false, Option.bind_some, Option.map_some, ii_lit, ll_lit, ii_neg, ll_neg, ii_add, ii_sub, ii_mul, ll_add, ll_sub, ll_mul, ii_le, ii_lt, ii_eq, ii_t, bi_0, bi_1, rd_z, wr_z, rr_z, rl_z, wl_z, tn_n, st_s, st_j, st_i, st_c, st_2, sl_s, sl_j, sl_i, sl_c, sl_1, Int.natCast_add, Int.cast_ofNat_Int, if_pos, if_neg, decide_eq_false_iff_not, decide_eq_true_eq, in_ll, ii_long, Nat.zero_add, Nat.mul_zero, reduceCtorEq]
        have mw : lp (fX8_judge_36_L (ii s) τ1) (ii 0) = some (ii (if size = (trA A).length then 0 else 1 + (m : Int)), τ1) := by
          refine lp_f (fun k => ii k) m rfl ?_ ?_
          · intro k hk
            obtain ⟨q', hq'⟩ := ok k hk
            exact (mstep k hk q' hq').1 (all k hk q' hq')
          · have e115 : fX8_judge_115 (ii s) (ii (m : Nat)) τ1 = some (ii (if size = (trA A).length then 0 else 1 + (m : Int)), τ1) := by
              unfold fX8_judge_115 fX8_judge_137
              by_cases q3 : size = (trA A).length
              · simp (disch := omega) only [uc, u6, if_true, if_false, Option.bind_some, Option.map_some, ii_lit, ll_lit, ii_neg, ll_neg, ii_add, ii_sub, ii_mul, ll_add, ll_sub, ll_mul, ii_le, ii_lt, ii_eq, ii_t, bi_0, bi_1, rd_z, wr_z, rr_z, rl_z, wl_z, tn_n, st_s, st_j, st_i, st_c, st_2, sl_s, sl_j, sl_i, sl_c, sl_1, Int.natCast_add, Int.cast_ofNat_Int, if_pos, if_neg, decide_eq_false_iff_not, decide_eq_true_eq, in_ll, ii_long, Nat.zero_add, Nat.mul_zero, reduceCtorEq]
              · by_cases q4 : m = (trA A).length
                · simp (disch := omega) only [uc, u6, if_true, if_false, Option.bind_some, Option.map_some, ii_lit, ll_lit, ii_neg, ll_neg, ii_add, ii_sub, ii_mul, ll_add, ll_sub, ll_mul, ii_le, ii_lt, ii_eq, ii_t, bi_0, bi_1, rd_z, wr_z, rr_z, rl_z, wl_z, tn_n, st_s, st_j, st_i, st_c, st_2, sl_s, sl_j, sl_i, sl_c, sl_1, Int.natCast_add, Int.cast_ofNat_Int, if_pos, if_neg, decide_eq_false_iff_not, decide_eq_true_eq, in_ll, ii_long, Nat.zero_add, Nat.mul_zero, reduceCtorEq]
                · simp (disch := omega) only [uc, u6, if_true, if_false, Option.bind_some, Option.map_some, ii_lit, ll_lit, ii_neg, ll_neg, ii_add, ii_sub, ii_mul, ll_add, ll_sub, ll_mul, ii_le, ii_lt, ii_eq, ii_t, bi_0, bi_1, rd_z, wr_z, rr_z, rl_z, wl_z, tn_n, st_s, st_j, st_i, st_c, st_2, sl_s, sl_j, sl_i, sl_c, sl_1, Int.natCast_add, Int.cast_ofNat_Int, if_pos, if_neg, decide_eq_false_iff_not, decide_eq_true_eq, in_ll, ii_long, Nat.zero_add, Nat.mul_zero, reduceCtorEq]
            by_cases q4 : m = (trA A).length
            · simp (disch := omega) only [fX8_judge_36_L, fX8_judge_36, uc, u6, e115, if_true, if_false, Option.bind_some, Option.map_some, ii_lit, ll_lit, ii_neg, ll_neg, ii_add, ii_sub, ii_mul, ll_add, ll_sub, ll_mul, ii_le, ii_lt, ii_eq, ii_t, bi_0, bi_1, rd_z, wr_z, rr_z, rl_z, wl_z, tn_n, st_s, st_j, st_i, st_c, st_2, sl_s, sl_j, sl_i, sl_c, sl_1, Int.natCast_add, Int.cast_ofNat_Int, if_pos, if_neg, decide_eq_false_iff_not, decide_eq_true_eq, in_ll, ii_long, Nat.zero_add, Nat.mul_zero, reduceCtorEq]
            · simp (disch := omega) only [fX8_judge_36_L, fX8_judge_36, uc, u6, e115, if_true, if_false, Option.bind_some, Option.map_some, ii_lit, ll_lit, ii_neg, ll_neg, ii_add, ii_sub, ii_mul, ll_add, ll_sub, ll_mul, ii_le, ii_lt, ii_eq, ii_t, bi_0, bi_1, rd_z, wr_z, rr_z, rl_z, wl_z, tn_n, st_s, st_j, st_i, st_c, st_2, sl_s, sl_j, sl_i, sl_c, sl_1, Int.natCast_add, Int.cast_ofNat_Int, if_pos, if_neg, decide_eq_false_iff_not, decide_eq_true_eq, in_ll, ii_long, Nat.zero_add, Nat.mul_zero, reduceCtorEq]
        refine ⟨ii (if size = (trA A).length then 0 else 1 + (m : Int)), σ1, τ1, ?_, ?_, _, g1⟩
        · unfold fX7_judge fX7_judge_0
          simp (disch := omega) only [k1, e1, u5, lc, mn2, cw, if_true, if_false, Option.bind_some, Option.map_some, ii_lit, ll_lit, ii_neg, ll_neg, ii_add, ii_sub, ii_mul, ll_add, ll_sub, ll_mul, ii_le, ii_lt, ii_eq, ii_t, bi_0, bi_1, rd_z, wr_z, rr_z, rl_z, wl_z, tn_n, st_s, st_j, st_i, st_c, st_2, sl_s, sl_j, sl_i, sl_c, sl_1, Int.natCast_add, Int.cast_ofNat_Int, if_pos, if_neg, decide_eq_false_iff_not, decide_eq_true_eq, in_ll, ii_long, Nat.zero_add, Nat.mul_zero, reduceCtorEq]
        · unfold fX8_judge fX8_judge_0
          simp (disch := omega) only [k2, p4, e2, mw, if_true, if_false, Option.bind_some, Option.map_some, ii_lit, ll_lit, ii_neg, ll_neg, ii_add, ii_sub, ii_mul, ll_add, ll_sub, ll_mul, ii_le, ii_lt, ii_eq, ii_t, bi_0, bi_1, rd_z, wr_z, rr_z, rl_z, wl_z, tn_n, st_s, st_j, st_i, st_c, st_2, sl_s, sl_j, sl_i, sl_c, sl_1, Int.natCast_add, Int.cast_ofNat_Int, if_pos, if_neg, decide_eq_false_iff_not, decide_eq_true_eq, in_ll, ii_long, Nat.zero_add, Nat.mul_zero, reduceCtorEq]
  · obtain ⟨σ', τ', e3, e4, hr⟩ := fd0 hR
    refine ⟨ii (-1000000001), σ', τ', ?_, ?_, _, hr⟩
    · unfold fX7_judge fX7_judge_0
      simp (disch := omega) only [C_sheetTroubleN h1 h2 hs, e3, if_true, if_false, Option.bind_some, Option.map_some, ii_lit, ll_lit, ii_neg, ll_neg, ii_add, ii_sub, ii_mul, ll_add, ll_sub, ll_mul, ii_le, ii_lt, ii_eq, ii_t, bi_0, bi_1, rd_z, wr_z, rr_z, rl_z, wl_z, tn_n, st_s, st_j, st_i, st_c, st_2, sl_s, sl_j, sl_i, sl_c, sl_1, Int.natCast_add, Int.cast_ofNat_Int, if_pos, if_neg, decide_eq_false_iff_not, decide_eq_true_eq, in_ll, ii_long, Nat.zero_add, Nat.mul_zero, reduceCtorEq]
    · unfold fX8_judge fX8_judge_0
      simp (disch := omega) only [k2, e4, if_true, if_false, Option.bind_some, Option.map_some, ii_lit, ll_lit, ii_neg, ll_neg, ii_add, ii_sub, ii_mul, ll_add, ll_sub, ll_mul, ii_le, ii_lt, ii_eq, ii_t, bi_0, bi_1, rd_z, wr_z, rr_z, rl_z, wl_z, tn_n, st_s, st_j, st_i, st_c, st_2, sl_s, sl_j, sl_i, sl_c, sl_1, Int.natCast_add, Int.cast_ofNat_Int, if_pos, if_neg, decide_eq_false_iff_not, decide_eq_true_eq, in_ll, ii_long, Nat.zero_add, Nat.mul_zero, reduceCtorEq]
