-- lays, mean
theorem both_in {σ τ : mm} {A : bdy} (hR : RelA σ τ A) (hc : cloudP σ A) {a : Int} (h1 : -2147483648 ≤ a) (h2 : a < 2147483648) : (∃ (p : Nat) (τ' : mm), p < np A ∧ inP A p = true ∧ fX1_placeOf (ii a) σ = some (ii p) ∧ fX8_isIn (ii a) τ = some (true, τ') ∧ RelA σ τ' A ∧ lookP τ' A ∧ atM τ' A (pt A p)) ∨ (∃ τ', fX1_placeOf (ii a) σ = some (ii (-1)) ∧ fX8_isIn (ii a) τ = some (false, τ') ∧ RelA σ τ' A) := by
  have hA := hR.1.2.2
  rcases C_placeOf hc hA h1 h2 with ⟨p, q1, q2, q3, q4⟩ | ⟨q1, q2⟩
  · rcases M_isIn hR h1 h2 with ⟨p', τ1, w1, w2, w3, w4, w5, w6, w7⟩ | ⟨τ1, w1, w2, w3, w4⟩
    · have hpp : p' = p := cnf_uq w2 q2 (by omega)
      subst hpp
      exact Or.inl ⟨p', τ1, q1, q2, q4, w4, w5, w6, w7⟩
    · have := cnf_mono (inP A) (show p + 1 ≤ np A by omega)
      rw [cnf_yes q2] at this
      omega
  · rcases M_isIn hR h1 h2 with ⟨p', τ1, w1, w2, w3, w4, w5, w6, w7⟩ | ⟨τ1, w1, w2, w3, w4⟩
    · have := cnf_mono (inP A) (show p' + 1 ≤ np A by omega)
      rw [cnf_yes w2] at this
      omega
    · exact Or.inr ⟨τ1, q2, w2, w3⟩
theorem cloudP.fr {ks fs : List Nat} {σ σ' : mm} {A : bdy} (h : cloudP σ A) (f : Fr ks fs σ σ') (hk : ∀ c ∈ [1, 12], c ∉ ks) : cloudP σ' A := by
  unfold cloudP at h ⊢
  rw [f.1 1 (by decide) (hk 1 (by decide)), f.1 12 (by decide) (hk 12 (by decide))]
  exact h
theorem m_lays {σ τ : mm} (h : Rel σ τ) (s a : Int32) : Ag (fX7_lays s a σ) (fX8_lays s a τ) := by
  obtain ⟨A, hR⟩ := h
  obtain ⟨s, rfl, h1, h2⟩ := ii_ex s
  obtain ⟨a, rfl, h3, h4⟩ := ii_ex a
  have k2 := M_isSheet h1 h2
  have hA := hR.1.2.2
  have hn1 := hA.1
  by_cases hs : 0 ≤ s ∧ s < 4
  · obtain ⟨s, rfl⟩ : ∃ k : Nat, s = k := ⟨s.toNat, by omega⟩
    obtain ⟨bits, size, p1, p2, p3, p4, p5, p6, p7⟩ := hR.2.2.2.2.1 s (by omega)
    have k1 := C_sheetTrouble hR.2.2.2.2.1 (s := s) (by omega) p3 (by omega)
    by_cases q : bits = 0
    · obtain ⟨σ', τ', e3, e4, hr⟩ := fd5 hR
      refine ⟨ii (-1000000006), σ', τ', ?_, ?_, _, hr⟩
      · unfold fX7_lays fX7_lays_0
        simp (disch := omega) only [k1, e3, if_true, if_false, Option.bind_some, Option.map_some, ii_lit, ll_lit, ii_neg, ll_neg, ii_add, ii_sub, ii_mul, ll_add, ll_sub, ll_mul, ii_le, ii_lt, ii_eq, ii_t, bi_0, bi_1, rd_z, wr_z, rr_z, rl_z, wl_z, tn_n, st_s, st_j, st_i, st_c, st_2, sl_s, sl_j, sl_i, sl_c, sl_1, Int.natCast_add, Int.cast_ofNat_Int, if_pos, if_neg, decide_eq_false_iff_not, decide_eq_true_eq, in_ll, ii_long, Nat.zero_add, Nat.mul_zero, reduceCtorEq]
      · unfold fX8_lays fX8_lays_0
        simp (disch := omega) only [k2, p4, e4, if_true, if_false, Option.bind_some, Option.map_some, ii_lit, ll_lit, ii_neg, ll_neg, ii_add, ii_sub, ii_mul, ll_add, ll_sub, ll_mul, ii_le, ii_lt, ii_eq, ii_t, bi_0, bi_1, rd_z, wr_z, rr_z, rl_z, wl_z, tn_n, st_s, st_j, st_i, st_c, st_2, sl_s, sl_j, sl_i, sl_c, sl_1, Int.natCast_add, Int.cast_ofNat_Int, if_pos, if_neg, decide_eq_false_iff_not, decide_eq_true_eq, in_ll, ii_long, Nat.zero_add, Nat.mul_zero, reduceCtorEq]
    · obtain ⟨σ1, e1, f1, f2, -⟩ := hR.cloud
      rcases both_in f1 f2 h3 h4 with ⟨p, τ1, w1, w2, w3, w4, w5, w6, w7⟩ | ⟨τ1, w1, w2, w3⟩
      · obtain ⟨c1, c2, c3, c4, c5⟩ := w5.2.2
        obtain ⟨bits', size', u1, u2, u3, u4, u5, u6, u7⟩ := c3 s (by omega)
        have e75 : τ1.1 75 0 s = τ.1 75 0 s ∧ True := by
          refine ⟨?_, trivial⟩
          obtain ⟨τ2, x1, x2, x3, x4, x5⟩ := M_looks hR.1.2.1 hA
          have hx : fX8_isIn (ii a) τ = some (true, τ1) := w4
          unfold fX8_isIn fX8_isIn_0 at hx
          rw [x1] at hx
          simp only [Option.bind_some] at hx
          split at hx
          · simp at hx
          · cases hr : rdI τ2 50 0 4096 (ii a) with
            | none => rw [hr] at hx; simp at hx
            | some v =>
              rw [hr] at hx
              simp only [Option.bind_some] at hx
              cases hg : fX8_goesTo v τ2 with
              | none => rw [hg] at hx; simp at hx
              | some τ3 =>
                rw [hg] at hx
                simp only [Option.bind_some, Option.some.injEq, Prod.mk.injEq, true_and] at hx
                subst hx
                have : v = ii p := by
                  have e : τ2.1 50 0 (cnf (inP A) p) = ii p := x4 p w1 w2
                  rcases C_placeOf f2 hA h3 h4 with ⟨p', q1, q2, q3, q4⟩ | ⟨q1, q2⟩
                  · rw [w3] at q4
                    have hpp : (ii (p : Int)).toInt = (ii (p' : Int)).toInt := congrArg Int32.toInt (Option.some.inj q4)
                    have hl := (cnt_le hA).2
                    rw [ii_t (by omega) (by omega), ii_t (by omega) (by omega)] at hpp
                    have hpp : p = p' := by omega
                    subst hpp
                    have hc := cnf_le (inP A) p
                    rw [q3, rd_n (by omega) (by decide)] at hr
                    rw [← Option.some.inj hr]
                    exact e
                  · rw [w3] at q2
                    have hpp : (ii (p : Int)).toInt = (ii (-1)).toInt := congrArg Int32.toInt (Option.some.inj q2)
                    have hl := (cnt_le hA).2
                    rw [ii_t (by omega) (by omega), ii_t (by omega) (by omega)] at hpp
                    omega
                subst this
                obtain ⟨τ4, y1, y2, y3, y4⟩ := M_goesTo (hR.1.2.1.fr x5 (by decide) (by decide)) hA w1
                rw [y1] at hg
                have : τ4 = τ3 := Option.some.inj hg
                subst this
                rw [y4, x5.1 75 (by decide) (by decide)]
        have hcn := cnt_le hA
        have n1 := f1.1.1.2.1
        have n2 := w5.1.2.1.2.1
        have hbz : bits' = bits := by
          have : (ii bits').toInt = (ii bits).toInt := by rw [← u4, e75.1, p4]
          rw [ii_t (by omega) (by omega), ii_t (by omega) (by omega)] at this
          exact this
        subst hbz
        let m : Nat := if size' < A.n then size'.toNat else A.n
        have hm : (m : Int) = if size' < A.n then size' else (A.n : Int) := by
          show (((if size' < A.n then size'.toNat else A.n : Nat)) : Int) = _
          split <;> omega
        have hm4 : m ≤ A.n ∧ (m : Int) ≤ size' := by
          have : m = if size' < A.n then size'.toNat else A.n := rfl
          split at this <;> omega
        have s1 : ∃ r, lp (fX7_lays_73_L (ii s) (ii p) (ii m)) (ii 0, σ1) = some r ∧ (r.1 = ii m ∧ (∀ i, r.2.2 26 s i = if i < m then fX8_narrow (ii bits') (ll (pt A p i)) else σ1.2 26 s i) ∧ (∀ t, t ≠ s → r.2.2 26 t = σ1.2 26 t) ∧ Fr [26] [] σ1 r.2) := by
          refine lp_j (fun k z => z.1 = ii k ∧ (∀ i, z.2.2 26 s i = if i < k then fX8_narrow (ii bits') (ll (pt A p i)) else σ1.2 26 s i) ∧ (∀ t, t ≠ s → z.2.2 26 t = σ1.2 26 t) ∧ Fr [26] [] σ1 z.2) _ m ⟨rfl, fun i => by rw [if_neg (by omega)], fun _ _ => rfl, Fr.rf _ _ _⟩ ?_ ?_
          · rintro k ⟨x, z⟩ hk ⟨g1, g2, g3, g4⟩
            have g1 : x = ii k := g1
            subst g1
            have el := C_letterAt (f2.fr g4 (by decide)) hA w1 (l := k) (by omega)
            have ep := C_put (σ := z) (s := s) (bits := bits') (by rw [g4.1 5 (by decide) (by decide)]; exact u3) (by omega) (i := k) (by omega) (ll (pt A p k))
            have hp9 := pt_9 hA p (l := k) (by omega)
            refine ⟨(ii ((k + 1 : Nat)), stL z 26 s k (fX8_narrow (ii bits') (ll (pt A p k)))), ?_, rfl, ?_, ?_, g4.sL (by decide)⟩
            · simp (disch := omega) only [fX7_lays_73_L, fX7_lays_73, el, ep, if_true, if_false, Option.bind_some, Option.map_some, ii_lit, ll_lit, ii_neg, ll_neg, ii_add, ii_sub, ii_mul, ll_add, ll_sub, ll_mul, ii_le, ii_lt, ii_eq, ii_t, bi_0, bi_1, rd_z, wr_z, rr_z, rl_z, wl_z, tn_n, st_s, st_j, st_i, st_c, st_2, sl_s, sl_j, sl_i, sl_c, sl_1, Int.natCast_add, Int.cast_ofNat_Int, if_pos, if_neg, decide_eq_false_iff_not, decide_eq_true_eq, in_ll, ii_long, Nat.zero_add, Nat.mul_zero, reduceCtorEq]
            · intro i
              show (stL z 26 s k _).2 26 s i = _
              by_cases hik : i = k
              · subst hik
                rw [sl_s, if_pos (by omega)]
              · rw [sl_j _ _ hik, g2 i]
                by_cases hq : i < k
                · rw [if_pos hq, if_pos (by omega)]
                · rw [if_neg hq, if_neg (by omega)]
            · intro t ht
              show (stL z 26 s k _).2 26 t = _
              rw [sl_i _ _ _ ht]
              exact g3 t ht
          · rintro ⟨x, z⟩ ⟨g1, g2, g3, g4⟩
            have g1 : x = ii m := g1
            subst g1
            refine ⟨(ii m, z), ?_, rfl, g2, g3, g4⟩
            simp (disch := omega) only [fX7_lays_73_L, fX7_lays_73, if_true, if_false, Option.bind_some, Option.map_some, ii_lit, ll_lit, ii_neg, ll_neg, ii_add, ii_sub, ii_mul, ll_add, ll_sub, ll_mul, ii_le, ii_lt, ii_eq, ii_t, bi_0, bi_1, rd_z, wr_z, rr_z, rl_z, wl_z, tn_n, st_s, st_j, st_i, st_c, st_2, sl_s, sl_j, sl_i, sl_c, sl_1, Int.natCast_add, Int.cast_ofNat_Int, if_pos, if_neg, decide_eq_false_iff_not, decide_eq_true_eq, in_ll, ii_long, Nat.zero_add, Nat.mul_zero, reduceCtorEq]
        have s2 : ∃ r, lp (fX8_lays_47_L (ii s)) (ii 0, τ1) = some r ∧ (r.1 = ii m ∧ (∀ i, i < 40 → r.2.2 77 0 (40 * s + i) = if i < m then fX8_narrow (ii bits') (ll (pt A p i)) else τ1.2 77 0 (40 * s + i)) ∧ (∀ t, t ≠ s → ∀ i, i < 40 → r.2.2 77 0 (40 * t + i) = τ1.2 77 0 (40 * t + i)) ∧ Fr [77] [] τ1 r.2) := by
          refine lp_j (fun k z => z.1 = ii k ∧ (∀ i, i < 40 → z.2.2 77 0 (40 * s + i) = if i < k then fX8_narrow (ii bits') (ll (pt A p i)) else τ1.2 77 0 (40 * s + i)) ∧ (∀ t, t ≠ s → ∀ i, i < 40 → z.2.2 77 0 (40 * t + i) = τ1.2 77 0 (40 * t + i)) ∧ Fr [77] [] τ1 z.2) _ m ⟨rfl, fun i _ => by rw [if_neg (by omega)], fun _ _ _ _ => rfl, Fr.rf _ _ _⟩ ?_ ?_
          · rintro k ⟨x, z⟩ hk ⟨g1, g2, g3, g4⟩
            have g1 : x = ii k := g1
            subst g1
            have z1 : z.1 32 0 1 = ii A.n := by rw [g4.2.2 1 (by decide)]; exact n2
            have z2 : z.1 76 0 s = ii size' := by rw [g4.1 76 (by decide) (by decide)]; exact u6
            have z3 : z.1 75 0 s = ii bits' := by rw [g4.1 75 (by decide) (by decide)]; exact u4
            have z4 : z.2 48 0 k = ll (pt A p k) := by rw [g4.2.1 48 (by decide)]; exact w7 k (by omega)
            refine ⟨(ii ((k + 1 : Nat)), stL z 77 0 (40 * s + k) (fX8_narrow (ii bits') (ll (pt A p k)))), ?_, rfl, ?_, ?_, g4.sL (by decide)⟩
            · simp (disch := omega) only [fX8_lays_47_L, fX8_lays_47, z1, z2, z3, z4, show (40 * (s : Int) + (k : Int)).toNat = 40 * s + k by omega, if_true, if_false, Option.bind_some, Option.map_some, ii_lit, ll_lit, ii_neg, ll_neg, ii_add, ii_sub, ii_mul, ll_add, ll_sub, ll_mul, ii_le, ii_lt, ii_eq, ii_t, bi_0, bi_1, rd_z, wr_z, rr_z, rl_z, wl_z, tn_n, st_s, st_j, st_i, st_c, st_2, sl_s, sl_j, sl_i, sl_c, sl_1, Int.natCast_add, Int.cast_ofNat_Int, if_pos, if_neg, decide_eq_false_iff_not, decide_eq_true_eq, in_ll, ii_long, Nat.zero_add, Nat.mul_zero, reduceCtorEq]
            · intro i hi
              show (stL z 77 0 (40 * s + k) _).2 77 0 (40 * s + i) = _
              by_cases hik : i = k
              · subst hik
                rw [sl_s, if_pos (by omega)]
              · rw [sl_j _ _ (by omega), g2 i hi]
                by_cases hq : i < k
                · rw [if_pos hq, if_pos (by omega)]
                · rw [if_neg hq, if_neg (by omega)]
            · intro t ht i hi
              show (stL z 77 0 (40 * s + k) _).2 77 0 (40 * t + i) = _
              rw [sl_j _ _ (by omega)]
              exact g3 t ht i hi
          · rintro ⟨x, z⟩ ⟨g1, g2, g3, g4⟩
            have g1 : x = ii m := g1
            subst g1
            have z1 : z.1 32 0 1 = ii A.n := by rw [g4.2.2 1 (by decide)]; exact n2
            have z2 : z.1 76 0 s = ii size' := by rw [g4.1 76 (by decide) (by decide)]; exact u6
            refine ⟨(ii m, z), ?_, rfl, g2, g3, g4⟩
            by_cases hq : size' < A.n
            · rw [if_pos hq] at hm
              simp (disch := omega) only [fX8_lays_47_L, fX8_lays_47, z1, z2, if_true, if_false, Option.bind_some, Option.map_some, ii_lit, ll_lit, ii_neg, ll_neg, ii_add, ii_sub, ii_mul, ll_add, ll_sub, ll_mul, ii_le, ii_lt, ii_eq, ii_t, bi_0, bi_1, rd_z, wr_z, rr_z, rl_z, wl_z, tn_n, st_s, st_j, st_i, st_c, st_2, sl_s, sl_j, sl_i, sl_c, sl_1, Int.natCast_add, Int.cast_ofNat_Int, if_pos, if_neg, decide_eq_false_iff_not, decide_eq_true_eq, in_ll, ii_long, Nat.zero_add, Nat.mul_zero, reduceCtorEq]
            · rw [if_neg hq] at hm
              simp (disch := omega) only [fX8_lays_47_L, fX8_lays_47, z1, z2, if_true, if_false, Option.bind_some, Option.map_some, ii_lit, ll_lit, ii_neg, ll_neg, ii_add, ii_sub, ii_mul, ll_add, ll_sub, ll_mul, ii_le, ii_lt, ii_eq, ii_t, bi_0, bi_1, rd_z, wr_z, rr_z, rl_z, wl_z, tn_n, st_s, st_j, st_i, st_c, st_2, sl_s, sl_j, sl_i, sl_c, sl_1, Int.natCast_add, Int.cast_ofNat_Int, if_pos, if_neg, decide_eq_false_iff_not, decide_eq_true_eq, in_ll, ii_long, Nat.zero_add, Nat.mul_zero, reduceCtorEq]
        obtain ⟨⟨r1, σ2⟩, x1, y0, y1, y2, y3⟩ := s1
        obtain ⟨⟨r2, τ2⟩, x2, z0, z1, z2, z3⟩ := s2
        have y0 : r1 = ii m := y0
        have z0 : r2 = ii m := z0
        subst y0 z0
        have hRl : RelA σ2 τ2 A := w5.fr y3 z3 (by decide) (by decide) (by decide) ⟨c1.fr y3 z3 (by decide) (by decide) (by decide), c2.fr y3 z3 (by decide) (by decide) (by decide), c3.upd (s := s) bits' size' u1 u2 ?_ ?_ ?_ ?_ ?_ ?_, c4.fr y3 z3 (by decide) (by decide), c5.fr z3 (by decide)⟩
        · refine ⟨ii m, σ2, τ2, ?_, ?_, _, hRl⟩
          · unfold fX7_lays fX7_lays_0
            simp (disch := omega) only [k1, e1, w3, n1, u5, min_ii, ← hm, x1, if_true, if_false, Option.bind_some, Option.map_some, ii_lit, ll_lit, ii_neg, ll_neg, ii_add, ii_sub, ii_mul, ll_add, ll_sub, ll_mul, ii_le, ii_lt, ii_eq, ii_t, bi_0, bi_1, rd_z, wr_z, rr_z, rl_z, wl_z, tn_n, st_s, st_j, st_i, st_c, st_2, sl_s, sl_j, sl_i, sl_c, sl_1, Int.natCast_add, Int.cast_ofNat_Int, if_pos, if_neg, decide_eq_false_iff_not, decide_eq_true_eq, in_ll, ii_long, Nat.zero_add, Nat.mul_zero, reduceCtorEq]
          · unfold fX8_lays fX8_lays_0
            simp (disch := omega) only [k2, p4, w4, x2, if_true, if_false, Option.bind_some, Option.map_some, ii_lit, ll_lit, ii_neg, ll_neg, ii_add, ii_sub, ii_mul, ll_add, ll_sub, ll_mul, ii_le, ii_lt, ii_eq, ii_t, bi_0, bi_1, rd_z, wr_z, rr_z, rl_z, wl_z, tn_n, st_s, st_j, st_i, st_c, st_2, sl_s, sl_j, sl_i, sl_c, sl_1, Int.natCast_add, Int.cast_ofNat_Int, if_pos, if_neg, decide_eq_false_iff_not, decide_eq_true_eq, in_ll, ii_long, Nat.zero_add, Nat.mul_zero, reduceCtorEq]
        · rw [y3.1 5 (by decide) (by decide)]; exact u3
        · rw [y3.1 5 (by decide) (by decide)]; exact u5
        · rw [z3.1 75 (by decide) (by decide)]; exact u4
        · rw [z3.1 76 (by decide) (by decide)]; exact u6
        · intro i hi
          rw [y1 i, z1 i hi]
          split
          · rfl
          · exact u7 i hi
        · intro t ht
          rw [y3.1 5 (by decide) (by decide), z3.1 75 (by decide) (by decide), z3.1 76 (by decide) (by decide), y2 t ht]
          exact ⟨rfl, rfl, rfl, rfl, z2 t ht⟩
      · obtain ⟨σ', τ', e3, e4, hr⟩ := fd3 w3
        refine ⟨ii (-1000000004), σ', τ', ?_, ?_, _, hr⟩
        · unfold fX7_lays fX7_lays_0
          simp (disch := omega) only [k1, e1, w1, e3, if_true, if_false, Option.bind_some, Option.map_some, ii_lit, ll_lit, ii_neg, ll_neg, ii_add, ii_sub, ii_mul, ll_add, ll_sub, ll_mul, ii_le, ii_lt, ii_eq, ii_t, bi_0, bi_1, rd_z, wr_z, rr_z, rl_z, wl_z, tn_n, st_s, st_j, st_i, st_c, st_2, sl_s, sl_j, sl_i, sl_c, sl_1, Int.natCast_add, Int.cast_ofNat_Int, if_pos, if_neg, decide_eq_false_iff_not, decide_eq_true_eq, in_ll, ii_long, Nat.zero_add, Nat.mul_zero, reduceCtorEq]
        · unfold fX8_lays fX8_lays_0
          simp (disch := omega) only [k2, p4, w2, e4, if_true, if_false, Option.bind_some, Option.map_some, ii_lit, ll_lit, ii_neg, ll_neg, ii_add, ii_sub, ii_mul, ll_add, ll_sub, ll_mul, ii_le, ii_lt, ii_eq, ii_t, bi_0, bi_1, rd_z, wr_z, rr_z, rl_z, wl_z, tn_n, st_s, st_j, st_i, st_c, st_2, sl_s, sl_j, sl_i, sl_c, sl_1, Int.natCast_add, Int.cast_ofNat_Int, if_pos, if_neg, decide_eq_false_iff_not, decide_eq_true_eq, in_ll, ii_long, Nat.zero_add, Nat.mul_zero, reduceCtorEq]
  · obtain ⟨σ', τ', e3, e4, hr⟩ := fd0 hR
    refine ⟨ii (-1000000001), σ', τ', ?_, ?_, _, hr⟩
    · unfold fX7_lays fX7_lays_0
      simp (disch := omega) only [C_sheetTroubleN h1 h2 hs, e3, if_true, if_false, Option.bind_some, Option.map_some, ii_lit, ll_lit, ii_neg, ll_neg, ii_add, ii_sub, ii_mul, ll_add, ll_sub, ll_mul, ii_le, ii_lt, ii_eq, ii_t, bi_0, bi_1, rd_z, wr_z, rr_z, rl_z, wl_z, tn_n, st_s, st_j, st_i, st_c, st_2, sl_s, sl_j, sl_i, sl_c, sl_1, Int.natCast_add, Int.cast_ofNat_Int, if_pos, if_neg, decide_eq_false_iff_not, decide_eq_true_eq, in_ll, ii_long, Nat.zero_add, Nat.mul_zero, reduceCtorEq]
    · unfold fX8_lays fX8_lays_0
      simp (disch := omega) only [k2, e4, if_true, if_false, Option.bind_some, Option.map_some, ii_lit, ll_lit, ii_neg, ll_neg, ii_add, ii_sub, ii_mul, ll_add, ll_sub, ll_mul, ii_le, ii_lt, ii_eq, ii_t, bi_0, bi_1, rd_z, wr_z, rr_z, rl_z, wl_z, tn_n, st_s, st_j, st_i, st_c, st_2, sl_s, sl_j, sl_i, sl_c, sl_1, Int.natCast_add, Int.cast_ofNat_Int, if_pos, if_neg, decide_eq_false_iff_not, decide_eq_true_eq, in_ll, ii_long, Nat.zero_add, Nat.mul_zero, reduceCtorEq]
