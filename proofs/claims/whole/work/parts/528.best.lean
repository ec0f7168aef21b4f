-- the reference's measures; best
theorem M_measures {τ : mm} {A : bdy} (hM : isM τ A) (hl : lookP τ A) (hA : okb A) (hcnt : 0 < cnf (inP A) (np A)) {d : Nat} (hd : d < 625) : ∃ τ', fX8_measures (ii d) τ = some τ' ∧ τ'.1 32 0 12 = ii (sw A d (np A)).1 ∧ τ'.1 32 0 13 = ii (sw A d (np A)).2.2 ∧ τ'.1 32 0 14 = ii (spn A d) ∧ Fr [48, 55] [12, 13, 14] τ τ' := by
  have hn1 := hA.1
  have hcn := cnt_le hA
  unfold fX8_measures fX8_measures_0
  simp (disch := omega) only [hM.2.1, if_true, if_false, Option.bind_some, Option.map_some, ii_lit, ll_lit, ii_neg, ll_neg, ii_add, ii_sub, ii_mul, ll_add, ll_sub, ll_mul, ii_le, ii_lt, ii_eq, ii_t, bi_0, bi_1, rd_z, wr_z, rr_z, rl_z, wl_z, tn_n, st_s, st_j, st_i, st_c, st_2, sl_s, sl_j, sl_i, sl_c, sl_1, Int.natCast_add, Int.cast_ofNat_Int, if_pos, if_neg]
  refine lp_j (fun j s => s.1 = ii (lf5 d j) ∧ s.2.1 = ii ((A.n : Int) - 1 - j) ∧ (∀ l, A.n - j ≤ l → l < A.n → s.2.2.1 55 0 l = ii (wy A.n d l)) ∧ Fr [55] [] τ s.2.2) _ A.n ⟨rfl, by simp, fun l h1 h2 => by omega, Fr.rf _ _ _⟩ ?_ ?_
  · rintro j ⟨a, b, s⟩ hj ⟨h1, h2, h3, h4⟩
    have h1 : a = ii (lf5 d j) := h1
    have h2 : b = ii ((A.n : Int) - 1 - j) := h2
    subst h1 h2
    have hl := lf5_r (d := (d : Int)) (by omega) j
    have e : ((A.n : Int) - 1 - (j : Int)).toNat = A.n - 1 - j := by omega
    have ew : lf5 d j % 5 - 2 = wy A.n d (A.n - 1 - j) := by
      unfold wy
      rw [show A.n - 1 - (A.n - 1 - j) = j by omega]
    have e1 : (A.n : Int) - 1 - (j : Int) + -1 = (A.n : Int) - 1 - ((j : Int) + 1) := by omega
    refine ⟨(ii (lf5 d (j + 1)), ii ((A.n : Int) - 1 - ((j + 1 : Nat))), stI s 55 0 (A.n - 1 - j) (ii (wy A.n d (A.n - 1 - j)))), ?_, rfl, rfl, ?_, h4.sI (by decide) (by decide)⟩
    · simp (disch := omega) only [fX8_measures_9_L, fX8_measures_9, e, ew, e1, rm_nn, dv_nn, lf5, if_true, if_false, Option.bind_some, Option.map_some, ii_lit, ll_lit, ii_neg, ll_neg, ii_add, ii_sub, ii_mul, ll_add, ll_sub, ll_mul, ii_le, ii_lt, ii_eq, ii_t, bi_0, bi_1, rd_z, wr_z, rr_z, rl_z, wl_z, tn_n, st_s, st_j, st_i, st_c, st_2, sl_s, sl_j, sl_i, sl_c, sl_1, Int.natCast_add, Int.cast_ofNat_Int, if_pos, if_neg]
    · intro l hl1 hl2
      show (stI s 55 0 (A.n - 1 - j) _).1 55 0 l = _
      by_cases hlj : l = A.n - 1 - j
      · subst hlj
        rw [st_s]
      · rw [st_j _ _ hlj]
        exact h3 l (by omega) hl2
  · rintro ⟨a, b, s⟩ ⟨h1, h2, h3, h4⟩
    have h2 : b = ii ((A.n : Int) - 1 - A.n) := h2
    have h4 : Fr [55] [] τ s := h4
    have h3 : ∀ l, A.n - A.n ≤ l → l < A.n → s.1 55 0 l = ii (wy A.n d l) := h3
    subst h2
    have hMs := hM.fr h4 (by decide) (by decide)
    have hls := hl.fr h4 (by decide) (by decide)
    obtain ⟨c, hc⟩ : ∃ c, c = cnf (inP A) (np A) := ⟨_, rfl⟩
    rw [← hc] at hcnt hcn
    have key : ∃ r, lp fX8_measures_39_L (ii 0, ii 0, s) = some r ∧ (r.1 32 0 12 = ii (sw A d (np A)).1 ∧ r.1 32 0 13 = ii (sw A d (np A)).2.2 ∧ r.1 32 0 14 = ii (spn A d) ∧ Fr [48, 55] [12, 13, 14] τ r) := by
      refine lp_j (fun i z => z.2.1 = ii i ∧ (i ≠ 0 → ∀ q, q ≤ np A → cnf (inP A) q = i → z.1 = ii (sw A d q).2.1 ∧ z.2.2.1 32 0 12 = ii (sw A d q).1 ∧ z.2.2.1 32 0 13 = ii (sw A d q).2.2) ∧ Fr [48] [12, 13] s z.2.2) _ c ⟨rfl, fun h => absurd rfl h, Fr.rf _ _ _⟩ ?_ ?_
      · rintro i ⟨a, b, z⟩ hi ⟨y1, y2, y3⟩
        have y1 : b = ii i := y1
        have y3 : Fr [48] [12, 13] s z := y3
        subst y1
        obtain ⟨p, q1, q2, q3⟩ := cnf_ex (P := inP A) (n := np A) (i := i) (by omega)
        have y2' : i ≠ 0 → a = ii (sw A d p).2.1 ∧ z.1 32 0 12 = ii (sw A d p).1 ∧ z.1 32 0 13 = ii (sw A d p).2.2 := fun h => y2 h p (by omega) q3
        have hlz : lookP z A := hls.fr y3 (by decide) (by decide)
        have hMz := hMs.fr y3 (by decide) (by decide)
        have e3 := hlz.2.2 p q1 q2
        rw [q3] at e3
        have s3 : z.1 32 0 11 = ii c := by rw [hlz.1, hc]
        obtain ⟨z', e5, o1, o2, o3⟩ := M_goesTo hMz hA q1
        have n2 : z'.1 32 0 1 = ii A.n := by rw [o3]; exact hMz.2.1
        have hsr := sw_r hA d p
        have hws : -72 ≤ ws A d p ∧ ws A d p ≤ 72 := ws_r hA d p (Nat.le_refl _)
        have es : sw A d (p + 1) = swg (ws A d) p i (sw A d p) := by
          rw [← q3]
          exact fdf_yes q2
        have es1 : (sw A d (p + 1)).1 = if i = 0 ∨ (sw A d p).1 < ws A d p then ws A d p else (sw A d p).1 := by rw [es]; rfl
        have es2 : (sw A d (p + 1)).2.1 = if i = 0 ∨ ws A d p < (sw A d p).2.1 then ws A d p else (sw A d p).2.1 := by rw [es]; rfl
        have es3 : (sw A d (p + 1)).2.2 = if i = 0 ∨ (sw A d p).1 < ws A d p then i else (sw A d p).2.2 := by rw [es]; rfl
        have fin : ∃ z2, lp (fX8_measures_65_L a (ii i) z') (ii 0, ii 0) = some (.inl (ii (sw A d (p + 1)).2.1, ii ((i + 1 : Nat)), z2)) ∧ z2.1 32 0 12 = ii (sw A d (p + 1)).1 ∧ z2.1 32 0 13 = ii (sw A d (p + 1)).2.2 ∧ Fr [48] [12, 13] s z2 := by
          have f1 : Fr [48] [12, 13] s z' := y3.tr (o2.mono (by decide) (by decide))
          have z12 : i ≠ 0 → z'.1 32 0 12 = ii (sw A d p).1 := fun h => by rw [o3]; exact (y2' h).2.1
          have z13 : i ≠ 0 → z'.1 32 0 13 = ii (sw A d p).2.2 := fun h => by rw [o3]; exact (y2' h).2.2
          by_cases c1 : i = 0 ∨ (sw A d p).1 < ws A d p
          · refine ⟨stI (stI z' 32 0 12 (ii (ws A d p))) 32 0 13 (ii i), ?_, ?_, ?_, (f1.sF (by decide)).sF (by decide)⟩
            · refine lp_f (fun j => (ii (smf (fun l => wy A.n d l * pt A p l) j), ii j)) A.n rfl ?_ ?_
              · intro j hj
                have e55 : z'.1 55 0 j = ii (wy A.n d j) := by
                  rw [o3, y3.1 55 (by decide) (by decide)]
                  exact h3 j (by omega) hj
                have e48 := o1 j hj
                simp (disch := omega) only [fX8_measures_65_L, fX8_measures_65, n2, e55, e48, ll_int, smf, if_true, if_false, Option.bind_some, Option.map_some, ii_lit, ll_lit, ii_neg, ll_neg, ii_add, ii_sub, ii_mul, ll_add, ll_sub, ll_mul, ii_le, ii_lt, ii_eq, ii_t, bi_0, bi_1, rd_z, wr_z, rr_z, rl_z, wl_z, tn_n, st_s, st_j, st_i, st_c, st_2, sl_s, sl_j, sl_i, sl_c, sl_1, Int.natCast_add, Int.cast_ofNat_Int, if_pos, if_neg, decide_eq_false_iff_not, decide_eq_true_eq, in_ll, ii_long, Nat.zero_add, Nat.mul_zero, reduceCtorEq]
              · have ed : smf (fun l => wy A.n d l * pt A p l) A.n = ws A d p := rfl
                rw [es2]
                by_cases i0 : i = 0
                · simp (disch := omega) only [fX8_measures_65_L, fX8_measures_65, fX8_measures_115, fX8_measures_127, fX8_measures_138, fX8_measures_144, n2, ed, if_true, if_false, Option.bind_some, Option.map_some, ii_lit, ll_lit, ii_neg, ll_neg, ii_add, ii_sub, ii_mul, ll_add, ll_sub, ll_mul, ii_le, ii_lt, ii_eq, ii_t, bi_0, bi_1, rd_z, wr_z, rr_z, rl_z, wl_z, tn_n, st_s, st_j, st_i, st_c, st_2, sl_s, sl_j, sl_i, sl_c, sl_1, Int.natCast_add, Int.cast_ofNat_Int, if_pos, if_neg, decide_eq_false_iff_not, decide_eq_true_eq, in_ll, ii_long, Nat.zero_add, Nat.mul_zero, reduceCtorEq]
                · have ea := (y2' i0).1
                  subst ea
                  have e12 := z12 i0
                  by_cases c2 : ws A d p < (sw A d p).2.1
                  · simp (disch := omega) only [fX8_measures_65_L, fX8_measures_65, fX8_measures_115, fX8_measures_127, fX8_measures_138, fX8_measures_144, n2, ed, e12, if_true, if_false, Option.bind_some, Option.map_some, ii_lit, ll_lit, ii_neg, ll_neg, ii_add, ii_sub, ii_mul, ll_add, ll_sub, ll_mul, ii_le, ii_lt, ii_eq, ii_t, bi_0, bi_1, rd_z, wr_z, rr_z, rl_z, wl_z, tn_n, st_s, st_j, st_i, st_c, st_2, sl_s, sl_j, sl_i, sl_c, sl_1, Int.natCast_add, Int.cast_ofNat_Int, if_pos, if_neg, decide_eq_false_iff_not, decide_eq_true_eq, in_ll, ii_long, Nat.zero_add, Nat.mul_zero, reduceCtorEq]
                  · simp (disch := omega) only [fX8_measures_65_L, fX8_measures_65, fX8_measures_115, fX8_measures_127, fX8_measures_138, fX8_measures_144, n2, ed, e12, if_true, if_false, Option.bind_some, Option.map_some, ii_lit, ll_lit, ii_neg, ll_neg, ii_add, ii_sub, ii_mul, ll_add, ll_sub, ll_mul, ii_le, ii_lt, ii_eq, ii_t, bi_0, bi_1, rd_z, wr_z, rr_z, rl_z, wl_z, tn_n, st_s, st_j, st_i, st_c, st_2, sl_s, sl_j, sl_i, sl_c, sl_1, Int.natCast_add, Int.cast_ofNat_Int, if_pos, if_neg, decide_eq_false_iff_not, decide_eq_true_eq, in_ll, ii_long, Nat.zero_add, Nat.mul_zero, reduceCtorEq]
            · rw [es1, if_pos c1, st_j _ _ (by decide), st_s]
            · rw [es3, if_pos c1, st_s]
          · have i0 : i ≠ 0 := fun h => c1 (Or.inl h)
            refine ⟨z', ?_, by rw [es1, if_neg c1]; exact z12 i0, by rw [es3, if_neg c1]; exact z13 i0, f1⟩
            refine lp_f (fun j => (ii (smf (fun l => wy A.n d l * pt A p l) j), ii j)) A.n rfl ?_ ?_
            · intro j hj
              have e55 : z'.1 55 0 j = ii (wy A.n d j) := by
                rw [o3, y3.1 55 (by decide) (by decide)]
                exact h3 j (by omega) hj
              have e48 := o1 j hj
              simp (disch := omega) only [fX8_measures_65_L, fX8_measures_65, n2, e55, e48, ll_int, smf, if_true, if_false, Option.bind_some, Option.map_some, ii_lit, ll_lit, ii_neg, ll_neg, ii_add, ii_sub, ii_mul, ll_add, ll_sub, ll_mul, ii_le, ii_lt, ii_eq, ii_t, bi_0, bi_1, rd_z, wr_z, rr_z, rl_z, wl_z, tn_n, st_s, st_j, st_i, st_c, st_2, sl_s, sl_j, sl_i, sl_c, sl_1, Int.natCast_add, Int.cast_ofNat_Int, if_pos, if_neg, decide_eq_false_iff_not, decide_eq_true_eq, in_ll, ii_long, Nat.zero_add, Nat.mul_zero, reduceCtorEq]
            · have ed : smf (fun l => wy A.n d l * pt A p l) A.n = ws A d p := rfl
              rw [es2]
              have ea := (y2' i0).1
              subst ea
              have e12 := z12 i0
              by_cases c2 : ws A d p < (sw A d p).2.1
              · simp (disch := omega) only [fX8_measures_65_L, fX8_measures_65, fX8_measures_115, fX8_measures_127, fX8_measures_138, fX8_measures_144, n2, ed, e12, if_true, if_false, Option.bind_some, Option.map_some, ii_lit, ll_lit, ii_neg, ll_neg, ii_add, ii_sub, ii_mul, ll_add, ll_sub, ll_mul, ii_le, ii_lt, ii_eq, ii_t, bi_0, bi_1, rd_z, wr_z, rr_z, rl_z, wl_z, tn_n, st_s, st_j, st_i, st_c, st_2, sl_s, sl_j, sl_i, sl_c, sl_1, Int.natCast_add, Int.cast_ofNat_Int, if_pos, if_neg, decide_eq_false_iff_not, decide_eq_true_eq, in_ll, ii_long, Nat.zero_add, Nat.mul_zero, reduceCtorEq]
              · simp (disch := omega) only [fX8_measures_65_L, fX8_measures_65, fX8_measures_115, fX8_measures_127, fX8_measures_138, fX8_measures_144, n2, ed, e12, if_true, if_false, Option.bind_some, Option.map_some, ii_lit, ll_lit, ii_neg, ll_neg, ii_add, ii_sub, ii_mul, ll_add, ll_sub, ll_mul, ii_le, ii_lt, ii_eq, ii_t, bi_0, bi_1, rd_z, wr_z, rr_z, rl_z, wl_z, tn_n, st_s, st_j, st_i, st_c, st_2, sl_s, sl_j, sl_i, sl_c, sl_1, Int.natCast_add, Int.cast_ofNat_Int, if_pos, if_neg, decide_eq_false_iff_not, decide_eq_true_eq, in_ll, ii_long, Nat.zero_add, Nat.mul_zero, reduceCtorEq]
        obtain ⟨z2, e6, e7, e8, e9⟩ := fin
        refine ⟨(ii (sw A d (p + 1)).2.1, ii ((i + 1 : Nat)), z2), ?_, rfl, ?_, e9⟩
        · rw [← e6]
          simp (disch := omega) only [fX8_measures_39_L, fX8_measures_39, s3, e3, e5, if_true, if_false, Option.bind_some, Option.map_some, ii_lit, ll_lit, ii_neg, ll_neg, ii_add, ii_sub, ii_mul, ll_add, ll_sub, ll_mul, ii_le, ii_lt, ii_eq, ii_t, bi_0, bi_1, rd_z, wr_z, rr_z, rl_z, wl_z, tn_n, st_s, st_j, st_i, st_c, st_2, sl_s, sl_j, sl_i, sl_c, sl_1, Int.natCast_add, Int.cast_ofNat_Int, if_pos, if_neg, decide_eq_false_iff_not, decide_eq_true_eq, in_ll, ii_long, Nat.zero_add, Nat.mul_zero, reduceCtorEq]
        · intro _ q hq hqi
          have : sw A d (p + 1) = sw A d q := fdf_same (by rw [cnf_yes q2, q3]; exact hqi.symm)
          rw [← this]
          exact ⟨rfl, e7, e8⟩
      · rintro ⟨a, b, z⟩ ⟨y1, y2, y3⟩
        have y1 : b = ii c := y1
        have y3 : Fr [48] [12, 13] s z := y3
        subst y1
        obtain ⟨w1, w2, w3⟩ := y2 (by omega) (np A) (Nat.le_refl _) hc.symm
        have w1 : a = ii (sw A d (np A)).2.1 := w1
        subst w1
        have v2 : z.1 32 0 12 = ii (sw A d (np A)).1 := w2
        have v3 : z.1 32 0 13 = ii (sw A d (np A)).2.2 := w3
        have hlz : lookP z A := hls.fr y3 (by decide) (by decide)
        have s3 : z.1 32 0 11 = ii c := by rw [hlz.1, hc]
        refine ⟨stI z 32 0 14 (ii (spn A d)), ?_, ?_, ?_, ?_, ((h4.mono (by decide) (by decide)).tr (y3.mono (by decide) (by decide))).sF (by decide)⟩
        · simp (disch := omega) only [fX8_measures_39_L, fX8_measures_39, s3, v2, spn, if_true, if_false, Option.bind_some, Option.map_some, ii_lit, ll_lit, ii_neg, ll_neg, ii_add, ii_sub, ii_mul, ll_add, ll_sub, ll_mul, ii_le, ii_lt, ii_eq, ii_t, bi_0, bi_1, rd_z, wr_z, rr_z, rl_z, wl_z, tn_n, st_s, st_j, st_i, st_c, st_2, sl_s, sl_j, sl_i, sl_c, sl_1, Int.natCast_add, Int.cast_ofNat_Int, if_pos, if_neg, decide_eq_false_iff_not, decide_eq_true_eq, in_ll, ii_long, Nat.zero_add, Nat.mul_zero, reduceCtorEq]
        · rw [st_j _ _ (by decide)]; exact v2
        · rw [st_j _ _ (by decide)]; exact v3
        · rw [st_s]
    obtain ⟨r, e, r1⟩ := key
    refine ⟨r, ?_, r1⟩
    simp (disch := omega) only [fX8_measures_9_L, fX8_measures_9, e, if_true, if_false, Option.bind_some, Option.map_some, ii_lit, ll_lit, ii_neg, ll_neg, ii_add, ii_sub, ii_mul, ll_add, ll_sub, ll_mul, ii_le, ii_lt, ii_eq, ii_t, bi_0, bi_1, rd_z, wr_z, rr_z, rl_z, wl_z, tn_n, st_s, st_j, st_i, st_c, st_2, sl_s, sl_j, sl_i, sl_c, sl_1, Int.natCast_add, Int.cast_ofNat_Int, if_pos, if_neg]
/-- the cloud's findings of a direction change, no more -/
theorem RelA.swept {σ σ' τ : mm} {A : bdy} (hR : RelA σ τ A) (hc : cloudP σ A) (ht : thinP σ A) (h0 : σ.1 1 0 0 = ii 0) (f : Fr [1, 14] [] σ σ') (hj : ∀ j, j ≠ 3 → j ≠ 4 → j ≠ 5 → σ'.1 1 0 j = σ.1 1 0 j) : RelA σ' τ A := by
  obtain ⟨⟨hC, hM, hA⟩, ⟨b1, b2⟩, hX⟩ := hR
  refine ⟨⟨hC.fr f (by decide), hM, hA⟩, ⟨Or.inr ⟨?_, ⟨?_, ?_, ?_⟩, ?_⟩, b2.c f (by decide)⟩, hX.c f (by decide)⟩
  · rw [hj 0 (by decide) (by decide) (by decide)]; exact h0
  · rw [hj 1 (by decide) (by decide) (by decide)]; exact hc.1
  · rw [hj 2 (by decide) (by decide) (by decide)]; exact hc.2.1
  · rw [f.1 12 (by decide) (by decide)]; exact hc.2.2
  · unfold thinP at ht ⊢
    rw [hj 6 (by decide) (by decide) (by decide), hj 7 (by decide) (by decide) (by decide)]
    exact ht
theorem m_best {σ τ : mm} (h : Rel σ τ) (d w : Int32) : Ag (fX7_best d w σ) (fX8_best d w τ) := by
  obtain ⟨A, hR⟩ := h
  obtain ⟨⟨hC, hM, hA⟩, -⟩ := id hR
  obtain ⟨d, rfl, h1, h2⟩ := ii_ex d
  obtain ⟨w, rfl, h3, h4⟩ := ii_ex w
  have hn1 := hA.1
  have c1 := C_dirs hn1.2
  have c2 := M_dirs hM
  have n1 := hC.2.1
  have hd5 := d5_r hn1.2
  by_cases hv : (0 ≤ d ∧ d < d5 A.n) ∧ 0 ≤ w ∧ w ≤ 2
  · obtain ⟨⟨v1, v2⟩, v3, v4⟩ := hv
    obtain ⟨d, rfl⟩ : ∃ k : Nat, d = k := ⟨d.toNat, by omega⟩
    obtain ⟨σ1, e1, f1, f2, f3, f4⟩ := hR.cloud
    obtain ⟨τ1, e2, g1, g2⟩ := f1.looks
    have hcn := cnt_le hA
    have s2 := f2.2.1
    have s3 := g2.1
    by_cases h0 : cnf (inP A) (np A) = 0
    · obtain ⟨σ', τ', e3, e4, hr⟩ := fd3 g1
      refine ⟨ii (-1000000004), σ', τ', ?_, ?_, _, hr⟩
      · unfold fX7_best fX7_best_0
        simp (disch := omega) only [n1, c1, e1, s2, e3, if_true, if_false, Option.bind_some, Option.map_some, ii_lit, ll_lit, ii_neg, ll_neg, ii_add, ii_sub, ii_mul, ll_add, ll_sub, ll_mul, ii_le, ii_lt, ii_eq, ii_t, bi_0, bi_1, rd_z, wr_z, rr_z, rl_z, wl_z, tn_n, st_s, st_j, st_i, st_c, st_2, sl_s, sl_j, sl_i, sl_c, sl_1, Int.natCast_add, Int.cast_ofNat_Int, if_pos, if_neg, decide_eq_false_iff_not, decide_eq_true_eq, in_ll, ii_long, Nat.zero_add, Nat.mul_zero, reduceCtorEq]
      · unfold fX8_best fX8_best_0
        simp (disch := omega) only [c2, e2, s3, e4, if_true, if_false, Option.bind_some, Option.map_some, ii_lit, ll_lit, ii_neg, ll_neg, ii_add, ii_sub, ii_mul, ll_add, ll_sub, ll_mul, ii_le, ii_lt, ii_eq, ii_t, bi_0, bi_1, rd_z, wr_z, rr_z, rl_z, wl_z, tn_n, st_s, st_j, st_i, st_c, st_2, sl_s, sl_j, sl_i, sl_c, sl_1, Int.natCast_add, Int.cast_ofNat_Int, if_pos, if_neg, decide_eq_false_iff_not, decide_eq_true_eq, in_ll, ii_long, Nat.zero_add, Nat.mul_zero, reduceCtorEq]
    · obtain ⟨σ2, x1, x2, x3, k, x4, x5, x6, x7, x8⟩ := C_sweep f1.1.1 f2 hA (by omega) (d := d) (by omega) (E := 1000000000) (by omega) (by omega)
      obtain ⟨τ2, y1, y2, y3, y4, y5⟩ := M_measures g1.1.2.1 g2 hA (by omega) (d := d) (by omega)
      have hsr := sw_r hA d k
      have hk : k = np A := by
        rcases x8 with ⟨q, -⟩ | ⟨-, q⟩
        · exact q
        · omega
      subst hk
      have hRl := (g1.swept f2 f3 f4 x3 x2).m (y5.mono (by decide) (by decide))
      have n2 := f1.1.1.2.1
      refine ⟨ii (if w = 0 then (sw A d (np A)).1 else if w = 1 then ((sw A d (np A)).2.2 : Int) else spn A d), σ2, τ2, ?_, ?_, _, hRl⟩
      · unfold fX7_best fX7_best_0
        by_cases w0 : w = 0
        · simp (disch := omega) only [n1, c1, e1, s2, n2, x1, x5, x6, x7, if_true, if_false, Option.bind_some, Option.map_some, ii_lit, ll_lit, ii_neg, ll_neg, ii_add, ii_sub, ii_mul, ll_add, ll_sub, ll_mul, ii_le, ii_lt, ii_eq, ii_t, bi_0, bi_1, rd_z, wr_z, rr_z, rl_z, wl_z, tn_n, st_s, st_j, st_i, st_c, st_2, sl_s, sl_j, sl_i, sl_c, sl_1, Int.natCast_add, Int.cast_ofNat_Int, if_pos, if_neg, decide_eq_false_iff_not, decide_eq_true_eq, in_ll, ii_long, Nat.zero_add, Nat.mul_zero, reduceCtorEq]
        · by_cases w1 : w = 1
          · simp (disch := omega) only [n1, c1, e1, s2, n2, x1, x5, x6, x7, if_true, if_false, Option.bind_some, Option.map_some, ii_lit, ll_lit, ii_neg, ll_neg, ii_add, ii_sub, ii_mul, ll_add, ll_sub, ll_mul, ii_le, ii_lt, ii_eq, ii_t, bi_0, bi_1, rd_z, wr_z, rr_z, rl_z, wl_z, tn_n, st_s, st_j, st_i, st_c, st_2, sl_s, sl_j, sl_i, sl_c, sl_1, Int.natCast_add, Int.cast_ofNat_Int, if_pos, if_neg, decide_eq_false_iff_not, decide_eq_true_eq, in_ll, ii_long, Nat.zero_add, Nat.mul_zero, reduceCtorEq]
          · simp (disch := omega) only [n1, c1, e1, s2, n2, x1, x5, x6, x7, spn, if_true, if_false, Option.bind_some, Option.map_some, ii_lit, ll_lit, ii_neg, ll_neg, ii_add, ii_sub, ii_mul, ll_add, ll_sub, ll_mul, ii_le, ii_lt, ii_eq, ii_t, bi_0, bi_1, rd_z, wr_z, rr_z, rl_z, wl_z, tn_n, st_s, st_j, st_i, st_c, st_2, sl_s, sl_j, sl_i, sl_c, sl_1, Int.natCast_add, Int.cast_ofNat_Int, if_pos, if_neg, decide_eq_false_iff_not, decide_eq_true_eq, in_ll, ii_long, Nat.zero_add, Nat.mul_zero, reduceCtorEq]
      · unfold fX8_best fX8_best_0
        by_cases w0 : w = 0
        · simp (disch := omega) only [c2, e2, s3, y1, y2, y3, y4, if_true, if_false, Option.bind_some, Option.map_some, ii_lit, ll_lit, ii_neg, ll_neg, ii_add, ii_sub, ii_mul, ll_add, ll_sub, ll_mul, ii_le, ii_lt, ii_eq, ii_t, bi_0, bi_1, rd_z, wr_z, rr_z, rl_z, wl_z, tn_n, st_s, st_j, st_i, st_c, st_2, sl_s, sl_j, sl_i, sl_c, sl_1, Int.natCast_add, Int.cast_ofNat_Int, if_pos, if_neg, decide_eq_false_iff_not, decide_eq_true_eq, in_ll, ii_long, Nat.zero_add, Nat.mul_zero, reduceCtorEq]
        · by_cases w1 : w = 1
          · simp (disch := omega) only [c2, e2, s3, y1, y2, y3, y4, if_true, if_false, Option.bind_some, Option.map_some, ii_lit, ll_lit, ii_neg, ll_neg, ii_add, ii_sub, ii_mul, ll_add, ll_sub, ll_mul, ii_le, ii_lt, ii_eq, ii_t, bi_0, bi_1, rd_z, wr_z, rr_z, rl_z, wl_z, tn_n, st_s, st_j, st_i, st_c, st_2, sl_s, sl_j, sl_i, sl_c, sl_1, Int.natCast_add, Int.cast_ofNat_Int, if_pos, if_neg, decide_eq_false_iff_not, decide_eq_true_eq, in_ll, ii_long, Nat.zero_add, Nat.mul_zero, reduceCtorEq]
          · simp (disch := omega) only [c2, e2, s3, y1, y2, y3, y4, if_true, if_false, Option.bind_some, Option.map_some, ii_lit, ll_lit, ii_neg, ll_neg, ii_add, ii_sub, ii_mul, ll_add, ll_sub, ll_mul, ii_le, ii_lt, ii_eq, ii_t, bi_0, bi_1, rd_z, wr_z, rr_z, rl_z, wl_z, tn_n, st_s, st_j, st_i, st_c, st_2, sl_s, sl_j, sl_i, sl_c, sl_1, Int.natCast_add, Int.cast_ofNat_Int, if_pos, if_neg, decide_eq_false_iff_not, decide_eq_true_eq, in_ll, ii_long, Nat.zero_add, Nat.mul_zero, reduceCtorEq]
  · obtain ⟨σ', τ', e3, e4, hr⟩ := fd0 hR
    refine ⟨ii (-1000000001), σ', τ', ?_, ?_, _, hr⟩
    · unfold fX7_best fX7_best_0 fX7_best_27
      by_cases k1 : d < 0
      · simp (disch := omega) only [n1, c1, e3, if_true, if_false, Option.bind_some, Option.map_some, ii_lit, ll_lit, ii_neg, ll_neg, ii_add, ii_sub, ii_mul, ll_add, ll_sub, ll_mul, ii_le, ii_lt, ii_eq, ii_t, bi_0, bi_1, rd_z, wr_z, rr_z, rl_z, wl_z, tn_n, st_s, st_j, st_i, st_c, st_2, sl_s, sl_j, sl_i, sl_c, sl_1, Int.natCast_add, Int.cast_ofNat_Int, if_pos, if_neg, decide_eq_false_iff_not, decide_eq_true_eq, in_ll, ii_long, Nat.zero_add, Nat.mul_zero, reduceCtorEq]
      · by_cases k2 : (d5 A.n : Int) ≤ d
        · simp (disch := omega) only [n1, c1, e3, if_true, if_false, Option.bind_some, Option.map_some, ii_lit, ll_lit, ii_neg, ll_neg, ii_add, ii_sub, ii_mul, ll_add, ll_sub, ll_mul, ii_le, ii_lt, ii_eq, ii_t, bi_0, bi_1, rd_z, wr_z, rr_z, rl_z, wl_z, tn_n, st_s, st_j, st_i, st_c, st_2, sl_s, sl_j, sl_i, sl_c, sl_1, Int.natCast_add, Int.cast_ofNat_Int, if_pos, if_neg, decide_eq_false_iff_not, decide_eq_true_eq, in_ll, ii_long, Nat.zero_add, Nat.mul_zero, reduceCtorEq]
        · by_cases k3 : w < 0
          · simp (disch := omega) only [n1, c1, e3, if_true, if_false, Option.bind_some, Option.map_some, ii_lit, ll_lit, ii_neg, ll_neg, ii_add, ii_sub, ii_mul, ll_add, ll_sub, ll_mul, ii_le, ii_lt, ii_eq, ii_t, bi_0, bi_1, rd_z, wr_z, rr_z, rl_z, wl_z, tn_n, st_s, st_j, st_i, st_c, st_2, sl_s, sl_j, sl_i, sl_c, sl_1, Int.natCast_add, Int.cast_ofNat_Int, if_pos, if_neg, decide_eq_false_iff_not, decide_eq_true_eq, in_ll, ii_long, Nat.zero_add, Nat.mul_zero, reduceCtorEq]
          · simp (disch := omega) only [n1, c1, e3, if_true, if_false, Option.bind_some, Option.map_some, ii_lit, ll_lit, ii_neg, ll_neg, ii_add, ii_sub, ii_mul, ll_add, ll_sub, ll_mul, ii_le, ii_lt, ii_eq, ii_t, bi_0, bi_1, rd_z, wr_z, rr_z, rl_z, wl_z, tn_n, st_s, st_j, st_i, st_c, st_2, sl_s, sl_j, sl_i, sl_c, sl_1, Int.natCast_add, Int.cast_ofNat_Int, if_pos, if_neg, decide_eq_false_iff_not, decide_eq_true_eq, in_ll, ii_long, Nat.zero_add, Nat.mul_zero, reduceCtorEq]
    · unfold fX8_best fX8_best_0 fX8_best_28
      by_cases k1 : 0 ≤ d ∧ d < d5 A.n
      · simp (disch := omega) only [c2, e4, if_true, if_false, Option.bind_some, Option.map_some, ii_lit, ll_lit, ii_neg, ll_neg, ii_add, ii_sub, ii_mul, ll_add, ll_sub, ll_mul, ii_le, ii_lt, ii_eq, ii_t, bi_0, bi_1, rd_z, wr_z, rr_z, rl_z, wl_z, tn_n, st_s, st_j, st_i, st_c, st_2, sl_s, sl_j, sl_i, sl_c, sl_1, Int.natCast_add, Int.cast_ofNat_Int, if_pos, if_neg, decide_eq_false_iff_not, decide_eq_true_eq, in_ll, ii_long, Nat.zero_add, Nat.mul_zero, reduceCtorEq]
      · simp (disch := omega) only [c2, e4, if_true, if_false, Option.bind_some, Option.map_some, ii_lit, ll_lit, ii_neg, ll_neg, ii_add, ii_sub, ii_mul, ll_add, ll_sub, ll_mul, ii_le, ii_lt, ii_eq, ii_t, bi_0, bi_1, rd_z, wr_z, rr_z, rl_z, wl_z, tn_n, st_s, st_j, st_i, st_c, st_2, sl_s, sl_j, sl_i, sl_c, sl_1, Int.natCast_add, Int.cast_ofNat_Int, if_pos, if_neg, decide_eq_false_iff_not, decide_eq_true_eq, in_ll, ii_long, Nat.zero_add, Nat.mul_zero, reduceCtorEq]
