theorem M_round {σ τ : mm} {A : bdy} (hR : RelA σ τ A) (hl : lookP τ A) {p : Nat} (hp : p < np A) (hat : atM τ A (pt A p)) : ∃ τ', lp fX8_round_21_L (ii 10000, ii 0, τ) = some (ii (mni (dst A p) (fun q => !inP A q) (mni (sdq A p) (fun _ => true) 10000 A.n) (np A)), τ') ∧ RelA σ τ' A := by
  obtain ⟨⟨hC, hM, hA⟩, -⟩ := id hR
  have hn1 := hA.1
  have hcn := cnt_le hA
  have hS : ∃ S, S = mni (sdq A p) (fun _ => true) 10000 A.n := ⟨_, rfl⟩
  obtain ⟨S, hS⟩ := hS
  have hSr : 0 ≤ S ∧ S ≤ 10000 := by
    rw [hS]
    exact mni_r (by omega) (fun j hj => (sdq_r hA p (by omega)).1)
  have key : ∃ r, lp fX8_round_21_L (ii 10000, ii 0, τ) = some r ∧ (r.1 = ii (mni (dst A p) (fun q => !inP A q) S (np A)) ∧ Fr [48, 56] [] τ r.2) := by
    refine lp_j (fun k s => s.1 = ii (mni (sdq A p) (fun _ => true) 10000 k) ∧ s.2.1 = ii k ∧ (∀ l, l < k → s.2.2.1 56 0 l = ii (pt A p l)) ∧ Fr [56] [] τ s.2.2) _ A.n ⟨rfl, rfl, fun l hl => by omega, Fr.rf _ _ _⟩ ?_ ?_
    · rintro k ⟨a, b, s⟩ hk ⟨g1, g2, g3, g4⟩
      have g1 : a = ii (mni (sdq A p) (fun _ => true) 10000 k) := g1
      have g2 : b = ii k := g2
      have g4 : Fr [56] [] τ s := g4
      subst g1 g2
      have h1 := pt_r hA p (l := k) (by omega)
      have h2 := hA.bx (l := k) (by omega)
      have h3 := sdq_r hA p (l := k) (by omega)
      have h4 := mni_r (f := sdq A p) (P := fun _ => true) (b := 10000) (k := k) (lo := 0) (by omega) (fun j hj => (sdq_r hA p (by omega)).1)
      have n1 : s.1 32 0 1 = ii A.n := by rw [g4.2.2 1 (by decide)]; exact hM.2.1
      have l1 : s.1 42 0 k = ii (A.lo k) := by rw [g4.1 42 (by decide) (by decide)]; exact hM.2.2.2.1 k (by omega)
      have l2 : s.1 43 0 k = ii (A.hi k) := by rw [g4.1 43 (by decide) (by decide)]; exact hM.2.2.2.2.1 k (by omega)
      have l3 : s.2 48 0 k = ll (pt A p k) := by rw [g4.2.1 48 (by decide)]; exact hat k hk
      have e2 : mn (pt A p k - A.lo k + 1) (A.hi k - pt A p k + 1) * mn (pt A p k - A.lo k + 1) (A.hi k - pt A p k + 1) = sdq A p k := rfl
      refine ⟨(ii (mni (sdq A p) (fun _ => true) 10000 (k + 1)), ii ((k + 1 : Nat)), stI s 56 0 k (ii (pt A p k))), ?_, rfl, rfl, ?_, g4.sI (by decide) (by decide)⟩
      · rw [mni, if_pos rfl]
        by_cases c1 : A.hi k - pt A p k + 1 ≤ pt A p k - A.lo k + 1
        · have e1 : A.hi k - pt A p k + 1 = mn (pt A p k - A.lo k + 1) (A.hi k - pt A p k + 1) := by
            unfold mn
            split <;> omega
          rw [← e1] at e2
          by_cases c2 : mni (sdq A p) (fun _ => true) 10000 k ≤ sdq A p k
          · have e3 : mn (mni (sdq A p) (fun _ => true) 10000 k) (sdq A p k) = mni (sdq A p) (fun _ => true) 10000 k := by
              unfold mn
              split <;> omega
            simp (disch := omega) only [fX8_round_21_L, fX8_round_21, fX8_round_90, fX8_round_110, n1, l1, l2, l3, ll_int, e2, e3, if_true, if_false, Option.bind_some, Option.map_some, ii_lit, ll_lit, ii_neg, ll_neg, ii_add, ii_sub, ii_mul, ll_add, ll_sub, ll_mul, ii_le, ii_lt, ii_eq, ii_t, bi_0, bi_1, rd_z, wr_z, rr_z, rl_z, wl_z, tn_n, st_s, st_j, st_i, st_c, st_2, sl_s, sl_j, sl_i, sl_c, sl_1, Int.natCast_add, Int.cast_ofNat_Int, if_pos, if_neg, decide_eq_false_iff_not, decide_eq_true_eq, in_ll, ii_long, Nat.zero_add, Nat.mul_zero, reduceCtorEq]
          · have e3 : mn (mni (sdq A p) (fun _ => true) 10000 k) (sdq A p k) = sdq A p k := by
              unfold mn
              split <;> omega
            simp (disch := omega) only [fX8_round_21_L, fX8_round_21, fX8_round_90, fX8_round_110, n1, l1, l2, l3, ll_int, e2, e3, if_true, if_false, Option.bind_some, Option.map_some, ii_lit, ll_lit, ii_neg, ll_neg, ii_add, ii_sub, ii_mul, ll_add, ll_sub, ll_mul, ii_le, ii_lt, ii_eq, ii_t, bi_0, bi_1, rd_z, wr_z, rr_z, rl_z, wl_z, tn_n, st_s, st_j, st_i, st_c, st_2, sl_s, sl_j, sl_i, sl_c, sl_1, Int.natCast_add, Int.cast_ofNat_Int, if_pos, if_neg, decide_eq_false_iff_not, decide_eq_true_eq, in_ll, ii_long, Nat.zero_add, Nat.mul_zero, reduceCtorEq]
        · have e1 : pt A p k - A.lo k + 1 = mn (pt A p k - A.lo k + 1) (A.hi k - pt A p k + 1) := by
            unfold mn
            split <;> omega
          rw [← e1] at e2
          by_cases c2 : mni (sdq A p) (fun _ => true) 10000 k ≤ sdq A p k
          · have e3 : mn (mni (sdq A p) (fun _ => true) 10000 k) (sdq A p k) = mni (sdq A p) (fun _ => true) 10000 k := by
              unfold mn
              split <;> omega
            simp (disch := omega) only [fX8_round_21_L, fX8_round_21, fX8_round_90, fX8_round_110, n1, l1, l2, l3, ll_int, e2, e3, if_true, if_false, Option.bind_some, Option.map_some, ii_lit, ll_lit, ii_neg, ll_neg, ii_add, ii_sub, ii_mul, ll_add, ll_sub, ll_mul, ii_le, ii_lt, ii_eq, ii_t, bi_0, bi_1, rd_z, wr_z, rr_z, rl_z, wl_z, tn_n, st_s, st_j, st_i, st_c, st_2, sl_s, sl_j, sl_i, sl_c, sl_1, Int.natCast_add, Int.cast_ofNat_Int, if_pos, if_neg, decide_eq_false_iff_not, decide_eq_true_eq, in_ll, ii_long, Nat.zero_add, Nat.mul_zero, reduceCtorEq]
          · have e3 : mn (mni (sdq A p) (fun _ => true) 10000 k) (sdq A p k) = sdq A p k := by
              unfold mn
              split <;> omega
            simp (disch := omega) only [fX8_round_21_L, fX8_round_21, fX8_round_90, fX8_round_110, n1, l1, l2, l3, ll_int, e2, e3, if_true, if_false, Option.bind_some, Option.map_some, ii_lit, ll_lit, ii_neg, ll_neg, ii_add, ii_sub, ii_mul, ll_add, ll_sub, ll_mul, ii_le, ii_lt, ii_eq, ii_t, bi_0, bi_1, rd_z, wr_z, rr_z, rl_z, wl_z, tn_n, st_s, st_j, st_i, st_c, st_2, sl_s, sl_j, sl_i, sl_c, sl_1, Int.natCast_add, Int.cast_ofNat_Int, if_pos, if_neg, decide_eq_false_iff_not, decide_eq_true_eq, in_ll, ii_long, Nat.zero_add, Nat.mul_zero, reduceCtorEq]
      · intro l hl
        show (stI s 56 0 k _).1 56 0 l = _
        by_cases hlk : l = k
        · subst hlk
          rw [st_s]
        · rw [st_j _ _ hlk]
          exact g3 l (by omega)
    · rintro ⟨a, b, s⟩ ⟨g1, g2, g3, g4⟩
      have g1 : a = ii (mni (sdq A p) (fun _ => true) 10000 A.n) := g1
      rw [← hS] at g1
      have g2 : b = ii A.n := g2
      have g4 : Fr [56] [] τ s := g4
      subst g1 g2
      have hMs := hM.fr g4 (by decide) (by decide)
      have inner : ∃ r, lp (fX8_round_125_L (ii (pts A))) (ii S, ii 0, s) = some r ∧ (r.1 = ii (mni (dst A p) (fun q => !inP A q) S (np A)) ∧ Fr [48] [] s r.2) := by
        have hnp : pts A = (np A : Int) := by have := hA.p1; unfold np; omega
        refine lp_j (fun k z => z.1 = ii (mni (dst A p) (fun q => !inP A q) S k) ∧ z.2.1 = ii k ∧ Fr [48] [] s z.2.2) _ (np A) ⟨rfl, rfl, Fr.rf _ _ _⟩ ?_ ?_
        · rintro k ⟨a, b, z⟩ hk ⟨y1, y2, y3⟩
          have y1 : a = ii (mni (dst A p) (fun q => !inP A q) S k) := y1
          have y2 : b = ii k := y2
          have y3 : Fr [48] [] s z := y3
          subst y1 y2
          have hMz := hMs.fr y3 (by decide) (by decide)
          have n1 : z.1 32 0 1 = ii A.n := hMz.2.1
          have lz : lookP z A := (hl.fr g4 (by decide) (by decide)).fr y3 (by decide) (by decide)
          have e1 := lz.2.1 k hk
          have e2 := M_allRows hMz hA
          have hh := held_iff (A := A) k
          have h3 : 0 ≤ dst A p k ∧ dst A p k ≤ 1296 := dst_r hA p k (Nat.le_refl _)
          have h4 := mni_r (f := dst A p) (P := fun q => !inP A q) (b := S) (k := k) (lo := 0) (by omega) (fun j hj => (dst_r hA p j (Nat.le_refl _)).1)
          have hm : mkf (hdr A (pt A k)) A.R < 256 := by
            have q1 := mkf_lt (hdr A (pt A k)) A.R
            have q2 : (2 : Nat) ^ A.R ≤ 2 ^ 8 := Nat.pow_le_pow_right (by decide) hA.2.1
            omega
          have hm2 : 2 ^ A.R - 1 < 256 := by
            have q2 : (2 : Nat) ^ A.R ≤ 2 ^ 8 := Nat.pow_le_pow_right (by decide) hA.2.1
            omega
          by_cases hin : inP A k = true
          · have hq' : ((mkf (hdr A (pt A k)) A.R : Nat) : Int) = ((2 ^ A.R - 1 : Nat) : Int) := by have := hh.mpr hin; omega
            refine ⟨(ii (mni (dst A p) (fun q => !inP A q) S (k + 1)), ii ((k + 1 : Nat)), z), ?_, rfl, rfl, y3⟩
            simp (disch := omega) only [fX8_round_125_L, fX8_round_125, fX8_round_213, hnp, e1, e2, mni, hin, Bool.not_true, if_true, if_false, Option.bind_some, Option.map_some, ii_lit, ll_lit, ii_neg, ll_neg, ii_add, ii_sub, ii_mul, ll_add, ll_sub, ll_mul, ii_le, ii_lt, ii_eq, ii_t, bi_0, bi_1, rd_z, wr_z, rr_z, rl_z, wl_z, tn_n, st_s, st_j, st_i, st_c, st_2, sl_s, sl_j, sl_i, sl_c, sl_1, Int.natCast_add, Int.cast_ofNat_Int, if_pos, if_neg, decide_eq_false_iff_not, decide_eq_true_eq, in_ll, ii_long, Nat.zero_add, Nat.mul_zero, reduceCtorEq]
          · have hq' : ¬ ((mkf (hdr A (pt A k)) A.R : Nat) : Int) = ((2 ^ A.R - 1 : Nat) : Int) := by
              intro e
              exact hin (hh.mp (by omega))
            obtain ⟨z', e3, o1, o2, o3⟩ := M_goesTo hMz hA hk
            have n2 : z'.1 32 0 1 = ii A.n := by rw [o3]; exact n1
            have far : lp (fX8_round_157_L (ii (mni (dst A p) (fun q => !inP A q) S k)) (ii (pts A)) (ii k) z') (ii 0, ii 0) = some (.inl (ii (mni (dst A p) (fun q => !inP A q) S (k + 1)), ii ((k + 1 : Nat)), z')) := by
              refine lp_f (fun j => (ii (smf (fun l => (pt A p l - pt A k l) * (pt A p l - pt A k l)) j), ii j)) A.n rfl ?_ ?_
              · intro j hj
                have e56 : z'.1 56 0 j = ii (pt A p j) := by
                  rw [o3, y3.1 56 (by decide) (by decide)]
                  exact g3 j hj
                have e48 := o1 j hj
                have esq : (pt A k j - pt A p j) * (pt A k j - pt A p j) = (pt A p j - pt A k j) * (pt A p j - pt A k j) := by
                  rw [← Int.neg_sub (pt A p j) (pt A k j), Int.neg_mul_neg]
                simp (disch := omega) only [fX8_round_157_L, fX8_round_157, n2, e56, e48, ll_int, esq, smf, if_true, if_false, Option.bind_some, Option.map_some, ii_lit, ll_lit, ii_neg, ll_neg, ii_add, ii_sub, ii_mul, ll_add, ll_sub, ll_mul, ii_le, ii_lt, ii_eq, ii_t, bi_0, bi_1, rd_z, wr_z, rr_z, rl_z, wl_z, tn_n, st_s, st_j, st_i, st_c, st_2, sl_s, sl_j, sl_i, sl_c, sl_1, Int.natCast_add, Int.cast_ofNat_Int, if_pos, if_neg, decide_eq_false_iff_not, decide_eq_true_eq, in_ll, ii_long, Nat.zero_add, Nat.mul_zero, reduceCtorEq]
              · have ed : smf (fun l => (pt A p l - pt A k l) * (pt A p l - pt A k l)) A.n = dst A p k := rfl
                have hn : (!inP A k) = true := by simpa using hin
                rw [mni, if_pos hn]
                by_cases c2 : mni (dst A p) (fun q => !inP A q) S k ≤ dst A p k
                · have e4 : mn (mni (dst A p) (fun q => !inP A q) S k) (dst A p k) = mni (dst A p) (fun q => !inP A q) S k := by
                    unfold mn
                    split <;> omega
                  simp (disch := omega) only [fX8_round_157_L, fX8_round_157, fX8_round_212, fX8_round_213, n2, ed, e4, if_true, if_false, Option.bind_some, Option.map_some, ii_lit, ll_lit, ii_neg, ll_neg, ii_add, ii_sub, ii_mul, ll_add, ll_sub, ll_mul, ii_le, ii_lt, ii_eq, ii_t, bi_0, bi_1, rd_z, wr_z, rr_z, rl_z, wl_z, tn_n, st_s, st_j, st_i, st_c, st_2, sl_s, sl_j, sl_i, sl_c, sl_1, Int.natCast_add, Int.cast_ofNat_Int, if_pos, if_neg, decide_eq_false_iff_not, decide_eq_true_eq, in_ll, ii_long, Nat.zero_add, Nat.mul_zero, reduceCtorEq]
                · have e4 : mn (mni (dst A p) (fun q => !inP A q) S k) (dst A p k) = dst A p k := by
                    unfold mn
                    split <;> omega
                  simp (disch := omega) only [fX8_round_157_L, fX8_round_157, fX8_round_212, fX8_round_213, n2, ed, e4, if_true, if_false, Option.bind_some, Option.map_some, ii_lit, ll_lit, ii_neg, ll_neg, ii_add, ii_sub, ii_mul, ll_add, ll_sub, ll_mul, ii_le, ii_lt, ii_eq, ii_t, bi_0, bi_1, rd_z, wr_z, rr_z, rl_z, wl_z, tn_n, st_s, st_j, st_i, st_c, st_2, sl_s, sl_j, sl_i, sl_c, sl_1, Int.natCast_add, Int.cast_ofNat_Int, if_pos, if_neg, decide_eq_false_iff_not, decide_eq_true_eq, in_ll, ii_long, Nat.zero_add, Nat.mul_zero, reduceCtorEq]
            refine ⟨(ii (mni (dst A p) (fun q => !inP A q) S (k + 1)), ii ((k + 1 : Nat)), z'), ?_, rfl, rfl, y3.tr o2⟩
            rw [← far, hnp]
            simp (disch := omega) only [fX8_round_125_L, fX8_round_125, fX8_round_213, e1, e2, e3, if_true, if_false, Option.bind_some, Option.map_some, ii_lit, ll_lit, ii_neg, ll_neg, ii_add, ii_sub, ii_mul, ll_add, ll_sub, ll_mul, ii_le, ii_lt, ii_eq, ii_t, bi_0, bi_1, rd_z, wr_z, rr_z, rl_z, wl_z, tn_n, st_s, st_j, st_i, st_c, st_2, sl_s, sl_j, sl_i, sl_c, sl_1, Int.natCast_add, Int.cast_ofNat_Int, if_pos, if_neg, decide_eq_false_iff_not, decide_eq_true_eq, in_ll, ii_long, Nat.zero_add, Nat.mul_zero, reduceCtorEq]
        · rintro ⟨a, b, z⟩ ⟨y1, y2, y3⟩
          have y1 : a = ii (mni (dst A p) (fun q => !inP A q) S (np A)) := y1
          have y2 : b = ii (np A) := y2
          subst y1 y2
          refine ⟨(ii (mni (dst A p) (fun q => !inP A q) S (np A)), z), ?_, rfl, y3⟩
          simp (disch := omega) only [fX8_round_125_L, fX8_round_125, hnp, if_true, if_false, Option.bind_some, Option.map_some, ii_lit, ll_lit, ii_neg, ll_neg, ii_add, ii_sub, ii_mul, ll_add, ll_sub, ll_mul, ii_le, ii_lt, ii_eq, ii_t, bi_0, bi_1, rd_z, wr_z, rr_z, rl_z, wl_z, tn_n, st_s, st_j, st_i, st_c, st_2, sl_s, sl_j, sl_i, sl_c, sl_1, Int.natCast_add, Int.cast_ofNat_Int, if_pos, if_neg, decide_eq_false_iff_not, decide_eq_true_eq, in_ll, ii_long, Nat.zero_add, Nat.mul_zero, reduceCtorEq]
      obtain ⟨r, e, r1, r2⟩ := inner
      refine ⟨r, ?_, r1, (g4.mono (by decide) (by decide)).tr (r2.mono (by decide) (by decide))⟩
      have n1 : s.1 32 0 1 = ii A.n := hMs.2.1
      have pp := M_points hMs
      simp (disch := omega) only [fX8_round_21_L, fX8_round_21, n1, pp, e, if_true, if_false, Option.bind_some, Option.map_some, ii_lit, ll_lit, ii_neg, ll_neg, ii_add, ii_sub, ii_mul, ll_add, ll_sub, ll_mul, ii_le, ii_lt, ii_eq, ii_t, bi_0, bi_1, rd_z, wr_z, rr_z, rl_z, wl_z, tn_n, st_s, st_j, st_i, st_c, st_2, sl_s, sl_j, sl_i, sl_c, sl_1, Int.natCast_add, Int.cast_ofNat_Int, if_pos, if_neg, decide_eq_false_iff_not, decide_eq_true_eq, in_ll, ii_long, Nat.zero_add, Nat.mul_zero, reduceCtorEq]
  obtain ⟨⟨r, τ'⟩, e, r1, r2⟩ := key
  have r1 : r = ii (mni (dst A p) (fun q => !inP A q) S (np A)) := r1
  subst r1
  rw [hS] at e
  exact ⟨τ', e, hR.m (r2.mono (by decide) (by decide))⟩
theorem m_round {σ τ : mm} (h : Rel σ τ) (a : Int32) : Ag (fX7_round a σ) (fX8_round a τ) := by
  obtain ⟨A, hR⟩ := h
  obtain ⟨⟨hC, hM, hA⟩, -⟩ := id hR
  obtain ⟨a, rfl, h1, h2⟩ := ii_ex a
  have hn1 := hA.1
  have hcn := cnt_le hA
  obtain ⟨σ1, e1, f1, f2, -⟩ := hR.cloud
  rcases both_in f1 f2 h1 h2 with ⟨p, τ1, w1, w2, w3, w4, w5, w6, w7⟩ | ⟨τ1, w1, w2, w3⟩
  · obtain ⟨τ2, e2, g1⟩ := M_round w5 w6 w1 w7
    rw [rnd_eq hA p] at e2
    have t1 := C_toSides w5 f2 w1
    have t2 := C_toBroken f2 hA w1
    have n1 := f1.1.1.2.1
    have b1 := mni_r (f := sdq A p) (P := fun _ => true) (b := 1000000000) (k := A.n) (lo := 0) (by omega) (fun j hj => (sdq_r hA p (by omega)).1)
    have b2 := mni_r (f := dst A p) (P := fun q => !inP A q) (b := 1000000000) (k := np A) (lo := 0) (by omega) (fun j hj => (dst_r hA p j (Nat.le_refl _)).1)
    have e5 := min_ii (a := mni (sdq A p) (fun _ => true) 1000000000 A.n) (b := mni (dst A p) (fun q => !inP A q) 1000000000 (np A)) (by omega) (by omega) (by omega) (by omega)
    refine ⟨ii (mn (mni (sdq A p) (fun _ => true) 1000000000 A.n) (mni (dst A p) (fun q => !inP A q) 1000000000 (np A))), σ1, τ2, ?_, ?_, _, g1⟩
    · unfold fX7_round fX7_round_0
      simp (disch := omega) only [e1, w3, t1, n1, t2, e5, mn, if_true, if_false, Option.bind_some, Option.map_some, ii_lit, ll_lit, ii_neg, ll_neg, ii_add, ii_sub, ii_mul, ll_add, ll_sub, ll_mul, ii_le, ii_lt, ii_eq, ii_t, bi_0, bi_1, rd_z, wr_z, rr_z, rl_z, wl_z, tn_n, st_s, st_j, st_i, st_c, st_2, sl_s, sl_j, sl_i, sl_c, sl_1, Int.natCast_add, Int.cast_ofNat_Int, if_pos, if_neg, decide_eq_false_iff_not, decide_eq_true_eq, in_ll, ii_long, Nat.zero_add, Nat.mul_zero, reduceCtorEq]
    · unfold fX8_round fX8_round_0
      simp (disch := omega) only [w4, e2, if_true, if_false, Option.bind_some, Option.map_some, ii_lit, ll_lit, ii_neg, ll_neg, ii_add, ii_sub, ii_mul, ll_add, ll_sub, ll_mul, ii_le, ii_lt, ii_eq, ii_t, bi_0, bi_1, rd_z, wr_z, rr_z, rl_z, wl_z, tn_n, st_s, st_j, st_i, st_c, st_2, sl_s, sl_j, sl_i, sl_c, sl_1, Int.natCast_add, Int.cast_ofNat_Int, if_pos, if_neg, decide_eq_false_iff_not, decide_eq_true_eq, in_ll, ii_long, Nat.zero_add, Nat.mul_zero, reduceCtorEq]
  · obtain ⟨σ', τ', e3, e4, hr⟩ := fd3 w3
    refine ⟨ii (-1000000004), σ', τ', ?_, ?_, _, hr⟩
    · unfold fX7_round fX7_round_0
      simp (disch := omega) only [e1, w1, e3, if_true, if_false, Option.bind_some, Option.map_some, ii_lit, ll_lit, ii_neg, ll_neg, ii_add, ii_sub, ii_mul, ll_add, ll_sub, ll_mul, ii_le, ii_lt, ii_eq, ii_t, bi_0, bi_1, rd_z, wr_z, rr_z, rl_z, wl_z, tn_n, st_s, st_j, st_i, st_c, st_2, sl_s, sl_j, sl_i, sl_c, sl_1, Int.natCast_add, Int.cast_ofNat_Int, if_pos, if_neg, decide_eq_false_iff_not, decide_eq_true_eq, in_ll, ii_long, Nat.zero_add, Nat.mul_zero, reduceCtorEq]
    · unfold fX8_round fX8_round_0
      simp (disch := omega) only [w2, e4, if_true, if_false, Option.bind_some, Option.map_some, ii_lit, ll_lit, ii_neg, ll_neg, ii_add, ii_sub, ii_mul, ll_add, ll_sub, ll_mul, ii_le, ii_lt, ii_eq, ii_t, bi_0, bi_1, rd_z, wr_z, rr_z, rl_z, wl_z, tn_n, st_s, st_j, st_i, st_c, st_2, sl_s, sl_j, sl_i, sl_c, sl_1, Int.natCast_add, Int.cast_ofNat_Int, if_pos, if_neg, decide_eq_false_iff_not, decide_eq_true_eq, in_ll, ii_long, Nat.zero_add, Nat.mul_zero, reduceCtorEq]
