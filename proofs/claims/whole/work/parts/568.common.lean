-- common, lies
theorem RelA.cloudF {σ τ : mm} {A : bdy} (hR : RelA σ τ A) : ∃ σ', fX1_refresh 0 σ = some σ' ∧ RelA σ' τ A ∧ cloudP σ' A ∧ Fr [1, 12, 13] [] σ σ' := by
  obtain ⟨⟨hC, hM, hA⟩, ⟨b1, b2⟩, hX⟩ := id hR
  rcases b1 with b1 | ⟨b1, b3, b4⟩
  · obtain ⟨σ', e, f1, f2, f3, f4⟩ := C_refresh hC hA b1
    exact ⟨σ', e, ⟨⟨hC.fr f4 (by decide), hM, hA⟩, ⟨Or.inr ⟨f1, f2, Or.inl f3⟩, b2.c f4 (by decide)⟩, hX.c f4 (by decide)⟩, f2, f4⟩
  · refine ⟨σ, ?_, hR, b3, Fr.rf _ _ _⟩
    unfold fX1_refresh fX1_refresh_0
    simp (disch := omega) only [b1, if_true, if_false, Option.bind_some, Option.map_some, ii_lit, ll_lit, ii_neg, ll_neg, ii_add, ii_sub, ii_mul, ll_add, ll_sub, ll_mul, ii_le, ii_lt, ii_eq, ii_t, bi_0, bi_1, rd_z, wr_z, rr_z, rl_z, wl_z, tn_n, st_s, st_j, st_i, st_c, st_2, sl_s, sl_j, sl_i, sl_c, sl_1, Int.natCast_add, Int.cast_ofNat_Int, if_pos, if_neg, decide_eq_false_iff_not, decide_eq_true_eq, in_ll, ii_long, Nat.zero_add, Nat.mul_zero, reduceCtorEq]
theorem RelA.looksF {σ τ : mm} {A : bdy} (hR : RelA σ τ A) : ∃ τ', fX8_looks τ = some τ' ∧ RelA σ τ' A ∧ lookP τ' A ∧ Fr [48, 49, 50] [11] τ τ' := by
  obtain ⟨⟨hC, hM, hA⟩, -⟩ := id hR
  obtain ⟨τ', e, g1, g2, g3, g4⟩ := M_looks hM hA
  exact ⟨τ', e, hR.m (g4.mono (by decide) (by decide)), ⟨g1, g2, g3⟩, g4⟩
theorem C_readInto {σ : mm} {A : bdy} (hc : cloudP σ A) (hA : okb A) {k : Nat} (hk : k < np A) : ∃ σ', fX1_readInto (ii k) (ii A.n) σ = some σ' ∧ (∀ l, l < A.n → σ'.1 20 0 l = ii (pt A k l)) ∧ Fr [20] [] σ σ' := by
  have hn1 := hA.1
  unfold fX1_readInto fX1_readInto_0
  refine lp_j (fun j (z : Int32 × mm) => z.1 = ii j ∧ (∀ l, l < j → z.2.1 20 0 l = ii (pt A k l)) ∧ Fr [20] [] σ z.2) _ A.n ⟨rfl, fun l hl => by omega, Fr.rf _ _ _⟩ ?_ ?_
  · rintro j ⟨a, z⟩ hj ⟨g1, g2, g3⟩
    simp only [] at g1 g2 g3
    subst g1
    have q := C_letterAt (hc.fr g3 (by decide)) hA hk hj
    refine ⟨(ii ((j + 1 : Nat)), stI z 20 0 j (ii (pt A k j))), ?_, rfl, fun l hl => ?_, g3.sI (by decide) (by decide)⟩
    · show fX1_readInto_3 (ii k) (ii A.n) (ii j) z = _
      unfold fX1_readInto_3
      simp (disch := omega) only [q, if_true, if_false, Option.bind_some, Option.map_some, ii_lit, ll_lit, ii_neg, ll_neg, ii_add, ii_sub, ii_mul, ll_add, ll_sub, ll_mul, ii_le, ii_lt, ii_eq, ii_t, bi_0, bi_1, rd_z, wr_z, rr_z, rl_z, wl_z, tn_n, st_s, st_j, st_i, st_c, st_2, sl_s, sl_j, sl_i, sl_c, sl_1, Int.natCast_add, Int.cast_ofNat_Int, if_pos, if_neg, decide_eq_false_iff_not, decide_eq_true_eq, in_ll, ii_long, Nat.zero_add, Nat.mul_zero, reduceCtorEq]
    · show (stI z 20 0 j _).1 20 0 l = _
      by_cases gl : l = j
      · subst gl
        rw [st_s]
      · rw [st_j _ _ gl]
        exact g2 l (by omega)
  · rintro ⟨a, z⟩ ⟨g1, g2, g3⟩
    simp only [] at g1 g2 g3
    subst g1
    refine ⟨z, ?_, g2, g3⟩
    show fX1_readInto_3 (ii k) (ii A.n) (ii A.n) z = _
    unfold fX1_readInto_3
    simp (disch := omega) only [if_true, if_false, Option.bind_some, Option.map_some, ii_lit, ll_lit, ii_neg, ll_neg, ii_add, ii_sub, ii_mul, ll_add, ll_sub, ll_mul, ii_le, ii_lt, ii_eq, ii_t, bi_0, bi_1, rd_z, wr_z, rr_z, rl_z, wl_z, tn_n, st_s, st_j, st_i, st_c, st_2, sl_s, sl_j, sl_i, sl_c, sl_1, Int.natCast_add, Int.cast_ofNat_Int, if_pos, if_neg, decide_eq_false_iff_not, decide_eq_true_eq, in_ll, ii_long, Nat.zero_add, Nat.mul_zero, reduceCtorEq]
def inl1 (A : bdy) (F : mat) (p : Nat) : Bool := isq A.n F A.n 0 (fun l => ll (pt A p l))
def cml (A : bdy) (F : mat) : Nat → Int := fdf (inP A) (fun p _ s => s + if inl1 A F p = true then 1 else 0) 0
theorem okF.pos {A : bdy} {F : mat} (h : okF A F) : pos A.n F := ⟨h.1, h.2.1⟩
theorem m_common {σ τ : mm} (h : Rel σ τ) : Ag (fX7_common σ) (fX8_common_ τ) := by
  obtain ⟨A, hR⟩ := h
  obtain ⟨⟨hC, hM, hA⟩, -⟩ := id hR
  have hn1 := hA.1
  obtain ⟨d, σ1, τ1, e1, e2, hr, hF, -⟩ := both hR
  by_cases hd : d = ii 0
  · subst hd
    obtain ⟨σ', τ', e3, e4, hr'⟩ := fd3 hr
    refine ⟨ii (-1000000004), σ', τ', ?_, ?_, _, hr'⟩
    · unfold fX7_common fX7_common_0
      simp (disch := omega) only [e1, e3, if_true, if_false, Option.bind_some, Option.map_some, ii_lit, ll_lit, ii_neg, ll_neg, ii_add, ii_sub, ii_mul, ll_add, ll_sub, ll_mul, ii_le, ii_lt, ii_eq, ii_t, bi_0, bi_1, rd_z, wr_z, rr_z, rl_z, wl_z, tn_n, st_s, st_j, st_i, st_c, st_2, sl_s, sl_j, sl_i, sl_c, sl_1, Int.natCast_add, Int.cast_ofNat_Int, if_pos, if_neg, decide_eq_false_iff_not, decide_eq_true_eq, in_ll, ii_long, Nat.zero_add, Nat.mul_zero, reduceCtorEq]
    · unfold fX8_common_ fX8_common__0
      simp (disch := omega) only [e2, e4, if_true, if_false, Option.bind_some, Option.map_some, ii_lit, ll_lit, ii_neg, ll_neg, ii_add, ii_sub, ii_mul, ll_add, ll_sub, ll_mul, ii_le, ii_lt, ii_eq, ii_t, bi_0, bi_1, rd_z, wr_z, rr_z, rl_z, wl_z, tn_n, st_s, st_j, st_i, st_c, st_2, sl_s, sl_j, sl_i, sl_c, sl_1, Int.natCast_add, Int.cast_ofNat_Int, if_pos, if_neg, decide_eq_false_iff_not, decide_eq_true_eq, in_ll, ii_long, Nat.zero_add, Nat.mul_zero, reduceCtorEq]
  · obtain ⟨F, m1, m2, hk⟩ := hF hd
    obtain ⟨σ2, e3, hr2, cl, f1⟩ := hr.cloudF
    obtain ⟨τ2, e4, hr3, lk, f2⟩ := hr2.looksF
    have m3 := m1.fr f1 (by decide) (by decide)
    have m4 := m2.fr f2 (by decide) (by decide)
    have hcn := cnt_le hA
    have lc : ∃ r, lp (fX7_common_35_L) (ii 0, ii 0, σ2) = some r ∧ (r.1 = ii (cml A F (np A)) ∧ Fr [20, 24] [] σ2 r.2) := by
      refine lp_j (fun k (z : Int32 × Int32 × mm) => z.1 = ii (cml A F k) ∧ z.2.1 = ii k ∧ Fr [20, 24] [] σ2 z.2.2) _ (np A) ⟨rfl, rfl, Fr.rf _ _ _⟩ ?_ ?_
      · rintro k ⟨a, b, z⟩ hk1 ⟨g1, g2, g3⟩
        simp only [] at g1 g2 g3
        subst g1 g2
        have cz := cl.fr g3 (by decide)
        have x0 := cz.1
        have q1 := C_isIn cz hA hk1
        by_cases hin : inP A k = true
        · obtain ⟨z1, e5, o1, o2⟩ := C_readInto cz hA hk1
          have nz : z.1 0 0 0 = ii A.n := by rw [g3.1 0 (by decide) (by decide)]; exact hr2.1.1.2.1
          obtain ⟨z2, e6, o3⟩ := C_contains (y0 := fun l => ll (pt A k l)) ((m3.fr g3 (by decide) (by decide)).fr o2 (by decide) (by decide)) hk.pos (fun l hl => by
            have := pt_9 hA k (l := l) (by omega)
            rw [o1 l hl, ii_long (by omega) (by omega)])
          have es : cml A F (k + 1) = cml A F k + if inl1 A F k = true then 1 else 0 := fdf_yes hin
          refine ⟨(ii (cml A F (k + 1)), ii ((k + 1 : Nat)), z2), ?_, rfl, rfl, (g3.tr (o2.mono (by decide) (by decide))).tr (o3.mono (by decide) (by decide))⟩
          show fX7_common_35 (ii (cml A F k)) (ii k) z = _
          unfold fX7_common_35 fX7_common_96 fX7_common_98
          rw [es]
          have e6 : fX2_contains z1 = some (inl1 A F k, z2) := e6
          generalize cml A F k = Q at *
          by_cases hi : inl1 A F k = true
          · rw [hi] at e6
            rw [if_pos hi]
            simp (disch := omega) only [x0, q1, hin, nz, e5, e6, if_true, if_false, Option.bind_some, Option.map_some, ii_lit, ll_lit, ii_neg, ll_neg, ii_add, ii_sub, ii_mul, ll_add, ll_sub, ll_mul, ii_le, ii_lt, ii_eq, ii_t, bi_0, bi_1, rd_z, wr_z, rr_z, rl_z, wl_z, tn_n, st_s, st_j, st_i, st_c, st_2, sl_s, sl_j, sl_i, sl_c, sl_1, Int.natCast_add, Int.cast_ofNat_Int, if_pos, if_neg, decide_eq_false_iff_not, decide_eq_true_eq, in_ll, ii_long, Nat.zero_add, Nat.mul_zero, reduceCtorEq]
          · rw [Bool.not_eq_true] at hi
            rw [hi] at e6
            rw [hi]
            simp (disch := omega) only [x0, q1, hin, nz, e5, e6, if_true, if_false, Option.bind_some, Option.map_some, ii_lit, ll_lit, ii_neg, ll_neg, ii_add, ii_sub, ii_mul, ll_add, ll_sub, ll_mul, ii_le, ii_lt, ii_eq, ii_t, bi_0, bi_1, rd_z, wr_z, rr_z, rl_z, wl_z, tn_n, st_s, st_j, st_i, st_c, st_2, sl_s, sl_j, sl_i, sl_c, sl_1, Int.natCast_add, Int.cast_ofNat_Int, if_pos, if_neg, decide_eq_false_iff_not, decide_eq_true_eq, in_ll, ii_long, Nat.zero_add, Nat.mul_zero, reduceCtorEq]
        · have es : cml A F (k + 1) = cml A F k := fdf_no hin
          rw [Bool.not_eq_true] at hin
          refine ⟨(ii (cml A F (k + 1)), ii ((k + 1 : Nat)), z), ?_, rfl, rfl, g3⟩
          show fX7_common_35 (ii (cml A F k)) (ii k) z = _
          unfold fX7_common_35 fX7_common_98
          rw [es]
          simp (disch := omega) only [x0, q1, hin, if_true, if_false, Option.bind_some, Option.map_some, ii_lit, ll_lit, ii_neg, ll_neg, ii_add, ii_sub, ii_mul, ll_add, ll_sub, ll_mul, ii_le, ii_lt, ii_eq, ii_t, bi_0, bi_1, rd_z, wr_z, rr_z, rl_z, wl_z, tn_n, st_s, st_j, st_i, st_c, st_2, sl_s, sl_j, sl_i, sl_c, sl_1, Int.natCast_add, Int.cast_ofNat_Int, if_pos, if_neg, decide_eq_false_iff_not, decide_eq_true_eq, in_ll, ii_long, Nat.zero_add, Nat.mul_zero, reduceCtorEq]
      · rintro ⟨a, b, z⟩ ⟨g1, g2, g3⟩
        simp only [] at g1 g2 g3
        subst g1 g2
        have x0 := (cl.fr g3 (by decide)).1
        refine ⟨(ii (cml A F (np A)), z), ?_, rfl, g3⟩
        show fX7_common_35 (ii (cml A F (np A))) (ii (np A)) z = _
        unfold fX7_common_35
        simp (disch := omega) only [x0, if_true, if_false, Option.bind_some, Option.map_some, ii_lit, ll_lit, ii_neg, ll_neg, ii_add, ii_sub, ii_mul, ll_add, ll_sub, ll_mul, ii_le, ii_lt, ii_eq, ii_t, bi_0, bi_1, rd_z, wr_z, rr_z, rl_z, wl_z, tn_n, st_s, st_j, st_i, st_c, st_2, sl_s, sl_j, sl_i, sl_c, sl_1, Int.natCast_add, Int.cast_ofNat_Int, if_pos, if_neg, decide_eq_false_iff_not, decide_eq_true_eq, in_ll, ii_long, Nat.zero_add, Nat.mul_zero, reduceCtorEq]
    have lm : ∃ r, lp (fX8_common__22_L) (ii 0, ii 0, τ2) = some r ∧ (r.1 = ii (cml A F (np A)) ∧ Fr [48, 65] [] τ2 r.2) := by
      refine lp_j (fun i (z : Int32 × Int32 × mm) => z.2.1 = ii i ∧ (∀ q, q ≤ np A → cnf (inP A) q = i → z.1 = ii (cml A F q)) ∧ Fr [48, 65] [] τ2 z.2.2) _ (cnf (inP A) (np A)) ⟨rfl, ?_, Fr.rf _ _ _⟩ ?_ ?_
      · intro q hq hc0
        have : cml A F q = cml A F 0 := fdf_same (by rw [hc0]; rfl)
        rw [this]
        rfl
      · rintro i ⟨a, b, z⟩ hi ⟨y1, y2, y3⟩
        simp only [] at y1 y2 y3
        subst y1
        obtain ⟨p, q1, q2, q3⟩ := cnf_ex (P := inP A) (n := np A) (i := i) (by omega)
        have y2' := y2 p (by omega) q3
        subst y2'
        have lz : lookP z A := lk.fr y3 (by decide) (by decide)
        have e5 := lz.2.2 p q1 q2
        rw [q3] at e5
        have s3 := lz.1
        obtain ⟨z1, e6, o1, o2, o3⟩ := M_goesTo (hr3.1.2.1.fr y3 (by decide) (by decide)) hA q1
        obtain ⟨z2, e7, o4⟩ := M_isl (y0 := fun l => ll (pt A p l)) ((m4.fr y3 (by decide) (by decide)).fr o2 (by decide) (by decide)) hk.pos o1
        have e7 : fX8_isInLattice z1 = some (inl1 A F p, z2) := e7
        have es : cml A F (p + 1) = cml A F p + if inl1 A F p = true then 1 else 0 := fdf_yes q2
        refine ⟨(ii (cml A F (p + 1)), ii ((i + 1 : Nat)), z2), ?_, rfl, ?_, (y3.tr (o2.mono (by decide) (by decide))).tr (o4.mono (by decide) (by decide))⟩
        · show fX8_common__22 (ii (cml A F p)) (ii i) z = _
          unfold fX8_common__22 fX8_common__53
          rw [es]
          generalize cml A F p = Q at *
          by_cases hi : inl1 A F p = true
          · rw [hi] at e7
            rw [if_pos hi]
            simp (disch := omega) only [s3, e5, e6, e7, if_true, if_false, Option.bind_some, Option.map_some, ii_lit, ll_lit, ii_neg, ll_neg, ii_add, ii_sub, ii_mul, ll_add, ll_sub, ll_mul, ii_le, ii_lt, ii_eq, ii_t, bi_0, bi_1, rd_z, wr_z, rr_z, rl_z, wl_z, tn_n, st_s, st_j, st_i, st_c, st_2, sl_s, sl_j, sl_i, sl_c, sl_1, Int.natCast_add, Int.cast_ofNat_Int, if_pos, if_neg, decide_eq_false_iff_not, decide_eq_true_eq, in_ll, ii_long, Nat.zero_add, Nat.mul_zero, reduceCtorEq]
          · rw [Bool.not_eq_true] at hi
            rw [hi] at e7
            rw [hi]
            simp (disch := omega) only [s3, e5, e6, e7, if_true, if_false, Option.bind_some, Option.map_some, ii_lit, ll_lit, ii_neg, ll_neg, ii_add, ii_sub, ii_mul, ll_add, ll_sub, ll_mul, ii_le, ii_lt, ii_eq, ii_t, bi_0, bi_1, rd_z, wr_z, rr_z, rl_z, wl_z, tn_n, st_s, st_j, st_i, st_c, st_2, sl_s, sl_j, sl_i, sl_c, sl_1, Int.natCast_add, Int.cast_ofNat_Int, if_pos, if_neg, decide_eq_false_iff_not, decide_eq_true_eq, in_ll, ii_long, Nat.zero_add, Nat.mul_zero, reduceCtorEq]
        · intro q hq hqi
          have : cml A F (p + 1) = cml A F q := fdf_same (by rw [cnf_yes q2, q3]; exact hqi.symm)
          rw [← this]
      · rintro ⟨a, b, z⟩ ⟨y1, y2, y3⟩
        simp only [] at y1 y2 y3
        subst y1
        have y2' := y2 (np A) (Nat.le_refl _) rfl
        subst y2'
        have s3 := (lk.fr y3 (by decide) (by decide) : lookP z A).1
        refine ⟨(ii (cml A F (np A)), z), ?_, rfl, y3⟩
        show fX8_common__22 (ii (cml A F (np A))) (ii (cnf (inP A) (np A))) z = _
        unfold fX8_common__22
        simp (disch := omega) only [s3, if_true, if_false, Option.bind_some, Option.map_some, ii_lit, ll_lit, ii_neg, ll_neg, ii_add, ii_sub, ii_mul, ll_add, ll_sub, ll_mul, ii_le, ii_lt, ii_eq, ii_t, bi_0, bi_1, rd_z, wr_z, rr_z, rl_z, wl_z, tn_n, st_s, st_j, st_i, st_c, st_2, sl_s, sl_j, sl_i, sl_c, sl_1, Int.natCast_add, Int.cast_ofNat_Int, if_pos, if_neg, decide_eq_false_iff_not, decide_eq_true_eq, in_ll, ii_long, Nat.zero_add, Nat.mul_zero, reduceCtorEq]
    obtain ⟨⟨a, σ3⟩, e5, r1, r2⟩ := lc
    have r1 : a = ii (cml A F (np A)) := r1
    subst r1
    obtain ⟨⟨b, τ3⟩, e6, r3, r4⟩ := lm
    have r3 : b = ii (cml A F (np A)) := r3
    subst r3
    refine ⟨ii (cml A F (np A)), σ3, τ3, ?_, ?_, _, (hr3.c (r2.mono (by decide) (by decide))).m (r4.mono (by decide) (by decide))⟩
    · unfold fX7_common fX7_common_0
      simp (disch := omega) only [e1, hd, e3, e5, if_true, if_false, Option.bind_some, Option.map_some, ii_lit, ll_lit, ii_neg, ll_neg, ii_add, ii_sub, ii_mul, ll_add, ll_sub, ll_mul, ii_le, ii_lt, ii_eq, ii_t, bi_0, bi_1, rd_z, wr_z, rr_z, rl_z, wl_z, tn_n, st_s, st_j, st_i, st_c, st_2, sl_s, sl_j, sl_i, sl_c, sl_1, Int.natCast_add, Int.cast_ofNat_Int, if_pos, if_neg, decide_eq_false_iff_not, decide_eq_true_eq, in_ll, ii_long, Nat.zero_add, Nat.mul_zero, reduceCtorEq]
    · unfold fX8_common_ fX8_common__0
      simp (disch := omega) only [e2, hd, e4, e6, if_true, if_false, Option.bind_some, Option.map_some, ii_lit, ll_lit, ii_neg, ll_neg, ii_add, ii_sub, ii_mul, ll_add, ll_sub, ll_mul, ii_le, ii_lt, ii_eq, ii_t, bi_0, bi_1, rd_z, wr_z, rr_z, rl_z, wl_z, tn_n, st_s, st_j, st_i, st_c, st_2, sl_s, sl_j, sl_i, sl_c, sl_1, Int.natCast_add, Int.cast_ofNat_Int, if_pos, if_neg, decide_eq_false_iff_not, decide_eq_true_eq, in_ll, ii_long, Nat.zero_add, Nat.mul_zero, reduceCtorEq]
theorem m_lies {σ τ : mm} (h : Rel σ τ) (s : Int32) : Ag (fX7_lies s σ) (fX8_lies s τ) := by
  obtain ⟨A, hR⟩ := h
  obtain ⟨⟨hC, hM, hA⟩, -⟩ := id hR
  obtain ⟨s, rfl, h1, h2⟩ := ii_ex s
  rcases trouble hR h1 h2 with ⟨e, he, t1, t2⟩ | ⟨s, x, τ1, rfl, hs, t1, t2, t3, t4, t5⟩
  · obtain ⟨σ', τ', e3, e4, hr⟩ := fnd hR he
    refine ⟨ii (-1000000001 - e), σ', τ', ?_, ?_, _, hr⟩
    · unfold fX7_lies fX7_lies_0 fX7_smallPointTrouble fX7_smallPointTrouble_0
      simp (disch := omega) only [t1, e3, if_true, if_false, Option.bind_some, Option.map_some, ii_lit, ll_lit, ii_neg, ll_neg, ii_add, ii_sub, ii_mul, ll_add, ll_sub, ll_mul, ii_le, ii_lt, ii_eq, ii_t, bi_0, bi_1, rd_z, wr_z, rr_z, rl_z, wl_z, tn_n, st_s, st_j, st_i, st_c, st_2, sl_s, sl_j, sl_i, sl_c, sl_1, Int.natCast_add, Int.cast_ofNat_Int, if_pos, if_neg, decide_eq_false_iff_not, decide_eq_true_eq, in_ll, ii_long, Nat.zero_add, Nat.mul_zero, reduceCtorEq]
    · unfold fX8_lies fX8_lies_0
      simp (disch := omega) only [t2, e4, if_true, if_false, Option.bind_some, Option.map_some, ii_lit, ll_lit, ii_neg, ll_neg, ii_add, ii_sub, ii_mul, ll_add, ll_sub, ll_mul, ii_le, ii_lt, ii_eq, ii_t, bi_0, bi_1, rd_z, wr_z, rr_z, rl_z, wl_z, tn_n, st_s, st_j, st_i, st_c, st_2, sl_s, sl_j, sl_i, sl_c, sl_1, Int.natCast_add, Int.cast_ofNat_Int, if_pos, if_neg, decide_eq_false_iff_not, decide_eq_true_eq, in_ll, ii_long, Nat.zero_add, Nat.mul_zero, reduceCtorEq]
  · have hR1 := hR.m (t5.mono (by decide) (by decide))
    have hM1 := hR1.1.2.1
    rcases C_small hC hA hs t1 t3 with ⟨q1, q2⟩ | ⟨q1, q2⟩
    · rcases M_isNear hM1 t4 (fun l hl => (t3 l hl).2) with ⟨w1, w2⟩ | ⟨w1, w2⟩
      · obtain ⟨d, σ2, τ2, e1, e2, hr, hF, f1, f2⟩ := both hR1
        by_cases hd : d = ii 0
        · subst hd
          obtain ⟨σ', τ', e3, e4, hr'⟩ := fd3 hr
          refine ⟨ii (-1000000004), σ', τ', ?_, ?_, _, hr'⟩
          · unfold fX7_lies fX7_lies_0
            simp (disch := omega) only [q2, e1, e3, if_true, if_false, Option.bind_some, Option.map_some, ii_lit, ll_lit, ii_neg, ll_neg, ii_add, ii_sub, ii_mul, ll_add, ll_sub, ll_mul, ii_le, ii_lt, ii_eq, ii_t, bi_0, bi_1, rd_z, wr_z, rr_z, rl_z, wl_z, tn_n, st_s, st_j, st_i, st_c, st_2, sl_s, sl_j, sl_i, sl_c, sl_1, Int.natCast_add, Int.cast_ofNat_Int, if_pos, if_neg, decide_eq_false_iff_not, decide_eq_true_eq, in_ll, ii_long, Nat.zero_add, Nat.mul_zero, reduceCtorEq]
          · unfold fX8_lies fX8_lies_0
            simp (disch := omega) only [t2, w2, e2, e4, if_true, if_false, Option.bind_some, Option.map_some, ii_lit, ll_lit, ii_neg, ll_neg, ii_add, ii_sub, ii_mul, ll_add, ll_sub, ll_mul, ii_le, ii_lt, ii_eq, ii_t, bi_0, bi_1, rd_z, wr_z, rr_z, rl_z, wl_z, tn_n, st_s, st_j, st_i, st_c, st_2, sl_s, sl_j, sl_i, sl_c, sl_1, Int.natCast_add, Int.cast_ofNat_Int, if_pos, if_neg, decide_eq_false_iff_not, decide_eq_true_eq, in_ll, ii_long, Nat.zero_add, Nat.mul_zero, reduceCtorEq]
        · obtain ⟨F, m1, m2, hk⟩ := hF hd
          obtain ⟨σ3, e3, o1, o2⟩ := C_readSpot hr.1.1 hA (s := s) (x := x) (fun l hl => by rw [f1.2.1 26 (by decide)]; exact (t3 l hl).1)
          obtain ⟨σ4, e4, o3⟩ := C_contains (y0 := fun l => ll (x l)) (m1.fr o2 (by decide) (by decide)) hk.pos (fun l hl => by
            have := q1 l hl
            rw [o1 l hl, ii_long (by omega) (by omega)])
          obtain ⟨τ3, e5, o4⟩ := M_isl (y0 := fun l => ll (x l)) m2 hk.pos (fun l hl => by rw [f2.2.1 48 (by decide)]; exact t4 l hl)
          have hr' := ((hr.c (o2.mono (by decide) (by decide))).c (o3.mono (by decide) (by decide))).m (o4.mono (by decide) (by decide))
          generalize isq A.n F A.n 0 (fun l => ll (x l)) = bb at *
          cases bb
          · refine ⟨ii 0, σ4, τ3, ?_, ?_, _, hr'⟩
            · unfold fX7_lies fX7_lies_0
              simp (disch := omega) only [q2, e1, hd, e3, e4, if_true, if_false, Option.bind_some, Option.map_some, ii_lit, ll_lit, ii_neg, ll_neg, ii_add, ii_sub, ii_mul, ll_add, ll_sub, ll_mul, ii_le, ii_lt, ii_eq, ii_t, bi_0, bi_1, rd_z, wr_z, rr_z, rl_z, wl_z, tn_n, st_s, st_j, st_i, st_c, st_2, sl_s, sl_j, sl_i, sl_c, sl_1, Int.natCast_add, Int.cast_ofNat_Int, if_pos, if_neg, decide_eq_false_iff_not, decide_eq_true_eq, in_ll, ii_long, Nat.zero_add, Nat.mul_zero, reduceCtorEq]
            · unfold fX8_lies fX8_lies_0
              simp (disch := omega) only [t2, w2, e2, hd, e5, if_true, if_false, Option.bind_some, Option.map_some, ii_lit, ll_lit, ii_neg, ll_neg, ii_add, ii_sub, ii_mul, ll_add, ll_sub, ll_mul, ii_le, ii_lt, ii_eq, ii_t, bi_0, bi_1, rd_z, wr_z, rr_z, rl_z, wl_z, tn_n, st_s, st_j, st_i, st_c, st_2, sl_s, sl_j, sl_i, sl_c, sl_1, Int.natCast_add, Int.cast_ofNat_Int, if_pos, if_neg, decide_eq_false_iff_not, decide_eq_true_eq, in_ll, ii_long, Nat.zero_add, Nat.mul_zero, reduceCtorEq]
          · refine ⟨ii 1, σ4, τ3, ?_, ?_, _, hr'⟩
            · unfold fX7_lies fX7_lies_0
              simp (disch := omega) only [q2, e1, hd, e3, e4, if_true, if_false, Option.bind_some, Option.map_some, ii_lit, ll_lit, ii_neg, ll_neg, ii_add, ii_sub, ii_mul, ll_add, ll_sub, ll_mul, ii_le, ii_lt, ii_eq, ii_t, bi_0, bi_1, rd_z, wr_z, rr_z, rl_z, wl_z, tn_n, st_s, st_j, st_i, st_c, st_2, sl_s, sl_j, sl_i, sl_c, sl_1, Int.natCast_add, Int.cast_ofNat_Int, if_pos, if_neg, decide_eq_false_iff_not, decide_eq_true_eq, in_ll, ii_long, Nat.zero_add, Nat.mul_zero, reduceCtorEq]
            · unfold fX8_lies fX8_lies_0
              simp (disch := omega) only [t2, w2, e2, hd, e5, if_true, if_false, Option.bind_some, Option.map_some, ii_lit, ll_lit, ii_neg, ll_neg, ii_add, ii_sub, ii_mul, ll_add, ll_sub, ll_mul, ii_le, ii_lt, ii_eq, ii_t, bi_0, bi_1, rd_z, wr_z, rr_z, rl_z, wl_z, tn_n, st_s, st_j, st_i, st_c, st_2, sl_s, sl_j, sl_i, sl_c, sl_1, Int.natCast_add, Int.cast_ofNat_Int, if_pos, if_neg, decide_eq_false_iff_not, decide_eq_true_eq, in_ll, ii_long, Nat.zero_add, Nat.mul_zero, reduceCtorEq]
      · exact absurd q1 w1
    · rcases M_isNear hM1 t4 (fun l hl => (t3 l hl).2) with ⟨w1, w2⟩ | ⟨w1, w2⟩
      · exact absurd w1 q1
      · obtain ⟨σ', τ', e3, e4, hr⟩ := fd4 hR1
        refine ⟨ii (-1000000005), σ', τ', ?_, ?_, _, hr⟩
        · unfold fX7_lies fX7_lies_0
          simp (disch := omega) only [q2, e3, if_true, if_false, Option.bind_some, Option.map_some, ii_lit, ll_lit, ii_neg, ll_neg, ii_add, ii_sub, ii_mul, ll_add, ll_sub, ll_mul, ii_le, ii_lt, ii_eq, ii_t, bi_0, bi_1, rd_z, wr_z, rr_z, rl_z, wl_z, tn_n, st_s, st_j, st_i, st_c, st_2, sl_s, sl_j, sl_i, sl_c, sl_1, Int.natCast_add, Int.cast_ofNat_Int, if_pos, if_neg, decide_eq_false_iff_not, decide_eq_true_eq, in_ll, ii_long, Nat.zero_add, Nat.mul_zero, reduceCtorEq]
        · unfold fX8_lies fX8_lies_0
          simp (disch := omega) only [t2, w2, e4, if_true, if_false, Option.bind_some, Option.map_some, ii_lit, ll_lit, ii_neg, ll_neg, ii_add, ii_sub, ii_mul, ll_add, ll_sub, ll_mul, ii_le, ii_lt, ii_eq, ii_t, bi_0, bi_1, rd_z, wr_z, rr_z, rl_z, wl_z, tn_n, st_s, st_j, st_i, st_c, st_2, sl_s, sl_j, sl_i, sl_c, sl_1, Int.natCast_add, Int.cast_ofNat_Int, if_pos, if_neg, decide_eq_false_iff_not, decide_eq_true_eq, in_ll, ii_long, Nat.zero_add, Nat.mul_zero, reduceCtorEq]
