-- POINTS THAT ARE IN: many, point, lays
def lookP (τ : mm) (A : bdy) : Prop := τ.1 32 0 11 = ii (cnf (inP A) (np A)) ∧ (∀ k, k < np A → τ.1 49 0 k = ii (mkf (hdr A (pt A k)) A.R)) ∧ ∀ k, k < np A → inP A k = true → τ.1 50 0 (cnf (inP A) k) = ii k
theorem lookP.fr {ks fs : List Nat} {τ τ' : mm} {A : bdy} (h : lookP τ A) (f : Fr ks fs τ τ') (hk : ∀ c ∈ [49, 50], c ∉ ks) (hf : 11 ∉ fs) : lookP τ' A := by
  unfold lookP at h ⊢
  rw [f.2.2 11 hf, f.1 49 (by decide) (hk 49 (by decide)), f.1 50 (by decide) (hk 50 (by decide))]
  exact h
theorem RelA.cloud {σ τ : mm} {A : bdy} (hR : RelA σ τ A) : ∃ σ', fX1_refresh 0 σ = some σ' ∧ RelA σ' τ A ∧ cloudP σ' A ∧ thinP σ' A ∧ σ'.1 1 0 0 = ii 0 := by
  obtain ⟨⟨hC, hM, hA⟩, ⟨b1, b2⟩, hX⟩ := id hR
  rcases b1 with b1 | ⟨b1, b3, b4⟩
  · obtain ⟨σ', e, f1, f2, f3, f4⟩ := C_refresh hC hA b1
    exact ⟨σ', e, ⟨⟨hC.fr f4 (by decide), hM, hA⟩, ⟨Or.inr ⟨f1, f2, Or.inl f3⟩, b2.c f4 (by decide)⟩, hX.c f4 (by decide)⟩, f2, Or.inl f3, f1⟩
  · refine ⟨σ, ?_, hR, b3, b4, b1⟩
    unfold fX1_refresh fX1_refresh_0
    simp (disch := omega) only [b1, if_true, if_false, Option.bind_some, Option.map_some, ii_lit, ll_lit, ii_neg, ll_neg, ii_add, ii_sub, ii_mul, ll_add, ll_sub, ll_mul, ii_le, ii_lt, ii_eq, ii_t, bi_0, bi_1, rd_z, wr_z, rr_z, rl_z, wl_z, tn_n, st_s, st_j, st_i, st_c, st_2, sl_s, sl_j, sl_i, sl_c, sl_1, Int.natCast_add, Int.cast_ofNat_Int, if_pos, if_neg, decide_eq_false_iff_not, decide_eq_true_eq, in_ll, ii_long, Nat.zero_add, Nat.mul_zero, reduceCtorEq]
theorem RelA.looks {σ τ : mm} {A : bdy} (hR : RelA σ τ A) : ∃ τ', fX8_looks τ = some τ' ∧ RelA σ τ' A ∧ lookP τ' A := by
  obtain ⟨⟨hC, hM, hA⟩, -⟩ := id hR
  obtain ⟨τ', e, g1, g2, g3, g4⟩ := M_looks hM hA
  exact ⟨τ', e, hR.m (g4.mono (by decide) (by decide)), g1, g2, g3⟩
theorem cnt_le {A : bdy} (hA : okb A) : cnf (inP A) (np A) ≤ 4096 ∧ np A ≤ 4096 := by
  have h1 := cnf_le (inP A) (np A)
  have h2 := hA.2.2.2.2.2
  unfold np at *
  omega
theorem C_brokenAt {σ : mm} {A : bdy} (hc : cloudP σ A) (hA : okb A) {k : Nat} (hk : k < np A) : fX1_brokenAt (ii k) σ = some (ii (brk A k)) := by
  have h1 := spt_lt hA k
  have h2 := (cnt_le hA).2
  unfold fX1_brokenAt fX1_brokenAt_0
  simp (disch := omega) only [hc.2.2 k hk, if_true, if_false, Option.bind_some, Option.map_some, ii_lit, ll_lit, ii_neg, ll_neg, ii_add, ii_sub, ii_mul, ll_add, ll_sub, ll_mul, ii_le, ii_lt, ii_eq, ii_t, bi_0, bi_1, rd_z, wr_z, rr_z, rl_z, wl_z, tn_n, st_s, st_j, st_i, st_c, st_2, sl_s, sl_j, sl_i, sl_c, sl_1, Int.natCast_add, Int.cast_ofNat_Int, if_pos, if_neg]
  rw [show (20 : Int) = ((20 : Nat) : Int) from rfl, shr_n (by omega) (by omega) (by decide), ← Int.natCast_ediv, spt_brk hA]
theorem C_isIn {σ : mm} {A : bdy} (hc : cloudP σ A) (hA : okb A) {k : Nat} (hk : k < np A) : fX1_isIn (ii k) σ = some (inP A k) := by
  have h1 := brk_lt hA k
  unfold fX1_isIn fX1_isIn_0 inP
  rw [C_brokenAt hc hA hk]
  by_cases h : brk A k = 0
  · simp (disch := omega) only [decide_eq_true h, if_true, if_false, Option.bind_some, Option.map_some, ii_lit, ll_lit, ii_neg, ll_neg, ii_add, ii_sub, ii_mul, ll_add, ll_sub, ll_mul, ii_le, ii_lt, ii_eq, ii_t, bi_0, bi_1, rd_z, wr_z, rr_z, rl_z, wl_z, tn_n, st_s, st_j, st_i, st_c, st_2, sl_s, sl_j, sl_i, sl_c, sl_1, Int.natCast_add, Int.cast_ofNat_Int, if_pos, if_neg]
  · simp (disch := omega) only [decide_eq_false h, if_true, if_false, Option.bind_some, Option.map_some, ii_lit, ll_lit, ii_neg, ll_neg, ii_add, ii_sub, ii_mul, ll_add, ll_sub, ll_mul, ii_le, ii_lt, ii_eq, ii_t, bi_0, bi_1, rd_z, wr_z, rr_z, rl_z, wl_z, tn_n, st_s, st_j, st_i, st_c, st_2, sl_s, sl_j, sl_i, sl_c, sl_1, Int.natCast_add, Int.cast_ofNat_Int, if_pos, if_neg]
theorem C_letterAt {σ : mm} {A : bdy} (hc : cloudP σ A) (hA : okb A) {k : Nat} (hk : k < np A) {l : Nat} (hl : l < A.n) : fX1_letterAt (ii k) (ii l) σ = some (ii (pt A k l)) := by
  have h1 := spt_lt hA k
  have h2 := (cnt_le hA).2
  have h3 := pt_9 hA k (l := l) (by have := hA.1; omega)
  unfold fX1_letterAt fX1_letterAt_0
  simp (disch := omega) only [hc.2.2 k hk, if_true, if_false, Option.bind_some, Option.map_some, ii_lit, ll_lit, ii_neg, ll_neg, ii_add, ii_sub, ii_mul, ll_add, ll_sub, ll_mul, ii_le, ii_lt, ii_eq, ii_t, bi_0, bi_1, rd_z, wr_z, rr_z, rl_z, wl_z, tn_n, st_s, st_j, st_i, st_c, st_2, sl_s, sl_j, sl_i, sl_c, sl_1, Int.natCast_add, Int.cast_ofNat_Int, if_pos, if_neg]
  rw [unpack_n (by omega) (by have := hA.1; omega), spt_get hA k hl]
  congr 2
  omega
theorem C_placeOf {σ : mm} {A : bdy} (hc : cloudP σ A) (hA : okb A) {a : Int} (h1 : -2147483648 ≤ a) (h2 : a < 2147483648) : (∃ p : Nat, p < np A ∧ inP A p = true ∧ a = cnf (inP A) p ∧ fX1_placeOf (ii a) σ = some (ii p)) ∨ (¬ (0 ≤ a ∧ a < cnf (inP A) (np A)) ∧ fX1_placeOf (ii a) σ = some (ii (-1))) := by
  have hcn := cnt_le hA
  have s1 := hc.1
  have s2 := hc.2.1
  by_cases k : 0 ≤ a ∧ a < cnf (inP A) (np A)
  · left
    obtain ⟨a, rfl⟩ : ∃ k : Nat, a = k := ⟨a.toNat, by omega⟩
    obtain ⟨p, q1, q2, q3⟩ := cnf_ex (P := inP A) (n := np A) (i := a) (by omega)
    refine ⟨p, q1, q2, by omega, ?_⟩
    unfold fX1_placeOf fX1_placeOf_0
    simp (disch := omega) only [s2, if_true, if_false, Option.bind_some, Option.map_some, ii_lit, ll_lit, ii_neg, ll_neg, ii_add, ii_sub, ii_mul, ll_add, ll_sub, ll_mul, ii_le, ii_lt, ii_eq, ii_t, bi_0, bi_1, rd_z, wr_z, rr_z, rl_z, wl_z, tn_n, st_s, st_j, st_i, st_c, st_2, sl_s, sl_j, sl_i, sl_c, sl_1, Int.natCast_add, Int.cast_ofNat_Int, if_pos, if_neg, decide_eq_false_iff_not, decide_eq_true_eq, in_ll, ii_long, Nat.zero_add, Nat.mul_zero, reduceCtorEq]
    have key : ∃ r, lp (fX1_placeOf_18_L (ii a) σ) (ii 0, ii 0) = some r ∧ r = ii p := by
      refine lp_i (fun j s => j ≤ p ∧ s = (ii (cnf (inP A) j), ii j)) _ (np A) ⟨Nat.zero_le _, rfl⟩ ?_ ?_
      · rintro j s hj ⟨hjp, rfl⟩
        have e1 := C_isIn hc hA hj
        have hjc := cnf_le (inP A) j
        by_cases hin : inP A j = true
        · by_cases hjp2 : j = p
          · right
            subst hjp2
            refine ⟨ii j, ?_, rfl⟩
            simp (disch := omega) only [fX1_placeOf_18_L, fX1_placeOf_18, s1, e1, hin, q3, if_true, if_false, Option.bind_some, Option.map_some, ii_lit, ll_lit, ii_neg, ll_neg, ii_add, ii_sub, ii_mul, ll_add, ll_sub, ll_mul, ii_le, ii_lt, ii_eq, ii_t, bi_0, bi_1, rd_z, wr_z, rr_z, rl_z, wl_z, tn_n, st_s, st_j, st_i, st_c, st_2, sl_s, sl_j, sl_i, sl_c, sl_1, Int.natCast_add, Int.cast_ofNat_Int, if_pos, if_neg, decide_eq_false_iff_not, decide_eq_true_eq, in_ll, ii_long, Nat.zero_add, Nat.mul_zero, reduceCtorEq]
          · left
            have : cnf (inP A) (j + 1) ≤ cnf (inP A) p := cnf_mono _ (by omega)
            rw [cnf_yes hin] at this
            refine ⟨(ii (cnf (inP A) (j + 1)), ii ((j + 1 : Nat))), ?_, by omega, rfl⟩
            rw [cnf_yes hin]
            simp (disch := omega) only [fX1_placeOf_18_L, fX1_placeOf_18, fX1_placeOf_44, s1, e1, hin, if_true, if_false, Option.bind_some, Option.map_some, ii_lit, ll_lit, ii_neg, ll_neg, ii_add, ii_sub, ii_mul, ll_add, ll_sub, ll_mul, ii_le, ii_lt, ii_eq, ii_t, bi_0, bi_1, rd_z, wr_z, rr_z, rl_z, wl_z, tn_n, st_s, st_j, st_i, st_c, st_2, sl_s, sl_j, sl_i, sl_c, sl_1, Int.natCast_add, Int.cast_ofNat_Int, if_pos, if_neg, decide_eq_false_iff_not, decide_eq_true_eq, in_ll, ii_long, Nat.zero_add, Nat.mul_zero, reduceCtorEq]
        · left
          have hjp2 : j ≠ p := by
            rintro rfl
            exact hin q2
          refine ⟨(ii (cnf (inP A) (j + 1)), ii ((j + 1 : Nat))), ?_, by omega, rfl⟩
          rw [cnf_no hin]
          simp only [Bool.not_eq_true] at hin
          simp (disch := omega) only [fX1_placeOf_18_L, fX1_placeOf_18, fX1_placeOf_44, s1, e1, hin, if_true, if_false, Option.bind_some, Option.map_some, ii_lit, ll_lit, ii_neg, ll_neg, ii_add, ii_sub, ii_mul, ll_add, ll_sub, ll_mul, ii_le, ii_lt, ii_eq, ii_t, bi_0, bi_1, rd_z, wr_z, rr_z, rl_z, wl_z, tn_n, st_s, st_j, st_i, st_c, st_2, sl_s, sl_j, sl_i, sl_c, sl_1, Int.natCast_add, Int.cast_ofNat_Int, if_pos, if_neg, decide_eq_false_iff_not, decide_eq_true_eq, in_ll, ii_long, Nat.zero_add, Nat.mul_zero, reduceCtorEq]
      · rintro s ⟨hjp, -⟩
        omega
    obtain ⟨r, e, rfl⟩ := key
    exact e
  · right
    refine ⟨k, ?_⟩
    unfold fX1_placeOf fX1_placeOf_0
    by_cases q : a < 0
    · simp (disch := omega) only [s2, if_true, if_false, Option.bind_some, Option.map_some, ii_lit, ll_lit, ii_neg, ll_neg, ii_add, ii_sub, ii_mul, ll_add, ll_sub, ll_mul, ii_le, ii_lt, ii_eq, ii_t, bi_0, bi_1, rd_z, wr_z, rr_z, rl_z, wl_z, tn_n, st_s, st_j, st_i, st_c, st_2, sl_s, sl_j, sl_i, sl_c, sl_1, Int.natCast_add, Int.cast_ofNat_Int, if_pos, if_neg, decide_eq_false_iff_not, decide_eq_true_eq, in_ll, ii_long, Nat.zero_add, Nat.mul_zero, reduceCtorEq]
    · simp (disch := omega) only [s2, if_true, if_false, Option.bind_some, Option.map_some, ii_lit, ll_lit, ii_neg, ll_neg, ii_add, ii_sub, ii_mul, ll_add, ll_sub, ll_mul, ii_le, ii_lt, ii_eq, ii_t, bi_0, bi_1, rd_z, wr_z, rr_z, rl_z, wl_z, tn_n, st_s, st_j, st_i, st_c, st_2, sl_s, sl_j, sl_i, sl_c, sl_1, Int.natCast_add, Int.cast_ofNat_Int, if_pos, if_neg, decide_eq_false_iff_not, decide_eq_true_eq, in_ll, ii_long, Nat.zero_add, Nat.mul_zero, reduceCtorEq]
theorem M_isIn {σ τ : mm} {A : bdy} (hR : RelA σ τ A) {a : Int} (h1 : -2147483648 ≤ a) (h2 : a < 2147483648) : (∃ (p : Nat) (τ' : mm), p < np A ∧ inP A p = true ∧ a = cnf (inP A) p ∧ fX8_isIn (ii a) τ = some (true, τ') ∧ RelA σ τ' A ∧ lookP τ' A ∧ atM τ' A (pt A p)) ∨ (∃ τ', ¬ (0 ≤ a ∧ a < cnf (inP A) (np A)) ∧ fX8_isIn (ii a) τ = some (false, τ') ∧ RelA σ τ' A ∧ lookP τ' A) := by
  have hA := hR.1.2.2
  have hcn := cnt_le hA
  obtain ⟨τ1, e1, g1, g2⟩ := hR.looks
  have s2 := g2.1
  by_cases k : 0 ≤ a ∧ a < cnf (inP A) (np A)
  · left
    obtain ⟨a, rfl⟩ : ∃ k : Nat, a = k := ⟨a.toNat, by omega⟩
    obtain ⟨p, q1, q2, q3⟩ := cnf_ex (P := inP A) (n := np A) (i := a) (by omega)
    obtain ⟨τ2, e2, f1, f2, f3⟩ := M_goesTo g1.1.2.1 hA q1
    have e3 := g2.2.2 p q1 q2
    rw [q3] at e3
    refine ⟨p, τ2, q1, q2, by omega, ?_, g1.m (f2.mono (by decide) (by decide)), g2.fr f2 (by decide) (by decide), f1⟩
    unfold fX8_isIn fX8_isIn_0
    simp (disch := omega) only [e1, s2, e3, e2, if_true, if_false, Option.bind_some, Option.map_some, ii_lit, ll_lit, ii_neg, ll_neg, ii_add, ii_sub, ii_mul, ll_add, ll_sub, ll_mul, ii_le, ii_lt, ii_eq, ii_t, bi_0, bi_1, rd_z, wr_z, rr_z, rl_z, wl_z, tn_n, st_s, st_j, st_i, st_c, st_2, sl_s, sl_j, sl_i, sl_c, sl_1, Int.natCast_add, Int.cast_ofNat_Int, if_pos, if_neg, decide_eq_false_iff_not, decide_eq_true_eq, in_ll, ii_long, Nat.zero_add, Nat.mul_zero, reduceCtorEq]
  · right
    refine ⟨τ1, k, ?_, g1, g2⟩
    unfold fX8_isIn fX8_isIn_0
    simp (disch := omega) only [e1, s2, if_true, if_false, Option.bind_some, Option.map_some, ii_lit, ll_lit, ii_neg, ll_neg, ii_add, ii_sub, ii_mul, ll_add, ll_sub, ll_mul, ii_le, ii_lt, ii_eq, ii_t, bi_0, bi_1, rd_z, wr_z, rr_z, rl_z, wl_z, tn_n, st_s, st_j, st_i, st_c, st_2, sl_s, sl_j, sl_i, sl_c, sl_1, Int.natCast_add, Int.cast_ofNat_Int, if_pos, if_neg, decide_eq_false_iff_not, decide_eq_true_eq, in_ll, ii_long, Nat.zero_add, Nat.mul_zero, reduceCtorEq]
theorem m_many {σ τ : mm} (h : Rel σ τ) : Ag (fX7_many σ) (fX8_many τ) := by
  obtain ⟨A, hR⟩ := h
  obtain ⟨σ1, e1, f1, f2, -⟩ := hR.cloud
  obtain ⟨τ1, e2, g1, g2⟩ := f1.looks
  refine ⟨ii (cnf (inP A) (np A)), σ1, τ1, ?_, ?_, _, g1⟩
  · unfold fX7_many fX7_many_0
    simp (disch := omega) only [e1, f2.2.1, if_true, if_false, Option.bind_some, Option.map_some, ii_lit, ll_lit, ii_neg, ll_neg, ii_add, ii_sub, ii_mul, ll_add, ll_sub, ll_mul, ii_le, ii_lt, ii_eq, ii_t, bi_0, bi_1, rd_z, wr_z, rr_z, rl_z, wl_z, tn_n, st_s, st_j, st_i, st_c, st_2, sl_s, sl_j, sl_i, sl_c, sl_1, Int.natCast_add, Int.cast_ofNat_Int, if_pos, if_neg, decide_eq_false_iff_not, decide_eq_true_eq, in_ll, ii_long, Nat.zero_add, Nat.mul_zero, reduceCtorEq]
  · unfold fX8_many fX8_many_0
    simp (disch := omega) only [e2, g2.1, if_true, if_false, Option.bind_some, Option.map_some, ii_lit, ll_lit, ii_neg, ll_neg, ii_add, ii_sub, ii_mul, ll_add, ll_sub, ll_mul, ii_le, ii_lt, ii_eq, ii_t, bi_0, bi_1, rd_z, wr_z, rr_z, rl_z, wl_z, tn_n, st_s, st_j, st_i, st_c, st_2, sl_s, sl_j, sl_i, sl_c, sl_1, Int.natCast_add, Int.cast_ofNat_Int, if_pos, if_neg, decide_eq_false_iff_not, decide_eq_true_eq, in_ll, ii_long, Nat.zero_add, Nat.mul_zero, reduceCtorEq]
theorem m_point {σ τ : mm} (h : Rel σ τ) (a l : Int32) : Ag (fX7_point a l σ) (fX8_point a l τ) := by
  obtain ⟨A, hR⟩ := h
  obtain ⟨⟨hC, hM, hA⟩, -⟩ := id hR
  obtain ⟨a, rfl, h1, h2⟩ := ii_ex a
  obtain ⟨l, rfl, h3, h4⟩ := ii_ex l
  have c1 := C_hasLetter hC h3 h4
  have c2 := M_isLetter hM h3 h4
  have hn1 := hA.1
  by_cases hl : 0 ≤ l ∧ l < A.n
  · obtain ⟨l, rfl⟩ : ∃ k : Nat, l = k := ⟨l.toNat, by omega⟩
    obtain ⟨σ1, e1, f1, f2, -⟩ := hR.cloud
    have hcn := cnt_le hA
    rcases C_placeOf f2 hA h1 h2 with ⟨p, q1, q2, q3, q4⟩ | ⟨q1, q2⟩
    · rcases M_isIn f1 h1 h2 with ⟨p', τ1, w1, w2, w3, w4, w5, w6, w7⟩ | ⟨τ1, w1, w2, w3, w4⟩
      · have hpp : p' = p := cnf_uq w2 q2 (by omega)
        subst hpp
        have e3 := C_letterAt f2 hA q1 (l := l) (by omega)
        have hp9 := pt_9 hA p' (l := l) (by omega)
        refine ⟨ii (pt A p' l), σ1, τ1, ?_, ?_, _, w5⟩
        · unfold fX7_point fX7_point_0
          simp (disch := omega) only [c1, e1, q4, e3, if_true, if_false, Option.bind_some, Option.map_some, ii_lit, ll_lit, ii_neg, ll_neg, ii_add, ii_sub, ii_mul, ll_add, ll_sub, ll_mul, ii_le, ii_lt, ii_eq, ii_t, bi_0, bi_1, rd_z, wr_z, rr_z, rl_z, wl_z, tn_n, st_s, st_j, st_i, st_c, st_2, sl_s, sl_j, sl_i, sl_c, sl_1, Int.natCast_add, Int.cast_ofNat_Int, if_pos, if_neg, decide_eq_false_iff_not, decide_eq_true_eq, in_ll, ii_long, Nat.zero_add, Nat.mul_zero, reduceCtorEq]
        · unfold fX8_point fX8_point_0
          simp (disch := omega) only [c2, w4, w7 l (by omega), ll_int, if_true, if_false, Option.bind_some, Option.map_some, ii_lit, ll_lit, ii_neg, ll_neg, ii_add, ii_sub, ii_mul, ll_add, ll_sub, ll_mul, ii_le, ii_lt, ii_eq, ii_t, bi_0, bi_1, rd_z, wr_z, rr_z, rl_z, wl_z, tn_n, st_s, st_j, st_i, st_c, st_2, sl_s, sl_j, sl_i, sl_c, sl_1, Int.natCast_add, Int.cast_ofNat_Int, if_pos, if_neg, decide_eq_false_iff_not, decide_eq_true_eq, in_ll, ii_long, Nat.zero_add, Nat.mul_zero, reduceCtorEq]
      · have := cnf_mono (inP A) (show p + 1 ≤ np A by omega)
        rw [cnf_yes q2] at this
        omega
    · rcases M_isIn f1 h1 h2 with ⟨p', τ1, w1, w2, w3, w4, w5, w6, w7⟩ | ⟨τ1, w1, w2, w3, w4⟩
      · have := cnf_mono (inP A) (show p' + 1 ≤ np A by omega)
        rw [cnf_yes w2] at this
        omega
      · obtain ⟨σ', τ', e3, e4, hr⟩ := fd3 w3
        refine ⟨ii (-1000000004), σ', τ', ?_, ?_, _, hr⟩
        · unfold fX7_point fX7_point_0
          simp (disch := omega) only [c1, e1, q2, e3, if_true, if_false, Option.bind_some, Option.map_some, ii_lit, ll_lit, ii_neg, ll_neg, ii_add, ii_sub, ii_mul, ll_add, ll_sub, ll_mul, ii_le, ii_lt, ii_eq, ii_t, bi_0, bi_1, rd_z, wr_z, rr_z, rl_z, wl_z, tn_n, st_s, st_j, st_i, st_c, st_2, sl_s, sl_j, sl_i, sl_c, sl_1, Int.natCast_add, Int.cast_ofNat_Int, if_pos, if_neg, decide_eq_false_iff_not, decide_eq_true_eq, in_ll, ii_long, Nat.zero_add, Nat.mul_zero, reduceCtorEq]
        · unfold fX8_point fX8_point_0
          simp (disch := omega) only [c2, w2, e4, if_true, if_false, Option.bind_some, Option.map_some, ii_lit, ll_lit, ii_neg, ll_neg, ii_add, ii_sub, ii_mul, ll_add, ll_sub, ll_mul, ii_le, ii_lt, ii_eq, ii_t, bi_0, bi_1, rd_z, wr_z, rr_z, rl_z, wl_z, tn_n, st_s, st_j, st_i, st_c, st_2, sl_s, sl_j, sl_i, sl_c, sl_1, Int.natCast_add, Int.cast_ofNat_Int, if_pos, if_neg, decide_eq_false_iff_not, decide_eq_true_eq, in_ll, ii_long, Nat.zero_add, Nat.mul_zero, reduceCtorEq]
  · obtain ⟨σ', τ', e3, e4, hr⟩ := fd0 hR
    refine ⟨ii (-1000000001), σ', τ', ?_, ?_, _, hr⟩
    · unfold fX7_point fX7_point_0
      simp (disch := omega) only [c1, e3, if_true, if_false, Option.bind_some, Option.map_some, ii_lit, ll_lit, ii_neg, ll_neg, ii_add, ii_sub, ii_mul, ll_add, ll_sub, ll_mul, ii_le, ii_lt, ii_eq, ii_t, bi_0, bi_1, rd_z, wr_z, rr_z, rl_z, wl_z, tn_n, st_s, st_j, st_i, st_c, st_2, sl_s, sl_j, sl_i, sl_c, sl_1, Int.natCast_add, Int.cast_ofNat_Int, if_pos, if_neg, decide_eq_false_iff_not, decide_eq_true_eq, in_ll, ii_long, Nat.zero_add, Nat.mul_zero, reduceCtorEq]
    · unfold fX8_point fX8_point_0
      simp (disch := omega) only [c2, e4, if_true, if_false, Option.bind_some, Option.map_some, ii_lit, ll_lit, ii_neg, ll_neg, ii_add, ii_sub, ii_mul, ll_add, ll_sub, ll_mul, ii_le, ii_lt, ii_eq, ii_t, bi_0, bi_1, rd_z, wr_z, rr_z, rl_z, wl_z, tn_n, st_s, st_j, st_i, st_c, st_2, sl_s, sl_j, sl_i, sl_c, sl_1, Int.natCast_add, Int.cast_ofNat_Int, if_pos, if_neg, decide_eq_false_iff_not, decide_eq_true_eq, in_ll, ii_long, Nat.zero_add, Nat.mul_zero, reduceCtorEq]
