-- THE LATTICE'S VECTORS: base, baseOf, mix, swap
theorem vrd_setV (A : bdy) (ve : Nat → Nat → Int) (c : bx) (r : Nat) : vrd (A.setV ve) c r = vrd A c r := by
  induction r with
  | zero => rfl
  | succ r ih =>
    rw [vrd, vrd, ih]
    rfl
theorem tr_setV (A : bdy) (ve : Nat → Nat → Int) (f : Nat) (c : bx) : tr (A.setV ve) f c = tr A f c ∧ ncl (A.setV ve) f c = ncl A f c ∧ dpt (A.setV ve) f c = dpt A f c := by
  induction f generalizing c with
  | zero =>
    refine ⟨?_, rfl, rfl⟩
    rw [tr, tr, show (A.setV ve).R = A.R from rfl, vrd_setV]
  | succ f ih =>
    have e1 : cLo (A.setV ve) c = cLo A c := rfl
    have e2 : cHi (A.setV ve) c = cHi A c := rfl
    rw [tr, tr, ncl, ncl, dpt, dpt, show (A.setV ve).R = A.R from rfl, vrd_setV, e1, e2, (ih _).1, (ih _).1, (ih _).2.1, (ih _).2.1, (ih _).2.2, (ih _).2.2]
    exact ⟨rfl, rfl, rfl⟩
theorem lft_setV (A : bdy) (ve : Nat → Nat → Int) (k : Int) (j : Nat) : lft (A.setV ve) k j = lft A k j := by
  induction j with
  | zero => rfl
  | succ j ih =>
    rw [lft, lft, ih]
    rfl
theorem pt_setV (A : bdy) (ve : Nat → Nat → Int) : pt (A.setV ve) = pt A := by
  funext k l
  unfold pt
  rw [lft_setV]
  rfl
theorem brk_setV (A : bdy) (ve : Nat → Nat → Int) : brk (A.setV ve) = brk A := by
  funext k
  unfold brk
  rw [pt_setV]
  rfl
theorem inP_setV (A : bdy) (ve : Nat → Nat → Int) : inP (A.setV ve) = inP A := by
  funext k
  unfold inP
  rw [brk_setV]
theorem spt_setV (A : bdy) (ve : Nat → Nat → Int) : spt (A.setV ve) = spt A := by
  funext k
  unfold spt
  rw [brk_setV, pt_setV]
  rfl
theorem ws_setV (A : bdy) (ve : Nat → Nat → Int) (d : Int) : ws (A.setV ve) d = ws A d := by
  funext k
  unfold ws
  rw [pt_setV]
  rfl
theorem thn_setV (A : bdy) (ve : Nat → Nat → Int) (k : Nat) : thn (A.setV ve) k = thn A k := by
  induction k with
  | zero => rfl
  | succ k ih =>
    have e : spn (A.setV ve) k = spn A k := by
      unfold spn sw
      rw [inP_setV, ws_setV]
      rfl
    rw [thn, thn, ih, e]
theorem Rel.vec {σ τ σ1 τ1 : mm} {A : bdy} {ve : Nat → Nat → Int} (h : RelA σ τ A) (hx : ∀ c, c ≠ 11 → σ1.1 c = σ.1 c) (hb : Fb 0 σ σ1) (hC : ∀ v l, v < 4 → l < 4 → σ1.1 11 v l = ii (ve v l)) (g : Fr [46] [] τ τ1) (hM : ∀ v l, v < 4 → l < 4 → τ1.1 46 0 (4 * v + l) = ii (ve v l)) (hv : ∀ v l, v < 4 → l < 4 → -4 ≤ ve v l ∧ ve v l ≤ 4) : RelA σ1 τ1 (A.setV ve) := by
  obtain ⟨⟨a1, a2, a3⟩, ⟨b1, b2⟩, ⟨c1, c2, c3, c4, c5⟩⟩ := h
  have fs : Fr [11] [] σ σ1 := ⟨fun c _ hc => hx c (fun e => hc (by rw [e]; decide)), fun c _ => by rw [hb.2.1], fun j _ => by rw [hx 32 (by decide)]⟩
  refine ⟨⟨?_, ?_, ?_⟩, ⟨?_, ?_⟩, ?_, ?_, ?_, ?_, ?_⟩
  · obtain ⟨q0, q1, q2, q3, q4, q5, q6, q7⟩ := a1
    refine ⟨q0, ?_, ?_, ?_, ?_, ?_, ?_, ?_⟩
    · rw [hx 0 (by decide)]; exact q1
    · rw [hx 0 (by decide)]; exact q2
    · rw [hx 8 (by decide)]; exact q3
    · rw [hx 9 (by decide)]; exact q4
    · rw [hx 4 (by decide)]; exact q5
    · rw [hx 10 (by decide)]; exact q6
    · simp only [Nat.mul_zero, Nat.zero_add]
      exact hC
  · obtain ⟨q0, q1, q2, q3, q4, q5, q6⟩ := a2
    refine ⟨q0, ?_, ?_, ?_, ?_, ?_, hM⟩
    · rw [g.2.2 1 (by decide)]; exact q1
    · rw [g.2.2 4 (by decide)]; exact q2
    · rw [g.1 42 (by decide) (by decide)]; exact q3
    · rw [g.1 43 (by decide) (by decide)]; exact q4
    · rw [g.1 45 (by decide) (by decide)]; exact q5
  · obtain ⟨q0, q1, q2, q3, q4, q5⟩ := a3
    exact ⟨q0, q1, q2, q3, hv, q5⟩
  · have b1' := b1.c fs (by decide)
    unfold rCl cloudP thinP at b1' ⊢
    rw [show (A.setV ve).n = A.n from rfl, thn_setV, inP_setV, spt_setV]
    exact b1'
  · have b2' := b2.c fs (by decide)
    unfold rTr treeP trA at b2' ⊢
    rw [show (A.setV ve).lo = A.lo from rfl, show (A.setV ve).hi = A.hi from rfl, (tr_setV A ve _ _).1, (tr_setV A ve _ _).2.1, (tr_setV A ve _ _).2.2]
    exact b2'
  · unfold rKeep at c1 ⊢
    rw [hx 7 (by decide), g.2.2 41 (by decide)]
    rcases c1 with c1 | ⟨a, b, K, c, d, e⟩
    · exact Or.inl c1
    · exact Or.inr ⟨a, b, K, c.fb hb (by decide), d.fr g (by decide) (by decide), e⟩
  · unfold rTape at c2 ⊢
    rw [hx 3 (by decide), hx 21 (by decide), g.2.2 28 (by decide), g.1 67 (by decide) (by decide)]
    exact c2
  · unfold rSh at c3 ⊢
    rw [hx 5 (by decide), hb.2.1, g.1 75 (by decide) (by decide), g.1 76 (by decide) (by decide), g.2.1 77 (by decide)]
    exact c3
  · unfold rFd at c4 ⊢
    rw [hx 19 (by decide), g.1 40 (by decide) (by decide)]
    exact c4
  · unfold rW at c5 ⊢
    rw [g.1 74 (by decide) (by decide)]
    exact c5
theorem m_baseOf {σ τ : mm} (h : Rel σ τ) (v l : Int32) : Ag (fX7_baseOf v l σ) (fX8_baseOf v l τ) := by
  obtain ⟨A, hR⟩ := h
  obtain ⟨⟨hC, hM, hA⟩, -⟩ := id hR
  obtain ⟨v, rfl, h1, h2⟩ := ii_ex v
  obtain ⟨l, rfl, h3, h4⟩ := ii_ex l
  have c1 := C_hasLetter hC h1 h2
  have c2 := M_isLetter hM h1 h2
  have c3 := C_hasLetter hC h3 h4
  have c4 := M_isLetter hM h3 h4
  have hn1 := hA.1
  by_cases hv : (0 ≤ v ∧ v < A.n) ∧ 0 ≤ l ∧ l < A.n
  · obtain ⟨⟨v1, v2⟩, v3, v4⟩ := hv
    obtain ⟨v, rfl⟩ : ∃ k : Nat, v = k := ⟨v.toNat, by omega⟩
    obtain ⟨l, rfl⟩ : ∃ k : Nat, l = k := ⟨l.toNat, by omega⟩
    obtain ⟨z1, z2, z3⟩ := hC.z
    have z4 := hM.2.2.2.2.2.2
    refine ⟨ii (A.ve v l), σ, τ, ?_, ?_, _, hR⟩
    · unfold fX7_baseOf fX7_baseOf_0
      simp (disch := omega) only [c1, c3, z3, if_true, if_false, Option.bind_some, Option.map_some, ii_lit, ll_lit, ii_neg, ll_neg, ii_add, ii_sub, ii_mul, ll_add, ll_sub, ll_mul, ii_le, ii_lt, ii_eq, ii_t, bi_0, bi_1, rd_z, wr_z, rr_z, rl_z, wl_z, tn_n, st_s, st_j, st_i, st_c, st_2, sl_s, sl_j, sl_i, sl_c, sl_1, Int.natCast_add, Int.cast_ofNat_Int, if_pos, if_neg, decide_eq_false_iff_not, decide_eq_true_eq, in_ll, ii_long, Nat.zero_add, Nat.mul_zero, reduceCtorEq]
    · unfold fX8_baseOf fX8_baseOf_0
      simp (disch := omega) only [c2, c4, z4, show (4 * (v : Int) + (l : Int)).toNat = 4 * v + l by omega, if_true, if_false, Option.bind_some, Option.map_some, ii_lit, ll_lit, ii_neg, ll_neg, ii_add, ii_sub, ii_mul, ll_add, ll_sub, ll_mul, ii_le, ii_lt, ii_eq, ii_t, bi_0, bi_1, rd_z, wr_z, rr_z, rl_z, wl_z, tn_n, st_s, st_j, st_i, st_c, st_2, sl_s, sl_j, sl_i, sl_c, sl_1, Int.natCast_add, Int.cast_ofNat_Int, if_pos, if_neg, decide_eq_false_iff_not, decide_eq_true_eq, in_ll, ii_long, Nat.zero_add, Nat.mul_zero, reduceCtorEq]
  · obtain ⟨σ', τ', e3, e4, hr⟩ := fd0 hR
    refine ⟨ii (-1000000001), σ', τ', ?_, ?_, _, hr⟩
    · unfold fX7_baseOf fX7_baseOf_0 fX7_baseOf_22
      by_cases k1 : 0 ≤ v ∧ v < A.n
      · simp (disch := omega) only [c1, c3, e3, if_true, if_false, Option.bind_some, Option.map_some, ii_lit, ll_lit, ii_neg, ll_neg, ii_add, ii_sub, ii_mul, ll_add, ll_sub, ll_mul, ii_le, ii_lt, ii_eq, ii_t, bi_0, bi_1, rd_z, wr_z, rr_z, rl_z, wl_z, tn_n, st_s, st_j, st_i, st_c, st_2, sl_s, sl_j, sl_i, sl_c, sl_1, Int.natCast_add, Int.cast_ofNat_Int, if_pos, if_neg, decide_eq_false_iff_not, decide_eq_true_eq, in_ll, ii_long, Nat.zero_add, Nat.mul_zero, reduceCtorEq]
      · simp (disch := omega) only [c1, c3, e3, if_true, if_false, Option.bind_some, Option.map_some, ii_lit, ll_lit, ii_neg, ll_neg, ii_add, ii_sub, ii_mul, ll_add, ll_sub, ll_mul, ii_le, ii_lt, ii_eq, ii_t, bi_0, bi_1, rd_z, wr_z, rr_z, rl_z, wl_z, tn_n, st_s, st_j, st_i, st_c, st_2, sl_s, sl_j, sl_i, sl_c, sl_1, Int.natCast_add, Int.cast_ofNat_Int, if_pos, if_neg, decide_eq_false_iff_not, decide_eq_true_eq, in_ll, ii_long, Nat.zero_add, Nat.mul_zero, reduceCtorEq]
    · unfold fX8_baseOf fX8_baseOf_0 fX8_baseOf_29
      by_cases k1 : 0 ≤ v ∧ v < A.n
      · simp (disch := omega) only [c2, c4, e4, if_true, if_false, Option.bind_some, Option.map_some, ii_lit, ll_lit, ii_neg, ll_neg, ii_add, ii_sub, ii_mul, ll_add, ll_sub, ll_mul, ii_le, ii_lt, ii_eq, ii_t, bi_0, bi_1, rd_z, wr_z, rr_z, rl_z, wl_z, tn_n, st_s, st_j, st_i, st_c, st_2, sl_s, sl_j, sl_i, sl_c, sl_1, Int.natCast_add, Int.cast_ofNat_Int, if_pos, if_neg, decide_eq_false_iff_not, decide_eq_true_eq, in_ll, ii_long, Nat.zero_add, Nat.mul_zero, reduceCtorEq]
      · simp (disch := omega) only [c2, c4, e4, if_true, if_false, Option.bind_some, Option.map_some, ii_lit, ll_lit, ii_neg, ll_neg, ii_add, ii_sub, ii_mul, ll_add, ll_sub, ll_mul, ii_le, ii_lt, ii_eq, ii_t, bi_0, bi_1, rd_z, wr_z, rr_z, rl_z, wl_z, tn_n, st_s, st_j, st_i, st_c, st_2, sl_s, sl_j, sl_i, sl_c, sl_1, Int.natCast_add, Int.cast_ofNat_Int, if_pos, if_neg, decide_eq_false_iff_not, decide_eq_true_eq, in_ll, ii_long, Nat.zero_add, Nat.mul_zero, reduceCtorEq]
theorem m_base {σ τ : mm} (h : Rel σ τ) (v l x : Int32) : Ag (fX7_base v l x σ) (fX8_base v l x τ) := by
  obtain ⟨A, hR⟩ := h
  obtain ⟨⟨hC, hM, hA⟩, -⟩ := id hR
  obtain ⟨v, rfl, h1, h2⟩ := ii_ex v
  obtain ⟨l, rfl, h3, h4⟩ := ii_ex l
  obtain ⟨x, rfl, h5, h6⟩ := ii_ex x
  have c1 := C_hasLetter hC h1 h2
  have c2 := M_isLetter hM h1 h2
  have c3 := C_hasLetter hC h3 h4
  have c4 := M_isLetter hM h3 h4
  have c5 := C_within h5 h6 (m := 4) (by omega) (by omega)
  have hn1 := hA.1
  by_cases hv : (0 ≤ v ∧ v < A.n) ∧ (0 ≤ l ∧ l < A.n) ∧ -4 ≤ x ∧ x ≤ 4
  · obtain ⟨⟨v1, v2⟩, ⟨v3, v4⟩, v5⟩ := hv
    obtain ⟨v, rfl⟩ : ∃ k : Nat, v = k := ⟨v.toNat, by omega⟩
    obtain ⟨l, rfl⟩ : ∃ k : Nat, l = k := ⟨l.toNat, by omega⟩
    obtain ⟨z1, z2, z3⟩ := hC.z
    have z4 := hM.2.2.2.2.2.2
    have hRl := Rel.vec (ve := up1 A.ve v (up1 (A.ve v) l x)) (σ1 := stI σ 11 v l (ii x)) (τ1 := stI τ 46 0 (4 * v + l) (ii x)) hR (fun c hc => st_c _ _ _ _ hc) ((Fb.rf 0 σ).sI (Or.inr (Or.inr ⟨rfl, v, by omega, by omega⟩))) ?_ ((Fr.rf _ _ _).sI (by decide) (by decide)) ?_ ?_
    · refine ⟨ii (A.ve v l), _, _, ?_, ?_, _, hRl⟩
      · unfold fX7_base fX7_base_0
        simp (disch := omega) only [c1, c3, c5, z3, if_true, if_false, Option.bind_some, Option.map_some, ii_lit, ll_lit, ii_neg, ll_neg, ii_add, ii_sub, ii_mul, ll_add, ll_sub, ll_mul, ii_le, ii_lt, ii_eq, ii_t, bi_0, bi_1, rd_z, wr_z, rr_z, rl_z, wl_z, tn_n, st_s, st_j, st_i, st_c, st_2, sl_s, sl_j, sl_i, sl_c, sl_1, Int.natCast_add, Int.cast_ofNat_Int, if_pos, if_neg, decide_eq_false_iff_not, decide_eq_true_eq, in_ll, ii_long, Nat.zero_add, Nat.mul_zero, reduceCtorEq]
      · unfold fX8_base fX8_base_0
        simp (disch := omega) only [c2, c4, z4, show (4 * (v : Int) + (l : Int)).toNat = 4 * v + l by omega, if_true, if_false, Option.bind_some, Option.map_some, ii_lit, ll_lit, ii_neg, ll_neg, ii_add, ii_sub, ii_mul, ll_add, ll_sub, ll_mul, ii_le, ii_lt, ii_eq, ii_t, bi_0, bi_1, rd_z, wr_z, rr_z, rl_z, wl_z, tn_n, st_s, st_j, st_i, st_c, st_2, sl_s, sl_j, sl_i, sl_c, sl_1, Int.natCast_add, Int.cast_ofNat_Int, if_pos, if_neg, decide_eq_false_iff_not, decide_eq_true_eq, in_ll, ii_long, Nat.zero_add, Nat.mul_zero, reduceCtorEq]
    · intro a b ha hb
      by_cases q1 : a = v
      · subst q1
        by_cases q2 : b = l
        · subst q2
          rw [st_s, up1_same, up1_same]
        · rw [st_j _ _ q2, up1_same, up1_ne _ _ q2]
          exact z3 a b ha hb
      · rw [st_i _ _ _ q1, up1_ne _ _ q1]
        exact z3 a b ha hb
    · intro a b ha hb
      by_cases q1 : a = v
      · subst q1
        by_cases q2 : b = l
        · subst q2
          rw [st_s, up1_same, up1_same]
        · rw [st_j _ _ (by omega), up1_same, up1_ne _ _ q2]
          exact z4 a b ha hb
      · rw [st_j _ _ (by omega), up1_ne _ _ q1]
        exact z4 a b ha hb
    · intro a b ha hb
      have := hA.2.2.2.2.1 a b ha hb
      have := hA.2.2.2.2.1 v b (by omega) hb
      by_cases q1 : a = v
      · subst q1
        by_cases q2 : b = l
        · subst q2
          rw [up1_same, up1_same]
          exact v5
        · rw [up1_same, up1_ne _ _ q2]
          assumption
      · rw [up1_ne _ _ q1]
        assumption
  · obtain ⟨σ', τ', e3, e4, hr⟩ := fd0 hR
    refine ⟨ii (-1000000001), σ', τ', ?_, ?_, _, hr⟩
    · unfold fX7_base fX7_base_0 fX7_base_30
      by_cases k1 : 0 ≤ v ∧ v < A.n
      · by_cases k2 : 0 ≤ l ∧ l < A.n
        · simp (disch := omega) only [c1, c3, c5, e3, if_true, if_false, Option.bind_some, Option.map_some, ii_lit, ll_lit, ii_neg, ll_neg, ii_add, ii_sub, ii_mul, ll_add, ll_sub, ll_mul, ii_le, ii_lt, ii_eq, ii_t, bi_0, bi_1, rd_z, wr_z, rr_z, rl_z, wl_z, tn_n, st_s, st_j, st_i, st_c, st_2, sl_s, sl_j, sl_i, sl_c, sl_1, Int.natCast_add, Int.cast_ofNat_Int, if_pos, if_neg, decide_eq_false_iff_not, decide_eq_true_eq, in_ll, ii_long, Nat.zero_add, Nat.mul_zero, reduceCtorEq]
        · simp (disch := omega) only [c1, c3, c5, e3, if_true, if_false, Option.bind_some, Option.map_some, ii_lit, ll_lit, ii_neg, ll_neg, ii_add, ii_sub, ii_mul, ll_add, ll_sub, ll_mul, ii_le, ii_lt, ii_eq, ii_t, bi_0, bi_1, rd_z, wr_z, rr_z, rl_z, wl_z, tn_n, st_s, st_j, st_i, st_c, st_2, sl_s, sl_j, sl_i, sl_c, sl_1, Int.natCast_add, Int.cast_ofNat_Int, if_pos, if_neg, decide_eq_false_iff_not, decide_eq_true_eq, in_ll, ii_long, Nat.zero_add, Nat.mul_zero, reduceCtorEq]
      · simp (disch := omega) only [c1, c3, c5, e3, if_true, if_false, Option.bind_some, Option.map_some, ii_lit, ll_lit, ii_neg, ll_neg, ii_add, ii_sub, ii_mul, ll_add, ll_sub, ll_mul, ii_le, ii_lt, ii_eq, ii_t, bi_0, bi_1, rd_z, wr_z, rr_z, rl_z, wl_z, tn_n, st_s, st_j, st_i, st_c, st_2, sl_s, sl_j, sl_i, sl_c, sl_1, Int.natCast_add, Int.cast_ofNat_Int, if_pos, if_neg, decide_eq_false_iff_not, decide_eq_true_eq, in_ll, ii_long, Nat.zero_add, Nat.mul_zero, reduceCtorEq]
    · unfold fX8_base fX8_base_0 fX8_base_30
      by_cases k1 : 0 ≤ v ∧ v < A.n
      · by_cases k2 : 0 ≤ l ∧ l < A.n
        · simp (disch := omega) only [c2, c4, e4, if_true, if_false, Option.bind_some, Option.map_some, ii_lit, ll_lit, ii_neg, ll_neg, ii_add, ii_sub, ii_mul, ll_add, ll_sub, ll_mul, ii_le, ii_lt, ii_eq, ii_t, bi_0, bi_1, rd_z, wr_z, rr_z, rl_z, wl_z, tn_n, st_s, st_j, st_i, st_c, st_2, sl_s, sl_j, sl_i, sl_c, sl_1, Int.natCast_add, Int.cast_ofNat_Int, if_pos, if_neg, decide_eq_false_iff_not, decide_eq_true_eq, in_ll, ii_long, Nat.zero_add, Nat.mul_zero, reduceCtorEq]
        · simp (disch := omega) only [c2, c4, e4, if_true, if_false, Option.bind_some, Option.map_some, ii_lit, ll_lit, ii_neg, ll_neg, ii_add, ii_sub, ii_mul, ll_add, ll_sub, ll_mul, ii_le, ii_lt, ii_eq, ii_t, bi_0, bi_1, rd_z, wr_z, rr_z, rl_z, wl_z, tn_n, st_s, st_j, st_i, st_c, st_2, sl_s, sl_j, sl_i, sl_c, sl_1, Int.natCast_add, Int.cast_ofNat_Int, if_pos, if_neg, decide_eq_false_iff_not, decide_eq_true_eq, in_ll, ii_long, Nat.zero_add, Nat.mul_zero, reduceCtorEq]
      · simp (disch := omega) only [c2, c4, e4, if_true, if_false, Option.bind_some, Option.map_some, ii_lit, ll_lit, ii_neg, ll_neg, ii_add, ii_sub, ii_mul, ll_add, ll_sub, ll_mul, ii_le, ii_lt, ii_eq, ii_t, bi_0, bi_1, rd_z, wr_z, rr_z, rl_z, wl_z, tn_n, st_s, st_j, st_i, st_c, st_2, sl_s, sl_j, sl_i, sl_c, sl_1, Int.natCast_add, Int.cast_ofNat_Int, if_pos, if_neg, decide_eq_false_iff_not, decide_eq_true_eq, in_ll, ii_long, Nat.zero_add, Nat.mul_zero, reduceCtorEq]
theorem C_isPair {σ : mm} {A : bdy} (hC : isC σ 0 A) {a b : Int} (h1 : -2147483648 ≤ a) (h2 : a < 2147483648) (h3 : -2147483648 ≤ b) (h4 : b < 2147483648) : fX7_isPair (ii a) (ii b) σ = decide ((0 ≤ a ∧ a < A.n) ∧ (0 ≤ b ∧ b < A.n) ∧ a ≠ b) := by
  have c1 := C_hasLetter hC h1 h2
  have c3 := C_hasLetter hC h3 h4
  unfold fX7_isPair fX7_isPair_0
  by_cases k : (0 ≤ a ∧ a < A.n) ∧ (0 ≤ b ∧ b < A.n) ∧ a ≠ b
  · rw [decide_eq_true k]
    simp (disch := omega) only [c1, c3, if_true, if_false, Option.bind_some, Option.map_some, ii_lit, ll_lit, ii_neg, ll_neg, ii_add, ii_sub, ii_mul, ll_add, ll_sub, ll_mul, ii_le, ii_lt, ii_eq, ii_t, bi_0, bi_1, rd_z, wr_z, rr_z, rl_z, wl_z, tn_n, st_s, st_j, st_i, st_c, st_2, sl_s, sl_j, sl_i, sl_c, sl_1, Int.natCast_add, Int.cast_ofNat_Int, if_pos, if_neg, decide_eq_false_iff_not, decide_eq_true_eq, in_ll, ii_long, Nat.zero_add, Nat.mul_zero, reduceCtorEq]
  · rw [decide_eq_false k]
    by_cases k1 : 0 ≤ a ∧ a < A.n
    · by_cases k2 : 0 ≤ b ∧ b < A.n
      · simp (disch := omega) only [c1, c3, if_true, if_false, Option.bind_some, Option.map_some, ii_lit, ll_lit, ii_neg, ll_neg, ii_add, ii_sub, ii_mul, ll_add, ll_sub, ll_mul, ii_le, ii_lt, ii_eq, ii_t, bi_0, bi_1, rd_z, wr_z, rr_z, rl_z, wl_z, tn_n, st_s, st_j, st_i, st_c, st_2, sl_s, sl_j, sl_i, sl_c, sl_1, Int.natCast_add, Int.cast_ofNat_Int, if_pos, if_neg, decide_eq_false_iff_not, decide_eq_true_eq, in_ll, ii_long, Nat.zero_add, Nat.mul_zero, reduceCtorEq]
      · simp (disch := omega) only [c1, c3, if_true, if_false, Option.bind_some, Option.map_some, ii_lit, ll_lit, ii_neg, ll_neg, ii_add, ii_sub, ii_mul, ll_add, ll_sub, ll_mul, ii_le, ii_lt, ii_eq, ii_t, bi_0, bi_1, rd_z, wr_z, rr_z, rl_z, wl_z, tn_n, st_s, st_j, st_i, st_c, st_2, sl_s, sl_j, sl_i, sl_c, sl_1, Int.natCast_add, Int.cast_ofNat_Int, if_pos, if_neg, decide_eq_false_iff_not, decide_eq_true_eq, in_ll, ii_long, Nat.zero_add, Nat.mul_zero, reduceCtorEq]
    · simp (disch := omega) only [c1, c3, if_true, if_false, Option.bind_some, Option.map_some, ii_lit, ll_lit, ii_neg, ll_neg, ii_add, ii_sub, ii_mul, ll_add, ll_sub, ll_mul, ii_le, ii_lt, ii_eq, ii_t, bi_0, bi_1, rd_z, wr_z, rr_z, rl_z, wl_z, tn_n, st_s, st_j, st_i, st_c, st_2, sl_s, sl_j, sl_i, sl_c, sl_1, Int.natCast_add, Int.cast_ofNat_Int, if_pos, if_neg, decide_eq_false_iff_not, decide_eq_true_eq, in_ll, ii_long, Nat.zero_add, Nat.mul_zero, reduceCtorEq]
theorem M_areTwo {τ : mm} {A : bdy} (hM : isM τ A) {a b : Int} (h1 : -2147483648 ≤ a) (h2 : a < 2147483648) (h3 : -2147483648 ≤ b) (h4 : b < 2147483648) : fX8_areTwo (ii a) (ii b) τ = decide ((0 ≤ a ∧ a < A.n) ∧ (0 ≤ b ∧ b < A.n) ∧ a ≠ b) := by
  have c1 := M_isLetter hM h1 h2
  have c3 := M_isLetter hM h3 h4
  unfold fX8_areTwo fX8_areTwo_0
  by_cases k : (0 ≤ a ∧ a < A.n) ∧ (0 ≤ b ∧ b < A.n) ∧ a ≠ b
  · rw [decide_eq_true k]
    simp (disch := omega) only [c1, c3, if_true, if_false, Option.bind_some, Option.map_some, ii_lit, ll_lit, ii_neg, ll_neg, ii_add, ii_sub, ii_mul, ll_add, ll_sub, ll_mul, ii_le, ii_lt, ii_eq, ii_t, bi_0, bi_1, rd_z, wr_z, rr_z, rl_z, wl_z, tn_n, st_s, st_j, st_i, st_c, st_2, sl_s, sl_j, sl_i, sl_c, sl_1, Int.natCast_add, Int.cast_ofNat_Int, if_pos, if_neg, decide_eq_false_iff_not, decide_eq_true_eq, in_ll, ii_long, Nat.zero_add, Nat.mul_zero, reduceCtorEq]
  · rw [decide_eq_false k]
    by_cases k1 : 0 ≤ a ∧ a < A.n
    · by_cases k2 : 0 ≤ b ∧ b < A.n
      · simp (disch := omega) only [c1, c3, if_true, if_false, Option.bind_some, Option.map_some, ii_lit, ll_lit, ii_neg, ll_neg, ii_add, ii_sub, ii_mul, ll_add, ll_sub, ll_mul, ii_le, ii_lt, ii_eq, ii_t, bi_0, bi_1, rd_z, wr_z, rr_z, rl_z, wl_z, tn_n, st_s, st_j, st_i, st_c, st_2, sl_s, sl_j, sl_i, sl_c, sl_1, Int.natCast_add, Int.cast_ofNat_Int, if_pos, if_neg, decide_eq_false_iff_not, decide_eq_true_eq, in_ll, ii_long, Nat.zero_add, Nat.mul_zero, reduceCtorEq]
      · simp (disch := omega) only [c1, c3, if_true, if_false, Option.bind_some, Option.map_some, ii_lit, ll_lit, ii_neg, ll_neg, ii_add, ii_sub, ii_mul, ll_add, ll_sub, ll_mul, ii_le, ii_lt, ii_eq, ii_t, bi_0, bi_1, rd_z, wr_z, rr_z, rl_z, wl_z, tn_n, st_s, st_j, st_i, st_c, st_2, sl_s, sl_j, sl_i, sl_c, sl_1, Int.natCast_add, Int.cast_ofNat_Int, if_pos, if_neg, decide_eq_false_iff_not, decide_eq_true_eq, in_ll, ii_long, Nat.zero_add, Nat.mul_zero, reduceCtorEq]
    · simp (disch := omega) only [c1, c3, if_true, if_false, Option.bind_some, Option.map_some, ii_lit, ll_lit, ii_neg, ll_neg, ii_add, ii_sub, ii_mul, ll_add, ll_sub, ll_mul, ii_le, ii_lt, ii_eq, ii_t, bi_0, bi_1, rd_z, wr_z, rr_z, rl_z, wl_z, tn_n, st_s, st_j, st_i, st_c, st_2, sl_s, sl_j, sl_i, sl_c, sl_1, Int.natCast_add, Int.cast_ofNat_Int, if_pos, if_neg, decide_eq_false_iff_not, decide_eq_true_eq, in_ll, ii_long, Nat.zero_add, Nat.mul_zero, reduceCtorEq]
