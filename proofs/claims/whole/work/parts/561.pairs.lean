-- BOTH clear a pair alike
theorem C_clear {σ : mm} {n c r k : Nat} {M : mat} (h : matC σ n M) (hc : c < n) (hr : r < n) (hcr : c ≠ r) (hk : Cl c r M k) (h100 : k < 100) : ∃ σ', fX2_clearBelow (ii c) (ii r) σ = some (ii (sgn k), σ') ∧ matC σ' n (itm c r k M) ∧ Fr [23] [] σ σ' := by
  have hn4 := h.1
  have key : ∃ w, lp (fX2_clearBelow_5_L (ii c) (ii r)) ((1), (0), σ) = some w ∧ (w.1 = ii (sgn k) ∧ matC w.2 n (itm c r k M) ∧ Fr [23] [] σ w.2) := by
    refine lp_j (fun j (z : Int32 × Int32 × mm) => z.1 = ii (sgn j) ∧ z.2.1 = ii j ∧ matC z.2.2 n (itm c r j M) ∧ Fr [23] [] σ z.2.2) _ k ⟨rfl, rfl, h, Fr.rf _ _ _⟩ ?_ ?_
    · rintro j ⟨a, b, s⟩ hj ⟨g1, g2, g3, g4⟩
      simp only [] at g1 g2 g3 g4
      subst g1 g2
      obtain ⟨b1, b2⟩ := hk.2.2 j (by omega)
      have nz := hk.2.1 j hj
      obtain ⟨s1, e1, f1, f2⟩ := C_addTimes g3 hr hc (-(Int.tdiv (itm c r j M c c) (itm c r j M r c)))
      obtain ⟨w, e2, s2, rfl, f3, f4⟩ := C_swapRows f1 hc hr (sgn j) (j : Int)
      have e2 : lp (fX2_clearBelow_52_L (ii c) (ii r) (ii (sgn j)) (ii j)) (ii 0, s1) = some (.inl (ii (-sgn j), ii ((j : Int) + 1), s2)) := e2
      have x1 := g3.2.2 r c hr hc
      have x2 := g3.2.2 c c hc hc
      refine ⟨(ii (-sgn j), ii ((j : Int) + 1), s2), ?_, rfl, rfl, f3, (g4.tr f2).tr f4⟩
      show fX2_clearBelow_5 (ii c) (ii r) (ii (sgn j)) (ii j) s = _
      unfold fX2_clearBelow_5
      generalize itm c r j M c c = X at *
      generalize itm c r j M r c = Y at *
      simp (disch := omega) only [x1, x2, cmp_eq0, dv_ll, e1, e2, if_true, if_false, Option.bind_some, Option.map_some, ii_lit, ll_lit, ii_neg, ll_neg, ii_add, ii_sub, ii_mul, ll_add, ll_sub, ll_mul, ii_le, ii_lt, ii_eq, ii_t, bi_0, bi_1, rd_z, wr_z, rr_z, rl_z, wl_z, tn_n, st_s, st_j, st_i, st_c, st_2, sl_s, sl_j, sl_i, sl_c, sl_1, Int.natCast_add, Int.cast_ofNat_Int, if_pos, if_neg, decide_eq_false_iff_not, decide_eq_true_eq, in_ll, ii_long, Nat.zero_add, Nat.mul_zero, reduceCtorEq, Int.toNat_natCast]
    · rintro ⟨a, b, s⟩ ⟨g1, g2, g3, g4⟩
      simp only [] at g1 g2 g3 g4
      subst g1 g2
      have x1 := g3.2.2 r c hr hc
      rw [hk.1] at x1
      refine ⟨(ii (sgn k), s), ?_, rfl, g3, g4⟩
      show fX2_clearBelow_5 (ii c) (ii r) (ii (sgn k)) (ii k) s = _
      unfold fX2_clearBelow_5
      simp (disch := omega) only [x1, cmp_eq0, if_true, if_false, Option.bind_some, Option.map_some, ii_lit, ll_lit, ii_neg, ll_neg, ii_add, ii_sub, ii_mul, ll_add, ll_sub, ll_mul, ii_le, ii_lt, ii_eq, ii_t, bi_0, bi_1, rd_z, wr_z, rr_z, rl_z, wl_z, tn_n, st_s, st_j, st_i, st_c, st_2, sl_s, sl_j, sl_i, sl_c, sl_1, Int.natCast_add, Int.cast_ofNat_Int, if_pos, if_neg, decide_eq_false_iff_not, decide_eq_true_eq, in_ll, ii_long, Nat.zero_add, Nat.mul_zero, reduceCtorEq, Int.toNat_natCast]
  obtain ⟨⟨a, s⟩, e, g1, g2, g3⟩ := key
  have g1 : a = ii (sgn k) := g1
  subst g1
  exact ⟨s, e, g2, g3⟩
theorem M_pair {τ : mm} {n c r k : Nat} {M : mat} {s : Int} (h : matM τ n M) (hc : c < n) (hr : r < n) (hcr : c ≠ r) (hk : Cl c r M k) (hs : τ.1 32 0 24 = ii s) : ∃ τ', lp (fX8_clears_73_L (ii c) (ii r)) τ = some (.inl (ii ((r + 1 : Nat)), τ')) ∧ matM τ' n (itm c r k M) ∧ τ'.1 32 0 24 = ii (s * sgn k) ∧ Fr [63] [24] τ τ' := by
  have hn4 := h.1
  have t1 : (4 * (r : Int) + (c : Int)).toNat = 4 * r + c := by omega
  have t2 : (4 * (c : Int) + (c : Int)).toNat = 4 * c + c := by omega
  have key : ∃ w, lp (fX8_clears_73_L (ii c) (ii r)) τ = some w ∧ ∃ τ', w = .inl (ii ((r + 1 : Nat)), τ') ∧ matM τ' n (itm c r k M) ∧ τ'.1 32 0 24 = ii (s * sgn k) ∧ Fr [63] [24] τ τ' := by
    refine lp_j (fun j (z : mm) => matM z n (itm c r j M) ∧ z.1 32 0 24 = ii (s * sgn j) ∧ Fr [63] [24] τ z) _ k ⟨h, by rw [hs]; show ii s = ii (s * 1); rw [Int.mul_one], Fr.rf _ _ _⟩ ?_ ?_
    · rintro j z hj ⟨g1, g2, g3⟩
      obtain ⟨b1, b2⟩ := hk.2.2 j (by omega)
      have nz := hk.2.1 j hj
      obtain ⟨z1, e1, f1, f2⟩ := M_takesOff g1 hr hc (Int.tdiv (itm c r j M c c) (itm c r j M r c))
      have g2' : z1.1 32 0 24 = ii (s * sgn j) := by rw [f2.2.2 24 (by decide)]; exact g2
      obtain ⟨z2, e2, f3, f4, f5⟩ := M_changesRows f1 hc hr g2'
      have x1 := g1.2.2 r c hr hc
      have x2 := g1.2.2 c c hc hc
      refine ⟨z2, ?_, f3, ?_, (g3.tr (f2.mono (by decide) (by decide))).tr f5⟩
      · show fX8_clears_73 (ii c) (ii r) z = _
        unfold fX8_clears_73
        generalize itm c r j M c c = X at *
        generalize itm c r j M r c = Y at *
        simp (disch := omega) only [t1, t2, x1, x2, dv_ii, e1, e2, if_true, if_false, Option.bind_some, Option.map_some, ii_lit, ll_lit, ii_neg, ll_neg, ii_add, ii_sub, ii_mul, ll_add, ll_sub, ll_mul, ii_le, ii_lt, ii_eq, ii_t, bi_0, bi_1, rd_z, wr_z, rr_z, rl_z, wl_z, tn_n, st_s, st_j, st_i, st_c, st_2, sl_s, sl_j, sl_i, sl_c, sl_1, Int.natCast_add, Int.cast_ofNat_Int, if_pos, if_neg, decide_eq_false_iff_not, decide_eq_true_eq, in_ll, ii_long, Nat.zero_add, Nat.mul_zero, reduceCtorEq]
      · rw [f4]
        show _ = ii (s * -sgn j)
        rw [Int.mul_neg]
    · rintro z ⟨g1, g2, g3⟩
      have x1 := g1.2.2 r c hr hc
      rw [hk.1] at x1
      refine ⟨.inl (ii ((r + 1 : Nat)), z), ?_, z, rfl, g1, g2, g3⟩
      show fX8_clears_73 (ii c) (ii r) z = _
      unfold fX8_clears_73
      simp (disch := omega) only [t1, x1, if_true, if_false, Option.bind_some, Option.map_some, ii_lit, ll_lit, ii_neg, ll_neg, ii_add, ii_sub, ii_mul, ll_add, ll_sub, ll_mul, ii_le, ii_lt, ii_eq, ii_t, bi_0, bi_1, rd_z, wr_z, rr_z, rl_z, wl_z, tn_n, st_s, st_j, st_i, st_c, st_2, sl_s, sl_j, sl_i, sl_c, sl_1, Int.natCast_add, Int.cast_ofNat_Int, if_pos, if_neg, decide_eq_false_iff_not, decide_eq_true_eq, in_ll, ii_long, Nat.zero_add, Nat.mul_zero, reduceCtorEq]
  obtain ⟨w, e, τ', rfl, q⟩ := key
  exact ⟨τ', e, q⟩
-- the class's column
theorem cols_1 (c m : Nat) (M : mat) : cols c m M = 1 ∨ cols c m M = -1 := by
  induction m with
  | zero => exact Or.inl rfl
  | succ m ih =>
    unfold cols
    rcases ih with h | h <;> rcases sgn_1 (kkf c (c + m + 1) (colm c m M)) with g | g <;> rw [h, g] <;> decide
theorem C_col {σ : mm} {n c : Nat} {M : mat} {D : Int} (h : matC σ n M) (hc : c < n) (hL : Leg n c M) (hb : (colm c (n - 1 - c) M c c).natAbs < 2147483648) (hD0 : D ≠ 0) (hD : (D * cols c (n - 1 - c) M * colm c (n - 1 - c) M c c).natAbs < 9223372036854775808) :
    ∃ σ', Fr [23] [] σ σ' ∧ (colm c (n - 1 - c) M c c ≠ 0 → lp (fX2_makeForm_77_L (ii c)) (ll D, ii ((c : Int) + 1), σ) = some (.inl (ll (D * cols c (n - 1 - c) M * colm c (n - 1 - c) M c c), ii ((c : Int) + 1), σ')) ∧ matC σ' n (negm c (colm c (n - 1 - c) M))) ∧
      (colm c (n - 1 - c) M c c = 0 → lp (fX2_makeForm_77_L (ii c)) (ll D, ii ((c : Int) + 1), σ) = some (.inr (ii 0, σ'))) := by
  have hn4 := h.1
  have key : ∃ w, lp (fX2_makeForm_77_L (ii c)) (ll D, ii ((c : Int) + 1), σ) = some w ∧ ∃ σ', Fr [23] [] σ σ' ∧ (colm c (n - 1 - c) M c c ≠ 0 → w = .inl (ll (D * cols c (n - 1 - c) M * colm c (n - 1 - c) M c c), ii ((c : Int) + 1), σ') ∧ matC σ' n (negm c (colm c (n - 1 - c) M))) ∧ (colm c (n - 1 - c) M c c = 0 → w = .inr (ii 0, σ')) := by
    refine lp_j (fun m (z : Int64 × Int32 × mm) => z.1 = ll (D * cols c m M) ∧ z.2.1 = ii ((c : Int) + m + 1) ∧ matC z.2.2 n (colm c m M) ∧ Fr [23] [] σ z.2.2) _ (n - 1 - c) ⟨by show ll D = ll (D * 1); rw [Int.mul_one], by show ii ((c : Int) + 1) = ii ((c : Int) + (0 : Nat) + 1); rw [show (c : Int) + (0 : Nat) + 1 = (c : Int) + 1 by omega], h, Fr.rf _ _ _⟩ ?_ ?_
    · rintro m ⟨a, b, s⟩ hm ⟨g1, g2, g3, g4⟩
      simp only [] at g1 g2 g3 g4
      subst g1 g2
      have e0 := g3.2.1
      obtain ⟨q1, q2⟩ := hL.cl (m := m) (by omega)
      obtain ⟨s1, e1, f1, f2⟩ := C_clear g3 hc (by omega) (by omega) q2 q1
      have sg := sgn_1 (kkf c (c + m + 1) (colm c m M))
      rw [show ((c + m + 1 : Nat) : Int) = (c : Int) + m + 1 by omega] at e1
      refine ⟨(ll (D * cols c (m + 1) M), ii ((c : Int) + (m + 1 : Nat) + 1), s1), ?_, rfl, rfl, f1, g4.tr f2⟩
      show fX2_makeForm_77 (ll (D * cols c m M)) (ii c) (ii ((c : Int) + m + 1)) s = _
      unfold fX2_makeForm_77
      rw [show cols c (m + 1) M = cols c m M * sgn (kkf c (c + m + 1) (colm c m M)) from rfl, ← Int.mul_assoc]
      generalize sgn (kkf c (c + m + 1) (colm c m M)) = S at *
      simp (disch := omega) only [e0, e1, if_true, if_false, Option.bind_some, Option.map_some, ii_lit, ll_lit, ii_neg, ll_neg, ii_add, ii_sub, ii_mul, ll_add, ll_sub, ll_mul, ii_le, ii_lt, ii_eq, ii_t, bi_0, bi_1, rd_z, wr_z, rr_z, rl_z, wl_z, tn_n, st_s, st_j, st_i, st_c, st_2, sl_s, sl_j, sl_i, sl_c, sl_1, Int.natCast_add, Int.cast_ofNat_Int, if_pos, if_neg, decide_eq_false_iff_not, decide_eq_true_eq, in_ll, ii_long, Nat.zero_add, Nat.mul_zero, reduceCtorEq]
      rw [show (c : Int) + m + 1 + 1 = (c : Int) + ((m : Int) + 1) + 1 by omega]
    · rintro ⟨a, b, s⟩ ⟨g1, g2, g3, g4⟩
      simp only [] at g1 g2 g3 g4
      subst g1 g2
      have e0 := g3.2.1
      have x0 := g3.2.2 c c hc hc
      have eN : (c : Int) + (n - 1 - c : Nat) + 1 = n := by omega
      rw [eN]
      obtain ⟨s1, e1, f1, f2⟩ := C_addTimes g3 hc hc (-2)
      have x1 := f1.2.2 c c hc hc
      have x1 : s1.2 23 c c = ll (-colm c (n - 1 - c) M c c) := by
        rw [x1]
        unfold rop
        rw [if_pos rfl]
        congr 1
        omega
      have hS := cols_1 c (n - 1 - c) M
      have em : negm c (colm c (n - 1 - c) M) = if colm c (n - 1 - c) M c c < 0 then rop (colm c (n - 1 - c) M) c c (-2) else colm c (n - 1 - c) M := rfl
      rw [em]
      generalize colm c (n - 1 - c) M = N at *
      generalize hP : N c c = P at *
      generalize cols c (n - 1 - c) M = S at *
      have hz : D * S * P = 0 ↔ P = 0 := by
        constructor
        · intro e
          rcases Int.mul_eq_zero.mp e with e | e
          · rcases Int.mul_eq_zero.mp e with e | e
            · exact absurd e hD0
            · omega
          · exact e
        · rintro rfl
          exact Int.mul_zero _
      show ∃ r, fX2_makeForm_77 (ll (D * S)) (ii c) (ii n) s = some (.inr r) ∧ _
      by_cases hp : P < 0
      · have ep : -(D * S) * -P = D * S * P := by rw [Int.neg_mul_neg]
        have nz : ¬ D * S * P = 0 := fun e => by have := hz.mp e; omega
        refine ⟨.inl (ll (D * S * P), ii ((c : Int) + 1), s1), ?_, s1, g4.tr f2, fun _ => ⟨rfl, by rw [if_pos hp]; exact f1⟩, fun h => by omega⟩
        unfold fX2_makeForm_77 fX2_makeForm_133
        simp (disch := omega) only [e0, x0, x1, e1, cmp_ge0, cmp_eq0, ep, nz, if_true, if_false, Option.bind_some, Option.map_some, ii_lit, ll_lit, ii_neg, ll_neg, ii_add, ii_sub, ii_mul, ll_add, ll_sub, ll_mul, ii_le, ii_lt, ii_eq, ii_t, bi_0, bi_1, rd_z, wr_z, rr_z, rl_z, wl_z, tn_n, st_s, st_j, st_i, st_c, st_2, sl_s, sl_j, sl_i, sl_c, sl_1, Int.natCast_add, Int.cast_ofNat_Int, if_pos, if_neg, decide_eq_false_iff_not, decide_eq_true_eq, in_ll, ii_long, Nat.zero_add, Nat.mul_zero, reduceCtorEq]
      · by_cases hp0 : P = 0
        · refine ⟨.inr (ii 0, s), ?_, s, g4, fun h => by omega, fun _ => rfl⟩
          have nz := hz.mpr hp0
          unfold fX2_makeForm_77 fX2_makeForm_133
          simp (disch := omega) only [e0, x0, cmp_ge0, cmp_eq0, nz, if_true, if_false, Option.bind_some, Option.map_some, ii_lit, ll_lit, ii_neg, ll_neg, ii_add, ii_sub, ii_mul, ll_add, ll_sub, ll_mul, ii_le, ii_lt, ii_eq, ii_t, bi_0, bi_1, rd_z, wr_z, rr_z, rl_z, wl_z, tn_n, st_s, st_j, st_i, st_c, st_2, sl_s, sl_j, sl_i, sl_c, sl_1, Int.natCast_add, Int.cast_ofNat_Int, if_pos, if_neg, decide_eq_false_iff_not, decide_eq_true_eq, in_ll, ii_long, Nat.zero_add, Nat.mul_zero, reduceCtorEq]
        · refine ⟨.inl (ll (D * S * P), ii ((c : Int) + 1), s), ?_, s, g4, fun _ => ⟨rfl, by rw [if_neg hp]; exact g3⟩, fun h => by omega⟩
          have nz : ¬ D * S * P = 0 := fun e => hp0 (hz.mp e)
          unfold fX2_makeForm_77 fX2_makeForm_133
          simp (disch := omega) only [e0, x0, cmp_ge0, cmp_eq0, nz, if_true, if_false, Option.bind_some, Option.map_some, ii_lit, ll_lit, ii_neg, ll_neg, ii_add, ii_sub, ii_mul, ll_add, ll_sub, ll_mul, ii_le, ii_lt, ii_eq, ii_t, bi_0, bi_1, rd_z, wr_z, rr_z, rl_z, wl_z, tn_n, st_s, st_j, st_i, st_c, st_2, sl_s, sl_j, sl_i, sl_c, sl_1, Int.natCast_add, Int.cast_ofNat_Int, if_pos, if_neg, decide_eq_false_iff_not, decide_eq_true_eq, in_ll, ii_long, Nat.zero_add, Nat.mul_zero, reduceCtorEq]
  obtain ⟨w, e, σ', f1, f2, f3⟩ := key
  exact ⟨σ', f1, fun hz => ⟨by rw [e, (f2 hz).1], (f2 hz).2⟩, fun hz => by rw [e, f3 hz]⟩
