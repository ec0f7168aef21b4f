-- TWO ROWS change places
def rsw (M : Nat → Nat → Int) (a b : Nat) : Nat → Nat → Int := fun i l => if i = a then M b l else if i = b then M a l else M i l
theorem M_changesRows {τ : mm} {n : Nat} {M : Nat → Nat → Int} (h : matM τ n M) {a b : Nat} (ha : a < n) (hb : b < n) {s : Int} (hs : τ.1 32 0 24 = ii s) : ∃ τ', fX8_changesRows (ii a) (ii b) τ = some τ' ∧ matM τ' n (rsw M a b) ∧ τ'.1 32 0 24 = ii (-s) ∧ Fr [63] [24] τ τ' := by
  obtain ⟨h4, h1, h2⟩ := h
  unfold fX8_changesRows fX8_changesRows_0
  refine lp_j (fun (k : Nat) (z : Int32 × mm) => z.1 = ii k ∧ z.2.1 32 0 1 = ii n ∧ z.2.1 32 0 24 = ii s ∧ (∀ i l, i < n → l < n → z.2.1 63 0 (4 * i + l) = ii (if l < k then rsw M a b i l else M i l)) ∧ Fr [63] [24] τ z.2) _ n ⟨rfl, h1, hs, fun i l hi hl => by rw [if_neg (by omega)]; exact h2 i l hi hl, Fr.rf _ _ _⟩ ?_ ?_
  · rintro k ⟨c, z⟩ hk ⟨hc, e1, e0, e2, e3⟩
    simp only [] at hc e1 e0 e2 e3
    subst hc
    have x1 := e2 a k ha hk
    have x2 := e2 b k hb hk
    rw [if_neg (by omega)] at x1 x2
    refine ⟨(ii ((k + 1 : Nat)), stI (stI z 63 0 (4 * a + k) (ii (M b k))) 63 0 (4 * b + k) (ii (M a k))), ?_, rfl, e1, e0, fun i l hi hl => ?_, (e3.sI (by decide) (by decide)).sI (by decide) (by decide)⟩
    · show fX8_changesRows_2 (ii a) (ii b) (ii k) z = _
      unfold fX8_changesRows_2
      have y1 : (4 : Int32) * ii a + ii k = ii ((4 * a + k : Nat) : Int) := by
        rw [ii_lit 4, ii_mul, ii_add]
        exact congrArg ii (by show 4 * (a : Int) + (k : Int) = _; omega)
      have y2 : (4 : Int32) * ii b + ii k = ii ((4 * b + k : Nat) : Int) := by
        rw [ii_lit 4, ii_mul, ii_add]
        exact congrArg ii (by show 4 * (b : Int) + (k : Int) = _; omega)
      rw [e1, if_neg (by rw [ii_le (by omega) (by omega) (by omega) (by omega)]; omega), y1, y2, rd_n (by omega) (by decide), Option.bind_some, rd_n (by omega) (by decide), Option.bind_some, wr_n (by omega) (by decide), Option.bind_some, wr_n (by omega) (by decide), Option.bind_some, x1, x2, ii_lit 1, ii_add]
      rfl
    · simp only []
      by_cases g : 4 * i + l = 4 * b + k
      · have g1 : i = b := by omega
        have g2 : l = k := by omega
        subst g1 g2
        rw [st_s, if_pos (by omega)]
        unfold rsw
        by_cases ab : i = a
        · rw [if_pos ab, ab]
        · rw [if_neg ab, if_pos rfl]
      · rw [st_j _ _ g]
        by_cases g' : 4 * i + l = 4 * a + k
        · have g1 : i = a := by omega
          have g2 : l = k := by omega
          subst g1 g2
          rw [st_s, if_pos (by omega)]
          unfold rsw
          rw [if_pos rfl]
        · rw [st_j _ _ g', e2 i l hi hl]
          by_cases lk : l < k
          · rw [if_pos lk, if_pos (by omega)]
          · rw [if_neg lk]
            by_cases l1 : l < k + 1
            · rw [if_pos l1]
              unfold rsw
              rw [if_neg (by omega), if_neg (by omega)]
            · rw [if_neg l1]
  · rintro ⟨c, z⟩ ⟨hc, e1, e0, e2, e3⟩
    simp only [] at hc e1 e0 e2 e3
    subst hc
    refine ⟨stI z 32 0 24 (ii (-s)), ?_, ⟨h4, by rw [st_j _ _ (by decide)]; exact e1, fun i l hi hl => ?_⟩, st_s _ _ _ _ _, e3.sF (by decide)⟩
    · show fX8_changesRows_2 (ii a) (ii b) (ii n) z = _
      unfold fX8_changesRows_2
      rw [e1, if_pos (Int32.le_refl _), e0, ii_neg]
      rfl
    · rw [st_c _ _ _ _ (by decide), e2 i l hi hl, if_pos hl]
theorem C_swapRows {σ : mm} {n : Nat} {M : Nat → Nat → Int} (h : matC σ n M) {a b : Nat} (ha : a < n) (hb : b < n) (s t : Int) : ∃ r, lp (fX2_clearBelow_52_L (ii a) (ii b) (ii s) (ii t)) ((0), σ) = some r ∧ ∃ σ', r = .inl (ii (-s), ii (t + 1), σ') ∧ matC σ' n (rsw M a b) ∧ Fr [23] [] σ σ' := by
  obtain ⟨h4, h1, h2⟩ := h
  refine lp_j (fun (k : Nat) (z : Int32 × mm) => z.1 = ii k ∧ z.2.1 2 0 3 = ii n ∧ (∀ i l, i < n → l < n → z.2.2 23 i l = ll (if l < k then rsw M a b i l else M i l)) ∧ Fr [23] [] σ z.2) _ n ⟨rfl, h1, fun i l hi hl => by rw [if_neg (by omega)]; exact h2 i l hi hl, Fr.rf _ _ _⟩ ?_ ?_
  · rintro k ⟨c, z⟩ hk ⟨hc, e1, e2, e3⟩
    simp only [] at hc e1 e2 e3
    subst hc
    have x1 := e2 a k ha hk
    have x2 := e2 b k hb hk
    rw [if_neg (by omega)] at x1 x2
    refine ⟨(ii ((k + 1 : Nat)), stL (stL z 23 a k (ll (M b k))) 23 b k (ll (M a k))), ?_, rfl, e1, fun i l hi hl => ?_, (e3.sL (by decide)).sL (by decide)⟩
    · show fX2_clearBelow_52 (ii a) (ii b) (ii s) (ii t) (ii k) z = _
      unfold fX2_clearBelow_52
      simp (disch := omega) only [e1, x1, x2, if_true, if_false, Option.bind_some, Option.map_some, ii_lit, ll_lit, ii_neg, ll_neg, ii_add, ii_sub, ii_mul, ll_add, ll_sub, ll_mul, ii_le, ii_lt, ii_eq, ii_t, bi_0, bi_1, rd_z, wr_z, rr_z, rl_z, wl_z, tn_n, st_s, st_j, st_i, st_c, st_2, sl_s, sl_j, sl_i, sl_c, sl_1, Int.natCast_add, Int.cast_ofNat_Int, if_pos, if_neg, decide_eq_false_iff_not, decide_eq_true_eq, in_ll, ii_long, Nat.zero_add, Nat.mul_zero, reduceCtorEq, Int.toNat_natCast]
    · simp only []
      by_cases gl : l = k
      · subst gl
        rw [if_pos (by omega)]
        unfold rsw
        by_cases gb : i = b
        · subst gb
          rw [sl_s]
          by_cases ab : i = a
          · rw [if_pos ab, ab]
          · rw [if_neg ab, if_pos rfl]
        · rw [sl_i _ _ _ gb]
          by_cases ga : i = a
          · subst ga
            rw [sl_s, if_pos rfl]
          · rw [sl_i _ _ _ ga, e2 i l hi hl, if_neg (by omega), if_neg ga, if_neg gb]
      · have e5 : (stL (stL z 23 a k (ll (M b k))) 23 b k (ll (M a k))).2 23 i l = z.2 23 i l := by
          by_cases gb : i = b
          · subst gb
            rw [sl_j _ _ gl]
            by_cases ga : i = a
            · subst ga
              rw [sl_j _ _ gl]
            · rw [sl_i _ _ _ ga]
          · rw [sl_i _ _ _ gb]
            by_cases ga : i = a
            · subst ga
              rw [sl_j _ _ gl]
            · rw [sl_i _ _ _ ga]
        rw [e5, e2 i l hi hl]
        by_cases lk : l < k
        · rw [if_pos lk, if_pos (by omega)]
        · rw [if_neg lk, if_neg (by omega)]
  · rintro ⟨c, z⟩ ⟨hc, e1, e2, e3⟩
    simp only [] at hc e1 e2 e3
    subst hc
    refine ⟨.inl (ii (-s), ii (t + 1), z), ?_, z, rfl, ⟨h4, e1, fun i l hi hl => ?_⟩, e3⟩
    · show fX2_clearBelow_52 (ii a) (ii b) (ii s) (ii t) (ii n) z = _
      unfold fX2_clearBelow_52
      rw [e1, if_pos (Int32.le_refl _), ii_neg, ii_lit 1, ii_add]
      rfl
    · rw [e2 i l hi hl, if_pos hl]
