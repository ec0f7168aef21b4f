-- MATRICES of both, rows taken off rows
def matC (σ : mm) (n : Nat) (M : Nat → Nat → Int) : Prop := n ≤ 4 ∧ σ.1 2 0 3 = ii n ∧ ∀ i l, i < n → l < n → σ.2 23 i l = ll (M i l)
def matM (τ : mm) (n : Nat) (M : Nat → Nat → Int) : Prop := n ≤ 4 ∧ τ.1 32 0 1 = ii n ∧ ∀ i l, i < n → l < n → τ.1 63 0 (4 * i + l) = ii (M i l)
def rop (M : Nat → Nat → Int) (b a : Nat) (q : Int) : Nat → Nat → Int := fun i l => if i = b then M b l + q * M a l else M i l
theorem C_addTimes {σ : mm} {n : Nat} {M : Nat → Nat → Int} (h : matC σ n M) {a b : Nat} (ha : a < n) (hb : b < n) (q : Int) : ∃ σ', fX2_addTimes (ii a) (ii b) (ll q) σ = some σ' ∧ matC σ' n (rop M b a q) ∧ Fr [23] [] σ σ' := by
  obtain ⟨h4, h1, h2⟩ := h
  unfold fX2_addTimes fX2_addTimes_0
  refine lp_j (fun (k : Nat) (s : Int32 × mm) => s.1 = ii k ∧ s.2.1 2 0 3 = ii n ∧ (∀ i l, i < n → l < n → s.2.2 23 i l = ll (if i = b ∧ l < k then M b l + q * M a l else M i l)) ∧ Fr [23] [] σ s.2) _ n ⟨rfl, h1, fun i l hi hl => by rw [if_neg (by omega)]; exact h2 i l hi hl, Fr.rf _ _ _⟩ ?_ ?_
  · rintro k ⟨c, s⟩ hk ⟨hc, e1, e2, e3⟩
    simp only [] at hc e1 e2 e3
    subst hc
    have x1 := e2 b k hb hk
    have x2 := e2 a k ha hk
    rw [if_neg (by omega)] at x1 x2
    refine ⟨(ii ((k + 1 : Nat)), stL s 23 b k (ll (M b k + q * M a k))), ?_, rfl, e1, fun i l hi hl => ?_, e3.sL (by decide)⟩
    · show fX2_addTimes_3 (ii a) (ii b) (ll q) (ii k) s = _
      unfold fX2_addTimes_3
      simp (disch := omega) only [e1, x1, x2, if_true, if_false, Option.bind_some, Option.map_some, ii_lit, ll_lit, ii_neg, ll_neg, ii_add, ii_sub, ii_mul, ll_add, ll_sub, ll_mul, ii_le, ii_lt, ii_eq, ii_t, bi_0, bi_1, rd_z, wr_z, rr_z, rl_z, wl_z, tn_n, st_s, st_j, st_i, st_c, st_2, sl_s, sl_j, sl_i, sl_c, sl_1, Int.natCast_add, Int.cast_ofNat_Int, if_pos, if_neg, decide_eq_false_iff_not, decide_eq_true_eq, in_ll, ii_long, Nat.zero_add, Nat.mul_zero, reduceCtorEq, Int.toNat_natCast]
    · simp only []
      by_cases g : i = b
      · subst g
        by_cases gl : l = k
        · subst gl
          rw [sl_s, if_pos (by omega)]
        · rw [sl_j _ _ gl, e2 i l hi hl]
          by_cases lk : l < k
          · rw [if_pos (by omega), if_pos (by omega)]
          · rw [if_neg (by omega), if_neg (by omega)]
      · rw [sl_i _ _ _ g, e2 i l hi hl, if_neg (by omega), if_neg (by omega)]
  · rintro ⟨c, s⟩ ⟨hc, e1, e2, e3⟩
    simp only [] at hc e1 e2 e3
    subst hc
    refine ⟨s, ?_, ⟨h4, e1, fun i l hi hl => ?_⟩, e3⟩
    · show fX2_addTimes_3 (ii a) (ii b) (ll q) (ii n) s = _
      unfold fX2_addTimes_3
      rw [e1, if_pos (Int32.le_refl _)]
    · rw [e2 i l hi hl]
      unfold rop
      by_cases g : i = b
      · rw [if_pos ⟨g, hl⟩, if_pos g]
      · rw [if_neg (by omega), if_neg g]
theorem M_takesOff {τ : mm} {n : Nat} {M : Nat → Nat → Int} (h : matM τ n M) {a b : Nat} (ha : a < n) (hb : b < n) (q : Int) : ∃ τ', fX8_takesOff (ii b) (ii a) (ii q) τ = some τ' ∧ matM τ' n (rop M b a (-q)) ∧ Fr [63] [] τ τ' := by
  obtain ⟨h4, h1, h2⟩ := h
  unfold fX8_takesOff fX8_takesOff_0
  refine lp_j (fun (k : Nat) (s : Int32 × mm) => s.1 = ii k ∧ s.2.1 32 0 1 = ii n ∧ (∀ i l, i < n → l < n → s.2.1 63 0 (4 * i + l) = ii (if i = b ∧ l < k then M b l + -q * M a l else M i l)) ∧ Fr [63] [] τ s.2) _ n ⟨rfl, h1, fun i l hi hl => by rw [if_neg (by omega)]; exact h2 i l hi hl, Fr.rf _ _ _⟩ ?_ ?_
  · rintro k ⟨c, s⟩ hk ⟨hc, e1, e2, e3⟩
    simp only [] at hc e1 e2 e3
    subst hc
    have x1 := e2 b k hb hk
    have x2 := e2 a k ha hk
    rw [if_neg (by omega)] at x1 x2
    have eq : M b k - q * M a k = M b k + -q * M a k := by rw [Int.neg_mul]; omega
    refine ⟨(ii ((k + 1 : Nat)), stI s 63 0 (4 * b + k) (ii (M b k + -q * M a k))), ?_, rfl, e1, fun i l hi hl => ?_, e3.sI (by decide) (by decide)⟩
    · show fX8_takesOff_3 (ii b) (ii a) (ii q) (ii k) s = _
      unfold fX8_takesOff_3
      have y1 : (4 : Int32) * ii b + ii k = ii ((4 * b + k : Nat) : Int) := by
        rw [ii_lit 4, ii_mul, ii_add]
        exact congrArg ii (by show 4 * (b : Int) + (k : Int) = _; omega)
      have y2 : (4 : Int32) * ii a + ii k = ii ((4 * a + k : Nat) : Int) := by
        rw [ii_lit 4, ii_mul, ii_add]
        exact congrArg ii (by show 4 * (a : Int) + (k : Int) = _; omega)
      rw [e1, if_neg (by rw [ii_le (by omega) (by omega) (by omega) (by omega)]; omega), y1, y2, rd_n (by omega) (by decide), Option.bind_some, rd_n (by omega) (by decide), Option.bind_some, wr_n (by omega) (by decide), Option.bind_some, x1, x2, ii_mul, ii_sub, eq, ii_lit 1, ii_add]
      rfl
    · simp only []
      by_cases g : 4 * i + l = 4 * b + k
      · have g1 : i = b := by omega
        have g2 : l = k := by omega
        subst g1 g2
        rw [st_s, if_pos (by omega)]
      · rw [st_j _ _ g, e2 i l hi hl]
        by_cases lk : i = b ∧ l < k
        · rw [if_pos lk, if_pos (by omega)]
        · rw [if_neg lk, if_neg (by omega)]
  · rintro ⟨c, s⟩ ⟨hc, e1, e2, e3⟩
    simp only [] at hc e1 e2 e3
    subst hc
    refine ⟨s, ?_, ⟨h4, e1, fun i l hi hl => ?_⟩, e3⟩
    · show fX8_takesOff_3 (ii b) (ii a) (ii q) (ii n) s = _
      unfold fX8_takesOff_3
      rw [e1, if_pos (Int32.le_refl _)]
    · rw [e2 i l hi hl]
      unfold rop
      by_cases g : i = b
      · rw [if_pos ⟨g, hl⟩, if_pos g]
      · rw [if_neg (by omega), if_neg g]
