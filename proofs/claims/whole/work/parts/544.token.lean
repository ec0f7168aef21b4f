-- TOKENS of the tape
def tapeC (σ : mm) (len : Nat) (y : Nat → Int) : Prop := len ≤ 120 ∧ σ.1 3 0 0 = ii len ∧ ∀ k, k < len → (0 ≤ y k ∧ y k < 256) ∧ σ.1 21 0 k = ii (if y k < 128 then y k else y k - 256)
def tapeM (τ : mm) (len : Nat) (y : Nat → Int) : Prop := len ≤ 120 ∧ τ.1 32 0 28 = ii len ∧ ∀ k, k < len → (0 ≤ y k ∧ y k < 256) ∧ τ.1 67 0 k = ii (y k)
def bk (len : Nat) (y : Nat → Int) (p : Nat) : Int := if p < len then y p else -1
def so (c : Int) : Int := if c < 0 then 0 else if 97 ≤ c ∧ c ≤ 122 then 1 else if 48 ≤ c ∧ c ≤ 57 then 2 else if c = 59 then 3 else if c = 45 then 4 else 5
def skn (len : Nat) (y : Nat → Int) : Nat → Nat → Nat
  | 0, p => p
  | d + 1, p => if bk len y p = 32 then skn len y d (p + 1) else p
def rnn (len : Nat) (y : Nat → Int) (s : Int) : Nat → Nat → Nat
  | 0, p => p
  | d + 1, p => if so (bk len y p) = s then rnn len y s d (p + 1) else p
def tb (len : Nat) (y : Nat → Int) (e : Nat) : Nat := skn len y (len - e) e
def ts (len : Nat) (y : Nat → Int) (e : Nat) : Int := so (bk len y (tb len y e))
def te (len : Nat) (y : Nat → Int) (e : Nat) : Nat := if ts len y e = 1 ∨ ts len y e = 2 then rnn len y (ts len y e) (len - tb len y e) (tb len y e) else if tb len y e + 1 ≤ len then tb len y e + 1 else len
def vmr (y : Nat → Int) (b : Nat) : Nat → Int
  | 0 => 0
  | k + 1 => if 999 < vmr y b k then vmr y b k else 10 * vmr y b k + y (b + k) - 48
def vcr (y : Nat → Int) (b : Nat) : Nat → Int
  | 0 => 0
  | k + 1 => if 1000 < vcr y b k * 10 + y (b + k) - 48 then 1000 else vcr y b k * 10 + y (b + k) - 48
theorem skn_r {len : Nat} {y : Nat → Int} (d p : Nat) (h : p + d ≤ len) : p ≤ skn len y d p ∧ skn len y d p ≤ p + d := by
  induction d generalizing p with
  | zero => exact ⟨Nat.le_refl _, Nat.le_refl _⟩
  | succ d ih =>
    rw [skn]
    split
    · have := ih (p + 1) (by omega)
      omega
    · omega
theorem rnn_r {len : Nat} {y : Nat → Int} {s : Int} (d p : Nat) : p ≤ rnn len y s d p ∧ rnn len y s d p ≤ p + d := by
  induction d generalizing p with
  | zero => exact ⟨Nat.le_refl _, Nat.le_refl _⟩
  | succ d ih =>
    rw [rnn]
    split
    · have := ih (p + 1)
      omega
    · omega
theorem rnn_in {len : Nat} {y : Nat → Int} {s : Int} (d p : Nat) : ∀ k, p ≤ k → k < rnn len y s d p → so (bk len y k) = s := by
  induction d generalizing p with
  | zero => intro k h1 h2; rw [rnn] at h2; omega
  | succ d ih =>
    intro k h1 h2
    rw [rnn] at h2
    split at h2
    · rename_i hs
      by_cases e : k = p
      · rw [e]; exact hs
      · exact ih (p + 1) k (by omega) h2
    · omega
theorem tb_r {len : Nat} {y : Nat → Int} {e : Nat} (h : e ≤ len) : e ≤ tb len y e ∧ tb len y e ≤ len := by
  have := skn_r (len := len) (y := y) (len - e) e (by omega)
  unfold tb
  omega
theorem te_r {len : Nat} {y : Nat → Int} {e : Nat} (h : e ≤ len) : tb len y e ≤ te len y e ∧ te len y e ≤ len := by
  have h1 := tb_r (y := y) h
  have h2 := rnn_r (len := len) (y := y) (s := ts len y e) (len - tb len y e) (tb len y e)
  unfold te
  split
  · omega
  · split <;> omega
theorem so_v (c : Int) : so c = 0 ∨ so c = 1 ∨ so c = 2 ∨ so c = 3 ∨ so c = 4 ∨ so c = 5 := by
  unfold so
  repeat' split
  all_goals omega
theorem ts_end {len : Nat} {y : Nat → Int} {e : Nat} (hy : ∀ k, k < len → 0 ≤ y k ∧ y k < 256) (h : e ≤ len) : ts len y e = 0 ↔ tb len y e = len := by
  have h1 := tb_r (y := y) h
  unfold ts bk
  by_cases q : tb len y e < len
  · rw [if_pos q]
    have := hy _ q
    have : so (y (tb len y e)) ≠ 0 := by
      unfold so
      repeat' split
      all_goals omega
    omega
  · rw [if_neg q]
    have : so (-1) = 0 := by decide
    omega
/-- a token that isn't the end is at least one byte -/
theorem te_gt {len : Nat} {y : Nat → Int} {e : Nat} (hy : ∀ k, k < len → 0 ≤ y k ∧ y k < 256) (h : e ≤ len) (hn : ts len y e ≠ 0) : tb len y e < te len y e ∧ tb len y e < len := by
  have h1 := tb_r (y := y) h
  have h2 : tb len y e < len := by
    have := ts_end hy h
    omega
  refine ⟨?_, h2⟩
  unfold te
  split
  · obtain ⟨d, hd⟩ : ∃ d, len - tb len y e = d + 1 := ⟨len - tb len y e - 1, by omega⟩
    rw [hd, rnn, if_pos (show so (bk len y (tb len y e)) = ts len y e from rfl)]
    have := rnn_r (len := len) (y := y) (s := ts len y e) d (tb len y e + 1)
    omega
  · split <;> omega
theorem v_rel {y : Nat → Int} {b : Nat} {k : Nat} (h : ∀ j, j < k → 48 ≤ y (b + j) ∧ y (b + j) ≤ 57) : 0 ≤ vmr y b k ∧ vmr y b k ≤ 9999 ∧ vcr y b k = if 999 < vmr y b k then 1000 else vmr y b k := by
  induction k with
  | zero =>
    refine ⟨?_, ?_, ?_⟩
    · show (0 : Int) ≤ 0; decide
    · show (0 : Int) ≤ 9999; decide
    · show (0 : Int) = if (999 : Int) < 0 then 1000 else 0; decide
  | succ k ih =>
    obtain ⟨h1, h2, h3⟩ := ih (fun j hj => h j (by omega))
    have h4 := h k (by omega)
    rw [vmr, vcr, h3]
    by_cases q : 999 < vmr y b k
    · rw [if_pos q, if_pos q]
      refine ⟨by omega, by omega, ?_⟩
      rw [if_pos (by omega)]
    · rw [if_neg q, if_neg q]
      refine ⟨by omega, by omega, ?_⟩
      split <;> split <;> omega
theorem so_digit {c : Int} (h : so c = 2) : 48 ≤ c ∧ c ≤ 57 := by
  unfold so at h
  repeat' split at h
  all_goals omega
theorem so_letter {c : Int} (h : so c = 1) : 97 ≤ c ∧ c ≤ 122 := by
  unfold so at h
  repeat' split at h
  all_goals omega
theorem C_sortAt {σ : mm} {len : Nat} {y : Nat → Int} (hT : tapeC σ len y) {p : Nat} (hp : p ≤ len) : fX3_sortAt (ii p) σ = some (ii (so (bk len y p))) := by
  obtain ⟨t1, t2, t3⟩ := hT
  unfold fX3_sortAt fX3_sortAt_0 bk
  by_cases q : p < len
  · obtain ⟨y1, y2⟩ := t3 p q
    rw [if_pos q]
    generalize y p = c at *
    unfold fX3_sortAt_35 fX3_sortAt_49 so
    by_cases b : c < 128
    · rw [if_pos b] at y2
      by_cases c1 : 97 ≤ c ∧ c ≤ 122
      · simp (disch := omega) only [t2, y2, if_true, if_false, Option.bind_some, Option.map_some, ii_lit, ll_lit, ii_neg, ll_neg, ii_add, ii_sub, ii_mul, ll_add, ll_sub, ll_mul, ii_le, ii_lt, ii_eq, ii_t, bi_0, bi_1, rd_z, wr_z, rr_z, rl_z, wl_z, tn_n, st_s, st_j, st_i, st_c, st_2, sl_s, sl_j, sl_i, sl_c, sl_1, Int.natCast_add, Int.cast_ofNat_Int, if_pos, if_neg, decide_eq_false_iff_not, decide_eq_true_eq, in_ll, ii_long, Nat.zero_add, Nat.mul_zero, reduceCtorEq]
      · by_cases c2 : 48 ≤ c ∧ c ≤ 57
        · simp (disch := omega) only [t2, y2, if_true, if_false, Option.bind_some, Option.map_some, ii_lit, ll_lit, ii_neg, ll_neg, ii_add, ii_sub, ii_mul, ll_add, ll_sub, ll_mul, ii_le, ii_lt, ii_eq, ii_t, bi_0, bi_1, rd_z, wr_z, rr_z, rl_z, wl_z, tn_n, st_s, st_j, st_i, st_c, st_2, sl_s, sl_j, sl_i, sl_c, sl_1, Int.natCast_add, Int.cast_ofNat_Int, if_pos, if_neg, decide_eq_false_iff_not, decide_eq_true_eq, in_ll, ii_long, Nat.zero_add, Nat.mul_zero, reduceCtorEq]
        · by_cases c3 : c = 59
          · by_cases c5 : c < 97
            · simp (disch := omega) only [t2, y2, if_true, if_false, Option.bind_some, Option.map_some, ii_lit, ll_lit, ii_neg, ll_neg, ii_add, ii_sub, ii_mul, ll_add, ll_sub, ll_mul, ii_le, ii_lt, ii_eq, ii_t, bi_0, bi_1, rd_z, wr_z, rr_z, rl_z, wl_z, tn_n, st_s, st_j, st_i, st_c, st_2, sl_s, sl_j, sl_i, sl_c, sl_1, Int.natCast_add, Int.cast_ofNat_Int, if_pos, if_neg, decide_eq_false_iff_not, decide_eq_true_eq, in_ll, ii_long, Nat.zero_add, Nat.mul_zero, reduceCtorEq]
            · omega
          · by_cases c4 : c = 45
            · simp (disch := omega) only [t2, y2, if_true, if_false, Option.bind_some, Option.map_some, ii_lit, ll_lit, ii_neg, ll_neg, ii_add, ii_sub, ii_mul, ll_add, ll_sub, ll_mul, ii_le, ii_lt, ii_eq, ii_t, bi_0, bi_1, rd_z, wr_z, rr_z, rl_z, wl_z, tn_n, st_s, st_j, st_i, st_c, st_2, sl_s, sl_j, sl_i, sl_c, sl_1, Int.natCast_add, Int.cast_ofNat_Int, if_pos, if_neg, decide_eq_false_iff_not, decide_eq_true_eq, in_ll, ii_long, Nat.zero_add, Nat.mul_zero, reduceCtorEq]
            · by_cases c5 : c < 97
              · by_cases c6 : c < 48
                · simp (disch := omega) only [t2, y2, if_true, if_false, Option.bind_some, Option.map_some, ii_lit, ll_lit, ii_neg, ll_neg, ii_add, ii_sub, ii_mul, ll_add, ll_sub, ll_mul, ii_le, ii_lt, ii_eq, ii_t, bi_0, bi_1, rd_z, wr_z, rr_z, rl_z, wl_z, tn_n, st_s, st_j, st_i, st_c, st_2, sl_s, sl_j, sl_i, sl_c, sl_1, Int.natCast_add, Int.cast_ofNat_Int, if_pos, if_neg, decide_eq_false_iff_not, decide_eq_true_eq, in_ll, ii_long, Nat.zero_add, Nat.mul_zero, reduceCtorEq]
                · simp (disch := omega) only [t2, y2, if_true, if_false, Option.bind_some, Option.map_some, ii_lit, ll_lit, ii_neg, ll_neg, ii_add, ii_sub, ii_mul, ll_add, ll_sub, ll_mul, ii_le, ii_lt, ii_eq, ii_t, bi_0, bi_1, rd_z, wr_z, rr_z, rl_z, wl_z, tn_n, st_s, st_j, st_i, st_c, st_2, sl_s, sl_j, sl_i, sl_c, sl_1, Int.natCast_add, Int.cast_ofNat_Int, if_pos, if_neg, decide_eq_false_iff_not, decide_eq_true_eq, in_ll, ii_long, Nat.zero_add, Nat.mul_zero, reduceCtorEq]
              · simp (disch := omega) only [t2, y2, if_true, if_false, Option.bind_some, Option.map_some, ii_lit, ll_lit, ii_neg, ll_neg, ii_add, ii_sub, ii_mul, ll_add, ll_sub, ll_mul, ii_le, ii_lt, ii_eq, ii_t, bi_0, bi_1, rd_z, wr_z, rr_z, rl_z, wl_z, tn_n, st_s, st_j, st_i, st_c, st_2, sl_s, sl_j, sl_i, sl_c, sl_1, Int.natCast_add, Int.cast_ofNat_Int, if_pos, if_neg, decide_eq_false_iff_not, decide_eq_true_eq, in_ll, ii_long, Nat.zero_add, Nat.mul_zero, reduceCtorEq]
    · rw [if_neg b] at y2
      simp (disch := omega) only [t2, y2, if_true, if_false, Option.bind_some, Option.map_some, ii_lit, ll_lit, ii_neg, ll_neg, ii_add, ii_sub, ii_mul, ll_add, ll_sub, ll_mul, ii_le, ii_lt, ii_eq, ii_t, bi_0, bi_1, rd_z, wr_z, rr_z, rl_z, wl_z, tn_n, st_s, st_j, st_i, st_c, st_2, sl_s, sl_j, sl_i, sl_c, sl_1, Int.natCast_add, Int.cast_ofNat_Int, if_pos, if_neg, decide_eq_false_iff_not, decide_eq_true_eq, in_ll, ii_long, Nat.zero_add, Nat.mul_zero, reduceCtorEq]
  · rw [if_neg q]
    have : so (-1) = 0 := by decide
    simp (disch := omega) only [t2, this, if_true, if_false, Option.bind_some, Option.map_some, ii_lit, ll_lit, ii_neg, ll_neg, ii_add, ii_sub, ii_mul, ll_add, ll_sub, ll_mul, ii_le, ii_lt, ii_eq, ii_t, bi_0, bi_1, rd_z, wr_z, rr_z, rl_z, wl_z, tn_n, st_s, st_j, st_i, st_c, st_2, sl_s, sl_j, sl_i, sl_c, sl_1, Int.natCast_add, Int.cast_ofNat_Int, if_pos, if_neg, decide_eq_false_iff_not, decide_eq_true_eq, in_ll, ii_long, Nat.zero_add, Nat.mul_zero, reduceCtorEq]
theorem tapeC.fr {σ σ' : mm} {len : Nat} {y : Nat → Int} (h : tapeC σ len y) (h0 : σ'.1 3 0 0 = σ.1 3 0 0) (h1 : σ'.1 21 = σ.1 21) : tapeC σ' len y := by
  unfold tapeC at h ⊢
  rw [h0, h1]
  exact h
/-- the class's next token -/
theorem C_next {σ : mm} {len : Nat} {y : Nat → Int} (hT : tapeC σ len y) {e : Nat} (he : e ≤ len) (e4 : σ.1 3 0 4 = ii e) : ∃ σ', fX3_nextToken σ = some σ' ∧ tapeC σ' len y ∧ σ'.1 3 0 3 = ii (tb len y e) ∧ σ'.1 3 0 2 = ii (ts len y e) ∧ σ'.1 3 0 4 = ii (te len y e) ∧ (ts len y e = 2 → σ'.1 3 0 5 = ii (vcr y (tb len y e) (te len y e - tb len y e))) ∧ Fr [3] [] σ σ' := by
  have tbr := tb_r (y := y) he
  have ter := te_r (y := y) he
  have t1 := hT.1
  have hy : ∀ k, k < len → 0 ≤ y k ∧ y k < 256 := fun k hk => (hT.2.2 k hk).1
  -- blanks
  have blanks : ∀ d p (s : mm), p + d = len → tapeC s len y → s.1 3 0 3 = ii (p : Nat) → Fr [3] [] σ s → ∃ s', tapeC s' len y ∧ s'.1 3 0 3 = ii (skn len y d p) ∧ Fr [3] [] σ s' ∧ ∀ Z, fX3_nextToken_46 s' = some Z → lp fX3_nextToken_8_L s = some Z := by
    intro d
    induction d with
    | zero =>
      intro p s hp hs h3 hf
      refine ⟨s, hs, h3, hf, fun Z hZ => ?_⟩
      refine lp_end ?_
      show fX3_nextToken_8 s = _
      unfold fX3_nextToken_8
      rw [h3, hs.2.1, if_pos (by rw [ii_le (by omega) (by omega) (by omega) (by omega)]; omega), hZ]
      rfl
    | succ d ih =>
      intro p s hp hs h3 hf
      obtain ⟨y1, y2⟩ := hs.2.2 p (by omega)
      rw [skn]
      have hbk : bk len y p = y p := if_pos (by omega)
      rw [hbk]
      by_cases q : y p = 32
      · rw [if_pos q]
        have hs2 : tapeC (stI s 3 0 3 (ii ((p + 1 : Nat)))) len y := hs.fr (st_j _ _ (by decide)) (st_c _ _ _ _ (by decide))
        obtain ⟨s', a1, a2, a3, a4⟩ := ih (p + 1) (stI s 3 0 3 (ii ((p + 1 : Nat)))) (by omega) hs2 (st_s _ _ _ _ _) (hf.sI (by decide) (by decide))
        refine ⟨s', a1, a2, a3, fun Z hZ => ?_⟩
        rw [← a4 Z hZ]
        refine lp_go ?_
        rw [if_pos (by omega)] at y2
        show fX3_nextToken_8 s = _
        unfold fX3_nextToken_8
        rw [h3, hs.2.1, if_neg (by rw [ii_le (by omega) (by omega) (by omega) (by omega)]; omega), rd_n (by omega) (by decide), Option.bind_some, y2, q, if_pos (show ii 32 = 32 by decide), ii_lit 1, ii_add]
        rfl
      · rw [if_neg q]
        refine ⟨s, hs, h3, hf, fun Z hZ => ?_⟩
        refine lp_end ?_
        show fX3_nextToken_8 s = _
        unfold fX3_nextToken_8
        have ne : ¬ s.1 21 0 p = 32 := by
          show ¬ s.1 21 0 p = ii 32
          rw [y2]
          split
          · rw [ii_eq (by omega) (by omega) (by omega) (by omega)]
            omega
          · rw [ii_eq (by omega) (by omega) (by omega) (by omega)]
            omega
        rw [h3, hs.2.1, if_neg (by rw [ii_le (by omega) (by omega) (by omega) (by omega)]; omega), rd_n (by omega) (by decide), Option.bind_some, if_neg ne, hZ]
        rfl
  -- the run of a token
  have run : ∀ d p (s : mm) (b : Nat), p + d ≤ len → b ≤ p → tapeC s len y → s.1 3 0 2 = ii (ts len y e) → (ts len y e = 1 ∨ ts len y e = 2 ∨ d = 0 ∨ (d = 1 ∧ so (bk len y p) = ts len y e)) → s.1 3 0 4 = ii (p : Nat) → (∀ j, b + j < p → ts len y e = 2 → 48 ≤ y (b + j) ∧ y (b + j) ≤ 57) → (ts len y e = 2 → s.1 3 0 5 = ii (vcr y b (p - b))) → Fr [3] [] σ s → ∃ s', lp (fX3_nextToken_108_L (ii ((p + d : Nat)))) s = some s' ∧ tapeC s' len y ∧ s'.1 3 0 3 = s.1 3 0 3 ∧ s'.1 3 0 2 = ii (ts len y e) ∧ s'.1 3 0 4 = ii (rnn len y (ts len y e) d p) ∧ (ts len y e = 2 → s'.1 3 0 5 = ii (vcr y b (rnn len y (ts len y e) d p - b))) ∧ Fr [3] [] σ s' := by
    intro d
    induction d with
    | zero =>
      intro p s b hp hb hs h2 _ h4 hdg h5 hf
      refine ⟨s, ?_, hs, rfl, h2, h4, h5, hf⟩
      refine lp_end ?_
      show fX3_nextToken_108 _ s = _
      unfold fX3_nextToken_108
      rw [h4, if_pos (show ii ((p + 0 : Nat)) ≤ ii (p : Nat) from Int32.le_refl _)]
    | succ d ih =>
      intro p s b hp hb hs h2 hk h4 hdg h5 hf
      have e1 := C_sortAt hs (p := p) (by omega)
      have sv := so_v (bk len y p)
      have tv := so_v (bk len y (tb len y e))
      have tv' : ts len y e = 0 ∨ ts len y e = 1 ∨ ts len y e = 2 ∨ ts len y e = 3 ∨ ts len y e = 4 ∨ ts len y e = 5 := tv
      rw [rnn]
      have head : ¬ ii ((p + (d + 1) : Nat)) ≤ ii (p : Nat) := by
        rw [ii_le (by omega) (by omega) (by omega) (by omega)]
        omega
      by_cases q : so (bk len y p) = ts len y e
      · rw [if_pos q]
        by_cases n2 : ts len y e = 2
        · have dg := so_digit (c := bk len y p) (by omega)
          have hbk : bk len y p = y p := if_pos (by omega)
          rw [hbk] at dg
          obtain ⟨y1, y2⟩ := hs.2.2 p (by omega)
          rw [if_pos (by omega)] at y2
          have vr := v_rel (y := y) (b := b) (k := p - b) (fun j hj => hdg j (by omega) n2)
          have v5 := h5 n2
          have vc : 0 ≤ vcr y b (p - b) ∧ vcr y b (p - b) ≤ 1000 := by
            rw [vr.2.2]
            split <;> omega
          have ev : vcr y b (p + 1 - b) = if 1000 < vcr y b (p - b) * 10 + y p - 48 then 1000 else vcr y b (p - b) * 10 + y p - 48 := by
            rw [show p + 1 - b = (p - b) + 1 by omega, vcr, show b + (p - b) = p by omega]
          have mn := min_ii (a := vcr y b (p - b) * 10 + y p - 48) (b := 1000) (by omega) (by omega) (by omega) (by omega)
          rw [← ev] at mn
          have hs2 : tapeC (stI (stI s 3 0 5 (ii (vcr y b (p + 1 - b)))) 3 0 4 (ii ((p + 1 : Nat)))) len y := hs.fr (by rw [st_j _ _ (by decide), st_j _ _ (by decide)]) (by rw [st_c _ _ _ _ (by decide), st_c _ _ _ _ (by decide)])
          obtain ⟨s', a1, a2, a3, a4, a5, a6, a7⟩ := ih (p + 1) (stI (stI s 3 0 5 (ii (vcr y b (p + 1 - b)))) 3 0 4 (ii ((p + 1 : Nat)))) b (by omega) (by omega) hs2 (by rw [st_j _ _ (by decide), st_j _ _ (by decide)]; exact h2) (Or.inr (Or.inl n2)) (st_s _ _ _ _ _) (fun j hj _ => by
            by_cases e5 : b + j = p
            · rw [e5]; exact dg
            · exact hdg j (by omega) n2) (fun _ => by rw [st_j _ _ (by decide), st_s]) ((hf.sI (by decide) (by decide)).sI (by decide) (by decide))
          refine ⟨s', ?_, a2, ?_, a4, a5, a6, a7⟩
          · rw [show p + (d + 1) = p + 1 + d by omega, ← a1]
            refine lp_go ?_
            show fX3_nextToken_108 _ s = _
            unfold fX3_nextToken_108 fX3_nextToken_169
            rw [h4, if_neg (by rw [show p + 1 + d = p + (d + 1) by omega]; exact head), e1, Option.bind_some, h2, q, if_pos rfl, n2, if_pos (by decide), rd_n (by omega) (by decide), Option.bind_some, y2, v5]
            simp only [ii_lit, ii_mul, ii_add, ii_sub, mn, Option.bind_some]
            rw [st_j _ _ (by decide), h4, ii_add]
            rfl
          · rw [a3, st_j _ _ (by decide), st_j _ _ (by decide)]
        · have hs2 : tapeC (stI s 3 0 4 (ii ((p + 1 : Nat)))) len y := hs.fr (st_j _ _ (by decide)) (st_c _ _ _ _ (by decide))
          have dk : ts len y e = 1 ∨ ts len y e = 2 ∨ d = 0 ∨ (d = 1 ∧ so (bk len y (p + 1)) = ts len y e) := by omega
          obtain ⟨s', a1, a2, a3, a4, a5, a6, a7⟩ := ih (p + 1) (stI s 3 0 4 (ii ((p + 1 : Nat)))) b (by omega) (by omega) hs2 (by rw [st_j _ _ (by decide)]; exact h2) dk (st_s _ _ _ _ _) (fun j hj h => absurd h n2) (fun h => absurd h n2) (hf.sI (by decide) (by decide))
          refine ⟨s', ?_, a2, ?_, a4, a5, a6, a7⟩
          · rw [show p + (d + 1) = p + 1 + d by omega, ← a1]
            refine lp_go ?_
            show fX3_nextToken_108 _ s = _
            unfold fX3_nextToken_108 fX3_nextToken_169
            have n2' : ¬ ii (ts len y e) = 2 := by
              show ¬ ii (ts len y e) = ii 2
              rw [ii_eq (by omega) (by omega) (by omega) (by omega)]
              exact n2
            rw [h4, if_neg (by rw [show p + 1 + d = p + (d + 1) by omega]; exact head), e1, Option.bind_some, h2, q, if_pos rfl, if_neg n2']
            simp only [ii_lit, ii_add, Option.bind_some]
            rfl
          · rw [a3, st_j _ _ (by decide)]
      · rw [if_neg q]
        refine ⟨s, ?_, hs, rfl, h2, h4, h5, hf⟩
        refine lp_end ?_
        show fX3_nextToken_108 _ s = _
        unfold fX3_nextToken_108
        have q' : ¬ ii (so (bk len y p)) = ii (ts len y e) := by
          rw [ii_eq (by omega) (by omega) (by omega) (by omega)]
          exact q
        rw [h4, if_neg head, e1, Option.bind_some, h2, if_neg q']
  have hs0 : tapeC (stI σ 3 0 3 (ii e)) len y := hT.fr (st_j _ _ (by decide)) (st_c _ _ _ _ (by decide))
  obtain ⟨s1, a1, a2, a3, a4⟩ := blanks (len - e) e (stI σ 3 0 3 (ii e)) (by omega) hs0 (st_s _ _ _ _ _) ((Fr.rf _ _ _).sI (by decide) (by decide))
  have a2 : s1.1 3 0 3 = ii (tb len y e) := a2
  have so1 := C_sortAt a1 (p := tb len y e) (by omega)
  have so1 : fX3_sortAt (ii (tb len y e)) s1 = some (ii (ts len y e)) := so1
  have tv : ts len y e = 0 ∨ ts len y e = 1 ∨ ts len y e = 2 ∨ ts len y e = 3 ∨ ts len y e = 4 ∨ ts len y e = 5 := so_v _
  have hs5 : tapeC (stI (stI (stI s1 3 0 2 (ii (ts len y e))) 3 0 5 (ii 0)) 3 0 4 (ii (tb len y e))) len y := a1.fr (by rw [st_j _ _ (by decide), st_j _ _ (by decide), st_j _ _ (by decide)]) (by rw [st_c _ _ _ _ (by decide), st_c _ _ _ _ (by decide), st_c _ _ _ _ (by decide)])
  have f5 : Fr [3] [] σ (stI (stI (stI s1 3 0 2 (ii (ts len y e))) 3 0 5 (ii 0)) 3 0 4 (ii (tb len y e))) := ((a3.sI (by decide) (by decide)).sI (by decide) (by decide)).sI (by decide) (by decide)
  have g2 : (stI (stI (stI s1 3 0 2 (ii (ts len y e))) 3 0 5 (ii 0)) 3 0 4 (ii (tb len y e))).1 3 0 2 = ii (ts len y e) := by rw [st_j _ _ (by decide), st_j _ _ (by decide), st_s]
  have g3 : (stI (stI (stI s1 3 0 2 (ii (ts len y e))) 3 0 5 (ii 0)) 3 0 4 (ii (tb len y e))).1 3 0 3 = ii (tb len y e) := by rw [st_j _ _ (by decide), st_j _ _ (by decide), st_j _ _ (by decide)]; exact a2
  have g5 : ts len y e = 2 → (stI (stI (stI s1 3 0 2 (ii (ts len y e))) 3 0 5 (ii 0)) 3 0 4 (ii (tb len y e))).1 3 0 5 = ii (vcr y (tb len y e) (tb len y e - tb len y e)) := fun _ => by rw [st_j _ _ (by decide), st_s, Nat.sub_self]; rfl
  obtain ⟨D, hD⟩ : ∃ D : Nat, D = if ts len y e = 1 ∨ ts len y e = 2 then len - tb len y e else if tb len y e + 1 ≤ len then 1 else 0 := ⟨_, rfl⟩
  have hDl : tb len y e + D ≤ len := by
    rw [hD]
    split
    · omega
    · split <;> omega
  obtain ⟨s', b1, b2, b3, b4, b5, b6, b7⟩ := run D (tb len y e) _ (tb len y e) hDl (Nat.le_refl _) hs5 g2 (by
    rw [hD]
    split
    · omega
    · split
      · exact Or.inr (Or.inr (Or.inr ⟨rfl, rfl⟩))
      · omega) (st_s _ _ _ _ _) (fun j hj => by omega) g5 f5
  have eE : rnn len y (ts len y e) D (tb len y e) = te len y e := by
    unfold te
    rw [hD]
    split
    · rfl
    · split
      · rw [rnn, if_pos (show so (bk len y (tb len y e)) = ts len y e from rfl)]
        rfl
      · rw [rnn]
        omega
  rw [eE] at b5 b6
  refine ⟨s', ?_, b2, by rw [b3]; exact g3, b4, b5, b6, b7⟩
  unfold fX3_nextToken fX3_nextToken_0
  rw [e4, Option.bind_some, Option.bind_some]
  refine a4 _ ?_
  unfold fX3_nextToken_46 fX3_nextToken_87 fX3_nextToken_107
  rw [a2, so1]
  simp only [Option.bind_some, ii_lit]
  have g3' : (stI (stI s1 3 0 2 (ii (ts len y e))) 3 0 5 (ii 0)).1 3 0 3 = ii (tb len y e) := by rw [st_j _ _ (by decide), st_j _ _ (by decide)]; exact a2
  rw [g3', g2, g3, hs5.2.1]
  by_cases w1 : ts len y e = 1
  · rw [w1, if_pos rfl]
    rw [w1] at b1
    rw [show tb len y e + D = len by rw [hD, if_pos (by omega)]; omega] at b1
    exact b1
  · have w1' : ¬ ii (ts len y e) = ii 1 := by rw [ii_eq (by omega) (by omega) (by omega) (by omega)]; exact w1
    rw [if_neg w1']
    by_cases w2 : ts len y e = 2
    · rw [w2, if_pos rfl]
      rw [w2] at b1
      rw [show tb len y e + D = len by rw [hD, if_pos (by omega)]; omega] at b1
      exact b1
    · have w2' : ¬ ii (ts len y e) = ii 2 := by rw [ii_eq (by omega) (by omega) (by omega) (by omega)]; exact w2
      rw [if_neg w2', ii_add, min_ii (by omega) (by omega) (by omega) (by omega)]
      have ee : (if (len : Int) < (tb len y e : Int) + 1 then (len : Int) else (tb len y e : Int) + 1) = ((tb len y e + D : Nat) : Int) := by
        rw [hD]
        have nw : ¬ (ts len y e = 1 ∨ ts len y e = 2) := by
          intro h
          rcases h with h | h
          · exact w1 h
          · exact w2 h
        rw [if_neg nw]
        split <;> split <;> omega
      rw [ee]
      exact b1
