-- HOW MANY LETTERS: the vectors are squares again
theorem M_squares (τ : mm) : ∃ τ', fX8_squares τ = some τ' ∧ (∀ v l, v < 4 → l < 4 → τ'.1 46 0 (4 * v + l) = ii (if v = l then 1 else 0)) ∧ Fr [46] [] τ τ' := by
  unfold fX8_squares fX8_squares_0
  refine lp_j (fun k s => s.1 = ii k ∧ (∀ j, j < k → s.2.1 46 0 j = ii (if j % 5 = 0 then 1 else 0)) ∧ Fr [46] [] τ s.2) _ 16 ⟨rfl, fun j hj => by omega, Fr.rf _ _ _⟩ ?_ ?_
  · rintro k ⟨a, s⟩ hk ⟨h1, h2, h3⟩
    have h1 : a = ii k := h1
    subst h1
    by_cases h : k % 5 = 0
    · have h' : (k : Int) % 5 = 0 := by omega
      refine ⟨(ii ((k + 1 : Nat)), stI s 46 0 k (ii 1)), ?_, rfl, ?_, h3.sI (by decide) (by decide)⟩
      · simp (disch := omega) only [fX8_squares_2_L, fX8_squares_2, fX8_squares_24, rm_nn, h', if_true, if_false, Option.bind_some, Option.map_some, ii_lit, ll_lit, ii_neg, ll_neg, ii_add, ii_sub, ii_mul, ll_add, ll_sub, ll_mul, ii_le, ii_lt, ii_eq, ii_t, bi_0, bi_1, rd_z, wr_z, rr_z, rl_z, wl_z, tn_n, st_s, st_j, st_i, st_c, st_2, sl_s, sl_j, sl_i, sl_c, sl_1, Int.natCast_add, Int.cast_ofNat_Int, if_pos, if_neg]
      · intro j hj
        by_cases hjk : j = k
        · subst hjk
          rw [st_s, if_pos h]
        · rw [st_j _ _ hjk]
          exact h2 j (by omega)
    · have h' : ¬ (k : Int) % 5 = 0 := by omega
      refine ⟨(ii ((k + 1 : Nat)), stI s 46 0 k (ii 0)), ?_, rfl, ?_, h3.sI (by decide) (by decide)⟩
      · simp (disch := omega) only [fX8_squares_2_L, fX8_squares_2, fX8_squares_24, rm_nn, h', if_true, if_false, Option.bind_some, Option.map_some, ii_lit, ll_lit, ii_neg, ll_neg, ii_add, ii_sub, ii_mul, ll_add, ll_sub, ll_mul, ii_le, ii_lt, ii_eq, ii_t, bi_0, bi_1, rd_z, wr_z, rr_z, rl_z, wl_z, tn_n, st_s, st_j, st_i, st_c, st_2, sl_s, sl_j, sl_i, sl_c, sl_1, Int.natCast_add, Int.cast_ofNat_Int, if_pos, if_neg]
      · intro j hj
        by_cases hjk : j = k
        · subst hjk
          rw [st_s, if_neg h]
        · rw [st_j _ _ hjk]
          exact h2 j (by omega)
  · rintro ⟨a, s⟩ ⟨h1, h2, h3⟩
    have h1 : a = ii 16 := h1
    subst h1
    refine ⟨s, ?_, ?_, h3⟩
    · simp (disch := omega) only [fX8_squares_2_L, fX8_squares_2, if_true, if_false, Option.bind_some, Option.map_some, ii_lit, ll_lit, ii_neg, ll_neg, ii_add, ii_sub, ii_mul, ll_add, ll_sub, ll_mul, ii_le, ii_lt, ii_eq, ii_t, bi_0, bi_1, rd_z, wr_z, rr_z, rl_z, wl_z, tn_n, st_s, st_j, st_i, st_c, st_2, sl_s, sl_j, sl_i, sl_c, sl_1, Int.natCast_add, Int.cast_ofNat_Int, if_pos, if_neg]
    · intro v l hv hl
      rw [h2 _ (by omega)]
      by_cases h : v = l
      · rw [if_pos h, if_pos (by omega)]
      · rw [if_neg h, if_neg (by omega)]
theorem C_reset (σ : mm) (b : Nat) : ∃ σ', fX0_resetVectors b σ = some σ' ∧ (∀ v l, v < 4 → l < 4 → σ'.1 11 (4 * b + v) l = ii (if v = l then 1 else 0)) ∧ (∀ c, c ≠ 11 → σ'.1 c = σ.1 c) ∧ Fb b σ σ' := by
  unfold fX0_resetVectors fX0_resetVectors_0
  refine lp_j (fun k s => s.1 = ii k ∧ (∀ v l, v < k → l < 4 → s.2.1 11 (4 * b + v) l = ii (if v = l then 1 else 0)) ∧ (∀ c, c ≠ 11 → s.2.1 c = σ.1 c) ∧ Fb b σ s.2) _ 4 ⟨rfl, fun v l hv => by omega, fun _ _ => rfl, Fb.rf _ _⟩ ?_ ?_
  · rintro v ⟨a, s⟩ hv ⟨h1, h2, h3, h4⟩
    have h1 : a = ii v := h1
    subst h1
    have key : ∃ r, lp (fX0_resetVectors_9_L b (ii v)) (ii 0, s) = some r ∧ ∃ s', r = .inl (ii ((v + 1 : Nat)), s') ∧ (∀ w l, w < v + 1 → l < 4 → s'.1 11 (4 * b + w) l = ii (if w = l then 1 else 0)) ∧ (∀ c, c ≠ 11 → s'.1 c = σ.1 c) ∧ Fb b σ s' := by
      refine lp_j (fun k z => z.1 = ii k ∧ (∀ w l, w < v → l < 4 → z.2.1 11 (4 * b + w) l = ii (if w = l then 1 else 0)) ∧ (∀ l, l < k → z.2.1 11 (4 * b + v) l = ii (if v = l then 1 else 0)) ∧ (∀ c, c ≠ 11 → z.2.1 c = σ.1 c) ∧ Fb b σ z.2) _ 4 ⟨rfl, h2, fun l hl => by omega, h3, h4⟩ ?_ ?_
      · rintro k ⟨a, z⟩ hk ⟨g1, g2, g3, g4, g5⟩
        have g1 : a = ii k := g1
        subst g1
        refine ⟨(ii ((k + 1 : Nat)), stI z 11 (4 * b + v) k (ii (if v = k then 1 else 0))), ?_, rfl, ?_, ?_, ?_, g5.sI (Or.inr (Or.inr ⟨rfl, v, hv, rfl⟩))⟩
        · by_cases h : v = k
          · subst h
            simp (disch := omega) only [fX0_resetVectors_9_L, fX0_resetVectors_9, fX0_resetVectors_31, if_true, if_false, Option.bind_some, Option.map_some, ii_lit, ll_lit, ii_neg, ll_neg, ii_add, ii_sub, ii_mul, ll_add, ll_sub, ll_mul, ii_le, ii_lt, ii_eq, ii_t, bi_0, bi_1, rd_z, wr_z, rr_z, rl_z, wl_z, tn_n, st_s, st_j, st_i, st_c, st_2, sl_s, sl_j, sl_i, sl_c, sl_1, Int.natCast_add, Int.cast_ofNat_Int, if_pos, if_neg]
          · simp (disch := omega) only [fX0_resetVectors_9_L, fX0_resetVectors_9, fX0_resetVectors_31, if_true, if_false, Option.bind_some, Option.map_some, ii_lit, ll_lit, ii_neg, ll_neg, ii_add, ii_sub, ii_mul, ll_add, ll_sub, ll_mul, ii_le, ii_lt, ii_eq, ii_t, bi_0, bi_1, rd_z, wr_z, rr_z, rl_z, wl_z, tn_n, st_s, st_j, st_i, st_c, st_2, sl_s, sl_j, sl_i, sl_c, sl_1, Int.natCast_add, Int.cast_ofNat_Int, if_pos, if_neg]
        · intro w l hw hl
          show (stI z 11 (4 * b + v) k _).1 11 (4 * b + w) l = _
          rw [st_i _ _ _ (by omega)]
          exact g2 w l hw hl
        · intro l hl
          show (stI z 11 (4 * b + v) k _).1 11 (4 * b + v) l = _
          by_cases hlk : l = k
          · subst hlk
            rw [st_s]
          · rw [st_j _ _ hlk]
            exact g3 l (by omega)
        · intro c hc
          show (stI z 11 (4 * b + v) k _).1 c = _
          rw [st_c _ _ _ _ hc]
          exact g4 c hc
      · rintro ⟨a, z⟩ ⟨g1, g2, g3, g4, g5⟩
        have g1 : a = ii 4 := g1
        subst g1
        refine ⟨.inl (ii ((v + 1 : Nat)), z), ?_, z, rfl, ?_, g4, g5⟩
        · simp (disch := omega) only [fX0_resetVectors_9_L, fX0_resetVectors_9, if_true, if_false, Option.bind_some, Option.map_some, ii_lit, ll_lit, ii_neg, ll_neg, ii_add, ii_sub, ii_mul, ll_add, ll_sub, ll_mul, ii_le, ii_lt, ii_eq, ii_t, bi_0, bi_1, rd_z, wr_z, rr_z, rl_z, wl_z, tn_n, st_s, st_j, st_i, st_c, st_2, sl_s, sl_j, sl_i, sl_c, sl_1, Int.natCast_add, Int.cast_ofNat_Int, if_pos, if_neg]
        · intro w l hw hl
          by_cases h : w = v
          · subst h
            exact g3 l hl
          · exact g2 w l (by omega) hl
    obtain ⟨r, e, s', rfl, h5, h6, h7⟩ := key
    refine ⟨(ii ((v + 1 : Nat)), s'), ?_, rfl, h5, h6, h7⟩
    rw [← e]
    simp (disch := omega) only [fX0_resetVectors_2_L, fX0_resetVectors_2, if_true, if_false, Option.bind_some, Option.map_some, ii_lit, ll_lit, ii_neg, ll_neg, ii_add, ii_sub, ii_mul, ll_add, ll_sub, ll_mul, ii_le, ii_lt, ii_eq, ii_t, bi_0, bi_1, rd_z, wr_z, rr_z, rl_z, wl_z, tn_n, st_s, st_j, st_i, st_c, st_2, sl_s, sl_j, sl_i, sl_c, sl_1, Int.natCast_add, Int.cast_ofNat_Int, if_pos, if_neg]
  · rintro ⟨a, s⟩ ⟨h1, h2, h3, h4⟩
    have h1 : a = ii 4 := h1
    subst h1
    refine ⟨s, ?_, h2, h3, h4⟩
    simp (disch := omega) only [fX0_resetVectors_2_L, fX0_resetVectors_2, if_true, if_false, Option.bind_some, Option.map_some, ii_lit, ll_lit, ii_neg, ll_neg, ii_add, ii_sub, ii_mul, ll_add, ll_sub, ll_mul, ii_le, ii_lt, ii_eq, ii_t, bi_0, bi_1, rd_z, wr_z, rr_z, rl_z, wl_z, tn_n, st_s, st_j, st_i, st_c, st_2, sl_s, sl_j, sl_i, sl_c, sl_1, Int.natCast_add, Int.cast_ofNat_Int, if_pos, if_neg]
theorem setL_ne {A : bdy} {v : Nat} (h : v ≠ A.n) : A.setL v = (v, A.R, fun l => if A.n ≤ l ∧ l < v then 0 else A.lo l, fun l => if A.n ≤ l ∧ l < v then 3 else A.hi l, A.rw, fun v l => if v = l then 1 else 0) := if_neg h
theorem C_setLetters {σ : mm} {b : Nat} {A : bdy} (hC : isC σ b A) {v : Nat} (hv : v ≤ 4) : ∃ σ', fX0_setLetters b (ii v) σ = some σ' ∧ isC σ' b (A.setL v) ∧ Fb b σ σ' := by
  obtain ⟨⟨hn4, hR8⟩, hn, hR, hlo, hhi, hk, hnu, hve⟩ := hC
  unfold fX0_setLetters fX0_setLetters_0
  by_cases h : v = A.n
  · refine ⟨σ, ?_, ?_, Fb.rf _ _⟩
    · simp (disch := omega) only [hn, if_true, if_false, Option.bind_some, Option.map_some, ii_lit, ll_lit, ii_neg, ll_neg, ii_add, ii_sub, ii_mul, ll_add, ll_sub, ll_mul, ii_le, ii_lt, ii_eq, ii_t, bi_0, bi_1, rd_z, wr_z, rr_z, rl_z, wl_z, tn_n, st_s, st_j, st_i, st_c, st_2, sl_s, sl_j, sl_i, sl_c, sl_1, Int.natCast_add, Int.cast_ofNat_Int, if_pos, if_neg]
    · rw [show A.setL v = A from if_pos h]
      exact ⟨⟨hn4, hR8⟩, hn, hR, hlo, hhi, hk, hnu, hve⟩
  · have h' : ¬ (v : Int) = A.n := by omega
    simp (disch := omega) only [hn, if_true, if_false, Option.bind_some, Option.map_some, ii_lit, ll_lit, ii_neg, ll_neg, ii_add, ii_sub, ii_mul, ll_add, ll_sub, ll_mul, ii_le, ii_lt, ii_eq, ii_t, bi_0, bi_1, rd_z, wr_z, rr_z, rl_z, wl_z, tn_n, st_s, st_j, st_i, st_c, st_2, sl_s, sl_j, sl_i, sl_c, sl_1, Int.natCast_add, Int.cast_ofNat_Int, if_pos, if_neg]
    refine lp_j (fun k s => s.1 = ii ((A.n + k : Nat)) ∧ (∀ l, l < 4 → s.2.1 8 b l = ii (if A.n ≤ l ∧ l < A.n + k then 0 else A.lo l)) ∧ (∀ l, l < 4 → s.2.1 9 b l = ii (if A.n ≤ l ∧ l < A.n + k then 3 else A.hi l)) ∧ (∀ c, c ≠ 8 → c ≠ 9 → s.2.1 c = σ.1 c) ∧ Fb b σ s.2) _ (v - A.n) ⟨rfl, ?_, ?_, fun _ _ _ => rfl, Fb.rf _ _⟩ ?_ ?_
    · intro l hl
      rw [if_neg (by omega)]
      exact hlo l hl
    · intro l hl
      rw [if_neg (by omega)]
      exact hhi l hl
    · rintro k ⟨a, s⟩ hk' ⟨h1, h2, h3, h4, h5⟩
      have h1 : a = ii ((A.n + k : Nat)) := h1
      subst h1
      refine ⟨(ii ((A.n + (k + 1) : Nat)), stI (stI s 8 b (A.n + k) (ii 0)) 9 b (A.n + k) (ii 3)), ?_, rfl, ?_, ?_, ?_, (h5.sI (Or.inl ⟨by omega, rfl⟩)).sI (Or.inl ⟨by omega, rfl⟩)⟩
      · simp (disch := omega) only [fX0_setLetters_14_L, fX0_setLetters_14, show ((A.n : Int) + (k : Int)).toNat = A.n + k by omega, Int.add_assoc, if_true, if_false, Option.bind_some, Option.map_some, ii_lit, ll_lit, ii_neg, ll_neg, ii_add, ii_sub, ii_mul, ll_add, ll_sub, ll_mul, ii_le, ii_lt, ii_eq, ii_t, bi_0, bi_1, rd_z, wr_z, rr_z, rl_z, wl_z, tn_n, st_s, st_j, st_i, st_c, st_2, sl_s, sl_j, sl_i, sl_c, sl_1, Int.natCast_add, Int.cast_ofNat_Int, if_pos, if_neg]
      · intro l hl
        show (stI (stI s 8 b (A.n + k) (ii 0)) 9 b (A.n + k) (ii 3)).1 8 b l = _
        rw [st_c _ _ _ _ (by decide)]
        by_cases hlk : l = A.n + k
        · subst hlk
          rw [st_s, if_pos (by omega)]
        · rw [st_j _ _ hlk, h2 l hl]
          by_cases hq : A.n ≤ l ∧ l < A.n + k
          · rw [if_pos hq, if_pos (by omega)]
          · rw [if_neg hq, if_neg (by omega)]
      · intro l hl
        show (stI (stI s 8 b (A.n + k) (ii 0)) 9 b (A.n + k) (ii 3)).1 9 b l = _
        by_cases hlk : l = A.n + k
        · subst hlk
          rw [st_s, if_pos (by omega)]
        · rw [st_j _ _ hlk, st_c _ _ _ _ (by decide), h3 l hl]
          by_cases hq : A.n ≤ l ∧ l < A.n + k
          · rw [if_pos hq, if_pos (by omega)]
          · rw [if_neg hq, if_neg (by omega)]
      · intro c hc8 hc9
        show (stI (stI s 8 b (A.n + k) (ii 0)) 9 b (A.n + k) (ii 3)).1 c = _
        rw [st_c _ _ _ _ hc9, st_c _ _ _ _ hc8]
        exact h4 c hc8 hc9
    · rintro ⟨a, s⟩ ⟨h1, h2, h3, h4, h5⟩
      have h1 : a = ii ((A.n + (v - A.n) : Nat)) := h1
      subst h1
      obtain ⟨s', e, g1, g2, g3⟩ := C_reset (stI s 0 b 0 (ii v)) b
      refine ⟨s', ?_, ?_, (h5.sI (Or.inl ⟨by omega, rfl⟩)).tr g3⟩
      · simp (disch := omega) only [fX0_setLetters_14_L, fX0_setLetters_14, e, if_true, if_false, Option.bind_some, Option.map_some, ii_lit, ll_lit, ii_neg, ll_neg, ii_add, ii_sub, ii_mul, ll_add, ll_sub, ll_mul, ii_le, ii_lt, ii_eq, ii_t, bi_0, bi_1, rd_z, wr_z, rr_z, rl_z, wl_z, tn_n, st_s, st_j, st_i, st_c, st_2, sl_s, sl_j, sl_i, sl_c, sl_1, Int.natCast_add, Int.cast_ofNat_Int, if_pos, if_neg]
      · rw [setL_ne h]
        refine ⟨⟨hv, hR8⟩, ?_, ?_, ?_, ?_, ?_, ?_, ?_⟩
        · rw [g2 0 (by decide), st_s]
          rfl
        · rw [g2 0 (by decide), st_j _ _ (by decide), h4 0 (by decide) (by decide)]
          exact hR
        · intro l hl
          rw [g2 8 (by decide), st_c _ _ _ _ (by decide), h2 l hl]
          show _ = ii (if A.n ≤ l ∧ l < v then 0 else A.lo l)
          congr 1
          by_cases hq : A.n ≤ l ∧ l < v
          · rw [if_pos hq, if_pos (by omega)]
          · rw [if_neg hq, if_neg (by omega)]
        · intro l hl
          rw [g2 9 (by decide), st_c _ _ _ _ (by decide), h3 l hl]
          show _ = ii (if A.n ≤ l ∧ l < v then 3 else A.hi l)
          congr 1
          by_cases hq : A.n ≤ l ∧ l < v
          · rw [if_pos hq, if_pos (by omega)]
          · rw [if_neg hq, if_neg (by omega)]
        · intro r w hr hw
          rw [g2 4 (by decide), st_c _ _ _ _ (by decide), h4 4 (by decide) (by decide)]
          exact hk r w hr hw
        · intro r w hr hw
          rw [g2 10 (by decide), st_c _ _ _ _ (by decide), h4 10 (by decide) (by decide)]
          exact hnu r w hr hw
        · intro w l hw hl
          exact g1 w l hw hl
theorem prf_setL {A : bdy} {v : Nat} : pts (A.setL v) = prf (fun l => if l < A.n then wd A l else 4) v := by
  by_cases h : v = A.n
  · rw [show A.setL v = A from if_pos h, h]
    exact prf_c (fun k hk => (if_pos hk).symm)
  · rw [setL_ne h]
    refine prf_c (fun k hk => ?_)
    have hk : k < v := hk
    show (if A.n ≤ k ∧ k < v then 3 else A.hi k) - (if A.n ≤ k ∧ k < v then 0 else A.lo k) + 1 = _
    by_cases hq : k < A.n
    · rw [if_pos hq, if_neg (by omega), if_neg (by omega)]
      rfl
    · rw [if_neg hq, if_pos (by omega), if_pos (by omega)]
      rfl
theorem pts_setL_r {A : bdy} (hA : okb A) {v : Nat} (hv : v ≤ 4) : 1 ≤ pts (A.setL v) ∧ pts (A.setL v) ≤ 130321 := by
  have hn := hA.1
  rw [prf_setL]
  have hb : ∀ k, k < v → 1 ≤ (fun l => if l < A.n then wd A l else 4) k ∧ (fun l => if l < A.n then wd A l else 4) k ≤ (19 : Nat) := by
    intro k hk
    show 1 ≤ (if k < A.n then wd A k else 4) ∧ (if k < A.n then wd A k else 4) ≤ (19 : Nat)
    split
    · have := hA.wdr (l := k) (by omega)
      omega
    · omega
  refine ⟨prf_pos (fun k hk => (hb k hk).1), ?_⟩
  have h4 := prf_le hb
  have h5 : (19 : Nat) ^ v ≤ 19 ^ 4 := Nat.pow_le_pow_right (by decide) hv
  omega
theorem okb.setL {A : bdy} (hA : okb A) {v : Nat} (h1 : 1 ≤ v) (h2 : v ≤ 4) (h4 : pts (A.setL v) ≤ 4096) : okb (A.setL v) := by
  by_cases h : v = A.n
  · rw [show A.setL v = A from if_pos h]
    exact hA
  · obtain ⟨a, b, c, d, e, f⟩ := hA
    rw [setL_ne h] at h4 ⊢
    refine ⟨⟨h1, h2⟩, b, ?_, d, ?_, h4⟩
    · intro k hk
      have := c k hk
      show -9 ≤ (if A.n ≤ k ∧ k < v then 0 else A.lo k) ∧ (if A.n ≤ k ∧ k < v then 0 else A.lo k) ≤ (if A.n ≤ k ∧ k < v then 3 else A.hi k) ∧ (if A.n ≤ k ∧ k < v then 3 else A.hi k) ≤ 9
      split <;> omega
    · intro w l _ _
      show -4 ≤ (if w = l then (1 : Int) else 0) ∧ (if w = l then (1 : Int) else 0) ≤ 4
      split <;> omega
theorem M_hasLetters {τ : mm} {A : bdy} (hM : isM τ A) (hA : okb A) {v : Nat} (hv : v ≤ 4) : ∃ q, fX8_hasLetters (ii v) τ = some (decide (pts (A.setL v) ≤ 4096), q) ∧ ((pts (A.setL v) ≤ 4096 ∧ isM q (A.setL v) ∧ Fr [42, 43, 46] [1] τ q) ∨ (¬ pts (A.setL v) ≤ 4096 ∧ q = τ)) := by
  have hr := pts_setL_r hA hv
  rw [prf_setL] at hr
  obtain ⟨⟨hn4, hR8⟩, hn, hR, hlo, hhi, hrw, hve⟩ := hM
  have key : ∃ q, lp (fX8_hasLetters_4_L (ii v) τ) (ii 1, ii 0) = some (decide (pts (A.setL v) ≤ 4096), q) ∧ ((pts (A.setL v) ≤ 4096 ∧ isM q (A.setL v) ∧ Fr [42, 43, 46] [1] τ q) ∨ (¬ pts (A.setL v) ≤ 4096 ∧ q = τ)) := by
    by_cases hb : pts (A.setL v) ≤ 4096
    · have inner : ∃ q, lp (fX8_hasLetters_59_L (ii v)) (ii A.n, τ) = some q ∧ (q.1 = true ∧ isM q.2 (A.setL v) ∧ Fr [42, 43, 46] [1] τ q.2) := by
        refine lp_j (fun k s => s.1 = ii ((A.n + k : Nat)) ∧ (∀ l, l < 4 → s.2.1 42 0 l = ii (if A.n ≤ l ∧ l < A.n + k then 0 else A.lo l)) ∧ (∀ l, l < 4 → s.2.1 43 0 l = ii (if A.n ≤ l ∧ l < A.n + k then 3 else A.hi l)) ∧ Fr [42, 43] [] τ s.2) _ (v - A.n) ⟨rfl, ?_, ?_, Fr.rf _ _ _⟩ ?_ ?_
        · intro l hl
          rw [if_neg (by omega)]
          exact hlo l hl
        · intro l hl
          rw [if_neg (by omega)]
          exact hhi l hl
        · rintro k ⟨a, s⟩ hk' ⟨h1, h2, h3, h5⟩
          have h1 : a = ii ((A.n + k : Nat)) := h1
          subst h1
          refine ⟨(ii ((A.n + (k + 1) : Nat)), stI (stI s 42 0 (A.n + k) (ii 0)) 43 0 (A.n + k) (ii 3)), ?_, rfl, ?_, ?_, (h5.sI (by decide) (by decide)).sI (by decide) (by decide)⟩
          · simp (disch := omega) only [fX8_hasLetters_59_L, fX8_hasLetters_59, show ((A.n : Int) + (k : Int)).toNat = A.n + k by omega, Int.add_assoc, if_true, if_false, Option.bind_some, Option.map_some, ii_lit, ll_lit, ii_neg, ll_neg, ii_add, ii_sub, ii_mul, ll_add, ll_sub, ll_mul, ii_le, ii_lt, ii_eq, ii_t, bi_0, bi_1, rd_z, wr_z, rr_z, rl_z, wl_z, tn_n, st_s, st_j, st_i, st_c, st_2, sl_s, sl_j, sl_i, sl_c, sl_1, Int.natCast_add, Int.cast_ofNat_Int, if_pos, if_neg]
          · intro l hl
            show (stI (stI s 42 0 (A.n + k) (ii 0)) 43 0 (A.n + k) (ii 3)).1 42 0 l = _
            rw [st_c _ _ _ _ (by decide)]
            by_cases hlk : l = A.n + k
            · subst hlk
              rw [st_s, if_pos (by omega)]
            · rw [st_j _ _ hlk, h2 l hl]
              by_cases hq : A.n ≤ l ∧ l < A.n + k
              · rw [if_pos hq, if_pos (by omega)]
              · rw [if_neg hq, if_neg (by omega)]
          · intro l hl
            show (stI (stI s 42 0 (A.n + k) (ii 0)) 43 0 (A.n + k) (ii 3)).1 43 0 l = _
            by_cases hlk : l = A.n + k
            · subst hlk
              rw [st_s, if_pos (by omega)]
            · rw [st_j _ _ hlk, st_c _ _ _ _ (by decide), h3 l hl]
              by_cases hq : A.n ≤ l ∧ l < A.n + k
              · rw [if_pos hq, if_pos (by omega)]
              · rw [if_neg hq, if_neg (by omega)]
        · rintro ⟨a, s⟩ ⟨h1, h2, h3, h5⟩
          have h1 : a = ii ((A.n + (v - A.n) : Nat)) := h1
          subst h1
          have e1 : s.1 32 0 1 = ii A.n := (h5.2.2 1 (by decide)).trans hn
          have e4 : s.1 32 0 4 = ii A.R := (h5.2.2 4 (by decide)).trans hR
          have e45 := h5.1 45 (by decide) (by decide)
          have e46 := h5.1 46 (by decide) (by decide)
          by_cases h : v = A.n
          · refine ⟨(true, stI s 32 0 1 (ii v)), ?_, rfl, ?_, (h5.mono (by decide) (by decide)).sF (by decide)⟩
            · simp (disch := omega) only [fX8_hasLetters_59_L, fX8_hasLetters_59, fX8_hasLetters_96, e1, if_true, if_false, Option.bind_some, Option.map_some, ii_lit, ll_lit, ii_neg, ll_neg, ii_add, ii_sub, ii_mul, ll_add, ll_sub, ll_mul, ii_le, ii_lt, ii_eq, ii_t, bi_0, bi_1, rd_z, wr_z, rr_z, rl_z, wl_z, tn_n, st_s, st_j, st_i, st_c, st_2, sl_s, sl_j, sl_i, sl_c, sl_1, Int.natCast_add, Int.cast_ofNat_Int, if_pos, if_neg]
            · rw [show A.setL v = A from if_pos h]
              refine ⟨⟨hn4, hR8⟩, ?_, ?_, ?_, ?_, ?_, ?_⟩
              · rw [st_s, h]
              · rw [st_j _ _ (by decide)]; exact e4
              · intro l hl
                rw [st_c _ _ _ _ (by decide), h2 l hl, if_neg (by omega)]
              · intro l hl
                rw [st_c _ _ _ _ (by decide), h3 l hl, if_neg (by omega)]
              · intro r w hr hw
                rw [st_c _ _ _ _ (by decide), e45]
                exact hrw r w hr hw
              · intro r w hr hw
                rw [st_c _ _ _ _ (by decide), e46]
                exact hve r w hr hw
          · obtain ⟨s', e, g1, g2⟩ := M_squares s
            refine ⟨(true, stI s' 32 0 1 (ii v)), ?_, rfl, ?_, ((h5.mono (by decide) (by decide)).tr (g2.mono (by decide) (by decide))).sF (by decide)⟩
            · simp (disch := omega) only [fX8_hasLetters_59_L, fX8_hasLetters_59, fX8_hasLetters_96, e1, e, if_true, if_false, Option.bind_some, Option.map_some, ii_lit, ll_lit, ii_neg, ll_neg, ii_add, ii_sub, ii_mul, ll_add, ll_sub, ll_mul, ii_le, ii_lt, ii_eq, ii_t, bi_0, bi_1, rd_z, wr_z, rr_z, rl_z, wl_z, tn_n, st_s, st_j, st_i, st_c, st_2, sl_s, sl_j, sl_i, sl_c, sl_1, Int.natCast_add, Int.cast_ofNat_Int, if_pos, if_neg]
            · rw [setL_ne h]
              refine ⟨⟨hv, hR8⟩, ?_, ?_, ?_, ?_, ?_, ?_⟩
              · rw [st_s]
                rfl
              · rw [st_j _ _ (by decide), g2.2.2 4 (by decide)]; exact e4
              · intro l hl
                rw [st_c _ _ _ _ (by decide), g2.1 42 (by decide) (by decide), h2 l hl]
                show _ = ii (if A.n ≤ l ∧ l < v then 0 else A.lo l)
                congr 1
                by_cases hq : A.n ≤ l ∧ l < v
                · rw [if_pos hq, if_pos (by omega)]
                · rw [if_neg hq, if_neg (by omega)]
              · intro l hl
                rw [st_c _ _ _ _ (by decide), g2.1 43 (by decide) (by decide), h3 l hl]
                show _ = ii (if A.n ≤ l ∧ l < v then 3 else A.hi l)
                congr 1
                by_cases hq : A.n ≤ l ∧ l < v
                · rw [if_pos hq, if_pos (by omega)]
                · rw [if_neg hq, if_neg (by omega)]
              · intro r w hr hw
                rw [st_c _ _ _ _ (by decide), g2.1 45 (by decide) (by decide), e45]
                exact hrw r w hr hw
              · intro w l hw hl
                rw [st_c _ _ _ _ (by decide)]
                exact g1 w l hw hl
      obtain ⟨⟨qb, q⟩, e, hq1, hq2, hq3⟩ := inner
      have hq1 : qb = true := hq1
      subst hq1
      refine ⟨q, ?_, Or.inl ⟨hb, hq2, hq3⟩⟩
      rw [decide_eq_true hb]
      rw [prf_setL] at hb
      refine lp_f (fun k => (ii (prf (fun l => if l < A.n then wd A l else 4) k), ii k)) v rfl ?_ ?_
      · intro k hk
        by_cases h : k < A.n
        · simp (disch := omega) only [fX8_hasLetters_4_L, fX8_hasLetters_4, fX8_hasLetters_37, hn, hlo, hhi, prf, wd, if_true, if_false, Option.bind_some, Option.map_some, ii_lit, ll_lit, ii_neg, ll_neg, ii_add, ii_sub, ii_mul, ll_add, ll_sub, ll_mul, ii_le, ii_lt, ii_eq, ii_t, bi_0, bi_1, rd_z, wr_z, rr_z, rl_z, wl_z, tn_n, st_s, st_j, st_i, st_c, st_2, sl_s, sl_j, sl_i, sl_c, sl_1, Int.natCast_add, Int.cast_ofNat_Int, if_pos, if_neg]
        · simp (disch := omega) only [fX8_hasLetters_4_L, fX8_hasLetters_4, fX8_hasLetters_37, hn, hlo, hhi, prf, if_true, if_false, Option.bind_some, Option.map_some, ii_lit, ll_lit, ii_neg, ll_neg, ii_add, ii_sub, ii_mul, ll_add, ll_sub, ll_mul, ii_le, ii_lt, ii_eq, ii_t, bi_0, bi_1, rd_z, wr_z, rr_z, rl_z, wl_z, tn_n, st_s, st_j, st_i, st_c, st_2, sl_s, sl_j, sl_i, sl_c, sl_1, Int.natCast_add, Int.cast_ofNat_Int, if_pos, if_neg]
      · simp (disch := omega) only [fX8_hasLetters_4_L, fX8_hasLetters_4, hn, e, if_true, if_false, Option.bind_some, Option.map_some, ii_lit, ll_lit, ii_neg, ll_neg, ii_add, ii_sub, ii_mul, ll_add, ll_sub, ll_mul, ii_le, ii_lt, ii_eq, ii_t, bi_0, bi_1, rd_z, wr_z, rr_z, rl_z, wl_z, tn_n, st_s, st_j, st_i, st_c, st_2, sl_s, sl_j, sl_i, sl_c, sl_1, Int.natCast_add, Int.cast_ofNat_Int, if_pos, if_neg]
    · refine ⟨τ, ?_, Or.inr ⟨hb, rfl⟩⟩
      rw [decide_eq_false hb]
      rw [prf_setL] at hb
      refine lp_f (fun k => (ii (prf (fun l => if l < A.n then wd A l else 4) k), ii k)) v rfl ?_ ?_
      · intro k hk
        by_cases h : k < A.n
        · simp (disch := omega) only [fX8_hasLetters_4_L, fX8_hasLetters_4, fX8_hasLetters_37, hn, hlo, hhi, prf, wd, if_true, if_false, Option.bind_some, Option.map_some, ii_lit, ll_lit, ii_neg, ll_neg, ii_add, ii_sub, ii_mul, ll_add, ll_sub, ll_mul, ii_le, ii_lt, ii_eq, ii_t, bi_0, bi_1, rd_z, wr_z, rr_z, rl_z, wl_z, tn_n, st_s, st_j, st_i, st_c, st_2, sl_s, sl_j, sl_i, sl_c, sl_1, Int.natCast_add, Int.cast_ofNat_Int, if_pos, if_neg]
        · simp (disch := omega) only [fX8_hasLetters_4_L, fX8_hasLetters_4, fX8_hasLetters_37, hn, hlo, hhi, prf, if_true, if_false, Option.bind_some, Option.map_some, ii_lit, ll_lit, ii_neg, ll_neg, ii_add, ii_sub, ii_mul, ll_add, ll_sub, ll_mul, ii_le, ii_lt, ii_eq, ii_t, bi_0, bi_1, rd_z, wr_z, rr_z, rl_z, wl_z, tn_n, st_s, st_j, st_i, st_c, st_2, sl_s, sl_j, sl_i, sl_c, sl_1, Int.natCast_add, Int.cast_ofNat_Int, if_pos, if_neg]
      · simp (disch := omega) only [fX8_hasLetters_4_L, fX8_hasLetters_4, hn, if_true, if_false, Option.bind_some, Option.map_some, ii_lit, ll_lit, ii_neg, ll_neg, ii_add, ii_sub, ii_mul, ll_add, ll_sub, ll_mul, ii_le, ii_lt, ii_eq, ii_t, bi_0, bi_1, rd_z, wr_z, rr_z, rl_z, wl_z, tn_n, st_s, st_j, st_i, st_c, st_2, sl_s, sl_j, sl_i, sl_c, sl_1, Int.natCast_add, Int.cast_ofNat_Int, if_pos, if_neg]
  exact key
