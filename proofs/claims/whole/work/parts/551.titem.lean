-- AN ITEM of the text, by both readers
theorem P_item {len : Nat} {y : Nat → Int} {σ0 τ0 : mm} {A : bdy} {σ τ : mm} {e : Nat} (h : PQ len y σ0 τ0 A e σ τ) : ∃ (b : Bool) (σ' τ' : mm) (A' : bdy) (e' : Nat), fX3_readItem 2 σ = some (b, σ') ∧ fX8_readsItem τ = some (b, τ') ∧ PQ len y σ0 τ0 A' e' σ' τ' ∧ (b = true → e + 1 ≤ e') := by
  have tr := tok_r (len := len) (y := y) (e := e)
  have hy : ∀ k, k < len → 0 ≤ y k ∧ y k < 256 := fun k hk => (h.2.1.1.2.2 k hk).1
  have ht := h.2.2.2.1.2.1
  have prog : ∀ w : Nat, w < 10 → tok len y e = 10 + (w : Int) → e + 1 ≤ te len y e := by
    intro w hw hT
    have := (tok_word hw).mp hT
    have := te_gt hy h.2.1.2.2.2 (by omega)
    have := tb_r (y := y) h.2.1.2.2.2
    omega
  have w0 : fX3_isWord 0 σ = some (decide (tok len y e = 10 + ((6 : Nat) : Int))) := h.word (w := 0) (by decide)
  have w1 : fX3_isWord 1 σ = some (decide (tok len y e = 10 + ((7 : Nat) : Int))) := h.word (w := 1) (by decide)
  have w2 : fX3_isWord 2 σ = some (decide (tok len y e = 10 + ((8 : Nat) : Int))) := h.word (w := 2) (by decide)
  have w3 : fX3_isWord 3 σ = some (decide (tok len y e = 10 + ((9 : Nat) : Int))) := h.word (w := 3) (by decide)
  have w4 : fX3_isWord 4 σ = some (decide (tok len y e = 10 + ((0 : Nat) : Int))) := h.word (w := 4) (by decide)
  have w5 : fX3_isWord 5 σ = some (decide (tok len y e = 10 + ((1 : Nat) : Int))) := h.word (w := 5) (by decide)
  have w6 : fX3_isWord 6 σ = some (decide (tok len y e = 10 + ((2 : Nat) : Int))) := h.word (w := 6) (by decide)
  have w7 : fX3_isWord 7 σ = some (decide (tok len y e = 10 + ((3 : Nat) : Int))) := h.word (w := 7) (by decide)
  have w8 : fX3_isWord 8 σ = some (decide (tok len y e = 10 + ((4 : Nat) : Int))) := h.word (w := 8) (by decide)
  have w9 : fX3_isWord 9 σ = some (decide (tok len y e = 10 + ((5 : Nat) : Int))) := h.word (w := 9) (by decide)
  have key : tok len y e = 16 ∨ tok len y e = 17 ∨ (10 ≤ tok len y e ∧ tok len y e ≤ 15) ∨ (tok len y e < 10 ∨ 17 < tok len y e) := by omega
  generalize hT : tok len y e = T at *
  rcases key with k | k | k | k
  · subst k
    have p := prog 6 (by decide) rfl
    obtain ⟨b, σ', τ', A', e', a1, a2, a3, a4⟩ := P_letters h
    refine ⟨b, σ', τ', A', e', ?_, ?_, a3, fun _ => by omega⟩
    · unfold fX3_readItem fX3_readItem_0
      have w0' : fX3_isWord 0 σ = some true := w0
      rw [w0', Option.bind_some, if_neg bi_t, a1]
      rfl
    · unfold fX8_readsItem fX8_readsItem_0
      simp (disch := omega) only [ht, a2, if_true, if_false, Option.bind_some, Option.map_some, ii_lit, ll_lit, ii_neg, ll_neg, ii_add, ii_sub, ii_mul, ll_add, ll_sub, ll_mul, ii_le, ii_lt, ii_eq, ii_t, bi_0, bi_1, rd_z, wr_z, rr_z, rl_z, wl_z, tn_n, st_s, st_j, st_i, st_c, st_2, sl_s, sl_j, sl_i, sl_c, sl_1, Int.natCast_add, Int.cast_ofNat_Int, if_pos, if_neg, decide_eq_false_iff_not, decide_eq_true_eq, in_ll, ii_long, Nat.zero_add, Nat.mul_zero, reduceCtorEq]
  · subst k
    have p := prog 7 (by decide) rfl
    obtain ⟨b, σ', τ', A', e', a1, a2, a3, a4⟩ := P_box h
    refine ⟨b, σ', τ', A', e', ?_, ?_, a3, fun _ => by omega⟩
    · unfold fX3_readItem fX3_readItem_0
      have w0' : fX3_isWord 0 σ = some false := w0
      have w1' : fX3_isWord 1 σ = some true := w1
      rw [w0', Option.bind_some, if_pos bi_f, w1', Option.bind_some, if_neg bi_t, a1]
      rfl
    · unfold fX8_readsItem fX8_readsItem_0
      cases b with
      | false => simp (disch := omega) only [ht, a2, if_true, if_false, Option.bind_some, Option.map_some, ii_lit, ll_lit, ii_neg, ll_neg, ii_add, ii_sub, ii_mul, ll_add, ll_sub, ll_mul, ii_le, ii_lt, ii_eq, ii_t, bi_0, bi_1, rd_z, wr_z, rr_z, rl_z, wl_z, tn_n, st_s, st_j, st_i, st_c, st_2, sl_s, sl_j, sl_i, sl_c, sl_1, Int.natCast_add, Int.cast_ofNat_Int, if_pos, if_neg, decide_eq_false_iff_not, decide_eq_true_eq, in_ll, ii_long, Nat.zero_add, Nat.mul_zero, reduceCtorEq]
      | true => simp (disch := omega) only [ht, a2, if_true, if_false, Option.bind_some, Option.map_some, ii_lit, ll_lit, ii_neg, ll_neg, ii_add, ii_sub, ii_mul, ll_add, ll_sub, ll_mul, ii_le, ii_lt, ii_eq, ii_t, bi_0, bi_1, rd_z, wr_z, rr_z, rl_z, wl_z, tn_n, st_s, st_j, st_i, st_c, st_2, sl_s, sl_j, sl_i, sl_c, sl_1, Int.natCast_add, Int.cast_ofNat_Int, if_pos, if_neg, decide_eq_false_iff_not, decide_eq_true_eq, in_ll, ii_long, Nat.zero_add, Nat.mul_zero, reduceCtorEq]
  · obtain ⟨c, rfl⟩ : ∃ c : Nat, T = 10 + (c : Int) := ⟨(T - 10).toNat, by omega⟩
    have p := prog c (by omega) rfl
    obtain ⟨b, σ', τ', A', e', a1, a2, a3, a4⟩ := P_row h (k := c) (by omega)
    have kw : fX3_isWord 0 σ = some false ∧ fX3_isWord 1 σ = some false ∧ fX3_kindOfWord σ = some (ii c) := by
      have hc : c = 0 ∨ c = 1 ∨ c = 2 ∨ c = 3 ∨ c = 4 ∨ c = 5 := by omega
      unfold fX3_kindOfWord fX3_kindOfWord_0
      rcases hc with hc | hc | hc | hc | hc | hc
      · subst hc
        refine ⟨w0, w1, ?_⟩
        have x4 : fX3_isWord 4 σ = some true := w4
        rw [x4, Option.bind_some, if_neg bi_t]
        rfl
      · subst hc
        refine ⟨w0, w1, ?_⟩
        have x4 : fX3_isWord 4 σ = some false := w4
        have x5 : fX3_isWord 5 σ = some true := w5
        rw [x4, Option.bind_some, if_pos bi_f, x5, Option.bind_some, if_neg bi_t]
        rfl
      · subst hc
        refine ⟨w0, w1, ?_⟩
        have x4 : fX3_isWord 4 σ = some false := w4
        have x5 : fX3_isWord 5 σ = some false := w5
        have x6 : fX3_isWord 6 σ = some true := w6
        rw [x4, Option.bind_some, if_pos bi_f, x5, Option.bind_some, if_pos bi_f, x6, Option.bind_some, if_neg bi_t]
        rfl
      · subst hc
        refine ⟨w0, w1, ?_⟩
        have x4 : fX3_isWord 4 σ = some false := w4
        have x5 : fX3_isWord 5 σ = some false := w5
        have x6 : fX3_isWord 6 σ = some false := w6
        have x7 : fX3_isWord 7 σ = some true := w7
        rw [x4, Option.bind_some, if_pos bi_f, x5, Option.bind_some, if_pos bi_f, x6, Option.bind_some, if_pos bi_f, x7, Option.bind_some, if_neg bi_t]
        rfl
      · subst hc
        refine ⟨w0, w1, ?_⟩
        have x4 : fX3_isWord 4 σ = some false := w4
        have x5 : fX3_isWord 5 σ = some false := w5
        have x6 : fX3_isWord 6 σ = some false := w6
        have x7 : fX3_isWord 7 σ = some false := w7
        have x8 : fX3_isWord 8 σ = some true := w8
        rw [x4, Option.bind_some, if_pos bi_f, x5, Option.bind_some, if_pos bi_f, x6, Option.bind_some, if_pos bi_f, x7, Option.bind_some, if_pos bi_f, x8, Option.bind_some, if_neg bi_t]
        rfl
      · subst hc
        refine ⟨w0, w1, ?_⟩
        have x4 : fX3_isWord 4 σ = some false := w4
        have x5 : fX3_isWord 5 σ = some false := w5
        have x6 : fX3_isWord 6 σ = some false := w6
        have x7 : fX3_isWord 7 σ = some false := w7
        have x8 : fX3_isWord 8 σ = some false := w8
        have x9 : fX3_isWord 9 σ = some true := w9
        rw [x4, Option.bind_some, if_pos bi_f, x5, Option.bind_some, if_pos bi_f, x6, Option.bind_some, if_pos bi_f, x7, Option.bind_some, if_pos bi_f, x8, Option.bind_some, if_pos bi_f, x9, Option.bind_some, if_neg bi_t]
        rfl
    refine ⟨b, σ', τ', A', e', ?_, ?_, a3, fun hb => by have := a4 hb; omega⟩
    · unfold fX3_readItem fX3_readItem_0
      rw [kw.1, Option.bind_some, if_pos bi_f, kw.2.1, Option.bind_some, if_pos bi_f, kw.2.2, Option.bind_some, if_neg (by show ¬ ii c < ii 0; rw [ii_lt (by omega) (by omega) (by omega) (by omega)]; omega), a1, Option.bind_some]
      cases b <;> rfl
    · unfold fX8_readsItem fX8_readsItem_0
      have ec : 10 + (c : Int) - 10 = c := by omega
      simp (disch := omega) only [ht, ec, a2, if_true, if_false, Option.bind_some, Option.map_some, ii_lit, ll_lit, ii_neg, ll_neg, ii_add, ii_sub, ii_mul, ll_add, ll_sub, ll_mul, ii_le, ii_lt, ii_eq, ii_t, bi_0, bi_1, rd_z, wr_z, rr_z, rl_z, wl_z, tn_n, st_s, st_j, st_i, st_c, st_2, sl_s, sl_j, sl_i, sl_c, sl_1, Int.natCast_add, Int.cast_ofNat_Int, if_pos, if_neg, decide_eq_false_iff_not, decide_eq_true_eq, in_ll, ii_long, Nat.zero_add, Nat.mul_zero, reduceCtorEq]
  · refine ⟨false, σ, τ, A, e, ?_, ?_, h, fun hb => by cases hb⟩
    · unfold fX3_readItem fX3_readItem_0 fX3_kindOfWord fX3_kindOfWord_0
      have x0 : fX3_isWord 0 σ = some false := by rw [w0, decide_eq_false (by omega)]
      have x1 : fX3_isWord 1 σ = some false := by rw [w1, decide_eq_false (by omega)]
      have x4 : fX3_isWord 4 σ = some false := by rw [w4, decide_eq_false (by omega)]
      have x5 : fX3_isWord 5 σ = some false := by rw [w5, decide_eq_false (by omega)]
      have x6 : fX3_isWord 6 σ = some false := by rw [w6, decide_eq_false (by omega)]
      have x7 : fX3_isWord 7 σ = some false := by rw [w7, decide_eq_false (by omega)]
      have x8 : fX3_isWord 8 σ = some false := by rw [w8, decide_eq_false (by omega)]
      have x9 : fX3_isWord 9 σ = some false := by rw [w9, decide_eq_false (by omega)]
      rw [x0, Option.bind_some, if_pos bi_f, x1, Option.bind_some, if_pos bi_f, x4, Option.bind_some, if_pos bi_f, x5, Option.bind_some, if_pos bi_f, x6, Option.bind_some, if_pos bi_f, x7, Option.bind_some, if_pos bi_f, x8, Option.bind_some, if_pos bi_f, x9, Option.bind_some, if_pos bi_f, Option.bind_some, if_pos (by decide)]
    · unfold fX8_readsItem fX8_readsItem_0
      simp (disch := omega) only [ht, if_true, if_false, Option.bind_some, Option.map_some, ii_lit, ll_lit, ii_neg, ll_neg, ii_add, ii_sub, ii_mul, ll_add, ll_sub, ll_mul, ii_le, ii_lt, ii_eq, ii_t, bi_0, bi_1, rd_z, wr_z, rr_z, rl_z, wl_z, tn_n, st_s, st_j, st_i, st_c, st_2, sl_s, sl_j, sl_i, sl_c, sl_1, Int.natCast_add, Int.cast_ofNat_Int, if_pos, if_neg, decide_eq_false_iff_not, decide_eq_true_eq, in_ll, ii_long, Nat.zero_add, Nat.mul_zero, reduceCtorEq]
