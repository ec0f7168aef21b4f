-- ROWS: a part is changed, a row comes
theorem up1_at {α : Type} (f : Nat → α) (k : Nat) (v : α) (j : Nat) : up1 f k v j = if j = k then v else f j := rfl
theorem isM.part {τ : mm} {A : bdy} (hM : isM τ A) {r w : Nat} (hr : r < A.R) (hw : w < 7) (v : Int) : isM (stI τ 45 0 (7 * r + w) (ii v)) (A.setR A.R r (up1 (A.rw r) w v)) := by
  obtain ⟨h0, h1, h2, h3, h4, h5, h6⟩ := hM
  refine ⟨h0, ?_, ?_, ?_, ?_, ?_, ?_⟩
  · rw [st_c _ _ _ _ (by decide)]; exact h1
  · rw [st_c _ _ _ _ (by decide)]; exact h2
  · rw [st_c _ _ _ _ (by decide)]; exact h3
  · rw [st_c _ _ _ _ (by decide)]; exact h4
  · intro r' w' hr' hw'
    show (stI τ 45 0 (7 * r + w) (ii v)).1 45 0 (7 * r' + w') = ii (up1 A.rw r (up1 (A.rw r) w v) r' w')
    by_cases hq : r' = r
    · subst hq
      rw [up1_same]
      by_cases hww : w' = w
      · subst hww
        rw [st_s, up1_same]
      · rw [st_j _ _ (by omega), up1_ne _ _ hww]
        exact h5 r' w' hr hw'
    · rw [st_j _ _ (by omega), up1_ne _ _ hq]
      exact h5 r' w' hr' hw'
  · rw [st_c _ _ _ _ (by decide)]; exact h6
theorem isC.part {σ : mm} {b : Nat} {A : bdy} (hC : isC σ b A) {r w : Nat} (hr : r < A.R) (hw : w < 3) (v : Int) : isC (stI σ 4 (8 * b + r) w (ii v)) b (A.setR A.R r (up1 (A.rw r) w v)) := by
  obtain ⟨h0, h1, h2, h3, h4, h5, h6, h7⟩ := hC
  refine ⟨h0, ?_, ?_, ?_, ?_, ?_, ?_, ?_⟩
  · rw [st_c _ _ _ _ (by decide)]; exact h1
  · rw [st_c _ _ _ _ (by decide)]; exact h2
  · rw [st_c _ _ _ _ (by decide)]; exact h3
  · rw [st_c _ _ _ _ (by decide)]; exact h4
  · intro r' w' hr' hw'
    show (stI σ 4 (8 * b + r) w (ii v)).1 4 (8 * b + r') w' = ii (up1 A.rw r (up1 (A.rw r) w v) r' w')
    by_cases hq : r' = r
    · subst hq
      rw [up1_same]
      by_cases hww : w' = w
      · subst hww
        rw [st_s, up1_same]
      · rw [st_j _ _ (by omega), up1_ne _ _ hww]
        exact h5 r' w' hr hw'
    · rw [st_i _ _ _ (by omega), up1_ne _ _ hq]
      exact h5 r' w' hr' hw'
  · intro r' l hr' hl
    rw [st_c _ _ _ _ (by decide)]
    show _ = ii (up1 A.rw r (up1 (A.rw r) w v) r' (3 + l))
    by_cases hq : r' = r
    · subst hq
      rw [up1_same, up1_ne _ _ (by omega)]
      exact h6 r' l hr hl
    · rw [up1_ne _ _ hq]
      exact h6 r' l hr' hl
  · rw [st_c _ _ _ _ (by decide)]; exact h7
theorem isC.num {σ : mm} {b : Nat} {A : bdy} (hC : isC σ b A) {r w : Nat} (hr : r < A.R) (hw : w < 4) (v : Int) : isC (stI σ 10 (8 * b + r) w (ii v)) b (A.setR A.R r (up1 (A.rw r) (3 + w) v)) := by
  obtain ⟨h0, h1, h2, h3, h4, h5, h6, h7⟩ := hC
  refine ⟨h0, ?_, ?_, ?_, ?_, ?_, ?_, ?_⟩
  · rw [st_c _ _ _ _ (by decide)]; exact h1
  · rw [st_c _ _ _ _ (by decide)]; exact h2
  · rw [st_c _ _ _ _ (by decide)]; exact h3
  · rw [st_c _ _ _ _ (by decide)]; exact h4
  · intro r' w' hr' hw'
    rw [st_c _ _ _ _ (by decide)]
    show _ = ii (up1 A.rw r (up1 (A.rw r) (3 + w) v) r' w')
    by_cases hq : r' = r
    · subst hq
      rw [up1_same, up1_ne _ _ (by omega)]
      exact h5 r' w' hr hw'
    · rw [up1_ne _ _ hq]
      exact h5 r' w' hr' hw'
  · intro r' l hr' hl
    show (stI σ 10 (8 * b + r) w (ii v)).1 10 (8 * b + r') l = ii (up1 A.rw r (up1 (A.rw r) (3 + w) v) r' (3 + l))
    by_cases hq : r' = r
    · subst hq
      rw [up1_same]
      by_cases hww : l = w
      · subst hww
        rw [st_s, up1_same]
      · rw [st_j _ _ (by omega), up1_ne _ _ (by omega)]
        exact h6 r' l hr hl
    · rw [st_i _ _ _ (by omega), up1_ne _ _ hq]
      exact h6 r' l hr' hl
  · rw [st_c _ _ _ _ (by decide)]; exact h7
theorem okb.part {A : bdy} (hA : okb A) {r : Nat} (q : Nat → Int) (hq : okr q) : okb (A.setR A.R r q) := by
  obtain ⟨a, b, c, d, e, f⟩ := hA
  refine ⟨a, b, c, ?_, e, f⟩
  intro r' hr'
  show okr (up1 A.rw r q r')
  unfold up1
  split
  · exact hq
  · exact d r' hr'
theorem okb.add {A : bdy} (hA : okb A) (hR : A.R < 8) (q : Nat → Int) (hq : okr q) : okb (A.setR (A.R + 1) A.R q) := by
  obtain ⟨a, b, c, d, e, f⟩ := hA
  refine ⟨a, hR, c, ?_, e, f⟩
  intro r' hr'
  have hr' : r' < A.R + 1 := hr'
  show okr (up1 A.rw A.R q r')
  unfold up1
  split
  · exact hq
  · exact d r' (by omega)
theorem okr_0 {k b w : Int} (h1 : 0 ≤ k ∧ k ≤ 5) (h2 : -999 ≤ b ∧ b ≤ 999) (h3 : 1 ≤ w ∧ w ≤ 99) : okr (rw0 k b w) := by
  refine ⟨h1, h2, h3, ?_⟩
  intro l hl
  unfold rw0
  rw [if_neg (by omega), if_neg (by omega), if_neg (by omega)]
  decide
theorem okb.drop {A : bdy} (hA : okb A) {R : Nat} (h : R ≤ A.R) : okb (A.n, R, A.lo, A.hi, A.rw, A.ve) := by
  obtain ⟨a, b, c, d, e, f⟩ := hA
  exact ⟨a, Nat.le_trans h b, c, fun r hr => d r (Nat.lt_of_lt_of_le hr h), e, f⟩
theorem C_begin (σ : mm) (i : Nat) (x y z : Int32) : ∃ σ', fX4_begin i x y z σ = some σ' ∧ (σ'.1 4 i = up1 (up1 (up1 (σ.1 4 i) 0 x) 1 y) 2 z) ∧ (∀ l, l < 4 → σ'.1 10 i l = ii 0) ∧ (∀ c, c ≠ 4 → c ≠ 10 → σ'.1 c = σ.1 c) ∧ (∀ j, j ≠ i → σ'.1 4 j = σ.1 4 j ∧ σ'.1 10 j = σ.1 10 j) ∧ σ'.2 = σ.2 := by
  unfold fX4_begin fX4_begin_0
  simp only [Option.bind_some]
  refine lp_j (fun k s => s.1 = ii k ∧ (s.2.1 4 i = up1 (up1 (up1 (σ.1 4 i) 0 x) 1 y) 2 z) ∧ (∀ l, l < k → s.2.1 10 i l = ii 0) ∧ (∀ c, c ≠ 4 → c ≠ 10 → s.2.1 c = σ.1 c) ∧ (∀ j, j ≠ i → s.2.1 4 j = σ.1 4 j ∧ s.2.1 10 j = σ.1 10 j) ∧ s.2.2 = σ.2) _ 4 ⟨rfl, ?_, fun l hl => by omega, ?_, ?_, rfl⟩ ?_ ?_
  · rw [g_cell, g_cell, g_cell]
  · intro c h4 h10
    rw [st_c _ _ _ _ h4, st_c _ _ _ _ h4, st_c _ _ _ _ h4]
  · intro j hj
    rw [st_i _ _ _ hj, st_i _ _ _ hj, st_i _ _ _ hj, st_c _ _ _ _ (by decide), st_c _ _ _ _ (by decide), st_c _ _ _ _ (by decide)]
    exact ⟨rfl, rfl⟩
  · rintro k ⟨a, s⟩ hk ⟨h1, h2, h3, h4, h5, h6⟩
    have h1 : a = ii k := h1
    subst h1
    refine ⟨(ii ((k + 1 : Nat)), stI s 10 i k (ii 0)), ?_, rfl, ?_, ?_, ?_, ?_, h6⟩
    · simp (disch := omega) only [fX4_begin_18_L, fX4_begin_18, if_true, if_false, Option.bind_some, Option.map_some, ii_lit, ll_lit, ii_neg, ll_neg, ii_add, ii_sub, ii_mul, ll_add, ll_sub, ll_mul, ii_le, ii_lt, ii_eq, ii_t, bi_0, bi_1, rd_z, wr_z, rr_z, rl_z, wl_z, tn_n, st_s, st_j, st_i, st_c, st_2, sl_s, sl_j, sl_i, sl_c, sl_1, Int.natCast_add, Int.cast_ofNat_Int, if_pos, if_neg]
    · show (stI s 10 i k (ii 0)).1 4 i = _
      rw [st_c _ _ _ _ (by decide)]
      exact h2
    · intro l hl
      show (stI s 10 i k (ii 0)).1 10 i l = _
      by_cases hlk : l = k
      · subst hlk
        rw [st_s]
      · rw [st_j _ _ hlk]
        exact h3 l (by omega)
    · intro c hc4 hc10
      show (stI s 10 i k (ii 0)).1 c = _
      rw [st_c _ _ _ _ hc10]
      exact h4 c hc4 hc10
    · intro j hj
      show (stI s 10 i k (ii 0)).1 4 j = _ ∧ (stI s 10 i k (ii 0)).1 10 j = _
      rw [st_c _ _ _ _ (by decide), st_i _ _ _ hj]
      exact h5 j hj
  · rintro ⟨a, s⟩ ⟨h1, h2, h3, h4, h5, h6⟩
    have h1 : a = ii 4 := h1
    subst h1
    refine ⟨s, ?_, h2, h3, h4, h5, h6⟩
    simp (disch := omega) only [fX4_begin_18_L, fX4_begin_18, if_true, if_false, Option.bind_some, Option.map_some, ii_lit, ll_lit, ii_neg, ll_neg, ii_add, ii_sub, ii_mul, ll_add, ll_sub, ll_mul, ii_le, ii_lt, ii_eq, ii_t, bi_0, bi_1, rd_z, wr_z, rr_z, rl_z, wl_z, tn_n, st_s, st_j, st_i, st_c, st_2, sl_s, sl_j, sl_i, sl_c, sl_1, Int.natCast_add, Int.cast_ofNat_Int, if_pos, if_neg]
theorem C_addRow {σ : mm} {b : Nat} {A : bdy} (hC : isC σ b A) (hR : A.R < 8) (k bo w : Int) : ∃ σ', fX0_addRow b (ii k) (ii bo) (ii w) σ = some (8 * b + A.R, σ') ∧ isC σ' b (A.setR (A.R + 1) A.R (rw0 k bo w)) ∧ Fb b σ σ' := by
  obtain ⟨⟨hn4, hR8⟩, h1, h2, h3, h4, h5, h6, h7⟩ := hC
  obtain ⟨s, e, g1, g2, g3, g4, g5⟩ := C_begin σ (8 * b + A.R) (ii k) (ii bo) (ii w)
  have e0 := g3 0 (by decide) (by decide)
  refine ⟨stI s 0 b 4 (ii ((A.R + 1 : Nat))), ?_, ?_, ?_⟩
  · unfold fX0_addRow fX0_addRow_0
    simp (disch := omega) only [h2, e, e0, if_true, if_false, Option.bind_some, Option.map_some, ii_lit, ll_lit, ii_neg, ll_neg, ii_add, ii_sub, ii_mul, ll_add, ll_sub, ll_mul, ii_le, ii_lt, ii_eq, ii_t, bi_0, bi_1, rd_z, wr_z, rr_z, rl_z, wl_z, tn_n, st_s, st_j, st_i, st_c, st_2, sl_s, sl_j, sl_i, sl_c, sl_1, Int.natCast_add, Int.cast_ofNat_Int, if_pos, if_neg]
  · refine ⟨⟨hn4, hR⟩, ?_, ?_, ?_, ?_, ?_, ?_, ?_⟩
    · rw [st_j _ _ (by decide), e0]; exact h1
    · rw [st_s]; rfl
    · rw [st_c _ _ _ _ (by decide), g3 8 (by decide) (by decide)]; exact h3
    · rw [st_c _ _ _ _ (by decide), g3 9 (by decide) (by decide)]; exact h4
    · intro r w' hr hw
      have hr : r < A.R + 1 := hr
      rw [st_c _ _ _ _ (by decide)]
      show _ = ii (up1 A.rw A.R (rw0 k bo w) r w')
      by_cases hq : r = A.R
      · subst hq
        rw [g1, up1_same]
        have : w' = 0 ∨ w' = 1 ∨ w' = 2 := by omega
        rcases this with rfl | rfl | rfl <;> rfl
      · rw [(g4 _ (by omega)).1, up1_ne _ _ hq]
        exact h5 r w' (by omega) hw
    · intro r l hr hl
      have hr : r < A.R + 1 := hr
      rw [st_c _ _ _ _ (by decide)]
      show _ = ii (up1 A.rw A.R (rw0 k bo w) r (3 + l))
      by_cases hq : r = A.R
      · subst hq
        rw [g2 l hl, up1_same]
        unfold rw0
        rw [if_neg (by omega), if_neg (by omega), if_neg (by omega)]
      · rw [(g4 _ (by omega)).2, up1_ne _ _ hq]
        exact h6 r l (by omega) hl
    · intro v l hv hl
      rw [st_c _ _ _ _ (by decide), g3 11 (by decide) (by decide)]
      exact h7 v l hv hl
  · refine Fb.sI (σ' := s) ⟨?_, g5, ?_, ?_, ?_⟩ (Or.inl ⟨by omega, rfl⟩)
    · intro c hc
      refine g3 c ?_ ?_ <;> (rintro rfl; exact hc (by decide))
    · intro i _
      rw [e0, g3 8 (by decide) (by decide), g3 9 (by decide) (by decide)]
      exact ⟨rfl, rfl, rfl⟩
    · intro i hi
      exact g4 i (hi A.R hR)
    · intro i _
      rw [g3 11 (by decide) (by decide)]
theorem M_adds {τ : mm} {A : bdy} (hM : isM τ A) (hR : A.R < 8) (k bo w : Int) : ∃ τ', fX8_adds (ii k) (ii bo) (ii w) τ = some τ' ∧ isM τ' (A.setR (A.R + 1) A.R (rw0 k bo w)) ∧ Fr [45] [4] τ τ' := by
  obtain ⟨⟨hn4, hR8⟩, h1, h2, h3, h4, h5, h6⟩ := hM
  unfold fX8_adds fX8_adds_0
  refine lp_j (fun j s => s.1 = ii j ∧ (∀ i, i < 7 * A.R → s.2.1 45 0 i = τ.1 45 0 i) ∧ (∀ i, i < j → s.2.1 45 0 (7 * A.R + i) = ii 0) ∧ Fr [45] [] τ s.2) _ 7 ⟨rfl, fun _ _ => rfl, fun i hi => by omega, Fr.rf _ _ _⟩ ?_ ?_
  · rintro j ⟨a, s⟩ hj ⟨g1, g2, g3, g4⟩
    have g1 : a = ii j := g1
    subst g1
    have e2 : s.1 32 0 4 = ii A.R := (g4.2.2 4 (by decide)).trans h2
    refine ⟨(ii ((j + 1 : Nat)), stI s 45 0 (7 * A.R + j) (ii 0)), ?_, rfl, ?_, ?_, g4.sI (by decide) (by decide)⟩
    · simp (disch := omega) only [fX8_adds_3_L, fX8_adds_3, e2, show (7 * (A.R : Int) + (j : Int)).toNat = 7 * A.R + j by omega, if_true, if_false, Option.bind_some, Option.map_some, ii_lit, ll_lit, ii_neg, ll_neg, ii_add, ii_sub, ii_mul, ll_add, ll_sub, ll_mul, ii_le, ii_lt, ii_eq, ii_t, bi_0, bi_1, rd_z, wr_z, rr_z, rl_z, wl_z, tn_n, st_s, st_j, st_i, st_c, st_2, sl_s, sl_j, sl_i, sl_c, sl_1, Int.natCast_add, Int.cast_ofNat_Int, if_pos, if_neg]
    · intro i hi
      show (stI s 45 0 (7 * A.R + j) (ii 0)).1 45 0 i = _
      rw [st_j _ _ (by omega)]
      exact g2 i hi
    · intro i hi
      show (stI s 45 0 (7 * A.R + j) (ii 0)).1 45 0 (7 * A.R + i) = _
      by_cases hij : i = j
      · subst hij
        rw [st_s]
      · rw [st_j _ _ (by omega)]
        exact g3 i (by omega)
  · rintro ⟨a, s⟩ ⟨g1, g2, g3, g4⟩
    have g1 : a = ii 7 := g1
    subst g1
    have e2 : s.1 32 0 4 = ii A.R := (g4.2.2 4 (by decide)).trans h2
    have e1 : s.1 32 0 1 = ii A.n := (g4.2.2 1 (by decide)).trans h1
    refine ⟨stI (stI (stI (stI s 45 0 (7 * A.R) (ii k)) 45 0 (7 * A.R + 1) (ii bo)) 45 0 (7 * A.R + 2) (ii w)) 32 0 4 (ii ((A.R + 1 : Nat))), ?_, ?_, ((((g4.mono (by decide) (by decide)).sI (by decide) (by decide)).sI (by decide) (by decide)).sI (by decide) (by decide)).sF (by decide)⟩
    · simp (disch := omega) only [fX8_adds_3_L, fX8_adds_3, e2, show (7 * (A.R : Int)).toNat = 7 * A.R by omega, show (7 * (A.R : Int) + 1).toNat = 7 * A.R + 1 by omega, show (7 * (A.R : Int) + 2).toNat = 7 * A.R + 2 by omega, if_true, if_false, Option.bind_some, Option.map_some, ii_lit, ll_lit, ii_neg, ll_neg, ii_add, ii_sub, ii_mul, ll_add, ll_sub, ll_mul, ii_le, ii_lt, ii_eq, ii_t, bi_0, bi_1, rd_z, wr_z, rr_z, rl_z, wl_z, tn_n, st_s, st_j, st_i, st_c, st_2, sl_s, sl_j, sl_i, sl_c, sl_1, Int.natCast_add, Int.cast_ofNat_Int, if_pos, if_neg]
    · refine ⟨⟨hn4, hR⟩, ?_, ?_, ?_, ?_, ?_, ?_⟩
      · rw [st_j _ _ (by decide), st_c _ _ _ _ (by decide), st_c _ _ _ _ (by decide), st_c _ _ _ _ (by decide)]; exact e1
      · rw [st_s]; rfl
      · rw [st_c _ _ _ _ (by decide), st_c _ _ _ _ (by decide), st_c _ _ _ _ (by decide), st_c _ _ _ _ (by decide), g4.1 42 (by decide) (by decide)]; exact h3
      · rw [st_c _ _ _ _ (by decide), st_c _ _ _ _ (by decide), st_c _ _ _ _ (by decide), st_c _ _ _ _ (by decide), g4.1 43 (by decide) (by decide)]; exact h4
      · intro r w' hr hw
        have hr : r < A.R + 1 := hr
        rw [st_c _ _ _ _ (by decide)]
        show _ = ii (up1 A.rw A.R (rw0 k bo w) r w')
        by_cases hq : r = A.R
        · subst hq
          rw [up1_same]
          unfold rw0
          have : w' = 0 ∨ w' = 1 ∨ w' = 2 ∨ 3 ≤ w' := by omega
          rcases this with rfl | rfl | rfl | hw3
          · rw [if_pos rfl, st_j _ _ (by omega), st_j _ _ (by omega), Nat.add_zero, st_s]
          · rw [if_neg (by decide), if_pos rfl, st_j _ _ (by omega), st_s]
          · rw [if_neg (by decide), if_neg (by decide), if_pos rfl, st_s]
          · rw [if_neg (by omega), if_neg (by omega), if_neg (by omega), st_j _ _ (by omega), st_j _ _ (by omega), st_j _ _ (by omega)]
            exact g3 w' hw
        · rw [up1_ne _ _ hq, st_j _ _ (by omega), st_j _ _ (by omega), st_j _ _ (by omega), g2 _ (by omega)]
          exact h5 r w' (by omega) hw
      · rw [st_c _ _ _ _ (by decide), st_c _ _ _ _ (by decide), st_c _ _ _ _ (by decide), st_c _ _ _ _ (by decide), g4.1 46 (by decide) (by decide)]; exact h6
