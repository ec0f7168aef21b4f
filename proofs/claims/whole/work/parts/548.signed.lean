-- A SIGNED NUMBER, by both
theorem PQ.sgn0 {len : Nat} {y : Nat → Int} {σ0 τ0 : mm} {A : bdy} {σ τ : mm} {e : Nat} (h : PQ len y σ0 τ0 A e σ τ) (hv : PV len y e σ τ) {lo hi : Int} (h1 : -999 ≤ lo) (h2 : hi ≤ 999) (h3 : -999 ≤ hi) (h4 : lo ≤ 999) {g : Int} (hg : g = 0 ∨ g = 1) : ∃ (b : Bool) (σ' τ' : mm), fX3_seesSigned_22 (ii lo) (ii hi) (ii g) σ = some (b, σ') ∧ fX8_seesSigned_16 (ii lo) (ii hi) (ii (1 - 2 * g)) τ = some (b, τ') ∧ PQ len y σ0 τ0 A e σ' τ' ∧ (b = true → ∃ v : Int, σ'.1 3 0 5 = ii v ∧ τ'.1 32 0 33 = ii v ∧ lo ≤ v ∧ v ≤ hi) := by
  have sv : ts len y e = 0 ∨ ts len y e = 1 ∨ ts len y e = 2 ∨ ts len y e = 3 ∨ ts len y e = 4 ∨ ts len y e = 5 := so_v _
  have tn := tok_num (len := len) (y := y) (e := e)
  have tr := tok_r (len := len) (y := y) (e := e)
  have hq := h.2.2.1.2.1
  have ht := h.2.2.2.1.2.1
  have hx : ∀ v, (stI τ 32 0 33 v).1 32 0 31 = ii (tok len y e) := fun v => by rw [st_j _ _ (by decide)]; exact ht
  by_cases z2 : ts len y e = 2
  · obtain ⟨v1, v2⟩ := hv z2
    obtain ⟨n1, n2, n3⟩ := num_v h.2.1.2.2.2 z2
    generalize vmr y (tb len y e) (te len y e - tb len y e) = m at *
    generalize vcr y (tb len y e) (te len y e - tb len y e) = c at *
    obtain ⟨s, hs⟩ : ∃ s, s = (1 - 2 * g) * m := ⟨_, rfl⟩
    have hs' : s = if g = 0 then m else -m := by
      rcases hg with hg | hg <;> subst hg <;> rw [hs] <;> simp <;> omega
    obtain ⟨t, htt⟩ : ∃ t, t = if g = 0 then c else -c := ⟨_, rfl⟩
    refine ⟨decide (lo ≤ s ∧ s ≤ hi), stI σ 3 0 5 (ii t), stI τ 32 0 33 (ii s), ?_, ?_, (h.set _).set5 _, fun hb => ?_⟩
    · have st : fX3_seesSigned_22 (ii lo) (ii hi) (ii g) σ = fX3_seesSigned_49 (ii lo) (ii hi) (ii t) σ := by
        unfold fX3_seesSigned_22
        rw [hq, z2, if_pos (by decide), v1]
        rcases hg with hg | hg
        · subst hg
          rw [if_pos (by decide), htt, if_pos rfl]
        · subst hg
          rw [if_neg (by decide), htt, if_neg (by decide), ii_neg]
      rw [st]
      unfold fX3_seesSigned_49
      by_cases q : lo ≤ s ∧ s ≤ hi
      · rw [decide_eq_true q]
        have : t = s := by
          rw [htt, hs', n3]
          rw [hs'] at q
          split at q <;> (repeat' split) <;> omega
        subst this
        simp (disch := omega) only [if_true, if_false, Option.bind_some, Option.map_some, ii_lit, ll_lit, ii_neg, ll_neg, ii_add, ii_sub, ii_mul, ll_add, ll_sub, ll_mul, ii_le, ii_lt, ii_eq, ii_t, bi_0, bi_1, rd_z, wr_z, rr_z, rl_z, wl_z, tn_n, st_s, st_j, st_i, st_c, st_2, sl_s, sl_j, sl_i, sl_c, sl_1, Int.natCast_add, Int.cast_ofNat_Int, if_pos, if_neg, decide_eq_false_iff_not, decide_eq_true_eq, in_ll, ii_long, Nat.zero_add, Nat.mul_zero, reduceCtorEq]
      · rw [decide_eq_false q]
        have : t < lo ∨ (¬ t < lo ∧ hi < t) := by
          rw [htt, n3]
          rw [hs'] at q
          repeat' split
          all_goals (repeat' split at q)
          all_goals omega
        have tr2 : -1000 ≤ t ∧ t ≤ 1000 := by
          rw [htt, n3]
          repeat' split
          all_goals omega
        rcases this with p | p
        · simp (disch := omega) only [if_true, if_false, Option.bind_some, Option.map_some, ii_lit, ll_lit, ii_neg, ll_neg, ii_add, ii_sub, ii_mul, ll_add, ll_sub, ll_mul, ii_le, ii_lt, ii_eq, ii_t, bi_0, bi_1, rd_z, wr_z, rr_z, rl_z, wl_z, tn_n, st_s, st_j, st_i, st_c, st_2, sl_s, sl_j, sl_i, sl_c, sl_1, Int.natCast_add, Int.cast_ofNat_Int, if_pos, if_neg, decide_eq_false_iff_not, decide_eq_true_eq, in_ll, ii_long, Nat.zero_add, Nat.mul_zero, reduceCtorEq]
        · simp (disch := omega) only [if_true, if_false, Option.bind_some, Option.map_some, ii_lit, ll_lit, ii_neg, ll_neg, ii_add, ii_sub, ii_mul, ll_add, ll_sub, ll_mul, ii_le, ii_lt, ii_eq, ii_t, bi_0, bi_1, rd_z, wr_z, rr_z, rl_z, wl_z, tn_n, st_s, st_j, st_i, st_c, st_2, sl_s, sl_j, sl_i, sl_c, sl_1, Int.natCast_add, Int.cast_ofNat_Int, if_pos, if_neg, decide_eq_false_iff_not, decide_eq_true_eq, in_ll, ii_long, Nat.zero_add, Nat.mul_zero, reduceCtorEq]
    · unfold fX8_seesSigned_16 fX8_seesNumber fX8_seesNumber_0
      have e1 : (ii (1 - 2 * g)) * τ.1 32 0 32 = ii s := by rw [v2, ii_mul, hs]
      have sr : -9999 ≤ s ∧ s ≤ 9999 := by
        rw [hs']
        split <;> omega
      rw [e1, hx, st_s]
      by_cases m9 : 999 < m
      · have n1' : ¬ tok len y e = 1 := by rw [tn]; omega
        have q : ¬ (lo ≤ s ∧ s ≤ hi) := by
          rw [hs']
          split <;> omega
        rw [decide_eq_false q, if_neg (by show ¬ ii _ = ii 1; rw [ii_eq (by omega) (by omega) (by omega) (by omega)]; exact n1')]
      · have t1 : tok len y e = 1 := tn.mpr ⟨z2, by omega⟩
        rw [t1, if_pos (by decide)]
        by_cases q : lo ≤ s ∧ s ≤ hi
        · rw [decide_eq_true q]
          simp (disch := omega) only [if_true, if_false, Option.bind_some, Option.map_some, ii_lit, ll_lit, ii_neg, ll_neg, ii_add, ii_sub, ii_mul, ll_add, ll_sub, ll_mul, ii_le, ii_lt, ii_eq, ii_t, bi_0, bi_1, rd_z, wr_z, rr_z, rl_z, wl_z, tn_n, st_s, st_j, st_i, st_c, st_2, sl_s, sl_j, sl_i, sl_c, sl_1, Int.natCast_add, Int.cast_ofNat_Int, if_pos, if_neg, decide_eq_false_iff_not, decide_eq_true_eq, in_ll, ii_long, Nat.zero_add, Nat.mul_zero, reduceCtorEq]
        · rw [decide_eq_false q]
          simp (disch := omega) only [if_true, if_false, Option.bind_some, Option.map_some, ii_lit, ll_lit, ii_neg, ll_neg, ii_add, ii_sub, ii_mul, ll_add, ll_sub, ll_mul, ii_le, ii_lt, ii_eq, ii_t, bi_0, bi_1, rd_z, wr_z, rr_z, rl_z, wl_z, tn_n, st_s, st_j, st_i, st_c, st_2, sl_s, sl_j, sl_i, sl_c, sl_1, Int.natCast_add, Int.cast_ofNat_Int, if_pos, if_neg, decide_eq_false_iff_not, decide_eq_true_eq, in_ll, ii_long, Nat.zero_add, Nat.mul_zero, reduceCtorEq]
    · have q := of_decide_eq_true hb
      have : t = s := by
        rw [htt, hs', n3]
        rw [hs'] at q
        split at q <;> (repeat' split) <;> omega
      exact ⟨s, by rw [st_s, this], st_s _ _ _ _ _, q.1, q.2⟩
  · refine ⟨false, σ, stI τ 32 0 33 (ii (1 - 2 * g) * τ.1 32 0 32), ?_, ?_, h.set _, fun hb => by cases hb⟩
    · unfold fX3_seesSigned_22
      rw [hq, if_neg (by show ¬ ii _ = ii 2; rw [ii_eq (by omega) (by omega) (by omega) (by omega)]; exact z2)]
    · unfold fX8_seesSigned_16 fX8_seesNumber fX8_seesNumber_0
      rw [hx]
      have : ¬ tok len y e = 1 := by rw [tn]; omega
      rw [if_neg (by show ¬ ii _ = ii 1; rw [ii_eq (by omega) (by omega) (by omega) (by omega)]; exact this)]
theorem PQ.sgn {len : Nat} {y : Nat → Int} {σ0 τ0 : mm} {A : bdy} {σ τ : mm} {e : Nat} (h : PQ len y σ0 τ0 A e σ τ) (hv : PV len y e σ τ) {lo hi : Int} (h1 : -999 ≤ lo) (h2 : hi ≤ 999) (h3 : -999 ≤ hi) (h4 : lo ≤ 999) : ∃ (b : Bool) (σ' τ' : mm) (e' : Nat), fX3_seesSigned (ii lo) (ii hi) σ = some (b, σ') ∧ fX8_seesSigned (ii lo) (ii hi) τ = some (b, τ') ∧ PQ len y σ0 τ0 A e' σ' τ' ∧ e ≤ e' ∧ (b = true → ∃ v : Int, σ'.1 3 0 5 = ii v ∧ τ'.1 32 0 33 = ii v ∧ lo ≤ v ∧ v ≤ hi) := by
  have sv : ts len y e = 0 ∨ ts len y e = 1 ∨ ts len y e = 2 ∨ ts len y e = 3 ∨ ts len y e = 4 ∨ ts len y e = 5 := so_v _
  have tm := tok_min (len := len) (y := y) (e := e)
  have tr := tok_r (len := len) (y := y) (e := e)
  have hq := h.2.2.1.2.1
  have ht := h.2.2.2.1.2.1
  unfold fX3_seesSigned fX3_seesSigned_0 fX3_seesSigned_13 fX8_seesSigned fX8_seesSigned_0
  rw [hq, ht]
  by_cases z4 : ts len y e = 4
  · have t2 := tm.mpr z4
    obtain ⟨σ1, τ1, a1, a2, a3, a4, -⟩ := h.next
    obtain ⟨b, σ', τ', b1, b2, b3, b4⟩ := a3.sgn0 a4 h1 h2 h3 h4 (g := 1) (Or.inr rfl)
    have ter := te_r (y := y) h.2.1.2.2.2
    have tbr := tb_r (y := y) h.2.1.2.2.2
    refine ⟨b, σ', τ', te len y e, ?_, ?_, b3, by omega, b4⟩
    · rw [z4, if_pos (by decide), if_neg (by decide), a1, Option.bind_some]
      exact b1
    · rw [t2, if_pos (by decide), a2, Option.bind_some]
      exact b2
  · have t2 : ¬ tok len y e = 2 := fun h => z4 (tm.mp h)
    obtain ⟨b, σ', τ', b1, b2, b3, b4⟩ := h.sgn0 hv h1 h2 h3 h4 (g := 0) (Or.inl rfl)
    refine ⟨b, σ', τ', e, ?_, ?_, b3, Nat.le_refl _, b4⟩
    · rw [if_neg (by show ¬ ii _ = ii 4; rw [ii_eq (by omega) (by omega) (by omega) (by omega)]; exact z4), if_pos (by decide)]
      exact b1
    · rw [if_neg (by show ¬ ii _ = ii 2; rw [ii_eq (by omega) (by omega) (by omega) (by omega)]; exact t2)]
      exact b2
