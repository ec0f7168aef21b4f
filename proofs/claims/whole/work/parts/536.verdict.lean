-- the verdict of a cell, its widest letter, its middle
theorem vrd_v (A : bdy) (c : bx) (k : Nat) : vrd A c k = -1 ∨ vrd A c k = -2 ∨ (0 ≤ vrd A c k ∧ vrd A c k < k) := by
  induction k with
  | zero => exact Or.inl rfl
  | succ k ih =>
    rw [vrd]
    split
    · omega
    · split
      · omega
      · split <;> omega
theorem vrd_stop {A : bdy} {c : bx} {k R : Nat} (hk : k ≤ R) (h : 0 ≤ vrd A c k) : vrd A c R = vrd A c k := by
  induction R with
  | zero =>
    have : k = 0 := by omega
    subst this
    rfl
  | succ R ih =>
    by_cases e : k = R + 1
    · subst e
      rfl
    · have := ih (by omega)
      rw [vrd, if_pos (by omega), this]
theorem vrd_neg {A : bdy} {c : bx} {k : Nat} (h : vrd A c k < 0) : (∀ r, r < k → ddr A c r = false) ∧ (vrd A c k = -1 ↔ ∀ r, r < k → whr A c r = true) := by
  induction k with
  | zero => exact ⟨fun r hr => by omega, ⟨fun _ r hr => by omega, fun _ => rfl⟩⟩
  | succ k ih =>
    have hk : vrd A c k < 0 := by
      rw [vrd] at h
      split at h
      · omega
      · rename_i q
        omega
    obtain ⟨i1, i2⟩ := ih hk
    have hv := vrd_v A c k
    rw [vrd, if_neg (by omega)] at h ⊢
    by_cases q : ddr A c k = true
    · rw [if_pos q] at h
      omega
    · rw [if_neg q] at h ⊢
      refine ⟨fun r hr => ?_, ?_⟩
      · by_cases e : r = k
        · subst e
          simpa using q
        · exact i1 r (by omega)
      · by_cases q2 : whr A c k = true
        · rw [if_pos q2, i2]
          constructor
          · intro hh r hr
            by_cases e : r = k
            · subst e
              exact q2
            · exact hh r (by omega)
          · intro hh r hr
            exact hh r (by omega)
        · rw [if_neg q2]
          constructor
          · intro hh
            omega
          · intro hh
            exact absurd (hh k (by omega)) q2
theorem C_verdict {σ : mm} {A : bdy} (hC : isC σ 0 A) (hA : okb A) {c : bx} (hc : okc c) (h15 : ∀ l, l < A.n → σ.1 15 0 l = ii (c.1 l)) (h16 : ∀ l, l < A.n → σ.1 16 0 l = ii (c.2 l)) : fX6_verdictOf 0 σ = some (ii (vrd A c A.R)) := by
  have n1 := hC.2.1
  have r0 := hC.2.2.1
  have hR8 := hA.2.1
  obtain ⟨z1, z2, z3⟩ := hC.z
  have key : ∃ x, lp (fX6_verdictOf_4_L 0 σ) (ii (-1), ii 0) = some x ∧ x = ii (vrd A c A.R) := by
    refine lp_i (fun k z => z = (ii (vrd A c k), ii k) ∧ vrd A c k < 0) _ A.R ⟨rfl, by show (-1 : Int) < 0; decide⟩ ?_ ?_
    · rintro k z hk ⟨rfl, hv⟩
      obtain ⟨⟨r1, r2⟩, ⟨r3, r4⟩, ⟨r5, r6⟩, -⟩ := hA.2.2.2.1 k hk
      have lm := lm_r hA hc hk
      have e1 := C_least_15_16 hC (c := c) h16 h15 hk hA
      have e2 := C_most_15_16 hC (c := c) h15 h16 hk hA
      simp only [Nat.mul_zero, Nat.zero_add] at e1 e2
      have e3 := C_isDead (σ := σ) (i := k) (z1 k 0 hk (by decide)) (z1 k 1 hk (by decide)) (z1 k 2 hk (by decide)) r1 r2 r5 r6 lm.1 lm.2.1 ⟨r3, r4⟩
      have e4 := C_isWhole (σ := σ) (i := k) (z1 k 0 hk (by decide)) (z1 k 1 hk (by decide)) (z1 k 2 hk (by decide)) r1 r2 r5 r6 lm.1 lm.2.1 ⟨r3, r4⟩
      have e3' : fX4_isDead k (ii (lsc A c k)) (ii (msc A c k)) σ = some (ddr A c k) := e3
      have e4' : fX4_isWhole k (ii (lsc A c k)) (ii (msc A c k)) σ = some (whr A c k) := e4
      have hvv := vrd_v A c k
      by_cases q : ddr A c k = true
      · right
        have ev : vrd A c (k + 1) = k := by rw [vrd, if_neg (by omega), if_pos q]
        have es := vrd_stop (A := A) (c := c) (k := k + 1) (R := A.R) (by omega) (by omega)
        refine ⟨ii k, ?_, by rw [es, ev]⟩
        simp (disch := omega) only [fX6_verdictOf_4_L, fX6_verdictOf_4, r0, n1, e1, e2, e3', q, if_true, if_false, Option.bind_some, Option.map_some, ii_lit, ll_lit, ii_neg, ll_neg, ii_add, ii_sub, ii_mul, ll_add, ll_sub, ll_mul, ii_le, ii_lt, ii_eq, ii_t, bi_0, bi_1, rd_z, wr_z, rr_z, rl_z, wl_z, tn_n, st_s, st_j, st_i, st_c, st_2, sl_s, sl_j, sl_i, sl_c, sl_1, Int.natCast_add, Int.cast_ofNat_Int, if_pos, if_neg, decide_eq_false_iff_not, decide_eq_true_eq, in_ll, ii_long, Nat.zero_add, Nat.mul_zero, reduceCtorEq]
      · left
        by_cases q2 : whr A c k = true
        · have ev : vrd A c (k + 1) = vrd A c k := by rw [vrd, if_neg (by omega), if_neg q, if_pos q2]
          refine ⟨(ii (vrd A c (k + 1)), ii ((k + 1 : Nat))), ?_, rfl, by omega⟩
          rw [ev]
          simp only [Bool.not_eq_true] at q
          simp (disch := omega) only [fX6_verdictOf_4_L, fX6_verdictOf_4, fX6_verdictOf_87, r0, n1, e1, e2, e3', e4', q, q2, if_true, if_false, Option.bind_some, Option.map_some, ii_lit, ll_lit, ii_neg, ll_neg, ii_add, ii_sub, ii_mul, ll_add, ll_sub, ll_mul, ii_le, ii_lt, ii_eq, ii_t, bi_0, bi_1, rd_z, wr_z, rr_z, rl_z, wl_z, tn_n, st_s, st_j, st_i, st_c, st_2, sl_s, sl_j, sl_i, sl_c, sl_1, Int.natCast_add, Int.cast_ofNat_Int, if_pos, if_neg, decide_eq_false_iff_not, decide_eq_true_eq, in_ll, ii_long, Nat.zero_add, Nat.mul_zero, reduceCtorEq]
        · have ev : vrd A c (k + 1) = -2 := by rw [vrd, if_neg (by omega), if_neg q, if_neg q2]
          refine ⟨(ii (vrd A c (k + 1)), ii ((k + 1 : Nat))), ?_, rfl, by omega⟩
          rw [ev]
          simp only [Bool.not_eq_true] at q q2
          simp (disch := omega) only [fX6_verdictOf_4_L, fX6_verdictOf_4, fX6_verdictOf_87, r0, n1, e1, e2, e3', e4', q, q2, if_true, if_false, Option.bind_some, Option.map_some, ii_lit, ll_lit, ii_neg, ll_neg, ii_add, ii_sub, ii_mul, ll_add, ll_sub, ll_mul, ii_le, ii_lt, ii_eq, ii_t, bi_0, bi_1, rd_z, wr_z, rr_z, rl_z, wl_z, tn_n, st_s, st_j, st_i, st_c, st_2, sl_s, sl_j, sl_i, sl_c, sl_1, Int.natCast_add, Int.cast_ofNat_Int, if_pos, if_neg, decide_eq_false_iff_not, decide_eq_true_eq, in_ll, ii_long, Nat.zero_add, Nat.mul_zero, reduceCtorEq]
    · rintro z ⟨rfl, hv⟩
      refine ⟨ii (vrd A c A.R), ?_, rfl⟩
      simp (disch := omega) only [fX6_verdictOf_4_L, fX6_verdictOf_4, r0, if_true, if_false, Option.bind_some, Option.map_some, ii_lit, ll_lit, ii_neg, ll_neg, ii_add, ii_sub, ii_mul, ll_add, ll_sub, ll_mul, ii_le, ii_lt, ii_eq, ii_t, bi_0, bi_1, rd_z, wr_z, rr_z, rl_z, wl_z, tn_n, st_s, st_j, st_i, st_c, st_2, sl_s, sl_j, sl_i, sl_c, sl_1, Int.natCast_add, Int.cast_ofNat_Int, if_pos, if_neg, decide_eq_false_iff_not, decide_eq_true_eq, in_ll, ii_long, Nat.zero_add, Nat.mul_zero, reduceCtorEq]
  obtain ⟨x, e, rfl⟩ := key
  unfold fX6_verdictOf fX6_verdictOf_0
  exact e
theorem M_deadRow {τ : mm} {A : bdy} (hM : isM τ A) (hA : okb A) {c : bx} (hc : okc c) {d : Nat} (hd : d ≤ 48) (hE : atE τ d c) : fX8_deadRow (ii d) τ = some (ii (if 0 ≤ vrd A c A.R then vrd A c A.R else -1)) := by
  have r0 := hM.2.2.1
  have hR8 := hA.2.1
  have key : ∃ x, lp (fX8_deadRow_2_L (ii d) τ) (ii 0) = some x ∧ x = ii (if 0 ≤ vrd A c A.R then vrd A c A.R else -1) := by
    refine lp_i (fun k z => z = ii k ∧ vrd A c k < 0) _ A.R ⟨rfl, by show (-1 : Int) < 0; decide⟩ ?_ ?_
    · rintro k z hk ⟨rfl, hv⟩
      have lm := lm_r hA hc hk
      have e1 := M_least hM hA hE hd hk
      have e2 := M_most hM hA hE hd hk
      have e3 := M_mayHold hM hA hk lm.1 lm.2.1 lm.2.2
      have e3' : fX8_mayHold (ii k) (ii (lsc A c k)) (ii (msc A c k)) τ = some (!ddr A c k) := e3
      have hvv := vrd_v A c k
      by_cases q : ddr A c k = true
      · right
        have ev : vrd A c (k + 1) = k := by rw [vrd, if_neg (by omega), if_pos q]
        have es := vrd_stop (A := A) (c := c) (k := k + 1) (R := A.R) (by omega) (by omega)
        refine ⟨ii k, ?_, by rw [if_pos (by omega), es, ev]⟩
        rw [q] at e3'
        simp (disch := omega) only [fX8_deadRow_2_L, fX8_deadRow_2, r0, e1, e2, e3', Bool.not_true, if_true, if_false, Option.bind_some, Option.map_some, ii_lit, ll_lit, ii_neg, ll_neg, ii_add, ii_sub, ii_mul, ll_add, ll_sub, ll_mul, ii_le, ii_lt, ii_eq, ii_t, bi_0, bi_1, rd_z, wr_z, rr_z, rl_z, wl_z, tn_n, st_s, st_j, st_i, st_c, st_2, sl_s, sl_j, sl_i, sl_c, sl_1, Int.natCast_add, Int.cast_ofNat_Int, if_pos, if_neg, decide_eq_false_iff_not, decide_eq_true_eq, in_ll, ii_long, Nat.zero_add, Nat.mul_zero, reduceCtorEq]
      · left
        refine ⟨ii ((k + 1 : Nat)), ?_, rfl, ?_⟩
        · simp only [Bool.not_eq_true] at q
          rw [q] at e3'
          simp (disch := omega) only [fX8_deadRow_2_L, fX8_deadRow_2, r0, e1, e2, e3', Bool.not_false, if_true, if_false, Option.bind_some, Option.map_some, ii_lit, ll_lit, ii_neg, ll_neg, ii_add, ii_sub, ii_mul, ll_add, ll_sub, ll_mul, ii_le, ii_lt, ii_eq, ii_t, bi_0, bi_1, rd_z, wr_z, rr_z, rl_z, wl_z, tn_n, st_s, st_j, st_i, st_c, st_2, sl_s, sl_j, sl_i, sl_c, sl_1, Int.natCast_add, Int.cast_ofNat_Int, if_pos, if_neg, decide_eq_false_iff_not, decide_eq_true_eq, in_ll, ii_long, Nat.zero_add, Nat.mul_zero, reduceCtorEq]
        · rw [vrd, if_neg (by omega), if_neg q]
          split <;> omega
    · rintro z ⟨rfl, hv⟩
      refine ⟨ii (-1), ?_, by rw [if_neg (by omega)]⟩
      simp (disch := omega) only [fX8_deadRow_2_L, fX8_deadRow_2, r0, if_true, if_false, Option.bind_some, Option.map_some, ii_lit, ll_lit, ii_neg, ll_neg, ii_add, ii_sub, ii_mul, ll_add, ll_sub, ll_mul, ii_le, ii_lt, ii_eq, ii_t, bi_0, bi_1, rd_z, wr_z, rr_z, rl_z, wl_z, tn_n, st_s, st_j, st_i, st_c, st_2, sl_s, sl_j, sl_i, sl_c, sl_1, Int.natCast_add, Int.cast_ofNat_Int, if_pos, if_neg, decide_eq_false_iff_not, decide_eq_true_eq, in_ll, ii_long, Nat.zero_add, Nat.mul_zero, reduceCtorEq]
  obtain ⟨x, e, rfl⟩ := key
  unfold fX8_deadRow fX8_deadRow_0
  exact e
theorem M_isWholeT {τ : mm} {A : bdy} (hM : isM τ A) (hA : okb A) {c : bx} (hc : okc c) {d : Nat} (hd : d ≤ 48) (hE : atE τ d c) (hn : vrd A c A.R < 0) : fX8_isWhole (ii d) τ = some (decide (vrd A c A.R = -1)) := by
  have r0 := hM.2.2.1
  have hR8 := hA.2.1
  have key : ∃ x, lp (fX8_isWhole_4_L (ii d) τ) (ii 1, ii 0) = some x ∧ x = decide (vrd A c A.R = -1) := by
    refine lp_j (fun k z => z.2 = ii k ∧ ((z.1 = ii 1 ∧ ∀ r, r < k → whr A c r = true) ∨ (z.1 = ii 0 ∧ ¬ ∀ r, r < k → whr A c r = true))) _ A.R ⟨rfl, Or.inl ⟨rfl, fun r hr => by omega⟩⟩ ?_ ?_
    · rintro k ⟨a, b⟩ hk ⟨y1, y2⟩
      have y1 : b = ii k := y1
      subst y1
      rcases y2 with ⟨y2, y3⟩ | ⟨y2, y3⟩
      · have y2 : a = ii 1 := y2
        subst y2
        have lm := lm_r hA hc hk
        have e1 := M_least hM hA hE hd hk
        have e2 := M_most hM hA hE hd hk
        have e3 := M_mustHold hM hA hk lm.1 lm.2.1
        have e3' : fX8_mustHold (ii k) (ii (lsc A c k)) (ii (msc A c k)) τ = some (whr A c k) := e3
        by_cases q : whr A c k = true
        · refine ⟨(ii 1, ii ((k + 1 : Nat))), ?_, rfl, Or.inl ⟨rfl, fun r hr => ?_⟩⟩
          · simp (disch := omega) only [fX8_isWhole_4_L, fX8_isWhole_4, fX8_isWhole_40, fX8_isWhole_41, r0, e1, e2, e3', q, if_true, if_false, Option.bind_some, Option.map_some, ii_lit, ll_lit, ii_neg, ll_neg, ii_add, ii_sub, ii_mul, ll_add, ll_sub, ll_mul, ii_le, ii_lt, ii_eq, ii_t, bi_0, bi_1, rd_z, wr_z, rr_z, rl_z, wl_z, tn_n, st_s, st_j, st_i, st_c, st_2, sl_s, sl_j, sl_i, sl_c, sl_1, Int.natCast_add, Int.cast_ofNat_Int, if_pos, if_neg, decide_eq_false_iff_not, decide_eq_true_eq, in_ll, ii_long, Nat.zero_add, Nat.mul_zero, reduceCtorEq]
          · by_cases e : r = k
            · subst e
              exact q
            · exact y3 r (by omega)
        · refine ⟨(ii 0, ii ((k + 1 : Nat))), ?_, rfl, Or.inr ⟨rfl, fun h => q (h k (by omega))⟩⟩
          simp only [Bool.not_eq_true] at q
          simp (disch := omega) only [fX8_isWhole_4_L, fX8_isWhole_4, fX8_isWhole_40, fX8_isWhole_41, r0, e1, e2, e3', q, if_true, if_false, Option.bind_some, Option.map_some, ii_lit, ll_lit, ii_neg, ll_neg, ii_add, ii_sub, ii_mul, ll_add, ll_sub, ll_mul, ii_le, ii_lt, ii_eq, ii_t, bi_0, bi_1, rd_z, wr_z, rr_z, rl_z, wl_z, tn_n, st_s, st_j, st_i, st_c, st_2, sl_s, sl_j, sl_i, sl_c, sl_1, Int.natCast_add, Int.cast_ofNat_Int, if_pos, if_neg, decide_eq_false_iff_not, decide_eq_true_eq, in_ll, ii_long, Nat.zero_add, Nat.mul_zero, reduceCtorEq]
      · have y2 : a = ii 0 := y2
        subst y2
        refine ⟨(ii 0, ii ((k + 1 : Nat))), ?_, rfl, Or.inr ⟨rfl, fun h => y3 (fun r hr => h r (by omega))⟩⟩
        simp (disch := omega) only [fX8_isWhole_4_L, fX8_isWhole_4, fX8_isWhole_40, fX8_isWhole_41, r0, if_true, if_false, Option.bind_some, Option.map_some, ii_lit, ll_lit, ii_neg, ll_neg, ii_add, ii_sub, ii_mul, ll_add, ll_sub, ll_mul, ii_le, ii_lt, ii_eq, ii_t, bi_0, bi_1, rd_z, wr_z, rr_z, rl_z, wl_z, tn_n, st_s, st_j, st_i, st_c, st_2, sl_s, sl_j, sl_i, sl_c, sl_1, Int.natCast_add, Int.cast_ofNat_Int, if_pos, if_neg, decide_eq_false_iff_not, decide_eq_true_eq, in_ll, ii_long, Nat.zero_add, Nat.mul_zero, reduceCtorEq]
    · rintro ⟨a, b⟩ ⟨y1, y2⟩
      have y1 : b = ii A.R := y1
      subst y1
      have vn := (vrd_neg hn).2
      rcases y2 with ⟨y2, y3⟩ | ⟨y2, y3⟩
      · have y2 : a = ii 1 := y2
        subst y2
        refine ⟨true, ?_, (decide_eq_true (vn.mpr y3)).symm⟩
        simp (disch := omega) only [fX8_isWhole_4_L, fX8_isWhole_4, r0, zr, if_true, if_false, Option.bind_some, Option.map_some, ii_lit, ll_lit, ii_neg, ll_neg, ii_add, ii_sub, ii_mul, ll_add, ll_sub, ll_mul, ii_le, ii_lt, ii_eq, ii_t, bi_0, bi_1, rd_z, wr_z, rr_z, rl_z, wl_z, tn_n, st_s, st_j, st_i, st_c, st_2, sl_s, sl_j, sl_i, sl_c, sl_1, Int.natCast_add, Int.cast_ofNat_Int, if_pos, if_neg, decide_eq_false_iff_not, decide_eq_true_eq, in_ll, ii_long, Nat.zero_add, Nat.mul_zero, reduceCtorEq]
      · have y2 : a = ii 0 := y2
        subst y2
        refine ⟨false, ?_, (decide_eq_false (fun e => y3 (vn.mp e))).symm⟩
        simp (disch := omega) only [fX8_isWhole_4_L, fX8_isWhole_4, r0, zr, if_true, if_false, Option.bind_some, Option.map_some, ii_lit, ll_lit, ii_neg, ll_neg, ii_add, ii_sub, ii_mul, ll_add, ll_sub, ll_mul, ii_le, ii_lt, ii_eq, ii_t, bi_0, bi_1, rd_z, wr_z, rr_z, rl_z, wl_z, tn_n, st_s, st_j, st_i, st_c, st_2, sl_s, sl_j, sl_i, sl_c, sl_1, Int.natCast_add, Int.cast_ofNat_Int, if_pos, if_neg, decide_eq_false_iff_not, decide_eq_true_eq, in_ll, ii_long, Nat.zero_add, Nat.mul_zero, reduceCtorEq]
  obtain ⟨x, e, rfl⟩ := key
  unfold fX8_isWhole fX8_isWhole_0
  exact e
theorem wid_le (c : bx) (k : Nat) : wid c k ≤ k := by
  induction k with
  | zero => exact Nat.le_refl 0
  | succ k ih =>
    rw [wid]
    split <;> omega
theorem wid_max (c : bx) {k l : Nat} (hl : l ≤ k) : c.2 l - c.1 l ≤ c.2 (wid c k) - c.1 (wid c k) := by
  induction k with
  | zero =>
    have : l = 0 := by omega
    subst this
    exact Int.le_refl _
  | succ k ih =>
    rw [wid]
    by_cases e : l = k + 1
    · subst e
      split <;> omega
    · have := ih (by omega)
      split <;> omega
theorem C_widest {σ : mm} {n : Nat} (hn : 1 ≤ n ∧ n ≤ 4) {c : bx} (hc : okc c) (h15 : ∀ l, l < n → σ.1 15 0 l = ii (c.1 l)) (h16 : ∀ l, l < n → σ.1 16 0 l = ii (c.2 l)) : fX6_widest (ii n) σ = some (ii (wid c (n - 1))) := by
  unfold fX6_widest fX6_widest_0
  refine lp_f (fun k => (ii (wid c k), ii ((k + 1 : Nat)))) (n - 1) rfl ?_ ?_
  · intro k hk
    have w := wid_le c k
    have b1 := hc (k + 1) (by omega)
    have b2 := hc (wid c k) (by omega)
    have e1 := h15 (k + 1) (by omega)
    have e2 := h16 (k + 1) (by omega)
    have e3 := h15 (wid c k) (by omega)
    have e4 := h16 (wid c k) (by omega)
    have t : ((k : Int) + 1).toNat = k + 1 := by omega
    rw [wid]
    by_cases q : c.2 (wid c k) - c.1 (wid c k) < c.2 (k + 1) - c.1 (k + 1)
    · simp (disch := omega) only [fX6_widest_4_L, fX6_widest_4, fX6_widest_40, e1, e2, e3, e4, t, if_true, if_false, Option.bind_some, Option.map_some, ii_lit, ll_lit, ii_neg, ll_neg, ii_add, ii_sub, ii_mul, ll_add, ll_sub, ll_mul, ii_le, ii_lt, ii_eq, ii_t, bi_0, bi_1, rd_z, wr_z, rr_z, rl_z, wl_z, tn_n, st_s, st_j, st_i, st_c, st_2, sl_s, sl_j, sl_i, sl_c, sl_1, Int.natCast_add, Int.cast_ofNat_Int, if_pos, if_neg, decide_eq_false_iff_not, decide_eq_true_eq, in_ll, ii_long, Nat.zero_add, Nat.mul_zero, reduceCtorEq]
    · simp (disch := omega) only [fX6_widest_4_L, fX6_widest_4, fX6_widest_40, e1, e2, e3, e4, t, if_true, if_false, Option.bind_some, Option.map_some, ii_lit, ll_lit, ii_neg, ll_neg, ii_add, ii_sub, ii_mul, ll_add, ll_sub, ll_mul, ii_le, ii_lt, ii_eq, ii_t, bi_0, bi_1, rd_z, wr_z, rr_z, rl_z, wl_z, tn_n, st_s, st_j, st_i, st_c, st_2, sl_s, sl_j, sl_i, sl_c, sl_1, Int.natCast_add, Int.cast_ofNat_Int, if_pos, if_neg, decide_eq_false_iff_not, decide_eq_true_eq, in_ll, ii_long, Nat.zero_add, Nat.mul_zero, reduceCtorEq]
  · have t : n - 1 + 1 = n := by omega
    rw [t]
    simp (disch := omega) only [fX6_widest_4_L, fX6_widest_4, if_true, if_false, Option.bind_some, Option.map_some, ii_lit, ll_lit, ii_neg, ll_neg, ii_add, ii_sub, ii_mul, ll_add, ll_sub, ll_mul, ii_le, ii_lt, ii_eq, ii_t, bi_0, bi_1, rd_z, wr_z, rr_z, rl_z, wl_z, tn_n, st_s, st_j, st_i, st_c, st_2, sl_s, sl_j, sl_i, sl_c, sl_1, Int.natCast_add, Int.cast_ofNat_Int, if_pos, if_neg, decide_eq_false_iff_not, decide_eq_true_eq, in_ll, ii_long, Nat.zero_add, Nat.mul_zero, reduceCtorEq]
theorem fd_ii {a : Int} (h1 : -1000000 ≤ a) (h2 : a ≤ 1000000) : fJ9_floorDiv_7cf53 (ii a) (ii 2) = some (ii (a / 2)) := by
  unfold fJ9_floorDiv_7cf53 fJ9_floorDiv_7cf53_0
  rw [dv_ii (by omega) (by omega) (by omega) (by omega) (by omega)]
  simp only [Option.bind_some, ii_lit]
  have e := Int.tdiv_eq_ediv (a := a) (b := 2)
  have sg : (2 : Int).sign = 1 := rfl
  rw [sg] at e
  by_cases q : 0 ≤ a
  · rw [if_pos (by rw [xor_sg (by omega) (by omega) (by omega) (by omega)]; exact q), Int.tdiv_eq_ediv_of_nonneg q]
  · rw [if_neg (by rw [xor_sg (by omega) (by omega) (by omega) (by omega)]; exact q), ii_mul]
    have dv : (2 ∣ a) ↔ a % 2 = 0 := Int.dvd_iff_emod_eq_zero
    by_cases d : a % 2 = 0
    · rw [if_pos (Or.inr (dv.mpr d))] at e
      have e3 : a.tdiv 2 * 2 = a := by omega
      rw [e3, if_pos rfl]
      congr 2
      omega
    · rw [if_neg (fun z => z.elim q (fun z => d (dv.mp z)))] at e
      have ez := ii_eq (a := a.tdiv 2 * 2) (b := a) (by omega) (by omega) (by omega) (by omega)
      simp only [ez]
      rw [if_neg (by omega), ii_sub]
      congr 2
      omega
theorem M_middle {a b : Int} (h1 : -9 ≤ a ∧ a ≤ 9) (h2 : -9 ≤ b ∧ b ≤ 9) : fX8_middle (ii a) (ii b) = some (ii ((a + b) / 2)) := by
  unfold fX8_middle fX8_middle_0
  simp (disch := omega) only [dv_nn, if_true, if_false, Option.bind_some, Option.map_some, ii_lit, ll_lit, ii_neg, ll_neg, ii_add, ii_sub, ii_mul, ll_add, ll_sub, ll_mul, ii_le, ii_lt, ii_eq, ii_t, bi_0, bi_1, rd_z, wr_z, rr_z, rl_z, wl_z, tn_n, st_s, st_j, st_i, st_c, st_2, sl_s, sl_j, sl_i, sl_c, sl_1, Int.natCast_add, Int.cast_ofNat_Int, if_pos, if_neg]
  congr 2
  omega
