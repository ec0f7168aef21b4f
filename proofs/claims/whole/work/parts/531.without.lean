-- WITHOUT A ROW: sets of rows
def frp (A : bdy) (r k : Nat) : Bool := decide (brk A k = 0 ∨ brk A k = 2 ^ r)
theorem ms_c : ∀ b : Fin 256, ∀ r : Fin 8, (ii (b.val : Nat) &&& ((ii 1 <<< (ii (r.val : Nat) &&& ii 31)) ^^^ ii (-1)) = ii 0) ↔ (b.val = 0 ∨ b.val = 2 ^ r.val) := by decide +kernel
theorem ms_n : ∀ b : Fin 256, ∀ r : Fin 8, (b.val ||| 2 ^ r.val = 2 ^ r.val) ↔ (b.val = 0 ∨ b.val = 2 ^ r.val) := by decide +kernel
theorem all_bit (R i : Nat) : (2 ^ R - 1).testBit i = decide (i < R) := Nat.testBit_two_pow_sub_one R i
/-- what holds, and a set more, is all: just what doesn't hold is in the set -/
theorem or_all {h : Nat → Bool} {R t : Nat} (ht : t < 2 ^ R) : (mkf h R ||| t = 2 ^ R - 1) ↔ mkf (fun r => !h r) R ||| t = t := by
  have htb : ∀ i, R ≤ i → t.testBit i = false := fun i hi => Nat.testBit_lt_two_pow (Nat.lt_of_lt_of_le ht (Nat.pow_le_pow_right (by decide) hi))
  constructor
  · intro e
    apply Nat.eq_of_testBit_eq
    intro i
    have e1 : (mkf h R ||| t).testBit i = (2 ^ R - 1).testBit i := by rw [e]
    rw [Nat.testBit_or, mkf_bit, all_bit] at e1
    rw [Nat.testBit_or, mkf_bit]
    by_cases hi : i < R
    · cases hh : h i
      · simp [hi, hh] at e1 ⊢
        exact e1
      · simp [hh]
    · simp [hi]
  · intro e
    apply Nat.eq_of_testBit_eq
    intro i
    have e1 : (mkf (fun r => !h r) R ||| t).testBit i = t.testBit i := by rw [e]
    rw [Nat.testBit_or, mkf_bit] at e1
    rw [Nat.testBit_or, mkf_bit, all_bit]
    by_cases hi : i < R
    · simp [hi] at e1 ⊢
      cases hh : h i <;> simp_all
    · simp [hi, htb i (by omega)]
theorem C_isInWithout {σ : mm} {A : bdy} (hc : cloudP σ A) (hA : okb A) {k : Nat} (hk : k < np A) {r : Nat} (hr : r < 8) : fX1_isInWithout (ii k) (ii r) σ = some (frp A r k) := by
  have e1 := C_brokenAt hc hA hk
  have hb := brk_lt hA k
  have hm := ms_c ⟨brk A k, hb⟩ ⟨r, hr⟩
  simp only at hm
  unfold fX1_isInWithout fX1_isInWithout_0 frp
  by_cases q : brk A k = 0 ∨ brk A k = 2 ^ r
  · have q' := hm.mpr q
    rw [e1, decide_eq_true q]
    simp only [Option.bind_some, ii_lit, ii_neg]
    rw [if_pos q']
  · have q' := fun e => q (hm.mp e)
    rw [e1, decide_eq_false q]
    simp only [Option.bind_some, ii_lit, ii_neg]
    rw [if_neg q']
theorem M_free {τ : mm} {A : bdy} (hM : isM τ A) (hl : lookP τ A) (hA : okb A) {k : Nat} (hk : k < np A) {t : Nat} (ht : t < 2 ^ A.R) : (ii ((mkf (hdr A (pt A k)) A.R : Nat)) ||| ii t = fX8_allRows τ) ↔ brk A k ||| t = t := by
  have e2 := M_allRows hM hA
  have h8 : (2 : Nat) ^ A.R ≤ 2 ^ 8 := Nat.pow_le_pow_right (by decide) hA.2.1
  have h1 := mkf_lt (hdr A (pt A k)) A.R
  have h3 : mkf (hdr A (pt A k)) A.R ||| t < 2 ^ A.R := Nat.or_lt_two_pow h1 ht
  rw [e2, or_n, ii_eq (by omega) (by omega) (by omega) (by omega)]
  have := or_all (h := hdr A (pt A k)) ht
  unfold brk
  omega
/-- the first that has most -/
def fmx (v : Nat → Nat) : Nat → Nat × Int
  | 0 => (0, -1)
  | r + 1 => if (fmx v r).2 < (v r : Int) then (r, (v r : Int)) else fmx v r
theorem fmx_r {v : Nat → Nat} {B : Nat} (hv : ∀ r, v r ≤ B) (r : Nat) : -1 ≤ (fmx v r).2 ∧ (fmx v r).2 ≤ B ∧ (fmx v r).1 ≤ r := by
  induction r with
  | zero => exact ⟨by simp [fmx], by simp [fmx], Nat.le_refl 0⟩
  | succ r ih =>
    have := hv r
    rw [fmx]
    split
    · refine ⟨?_, ?_, ?_⟩
      · show -1 ≤ ((v r : Nat) : Int)
        omega
      · show ((v r : Nat) : Int) ≤ B
        omega
      · show r ≤ r + 1
        omega
    · omega
theorem m_without {σ τ : mm} (h : Rel σ τ) : Ag (fX7_without σ) (fX8_without τ) := by
  obtain ⟨A, hR⟩ := h
  obtain ⟨⟨hC, hM, hA⟩, -⟩ := id hR
  have hr1 := hC.2.2.1
  have hr2 := hM.2.2.1
  have hr8 := hA.2.1
  by_cases hp : A.R = 0
  · obtain ⟨σ', τ', e3, e4, hr⟩ := fd3 hR
    refine ⟨ii (-1000000004), σ', τ', ?_, ?_, _, hr⟩
    · unfold fX7_without fX7_without_0
      simp (disch := omega) only [hr1, e3, if_true, if_false, Option.bind_some, Option.map_some, ii_lit, ll_lit, ii_neg, ll_neg, ii_add, ii_sub, ii_mul, ll_add, ll_sub, ll_mul, ii_le, ii_lt, ii_eq, ii_t, bi_0, bi_1, rd_z, wr_z, rr_z, rl_z, wl_z, tn_n, st_s, st_j, st_i, st_c, st_2, sl_s, sl_j, sl_i, sl_c, sl_1, Int.natCast_add, Int.cast_ofNat_Int, if_pos, if_neg, decide_eq_false_iff_not, decide_eq_true_eq, in_ll, ii_long, Nat.zero_add, Nat.mul_zero, reduceCtorEq]
    · unfold fX8_without fX8_without_0
      simp (disch := omega) only [hr2, e4, if_true, if_false, Option.bind_some, Option.map_some, ii_lit, ll_lit, ii_neg, ll_neg, ii_add, ii_sub, ii_mul, ll_add, ll_sub, ll_mul, ii_le, ii_lt, ii_eq, ii_t, bi_0, bi_1, rd_z, wr_z, rr_z, rl_z, wl_z, tn_n, st_s, st_j, st_i, st_c, st_2, sl_s, sl_j, sl_i, sl_c, sl_1, Int.natCast_add, Int.cast_ofNat_Int, if_pos, if_neg, decide_eq_false_iff_not, decide_eq_true_eq, in_ll, ii_long, Nat.zero_add, Nat.mul_zero, reduceCtorEq]
  · obtain ⟨σ1, e1, f1, f2, -⟩ := hR.cloud
    obtain ⟨τ1, e2, g1, g2⟩ := f1.looks
    have hcn := cnt_le hA
    have hnp : pts A = (np A : Int) := by have := hA.p1; unfold np; omega
    let v : Nat → Nat := fun r => cnf (frp A r) (np A)
    have hv : ∀ r, v r ≤ 4096 := fun r => Nat.le_trans (cnf_le _ _) hcn.2
    have ci : ∀ r : Nat, r < 8 → fX1_insideWithout (ii r) σ1 = some (ii (v r)) := by
      intro r hr
      unfold fX1_insideWithout fX1_insideWithout_0
      refine lp_f (fun k => (ii (cnf (frp A r) k), ii k)) (np A) rfl ?_ ?_
      · intro k hk
        have q1 := C_isInWithout f2 hA hk hr
        by_cases q : frp A r k = true
        · rw [cnf_yes q]
          simp (disch := omega) only [fX1_insideWithout_4_L, fX1_insideWithout_4, fX1_insideWithout_27, f2.1, q1, q, if_true, if_false, Option.bind_some, Option.map_some, ii_lit, ll_lit, ii_neg, ll_neg, ii_add, ii_sub, ii_mul, ll_add, ll_sub, ll_mul, ii_le, ii_lt, ii_eq, ii_t, bi_0, bi_1, rd_z, wr_z, rr_z, rl_z, wl_z, tn_n, st_s, st_j, st_i, st_c, st_2, sl_s, sl_j, sl_i, sl_c, sl_1, Int.natCast_add, Int.cast_ofNat_Int, if_pos, if_neg, decide_eq_false_iff_not, decide_eq_true_eq, in_ll, ii_long, Nat.zero_add, Nat.mul_zero, reduceCtorEq]
        · rw [cnf_no q]
          simp only [Bool.not_eq_true] at q
          simp (disch := omega) only [fX1_insideWithout_4_L, fX1_insideWithout_4, fX1_insideWithout_27, f2.1, q1, q, Int.add_zero, if_true, if_false, Option.bind_some, Option.map_some, ii_lit, ll_lit, ii_neg, ll_neg, ii_add, ii_sub, ii_mul, ll_add, ll_sub, ll_mul, ii_le, ii_lt, ii_eq, ii_t, bi_0, bi_1, rd_z, wr_z, rr_z, rl_z, wl_z, tn_n, st_s, st_j, st_i, st_c, st_2, sl_s, sl_j, sl_i, sl_c, sl_1, Int.natCast_add, Int.cast_ofNat_Int, if_pos, if_neg, decide_eq_false_iff_not, decide_eq_true_eq, in_ll, ii_long, Nat.zero_add, Nat.mul_zero, reduceCtorEq]
      · simp (disch := omega) only [fX1_insideWithout_4_L, fX1_insideWithout_4, f2.1, if_true, if_false, Option.bind_some, Option.map_some, ii_lit, ll_lit, ii_neg, ll_neg, ii_add, ii_sub, ii_mul, ll_add, ll_sub, ll_mul, ii_le, ii_lt, ii_eq, ii_t, bi_0, bi_1, rd_z, wr_z, rr_z, rl_z, wl_z, tn_n, st_s, st_j, st_i, st_c, st_2, sl_s, sl_j, sl_i, sl_c, sl_1, Int.natCast_add, Int.cast_ofNat_Int, if_pos, if_neg, decide_eq_false_iff_not, decide_eq_true_eq, in_ll, ii_long, Nat.zero_add, Nat.mul_zero, reduceCtorEq]
        rfl
    have n1 := f1.1.1.2.2.1
    have n2 := g1.1.2.1.2.2.1
    have pp := M_points g1.1.2.1
    refine ⟨ii (fmx v A.R).1, σ1, τ1, ?_, ?_, _, g1⟩
    · unfold fX7_without fX7_without_0
      simp (disch := omega) only [hr1, e1, if_true, if_false, Option.bind_some, Option.map_some, ii_lit, ll_lit, ii_neg, ll_neg, ii_add, ii_sub, ii_mul, ll_add, ll_sub, ll_mul, ii_le, ii_lt, ii_eq, ii_t, bi_0, bi_1, rd_z, wr_z, rr_z, rl_z, wl_z, tn_n, st_s, st_j, st_i, st_c, st_2, sl_s, sl_j, sl_i, sl_c, sl_1, Int.natCast_add, Int.cast_ofNat_Int, if_pos, if_neg, decide_eq_false_iff_not, decide_eq_true_eq, in_ll, ii_long, Nat.zero_add, Nat.mul_zero, reduceCtorEq]
      refine lp_f (fun r => (ii (fmx v r).1, ii (fmx v r).2, ii r)) A.R rfl ?_ ?_
      · intro r hr
        have q1 := ci r (by omega)
        have q2 := fmx_r hv r
        have q3 := hv r
        by_cases q : (fmx v r).2 < (v r : Int)
        · have e5 : fmx v (r + 1) = (r, (v r : Int)) := by rw [fmx, if_pos q]
          rw [e5]
          simp (disch := omega) only [fX7_without_33_L, fX7_without_33, fX7_without_65, n1, q1, if_true, if_false, Option.bind_some, Option.map_some, ii_lit, ll_lit, ii_neg, ll_neg, ii_add, ii_sub, ii_mul, ll_add, ll_sub, ll_mul, ii_le, ii_lt, ii_eq, ii_t, bi_0, bi_1, rd_z, wr_z, rr_z, rl_z, wl_z, tn_n, st_s, st_j, st_i, st_c, st_2, sl_s, sl_j, sl_i, sl_c, sl_1, Int.natCast_add, Int.cast_ofNat_Int, if_pos, if_neg, decide_eq_false_iff_not, decide_eq_true_eq, in_ll, ii_long, Nat.zero_add, Nat.mul_zero, reduceCtorEq]
        · have e5 : fmx v (r + 1) = fmx v r := by rw [fmx, if_neg q]
          rw [e5]
          simp (disch := omega) only [fX7_without_33_L, fX7_without_33, fX7_without_65, n1, q1, if_true, if_false, Option.bind_some, Option.map_some, ii_lit, ll_lit, ii_neg, ll_neg, ii_add, ii_sub, ii_mul, ll_add, ll_sub, ll_mul, ii_le, ii_lt, ii_eq, ii_t, bi_0, bi_1, rd_z, wr_z, rr_z, rl_z, wl_z, tn_n, st_s, st_j, st_i, st_c, st_2, sl_s, sl_j, sl_i, sl_c, sl_1, Int.natCast_add, Int.cast_ofNat_Int, if_pos, if_neg, decide_eq_false_iff_not, decide_eq_true_eq, in_ll, ii_long, Nat.zero_add, Nat.mul_zero, reduceCtorEq]
      · simp (disch := omega) only [fX7_without_33_L, fX7_without_33, n1, if_true, if_false, Option.bind_some, Option.map_some, ii_lit, ll_lit, ii_neg, ll_neg, ii_add, ii_sub, ii_mul, ll_add, ll_sub, ll_mul, ii_le, ii_lt, ii_eq, ii_t, bi_0, bi_1, rd_z, wr_z, rr_z, rl_z, wl_z, tn_n, st_s, st_j, st_i, st_c, st_2, sl_s, sl_j, sl_i, sl_c, sl_1, Int.natCast_add, Int.cast_ofNat_Int, if_pos, if_neg, decide_eq_false_iff_not, decide_eq_true_eq, in_ll, ii_long, Nat.zero_add, Nat.mul_zero, reduceCtorEq]
    · unfold fX8_without fX8_without_0
      simp (disch := omega) only [hr2, e2, pp, hnp, if_true, if_false, Option.bind_some, Option.map_some, ii_lit, ll_lit, ii_neg, ll_neg, ii_add, ii_sub, ii_mul, ll_add, ll_sub, ll_mul, ii_le, ii_lt, ii_eq, ii_t, bi_0, bi_1, rd_z, wr_z, rr_z, rl_z, wl_z, tn_n, st_s, st_j, st_i, st_c, st_2, sl_s, sl_j, sl_i, sl_c, sl_1, Int.natCast_add, Int.cast_ofNat_Int, if_pos, if_neg, decide_eq_false_iff_not, decide_eq_true_eq, in_ll, ii_long, Nat.zero_add, Nat.mul_zero, reduceCtorEq]
      refine lp_f (fun r => (ii (fmx v r).1, ii (fmx v r).2, ii r)) A.R rfl ?_ ?_
      · intro r hr
        have q2 := fmx_r hv r
        have q3 := hv r
        have inner : lp (fX8_without_45_L (ii (np A)) (ii (fmx v r).1) (ii (fmx v r).2) (ii r) τ1) (ii 0, ii 0) = some (.inl (ii (fmx v (r + 1)).1, ii (fmx v (r + 1)).2, ii ((r + 1 : Nat)))) := by
          refine lp_f (fun k => (ii (cnf (frp A r) k), ii k)) (np A) rfl ?_ ?_
          · intro k hk
            have q4 := M_free g1.1.2.1 g2 hA hk (t := 2 ^ r) (Nat.pow_lt_pow_right (by decide) hr)
            have q5 := g2.2.1 k hk
            have q6 := ms_n ⟨brk A k, brk_lt hA k⟩ ⟨r, by omega⟩
            simp only at q6
            have sh : ii 1 <<< (ii (r : Nat) &&& ii 31) = ii ((2 ^ r : Nat)) := by
              rw [show ii 1 = ii ((1 : Nat) : Int) from rfl, shl_n 1 (by omega), Nat.one_mul]
            by_cases q : brk A k = 0 ∨ brk A k = 2 ^ r
            · have qf : frp A r k = true := decide_eq_true q
              have qt : (ii ((mkf (hdr A (pt A k)) A.R : Nat)) ||| ii ((2 ^ r : Nat)) = fX8_allRows τ1) = True := eq_true (q4.mpr (q6.mpr q))
              rw [cnf_yes qf]
              simp (disch := omega) only [fX8_without_45_L, fX8_without_45, fX8_without_77, q5, sh, qt, if_true, if_false, Option.bind_some, Option.map_some, ii_lit, ll_lit, ii_neg, ll_neg, ii_add, ii_sub, ii_mul, ll_add, ll_sub, ll_mul, ii_le, ii_lt, ii_eq, ii_t, bi_0, bi_1, rd_z, wr_z, rr_z, rl_z, wl_z, tn_n, st_s, st_j, st_i, st_c, st_2, sl_s, sl_j, sl_i, sl_c, sl_1, Int.natCast_add, Int.cast_ofNat_Int, if_pos, if_neg, decide_eq_false_iff_not, decide_eq_true_eq, in_ll, ii_long, Nat.zero_add, Nat.mul_zero, reduceCtorEq]
            · have qf : ¬ frp A r k = true := fun e => q (of_decide_eq_true e)
              have qt : (ii ((mkf (hdr A (pt A k)) A.R : Nat)) ||| ii ((2 ^ r : Nat)) = fX8_allRows τ1) = False := eq_false (fun e => q (q6.mp (q4.mp e)))
              rw [cnf_no qf]
              simp (disch := omega) only [fX8_without_45_L, fX8_without_45, fX8_without_77, q5, sh, qt, Int.add_zero, if_true, if_false, Option.bind_some, Option.map_some, ii_lit, ll_lit, ii_neg, ll_neg, ii_add, ii_sub, ii_mul, ll_add, ll_sub, ll_mul, ii_le, ii_lt, ii_eq, ii_t, bi_0, bi_1, rd_z, wr_z, rr_z, rl_z, wl_z, tn_n, st_s, st_j, st_i, st_c, st_2, sl_s, sl_j, sl_i, sl_c, sl_1, Int.natCast_add, Int.cast_ofNat_Int, if_pos, if_neg, decide_eq_false_iff_not, decide_eq_true_eq, in_ll, ii_long, Nat.zero_add, Nat.mul_zero, reduceCtorEq]
          · have ev : cnf (frp A r) (np A) = v r := rfl
            by_cases q : (fmx v r).2 < (v r : Int)
            · have e5 : fmx v (r + 1) = (r, (v r : Int)) := by rw [fmx, if_pos q]
              rw [e5, ev]
              simp (disch := omega) only [fX8_without_45_L, fX8_without_45, fX8_without_98, fX8_without_111, if_true, if_false, Option.bind_some, Option.map_some, ii_lit, ll_lit, ii_neg, ll_neg, ii_add, ii_sub, ii_mul, ll_add, ll_sub, ll_mul, ii_le, ii_lt, ii_eq, ii_t, bi_0, bi_1, rd_z, wr_z, rr_z, rl_z, wl_z, tn_n, st_s, st_j, st_i, st_c, st_2, sl_s, sl_j, sl_i, sl_c, sl_1, Int.natCast_add, Int.cast_ofNat_Int, if_pos, if_neg, decide_eq_false_iff_not, decide_eq_true_eq, in_ll, ii_long, Nat.zero_add, Nat.mul_zero, reduceCtorEq]
            · have e5 : fmx v (r + 1) = fmx v r := by rw [fmx, if_neg q]
              rw [e5, ev]
              simp (disch := omega) only [fX8_without_45_L, fX8_without_45, fX8_without_98, fX8_without_111, if_true, if_false, Option.bind_some, Option.map_some, ii_lit, ll_lit, ii_neg, ll_neg, ii_add, ii_sub, ii_mul, ll_add, ll_sub, ll_mul, ii_le, ii_lt, ii_eq, ii_t, bi_0, bi_1, rd_z, wr_z, rr_z, rl_z, wl_z, tn_n, st_s, st_j, st_i, st_c, st_2, sl_s, sl_j, sl_i, sl_c, sl_1, Int.natCast_add, Int.cast_ofNat_Int, if_pos, if_neg, decide_eq_false_iff_not, decide_eq_true_eq, in_ll, ii_long, Nat.zero_add, Nat.mul_zero, reduceCtorEq]
        rw [← inner]
        simp (disch := omega) only [fX8_without_30_L, fX8_without_30, n2, if_true, if_false, Option.bind_some, Option.map_some, ii_lit, ll_lit, ii_neg, ll_neg, ii_add, ii_sub, ii_mul, ll_add, ll_sub, ll_mul, ii_le, ii_lt, ii_eq, ii_t, bi_0, bi_1, rd_z, wr_z, rr_z, rl_z, wl_z, tn_n, st_s, st_j, st_i, st_c, st_2, sl_s, sl_j, sl_i, sl_c, sl_1, Int.natCast_add, Int.cast_ofNat_Int, if_pos, if_neg, decide_eq_false_iff_not, decide_eq_true_eq, in_ll, ii_long, Nat.zero_add, Nat.mul_zero, reduceCtorEq]
      · simp (disch := omega) only [fX8_without_30_L, fX8_without_30, n2, if_true, if_false, Option.bind_some, Option.map_some, ii_lit, ll_lit, ii_neg, ll_neg, ii_add, ii_sub, ii_mul, ll_add, ll_sub, ll_mul, ii_le, ii_lt, ii_eq, ii_t, bi_0, bi_1, rd_z, wr_z, rr_z, rl_z, wl_z, tn_n, st_s, st_j, st_i, st_c, st_2, sl_s, sl_j, sl_i, sl_c, sl_1, Int.natCast_add, Int.cast_ofNat_Int, if_pos, if_neg, decide_eq_false_iff_not, decide_eq_true_eq, in_ll, ii_long, Nat.zero_add, Nat.mul_zero, reduceCtorEq]
