-- needs
def pc (b : Nat) : Nat := b % 2 + b / 2 % 2 + b / 4 % 2 + b / 8 % 2 + b / 16 % 2 + b / 32 % 2 + b / 64 % 2 + b / 128 % 2
theorem pc_bits : ∀ b : Fin 256, fJ6_bitCount_0f7a4 (ii (b.val : Nat)) = ii (pc b.val : Nat) := by decide +kernel
theorem pc_ones0 : ∀ b : Fin 256, lpn fX8_ones_4_L 10 (ii 0, ii (b.val : Nat)) = some (ii (pc b.val : Nat)) := by decide +kernel
theorem pc_ones {b : Nat} (h : b < 256) : fX8_ones (ii b) = some (ii (pc b : Nat)) := lp_iff.mpr ⟨10, pc_ones0 ⟨b, h⟩⟩
theorem pc_r (b : Nat) : pc b ≤ 8 := by
  unfold pc
  omega
theorem pc_sub0 : ∀ a : Fin 256, ∀ b : Fin 256, (a.val ||| b.val).beq b.val = true → (Nat.ble (pc a.val) (pc b.val) = true ∧ ((pc a.val).beq (pc b.val) = true → a.val.beq b.val = true)) := by decide +kernel
theorem pc_sub {a b : Nat} (ha : a < 256) (hb : b < 256) (h : a ||| b = b) : pc a ≤ pc b ∧ (pc a = pc b → a = b) := by
  have := pc_sub0 ⟨a, ha⟩ ⟨b, hb⟩ (Nat.beq_eq.mpr h)
  exact ⟨Nat.le_of_ble_eq_true this.1, fun e => Nat.beq_eq.mp (this.2 (Nat.beq_eq.mpr e))⟩
/-- fewer ones, of like many the lesser -/
def lxl (a b : Nat) : Prop := pc a < pc b ∨ pc a = pc b ∧ a ≤ b
def fwb (A : bdy) : Nat → Nat
  | 0 => 255
  | k + 1 => if pc (brk A k) < pc (fwb A k) ∨ pc (brk A k) = pc (fwb A k) ∧ brk A k < fwb A k then brk A k else fwb A k
theorem fwb_r {A : bdy} (hA : okb A) (k : Nat) : fwb A k < 256 := by
  induction k with
  | zero =>
    show (255 : Nat) < 256
    decide
  | succ k ih =>
    have := brk_lt hA k
    rw [fwb]
    split <;> omega
theorem fwb_le {A : bdy} {k j : Nat} (hj : j < k) : lxl (fwb A k) (brk A j) := by
  induction k with
  | zero => omega
  | succ k ih =>
    rw [fwb]
    unfold lxl at *
    by_cases e : j = k
    · subst e
      split <;> omega
    · have := ih (by omega)
      split <;> omega
theorem fwb_at {A : bdy} (hA : okb A) {k : Nat} (hk : 0 < k) : ∃ j, j < k ∧ fwb A k = brk A j := by
  have key : ∀ k, fwb A k = 255 ∨ ∃ j, j < k ∧ fwb A k = brk A j := by
    intro k
    induction k with
    | zero => exact Or.inl rfl
    | succ k ih =>
      rw [fwb]
      split
      · exact Or.inr ⟨k, by omega, rfl⟩
      · rcases ih with ih | ⟨j, h1, h2⟩
        · exact Or.inl ih
        · exact Or.inr ⟨j, by omega, h2⟩
  rcases key k with h | h
  · have h0 := fwb_le (A := A) hk
    have hb := brk_lt hA 0
    rw [h] at h0
    unfold lxl at h0
    have h1 := pc_sub (a := brk A 0) (b := 255) hb (by decide) (by
      have : ∀ b : Fin 256, b.val ||| 255 = 255 := by decide +kernel
      exact this ⟨_, hb⟩)
    have h2 : brk A 0 = 255 := h1.2 (by omega)
    exact ⟨0, hk, by rw [h, h2]⟩
  · exact h
theorem C_fewest {σ : mm} {A : bdy} (hc : cloudP σ A) (hA : okb A) : fX1_fewestBroken σ = some (ii (fwb A (np A))) := by
  have hcn := cnt_le hA
  have s1 := hc.1
  unfold fX1_fewestBroken fX1_fewestBroken_0
  refine lp_f (fun k => (ii (fwb A k), ii k)) (np A) rfl ?_ ?_
  · intro k hk
    have e1 := C_brokenAt hc hA hk
    have h1 := brk_lt hA k
    have h2 := fwb_r hA k
    have e2 := pc_bits ⟨brk A k, h1⟩
    have e3 := pc_bits ⟨fwb A k, h2⟩
    simp only at e2 e3
    have r1 := pc_r (brk A k)
    have r2 := pc_r (fwb A k)
    rw [fwb]
    by_cases q1 : pc (brk A k) < pc (fwb A k)
    · rw [if_pos (Or.inl q1)]
      simp (disch := omega) only [fX1_fewestBroken_6_L, fX1_fewestBroken_6, fX1_fewestBroken_46, fX1_fewestBroken_48, s1, e1, e2, e3, if_true, if_false, Option.bind_some, Option.map_some, ii_lit, ll_lit, ii_neg, ll_neg, ii_add, ii_sub, ii_mul, ll_add, ll_sub, ll_mul, ii_le, ii_lt, ii_eq, ii_t, bi_0, bi_1, rd_z, wr_z, rr_z, rl_z, wl_z, tn_n, st_s, st_j, st_i, st_c, st_2, sl_s, sl_j, sl_i, sl_c, sl_1, Int.natCast_add, Int.cast_ofNat_Int, if_pos, if_neg, decide_eq_false_iff_not, decide_eq_true_eq, in_ll, ii_long, Nat.zero_add, Nat.mul_zero, reduceCtorEq]
    · by_cases q2 : pc (brk A k) = pc (fwb A k)
      · by_cases q3 : brk A k < fwb A k
        · rw [if_pos (Or.inr ⟨q2, q3⟩)]
          simp (disch := omega) only [fX1_fewestBroken_6_L, fX1_fewestBroken_6, fX1_fewestBroken_46, fX1_fewestBroken_48, s1, e1, e2, e3, if_true, if_false, Option.bind_some, Option.map_some, ii_lit, ll_lit, ii_neg, ll_neg, ii_add, ii_sub, ii_mul, ll_add, ll_sub, ll_mul, ii_le, ii_lt, ii_eq, ii_t, bi_0, bi_1, rd_z, wr_z, rr_z, rl_z, wl_z, tn_n, st_s, st_j, st_i, st_c, st_2, sl_s, sl_j, sl_i, sl_c, sl_1, Int.natCast_add, Int.cast_ofNat_Int, if_pos, if_neg, decide_eq_false_iff_not, decide_eq_true_eq, in_ll, ii_long, Nat.zero_add, Nat.mul_zero, reduceCtorEq]
        · rw [if_neg (by omega)]
          simp (disch := omega) only [fX1_fewestBroken_6_L, fX1_fewestBroken_6, fX1_fewestBroken_46, fX1_fewestBroken_48, s1, e1, e2, e3, if_true, if_false, Option.bind_some, Option.map_some, ii_lit, ll_lit, ii_neg, ll_neg, ii_add, ii_sub, ii_mul, ll_add, ll_sub, ll_mul, ii_le, ii_lt, ii_eq, ii_t, bi_0, bi_1, rd_z, wr_z, rr_z, rl_z, wl_z, tn_n, st_s, st_j, st_i, st_c, st_2, sl_s, sl_j, sl_i, sl_c, sl_1, Int.natCast_add, Int.cast_ofNat_Int, if_pos, if_neg, decide_eq_false_iff_not, decide_eq_true_eq, in_ll, ii_long, Nat.zero_add, Nat.mul_zero, reduceCtorEq]
      · rw [if_neg (by omega)]
        simp (disch := omega) only [fX1_fewestBroken_6_L, fX1_fewestBroken_6, fX1_fewestBroken_46, fX1_fewestBroken_48, s1, e1, e2, e3, if_true, if_false, Option.bind_some, Option.map_some, ii_lit, ll_lit, ii_neg, ll_neg, ii_add, ii_sub, ii_mul, ll_add, ll_sub, ll_mul, ii_le, ii_lt, ii_eq, ii_t, bi_0, bi_1, rd_z, wr_z, rr_z, rl_z, wl_z, tn_n, st_s, st_j, st_i, st_c, st_2, sl_s, sl_j, sl_i, sl_c, sl_1, Int.natCast_add, Int.cast_ofNat_Int, if_pos, if_neg, decide_eq_false_iff_not, decide_eq_true_eq, in_ll, ii_long, Nat.zero_add, Nat.mul_zero, reduceCtorEq]
  · unfold fX1_fewestBroken_6_L fX1_fewestBroken_6
    simp only []
    rw [s1, if_pos (Int32.le_refl _)]
/-- without a set of rows some point would be in -/
def gd (A : bdy) (t : Nat) : Prop := ∃ k, k < np A ∧ brk A k ||| t = t
theorem M_inner {τ : mm} {A : bdy} (hM : isM τ A) (hl : lookP τ A) (hA : okb A) {t b : Nat} (ht : t < 2 ^ A.R) : (gd A t ∧ lp (fX8_needs_43_L (ii (np A)) (ii b) (ii t) τ) (ii 0, ii 0) = some (.inl (ii t, ii ((t + 1 : Nat))))) ∨ (¬ gd A t ∧ lp (fX8_needs_43_L (ii (np A)) (ii b) (ii t) τ) (ii 0, ii 0) = some (.inl (ii b, ii ((t + 1 : Nat))))) := by
  have hcn := cnt_le hA
  have h8 : (2 : Nat) ^ A.R ≤ 2 ^ 8 := Nat.pow_le_pow_right (by decide) hA.2.1
  by_cases hg : gd A t
  · left
    refine ⟨hg, ?_⟩
    obtain ⟨k0, w1, w2⟩ := hg
    have key : ∃ x, lp (fX8_needs_43_L (ii (np A)) (ii b) (ii t) τ) (ii 0, ii 0) = some x ∧ x = .inl (ii t, ii ((t + 1 : Nat))) := by
      refine lp_i (fun k z => z.2 = ii k ∧ ((z.1 = ii 0 ∧ k ≤ k0) ∨ (z.1 = ii 1 ∧ 0 < k ∧ k ≤ np A))) _ (np A) ⟨rfl, Or.inl ⟨rfl, by omega⟩⟩ ?_ ?_
      · rintro k ⟨a, c⟩ hk ⟨y1, y2⟩
        have y1 : c = ii k := y1
        subst y1
        rcases y2 with ⟨y2, y3⟩ | ⟨y2, y3⟩
        · have y2 : a = ii 0 := y2
          subst y2
          have q4 := M_free hM hl hA hk ht
          have q5 := hl.2.1 k hk
          left
          by_cases q : brk A k ||| t = t
          · have qt : (ii ((mkf (hdr A (pt A k)) A.R : Nat)) ||| ii t = fX8_allRows τ) = True := eq_true (q4.mpr q)
            refine ⟨(ii 1, ii ((k + 1 : Nat))), ?_, rfl, Or.inr ⟨rfl, by omega, by omega⟩⟩
            simp (disch := omega) only [fX8_needs_43_L, fX8_needs_43, fX8_needs_75, q5, qt, if_true, if_false, Option.bind_some, Option.map_some, ii_lit, ll_lit, ii_neg, ll_neg, ii_add, ii_sub, ii_mul, ll_add, ll_sub, ll_mul, ii_le, ii_lt, ii_eq, ii_t, bi_0, bi_1, rd_z, wr_z, rr_z, rl_z, wl_z, tn_n, st_s, st_j, st_i, st_c, st_2, sl_s, sl_j, sl_i, sl_c, sl_1, Int.natCast_add, Int.cast_ofNat_Int, if_pos, if_neg, decide_eq_false_iff_not, decide_eq_true_eq, in_ll, ii_long, Nat.zero_add, Nat.mul_zero, reduceCtorEq]
          · have qt : (ii ((mkf (hdr A (pt A k)) A.R : Nat)) ||| ii t = fX8_allRows τ) = False := eq_false (fun e => q (q4.mp e))
            refine ⟨(ii 0, ii ((k + 1 : Nat))), ?_, rfl, Or.inl ⟨rfl, ?_⟩⟩
            · simp (disch := omega) only [fX8_needs_43_L, fX8_needs_43, fX8_needs_75, q5, qt, if_true, if_false, Option.bind_some, Option.map_some, ii_lit, ll_lit, ii_neg, ll_neg, ii_add, ii_sub, ii_mul, ll_add, ll_sub, ll_mul, ii_le, ii_lt, ii_eq, ii_t, bi_0, bi_1, rd_z, wr_z, rr_z, rl_z, wl_z, tn_n, st_s, st_j, st_i, st_c, st_2, sl_s, sl_j, sl_i, sl_c, sl_1, Int.natCast_add, Int.cast_ofNat_Int, if_pos, if_neg, decide_eq_false_iff_not, decide_eq_true_eq, in_ll, ii_long, Nat.zero_add, Nat.mul_zero, reduceCtorEq]
            · by_cases e : k = k0
              · subst e
                exact absurd w2 q
              · omega
        · have y2 : a = ii 1 := y2
          subst y2
          right
          refine ⟨_, ?_, rfl⟩
          simp (disch := omega) only [fX8_needs_43_L, fX8_needs_43, fX8_needs_83, fX8_needs_93, fX8_needs_94, if_true, if_false, Option.bind_some, Option.map_some, ii_lit, ll_lit, ii_neg, ll_neg, ii_add, ii_sub, ii_mul, ll_add, ll_sub, ll_mul, ii_le, ii_lt, ii_eq, ii_t, bi_0, bi_1, rd_z, wr_z, rr_z, rl_z, wl_z, tn_n, st_s, st_j, st_i, st_c, st_2, sl_s, sl_j, sl_i, sl_c, sl_1, Int.natCast_add, Int.cast_ofNat_Int, if_pos, if_neg, decide_eq_false_iff_not, decide_eq_true_eq, in_ll, ii_long, Nat.zero_add, Nat.mul_zero, reduceCtorEq]
      · rintro ⟨a, c⟩ ⟨y1, y2⟩
        have y1 : c = ii (np A) := y1
        subst y1
        rcases y2 with ⟨y2, y3⟩ | ⟨y2, y3⟩
        · omega
        · have y2 : a = ii 1 := y2
          subst y2
          refine ⟨_, ?_, rfl⟩
          simp (disch := omega) only [fX8_needs_43_L, fX8_needs_43, fX8_needs_83, fX8_needs_93, fX8_needs_94, if_true, if_false, Option.bind_some, Option.map_some, ii_lit, ll_lit, ii_neg, ll_neg, ii_add, ii_sub, ii_mul, ll_add, ll_sub, ll_mul, ii_le, ii_lt, ii_eq, ii_t, bi_0, bi_1, rd_z, wr_z, rr_z, rl_z, wl_z, tn_n, st_s, st_j, st_i, st_c, st_2, sl_s, sl_j, sl_i, sl_c, sl_1, Int.natCast_add, Int.cast_ofNat_Int, if_pos, if_neg, decide_eq_false_iff_not, decide_eq_true_eq, in_ll, ii_long, Nat.zero_add, Nat.mul_zero, reduceCtorEq]
    obtain ⟨x, e, rfl⟩ := key
    exact e
  · right
    refine ⟨hg, ?_⟩
    refine lp_f (fun k => (ii 0, ii k)) (np A) rfl ?_ ?_
    · intro k hk
      have q4 := M_free hM hl hA hk ht
      have q5 := hl.2.1 k hk
      have q : ¬ brk A k ||| t = t := fun e => hg ⟨k, hk, e⟩
      have qt : (ii ((mkf (hdr A (pt A k)) A.R : Nat)) ||| ii t = fX8_allRows τ) = False := eq_false (fun e => q (q4.mp e))
      simp (disch := omega) only [fX8_needs_43_L, fX8_needs_43, fX8_needs_75, q5, qt, if_true, if_false, Option.bind_some, Option.map_some, ii_lit, ll_lit, ii_neg, ll_neg, ii_add, ii_sub, ii_mul, ll_add, ll_sub, ll_mul, ii_le, ii_lt, ii_eq, ii_t, bi_0, bi_1, rd_z, wr_z, rr_z, rl_z, wl_z, tn_n, st_s, st_j, st_i, st_c, st_2, sl_s, sl_j, sl_i, sl_c, sl_1, Int.natCast_add, Int.cast_ofNat_Int, if_pos, if_neg, decide_eq_false_iff_not, decide_eq_true_eq, in_ll, ii_long, Nat.zero_add, Nat.mul_zero, reduceCtorEq]
    · simp (disch := omega) only [fX8_needs_43_L, fX8_needs_43, fX8_needs_83, fX8_needs_93, fX8_needs_94, if_true, if_false, Option.bind_some, Option.map_some, ii_lit, ll_lit, ii_neg, ll_neg, ii_add, ii_sub, ii_mul, ll_add, ll_sub, ll_mul, ii_le, ii_lt, ii_eq, ii_t, bi_0, bi_1, rd_z, wr_z, rr_z, rl_z, wl_z, tn_n, st_s, st_j, st_i, st_c, st_2, sl_s, sl_j, sl_i, sl_c, sl_1, Int.natCast_add, Int.cast_ofNat_Int, if_pos, if_neg, decide_eq_false_iff_not, decide_eq_true_eq, in_ll, ii_long, Nat.zero_add, Nat.mul_zero, reduceCtorEq]
theorem M_needs {τ : mm} {A : bdy} (hM : isM τ A) (hl : lookP τ A) (hA : okb A) : ∃ B, lp (fX8_needs_16_L (ii (np A)) τ) (ii ((2 ^ A.R - 1 : Nat)), ii 0) = some (ii (B : Nat), τ) ∧ B < 2 ^ A.R ∧ gd A B ∧ ∀ t, t < 2 ^ A.R → gd A t → lxl B t := by
  have h8 : (2 : Nat) ^ A.R ≤ 2 ^ 8 := Nat.pow_le_pow_right (by decide) hA.2.1
  have hp2 := Nat.two_pow_pos A.R
  have hn2 := hM.2.2.1
  have hR8 := hA.2.1
  have hp1 := hA.p1
  have sh : ii 1 <<< (ii (A.R : Nat) &&& ii 31) = ii ((2 ^ A.R : Nat)) := by
    rw [show ii 1 = ii ((1 : Nat) : Int) from rfl, shl_n 1 (by omega), Nat.one_mul]
  have hall : ∀ t, t < 2 ^ A.R → t ||| (2 ^ A.R - 1) = 2 ^ A.R - 1 := by
    intro t ht
    apply Nat.eq_of_testBit_eq
    intro i
    rw [Nat.testBit_or, all_bit]
    by_cases hi : i < A.R
    · simp [hi]
    · have : t.testBit i = false := Nat.testBit_lt_two_pow (Nat.lt_of_lt_of_le ht (Nat.pow_le_pow_right (by decide) (by omega)))
      simp [hi, this]
  have hbr : ∀ k, brk A k < 2 ^ A.R := fun k => mkf_lt _ _
  have gall : gd A (2 ^ A.R - 1) := ⟨0, by unfold np; omega, hall _ (hbr 0)⟩
  have key : ∃ x, lp (fX8_needs_16_L (ii (np A)) τ) (ii ((2 ^ A.R - 1 : Nat)), ii 0) = some x ∧ (x.2 = τ ∧ ∃ B : Nat, x.1 = ii B ∧ B < 2 ^ A.R ∧ gd A B ∧ ∀ t, t < 2 ^ A.R → gd A t → lxl B t) := by
    refine lp_j (fun s z => z.2 = ii s ∧ ∃ B : Nat, z.1 = ii B ∧ B < 2 ^ A.R ∧ gd A B ∧ (B = 2 ^ A.R - 1 ∨ B < s) ∧ ∀ t, t < s → gd A t → lxl B t) _ (2 ^ A.R) ⟨rfl, 2 ^ A.R - 1, rfl, by omega, gall, Or.inl rfl, fun t ht => by omega⟩ ?_ ?_
    · rintro s ⟨a, c⟩ hs ⟨y1, B, y2, y3, y4, y5, y6⟩
      have y1 : c = ii s := y1
      have y2 : a = ii B := y2
      subst y1 y2
      have o1 := pc_ones (b := s) (by omega)
      have o2 := pc_ones (b := B) (by omega)
      have r1 := pc_r s
      have r2 := pc_r B
      have hsall := pc_sub (a := s) (b := 2 ^ A.R - 1) (by omega) (by omega) (hall s hs)
      by_cases q : pc s < pc B
      · rcases M_inner hM hl hA (t := s) (b := B) hs with ⟨w1, w2⟩ | ⟨w1, w2⟩
        · refine ⟨(ii s, ii ((s + 1 : Nat))), ?_, rfl, s, rfl, hs, w1, Or.inr (by omega), ?_⟩
          · rw [← w2]
            simp (disch := omega) only [fX8_needs_16_L, fX8_needs_16, hn2, sh, o1, o2, if_true, if_false, Option.bind_some, Option.map_some, ii_lit, ll_lit, ii_neg, ll_neg, ii_add, ii_sub, ii_mul, ll_add, ll_sub, ll_mul, ii_le, ii_lt, ii_eq, ii_t, bi_0, bi_1, rd_z, wr_z, rr_z, rl_z, wl_z, tn_n, st_s, st_j, st_i, st_c, st_2, sl_s, sl_j, sl_i, sl_c, sl_1, Int.natCast_add, Int.cast_ofNat_Int, if_pos, if_neg, decide_eq_false_iff_not, decide_eq_true_eq, in_ll, ii_long, Nat.zero_add, Nat.mul_zero, reduceCtorEq]
          · intro t ht hg
            by_cases e : t = s
            · subst e
              exact Or.inr ⟨rfl, Nat.le_refl _⟩
            · have := y6 t (by omega) hg
              unfold lxl at *
              omega
        · refine ⟨(ii B, ii ((s + 1 : Nat))), ?_, rfl, B, rfl, y3, y4, by omega, ?_⟩
          · rw [← w2]
            simp (disch := omega) only [fX8_needs_16_L, fX8_needs_16, hn2, sh, o1, o2, if_true, if_false, Option.bind_some, Option.map_some, ii_lit, ll_lit, ii_neg, ll_neg, ii_add, ii_sub, ii_mul, ll_add, ll_sub, ll_mul, ii_le, ii_lt, ii_eq, ii_t, bi_0, bi_1, rd_z, wr_z, rr_z, rl_z, wl_z, tn_n, st_s, st_j, st_i, st_c, st_2, sl_s, sl_j, sl_i, sl_c, sl_1, Int.natCast_add, Int.cast_ofNat_Int, if_pos, if_neg, decide_eq_false_iff_not, decide_eq_true_eq, in_ll, ii_long, Nat.zero_add, Nat.mul_zero, reduceCtorEq]
          · intro t ht hg
            by_cases e : t = s
            · subst e
              exact absurd hg w1
            · exact y6 t (by omega) hg
      · refine ⟨(ii B, ii ((s + 1 : Nat))), ?_, rfl, B, rfl, y3, y4, by omega, ?_⟩
        · simp (disch := omega) only [fX8_needs_16_L, fX8_needs_16, fX8_needs_94, hn2, sh, o1, o2, if_true, if_false, Option.bind_some, Option.map_some, ii_lit, ll_lit, ii_neg, ll_neg, ii_add, ii_sub, ii_mul, ll_add, ll_sub, ll_mul, ii_le, ii_lt, ii_eq, ii_t, bi_0, bi_1, rd_z, wr_z, rr_z, rl_z, wl_z, tn_n, st_s, st_j, st_i, st_c, st_2, sl_s, sl_j, sl_i, sl_c, sl_1, Int.natCast_add, Int.cast_ofNat_Int, if_pos, if_neg, decide_eq_false_iff_not, decide_eq_true_eq, in_ll, ii_long, Nat.zero_add, Nat.mul_zero, reduceCtorEq]
        · intro t ht hg
          by_cases e : t = s
          · subst e
            unfold lxl
            rcases y5 with y5 | y5
            · subst y5
              by_cases e2 : pc t = pc (2 ^ A.R - 1)
              · have := hsall.2 e2
                omega
              · omega
            · omega
          · exact y6 t (by omega) hg
    · rintro ⟨a, c⟩ ⟨y1, B, y2, y3, y4, y5, y6⟩
      have y1 : c = ii ((2 ^ A.R : Nat)) := y1
      have y2 : a = ii B := y2
      subst y1 y2
      refine ⟨(ii B, τ), ?_, rfl, B, rfl, y3, y4, y6⟩
      unfold fX8_needs_16_L fX8_needs_16
      simp only []
      rw [hn2, show (1 : Int32) = ii 1 from rfl, show (31 : Int32) = ii 31 from rfl, sh, if_pos (Int32.le_refl _)]
  obtain ⟨⟨x, y⟩, e, h1, B, h2, h3⟩ := key
  have h1 : y = τ := h1
  have h2 : x = ii B := h2
  subst h1 h2
  exact ⟨B, e, h3⟩
theorem m_needs {σ τ : mm} (h : Rel σ τ) : Ag (fX7_needs σ) (fX8_needs τ) := by
  obtain ⟨A, hR⟩ := h
  obtain ⟨⟨hC, hM, hA⟩, -⟩ := id hR
  obtain ⟨σ1, e1, f1, f2, -⟩ := hR.cloud
  obtain ⟨τ1, e2, g1, g2⟩ := f1.looks
  have hp1 := hA.p1
  have hnp : pts A = (np A : Int) := by unfold np; omega
  have h8 : (2 : Nat) ^ A.R ≤ 2 ^ 8 := Nat.pow_le_pow_right (by decide) hA.2.1
  have cf := C_fewest f2 hA
  obtain ⟨B, e3, b1, b2, b3⟩ := M_needs g1.1.2.1 g2 hA
  have pp := M_points g1.1.2.1
  have ar := M_allRows g1.1.2.1 hA
  have heq : fwb A (np A) = B := by
    obtain ⟨j, j1, j2⟩ := fwb_at hA (k := np A) (by omega)
    obtain ⟨k, k1, k2⟩ := b2
    have hbr : ∀ k, brk A k < 2 ^ A.R := fun k => mkf_lt _ _
    have g1 : gd A (brk A k) := ⟨k, k1, Nat.or_self _⟩
    have l1 := b3 _ (hbr k) g1
    have s1 := pc_sub (brk_lt hA k) (show B < 256 by omega) k2
    have e4 : brk A k = B := s1.2 (by unfold lxl at l1; omega)
    have l2 := fwb_le (A := A) (k := np A) k1
    have l3 := b3 _ (hbr j) ⟨j, j1, Nat.or_self _⟩
    rw [e4] at l2
    rw [← j2] at l3
    unfold lxl at l2 l3
    omega
  refine ⟨ii B, σ1, τ1, ?_, ?_, _, g1⟩
  · unfold fX7_needs fX7_needs_0
    simp (disch := omega) only [e1, cf, heq, if_true, if_false, Option.bind_some, Option.map_some, ii_lit, ll_lit, ii_neg, ll_neg, ii_add, ii_sub, ii_mul, ll_add, ll_sub, ll_mul, ii_le, ii_lt, ii_eq, ii_t, bi_0, bi_1, rd_z, wr_z, rr_z, rl_z, wl_z, tn_n, st_s, st_j, st_i, st_c, st_2, sl_s, sl_j, sl_i, sl_c, sl_1, Int.natCast_add, Int.cast_ofNat_Int, if_pos, if_neg, decide_eq_false_iff_not, decide_eq_true_eq, in_ll, ii_long, Nat.zero_add, Nat.mul_zero, reduceCtorEq]
  · unfold fX8_needs fX8_needs_0
    rw [e2, Option.bind_some, pp, Option.bind_some, Option.bind_some, ar, hnp]
    exact e3
