-- mean
theorem gcd_step (a b : Nat) : Nat.gcd b (a % b) = Nat.gcd a b := by
  rw [Nat.gcd_comm a b, Nat.gcd_rec b a, Nat.gcd_comm]
theorem C_gcd {x y : Nat} (hx : x ≤ 40000) (hy : y ≤ 4096) : fX7_greatestDivisor (ii x) (ii y) = some (ii (Nat.gcd x y)) := by
  unfold fX7_greatestDivisor fX7_greatestDivisor_0
  have key : ∃ r, lp fX7_greatestDivisor_7_L (ii x, ii y, ii 0) = some r ∧ r = ii (Nat.gcd x y) := by
    refine lp_i (fun k s => ∃ a b : Nat, s = (ii a, ii b, ii k) ∧ Nat.gcd a b = Nat.gcd x y ∧ a ≤ 40000 ∧ b ≤ 4096 ∧ (k = 0 ∨ b < a ∧ 2 ^ (k - 1) * (a * b) ≤ 163840000)) _ 40 ⟨x, y, rfl, rfl, hx, hy, Or.inl rfl⟩ ?_ ?_
    · rintro k s hk ⟨a, b, rfl, h1, h2, h3, h4⟩
      by_cases hb : b = 0
      · right
        subst hb
        refine ⟨ii a, ?_, by rw [← h1, Nat.gcd_zero_right]⟩
        simp (disch := omega) only [fX7_greatestDivisor_7_L, fX7_greatestDivisor_7, if_true, if_false, Option.bind_some, Option.map_some, ii_lit, ll_lit, ii_neg, ll_neg, ii_add, ii_sub, ii_mul, ll_add, ll_sub, ll_mul, ii_le, ii_lt, ii_eq, ii_t, bi_0, bi_1, rd_z, wr_z, rr_z, rl_z, wl_z, tn_n, st_s, st_j, st_i, st_c, st_2, sl_s, sl_j, sl_i, sl_c, sl_1, Int.natCast_add, Int.cast_ofNat_Int, if_pos, if_neg]
      · left
        have hlt := Nat.mod_lt a (show 0 < b by omega)
        refine ⟨(ii b, ii ((a % b : Nat)), ii ((k + 1 : Nat))), ?_, b, a % b, rfl, by rw [gcd_step]; exact h1, by omega, by omega, Or.inr ⟨hlt, ?_⟩⟩
        · simp (disch := omega) only [fX7_greatestDivisor_7_L, fX7_greatestDivisor_7, rm_nn, Int.natCast_emod, if_true, if_false, Option.bind_some, Option.map_some, ii_lit, ll_lit, ii_neg, ll_neg, ii_add, ii_sub, ii_mul, ll_add, ll_sub, ll_mul, ii_le, ii_lt, ii_eq, ii_t, bi_0, bi_1, rd_z, wr_z, rr_z, rl_z, wl_z, tn_n, st_s, st_j, st_i, st_c, st_2, sl_s, sl_j, sl_i, sl_c, sl_1, Int.natCast_add, Int.cast_ofNat_Int, if_pos, if_neg]
        · rw [Nat.add_sub_cancel]
          have hab : b * (a % b) ≤ a * b := by
            rw [Nat.mul_comm a b]
            exact Nat.mul_le_mul_left _ (Nat.mod_le _ _)
          rcases h4 with rfl | ⟨h5, h6⟩
          · have h7 : a * b ≤ 40000 * 4096 := Nat.mul_le_mul h2 h3
            rw [Nat.pow_zero, Nat.one_mul]
            omega
          · by_cases hk0 : k = 0
            · subst hk0
              have h7 : a * b ≤ 40000 * 4096 := Nat.mul_le_mul h2 h3
              rw [Nat.pow_zero, Nat.one_mul]
              omega
            · have h7 : 2 * (a % b) ≤ a := by
                have e := Nat.mod_add_div a b
                have : 1 ≤ a / b := Nat.div_pos (by omega) (by omega)
                have : b * 1 ≤ b * (a / b) := Nat.mul_le_mul_left _ this
                omega
              have h8 : 2 * (b * (a % b)) ≤ a * b := by
                rw [Nat.mul_left_comm, Nat.mul_comm a b]
                exact Nat.mul_le_mul_left _ h7
              have h9 : 2 ^ k * (b * (a % b)) = 2 ^ (k - 1) * (2 * (b * (a % b))) := by
                rw [← Nat.mul_assoc (2 ^ (k - 1)) 2, ← Nat.pow_succ, show (k - 1).succ = k by omega]
              rw [h9]
              exact Nat.le_trans (Nat.mul_le_mul_left _ h8) h6
    · rintro s ⟨a, b, rfl, h1, h2, h3, h4⟩
      have hb : b = 0 := by
        rcases h4 with h4 | ⟨h5, h6⟩
        · omega
        · by_cases hb : b = 0
          · exact hb
          · have : 1 * 1 ≤ a * b := Nat.mul_le_mul (by omega) (by omega)
            have : 2 ^ (40 - 1) * 1 ≤ 2 ^ (40 - 1) * (a * b) := Nat.mul_le_mul_left _ (by omega)
            omega
      subst hb
      refine ⟨ii a, ?_, by rw [← h1, Nat.gcd_zero_right]⟩
      simp (disch := omega) only [fX7_greatestDivisor_7_L, fX7_greatestDivisor_7, if_true, if_false, Option.bind_some, Option.map_some, ii_lit, ll_lit, ii_neg, ll_neg, ii_add, ii_sub, ii_mul, ll_add, ll_sub, ll_mul, ii_le, ii_lt, ii_eq, ii_t, bi_0, bi_1, rd_z, wr_z, rr_z, rl_z, wl_z, tn_n, st_s, st_j, st_i, st_c, st_2, sl_s, sl_j, sl_i, sl_c, sl_1, Int.natCast_add, Int.cast_ofNat_Int, if_pos, if_neg]
  obtain ⟨r, e, rfl⟩ := key
  exact e
theorem M_gcd {x y : Nat} (hx : x ≤ 40000) (hy : y ≤ 4096) : fX8_common_10 (ii y) (ii x) = some (ii (Nat.gcd x y)) := by
  unfold fX8_common_10
  have key : ∃ r, lp fX8_common_13_L (ii x, ii y) = some r ∧ r = ii (Nat.gcd x y) := by
    refine lp_total (fun s => ∃ a b : Nat, s = (ii a, ii b) ∧ Nat.gcd a b = Nat.gcd x y ∧ a ≤ 40000 ∧ b ≤ 4096) (fun s => s.2.toInt.toNat) _ ?_ _ ⟨x, y, rfl, rfl, hx, hy⟩
    rintro s ⟨a, b, rfl, h1, h2, h3⟩
    by_cases hb : b = 0
    · right
      subst hb
      refine ⟨ii a, ?_, by rw [← h1, Nat.gcd_zero_right]⟩
      simp (disch := omega) only [fX8_common_13_L, fX8_common_13, if_true, if_false, Option.bind_some, Option.map_some, ii_lit, ll_lit, ii_neg, ll_neg, ii_add, ii_sub, ii_mul, ll_add, ll_sub, ll_mul, ii_le, ii_lt, ii_eq, ii_t, bi_0, bi_1, rd_z, wr_z, rr_z, rl_z, wl_z, tn_n, st_s, st_j, st_i, st_c, st_2, sl_s, sl_j, sl_i, sl_c, sl_1, Int.natCast_add, Int.cast_ofNat_Int, if_pos, if_neg]
    · left
      have hlt := Nat.mod_lt a (show 0 < b by omega)
      refine ⟨(ii b, ii ((a % b : Nat))), ?_, ⟨b, a % b, rfl, by rw [gcd_step]; exact h1, by omega, by omega⟩, ?_⟩
      · simp (disch := omega) only [fX8_common_13_L, fX8_common_13, rm_nn, Int.natCast_emod, if_true, if_false, Option.bind_some, Option.map_some, ii_lit, ll_lit, ii_neg, ll_neg, ii_add, ii_sub, ii_mul, ll_add, ll_sub, ll_mul, ii_le, ii_lt, ii_eq, ii_t, bi_0, bi_1, rd_z, wr_z, rr_z, rl_z, wl_z, tn_n, st_s, st_j, st_i, st_c, st_2, sl_s, sl_j, sl_i, sl_c, sl_1, Int.natCast_add, Int.cast_ofNat_Int, if_pos, if_neg]
      · show (ii ((a % b : Nat) : Int)).toInt.toNat < (ii (b : Int)).toInt.toNat
        rw [ii_t (by omega) (by omega), ii_t (by omega) (by omega)]
        omega
  obtain ⟨r, e, rfl⟩ := key
  exact e
def sml (A : bdy) (l : Nat) : Nat → Int := fdf (inP A) (fun p _ s => s + pt A p l) 0
theorem sml_r {A : bdy} (hA : okb A) {l : Nat} (hl : l < 4) (k : Nat) : -(9 * (k : Int)) ≤ sml A l k ∧ sml A l k ≤ 9 * k := by
  induction k with
  | zero => simp [sml, fdf]
  | succ k ih =>
    have := pt_9 hA k hl
    unfold sml at ih ⊢
    rw [fdf]
    split <;> omega
theorem m_mean {σ τ : mm} (h : Rel σ τ) (l w : Int32) : Ag (fX7_mean l w σ) (fX8_mean l w τ) := by
  obtain ⟨A, hR⟩ := h
  obtain ⟨⟨hC, hM, hA⟩, -⟩ := id hR
  obtain ⟨l, rfl, h1, h2⟩ := ii_ex l
  obtain ⟨w, rfl, h3, h4⟩ := ii_ex w
  have c1 := C_hasLetter hC h1 h2
  have c2 := M_isLetter hM h1 h2
  have hn1 := hA.1
  by_cases hv : (0 ≤ l ∧ l < A.n) ∧ 0 ≤ w ∧ w ≤ 1
  · obtain ⟨⟨v1, v2⟩, v3, v4⟩ := hv
    obtain ⟨l, rfl⟩ : ∃ k : Nat, l = k := ⟨l.toNat, by omega⟩
    obtain ⟨σ1, e1, f1, f2, -⟩ := hR.cloud
    obtain ⟨τ1, e2, g1, g2⟩ := f1.looks
    have hcn := cnt_le hA
    have s2 := f2.2.1
    have s3 := g2.1
    by_cases h0 : cnf (inP A) (np A) = 0
    · obtain ⟨σ', τ', e3, e4, hr⟩ := fd3 g1
      refine ⟨ii (-1000000004), σ', τ', ?_, ?_, _, hr⟩
      · unfold fX7_mean fX7_mean_0
        simp (disch := omega) only [c1, e1, s2, e3, if_true, if_false, Option.bind_some, Option.map_some, ii_lit, ll_lit, ii_neg, ll_neg, ii_add, ii_sub, ii_mul, ll_add, ll_sub, ll_mul, ii_le, ii_lt, ii_eq, ii_t, bi_0, bi_1, rd_z, wr_z, rr_z, rl_z, wl_z, tn_n, st_s, st_j, st_i, st_c, st_2, sl_s, sl_j, sl_i, sl_c, sl_1, Int.natCast_add, Int.cast_ofNat_Int, if_pos, if_neg, decide_eq_false_iff_not, decide_eq_true_eq, in_ll, ii_long, Nat.zero_add, Nat.mul_zero, reduceCtorEq]
      · unfold fX8_mean fX8_mean_0
        simp (disch := omega) only [c2, e2, s3, e4, if_true, if_false, Option.bind_some, Option.map_some, ii_lit, ll_lit, ii_neg, ll_neg, ii_add, ii_sub, ii_mul, ll_add, ll_sub, ll_mul, ii_le, ii_lt, ii_eq, ii_t, bi_0, bi_1, rd_z, wr_z, rr_z, rl_z, wl_z, tn_n, st_s, st_j, st_i, st_c, st_2, sl_s, sl_j, sl_i, sl_c, sl_1, Int.natCast_add, Int.cast_ofNat_Int, if_pos, if_neg, decide_eq_false_iff_not, decide_eq_true_eq, in_ll, ii_long, Nat.zero_add, Nat.mul_zero, reduceCtorEq]
    · have hsr := sml_r hA (l := l) (by omega) (np A)
      have es : fX1_sumOfLetter (ii l) σ1 = some (ii (sml A l (np A))) := by
        unfold fX1_sumOfLetter fX1_sumOfLetter_0
        refine lp_f (fun k => (ii (sml A l k), ii k)) (np A) rfl ?_ ?_
        · intro k hk
          have q1 := C_isIn f2 hA hk
          have q2 := C_letterAt f2 hA hk (l := l) (by omega)
          unfold sml
          by_cases hin : inP A k = true
          · rw [fdf_yes hin]
            simp (disch := omega) only [fX1_sumOfLetter_4_L, fX1_sumOfLetter_4, fX1_sumOfLetter_29, f2.1, q1, q2, hin, if_true, if_false, Option.bind_some, Option.map_some, ii_lit, ll_lit, ii_neg, ll_neg, ii_add, ii_sub, ii_mul, ll_add, ll_sub, ll_mul, ii_le, ii_lt, ii_eq, ii_t, bi_0, bi_1, rd_z, wr_z, rr_z, rl_z, wl_z, tn_n, st_s, st_j, st_i, st_c, st_2, sl_s, sl_j, sl_i, sl_c, sl_1, Int.natCast_add, Int.cast_ofNat_Int, if_pos, if_neg, decide_eq_false_iff_not, decide_eq_true_eq, in_ll, ii_long, Nat.zero_add, Nat.mul_zero, reduceCtorEq]
          · rw [fdf_no hin]
            simp only [Bool.not_eq_true] at hin
            simp (disch := omega) only [fX1_sumOfLetter_4_L, fX1_sumOfLetter_4, fX1_sumOfLetter_29, f2.1, q1, q2, hin, if_true, if_false, Option.bind_some, Option.map_some, ii_lit, ll_lit, ii_neg, ll_neg, ii_add, ii_sub, ii_mul, ll_add, ll_sub, ll_mul, ii_le, ii_lt, ii_eq, ii_t, bi_0, bi_1, rd_z, wr_z, rr_z, rl_z, wl_z, tn_n, st_s, st_j, st_i, st_c, st_2, sl_s, sl_j, sl_i, sl_c, sl_1, Int.natCast_add, Int.cast_ofNat_Int, if_pos, if_neg, decide_eq_false_iff_not, decide_eq_true_eq, in_ll, ii_long, Nat.zero_add, Nat.mul_zero, reduceCtorEq]
        · simp (disch := omega) only [fX1_sumOfLetter_4_L, fX1_sumOfLetter_4, f2.1, if_true, if_false, Option.bind_some, Option.map_some, ii_lit, ll_lit, ii_neg, ll_neg, ii_add, ii_sub, ii_mul, ll_add, ll_sub, ll_mul, ii_le, ii_lt, ii_eq, ii_t, bi_0, bi_1, rd_z, wr_z, rr_z, rl_z, wl_z, tn_n, st_s, st_j, st_i, st_c, st_2, sl_s, sl_j, sl_i, sl_c, sl_1, Int.natCast_add, Int.cast_ofNat_Int, if_pos, if_neg, decide_eq_false_iff_not, decide_eq_true_eq, in_ll, ii_long, Nat.zero_add, Nat.mul_zero, reduceCtorEq]
      obtain ⟨S, hS⟩ : ∃ S, S = sml A l (np A) := ⟨_, rfl⟩
      rw [← hS] at es hsr
      obtain ⟨x, hx⟩ : ∃ x : Nat, (x : Int) = if 0 ≤ S then S else -S := ⟨S.natAbs, by split <;> omega⟩
      have hx4 : x ≤ 40000 := by
        split at hx <;> omega
      obtain ⟨c, hc⟩ : ∃ c, c = cnf (inP A) (np A) := ⟨_, rfl⟩
      rw [← hc] at s2 s3 h0 hcn
      have g3 := C_gcd hx4 (y := c) (by omega)
      have g4 := M_gcd hx4 (y := c) (by omega)
      have gp : 0 < Nat.gcd x c := Nat.gcd_pos_of_pos_right _ (by omega)
      have gl : Nat.gcd x c ≤ c := Nat.gcd_le_right _ (by omega)
      have gc : fX8_common (ii S) (ii c) = some (ii (Nat.gcd x c)) := by
        unfold fX8_common fX8_common_0
        rw [← g4]
        by_cases q : 0 ≤ S
        · rw [if_pos q] at hx
          simp (disch := omega) only [← hx, if_true, if_false, Option.bind_some, Option.map_some, ii_lit, ll_lit, ii_neg, ll_neg, ii_add, ii_sub, ii_mul, ll_add, ll_sub, ll_mul, ii_le, ii_lt, ii_eq, ii_t, bi_0, bi_1, rd_z, wr_z, rr_z, rl_z, wl_z, tn_n, st_s, st_j, st_i, st_c, st_2, sl_s, sl_j, sl_i, sl_c, sl_1, Int.natCast_add, Int.cast_ofNat_Int, if_pos, if_neg, decide_eq_false_iff_not, decide_eq_true_eq, in_ll, ii_long, Nat.zero_add, Nat.mul_zero, reduceCtorEq]
        · rw [if_neg q] at hx
          simp (disch := omega) only [← hx, if_true, if_false, Option.bind_some, Option.map_some, ii_lit, ll_lit, ii_neg, ll_neg, ii_add, ii_sub, ii_mul, ll_add, ll_sub, ll_mul, ii_le, ii_lt, ii_eq, ii_t, bi_0, bi_1, rd_z, wr_z, rr_z, rl_z, wl_z, tn_n, st_s, st_j, st_i, st_c, st_2, sl_s, sl_j, sl_i, sl_c, sl_1, Int.natCast_add, Int.cast_ofNat_Int, if_pos, if_neg, decide_eq_false_iff_not, decide_eq_true_eq, in_ll, ii_long, Nat.zero_add, Nat.mul_zero, reduceCtorEq]
      have inner : ∃ r, lp (fX8_mean_48_L (ii l) (ii w)) (ii 0, ii 0, τ1) = some r ∧ (r.1 = ii (if w = 0 then S.tdiv (Nat.gcd x c) else (c : Int).tdiv (Nat.gcd x c)) ∧ Fr [48] [] τ1 r.2) := by
        refine lp_j (fun i s => s.2.1 = ii i ∧ (∀ q, q ≤ np A → cnf (inP A) q = i → s.1 = ii (sml A l q)) ∧ Fr [48] [] τ1 s.2.2) _ c ⟨rfl, ?_, Fr.rf _ _ _⟩ ?_ ?_
        · intro q hq hc0
          have : sml A l q = sml A l 0 := fdf_same (by rw [hc0]; rfl)
          rw [this]
          rfl
        · rintro i ⟨a, b, s⟩ hi ⟨y1, y2, y3⟩
          have y1 : b = ii i := y1
          subst y1
          have y3 : Fr [48] [] τ1 s := y3
          obtain ⟨p, q1, q2, q3⟩ := cnf_ex (P := inP A) (n := np A) (i := i) (by omega)
          have y2' : a = ii (sml A l p) := y2 p (by omega) q3
          subst y2'
          have g2s : lookP s A := g2.fr y3 (by decide) (by decide)
          have e3 := g2s.2.2 p q1 q2
          rw [q3] at e3
          have s3' : s.1 32 0 11 = ii c := by rw [y3.2.2 11 (by decide)]; exact s3
          obtain ⟨s', e5, o1, o2, o3⟩ := M_goesTo (g1.1.2.1.fr y3 (by decide) (by decide)) hA q1
          have e6 := o1 l (by omega)
          refine ⟨(ii (sml A l (p + 1)), ii ((i + 1 : Nat)), s'), ?_, rfl, ?_, y3.tr o2⟩
          · have e7 : sml A l (p + 1) = sml A l p + pt A p l := fdf_yes q2
            rw [e7]
            simp (disch := omega) only [fX8_mean_48_L, fX8_mean_48, s3', e3, e5, e6, ll_int, if_true, if_false, Option.bind_some, Option.map_some, ii_lit, ll_lit, ii_neg, ll_neg, ii_add, ii_sub, ii_mul, ll_add, ll_sub, ll_mul, ii_le, ii_lt, ii_eq, ii_t, bi_0, bi_1, rd_z, wr_z, rr_z, rl_z, wl_z, tn_n, st_s, st_j, st_i, st_c, st_2, sl_s, sl_j, sl_i, sl_c, sl_1, Int.natCast_add, Int.cast_ofNat_Int, if_pos, if_neg, decide_eq_false_iff_not, decide_eq_true_eq, in_ll, ii_long, Nat.zero_add, Nat.mul_zero, reduceCtorEq]
          · intro q hq hqi
            have : sml A l (p + 1) = sml A l q := fdf_same (by rw [cnf_yes q2, q3]; exact hqi.symm)
            rw [← this]
        · rintro ⟨a, b, s⟩ ⟨y1, y2, y3⟩
          have y1 : b = ii c := y1
          subst y1
          have y2' : a = ii S := by rw [hS]; exact y2 (np A) (Nat.le_refl _) hc.symm
          subst y2'
          have s3' : s.1 32 0 11 = ii c := by rw [y3.2.2 11 (by decide)]; exact s3
          refine ⟨(ii (if w = 0 then S.tdiv (Nat.gcd x c) else (c : Int).tdiv (Nat.gcd x c)), s), ?_, rfl, y3⟩
          by_cases q : w = 0
          · simp (disch := omega) only [fX8_mean_48_L, fX8_mean_48, s3', gc, dv_ii, if_true, if_false, Option.bind_some, Option.map_some, ii_lit, ll_lit, ii_neg, ll_neg, ii_add, ii_sub, ii_mul, ll_add, ll_sub, ll_mul, ii_le, ii_lt, ii_eq, ii_t, bi_0, bi_1, rd_z, wr_z, rr_z, rl_z, wl_z, tn_n, st_s, st_j, st_i, st_c, st_2, sl_s, sl_j, sl_i, sl_c, sl_1, Int.natCast_add, Int.cast_ofNat_Int, if_pos, if_neg, decide_eq_false_iff_not, decide_eq_true_eq, in_ll, ii_long, Nat.zero_add, Nat.mul_zero, reduceCtorEq]
          · simp (disch := omega) only [fX8_mean_48_L, fX8_mean_48, s3', gc, dv_ii, if_true, if_false, Option.bind_some, Option.map_some, ii_lit, ll_lit, ii_neg, ll_neg, ii_add, ii_sub, ii_mul, ll_add, ll_sub, ll_mul, ii_le, ii_lt, ii_eq, ii_t, bi_0, bi_1, rd_z, wr_z, rr_z, rl_z, wl_z, tn_n, st_s, st_j, st_i, st_c, st_2, sl_s, sl_j, sl_i, sl_c, sl_1, Int.natCast_add, Int.cast_ofNat_Int, if_pos, if_neg, decide_eq_false_iff_not, decide_eq_true_eq, in_ll, ii_long, Nat.zero_add, Nat.mul_zero, reduceCtorEq]
      obtain ⟨⟨r, τ2⟩, e5, r1, r2⟩ := inner
      have r1 : r = ii (if w = 0 then S.tdiv (Nat.gcd x c) else (c : Int).tdiv (Nat.gcd x c)) := r1
      subst r1
      refine ⟨ii (if w = 0 then S.tdiv (Nat.gcd x c) else (c : Int).tdiv (Nat.gcd x c)), σ1, τ2, ?_, ?_, _, g1.m (r2.mono (by decide) (by decide))⟩
      · unfold fX7_mean fX7_mean_0
        by_cases q : w = 0
        · simp (disch := omega) only [c1, e1, s2, es, abs_ii, ← hx, g3, max_ii, dv_ii, if_true, if_false, Option.bind_some, Option.map_some, ii_lit, ll_lit, ii_neg, ll_neg, ii_add, ii_sub, ii_mul, ll_add, ll_sub, ll_mul, ii_le, ii_lt, ii_eq, ii_t, bi_0, bi_1, rd_z, wr_z, rr_z, rl_z, wl_z, tn_n, st_s, st_j, st_i, st_c, st_2, sl_s, sl_j, sl_i, sl_c, sl_1, Int.natCast_add, Int.cast_ofNat_Int, if_pos, if_neg, decide_eq_false_iff_not, decide_eq_true_eq, in_ll, ii_long, Nat.zero_add, Nat.mul_zero, reduceCtorEq]
          by_cases q1 : 1 < Nat.gcd x c
          · simp (disch := omega) only [dv_ii, if_true, if_false, Option.bind_some, Option.map_some, ii_lit, ll_lit, ii_neg, ll_neg, ii_add, ii_sub, ii_mul, ll_add, ll_sub, ll_mul, ii_le, ii_lt, ii_eq, ii_t, bi_0, bi_1, rd_z, wr_z, rr_z, rl_z, wl_z, tn_n, st_s, st_j, st_i, st_c, st_2, sl_s, sl_j, sl_i, sl_c, sl_1, Int.natCast_add, Int.cast_ofNat_Int, if_pos, if_neg, decide_eq_false_iff_not, decide_eq_true_eq, in_ll, ii_long, Nat.zero_add, Nat.mul_zero, reduceCtorEq]
          · have : Nat.gcd x c = 1 := by omega
            rw [this]
            simp (disch := omega) only [dv_ii, if_true, if_false, Option.bind_some, Option.map_some, ii_lit, ll_lit, ii_neg, ll_neg, ii_add, ii_sub, ii_mul, ll_add, ll_sub, ll_mul, ii_le, ii_lt, ii_eq, ii_t, bi_0, bi_1, rd_z, wr_z, rr_z, rl_z, wl_z, tn_n, st_s, st_j, st_i, st_c, st_2, sl_s, sl_j, sl_i, sl_c, sl_1, Int.natCast_add, Int.cast_ofNat_Int, if_pos, if_neg, decide_eq_false_iff_not, decide_eq_true_eq, in_ll, ii_long, Nat.zero_add, Nat.mul_zero, reduceCtorEq]
        · simp (disch := omega) only [c1, e1, s2, es, abs_ii, ← hx, g3, max_ii, dv_ii, if_true, if_false, Option.bind_some, Option.map_some, ii_lit, ll_lit, ii_neg, ll_neg, ii_add, ii_sub, ii_mul, ll_add, ll_sub, ll_mul, ii_le, ii_lt, ii_eq, ii_t, bi_0, bi_1, rd_z, wr_z, rr_z, rl_z, wl_z, tn_n, st_s, st_j, st_i, st_c, st_2, sl_s, sl_j, sl_i, sl_c, sl_1, Int.natCast_add, Int.cast_ofNat_Int, if_pos, if_neg, decide_eq_false_iff_not, decide_eq_true_eq, in_ll, ii_long, Nat.zero_add, Nat.mul_zero, reduceCtorEq]
          by_cases q1 : 1 < Nat.gcd x c
          · simp (disch := omega) only [dv_ii, if_true, if_false, Option.bind_some, Option.map_some, ii_lit, ll_lit, ii_neg, ll_neg, ii_add, ii_sub, ii_mul, ll_add, ll_sub, ll_mul, ii_le, ii_lt, ii_eq, ii_t, bi_0, bi_1, rd_z, wr_z, rr_z, rl_z, wl_z, tn_n, st_s, st_j, st_i, st_c, st_2, sl_s, sl_j, sl_i, sl_c, sl_1, Int.natCast_add, Int.cast_ofNat_Int, if_pos, if_neg, decide_eq_false_iff_not, decide_eq_true_eq, in_ll, ii_long, Nat.zero_add, Nat.mul_zero, reduceCtorEq]
          · have : Nat.gcd x c = 1 := by omega
            rw [this]
            simp (disch := omega) only [dv_ii, if_true, if_false, Option.bind_some, Option.map_some, ii_lit, ll_lit, ii_neg, ll_neg, ii_add, ii_sub, ii_mul, ll_add, ll_sub, ll_mul, ii_le, ii_lt, ii_eq, ii_t, bi_0, bi_1, rd_z, wr_z, rr_z, rl_z, wl_z, tn_n, st_s, st_j, st_i, st_c, st_2, sl_s, sl_j, sl_i, sl_c, sl_1, Int.natCast_add, Int.cast_ofNat_Int, if_pos, if_neg, decide_eq_false_iff_not, decide_eq_true_eq, in_ll, ii_long, Nat.zero_add, Nat.mul_zero, reduceCtorEq]
      · unfold fX8_mean fX8_mean_0
        simp (disch := omega) only [c2, e2, s3, e5, if_true, if_false, Option.bind_some, Option.map_some, ii_lit, ll_lit, ii_neg, ll_neg, ii_add, ii_sub, ii_mul, ll_add, ll_sub, ll_mul, ii_le, ii_lt, ii_eq, ii_t, bi_0, bi_1, rd_z, wr_z, rr_z, rl_z, wl_z, tn_n, st_s, st_j, st_i, st_c, st_2, sl_s, sl_j, sl_i, sl_c, sl_1, Int.natCast_add, Int.cast_ofNat_Int, if_pos, if_neg, decide_eq_false_iff_not, decide_eq_true_eq, in_ll, ii_long, Nat.zero_add, Nat.mul_zero, reduceCtorEq]
  · obtain ⟨σ', τ', e3, e4, hr⟩ := fd0 hR
    refine ⟨ii (-1000000001), σ', τ', ?_, ?_, _, hr⟩
    · unfold fX7_mean fX7_mean_0 fX7_mean_20
      by_cases k1 : 0 ≤ l ∧ l < A.n
      · by_cases k2 : w < 0
        · simp (disch := omega) only [c1, e3, if_true, if_false, Option.bind_some, Option.map_some, ii_lit, ll_lit, ii_neg, ll_neg, ii_add, ii_sub, ii_mul, ll_add, ll_sub, ll_mul, ii_le, ii_lt, ii_eq, ii_t, bi_0, bi_1, rd_z, wr_z, rr_z, rl_z, wl_z, tn_n, st_s, st_j, st_i, st_c, st_2, sl_s, sl_j, sl_i, sl_c, sl_1, Int.natCast_add, Int.cast_ofNat_Int, if_pos, if_neg, decide_eq_false_iff_not, decide_eq_true_eq, in_ll, ii_long, Nat.zero_add, Nat.mul_zero, reduceCtorEq]
        · simp (disch := omega) only [c1, e3, if_true, if_false, Option.bind_some, Option.map_some, ii_lit, ll_lit, ii_neg, ll_neg, ii_add, ii_sub, ii_mul, ll_add, ll_sub, ll_mul, ii_le, ii_lt, ii_eq, ii_t, bi_0, bi_1, rd_z, wr_z, rr_z, rl_z, wl_z, tn_n, st_s, st_j, st_i, st_c, st_2, sl_s, sl_j, sl_i, sl_c, sl_1, Int.natCast_add, Int.cast_ofNat_Int, if_pos, if_neg, decide_eq_false_iff_not, decide_eq_true_eq, in_ll, ii_long, Nat.zero_add, Nat.mul_zero, reduceCtorEq]
      · simp (disch := omega) only [c1, e3, if_true, if_false, Option.bind_some, Option.map_some, ii_lit, ll_lit, ii_neg, ll_neg, ii_add, ii_sub, ii_mul, ll_add, ll_sub, ll_mul, ii_le, ii_lt, ii_eq, ii_t, bi_0, bi_1, rd_z, wr_z, rr_z, rl_z, wl_z, tn_n, st_s, st_j, st_i, st_c, st_2, sl_s, sl_j, sl_i, sl_c, sl_1, Int.natCast_add, Int.cast_ofNat_Int, if_pos, if_neg, decide_eq_false_iff_not, decide_eq_true_eq, in_ll, ii_long, Nat.zero_add, Nat.mul_zero, reduceCtorEq]
    · unfold fX8_mean fX8_mean_0 fX8_mean_18
      by_cases k1 : 0 ≤ l ∧ l < A.n
      · simp (disch := omega) only [c2, e4, if_true, if_false, Option.bind_some, Option.map_some, ii_lit, ll_lit, ii_neg, ll_neg, ii_add, ii_sub, ii_mul, ll_add, ll_sub, ll_mul, ii_le, ii_lt, ii_eq, ii_t, bi_0, bi_1, rd_z, wr_z, rr_z, rl_z, wl_z, tn_n, st_s, st_j, st_i, st_c, st_2, sl_s, sl_j, sl_i, sl_c, sl_1, Int.natCast_add, Int.cast_ofNat_Int, if_pos, if_neg, decide_eq_false_iff_not, decide_eq_true_eq, in_ll, ii_long, Nat.zero_add, Nat.mul_zero, reduceCtorEq]
      · simp (disch := omega) only [c2, e4, if_true, if_false, Option.bind_some, Option.map_some, ii_lit, ll_lit, ii_neg, ll_neg, ii_add, ii_sub, ii_mul, ll_add, ll_sub, ll_mul, ii_le, ii_lt, ii_eq, ii_t, bi_0, bi_1, rd_z, wr_z, rr_z, rl_z, wl_z, tn_n, st_s, st_j, st_i, st_c, st_2, sl_s, sl_j, sl_i, sl_c, sl_1, Int.natCast_add, Int.cast_ofNat_Int, if_pos, if_neg, decide_eq_false_iff_not, decide_eq_true_eq, in_ll, ii_long, Nat.zero_add, Nat.mul_zero, reduceCtorEq]
