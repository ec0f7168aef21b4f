-- THE TAPE: bytes
def bt8 (x : Int32) : Int := ((x.toBitVec.toNat % 256 : Nat) : Int)
def sg8 (y : Int) : Int := if y < 128 then y else y - 256
theorem ii_bv (x : Int32) : x = ii ((x.toBitVec.toNat : Nat) : Int) := by
  apply Int32.toBitVec_inj.1
  rw [bv_n]
  simp
theorem bt8_r (x : Int32) : 0 ≤ bt8 x ∧ bt8 x < 256 := by
  unfold bt8
  omega
theorem and255 (x : Int32) : x &&& ii 255 = ii (bt8 x) := by
  conv => lhs; rw [ii_bv x]
  rw [show (255 : Int) = ((255 : Nat) : Int) from rfl, and_n, show (255 : Nat) = 2 ^ 8 - 1 from rfl, Nat.and_two_pow_sub_one_eq_mod]
  rfl
theorem byte_of (x : Int32) : x.toInt8.toInt32 = ii (sg8 (bt8 x)) := by
  have e : x.toInt8.toInt = sg8 (bt8 x) := by
    conv => lhs; rw [ii_bv x]
    rw [show (ii ((x.toBitVec.toNat : Nat) : Int)).toInt8 = Int8.ofInt ((x.toBitVec.toNat : Nat) : Int) from Int32.toInt8_ofInt, Int8.toInt_ofInt, Int.bmod_def]
    show (if ((x.toBitVec.toNat : Nat) : Int) % ((256 : Nat) : Int) < (((256 : Nat) : Int) + 1) / 2 then ((x.toBitVec.toNat : Nat) : Int) % ((256 : Nat) : Int) else ((x.toBitVec.toNat : Nat) : Int) % ((256 : Nat) : Int) - ((256 : Nat) : Int)) = _
    unfold sg8 bt8
    split <;> split <;> omega
  rw [← e]
  rfl
theorem nar_byte (x : Int32) : vp_nar .byte x = x.toInt8.toInt32 := rfl
theorem byte_id {y : Int} (h : -128 ≤ y) (h2 : y < 128) : (ii y).toInt8.toInt32 = ii y := by
  have e : (ii y).toInt = y := ii_t (by omega) (by omega)
  have e2 : (ii y).toBitVec.toInt = y := e
  rw [BitVec.toInt_eq_toNat_cond] at e2
  have e3 : sg8 (bt8 (ii y)) = y := by
    unfold sg8 bt8
    split at e2 <;> split <;> omega
  rw [byte_of, e3]
theorem m_feed {σ τ : mm} (h : Rel σ τ) (a n : Int32) : Ag (fX7_feed a n σ) (fX8_feed a n τ) := by
  obtain ⟨A, hR⟩ := h
  obtain ⟨n, rfl, h1, h2⟩ := ii_ex n
  obtain ⟨c1, c2, c3, c4, c5⟩ := hR.2.2
  obtain ⟨len, y, t1, t2, t3, t4⟩ := c2
  by_cases k : 1 ≤ n ∧ n ≤ 4
  · obtain ⟨n, rfl⟩ : ∃ k : Nat, n = k := ⟨n.toNat, by omega⟩
    by_cases hf : len + n ≤ 120
    · let z : Int → Int32 := fun j => a >>> (ii (8 * j) &&& ii 31)
      have hz : ∀ j, a >>> (ii (8 * j) &&& ii 31) = z j := fun _ => rfl
      have s1 : ∃ r, lp (fX7_feed_40_L a) (ii ((n : Int) - 1), σ) = some r ∧ (r.1 = ii ((len + n : Nat)) ∧ r.2.1 3 0 0 = ii ((len + n : Nat)) ∧ (∀ t, t < len → r.2.1 21 0 t = σ.1 21 0 t) ∧ (∀ t, t < n → r.2.1 21 0 (len + t) = ii (sg8 (bt8 (z ((n : Int) - 1 - t))))) ∧ Fr [3, 21] [] σ r.2) := by
        refine lp_j (fun i s => s.1 = ii ((n : Int) - 1 - i) ∧ s.2.1 3 0 0 = ii ((len + i : Nat)) ∧ (∀ t, t < len → s.2.1 21 0 t = σ.1 21 0 t) ∧ (∀ t, t < i → s.2.1 21 0 (len + t) = ii (sg8 (bt8 (z ((n : Int) - 1 - t))))) ∧ Fr [3, 21] [] σ s.2) _ n ⟨by simp, t2, fun _ _ => rfl, fun t ht => by omega, Fr.rf _ _ _⟩ ?_ ?_
        · rintro i ⟨x, s⟩ hi ⟨g1, g2, g3, g4, g5⟩
          have g1 : x = ii ((n : Int) - 1 - i) := g1
          subst g1
          have g2 : s.1 3 0 0 = ii ((len + i : Nat)) := g2
          have hb := bt8_r (z ((n : Int) - 1 - i))
          have hs : -128 ≤ sg8 (bt8 (z ((n : Int) - 1 - i))) ∧ sg8 (bt8 (z ((n : Int) - 1 - i))) < 128 := by
            unfold sg8
            split <;> omega
          have ea : fX3_add (ii (sg8 (bt8 (z ((n : Int) - 1 - i))))) s = some (stI (stI s 21 0 (len + i) (ii (sg8 (bt8 (z ((n : Int) - 1 - i)))))) 3 0 0 (ii ((len + i + 1 : Nat)))) := by
            unfold fX3_add fX3_add_0
            simp (disch := omega) only [g2, nar_byte, byte_id, show ((len : Int) + (i : Int)).toNat = len + i by omega, if_true, if_false, Option.bind_some, Option.map_some, ii_lit, ll_lit, ii_neg, ll_neg, ii_add, ii_sub, ii_mul, ll_add, ll_sub, ll_mul, ii_le, ii_lt, ii_eq, ii_t, bi_0, bi_1, rd_z, wr_z, rr_z, rl_z, wl_z, tn_n, st_s, st_j, st_i, st_c, st_2, sl_s, sl_j, sl_i, sl_c, sl_1, Int.natCast_add, Int.cast_ofNat_Int, if_pos, if_neg]
          refine ⟨(ii ((n : Int) - 1 - ((i + 1 : Nat))), stI (stI s 21 0 (len + i) (ii (sg8 (bt8 (z ((n : Int) - 1 - i)))))) 3 0 0 (ii ((len + i + 1 : Nat)))), ?_, rfl, ?_, ?_, ?_, (g5.sI (by decide) (by decide)).sI (by decide) (by decide)⟩
          · have e1 : (n : Int) - 1 - (i : Int) + -1 = (n : Int) - 1 - ((i : Int) + 1) := by omega
            simp (disch := omega) only [fX7_feed_40_L, fX7_feed_40, hz, byte_of, ea, e1, if_true, if_false, Option.bind_some, Option.map_some, ii_lit, ll_lit, ii_neg, ll_neg, ii_add, ii_sub, ii_mul, ll_add, ll_sub, ll_mul, ii_le, ii_lt, ii_eq, ii_t, bi_0, bi_1, rd_z, wr_z, rr_z, rl_z, wl_z, tn_n, st_s, st_j, st_i, st_c, st_2, sl_s, sl_j, sl_i, sl_c, sl_1, Int.natCast_add, Int.cast_ofNat_Int, if_pos, if_neg]
          · show (stI (stI s 21 0 (len + i) _) 3 0 0 (ii ((len + i + 1 : Nat)))).1 3 0 0 = _
            rw [st_s]
            rfl
          · intro t ht
            show (stI (stI s 21 0 (len + i) _) 3 0 0 _).1 21 0 t = _
            rw [st_c _ _ _ _ (by decide), st_j _ _ (by omega)]
            exact g3 t ht
          · intro t ht
            show (stI (stI s 21 0 (len + i) _) 3 0 0 _).1 21 0 (len + t) = _
            rw [st_c _ _ _ _ (by decide)]
            by_cases hti : t = i
            · subst hti
              rw [st_s]
            · rw [st_j _ _ (by omega)]
              exact g4 t (by omega)
        · rintro ⟨x, s⟩ ⟨g1, g2, g3, g4, g5⟩
          have g1 : x = ii ((n : Int) - 1 - n) := g1
          subst g1
          have g2 : s.1 3 0 0 = ii ((len + n : Nat)) := g2
          refine ⟨(ii ((len + n : Nat)), s), ?_, rfl, g2, g3, g4, g5⟩
          simp (disch := omega) only [fX7_feed_40_L, fX7_feed_40, g2, if_true, if_false, Option.bind_some, Option.map_some, ii_lit, ll_lit, ii_neg, ll_neg, ii_add, ii_sub, ii_mul, ll_add, ll_sub, ll_mul, ii_le, ii_lt, ii_eq, ii_t, bi_0, bi_1, rd_z, wr_z, rr_z, rl_z, wl_z, tn_n, st_s, st_j, st_i, st_c, st_2, sl_s, sl_j, sl_i, sl_c, sl_1, Int.natCast_add, Int.cast_ofNat_Int, if_pos, if_neg]
      have s2 : ∃ r, lp (fX8_feed_41_L a) (ii ((n : Int) - 1), τ) = some r ∧ (r.1 = ii ((len + n : Nat)) ∧ r.2.1 32 0 28 = ii ((len + n : Nat)) ∧ (∀ t, t < len → r.2.1 67 0 t = τ.1 67 0 t) ∧ (∀ t, t < n → r.2.1 67 0 (len + t) = ii (bt8 (z ((n : Int) - 1 - t)))) ∧ Fr [67] [28] τ r.2) := by
        refine lp_j (fun i s => s.1 = ii ((n : Int) - 1 - i) ∧ s.2.1 32 0 28 = ii ((len + i : Nat)) ∧ (∀ t, t < len → s.2.1 67 0 t = τ.1 67 0 t) ∧ (∀ t, t < i → s.2.1 67 0 (len + t) = ii (bt8 (z ((n : Int) - 1 - t)))) ∧ Fr [67] [28] τ s.2) _ n ⟨by simp, t3, fun _ _ => rfl, fun t ht => by omega, Fr.rf _ _ _⟩ ?_ ?_
        · rintro i ⟨x, s⟩ hi ⟨g1, g2, g3, g4, g5⟩
          have g1 : x = ii ((n : Int) - 1 - i) := g1
          subst g1
          have g2 : s.1 32 0 28 = ii ((len + i : Nat)) := g2
          refine ⟨(ii ((n : Int) - 1 - ((i + 1 : Nat))), stI (stI s 67 0 (len + i) (ii (bt8 (z ((n : Int) - 1 - i))))) 32 0 28 (ii ((len + i + 1 : Nat)))), ?_, rfl, ?_, ?_, ?_, (g5.sI (by decide) (by decide)).sF (by decide)⟩
          · have e1 : (n : Int) - 1 - (i : Int) + -1 = (n : Int) - 1 - ((i : Int) + 1) := by omega
            simp (disch := omega) only [fX8_feed_41_L, fX8_feed_41, hz, and255, g2, e1, show ((len : Int) + (i : Int)).toNat = len + i by omega, if_true, if_false, Option.bind_some, Option.map_some, ii_lit, ll_lit, ii_neg, ll_neg, ii_add, ii_sub, ii_mul, ll_add, ll_sub, ll_mul, ii_le, ii_lt, ii_eq, ii_t, bi_0, bi_1, rd_z, wr_z, rr_z, rl_z, wl_z, tn_n, st_s, st_j, st_i, st_c, st_2, sl_s, sl_j, sl_i, sl_c, sl_1, Int.natCast_add, Int.cast_ofNat_Int, if_pos, if_neg]
          · show (stI (stI s 67 0 (len + i) _) 32 0 28 (ii ((len + i + 1 : Nat)))).1 32 0 28 = _
            rw [st_s]
            rfl
          · intro t ht
            show (stI (stI s 67 0 (len + i) _) 32 0 28 _).1 67 0 t = _
            rw [st_c _ _ _ _ (by decide), st_j _ _ (by omega)]
            exact g3 t ht
          · intro t ht
            show (stI (stI s 67 0 (len + i) _) 32 0 28 _).1 67 0 (len + t) = _
            rw [st_c _ _ _ _ (by decide)]
            by_cases hti : t = i
            · subst hti
              rw [st_s]
            · rw [st_j _ _ (by omega)]
              exact g4 t (by omega)
        · rintro ⟨x, s⟩ ⟨g1, g2, g3, g4, g5⟩
          have g1 : x = ii ((n : Int) - 1 - n) := g1
          subst g1
          have g2 : s.1 32 0 28 = ii ((len + n : Nat)) := g2
          refine ⟨(ii ((len + n : Nat)), s), ?_, rfl, g2, g3, g4, g5⟩
          simp (disch := omega) only [fX8_feed_41_L, fX8_feed_41, g2, if_true, if_false, Option.bind_some, Option.map_some, ii_lit, ll_lit, ii_neg, ll_neg, ii_add, ii_sub, ii_mul, ll_add, ll_sub, ll_mul, ii_le, ii_lt, ii_eq, ii_t, bi_0, bi_1, rd_z, wr_z, rr_z, rl_z, wl_z, tn_n, st_s, st_j, st_i, st_c, st_2, sl_s, sl_j, sl_i, sl_c, sl_1, Int.natCast_add, Int.cast_ofNat_Int, if_pos, if_neg]
      obtain ⟨⟨r1, σ1⟩, e1, f0, f1, f2, f3, f4⟩ := s1
      obtain ⟨⟨r2, τ1⟩, e2, g0, g1, g2, g3, g4⟩ := s2
      have f0 : r1 = ii ((len + n : Nat)) := f0
      have g0 : r2 = ii ((len + n : Nat)) := g0
      subst f0 g0
      have hRl : RelA σ1 τ1 A := hR.fr f4 g4 (by decide) (by decide) (by decide) ⟨c1.fr f4 g4 (by decide) (by decide) (by decide), ⟨len + n, fun k => if k < len then y k else bt8 (z ((n : Int) - 1 - ((k - len : Nat)))), hf, f1, g1, ?_⟩, c3.fr f4 g4 (by decide) (by decide), c4.fr f4 g4 (by decide) (by decide), c5.fr g4 (by decide)⟩
      · refine ⟨ii ((len + n : Nat)), σ1, τ1, ?_, ?_, _, hRl⟩
        · unfold fX7_feed fX7_feed_0
          simp (disch := omega) only [t2, e1, if_true, if_false, Option.bind_some, Option.map_some, ii_lit, ll_lit, ii_neg, ll_neg, ii_add, ii_sub, ii_mul, ll_add, ll_sub, ll_mul, ii_le, ii_lt, ii_eq, ii_t, bi_0, bi_1, rd_z, wr_z, rr_z, rl_z, wl_z, tn_n, st_s, st_j, st_i, st_c, st_2, sl_s, sl_j, sl_i, sl_c, sl_1, Int.natCast_add, Int.cast_ofNat_Int, if_pos, if_neg, decide_eq_false_iff_not, decide_eq_true_eq, in_ll, ii_long, Nat.zero_add, Nat.mul_zero, reduceCtorEq]
        · unfold fX8_feed fX8_feed_0
          simp (disch := omega) only [t3, e2, if_true, if_false, Option.bind_some, Option.map_some, ii_lit, ll_lit, ii_neg, ll_neg, ii_add, ii_sub, ii_mul, ll_add, ll_sub, ll_mul, ii_le, ii_lt, ii_eq, ii_t, bi_0, bi_1, rd_z, wr_z, rr_z, rl_z, wl_z, tn_n, st_s, st_j, st_i, st_c, st_2, sl_s, sl_j, sl_i, sl_c, sl_1, Int.natCast_add, Int.cast_ofNat_Int, if_pos, if_neg, decide_eq_false_iff_not, decide_eq_true_eq, in_ll, ii_long, Nat.zero_add, Nat.mul_zero, reduceCtorEq]
      · intro k hk
        by_cases q : k < len
        · simp only [if_pos q]
          rw [g2 k q, f2 k q]
          exact t4 k q
        · simp only [if_neg q]
          obtain ⟨t, rfl⟩ : ∃ t, k = len + t := ⟨k - len, by omega⟩
          rw [show len + t - len = t by omega, g3 t (by omega), f3 t (by omega)]
          exact ⟨bt8_r _, rfl, rfl⟩
    · obtain ⟨σ', τ', e3, e4, hr⟩ := fd1 hR
      refine ⟨ii (-1000000002), σ', τ', ?_, ?_, _, hr⟩
      · unfold fX7_feed fX7_feed_0
        simp (disch := omega) only [t2, e3, if_true, if_false, Option.bind_some, Option.map_some, ii_lit, ll_lit, ii_neg, ll_neg, ii_add, ii_sub, ii_mul, ll_add, ll_sub, ll_mul, ii_le, ii_lt, ii_eq, ii_t, bi_0, bi_1, rd_z, wr_z, rr_z, rl_z, wl_z, tn_n, st_s, st_j, st_i, st_c, st_2, sl_s, sl_j, sl_i, sl_c, sl_1, Int.natCast_add, Int.cast_ofNat_Int, if_pos, if_neg, decide_eq_false_iff_not, decide_eq_true_eq, in_ll, ii_long, Nat.zero_add, Nat.mul_zero, reduceCtorEq]
      · unfold fX8_feed fX8_feed_0
        simp (disch := omega) only [t3, e4, if_true, if_false, Option.bind_some, Option.map_some, ii_lit, ll_lit, ii_neg, ll_neg, ii_add, ii_sub, ii_mul, ll_add, ll_sub, ll_mul, ii_le, ii_lt, ii_eq, ii_t, bi_0, bi_1, rd_z, wr_z, rr_z, rl_z, wl_z, tn_n, st_s, st_j, st_i, st_c, st_2, sl_s, sl_j, sl_i, sl_c, sl_1, Int.natCast_add, Int.cast_ofNat_Int, if_pos, if_neg, decide_eq_false_iff_not, decide_eq_true_eq, in_ll, ii_long, Nat.zero_add, Nat.mul_zero, reduceCtorEq]
  · obtain ⟨σ', τ', e3, e4, hr⟩ := fd0 hR
    refine ⟨ii (-1000000001), σ', τ', ?_, ?_, _, hr⟩
    · unfold fX7_feed fX7_feed_0 fX7_feed_10
      by_cases q : n < 1
      · simp (disch := omega) only [e3, if_true, if_false, Option.bind_some, Option.map_some, ii_lit, ll_lit, ii_neg, ll_neg, ii_add, ii_sub, ii_mul, ll_add, ll_sub, ll_mul, ii_le, ii_lt, ii_eq, ii_t, bi_0, bi_1, rd_z, wr_z, rr_z, rl_z, wl_z, tn_n, st_s, st_j, st_i, st_c, st_2, sl_s, sl_j, sl_i, sl_c, sl_1, Int.natCast_add, Int.cast_ofNat_Int, if_pos, if_neg, decide_eq_false_iff_not, decide_eq_true_eq, in_ll, ii_long, Nat.zero_add, Nat.mul_zero, reduceCtorEq]
      · simp (disch := omega) only [e3, if_true, if_false, Option.bind_some, Option.map_some, ii_lit, ll_lit, ii_neg, ll_neg, ii_add, ii_sub, ii_mul, ll_add, ll_sub, ll_mul, ii_le, ii_lt, ii_eq, ii_t, bi_0, bi_1, rd_z, wr_z, rr_z, rl_z, wl_z, tn_n, st_s, st_j, st_i, st_c, st_2, sl_s, sl_j, sl_i, sl_c, sl_1, Int.natCast_add, Int.cast_ofNat_Int, if_pos, if_neg, decide_eq_false_iff_not, decide_eq_true_eq, in_ll, ii_long, Nat.zero_add, Nat.mul_zero, reduceCtorEq]
    · unfold fX8_feed fX8_feed_0
      simp (disch := omega) only [e4, if_true, if_false, Option.bind_some, Option.map_some, ii_lit, ll_lit, ii_neg, ll_neg, ii_add, ii_sub, ii_mul, ll_add, ll_sub, ll_mul, ii_le, ii_lt, ii_eq, ii_t, bi_0, bi_1, rd_z, wr_z, rr_z, rl_z, wl_z, tn_n, st_s, st_j, st_i, st_c, st_2, sl_s, sl_j, sl_i, sl_c, sl_1, Int.natCast_add, Int.cast_ofNat_Int, if_pos, if_neg, decide_eq_false_iff_not, decide_eq_true_eq, in_ll, ii_long, Nat.zero_add, Nat.mul_zero, reduceCtorEq]
