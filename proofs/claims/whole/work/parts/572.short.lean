-- shortest
def mnf (A : bdy) : Nat → Int
  | 0 => 1000000000
  | v + 1 => if sqn (vm A v) A.n < mnf A v then sqn (vm A v) A.n else mnf A v
theorem vsq_b {A : bdy} (hA : okb A) (v : Nat) : 0 ≤ sqn (vm A v) A.n ∧ sqn (vm A v) A.n ≤ 256 := by
  have h := sqn_b (x := vm A v) A.n (fun l _ => by have := vm_b hA v l; omega)
  have := hA.1
  omega
theorem mnf_b {A : bdy} (hA : okb A) : ∀ v, 0 ≤ mnf A v ∧ mnf A v ≤ 1000000000 ∧ (0 < v → mnf A v ≤ 256 ∧ ∃ w, w < v ∧ mnf A v = sqn (vm A w) A.n) := by
  intro v
  induction v with
  | zero => exact ⟨by show (0 : Int) ≤ 1000000000; decide, Int.le_refl _, fun h => by omega⟩
  | succ v ih =>
    have b := vsq_b hA v
    obtain ⟨i1, i2, i3⟩ := ih
    by_cases g : sqn (vm A v) A.n < mnf A v
    · have e : mnf A (v + 1) = sqn (vm A v) A.n := if_pos g
      rw [e]
      exact ⟨by omega, by omega, fun _ => ⟨by omega, v, by omega, rfl⟩⟩
    · have e : mnf A (v + 1) = mnf A v := if_neg g
      rw [e]
      by_cases g0 : v = 0
      · subst g0
        have : mnf A 0 = 1000000000 := rfl
        omega
      · obtain ⟨j1, w, j2, j3⟩ := i3 (by omega)
        exact ⟨i1, i2, fun _ => ⟨j1, w, by omega, j3⟩⟩
theorem C_findShort {σ : mm} {A : bdy} {F : mat} (hC : isC σ 0 A) (hA : okb A) (hm : matC σ A.n F) (hp : pos A.n F) : ∃ σ' v0, fX2_findShort 0 σ = some σ' ∧ SS A.n F σ' (tf A.n (LL A.n F) A.n (fun _ => 0) (mnf A A.n + 1, v0)) ∧ Fr [2, 17, 18, 25] [] σ σ' := by
  have hn1 := hA.1
  have x3 := hm.2.1
  have hve : ∀ v l, v < A.n → l < A.n → vm A v l = A.ve v l := fun v l h1 h2 => if_pos ⟨h1, h2⟩
  have key : ∃ r, lp (fX2_findShort_8_L 0) (ii 0, stI σ 2 0 2 (ii 1000000000)) = some r ∧ ∃ v0, SS A.n F r (tf A.n (LL A.n F) A.n (fun _ => 0) (mnf A A.n + 1, v0)) ∧ Fr [2, 17, 18, 25] [] σ r := by
    refine lp_j (fun v (z : Int32 × mm) => z.1 = ii v ∧ z.2 = stI σ 2 0 2 (ii (mnf A v))) _ A.n ⟨rfl, rfl⟩ ?_ ?_
    · rintro v ⟨a, z⟩ hv ⟨g1, g2⟩
      simp only [] at g1 g2
      subst g1 g2
      have bm := mnf_b hA v
      have bs := vsq_b hA v
      have n3 : (stI σ 2 0 2 (ii (mnf A v))).1 2 0 3 = ii A.n := by rw [st_j _ _ (by decide)]; exact x3
      have n2 : (stI σ 2 0 2 (ii (mnf A v))).1 2 0 2 = ii (mnf A v) := st_s _ _ _ _ _
      have inner : lp (fX2_findShort_21_L 0 (ii v) (stI σ 2 0 2 (ii (mnf A v)))) (ii 0, ii 0) = some (.inl (ii ((v : Int) + 1), stI (stI σ 2 0 2 (ii (mnf A v))) 2 0 2 (ii (mnf A (v + 1))))) := by
        refine lp_f (fun k => (ii (sqn (vm A v) k), ii k)) A.n rfl ?_ ?_
        · intro k hk
          have y1 : (stI σ 2 0 2 (ii (mnf A v))).1 11 v k = ii (vm A v k) := by
            rw [st_c _ _ _ _ (by decide), hve v k hv hk]
            have := hC.2.2.2.2.2.2.2 v k (by omega) (by omega)
            rw [Nat.mul_zero, Nat.zero_add] at this
            exact this
          show fX2_findShort_21 0 (ii v) (ii (sqn (vm A v) k)) (ii k) (stI σ 2 0 2 (ii (mnf A v))) = _
          have es : sqn (vm A v) (k + 1) = sqn (vm A v) k + vm A v k * vm A v k := rfl
          rw [es]
          generalize stI σ 2 0 2 (ii (mnf A v)) = s at *
          unfold fX2_findShort_21
          simp (disch := omega) only [n3, y1, if_true, if_false, Option.bind_some, Option.map_some, ii_lit, ll_lit, ii_neg, ll_neg, ii_add, ii_sub, ii_mul, ll_add, ll_sub, ll_mul, ii_le, ii_lt, ii_eq, ii_t, bi_0, bi_1, rd_z, wr_z, rr_z, rl_z, wl_z, tn_n, st_s, st_j, st_i, st_c, st_2, sl_s, sl_j, sl_i, sl_c, sl_1, Int.natCast_add, Int.cast_ofNat_Int, if_pos, if_neg, decide_eq_false_iff_not, decide_eq_true_eq, in_ll, ii_long, Nat.zero_add, Nat.mul_zero, reduceCtorEq, Int.toNat_natCast]
        · show fX2_findShort_21 0 (ii v) (ii (sqn (vm A v) A.n)) (ii A.n) (stI σ 2 0 2 (ii (mnf A v))) = _
          have es : mnf A (v + 1) = if sqn (vm A v) A.n < mnf A v then sqn (vm A v) A.n else mnf A v := rfl
          rw [es]
          generalize stI σ 2 0 2 (ii (mnf A v)) = s at *
          unfold fX2_findShort_21
          simp (disch := omega) only [n3, n2, min_ii, if_true, if_false, Option.bind_some, Option.map_some, ii_lit, ll_lit, ii_neg, ll_neg, ii_add, ii_sub, ii_mul, ll_add, ll_sub, ll_mul, ii_le, ii_lt, ii_eq, ii_t, bi_0, bi_1, rd_z, wr_z, rr_z, rl_z, wl_z, tn_n, st_s, st_j, st_i, st_c, st_2, sl_s, sl_j, sl_i, sl_c, sl_1, Int.natCast_add, Int.cast_ofNat_Int, if_pos, if_neg, decide_eq_false_iff_not, decide_eq_true_eq, in_ll, ii_long, Nat.zero_add, Nat.mul_zero, reduceCtorEq]
      have e2 : stI (stI σ 2 0 2 (ii (mnf A v))) 2 0 2 (ii (mnf A (v + 1))) = stI σ 2 0 2 (ii (mnf A (v + 1))) := by
        unfold stI up3
        have : ∀ (g : Nat → Nat → Nat → Int32) (p q : Int32), up1 (up1 g 2 (up1 (g 2) 0 (up1 (g 2 0) 2 p))) 2 (up1 (up1 g 2 (up1 (g 2) 0 (up1 (g 2 0) 2 p)) 2) 0 (up1 (up1 g 2 (up1 (g 2) 0 (up1 (g 2 0) 2 p)) 2 0) 2 q)) = up1 g 2 (up1 (g 2) 0 (up1 (g 2 0) 2 q)) := fun g p q => by
          rw [up1_same, up1_same]
          funext a b c
          by_cases h1 : a = 2 <;> by_cases h2 : b = 0 <;> by_cases h3 : c = 2 <;> simp [up1, h1, h2, h3]
        simp only []
        rw [this]
      rw [e2] at inner
      refine ⟨(ii ((v : Int) + 1), stI σ 2 0 2 (ii (mnf A (v + 1)))), ?_, rfl, rfl⟩
      show fX2_findShort_8 0 (ii v) (stI σ 2 0 2 (ii (mnf A v))) = _
      unfold fX2_findShort_8
      generalize stI σ 2 0 2 (ii (mnf A v)) = s at *
      simp (disch := omega) only [n3, inner, if_true, if_false, Option.bind_some, Option.map_some, ii_lit, ll_lit, ii_neg, ll_neg, ii_add, ii_sub, ii_mul, ll_add, ll_sub, ll_mul, ii_le, ii_lt, ii_eq, ii_t, bi_0, bi_1, rd_z, wr_z, rr_z, rl_z, wl_z, tn_n, st_s, st_j, st_i, st_c, st_2, sl_s, sl_j, sl_i, sl_c, sl_1, Int.natCast_add, Int.cast_ofNat_Int, if_pos, if_neg, decide_eq_false_iff_not, decide_eq_true_eq, in_ll, ii_long, Nat.zero_add, Nat.mul_zero, reduceCtorEq]
    · rintro ⟨a, z⟩ ⟨g1, g2⟩
      simp only [] at g1 g2
      subst g1 g2
      obtain ⟨bm1, bm2, bm3⟩ := mnf_b hA A.n
      have bm4 := (bm3 (by omega)).1
      have n3 : (stI σ 2 0 2 (ii (mnf A A.n))).1 2 0 3 = ii A.n := by rw [st_j _ _ (by decide)]; exact x3
      have n2 : (stI σ 2 0 2 (ii (mnf A A.n))).1 2 0 2 = ii (mnf A A.n) := st_s _ _ _ _ _
      have f1 : Fr [2, 17, 18, 25] [] σ (stI (stI σ 2 0 2 (ii (mnf A A.n))) 2 0 2 (ii (mnf A A.n + 1))) := ((Fr.rf _ _ _).sI (by decide) (by decide)).sI (by decide) (by decide)
      have hS : SS A.n F (stI (stI σ 2 0 2 (ii (mnf A A.n))) 2 0 2 (ii (mnf A A.n + 1))) (mnf A A.n + 1, fun l => (σ.1 17 0 l).toInt) := by
        refine ⟨⟨hn1.2, ?_, fun i l hi hl => hm.2.2 i l hi hl⟩, st_s _ _ _ _ _, ?_, fun l hl => ?_⟩
        · rw [st_j _ _ (by decide)]
          exact n3
        · show 0 ≤ mnf A A.n + 1 ∧ mnf A A.n + 1 ≤ 2000
          omega
        · rw [st_c _ _ _ _ (by decide), st_c _ _ _ _ (by decide)]
          exact (ii_of _).symm
      obtain ⟨w, e, q1, q2, q3⟩ := C_try hn1.2 hp A.n (Nat.le_refl _) 6 (by omega) _ _ (fun _ => 0) (fun _ => ll 0) hS (fun v hv => by omega) (fun v hv => by omega)
      rw [Nat.sub_self] at e
      have e : fX2_tryLetter 6 (ii 0) (ii 0) (stI (stI σ 2 0 2 (ii (mnf A A.n))) 2 0 2 (ii (mnf A A.n + 1))) = some w := e
      refine ⟨w, ?_, _, q1, f1.tr q3⟩
      show fX2_findShort_8 0 (ii A.n) (stI σ 2 0 2 (ii (mnf A A.n))) = _
      unfold fX2_findShort_8
      generalize stI σ 2 0 2 (ii (mnf A A.n)) = s at *
      simp (disch := omega) only [n3, n2, e, if_true, if_false, Option.bind_some, Option.map_some, ii_lit, ll_lit, ii_neg, ll_neg, ii_add, ii_sub, ii_mul, ll_add, ll_sub, ll_mul, ii_le, ii_lt, ii_eq, ii_t, bi_0, bi_1, rd_z, wr_z, rr_z, rl_z, wl_z, tn_n, st_s, st_j, st_i, st_c, st_2, sl_s, sl_j, sl_i, sl_c, sl_1, Int.natCast_add, Int.cast_ofNat_Int, if_pos, if_neg, decide_eq_false_iff_not, decide_eq_true_eq, in_ll, ii_long, Nat.zero_add, Nat.mul_zero, reduceCtorEq]
  obtain ⟨w, e, v0, q⟩ := key
  refine ⟨w, v0, ?_, q⟩
  unfold fX2_findShort fX2_findShort_0
  simp (disch := omega) only [e, if_true, if_false, Option.bind_some, Option.map_some, ii_lit, ll_lit, ii_neg, ll_neg, ii_add, ii_sub, ii_mul, ll_add, ll_sub, ll_mul, ii_le, ii_lt, ii_eq, ii_t, bi_0, bi_1, rd_z, wr_z, rr_z, rl_z, wl_z, tn_n, st_s, st_j, st_i, st_c, st_2, sl_s, sl_j, sl_i, sl_c, sl_1, Int.natCast_add, Int.cast_ofNat_Int, if_pos, if_neg, decide_eq_false_iff_not, decide_eq_true_eq, in_ll, ii_long, Nat.zero_add, Nat.mul_zero, reduceCtorEq]
-- the reference's
theorem dig_b (k e : Nat) : k / 17 ^ e % 17 < 17 := Nat.mod_lt _ (by decide)
theorem M_short {τ : mm} {A : bdy} {F : mat} (hA : okb A) (hm : matM τ A.n F) (hp : pos A.n F) : ∃ τ' v0 b w, fX8_shortSquares τ = some (ii b, τ') ∧ (b, w) = itf (fun k s => lef A.n (LL A.n F) (ext A.n A.n (fun _ => 0) k) s) (17 ^ A.n) (1000, v0) ∧ (∀ l, l < A.n → τ'.1 66 0 l = ii (w l)) ∧ Fr [48, 65, 66] [] τ τ' := by
  have hn1 := hA.1
  have x1 := hm.2.1
  obtain ⟨v0, hv0⟩ : ∃ v0 : Nat → Int, v0 = fun l => (τ.1 66 0 l).toInt := ⟨_, rfl⟩
  have pw : 17 ^ A.n ≤ 17 ^ 4 := Nat.pow_le_pow_right (by decide) hn1.2
  rw [show 17 ^ 4 = 83521 from by decide] at pw
  have pp : 0 < 17 ^ A.n := Nat.pow_pos (by decide)
  have main : ∃ r, lp (fX8_shortSquares_29_L (ii ((17 ^ A.n : Nat) : Int))) (ii 1000, ii 0, τ) = some r ∧ ∃ b w, r.1 = ii b ∧ (b, w) = itf (fun k s => lef A.n (LL A.n F) (ext A.n A.n (fun _ => 0) k) s) (17 ^ A.n) (1000, v0) ∧ (∀ l, l < A.n → r.2.1 66 0 l = ii (w l)) ∧ Fr [48, 65, 66] [] τ r.2 := by
    refine lp_j (fun k (z : Int32 × Int32 × mm) => z.2.1 = ii k ∧ (∃ b w, z.1 = ii b ∧ (0 ≤ b ∧ b ≤ 1000) ∧ (b, w) = itf (fun k s => lef A.n (LL A.n F) (ext A.n A.n (fun _ => 0) k) s) k (1000, v0) ∧ (∀ l, l < A.n → z.2.2.1 66 0 l = ii (w l))) ∧ Fr [48, 65, 66] [] τ z.2.2) _ (17 ^ A.n) ⟨rfl, ⟨1000, v0, rfl, by omega, rfl, fun l hl => by rw [hv0]; exact (ii_of _).symm⟩, Fr.rf _ _ _⟩ ?_ ?_
    · rintro k ⟨a, d, z⟩ hk ⟨g1, ⟨b, w, g2, g3, g4, g5⟩, g6⟩
      simp only [] at g1 g2 g5 g6
      subst g1 g2
      obtain ⟨p, hpd⟩ : ∃ p, p = ext A.n A.n (fun _ => 0) k := ⟨_, rfl⟩
      have hpl : ∀ l, l < A.n → p l = 8 - ((k / 17 ^ (A.n - 1 - l) % 17 : Nat) : Int) := fun l hl => by
        rw [hpd]
        unfold ext
        rw [if_neg (by omega)]
      have hpb : ∀ l, l < A.n → -8 ≤ p l ∧ p l ≤ 8 := fun l hl => by
        rw [hpl l hl]
        have := dig_b k (A.n - 1 - l)
        omega
      have sb1 := sqn_b A.n hpb
      have mz := hm.fr g6 (by decide) (by decide)
      have y1 := mz.2.1
      -- the digits
      have dg : ∃ r, lp (fX8_shortSquares_48_L (ii b) (ii ((17 ^ A.n : Nat) : Int)) (ii k)) (ii k, ii 0, ii ((A.n : Int) - 1), z) = some r ∧ ∃ b' w' z', r = .inl (ii b', ii ((k : Int) + 1), z') ∧ (0 ≤ b' ∧ b' ≤ 1000) ∧ (b', w') = lef A.n (LL A.n F) p (b, w) ∧ (∀ l, l < A.n → z'.1 66 0 l = ii (w' l)) ∧ Fr [48, 65, 66] [] z z' := by
        refine lp_j (fun i (u : Int32 × Int32 × Int32 × mm) => u.1 = ii ((k / 17 ^ i : Nat) : Int) ∧ u.2.1 = ii (sqn p A.n - sqn p (A.n - i)) ∧ u.2.2.1 = ii ((A.n : Int) - 1 - i) ∧ (∀ l, A.n ≤ l + i → l < A.n → u.2.2.2.2 48 0 l = ll (p l)) ∧ Fr [48] [] z u.2.2.2) _ A.n ⟨?_, ?_, ?_, fun l h1 h2 => by omega, Fr.rf _ _ _⟩ ?_ ?_
        · show ii (k : Int) = ii ((k / 17 ^ 0 : Nat) : Int)
          rw [Nat.pow_zero, Nat.div_one]
        · show ii 0 = ii (sqn p A.n - sqn p (A.n - 0))
          rw [Nat.sub_zero, Int.sub_self]
        · show ii ((A.n : Int) - 1) = ii ((A.n : Int) - 1 - (0 : Nat))
          congr 1
          omega
        · rintro i ⟨a1, a2, a3, u⟩ hi ⟨h1, h2, h3, h4, h5⟩
          simp only [] at h1 h2 h3 h4 h5
          subst h1 h2 h3
          have kb : k / 17 ^ i ≤ k := Nat.div_le_self _ _
          have db := dig_b k i
          have pe : p (A.n - 1 - i) = 8 - ((k / 17 ^ i % 17 : Nat) : Int) := by
            rw [hpl _ (by omega), show A.n - 1 - (A.n - 1 - i) = i by omega]
          have pb := hpb (A.n - 1 - i) (by omega)
          have sx : sqn p (A.n - i) = sqn p (A.n - (i + 1)) + p (A.n - 1 - i) * p (A.n - 1 - i) := by
            rw [show A.n - i = (A.n - (i + 1)) + 1 by omega]
            show sqn p (A.n - (i + 1)) + p (A.n - (i + 1)) * p (A.n - (i + 1)) = _
            rw [show A.n - (i + 1) = A.n - 1 - i by omega]
          have tn : ((A.n : Int) - 1 - i).toNat = A.n - 1 - i := by omega
          have kb2 : ((k / 17 ^ i : Nat) : Int) < 2147483648 := by
            generalize k / 17 ^ i = D at kb
            omega
          have r1 := rm_nn (a := ((k / 17 ^ i : Nat) : Int)) (b := 17) (Int.natCast_nonneg _) kb2 (by decide) (by decide)
          have r2 := dv_nn (a := ((k / 17 ^ i : Nat) : Int)) (b := 17) (Int.natCast_nonneg _) kb2 (by decide) (by decide)
          rw [show ((k / 17 ^ i : Nat) : Int) % 17 = ((k / 17 ^ i % 17 : Nat) : Int) from rfl] at r1
          rw [show ((k / 17 ^ i : Nat) : Int) / 17 = ((k / 17 ^ (i + 1) : Nat) : Int) by rw [Nat.pow_succ, ← Nat.div_div_eq_div_mul]; rfl] at r2
          refine ⟨(ii ((k / 17 ^ (i + 1) : Nat) : Int), ii (sqn p A.n - sqn p (A.n - (i + 1))), ii ((A.n : Int) - 1 - ((i + 1 : Nat) : Int)), stL u 48 0 (A.n - 1 - i) (ll (p (A.n - 1 - i)))), ?_, rfl, rfl, rfl, fun l k1 k2 => ?_, h5.sL (by decide)⟩
          · show fX8_shortSquares_48 (ii b) (ii ((17 ^ A.n : Nat) : Int)) (ii k) (ii ((k / 17 ^ i : Nat) : Int)) (ii (sqn p A.n - sqn p (A.n - i))) (ii ((A.n : Int) - 1 - i)) u = _
            have e1 : sqn p A.n - sqn p (A.n - i) + p (A.n - 1 - i) * p (A.n - 1 - i) = sqn p A.n - sqn p (A.n - (i + 1)) := by omega
            have e2 : (A.n : Int) - 1 - i + -1 = (A.n : Int) - 1 - ((i + 1 : Nat) : Int) := by omega
            rw [← e1, ← e2]
            unfold fX8_shortSquares_48
            generalize k / 17 ^ (i + 1) = D2 at *
            generalize k / 17 ^ i = D1 at *
            generalize sqn p A.n - sqn p (A.n - i) = S1 at *
            simp (disch := omega) only [tn, r1, r2, ← pe, if_true, if_false, Option.bind_some, Option.map_some, ii_lit, ll_lit, ii_neg, ii_add, ii_sub, ii_mul, ll_mul, ii_lt, ii_long, wl_z, rl_z, sl_s, ll_int, if_neg]
          · show (stL u 48 0 (A.n - 1 - i) _).2 48 0 l = _
            by_cases gl : l = A.n - 1 - i
            · subst gl
              rw [sl_s]
            · rw [sl_j _ _ gl]
              exact h4 l (by omega) k2
        · rintro ⟨a1, a2, a3, u⟩ ⟨h1, h2, h3, h4, h5⟩
          simp only [] at h1 h2 h3 h4 h5
          subst h1 h2 h3
          have e0 : sqn p A.n - sqn p (A.n - A.n) = sqn p A.n := by
            rw [Nat.sub_self]
            show sqn p A.n - 0 = sqn p A.n
            omega
          rw [e0]
          have e3 : (A.n : Int) - 1 - A.n = -1 := by omega
          rw [e3]
          have h66 : ∀ l, l < A.n → u.1 66 0 l = ii (w l) := fun l hl => by rw [h5.1 66 (by decide) (by decide)]; exact g5 l hl
          show ∃ r, fX8_shortSquares_48 (ii b) (ii ((17 ^ A.n : Nat) : Int)) (ii k) _ (ii (sqn p A.n)) (ii (-1)) u = some (.inr r) ∧ _
          by_cases q0 : 0 < sqn p A.n ∧ sqn p A.n < b
          · obtain ⟨u1, i1, i2⟩ := M_isl (y0 := fun l => ll (p l)) (mz.fr h5 (by decide) (by decide)) hp (fun l hl => h4 l (by omega) hl)
            have i1 : fX8_isInLattice u = some (LL A.n F p, u1) := i1
            cases hl : LL A.n F p
            · rw [hl] at i1
              refine ⟨.inl (ii b, ii ((k : Int) + 1), u1), ?_, b, w, u1, rfl, g3, ?_, fun l hl => by rw [i2.1 66 (by decide) (by decide)]; exact h66 l hl, (h5.mono (by decide) (by decide)).tr (i2.mono (by decide) (by decide))⟩
              · unfold fX8_shortSquares_48 fX8_shortSquares_157
                simp (disch := omega) only [i1, if_true, if_false, Option.bind_some, Option.map_some, ii_lit, ll_lit, ii_neg, ll_neg, ii_add, ii_sub, ii_mul, ll_add, ll_sub, ll_mul, ii_le, ii_lt, ii_eq, ii_t, bi_0, bi_1, rd_z, wr_z, rr_z, rl_z, wl_z, tn_n, st_s, st_j, st_i, st_c, st_2, sl_s, sl_j, sl_i, sl_c, sl_1, Int.natCast_add, Int.cast_ofNat_Int, if_pos, if_neg, decide_eq_false_iff_not, decide_eq_true_eq, in_ll, ii_long, Nat.zero_add, Nat.mul_zero, reduceCtorEq]
              · unfold lef
                rw [if_neg (fun h => by rw [hl] at h; exact absurd h.2.2 (by decide))]
            · rw [hl] at i1
              have cpy : ∃ r, lp (fX8_shortSquares_127_L (ii (sqn p A.n)) (ii ((17 ^ A.n : Nat) : Int)) (ii k)) (ii 0, u1) = some r ∧ ∃ u2, r = .inl (ii (sqn p A.n), ii ((k : Int) + 1), u2) ∧ (∀ l, l < A.n → u2.1 66 0 l = ii (p l)) ∧ Fr [66] [] u1 u2 := by
                refine lp_j (fun j (o : Int32 × mm) => o.1 = ii j ∧ (∀ l, l < j → o.2.1 66 0 l = ii (p l)) ∧ Fr [66] [] u1 o.2) _ A.n ⟨rfl, fun l hl => by omega, Fr.rf _ _ _⟩ ?_ ?_
                · rintro j ⟨o1, o⟩ hj ⟨t1, t2, t3⟩
                  simp only [] at t1 t2 t3
                  subst t1
                  have w1 : o.1 32 0 1 = ii A.n := by rw [t3.2.2 1 (by decide), i2.2.2 1 (by decide), h5.2.2 1 (by decide)]; exact y1
                  have w2 : o.2 48 0 j = ll (p j) := by rw [t3.2.1 48 (by decide), i2.2.1 48 (by decide)]; exact h4 j (by omega) hj
                  refine ⟨(ii ((j + 1 : Nat)), stI o 66 0 j (ii (p j))), ?_, rfl, fun l hl => ?_, t3.sI (by decide) (by decide)⟩
                  · show fX8_shortSquares_127 (ii (sqn p A.n)) (ii ((17 ^ A.n : Nat) : Int)) (ii k) (ii j) o = _
                    unfold fX8_shortSquares_127
                    simp (disch := omega) only [w1, w2, ll_int, if_true, if_false, Option.bind_some, Option.map_some, ii_lit, ll_lit, ii_neg, ll_neg, ii_add, ii_sub, ii_mul, ll_add, ll_sub, ll_mul, ii_le, ii_lt, ii_eq, ii_t, bi_0, bi_1, rd_z, wr_z, rr_z, rl_z, wl_z, tn_n, st_s, st_j, st_i, st_c, st_2, sl_s, sl_j, sl_i, sl_c, sl_1, Int.natCast_add, Int.cast_ofNat_Int, if_pos, if_neg, decide_eq_false_iff_not, decide_eq_true_eq, in_ll, ii_long, Nat.zero_add, Nat.mul_zero, reduceCtorEq]
                  · show (stI o 66 0 j _).1 66 0 l = _
                    by_cases gl : l = j
                    · subst gl
                      rw [st_s]
                    · rw [st_j _ _ gl]
                      exact t2 l (by omega)
                · rintro ⟨o1, o⟩ ⟨t1, t2, t3⟩
                  simp only [] at t1 t2 t3
                  subst t1
                  have w1 : o.1 32 0 1 = ii A.n := by rw [t3.2.2 1 (by decide), i2.2.2 1 (by decide), h5.2.2 1 (by decide)]; exact y1
                  refine ⟨.inl (ii (sqn p A.n), ii ((k : Int) + 1), o), ?_, o, rfl, t2, t3⟩
                  show fX8_shortSquares_127 (ii (sqn p A.n)) (ii ((17 ^ A.n : Nat) : Int)) (ii k) (ii A.n) o = _
                  unfold fX8_shortSquares_127 fX8_shortSquares_157
                  simp (disch := omega) only [w1, if_true, if_false, Option.bind_some, Option.map_some, ii_lit, ll_lit, ii_neg, ll_neg, ii_add, ii_sub, ii_mul, ll_add, ll_sub, ll_mul, ii_le, ii_lt, ii_eq, ii_t, bi_0, bi_1, rd_z, wr_z, rr_z, rl_z, wl_z, tn_n, st_s, st_j, st_i, st_c, st_2, sl_s, sl_j, sl_i, sl_c, sl_1, Int.natCast_add, Int.cast_ofNat_Int, if_pos, if_neg, decide_eq_false_iff_not, decide_eq_true_eq, in_ll, ii_long, Nat.zero_add, Nat.mul_zero, reduceCtorEq]
              obtain ⟨r, er, u2, rfl, t2, t3⟩ := cpy
              refine ⟨.inl (ii (sqn p A.n), ii ((k : Int) + 1), u2), ?_, sqn p A.n, p, u2, rfl, by omega, ?_, t2, ((h5.mono (by decide) (by decide)).tr (i2.mono (by decide) (by decide))).tr (t3.mono (by decide) (by decide))⟩
              · unfold fX8_shortSquares_48
                simp (disch := omega) only [i1, er, if_true, if_false, Option.bind_some, Option.map_some, ii_lit, ll_lit, ii_neg, ll_neg, ii_add, ii_sub, ii_mul, ll_add, ll_sub, ll_mul, ii_le, ii_lt, ii_eq, ii_t, bi_0, bi_1, rd_z, wr_z, rr_z, rl_z, wl_z, tn_n, st_s, st_j, st_i, st_c, st_2, sl_s, sl_j, sl_i, sl_c, sl_1, Int.natCast_add, Int.cast_ofNat_Int, if_pos, if_neg, decide_eq_false_iff_not, decide_eq_true_eq, in_ll, ii_long, Nat.zero_add, Nat.mul_zero, reduceCtorEq]
              · unfold lef
                rw [if_pos ⟨q0.1, q0.2, hl⟩]
          · refine ⟨.inl (ii b, ii ((k : Int) + 1), u), ?_, b, w, u, rfl, g3, ?_, h66, h5.mono (by decide) (by decide)⟩
            · unfold fX8_shortSquares_48 fX8_shortSquares_157
              by_cases q1 : sqn p A.n ≤ 0
              · simp (disch := omega) only [if_true, if_false, Option.bind_some, Option.map_some, ii_lit, ll_lit, ii_neg, ll_neg, ii_add, ii_sub, ii_mul, ll_add, ll_sub, ll_mul, ii_le, ii_lt, ii_eq, ii_t, bi_0, bi_1, rd_z, wr_z, rr_z, rl_z, wl_z, tn_n, st_s, st_j, st_i, st_c, st_2, sl_s, sl_j, sl_i, sl_c, sl_1, Int.natCast_add, Int.cast_ofNat_Int, if_pos, if_neg, decide_eq_false_iff_not, decide_eq_true_eq, in_ll, ii_long, Nat.zero_add, Nat.mul_zero, reduceCtorEq]
              · simp (disch := omega) only [if_true, if_false, Option.bind_some, Option.map_some, ii_lit, ll_lit, ii_neg, ll_neg, ii_add, ii_sub, ii_mul, ll_add, ll_sub, ll_mul, ii_le, ii_lt, ii_eq, ii_t, bi_0, bi_1, rd_z, wr_z, rr_z, rl_z, wl_z, tn_n, st_s, st_j, st_i, st_c, st_2, sl_s, sl_j, sl_i, sl_c, sl_1, Int.natCast_add, Int.cast_ofNat_Int, if_pos, if_neg, decide_eq_false_iff_not, decide_eq_true_eq, in_ll, ii_long, Nat.zero_add, Nat.mul_zero, reduceCtorEq]
            · unfold lef
              rw [if_neg (fun h => q0 ⟨h.1, h.2.1⟩)]
      obtain ⟨r, er, b', w', z', rfl, c1, c2, c3, c4⟩ := dg
      refine ⟨(ii b', ii ((k : Int) + 1), z'), ?_, rfl, ⟨b', w', rfl, c1, ?_, c3⟩, g6.tr c4⟩
      · show fX8_shortSquares_29 (ii b) (ii ((17 ^ A.n : Nat) : Int)) (ii k) z = _
        unfold fX8_shortSquares_29
        generalize 17 ^ A.n = N at *
        simp (disch := omega) only [y1, er, if_true, if_false, Option.bind_some, Option.map_some, ii_lit, ll_lit, ii_neg, ll_neg, ii_add, ii_sub, ii_mul, ll_add, ll_sub, ll_mul, ii_le, ii_lt, ii_eq, ii_t, bi_0, bi_1, rd_z, wr_z, rr_z, rl_z, wl_z, tn_n, st_s, st_j, st_i, st_c, st_2, sl_s, sl_j, sl_i, sl_c, sl_1, Int.natCast_add, Int.cast_ofNat_Int, if_pos, if_neg, decide_eq_false_iff_not, decide_eq_true_eq, in_ll, ii_long, Nat.zero_add, Nat.mul_zero, reduceCtorEq]
      · rw [c2, g4, hpd]
        rfl
    · rintro ⟨a, d, z⟩ ⟨g1, ⟨b, w, g2, g3, g4, g5⟩, g6⟩
      simp only [] at g1 g2 g5 g6
      subst g1 g2
      refine ⟨(ii b, z), ?_, b, w, rfl, g4, g5, g6⟩
      show fX8_shortSquares_29 (ii b) (ii ((17 ^ A.n : Nat) : Int)) (ii ((17 ^ A.n : Nat) : Int)) z = _
      unfold fX8_shortSquares_29
      rw [if_pos (Int32.le_refl _)]
  obtain ⟨⟨a, τ'⟩, e, b, w, q1, q2, q3, q4⟩ := main
  have q1 : a = ii b := q1
  subst q1
  refine ⟨τ', v0, b, w, ?_, q2, q3, q4⟩
  unfold fX8_shortSquares fX8_shortSquares_0
  refine lp_f (fun k => (ii ((17 ^ k : Nat) : Int), ii k)) A.n rfl ?_ ?_
  · intro k hk
    show fX8_shortSquares_8 (1000) (ii ((17 ^ k : Nat) : Int)) (ii k) τ = _
    unfold fX8_shortSquares_8
    rw [Nat.pow_succ, Int.natCast_mul]
    generalize ((17 ^ k : Nat) : Int) = N at *
    simp (disch := omega) only [x1, if_true, if_false, Option.bind_some, Option.map_some, ii_lit, ll_lit, ii_neg, ll_neg, ii_add, ii_sub, ii_mul, ll_add, ll_sub, ll_mul, ii_le, ii_lt, ii_eq, ii_t, bi_0, bi_1, rd_z, wr_z, rr_z, rl_z, wl_z, tn_n, st_s, st_j, st_i, st_c, st_2, sl_s, sl_j, sl_i, sl_c, sl_1, Int.natCast_add, Int.cast_ofNat_Int, if_pos, if_neg, decide_eq_false_iff_not, decide_eq_true_eq, in_ll, ii_long, Nat.zero_add, Nat.mul_zero, reduceCtorEq]
  · show fX8_shortSquares_8 (1000) (ii ((17 ^ A.n : Nat) : Int)) (ii A.n) τ = _
    unfold fX8_shortSquares_8
    have e : lp (fX8_shortSquares_29_L (ii ((17 ^ A.n : Nat) : Int))) ((1000), (0), τ) = some (ii b, τ') := e
    rw [x1, if_pos (Int32.le_refl _), e]
    rfl
/-- both find the same -/
theorem short_eq {A : bdy} {F : mat} (hA : okb A) (hk : okF A F) (v0 v1 : Nat → Int) : tf A.n (LL A.n F) A.n (fun _ => 0) (mnf A A.n + 1, v0) = itf (fun k s => lef A.n (LL A.n F) (ext A.n A.n (fun _ => 0) k) s) (17 ^ A.n) (1000, v1) := by
  have hn1 := hA.1
  obtain ⟨b1, b2, b3⟩ := mnf_b hA A.n
  obtain ⟨b4, v, hv, b5⟩ := b3 (by omega)
  rw [tf_it _ A.n (Nat.le_refl _)]
  refine tw (by show mnf A A.n + 1 ≤ 1000; omega) ?_
  have hb := vm_b hA v
  obtain ⟨k, k1, k2⟩ := has_no (n := A.n) (w := vm A v) (fun l _ => by have := hb l; omega) A.n (Nat.le_refl _)
  have e : ∀ l, l < A.n → ext A.n A.n (fun _ => 0) k l = vm A v l := fun l hl => by
    unfold ext
    rw [if_neg (by omega)]
    exact k2 l (by omega) hl
  have es := sqn_c e
  obtain ⟨s1, s2⟩ := hk.2.2.2.2 v hv
  refine ⟨k, k1, ?_, ?_, ?_⟩
  · rw [es]
    have h0 := sqn_0 (vm A v) A.n
    by_cases g : sqn (vm A v) A.n = 0
    · exfalso
      refine s2 (fun l hl => ?_)
      have a1 := sqn_m (vm A v) (show l + 1 ≤ A.n by omega)
      have a2 : sqn (vm A v) (l + 1) = sqn (vm A v) l + vm A v l * vm A v l := rfl
      have a3 := sqn_0 (vm A v) l
      have a4 : 0 ≤ vm A v l * vm A v l := by
        rcases Int.le_total 0 (vm A v l) with h | h
        · exact Int.mul_nonneg h h
        · exact Int.mul_nonneg_of_nonpos_of_nonpos h h
      have a5 : vm A v l * vm A v l = 0 := by omega
      rcases Int.mul_eq_zero.mp a5 with h | h <;> exact h
    · omega
  · rw [es]
    show sqn (vm A v) A.n < mnf A A.n + 1
    omega
  · unfold LL
    rw [isq_c A.n 0 (fun l => ll (ext A.n A.n (fun _ => 0) k l)) (fun l => ll (vm A v l)) (fun l hl => by show ll _ = ll _; rw [e l hl]) (by omega)]
    exact isq_sp hA hk hb s1
theorem SS.bw {n : Nat} {F : mat} {σ : mm} {s : sst} {b : Int} {w : Nat → Int} (h : SS n F σ s) (e : s = (b, w)) : σ.1 2 0 2 = ii b ∧ ∀ l, l < n → σ.1 17 0 l = ii (w l) := by
  subst e
  exact ⟨h.2.1, h.2.2.2⟩
theorem m_short0 {σ τ : mm} {A : bdy} (hR : RelA σ τ A) {l : Int} (h1 : -2147483648 ≤ l) (h2 : l < 2147483648) (hv : ¬ (l = -1 ∨ (0 ≤ l ∧ l < A.n))) : Ag (fX7_shortest (ii l) σ) (fX8_shortest (ii l) τ) := by
  obtain ⟨⟨hC, hM, hA⟩, -⟩ := id hR
  have c1 := C_hasLetter hC h1 h2
  have c2 := M_isLetter hM h1 h2
  obtain ⟨σ', τ', e3, e4, hr⟩ := fd0 hR
  refine ⟨ii (-1000000001), σ', τ', ?_, ?_, _, hr⟩
  · unfold fX7_shortest fX7_shortest_0
    simp (disch := omega) only [c1, e3, if_true, if_false, Option.bind_some, Option.map_some, ii_lit, ll_lit, ii_neg, ll_neg, ii_add, ii_sub, ii_mul, ll_add, ll_sub, ll_mul, ii_le, ii_lt, ii_eq, ii_t, bi_0, bi_1, rd_z, wr_z, rr_z, rl_z, wl_z, tn_n, st_s, st_j, st_i, st_c, st_2, sl_s, sl_j, sl_i, sl_c, sl_1, Int.natCast_add, Int.cast_ofNat_Int, if_pos, if_neg, decide_eq_false_iff_not, decide_eq_true_eq, in_ll, ii_long, Nat.zero_add, Nat.mul_zero, reduceCtorEq]
  · unfold fX8_shortest fX8_shortest_0
    simp (disch := omega) only [c2, e4, if_true, if_false, Option.bind_some, Option.map_some, ii_lit, ll_lit, ii_neg, ll_neg, ii_add, ii_sub, ii_mul, ll_add, ll_sub, ll_mul, ii_le, ii_lt, ii_eq, ii_t, bi_0, bi_1, rd_z, wr_z, rr_z, rl_z, wl_z, tn_n, st_s, st_j, st_i, st_c, st_2, sl_s, sl_j, sl_i, sl_c, sl_1, Int.natCast_add, Int.cast_ofNat_Int, if_pos, if_neg, decide_eq_false_iff_not, decide_eq_true_eq, in_ll, ii_long, Nat.zero_add, Nat.mul_zero, reduceCtorEq]
theorem m_short1 {σ τ : mm} {A : bdy} (hR : RelA σ τ A) {l : Int} (h1 : -2147483648 ≤ l) (h2 : l < 2147483648) (hv : l = -1 ∨ (0 ≤ l ∧ l < A.n)) : fX7_shortest (ii l) σ = fX7_shortest_22 (ii l) σ ∧ fX8_shortest (ii l) τ = fX8_shortest_20 (ii l) τ := by
  obtain ⟨⟨hC, hM, hA⟩, -⟩ := id hR
  have c1 := C_hasLetter hC h1 h2
  have c2 := M_isLetter hM h1 h2
  unfold fX7_shortest fX7_shortest_0 fX8_shortest fX8_shortest_0
  by_cases g : l = -1
  · constructor
    · simp (disch := omega) only [if_true, if_false, Option.bind_some, Option.map_some, ii_lit, ll_lit, ii_neg, ll_neg, ii_add, ii_sub, ii_mul, ll_add, ll_sub, ll_mul, ii_le, ii_lt, ii_eq, ii_t, bi_0, bi_1, rd_z, wr_z, rr_z, rl_z, wl_z, tn_n, st_s, st_j, st_i, st_c, st_2, sl_s, sl_j, sl_i, sl_c, sl_1, Int.natCast_add, Int.cast_ofNat_Int, if_pos, if_neg, decide_eq_false_iff_not, decide_eq_true_eq, in_ll, ii_long, Nat.zero_add, Nat.mul_zero, reduceCtorEq]
    · simp (disch := omega) only [if_true, if_false, Option.bind_some, Option.map_some, ii_lit, ll_lit, ii_neg, ll_neg, ii_add, ii_sub, ii_mul, ll_add, ll_sub, ll_mul, ii_le, ii_lt, ii_eq, ii_t, bi_0, bi_1, rd_z, wr_z, rr_z, rl_z, wl_z, tn_n, st_s, st_j, st_i, st_c, st_2, sl_s, sl_j, sl_i, sl_c, sl_1, Int.natCast_add, Int.cast_ofNat_Int, if_pos, if_neg, decide_eq_false_iff_not, decide_eq_true_eq, in_ll, ii_long, Nat.zero_add, Nat.mul_zero, reduceCtorEq]
  · constructor
    · simp (disch := omega) only [c1, if_true, if_false, Option.bind_some, Option.map_some, ii_lit, ll_lit, ii_neg, ll_neg, ii_add, ii_sub, ii_mul, ll_add, ll_sub, ll_mul, ii_le, ii_lt, ii_eq, ii_t, bi_0, bi_1, rd_z, wr_z, rr_z, rl_z, wl_z, tn_n, st_s, st_j, st_i, st_c, st_2, sl_s, sl_j, sl_i, sl_c, sl_1, Int.natCast_add, Int.cast_ofNat_Int, if_pos, if_neg, decide_eq_false_iff_not, decide_eq_true_eq, in_ll, ii_long, Nat.zero_add, Nat.mul_zero, reduceCtorEq]
    · simp (disch := omega) only [c2, if_true, if_false, Option.bind_some, Option.map_some, ii_lit, ll_lit, ii_neg, ll_neg, ii_add, ii_sub, ii_mul, ll_add, ll_sub, ll_mul, ii_le, ii_lt, ii_eq, ii_t, bi_0, bi_1, rd_z, wr_z, rr_z, rl_z, wl_z, tn_n, st_s, st_j, st_i, st_c, st_2, sl_s, sl_j, sl_i, sl_c, sl_1, Int.natCast_add, Int.cast_ofNat_Int, if_pos, if_neg, decide_eq_false_iff_not, decide_eq_true_eq, in_ll, ii_long, Nat.zero_add, Nat.mul_zero, reduceCtorEq]
theorem m_shortest {σ τ : mm} (h : Rel σ τ) (l : Int32) : Ag (fX7_shortest l σ) (fX8_shortest l τ) := by
  obtain ⟨A, hR⟩ := h
  obtain ⟨⟨hC, hM, hA⟩, -⟩ := id hR
  obtain ⟨l, rfl, h1, h2⟩ := ii_ex l
  have hn1 := hA.1
  by_cases hv : l = -1 ∨ (0 ≤ l ∧ l < A.n)
  · obtain ⟨w1, w2⟩ := m_short1 hR h1 h2 hv
    rw [w1, w2]
    obtain ⟨d, σ1, τ1, e1, e2, hr, hF, -⟩ := both hR
    by_cases hd : d = ii 0
    · subst hd
      obtain ⟨σ', τ', e3, e4, hr'⟩ := fd3 hr
      refine ⟨ii (-1000000004), σ', τ', ?_, ?_, _, hr'⟩
      · unfold fX7_shortest_22
        simp (disch := omega) only [e1, e3, if_true, if_false, Option.bind_some, Option.map_some, ii_lit, ll_lit, ii_neg, ll_neg, ii_add, ii_sub, ii_mul, ll_add, ll_sub, ll_mul, ii_le, ii_lt, ii_eq, ii_t, bi_0, bi_1, rd_z, wr_z, rr_z, rl_z, wl_z, tn_n, st_s, st_j, st_i, st_c, st_2, sl_s, sl_j, sl_i, sl_c, sl_1, Int.natCast_add, Int.cast_ofNat_Int, if_pos, if_neg, decide_eq_false_iff_not, decide_eq_true_eq, in_ll, ii_long, Nat.zero_add, Nat.mul_zero, reduceCtorEq]
      · unfold fX8_shortest_20
        simp (disch := omega) only [e2, e4, if_true, if_false, Option.bind_some, Option.map_some, ii_lit, ll_lit, ii_neg, ll_neg, ii_add, ii_sub, ii_mul, ll_add, ll_sub, ll_mul, ii_le, ii_lt, ii_eq, ii_t, bi_0, bi_1, rd_z, wr_z, rr_z, rl_z, wl_z, tn_n, st_s, st_j, st_i, st_c, st_2, sl_s, sl_j, sl_i, sl_c, sl_1, Int.natCast_add, Int.cast_ofNat_Int, if_pos, if_neg, decide_eq_false_iff_not, decide_eq_true_eq, in_ll, ii_long, Nat.zero_add, Nat.mul_zero, reduceCtorEq]
    · obtain ⟨F, m1, m2, hk⟩ := hF hd
      obtain ⟨σ2, v0, e3, q1, f1⟩ := C_findShort hr.1.1 hA m1 hk.pos
      obtain ⟨τ2, v1, b, w, e4, q2, q3, f2⟩ := M_short hA m2 hk.pos
      obtain ⟨q5, q7⟩ := SS.bw q1 ((short_eq hA hk v0 v1).trans q2.symm)
      clear q1 q2
      have hr' := (hr.c (f1.mono (by decide) (by decide))).m (f2.mono (by decide) (by decide))
      by_cases g : l = -1
      · refine ⟨ii b, σ2, τ2, ?_, ?_, _, hr'⟩
        · unfold fX7_shortest_22
          simp (disch := omega) only [e1, hd, e3, q5, if_true, if_false, Option.bind_some, Option.map_some, ii_lit, ll_lit, ii_neg, ll_neg, ii_add, ii_sub, ii_mul, ll_add, ll_sub, ll_mul, ii_le, ii_lt, ii_eq, ii_t, bi_0, bi_1, rd_z, wr_z, rr_z, rl_z, wl_z, tn_n, st_s, st_j, st_i, st_c, st_2, sl_s, sl_j, sl_i, sl_c, sl_1, Int.natCast_add, Int.cast_ofNat_Int, if_pos, if_neg, decide_eq_false_iff_not, decide_eq_true_eq, in_ll, ii_long, Nat.zero_add, Nat.mul_zero, reduceCtorEq]
        · unfold fX8_shortest_20
          simp (disch := omega) only [e2, hd, e4, if_true, if_false, Option.bind_some, Option.map_some, ii_lit, ll_lit, ii_neg, ll_neg, ii_add, ii_sub, ii_mul, ll_add, ll_sub, ll_mul, ii_le, ii_lt, ii_eq, ii_t, bi_0, bi_1, rd_z, wr_z, rr_z, rl_z, wl_z, tn_n, st_s, st_j, st_i, st_c, st_2, sl_s, sl_j, sl_i, sl_c, sl_1, Int.natCast_add, Int.cast_ofNat_Int, if_pos, if_neg, decide_eq_false_iff_not, decide_eq_true_eq, in_ll, ii_long, Nat.zero_add, Nat.mul_zero, reduceCtorEq]
      · obtain ⟨l, rfl⟩ : ∃ k : Nat, l = k := ⟨l.toNat, by omega⟩
        have y1 := q7 l (by omega)
        have y2 := q3 l (by omega)
        refine ⟨ii (w l), σ2, τ2, ?_, ?_, _, hr'⟩
        · unfold fX7_shortest_22
          simp (disch := omega) only [e1, hd, e3, y1, if_true, if_false, Option.bind_some, Option.map_some, ii_lit, ll_lit, ii_neg, ll_neg, ii_add, ii_sub, ii_mul, ll_add, ll_sub, ll_mul, ii_le, ii_lt, ii_eq, ii_t, bi_0, bi_1, rd_z, wr_z, rr_z, rl_z, wl_z, tn_n, st_s, st_j, st_i, st_c, st_2, sl_s, sl_j, sl_i, sl_c, sl_1, Int.natCast_add, Int.cast_ofNat_Int, if_pos, if_neg, decide_eq_false_iff_not, decide_eq_true_eq, in_ll, ii_long, Nat.zero_add, Nat.mul_zero, reduceCtorEq]
        · unfold fX8_shortest_20
          simp (disch := omega) only [e2, hd, e4, y2, if_true, if_false, Option.bind_some, Option.map_some, ii_lit, ll_lit, ii_neg, ll_neg, ii_add, ii_sub, ii_mul, ll_add, ll_sub, ll_mul, ii_le, ii_lt, ii_eq, ii_t, bi_0, bi_1, rd_z, wr_z, rr_z, rl_z, wl_z, tn_n, st_s, st_j, st_i, st_c, st_2, sl_s, sl_j, sl_i, sl_c, sl_1, Int.natCast_add, Int.cast_ofNat_Int, if_pos, if_neg, decide_eq_false_iff_not, decide_eq_true_eq, in_ll, ii_long, Nat.zero_add, Nat.mul_zero, reduceCtorEq]
  · exact m_short0 hR h1 h2 hv
