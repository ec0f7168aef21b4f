-- WHETHER A POINT IS IN THE LATTICE
def isq (n : Nat) (F : mat) : Nat → Nat → (Nat → Int64) → Bool
  | 0, _, _ => true
  | m + 1, c, y => if lg_cmp (y c - y c / ll (F c c) * ll (F c c)) (ll 0) = ii 0 then isq n F m (c + 1) (fun l => if c ≤ l ∧ l < n then y l - y c / ll (F c c) * ll (F c l) else y l) else false
theorem isq_s (n : Nat) (F : mat) (m c : Nat) (y : Nat → Int64) : isq n F (m + 1) c y = if lg_cmp (y c - y c / ll (F c c) * ll (F c c)) (ll 0) = ii 0 then isq n F m (c + 1) (fun l => if c ≤ l ∧ l < n then y l - y c / ll (F c c) * ll (F c l) else y l) else false := rfl
theorem isq_c {n : Nat} {F : mat} : ∀ m c (y y' : Nat → Int64), (∀ l, l < n → y l = y' l) → c + m = n → isq n F m c y = isq n F m c y' := by
  intro m
  induction m with
  | zero => intro _ _ _ _ _; rfl
  | succ m ih =>
    intro c y y' h hc
    unfold isq
    rw [h c (by omega)]
    rw [ih (c + 1) (fun l => if c ≤ l ∧ l < n then y l - y' c / ll (F c c) * ll (F c l) else y l) (fun l => if c ≤ l ∧ l < n then y' l - y' c / ll (F c c) * ll (F c l) else y' l) (fun l hl => by simp only [h l hl]) (by omega)]
theorem matC.fr {ks fs : List Nat} {σ σ' : mm} {n : Nat} {F : mat} (h : matC σ n F) (f : Fr ks fs σ σ') (h1 : 2 ∉ ks) (h2 : 23 ∉ ks) : matC σ' n F := by
  refine ⟨h.1, by rw [f.1 2 (by decide) h1]; exact h.2.1, fun i l hi hl => by rw [f.2.1 23 h2]; exact h.2.2 i l hi hl⟩
theorem matM.fr {ks fs : List Nat} {τ τ' : mm} {n : Nat} {F : mat} (h : matM τ n F) (f : Fr ks fs τ τ') (h1 : 1 ∉ fs) (h2 : 63 ∉ ks) : matM τ' n F := by
  refine ⟨h.1, by rw [f.2.2 1 h1]; exact h.2.1, fun i l hi hl => by rw [f.1 63 (by decide) h2]; exact h.2.2 i l hi hl⟩
theorem rm_p (x : Int64) {P : Int} (h1 : 0 < P) (h2 : P < 2147483648) : rmL x (ll P) = some (x - x / ll P * ll P) ∧ dvL x (ll P) = some (x / ll P) := by
  have e : ¬ ll P = (0 : Int64) := by
    rw [show (0 : Int64) = ll 0 from rfl, ll_eq (by omega) (by omega) (by omega) (by omega)]
    omega
  unfold rmL dvL
  rw [if_neg e, if_neg e]
  exact ⟨rfl, rfl⟩
def pos (n : Nat) (F : mat) : Prop := (∀ i, i < n → 0 < F i i) ∧ ∀ i l, i < n → (F i l).natAbs ≤ 16544
theorem C_contains {σ : mm} {n : Nat} {F : mat} {y0 : Nat → Int64} (h : matC σ n F) (hp : pos n F) (hy : ∀ l, l < n → (σ.1 20 0 l).toInt64 = y0 l) : ∃ σ', fX2_contains σ = some (isq n F n 0 y0, σ') ∧ Fr [24] [] σ σ' := by
  have hn4 := h.1
  have main : ∀ s : mm, matC s n F → (∀ l, l < n → s.2 24 0 l = y0 l) → ∃ r, lp (fX2_contains_28_L) (ii 0, s) = some r ∧ (r.1 = isq n F n 0 y0 ∧ Fr [24] [] s r.2) := by
    intro s hs hy
    refine lp_i (fun c (z : Int32 × mm) => z.1 = ii c ∧ (∃ y, (∀ l, l < n → z.2.2 24 0 l = y l) ∧ isq n F n 0 y0 = isq n F (n - c) c y) ∧ Fr [24] [] s z.2) _ n ⟨rfl, ⟨y0, hy, rfl⟩, Fr.rf _ _ _⟩ ?_ ?_
    · rintro c ⟨a, z⟩ hc ⟨g1, ⟨y, g2, g3⟩, g4⟩
      simp only [] at g1 g2 g4
      subst g1
      have hz := hs.fr g4 (by decide) (by decide)
      have x0 := hz.2.1
      have x1 := hz.2.2 c c hc hc
      have x2 := g2 c hc
      have p1 := hp.1 c hc
      have p2 := hp.2 c c hc
      obtain ⟨r1, r2⟩ := rm_p (y c) p1 (by omega)
      have en : n - c = (n - c - 1) + 1 := by omega
      rw [en, isq_s] at g3
      by_cases g : lg_cmp (y c - y c / ll (F c c) * ll (F c c)) (ll 0) = ii 0
      · left
        rw [if_pos g] at g3
        have inner : ∃ w, lp (fX2_contains_90_L (ii c) (y c / ll (F c c))) (ii c, z) = some w ∧ ∃ z', w = .inl (ii ((c : Int) + 1), z') ∧ (∀ l, l < n → z'.2 24 0 l = if c ≤ l ∧ l < n then y l - y c / ll (F c c) * ll (F c l) else y l) ∧ Fr [24] [] z z' := by
          refine lp_j (fun k (u : Int32 × mm) => u.1 = ii ((c : Int) + k) ∧ (∀ l, l < n → u.2.2 24 0 l = if c ≤ l ∧ l < c + k then y l - y c / ll (F c c) * ll (F c l) else y l) ∧ Fr [24] [] z u.2) _ (n - c) ⟨?_, fun l hl => by rw [if_neg (by omega)]; exact g2 l hl, Fr.rf _ _ _⟩ ?_ ?_
          · show ii (c : Int) = ii ((c : Int) + (0 : Nat))
            congr 1
          · rintro k ⟨b, u⟩ hk ⟨k1, k2, k3⟩
            simp only [] at k1 k2 k3
            subst k1
            have hu := hz.fr k3 (by decide) (by decide)
            have w0 := hu.2.1
            have w1 := hu.2.2 c (c + k) hc (by omega)
            have w2 := k2 (c + k) (by omega)
            rw [if_neg (by omega)] at w2
            have tn : ((c : Int) + k).toNat = c + k := by omega
            refine ⟨(ii ((c : Int) + (k + 1 : Nat)), stL u 24 0 (c + k) (y (c + k) - y c / ll (F c c) * ll (F c (c + k)))), ?_, rfl, fun l hl => ?_, k3.sL (by decide)⟩
            · show fX2_contains_90 (ii c) (y c / ll (F c c)) (ii ((c : Int) + k)) u = _
              unfold fX2_contains_90
              generalize y c / ll (F c c) = Kk at *
              simp (disch := omega) only [tn, w0, w1, w2, if_true, if_false, Option.bind_some, ii_lit, ii_add, ii_le, rr_z, rl_z, wl_z, tn_n, if_neg]
              congr 4
            · show (stL u 24 0 (c + k) _).2 24 0 l = _
              by_cases gl : l = c + k
              · subst gl
                rw [sl_s, if_pos (by omega)]
              · rw [sl_j _ _ gl, k2 l hl]
                by_cases lk : c ≤ l ∧ l < c + k
                · rw [if_pos lk, if_pos (by omega)]
                · rw [if_neg lk, if_neg (by omega)]
          · rintro ⟨b, u⟩ ⟨k1, k2, k3⟩
            simp only [] at k1 k2 k3
            subst k1
            have hu := hz.fr k3 (by decide) (by decide)
            have w0 := hu.2.1
            refine ⟨.inl (ii ((c : Int) + 1), u), ?_, u, rfl, fun l hl => ?_, k3⟩
            · show fX2_contains_90 (ii c) (y c / ll (F c c)) (ii ((c : Int) + (n - c : Nat))) u = _
              rw [show (c : Int) + (n - c : Nat) = n by omega]
              unfold fX2_contains_90
              simp (disch := omega) only [w0, if_true, if_false, Option.bind_some, Option.map_some, ii_lit, ll_lit, ii_neg, ll_neg, ii_add, ii_sub, ii_mul, ll_add, ll_sub, ll_mul, ii_le, ii_lt, ii_eq, ii_t, bi_0, bi_1, rd_z, wr_z, rr_z, rl_z, wl_z, tn_n, st_s, st_j, st_i, st_c, st_2, sl_s, sl_j, sl_i, sl_c, sl_1, Int.natCast_add, Int.cast_ofNat_Int, if_pos, if_neg, decide_eq_false_iff_not, decide_eq_true_eq, in_ll, ii_long, Nat.zero_add, Nat.mul_zero, reduceCtorEq]
            · rw [k2 l hl]
              by_cases lk : c ≤ l ∧ l < n
              · rw [if_pos (by omega), if_pos lk]
              · rw [if_neg (by omega), if_neg lk]
        obtain ⟨w, e, z', rfl, q1, q2⟩ := inner
        refine ⟨(ii ((c : Int) + 1), z'), ?_, rfl, ⟨_, q1, ?_⟩, g4.tr q2⟩
        · show fX2_contains_28 (ii c) z = _
          unfold fX2_contains_28
          generalize F c c = P at *
          simp (disch := omega) only [x0, x1, x2, cmp_le0, r1, r2, g, e, if_true, if_false, Option.bind_some, Option.map_some, ii_lit, ll_lit, ii_neg, ll_neg, ii_add, ii_sub, ii_mul, ll_add, ll_sub, ll_mul, ii_le, ii_lt, ii_eq, ii_t, bi_0, bi_1, rd_z, wr_z, rr_z, rl_z, wl_z, tn_n, st_s, st_j, st_i, st_c, st_2, sl_s, sl_j, sl_i, sl_c, sl_1, Int.natCast_add, Int.cast_ofNat_Int, if_pos, if_neg, decide_eq_false_iff_not, decide_eq_true_eq, in_ll, ii_long, Nat.zero_add, Nat.mul_zero, reduceCtorEq]
        · rw [g3, show n - c - 1 = n - (c + 1) by omega]
      · right
        rw [if_neg g] at g3
        refine ⟨(false, z), ?_, g3.symm, g4⟩
        show fX2_contains_28 (ii c) z = _
        unfold fX2_contains_28
        generalize F c c = P at *
        simp (disch := omega) only [x0, x1, x2, cmp_le0, r1, g, if_true, if_false, Option.bind_some, Option.map_some, ii_lit, ll_lit, ii_neg, ll_neg, ii_add, ii_sub, ii_mul, ll_add, ll_sub, ll_mul, ii_le, ii_lt, ii_eq, ii_t, bi_0, bi_1, rd_z, wr_z, rr_z, rl_z, wl_z, tn_n, st_s, st_j, st_i, st_c, st_2, sl_s, sl_j, sl_i, sl_c, sl_1, Int.natCast_add, Int.cast_ofNat_Int, if_pos, if_neg, decide_eq_false_iff_not, decide_eq_true_eq, in_ll, ii_long, Nat.zero_add, Nat.mul_zero, reduceCtorEq]
    · rintro ⟨a, z⟩ ⟨g1, ⟨y, g2, g3⟩, g4⟩
      simp only [] at g1 g2 g4
      subst g1
      have x0 := (hs.fr g4 (by decide) (by decide)).2.1
      rw [Nat.sub_self] at g3
      refine ⟨(true, z), ?_, g3.symm, g4⟩
      show fX2_contains_28 (ii n) z = _
      unfold fX2_contains_28
      rw [x0, if_pos (Int32.le_refl _)]
  have key : ∃ r, lp (fX2_contains_2_L) (ii 0, σ) = some r ∧ (r.1 = isq n F n 0 y0 ∧ Fr [24] [] σ r.2) := by
    refine lp_j (fun k (z : Int32 × mm) => z.1 = ii k ∧ (∀ l, l < k → z.2.2 24 0 l = y0 l) ∧ Fr [24] [] σ z.2) _ n ⟨rfl, fun l hl => by omega, Fr.rf _ _ _⟩ ?_ ?_
    · rintro k ⟨a, z⟩ hk ⟨g1, g2, g3⟩
      simp only [] at g1 g2 g3
      subst g1
      have x0 := (h.fr g3 (by decide) (by decide)).2.1
      have x1 : (z.1 20 0 k).toInt64 = y0 k := by rw [g3.1 20 (by decide) (by decide)]; exact hy k hk
      refine ⟨(ii ((k + 1 : Nat)), stL z 24 0 k (y0 k)), ?_, rfl, fun l hl => ?_, g3.sL (by decide)⟩
      · show fX2_contains_2 (ii k) z = _
        unfold fX2_contains_2
        simp (disch := omega) only [x0, x1, if_true, if_false, Option.bind_some, Option.map_some, ii_lit, ll_lit, ii_neg, ll_neg, ii_add, ii_sub, ii_mul, ll_add, ll_sub, ll_mul, ii_le, ii_lt, ii_eq, ii_t, bi_0, bi_1, rd_z, wr_z, rr_z, rl_z, wl_z, tn_n, st_s, st_j, st_i, st_c, st_2, sl_s, sl_j, sl_i, sl_c, sl_1, Int.natCast_add, Int.cast_ofNat_Int, if_pos, if_neg, decide_eq_false_iff_not, decide_eq_true_eq, in_ll, ii_long, Nat.zero_add, Nat.mul_zero, reduceCtorEq]
      · show (stL z 24 0 k _).2 24 0 l = _
        by_cases gl : l = k
        · subst gl
          rw [sl_s]
        · rw [sl_j _ _ gl]
          exact g2 l (by omega)
    · rintro ⟨a, z⟩ ⟨g1, g2, g3⟩
      simp only [] at g1 g2 g3
      subst g1
      have hz := h.fr g3 (by decide) (by decide)
      have x0 := hz.2.1
      obtain ⟨r, e, q1, q2⟩ := main z hz g2
      refine ⟨r, ?_, q1, g3.tr q2⟩
      show fX2_contains_2 (ii n) z = _
      unfold fX2_contains_2
      simp (disch := omega) only [x0, e, if_true, if_false, Option.bind_some, Option.map_some, ii_lit, ll_lit, ii_neg, ll_neg, ii_add, ii_sub, ii_mul, ll_add, ll_sub, ll_mul, ii_le, ii_lt, ii_eq, ii_t, bi_0, bi_1, rd_z, wr_z, rr_z, rl_z, wl_z, tn_n, st_s, st_j, st_i, st_c, st_2, sl_s, sl_j, sl_i, sl_c, sl_1, Int.natCast_add, Int.cast_ofNat_Int, if_pos, if_neg, decide_eq_false_iff_not, decide_eq_true_eq, in_ll, ii_long, Nat.zero_add, Nat.mul_zero, reduceCtorEq]
  obtain ⟨⟨a, z⟩, e, q1, q2⟩ := key
  have q1 : a = isq n F n 0 y0 := q1
  subst q1
  exact ⟨z, e, q2⟩
theorem M_isl {τ : mm} {n : Nat} {F : mat} {y0 : Nat → Int64} (h : matM τ n F) (hp : pos n F) (hy : ∀ l, l < n → τ.2 48 0 l = y0 l) : ∃ τ', fX8_isInLattice τ = some (isq n F n 0 y0, τ') ∧ Fr [65] [] τ τ' := by
  have hn4 := h.1
  have main : ∀ s : mm, matM s n F → (∀ l, l < n → s.2 65 0 l = y0 l) → ∃ r, lp (fX8_isInLattice_30_L) (ii 0, s) = some r ∧ (r.1 = isq n F n 0 y0 ∧ Fr [65] [] s r.2) := by
    intro s hs hy
    refine lp_i (fun c (z : Int32 × mm) => z.1 = ii c ∧ (∃ y, (∀ l, l < n → z.2.2 65 0 l = y l) ∧ isq n F n 0 y0 = isq n F (n - c) c y) ∧ Fr [65] [] s z.2) _ n ⟨rfl, ⟨y0, hy, rfl⟩, Fr.rf _ _ _⟩ ?_ ?_
    · rintro c ⟨a, z⟩ hc ⟨g1, ⟨y, g2, g3⟩, g4⟩
      simp only [] at g1 g2 g4
      subst g1
      have hz := hs.fr g4 (by decide) (by decide)
      have x0 := hz.2.1
      have x1 := hz.2.2 c c hc hc
      have x2 := g2 c hc
      have p1 := hp.1 c hc
      have p2 := hp.2 c c hc
      have t5 : (5 * (c : Int)).toNat = 4 * c + c := by omega
      obtain ⟨r1, r2⟩ := rm_p (y c) p1 (by omega)
      have en : n - c = (n - c - 1) + 1 := by omega
      rw [en, isq_s] at g3
      by_cases g : lg_cmp (y c - y c / ll (F c c) * ll (F c c)) (ll 0) = ii 0
      · left
        rw [if_pos g] at g3
        have inner : ∃ w, lp (fX8_isInLattice_81_L (ii c) (y c / ll (F c c))) (ii c, z) = some w ∧ ∃ z', w = .inl (ii ((c : Int) + 1), z') ∧ (∀ l, l < n → z'.2 65 0 l = if c ≤ l ∧ l < n then y l - y c / ll (F c c) * ll (F c l) else y l) ∧ Fr [65] [] z z' := by
          refine lp_j (fun k (u : Int32 × mm) => u.1 = ii ((c : Int) + k) ∧ (∀ l, l < n → u.2.2 65 0 l = if c ≤ l ∧ l < c + k then y l - y c / ll (F c c) * ll (F c l) else y l) ∧ Fr [65] [] z u.2) _ (n - c) ⟨?_, fun l hl => by rw [if_neg (by omega)]; exact g2 l hl, Fr.rf _ _ _⟩ ?_ ?_
          · show ii (c : Int) = ii ((c : Int) + (0 : Nat))
            congr 1
          · rintro k ⟨b, u⟩ hk ⟨k1, k2, k3⟩
            simp only [] at k1 k2 k3
            subst k1
            have hu := hz.fr k3 (by decide) (by decide)
            have w0 := hu.2.1
            have w1 := hu.2.2 c (c + k) hc (by omega)
            have w2 := k2 (c + k) (by omega)
            rw [if_neg (by omega)] at w2
            have b1 := hp.2 c (c + k) hc
            have tn : ((c : Int) + k).toNat = c + k := by omega
            have t4 : (4 * (c : Int) + ((c : Int) + k)).toNat = 4 * c + (c + k) := by omega
            refine ⟨(ii ((c : Int) + (k + 1 : Nat)), stL u 65 0 (c + k) (y (c + k) - y c / ll (F c c) * ll (F c (c + k)))), ?_, rfl, fun l hl => ?_, k3.sL (by decide)⟩
            · show fX8_isInLattice_81 (ii c) (y c / ll (F c c)) (ii ((c : Int) + k)) u = _
              unfold fX8_isInLattice_81
              generalize y c / ll (F c c) = Kk at *
              simp (disch := omega) only [tn, t4, w0, w1, w2, if_true, if_false, Option.bind_some, ii_lit, ii_add, ii_mul, ii_le, rd_z, rl_z, wl_z, tn_n, if_neg, ii_long]
              congr 4
            · show (stL u 65 0 (c + k) _).2 65 0 l = _
              by_cases gl : l = c + k
              · subst gl
                rw [sl_s, if_pos (by omega)]
              · rw [sl_j _ _ gl, k2 l hl]
                by_cases lk : c ≤ l ∧ l < c + k
                · rw [if_pos lk, if_pos (by omega)]
                · rw [if_neg lk, if_neg (by omega)]
          · rintro ⟨b, u⟩ ⟨k1, k2, k3⟩
            simp only [] at k1 k2 k3
            subst k1
            have hu := hz.fr k3 (by decide) (by decide)
            have w0 := hu.2.1
            refine ⟨.inl (ii ((c : Int) + 1), u), ?_, u, rfl, fun l hl => ?_, k3⟩
            · show fX8_isInLattice_81 (ii c) (y c / ll (F c c)) (ii ((c : Int) + (n - c : Nat))) u = _
              rw [show (c : Int) + (n - c : Nat) = n by omega]
              unfold fX8_isInLattice_81
              simp (disch := omega) only [w0, if_true, if_false, Option.bind_some, Option.map_some, ii_lit, ll_lit, ii_neg, ll_neg, ii_add, ii_sub, ii_mul, ll_add, ll_sub, ll_mul, ii_le, ii_lt, ii_eq, ii_t, bi_0, bi_1, rd_z, wr_z, rr_z, rl_z, wl_z, tn_n, st_s, st_j, st_i, st_c, st_2, sl_s, sl_j, sl_i, sl_c, sl_1, Int.natCast_add, Int.cast_ofNat_Int, if_pos, if_neg, decide_eq_false_iff_not, decide_eq_true_eq, in_ll, ii_long, Nat.zero_add, Nat.mul_zero, reduceCtorEq]
            · rw [k2 l hl]
              by_cases lk : c ≤ l ∧ l < n
              · rw [if_pos (by omega), if_pos lk]
              · rw [if_neg (by omega), if_neg lk]
        obtain ⟨w, e, z', rfl, q1, q2⟩ := inner
        refine ⟨(ii ((c : Int) + 1), z'), ?_, rfl, ⟨_, q1, ?_⟩, g4.tr q2⟩
        · show fX8_isInLattice_30 (ii c) z = _
          unfold fX8_isInLattice_30
          generalize F c c = P at *
          simp (disch := omega) only [t5, x0, x1, x2, r1, r2, g, e, if_true, if_false, Option.bind_some, Option.map_some, ii_lit, ll_lit, ii_neg, ll_neg, ii_add, ii_sub, ii_mul, ll_add, ll_sub, ll_mul, ii_le, ii_lt, ii_eq, ii_t, bi_0, bi_1, rd_z, wr_z, rr_z, rl_z, wl_z, tn_n, st_s, st_j, st_i, st_c, st_2, sl_s, sl_j, sl_i, sl_c, sl_1, Int.natCast_add, Int.cast_ofNat_Int, if_pos, if_neg, decide_eq_false_iff_not, decide_eq_true_eq, in_ll, ii_long, Nat.zero_add, Nat.mul_zero, reduceCtorEq]
        · rw [g3, show n - c - 1 = n - (c + 1) by omega]
      · right
        rw [if_neg g] at g3
        refine ⟨(false, z), ?_, g3.symm, g4⟩
        show fX8_isInLattice_30 (ii c) z = _
        unfold fX8_isInLattice_30
        generalize F c c = P at *
        simp (disch := omega) only [t5, x0, x1, x2, r1, g, if_true, if_false, Option.bind_some, Option.map_some, ii_lit, ll_lit, ii_neg, ll_neg, ii_add, ii_sub, ii_mul, ll_add, ll_sub, ll_mul, ii_le, ii_lt, ii_eq, ii_t, bi_0, bi_1, rd_z, wr_z, rr_z, rl_z, wl_z, tn_n, st_s, st_j, st_i, st_c, st_2, sl_s, sl_j, sl_i, sl_c, sl_1, Int.natCast_add, Int.cast_ofNat_Int, if_pos, if_neg, decide_eq_false_iff_not, decide_eq_true_eq, in_ll, ii_long, Nat.zero_add, Nat.mul_zero, reduceCtorEq]
    · rintro ⟨a, z⟩ ⟨g1, ⟨y, g2, g3⟩, g4⟩
      simp only [] at g1 g2 g4
      subst g1
      have x0 := (hs.fr g4 (by decide) (by decide)).2.1
      rw [Nat.sub_self] at g3
      refine ⟨(true, z), ?_, g3.symm, g4⟩
      show fX8_isInLattice_30 (ii n) z = _
      unfold fX8_isInLattice_30
      rw [x0, if_pos (Int32.le_refl _)]
  have key : ∃ r, lp (fX8_isInLattice_2_L) (ii 0, τ) = some r ∧ (r.1 = isq n F n 0 y0 ∧ Fr [65] [] τ r.2) := by
    refine lp_j (fun k (z : Int32 × mm) => z.1 = ii k ∧ (∀ l, l < k → z.2.2 65 0 l = y0 l) ∧ Fr [65] [] τ z.2) _ n ⟨rfl, fun l hl => by omega, Fr.rf _ _ _⟩ ?_ ?_
    · rintro k ⟨a, z⟩ hk ⟨g1, g2, g3⟩
      simp only [] at g1 g2 g3
      subst g1
      have x0 := (h.fr g3 (by decide) (by decide)).2.1
      have x1 : z.2 48 0 k = y0 k := by rw [g3.2.1 48 (by decide)]; exact hy k hk
      refine ⟨(ii ((k + 1 : Nat)), stL z 65 0 k (y0 k)), ?_, rfl, fun l hl => ?_, g3.sL (by decide)⟩
      · show fX8_isInLattice_2 (ii k) z = _
        unfold fX8_isInLattice_2
        simp (disch := omega) only [x0, x1, if_true, if_false, Option.bind_some, Option.map_some, ii_lit, ll_lit, ii_neg, ll_neg, ii_add, ii_sub, ii_mul, ll_add, ll_sub, ll_mul, ii_le, ii_lt, ii_eq, ii_t, bi_0, bi_1, rd_z, wr_z, rr_z, rl_z, wl_z, tn_n, st_s, st_j, st_i, st_c, st_2, sl_s, sl_j, sl_i, sl_c, sl_1, Int.natCast_add, Int.cast_ofNat_Int, if_pos, if_neg, decide_eq_false_iff_not, decide_eq_true_eq, in_ll, ii_long, Nat.zero_add, Nat.mul_zero, reduceCtorEq]
      · show (stL z 65 0 k _).2 65 0 l = _
        by_cases gl : l = k
        · subst gl
          rw [sl_s]
        · rw [sl_j _ _ gl]
          exact g2 l (by omega)
    · rintro ⟨a, z⟩ ⟨g1, g2, g3⟩
      simp only [] at g1 g2 g3
      subst g1
      have hz := h.fr g3 (by decide) (by decide)
      have x0 := hz.2.1
      obtain ⟨r, e, q1, q2⟩ := main z hz g2
      refine ⟨r, ?_, q1, g3.tr q2⟩
      show fX8_isInLattice_2 (ii n) z = _
      unfold fX8_isInLattice_2
      simp (disch := omega) only [x0, e, if_true, if_false, Option.bind_some, Option.map_some, ii_lit, ll_lit, ii_neg, ll_neg, ii_add, ii_sub, ii_mul, ll_add, ll_sub, ll_mul, ii_le, ii_lt, ii_eq, ii_t, bi_0, bi_1, rd_z, wr_z, rr_z, rl_z, wl_z, tn_n, st_s, st_j, st_i, st_c, st_2, sl_s, sl_j, sl_i, sl_c, sl_1, Int.natCast_add, Int.cast_ofNat_Int, if_pos, if_neg, decide_eq_false_iff_not, decide_eq_true_eq, in_ll, ii_long, Nat.zero_add, Nat.mul_zero, reduceCtorEq]
  obtain ⟨⟨a, z⟩, e, q1, q2⟩ := key
  have q1 : a = isq n F n 0 y0 := q1
  subst q1
  exact ⟨z, e, q2⟩
