-- THE CLASS'S SEARCH
def LL (n : Nat) (F : mat) (x : Nat → Int) : Bool := isq n F n 0 (fun l => ll (x l))
def SS (n : Nat) (F : mat) (σ : mm) (s : sst) : Prop := matC σ n F ∧ σ.1 2 0 2 = ii s.1 ∧ (0 ≤ s.1 ∧ s.1 ≤ 2000) ∧ ∀ l, l < n → σ.1 17 0 l = ii (s.2 l)
theorem sqn_b {x : Nat → Int} : ∀ c, (∀ v, v < c → -8 ≤ x v ∧ x v ≤ 8) → 0 ≤ sqn x c ∧ sqn x c ≤ 64 * c := by
  intro c
  induction c with
  | zero => intro _; exact ⟨Int.le_refl _, Int.le_refl _⟩
  | succ c ih =>
    intro h
    have h1 := ih (fun v hv => h v (by omega))
    have h2 := h c (by omega)
    have h3 := mul_r h2 h2 (by omega) (by omega)
    have h4 : 0 ≤ x c * x c := by
      rcases Int.le_total 0 (x c) with h | h
      · exact Int.mul_nonneg h h
      · exact Int.mul_nonneg_of_nonpos_of_nonpos h h
    show 0 ≤ sqn x c + x c * x c ∧ sqn x c + x c * x c ≤ 64 * ((c + 1 : Nat) : Int)
    omega
theorem SS.st {n : Nat} {F : mat} {σ σ' : mm} {s : sst} (h : SS n F σ s) (f : Fr [18, 25] [] σ σ') : SS n F σ' s := by
  obtain ⟨h1, h2, h3, h4⟩ := h
  refine ⟨h1.fr f (by decide) (by decide), by rw [f.1 2 (by decide) (by decide)]; exact h2, h3, fun l hl => by rw [f.1 17 (by decide) (by decide)]; exact h4 l hl⟩
theorem C_try {n : Nat} {F : mat} (hn4 : n ≤ 4) (hp : pos n F) : ∀ m, m ≤ n → ∀ fuel, m < fuel → ∀ (σ : mm) (s : sst) (x : Nat → Int) (t : Nat → Int64), SS n F σ s → (∀ v, v < n - m → (-8 ≤ x v ∧ x v ≤ 8) ∧ σ.1 18 0 v = ii (x v) ∧ σ.2 25 0 v = t v) → gdp F x t (n - m) →
    ∃ σ', fX2_tryLetter fuel (ii ((n - m : Nat) : Int)) (ii (sqn x (n - m))) σ = some σ' ∧ SS n F σ' (tf n (LL n F) m x s) ∧ (∀ v, v < n - m → σ'.1 18 0 v = σ.1 18 0 v ∧ σ'.2 25 0 v = σ.2 25 0 v) ∧ Fr [2, 17, 18, 25] [] σ σ' := by
  intro m
  induction m with
  | zero =>
    intro _ fuel hf σ s x t hS hx hg
    obtain ⟨f, rfl⟩ : ∃ f, fuel = f + 1 := ⟨fuel - 1, by omega⟩
    rw [Nat.sub_zero] at hx hg ⊢
    obtain ⟨S1, S2, S3, S4⟩ := id hS
    have x0 := S1.2.1
    have hb := sqn_b n (fun v hv => (hx v hv).1)
    have hl : LL n F x = true := gd_yes hg
    have et : tf n (LL n F) 0 x s = lef n (LL n F) x s := rfl
    rw [et]
    unfold lef
    by_cases g : 0 < sqn x n ∧ sqn x n < s.1
    · rw [if_pos ⟨g.1, g.2, hl⟩]
      obtain ⟨σ', e, c1, c2, c3, c4⟩ := cp_z (σ := stI σ 2 0 2 (ii (sqn x n))) (c := 18) (i := 0) (n := 4) (c' := 17) (i' := 0) (n' := 4) (sp := 0) (dp := 0) (k := 4) (by decide) (by decide) (by decide) (by decide)
      have e : cpI (stI σ 2 0 2 (ii (sqn x n))) 18 0 4 17 0 4 (ii 0) (ii 0) (ii 4) = some σ' := e
      refine ⟨σ', ?_, ⟨⟨S1.1, ?_, fun i l hi hl => ?_⟩, ?_, ?_, fun l hl => ?_⟩, fun v hv => ?_, cp_fr ((Fr.rf _ _ _).sI (by decide) (by decide)) c2 c4 (by decide) (by decide)⟩
      · show fX2_tryLetter_0 (fX2_tryLetter f) (ii n) (ii (sqn x n)) σ = _
        unfold fX2_tryLetter_0
        simp (disch := omega) only [x0, S2, e, if_true, if_false, Option.bind_some, Option.map_some, ii_lit, ll_lit, ii_neg, ll_neg, ii_add, ii_sub, ii_mul, ll_add, ll_sub, ll_mul, ii_le, ii_lt, ii_eq, ii_t, bi_0, bi_1, rd_z, wr_z, rr_z, rl_z, wl_z, tn_n, st_s, st_j, st_i, st_c, st_2, sl_s, sl_j, sl_i, sl_c, sl_1, Int.natCast_add, Int.cast_ofNat_Int, if_pos, if_neg, decide_eq_false_iff_not, decide_eq_true_eq, in_ll, ii_long, Nat.zero_add, Nat.mul_zero, reduceCtorEq]
      · rw [c2 2 (by decide), st_j _ _ (by decide)]
        exact x0
      · rw [c4]
        exact S1.2.2 i l hi hl
      · rw [c2 2 (by decide), st_s]
      · show 0 ≤ sqn x n ∧ sqn x n ≤ 2000
        omega
      · rw [c1 l, if_pos (by omega), st_c _ _ _ _ (by decide), show 0 + (l - 0) = l by omega]
        exact (hx l hl).2.1
      · rw [c2 18 (by decide), c4, st_c _ _ _ _ (by decide)]
        exact ⟨rfl, rfl⟩
    · rw [if_neg (fun h => g ⟨h.1, h.2.1⟩)]
      refine ⟨σ, ?_, hS, fun v _ => ⟨rfl, rfl⟩, Fr.rf _ _ _⟩
      show fX2_tryLetter_0 (fX2_tryLetter f) (ii n) (ii (sqn x n)) σ = _
      unfold fX2_tryLetter_0
      by_cases g0 : sqn x n ≤ 0
      · simp (disch := omega) only [x0, S2, if_true, if_false, Option.bind_some, Option.map_some, ii_lit, ll_lit, ii_neg, ll_neg, ii_add, ii_sub, ii_mul, ll_add, ll_sub, ll_mul, ii_le, ii_lt, ii_eq, ii_t, bi_0, bi_1, rd_z, wr_z, rr_z, rl_z, wl_z, tn_n, st_s, st_j, st_i, st_c, st_2, sl_s, sl_j, sl_i, sl_c, sl_1, Int.natCast_add, Int.cast_ofNat_Int, if_pos, if_neg, decide_eq_false_iff_not, decide_eq_true_eq, in_ll, ii_long, Nat.zero_add, Nat.mul_zero, reduceCtorEq]
      · simp (disch := omega) only [x0, S2, if_true, if_false, Option.bind_some, Option.map_some, ii_lit, ll_lit, ii_neg, ll_neg, ii_add, ii_sub, ii_mul, ll_add, ll_sub, ll_mul, ii_le, ii_lt, ii_eq, ii_t, bi_0, bi_1, rd_z, wr_z, rr_z, rl_z, wl_z, tn_n, st_s, st_j, st_i, st_c, st_2, sl_s, sl_j, sl_i, sl_c, sl_1, Int.natCast_add, Int.cast_ofNat_Int, if_pos, if_neg, decide_eq_false_iff_not, decide_eq_true_eq, in_ll, ii_long, Nat.zero_add, Nat.mul_zero, reduceCtorEq]
  | succ m ih =>
    intro hm fuel hf σ s x t hS hx hg
    obtain ⟨f, rfl⟩ : ∃ f, fuel = f + 1 := ⟨fuel - 1, by omega⟩
    obtain ⟨c, hc⟩ : ∃ c, c = n - (m + 1) := ⟨_, rfl⟩
    rw [← hc] at hx hg ⊢
    have hcn : c < n := by omega
    have hcm : n - m = c + 1 := by omega
    obtain ⟨S1, S2, S3, S4⟩ := id hS
    have x0 := S1.2.1
    have x1 := S1.2.2 c c hcn hcn
    have p1 := hp.1 c hcn
    have p2 := hp.2 c c hcn
    have hb := sqn_b c (fun v hv => (hx v hv).1)
    have et : tf n (LL n F) (m + 1) x s = itf (fun j s => tf n (LL n F) m (up1 x c (8 - (j : Int))) s) 17 s := by rw [hc]; rfl
    rw [et]
    -- what the letters before bring
    have lb : ∀ X, lp (fX2_tryLetter_100_L (fX2_tryLetter f) (ii c) (ii (sqn x c)) (ll (F c c)) (bsl F t c c)) (ii 8, σ) = some X → lp (fX2_tryLetter_62_L (fX2_tryLetter f) (ii c) (ii (sqn x c)) (ll (F c c)) σ) (ll 0, ii 0) = some X := fun X hX => by
      refine lp_f (fun k => (bsl F t c k, ii k)) c rfl ?_ ?_
      · intro k hk
        show fX2_tryLetter_62 (fX2_tryLetter f) (ii c) (ii (sqn x c)) (ll (F c c)) (bsl F t c k) (ii k) σ = _
        have y1 := (hx k hk).2.2
        have y2 := S1.2.2 k c (by omega) hcn
        unfold fX2_tryLetter_62
        simp (disch := omega) only [y1, y2, if_true, if_false, Option.bind_some, Option.map_some, ii_lit, ll_lit, ii_neg, ll_neg, ii_add, ii_sub, ii_mul, ll_add, ll_sub, ll_mul, ii_le, ii_lt, ii_eq, ii_t, bi_0, bi_1, rd_z, wr_z, rr_z, rl_z, wl_z, tn_n, st_s, st_j, st_i, st_c, st_2, sl_s, sl_j, sl_i, sl_c, sl_1, Int.natCast_add, Int.cast_ofNat_Int, if_pos, if_neg, decide_eq_false_iff_not, decide_eq_true_eq, in_ll, ii_long, Nat.zero_add, Nat.mul_zero, reduceCtorEq]
        rfl
      · show fX2_tryLetter_62 (fX2_tryLetter f) (ii c) (ii (sqn x c)) (ll (F c c)) (bsl F t c c) (ii c) σ = _
        unfold fX2_tryLetter_62
        simp (disch := omega) only [hX, if_true, if_false, Option.bind_some, Option.map_some, ii_lit, ll_lit, ii_neg, ll_neg, ii_add, ii_sub, ii_mul, ll_add, ll_sub, ll_mul, ii_le, ii_lt, ii_eq, ii_t, bi_0, bi_1, rd_z, wr_z, rr_z, rl_z, wl_z, tn_n, st_s, st_j, st_i, st_c, st_2, sl_s, sl_j, sl_i, sl_c, sl_1, Int.natCast_add, Int.cast_ofNat_Int, if_pos, if_neg, decide_eq_false_iff_not, decide_eq_true_eq, in_ll, ii_long, Nat.zero_add, Nat.mul_zero, reduceCtorEq]
    have main : ∃ w, lp (fX2_tryLetter_100_L (fX2_tryLetter f) (ii c) (ii (sqn x c)) (ll (F c c)) (bsl F t c c)) (ii 8, σ) = some w ∧ (SS n F w (itf (fun j s => tf n (LL n F) m (up1 x c (8 - (j : Int))) s) 17 s) ∧ (∀ v, v < c → w.1 18 0 v = σ.1 18 0 v ∧ w.2 25 0 v = σ.2 25 0 v) ∧ Fr [2, 17, 18, 25] [] σ w) := by
      refine lp_j (fun j (z : Int32 × mm) => z.1 = ii (8 - (j : Int)) ∧ SS n F z.2 (itf (fun j s => tf n (LL n F) m (up1 x c (8 - (j : Int))) s) j s) ∧ (∀ v, v < c → z.2.1 18 0 v = σ.1 18 0 v ∧ z.2.2 25 0 v = σ.2 25 0 v) ∧ Fr [2, 17, 18, 25] [] σ z.2) _ 17 ⟨rfl, hS, fun v _ => ⟨rfl, rfl⟩, Fr.rf _ _ _⟩ ?_ ?_
      · rintro j ⟨a, z⟩ hj ⟨g1, g2, g3, g4⟩
        simp only [] at g1 g2 g3 g4
        subst g1
        have es : itf (fun j s => tf n (LL n F) m (up1 x c (8 - (j : Int))) s) (j + 1) s = tf n (LL n F) m (up1 x c (8 - (j : Int))) (itf (fun j s => tf n (LL n F) m (up1 x c (8 - (j : Int))) s) j s) := rfl
        rw [es]
        generalize itf (fun j s => tf n (LL n F) m (up1 x c (8 - (j : Int))) s) j s = u at *
        obtain ⟨T1, T2, T3, T4⟩ := id g2
        have ej : (8 - (j : Int)) + -1 = 8 - ((j + 1 : Nat) : Int) := by omega
        have hX : -8 ≤ 8 - (j : Int) ∧ 8 - (j : Int) ≤ 8 := by omega
        generalize hXe : 8 - (j : Int) = X at *
        have hXX := mul_r hX hX (by omega) (by omega)
        have hX0 : 0 ≤ X * X := by
          rcases Int.le_total 0 X with h | h
          · exact Int.mul_nonneg h h
          · exact Int.mul_nonneg_of_nonpos_of_nonpos h h
        have sq1 : sqn (up1 x c X) (c + 1) = sqn x c + X * X := by
          show sqn (up1 x c X) c + up1 x c X c * up1 x c X c = _
          rw [up1_same, sqn_c (y := x) (fun l hl => up1_ne _ _ (by omega))]
        have z1 : zv F (up1 x c X) t c = ll X - bsl F t c c := by
          unfold zv
          rw [up1_same]
        have gx : gdp F (up1 x c X) t c := gd_c (fun v hv => (up1_ne _ _ (by omega)).symm) (fun _ _ => rfl) hg
        obtain ⟨r1, r2⟩ := rm_p (ll X - bsl F t c c) p1 (by omega)
        by_cases q1 : u.1 ≤ sqn x c + X * X
        · have en : tf n (LL n F) m (up1 x c X) u = u := tf_no (by omega) (fun y hy => Or.inl (by
            have a1 := sqn_m y (show c + 1 ≤ n by omega)
            rw [sqn_c (y := up1 x c X) (n := c + 1) (fun l hl => hy l (by omega)), sq1] at a1
            omega))
          rw [en]
          refine ⟨(ii (8 - ((j + 1 : Nat) : Int)), z), ?_, rfl, g2, g3, g4⟩
          show fX2_tryLetter_100 (fX2_tryLetter f) (ii c) (ii (sqn x c)) (ll (F c c)) (bsl F t c c) (ii X) z = _
          rw [← ej]
          unfold fX2_tryLetter_100 fX2_tryLetter_170
          simp (disch := omega) only [T2, if_true, if_false, Option.bind_some, Option.map_some, ii_lit, ll_lit, ii_neg, ll_neg, ii_add, ii_sub, ii_mul, ll_add, ll_sub, ll_mul, ii_le, ii_lt, ii_eq, ii_t, bi_0, bi_1, rd_z, wr_z, rr_z, rl_z, wl_z, tn_n, st_s, st_j, st_i, st_c, st_2, sl_s, sl_j, sl_i, sl_c, sl_1, Int.natCast_add, Int.cast_ofNat_Int, if_pos, if_neg, decide_eq_false_iff_not, decide_eq_true_eq, in_ll, ii_long, Nat.zero_add, Nat.mul_zero, reduceCtorEq]
        · by_cases q2 : tst F (up1 x c X) t c
          · have q2' : lg_cmp ((ll X - bsl F t c c) - (ll X - bsl F t c c) / ll (F c c) * ll (F c c)) (ll 0) = ii 0 := by
              have := q2
              unfold tst at this
              rw [z1] at this
              exact this
            have ft : Fr [18, 25] [] z (stI (stL z 25 0 c ((ll X - bsl F t c c) / ll (F c c))) 18 0 c (ii X)) := ((Fr.rf _ _ _).sL (by decide)).sI (by decide) (by decide)
            obtain ⟨z2, e2, o1, o2, o3⟩ := ih (by omega) f (by omega) (stI (stL z 25 0 c ((ll X - bsl F t c c) / ll (F c c))) 18 0 c (ii X)) u (up1 x c X) (up1 t c ((ll X - bsl F t c c) / ll (F c c))) (g2.st ft) (fun v hv => by
              by_cases gv : v = c
              · subst gv
                rw [up1_same, up1_same, st_s, st_2, sl_s]
                exact ⟨hX, rfl, rfl⟩
              · rw [up1_ne _ _ gv, up1_ne _ _ gv, st_j _ _ gv, st_2, sl_1, sl_j _ _ gv]
                obtain ⟨w1, w2, w3⟩ := hx v (by omega)
                obtain ⟨w4, w5⟩ := g3 v (by omega)
                exact ⟨w1, w4.trans w2, w5.trans w3⟩) (by
              rw [hcm]
              intro v hv
              by_cases gv : v = c
              · subst gv
                have e := zv_c (F := F) (x := up1 x v X) (y := up1 x v X) (t := t) (u := up1 t v ((ll X - bsl F t v v) / ll (F v v))) (c := v) rfl (fun w hw => (up1_ne _ _ (by omega)).symm)
                unfold tst
                rw [← e, up1_same, z1]
                exact ⟨q2', rfl⟩
              · exact gd_c (u := up1 t c ((ll X - bsl F t c c) / ll (F c c))) (fun _ _ => rfl) (fun w hw => (up1_ne _ _ (by omega)).symm) gx v (by omega))
            rw [hcm, sq1, show ((c + 1 : Nat) : Int) = (c : Int) + 1 by omega] at e2
            refine ⟨(ii (8 - ((j + 1 : Nat) : Int)), z2), ?_, rfl, o1, fun v hv => ?_, (g4.tr (ft.mono (by decide) (by decide))).tr o3⟩
            · show fX2_tryLetter_100 (fX2_tryLetter f) (ii c) (ii (sqn x c)) (ll (F c c)) (bsl F t c c) (ii X) z = _
              rw [← ej]
              unfold fX2_tryLetter_100 fX2_tryLetter_170
              simp (disch := omega) only [T2, r1, r2, q2', e2, if_true, if_false, Option.bind_some, Option.map_some, ii_lit, ll_lit, ii_neg, ll_neg, ii_add, ii_sub, ii_mul, ll_add, ll_sub, ll_mul, ii_le, ii_lt, ii_eq, ii_t, bi_0, bi_1, rd_z, wr_z, rr_z, rl_z, wl_z, tn_n, st_s, st_j, st_i, st_c, st_2, sl_s, sl_j, sl_i, sl_c, sl_1, Int.natCast_add, Int.cast_ofNat_Int, if_pos, if_neg, decide_eq_false_iff_not, decide_eq_true_eq, in_ll, ii_long, Nat.zero_add, Nat.mul_zero, reduceCtorEq]
            · obtain ⟨w1, w2⟩ := o2 v (by omega)
              obtain ⟨w4, w5⟩ := g3 v hv
              rw [w1, w2, st_j _ _ (by omega), st_2, sl_1, sl_j _ _ (by omega)]
              exact ⟨w4, w5⟩
          · have q2' : ¬ lg_cmp ((ll X - bsl F t c c) - (ll X - bsl F t c c) / ll (F c c) * ll (F c c)) (ll 0) = ii 0 := by
              have := q2
              unfold tst at this
              rw [z1] at this
              exact this
            have en : tf n (LL n F) m (up1 x c X) u = u := tf_no (by omega) (fun y hy => Or.inr (by
              refine gd_no (t := t) hcn (gd_c (fun v hv => (hy v (by omega)).symm) (fun _ _ => rfl) gx) (fun h => q2 ?_)
              have e := zv_c (F := F) (x := y) (y := up1 x c X) (t := t) (u := t) (c := c) (hy c (by omega)) (fun _ _ => rfl)
              unfold tst at h ⊢
              rw [← e]
              exact h))
            rw [en]
            refine ⟨(ii (8 - ((j + 1 : Nat) : Int)), z), ?_, rfl, g2, g3, g4⟩
            show fX2_tryLetter_100 (fX2_tryLetter f) (ii c) (ii (sqn x c)) (ll (F c c)) (bsl F t c c) (ii X) z = _
            rw [← ej]
            unfold fX2_tryLetter_100 fX2_tryLetter_170
            simp (disch := omega) only [T2, r1, q2', if_true, if_false, Option.bind_some, Option.map_some, ii_lit, ll_lit, ii_neg, ll_neg, ii_add, ii_sub, ii_mul, ll_add, ll_sub, ll_mul, ii_le, ii_lt, ii_eq, ii_t, bi_0, bi_1, rd_z, wr_z, rr_z, rl_z, wl_z, tn_n, st_s, st_j, st_i, st_c, st_2, sl_s, sl_j, sl_i, sl_c, sl_1, Int.natCast_add, Int.cast_ofNat_Int, if_pos, if_neg, decide_eq_false_iff_not, decide_eq_true_eq, in_ll, ii_long, Nat.zero_add, Nat.mul_zero, reduceCtorEq]
      · rintro ⟨a, z⟩ ⟨g1, g2, g3, g4⟩
        simp only [] at g1 g2 g3 g4
        subst g1
        refine ⟨z, ?_, g2, g3, g4⟩
        show fX2_tryLetter_100 (fX2_tryLetter f) (ii c) (ii (sqn x c)) (ll (F c c)) (bsl F t c c) (ii (8 - ((17 : Nat) : Int))) z = _
        unfold fX2_tryLetter_100
        simp (disch := omega) only [if_true, if_false, Option.bind_some, Option.map_some, ii_lit, ll_lit, ii_neg, ll_neg, ii_add, ii_sub, ii_mul, ll_add, ll_sub, ll_mul, ii_le, ii_lt, ii_eq, ii_t, bi_0, bi_1, rd_z, wr_z, rr_z, rl_z, wl_z, tn_n, st_s, st_j, st_i, st_c, st_2, sl_s, sl_j, sl_i, sl_c, sl_1, Int.natCast_add, Int.cast_ofNat_Int, if_pos, if_neg, decide_eq_false_iff_not, decide_eq_true_eq, in_ll, ii_long, Nat.zero_add, Nat.mul_zero, reduceCtorEq]
    obtain ⟨w, e, q1, q2, q3⟩ := main
    refine ⟨w, ?_, q1, q2, q3⟩
    have e2 := lb w e
    show fX2_tryLetter_0 (fX2_tryLetter f) (ii c) (ii (sqn x c)) σ = _
    unfold fX2_tryLetter_0
    simp (disch := omega) only [x0, x1, cmp_gt0, e2, if_true, if_false, Option.bind_some, Option.map_some, ii_lit, ll_lit, ii_neg, ll_neg, ii_add, ii_sub, ii_mul, ll_add, ll_sub, ll_mul, ii_le, ii_lt, ii_eq, ii_t, bi_0, bi_1, rd_z, wr_z, rr_z, rl_z, wl_z, tn_n, st_s, st_j, st_i, st_c, st_2, sl_s, sl_j, sl_i, sl_c, sl_1, Int.natCast_add, Int.cast_ofNat_Int, if_pos, if_neg, decide_eq_false_iff_not, decide_eq_true_eq, in_ll, ii_long, Nat.zero_add, Nat.mul_zero, reduceCtorEq]
