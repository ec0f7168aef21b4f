-- THE REFERENCE'S FORM
def ovr (c : Nat) (V M : mat) : mat := fun i l => if i < c then V i l else M i l
theorem ovr_g {c i : Nat} (h : c ≤ i) (V M : mat) (l : Nat) : ovr c V M i l = M i l := if_neg (by omega)
theorem ovr_l {c i : Nat} (h : i < c) (V M : mat) (l : Nat) : ovr c V M i l = V i l := if_pos h
theorem ovr_rsw {c r : Nat} (h : c ≤ r) (V M : mat) : rsw (ovr c V M) c r = ovr c V (rsw M c r) := by
  funext i l
  unfold rsw
  by_cases g : i < c
  · rw [if_neg (by omega), if_neg (by omega), ovr_l g, ovr_l g]
  · rw [ovr_g (by omega) V (fun i l => if i = c then M r l else if i = r then M c l else M i l), ovr_g h, ovr_g (Nat.le_refl c), ovr_g (by omega)]
theorem ovr_rop {c r : Nat} (h : c ≤ r) (V M : mat) (q : Int) : rop (ovr c V M) c r q = ovr c V (rop M c r q) := by
  funext i l
  unfold rop
  by_cases g : i < c
  · rw [if_neg (by omega), ovr_l g, ovr_l g]
  · rw [ovr_g (by omega) V (fun i l => if i = c then M c l + q * M r l else M i l), ovr_g h, ovr_g (Nat.le_refl c), ovr_g (by omega)]
theorem ovr_stp {c r : Nat} (h : c < r) (V M : mat) : stp c r (ovr c V M) = ovr c V (stp c r M) := by
  unfold stp
  rw [ovr_rop (by omega), ovr_rsw (by omega), ovr_g (Nat.le_refl c), ovr_g (by omega)]
theorem ovr_itm {c r : Nat} (h : c < r) (V M : mat) (k : Nat) : itm c r k (ovr c V M) = ovr c V (itm c r k M) := by
  induction k with
  | zero => rfl
  | succ k ih =>
    unfold itm
    rw [ih, ovr_stp h]
theorem ovr_Cl {c r k : Nat} (h : c < r) (V : mat) {M : mat} (hk : Cl c r M k) : Cl c r (ovr c V M) k := by
  obtain ⟨h1, h2, h3⟩ := hk
  refine ⟨?_, fun j hj => ?_, fun j hj => ?_⟩
  · rw [ovr_itm h, ovr_g (by omega)]
    exact h1
  · rw [ovr_itm h, ovr_g (by omega)]
    exact h2 j hj
  · rw [ovr_itm h, ovr_g (Nat.le_refl c), ovr_g (show c ≤ r by omega)]
    exact h3 j hj
theorem M_main {τ : mm} {n c : Nat} {M V : mat} {s : Int} (h : matM τ n (ovr c V M)) (hc : c < n) (hL : Leg n c M) (hs : τ.1 32 0 24 = ii s) : ∃ τ', lp (fX8_clears_65_L (ii c)) (ii ((c : Int) + 1), τ) = some (true, τ') ∧ matM τ' n (ovr c V (colm c (n - 1 - c) M)) ∧ τ'.1 32 0 24 = ii (s * cols c (n - 1 - c) M) ∧ Fr [63] [24] τ τ' := by
  have hn4 := h.1
  have key : ∃ w, lp (fX8_clears_65_L (ii c)) (ii ((c : Int) + 1), τ) = some w ∧ (w.1 = true ∧ matM w.2 n (ovr c V (colm c (n - 1 - c) M)) ∧ w.2.1 32 0 24 = ii (s * cols c (n - 1 - c) M) ∧ Fr [63] [24] τ w.2) := by
    refine lp_j (fun m (z : Int32 × mm) => z.1 = ii ((c : Int) + m + 1) ∧ matM z.2 n (ovr c V (colm c m M)) ∧ z.2.1 32 0 24 = ii (s * cols c m M) ∧ Fr [63] [24] τ z.2) _ (n - 1 - c) ⟨?_, h, by rw [hs]; show ii s = ii (s * 1); rw [Int.mul_one], Fr.rf _ _ _⟩ ?_ ?_
    · show ii ((c : Int) + 1) = ii ((c : Int) + (0 : Nat) + 1)
      congr 1
    · rintro m ⟨a, z⟩ hm ⟨g1, g2, g3, g4⟩
      simp only [] at g1 g2 g3 g4
      subst g1
      have q := (hL.cl (m := m) (by omega)).2
      obtain ⟨z1, e1, f1, f2, f3⟩ := M_pair g2 hc (r := c + m + 1) (by omega) (by omega) (ovr_Cl (by omega) V q) g3
      rw [ovr_itm (by omega)] at f1
      rw [show ((c + m + 1 : Nat) : Int) = (c : Int) + m + 1 by omega, show ((c + m + 1 + 1 : Nat) : Int) = (c : Int) + (m + 1 : Nat) + 1 by omega] at e1
      have x0 := g2.2.1
      refine ⟨(ii ((c : Int) + (m + 1 : Nat) + 1), z1), ?_, rfl, f1, by rw [f2, Int.mul_assoc]; rfl, g4.tr f3⟩
      show fX8_clears_65 (ii c) (ii ((c : Int) + m + 1)) z = _
      unfold fX8_clears_65
      rw [x0, e1, if_neg (by rw [ii_le (by omega) (by omega) (by omega) (by omega)]; omega)]
    · rintro ⟨a, z⟩ ⟨g1, g2, g3, g4⟩
      simp only [] at g1 g2 g3 g4
      subst g1
      have x0 := g2.2.1
      refine ⟨(true, z), ?_, rfl, g2, g3, g4⟩
      show fX8_clears_65 (ii c) (ii ((c : Int) + (n - 1 - c : Nat) + 1)) z = _
      rw [show (c : Int) + (n - 1 - c : Nat) + 1 = n by omega]
      unfold fX8_clears_65
      rw [x0, if_pos (Int32.le_refl _)]
  obtain ⟨⟨a, z⟩, e, g1, g2⟩ := key
  have g1 : a = true := g1
  subst g1
  exact ⟨z, e, g2⟩
-- the pivot is changed first
theorem k_z {c r : Nat} {M : mat} (hcr : c ≠ r) (h1 : (M c c).natAbs < 2147483648) (h : M r c = 0) : kkf c r M = 0 := cl_z0 (kkf_s hcr h1 (by rw [h]; decide)).2 h
theorem rsw_stp {c r : Nat} (M : mat) (hu : M c c = 0) : stp c r M = rsw M c r := by
  unfold stp
  have e : rop M c r (-(Int.tdiv (M c c) (M r c))) = M := by
    funext i l
    unfold rop
    rw [hu, Int.zero_tdiv]
    by_cases g : i = c
    · rw [if_pos g, g]
      omega
    · rw [if_neg g]
  rw [e]
theorem pre_s {n c r0 : Nat} {M : mat} (hb : ∀ i, i < n → (M i c).natAbs < 2147483648) (h0 : M c c = 0) (h1 : c < r0) (h2 : r0 < n) (h3 : M r0 c ≠ 0) (h4 : ∀ i, c < i → i < r0 → M i c = 0) : ∀ m, c + m < n → (c + m < r0 → colm c m M = M ∧ cols c m M = 1 ∧ colm c m (rsw M c r0) = rsw M c r0 ∧ cols c m (rsw M c r0) = 1) ∧ (r0 ≤ c + m → colm c m M = colm c m (rsw M c r0) ∧ cols c m M = -cols c m (rsw M c r0)) := by
  have w1 : ∀ l, rsw M c r0 c l = M r0 l := fun l => by unfold rsw; rw [if_pos rfl]
  have w2 : ∀ l, rsw M c r0 r0 l = M c l := fun l => by unfold rsw; rw [if_neg (by omega), if_pos rfl]
  have w3 : ∀ i l, i ≠ c → i ≠ r0 → rsw M c r0 i l = M i l := fun i l a b => by unfold rsw; rw [if_neg a, if_neg b]
  intro m
  induction m with
  | zero => intro _; exact ⟨fun _ => ⟨rfl, rfl, rfl, rfl⟩, fun h => by omega⟩
  | succ m ih =>
    intro hm
    obtain ⟨i1, i2⟩ := ih (by omega)
    rcases Nat.lt_trichotomy (c + m + 1) r0 with g | g | g
    · refine ⟨fun _ => ?_, fun h => by omega⟩
      obtain ⟨a1, a2, a3, a4⟩ := i1 (by omega)
      have k1 : kkf c (c + m + 1) M = 0 := k_z (by omega) (by rw [h0]; decide) (h4 _ (by omega) g)
      have k2 : kkf c (c + m + 1) (rsw M c r0) = 0 := k_z (by omega) (by rw [w1]; exact hb r0 h2) (by rw [w3 _ _ (by omega) (by omega)]; exact h4 _ (by omega) g)
      unfold colm cols clm
      rw [a1, a2, a3, a4, k1, k2]
      exact ⟨rfl, rfl, rfl, rfl⟩
    · refine ⟨fun h => by omega, fun _ => ?_⟩
      obtain ⟨a1, a2, a3, a4⟩ := i1 (by omega)
      have k1 : kkf c (c + m + 1) M = 1 := by
        rw [g]
        exact (cl_z1 (by omega) (kkf_s (by omega) (by rw [h0]; decide) (hb r0 h2)).2 h0 h3).1
      have k2 : kkf c (c + m + 1) (rsw M c r0) = 0 := k_z (by omega) (by rw [w1]; exact hb r0 h2) (by rw [g, w2]; exact h0)
      unfold colm cols clm
      rw [a1, a2, a3, a4, k1, k2, g]
      exact ⟨rsw_stp M h0, by decide⟩
    · refine ⟨fun h => by omega, fun _ => ?_⟩
      obtain ⟨a1, a2⟩ := i2 (by omega)
      unfold colm cols
      rw [a1, a2]
      exact ⟨rfl, Int.neg_mul _ _⟩
theorem pre_L {n c r0 : Nat} {M : mat} (hL : Leg n c M) (hb : ∀ i, i < n → (M i c).natAbs < 2147483648) (h0 : M c c = 0) (h1 : c < r0) (h2 : r0 < n) (h3 : M r0 c ≠ 0) (h4 : ∀ i, c < i → i < r0 → M i c = 0) : Leg n c (rsw M c r0) := by
  intro m hm
  obtain ⟨i1, i2⟩ := pre_s hb h0 h1 h2 h3 h4 m (by omega)
  by_cases g : c + m < r0
  · rw [(i1 g).2.2.1]
    unfold rsw
    rw [if_pos rfl, if_neg (by omega)]
    refine ⟨hb r0 h2, ?_⟩
    split
    · rw [h0]; decide
    · exact hb _ hm
  · rw [← (i2 (by omega)).1]
    exact hL m hm
theorem first_nz (M : mat) (c : Nat) : ∀ d, (∃ r, c < r ∧ r ≤ c + d ∧ M r c ≠ 0 ∧ ∀ i, c < i → i < r → M i c = 0) ∨ ∀ i, c < i → i ≤ c + d → M i c = 0 := by
  intro d
  induction d with
  | zero => exact Or.inr (fun i h1 h2 => by omega)
  | succ d ih =>
    rcases ih with ⟨r, a1, a2, a3, a4⟩ | h
    · exact Or.inl ⟨r, a1, by omega, a3, a4⟩
    · by_cases g : M (c + d + 1) c = 0
      · refine Or.inr (fun i h1 h2 => ?_)
        by_cases g' : i = c + d + 1
        · rw [g']; exact g
        · exact h i h1 (by omega)
      · exact Or.inl ⟨c + d + 1, by omega, by omega, g, fun i h1 h2 => h i h1 (by omega)⟩
theorem M_clears {τ : mm} {n c : Nat} {M V : mat} {s : Int} (h : matM τ n (ovr c V M)) (hc : c < n) (hL : Leg n c M) (hb : ∀ i, i < n → (M i c).natAbs < 2147483648) (hs : τ.1 32 0 24 = ii s) :
    ∃ τ', Fr [63] [24] τ τ' ∧ (colm c (n - 1 - c) M c c ≠ 0 → fX8_clears (ii c) τ = some (true, τ') ∧ matM τ' n (ovr c V (colm c (n - 1 - c) M)) ∧ τ'.1 32 0 24 = ii (s * cols c (n - 1 - c) M)) ∧ (colm c (n - 1 - c) M c c = 0 → fX8_clears (ii c) τ = some (false, τ')) := by
  have hn4 := h.1
  -- where the rows change places, if they do
  obtain ⟨r0, p1, p2, p3⟩ : ∃ r0, (∀ i, c ≤ i → i < r0 → i < n → M c c ≠ 0 ∨ M i c = 0) ∧ (r0 < n → c < r0 ∧ M c c = 0 ∧ M r0 c ≠ 0 ∧ ∀ i, c < i → i < r0 → M i c = 0) ∧ r0 ≤ n := by
    by_cases g : M c c = 0
    · rcases first_nz M c (n - 1 - c) with ⟨r, a1, a2, a3, a4⟩ | h
      · refine ⟨r, fun i h1 h2 h3 => Or.inr ?_, fun _ => ⟨a1, g, a3, a4⟩, by omega⟩
        by_cases g' : i = c
        · rw [g']; exact g
        · exact a4 i (by omega) h2
      · refine ⟨n, fun i h1 h2 h3 => Or.inr ?_, fun h => by omega, Nat.le_refl _⟩
        by_cases g' : i = c
        · rw [g']; exact g
        · exact h i (by omega) (by omega)
    · exact ⟨n, fun i _ _ _ => Or.inl g, fun h => by omega, Nat.le_refl _⟩
  have key : ∃ w, lp (fX8_clears_2_L (ii c)) (ii c, τ) = some w ∧ (Fr [63] [24] τ w.2 ∧ (colm c (n - 1 - c) M c c ≠ 0 → w.1 = true ∧ matM w.2 n (ovr c V (colm c (n - 1 - c) M)) ∧ w.2.1 32 0 24 = ii (s * cols c (n - 1 - c) M)) ∧ (colm c (n - 1 - c) M c c = 0 → w.1 = false)) := by
    refine lp_j (fun j (z : Int32 × mm) => z.1 = ii ((c : Int) + j) ∧ ((c + j ≤ r0 ∧ matM z.2 n (ovr c V M) ∧ z.2.1 32 0 24 = ii s) ∨ (r0 < c + j ∧ matM z.2 n (ovr c V (rsw M c r0)) ∧ z.2.1 32 0 24 = ii (-s))) ∧ Fr [63] [24] τ z.2) _ (n - c) ⟨?_, Or.inl ⟨?_, h, hs⟩, Fr.rf _ _ _⟩ ?_ ?_
    · show ii (c : Int) = ii ((c : Int) + (0 : Nat))
      congr 1
    · by_cases g : r0 < n
      · have := (p2 g).1
        omega
      · omega
    · rintro j ⟨a, z⟩ hj ⟨g1, g2, g3⟩
      simp only [] at g1 g2 g3
      subst g1
      have t1 : (4 * ((c : Int) + j) + (c : Int)).toNat = 4 * (c + j) + c := by omega
      have t2 : (4 * (c : Int) + (c : Int)).toNat = 4 * c + c := by omega
      have sj : ii ((c : Int) + (j : Int) + 1) = ii ((c : Int) + ((j : Int) + 1)) := by
        rw [Int.add_assoc]
      rcases g2 with ⟨q1, q2, q3⟩ | ⟨q1, q2, q3⟩
      · have x0 := q2.2.1
        have x1 := q2.2.2 (c + j) c (by omega) hc
        have x2 := q2.2.2 c c hc hc
        rw [ovr_g (by omega)] at x1
        rw [ovr_g (Nat.le_refl c)] at x2
        have b1 := hb (c + j) (by omega)
        have b2 := hb c hc
        by_cases gr : c + j < r0
        · refine ⟨(ii ((c : Int) + (j + 1 : Nat)), z), ?_, rfl, Or.inl ⟨by omega, q2, q3⟩, g3⟩
          show fX8_clears_2 (ii c) (ii ((c : Int) + j)) z = _
          unfold fX8_clears_2 fX8_clears_42
          rcases p1 (c + j) (by omega) gr (by omega) with pp | pp
          · by_cases p0 : M (c + j) c = 0
            · simp (disch := omega) only [t1, t2, x0, x1, x2, p0, if_true, if_false, Option.bind_some, Option.map_some, ii_lit, ll_lit, ii_neg, ll_neg, ii_add, ii_sub, ii_mul, ll_add, ll_sub, ll_mul, ii_le, ii_lt, ii_eq, ii_t, bi_0, bi_1, rd_z, wr_z, rr_z, rl_z, wl_z, tn_n, st_s, st_j, st_i, st_c, st_2, sl_s, sl_j, sl_i, sl_c, sl_1, Int.natCast_add, Int.cast_ofNat_Int, if_pos, if_neg, decide_eq_false_iff_not, decide_eq_true_eq, in_ll, ii_long, Nat.zero_add, Nat.mul_zero, reduceCtorEq]
              rw [sj]
            · simp (disch := omega) only [t1, t2, x0, x1, x2, if_true, if_false, Option.bind_some, Option.map_some, ii_lit, ll_lit, ii_neg, ll_neg, ii_add, ii_sub, ii_mul, ll_add, ll_sub, ll_mul, ii_le, ii_lt, ii_eq, ii_t, bi_0, bi_1, rd_z, wr_z, rr_z, rl_z, wl_z, tn_n, st_s, st_j, st_i, st_c, st_2, sl_s, sl_j, sl_i, sl_c, sl_1, Int.natCast_add, Int.cast_ofNat_Int, if_pos, if_neg, decide_eq_false_iff_not, decide_eq_true_eq, in_ll, ii_long, Nat.zero_add, Nat.mul_zero, reduceCtorEq]
              rw [sj]
          · simp (disch := omega) only [t1, t2, x0, x1, x2, pp, if_true, if_false, Option.bind_some, Option.map_some, ii_lit, ll_lit, ii_neg, ll_neg, ii_add, ii_sub, ii_mul, ll_add, ll_sub, ll_mul, ii_le, ii_lt, ii_eq, ii_t, bi_0, bi_1, rd_z, wr_z, rr_z, rl_z, wl_z, tn_n, st_s, st_j, st_i, st_c, st_2, sl_s, sl_j, sl_i, sl_c, sl_1, Int.natCast_add, Int.cast_ofNat_Int, if_pos, if_neg, decide_eq_false_iff_not, decide_eq_true_eq, in_ll, ii_long, Nat.zero_add, Nat.mul_zero, reduceCtorEq]
            rw [sj]
        · have hr : c + j = r0 := by omega
          obtain ⟨y1, y2, y3, y4⟩ := p2 (by omega)
          obtain ⟨z1, e1, f1, f2, f3⟩ := M_changesRows q2 hc (show c + j < n by omega) q3
          rw [ovr_rsw (by omega)] at f1
          rw [show ((c + j : Nat) : Int) = (c : Int) + j by omega] at e1
          refine ⟨(ii ((c : Int) + (j + 1 : Nat)), z1), ?_, rfl, Or.inr ⟨by omega, by rw [← hr]; exact f1, f2⟩, g3.tr f3⟩
          show fX8_clears_2 (ii c) (ii ((c : Int) + j)) z = _
          unfold fX8_clears_2 fX8_clears_42
          rw [y2] at x2
          have y3 : ¬ M (c + j) c = 0 := by rw [hr]; exact y3
          simp (disch := omega) only [t1, t2, x0, x1, x2, y3, e1, if_true, if_false, Option.bind_some, Option.map_some, ii_lit, ll_lit, ii_neg, ll_neg, ii_add, ii_sub, ii_mul, ll_add, ll_sub, ll_mul, ii_le, ii_lt, ii_eq, ii_t, bi_0, bi_1, rd_z, wr_z, rr_z, rl_z, wl_z, tn_n, st_s, st_j, st_i, st_c, st_2, sl_s, sl_j, sl_i, sl_c, sl_1, Int.natCast_add, Int.cast_ofNat_Int, if_pos, if_neg, decide_eq_false_iff_not, decide_eq_true_eq, in_ll, ii_long, Nat.zero_add, Nat.mul_zero, reduceCtorEq]
          rw [sj]
      · obtain ⟨y1, y2, y3, y4⟩ := p2 (by omega)
        have x0 := q2.2.1
        have x1 := q2.2.2 (c + j) c (by omega) hc
        have x2 := q2.2.2 c c hc hc
        rw [ovr_g (by omega)] at x1
        rw [ovr_g (Nat.le_refl c)] at x2
        have e2 : rsw M c r0 c c = M r0 c := by unfold rsw; rw [if_pos rfl]
        have e1 : rsw M c r0 (c + j) c = M (c + j) c := by unfold rsw; rw [if_neg (by omega), if_neg (by omega)]
        rw [e2] at x2
        rw [e1] at x1
        have b1 := hb (c + j) (by omega)
        have b2 := hb r0 (by omega)
        refine ⟨(ii ((c : Int) + (j + 1 : Nat)), z), ?_, rfl, Or.inr ⟨by omega, q2, q3⟩, g3⟩
        show fX8_clears_2 (ii c) (ii ((c : Int) + j)) z = _
        unfold fX8_clears_2 fX8_clears_42
        by_cases p0 : M (c + j) c = 0
        · simp (disch := omega) only [t1, t2, x0, x1, x2, p0, if_true, if_false, Option.bind_some, Option.map_some, ii_lit, ll_lit, ii_neg, ll_neg, ii_add, ii_sub, ii_mul, ll_add, ll_sub, ll_mul, ii_le, ii_lt, ii_eq, ii_t, bi_0, bi_1, rd_z, wr_z, rr_z, rl_z, wl_z, tn_n, st_s, st_j, st_i, st_c, st_2, sl_s, sl_j, sl_i, sl_c, sl_1, Int.natCast_add, Int.cast_ofNat_Int, if_pos, if_neg, decide_eq_false_iff_not, decide_eq_true_eq, in_ll, ii_long, Nat.zero_add, Nat.mul_zero, reduceCtorEq]
          rw [sj]
        · simp (disch := omega) only [t1, t2, x0, x1, x2, if_true, if_false, Option.bind_some, Option.map_some, ii_lit, ll_lit, ii_neg, ll_neg, ii_add, ii_sub, ii_mul, ll_add, ll_sub, ll_mul, ii_le, ii_lt, ii_eq, ii_t, bi_0, bi_1, rd_z, wr_z, rr_z, rl_z, wl_z, tn_n, st_s, st_j, st_i, st_c, st_2, sl_s, sl_j, sl_i, sl_c, sl_1, Int.natCast_add, Int.cast_ofNat_Int, if_pos, if_neg, decide_eq_false_iff_not, decide_eq_true_eq, in_ll, ii_long, Nat.zero_add, Nat.mul_zero, reduceCtorEq]
          rw [sj]
    · rintro ⟨a, z⟩ ⟨g1, g2, g3⟩
      simp only [] at g1 g2 g3
      subst g1
      have t2 : (5 * (c : Int)).toNat = 4 * c + c := by omega
      have en : (c : Int) + (n - c : Nat) = n := by omega
      show ∃ r, fX8_clears_2 (ii c) (ii ((c : Int) + (n - c : Nat))) z = some (.inr r) ∧ _
      rw [en]
      rcases g2 with ⟨q1, q2, q3⟩ | ⟨q1, q2, q3⟩
      · have x0 := q2.2.1
        have x2 := q2.2.2 c c hc hc
        rw [ovr_g (Nat.le_refl c)] at x2
        have b2 := hb c hc
        by_cases p0 : M c c = 0
        · refine ⟨(false, z), ?_, g3, fun hz => absurd ?_ hz, fun _ => rfl⟩
          · unfold fX8_clears_2
            rw [p0] at x2
            simp (disch := omega) only [t2, x0, x2, if_true, if_false, Option.bind_some, Option.map_some, ii_lit, ll_lit, ii_neg, ll_neg, ii_add, ii_sub, ii_mul, ll_add, ll_sub, ll_mul, ii_le, ii_lt, ii_eq, ii_t, bi_0, bi_1, rd_z, wr_z, rr_z, rl_z, wl_z, tn_n, st_s, st_j, st_i, st_c, st_2, sl_s, sl_j, sl_i, sl_c, sl_1, Int.natCast_add, Int.cast_ofNat_Int, if_pos, if_neg, decide_eq_false_iff_not, decide_eq_true_eq, in_ll, ii_long, Nat.zero_add, Nat.mul_zero, reduceCtorEq]
          · have al : ∀ m, c + m < n → colm c m M = M := fun m => by
              induction m with
              | zero => intro _; rfl
              | succ m ih =>
                intro hm
                have k1 : kkf c (c + m + 1) M = 0 := k_z (by omega) (by omega) ((p1 (c + m + 1) (by omega) (by omega) (by omega)).resolve_left (fun h => h p0))
                unfold colm clm
                rw [ih (by omega), k1]
                rfl
            rw [al (n - 1 - c) (by omega)]
            exact p0
        · obtain ⟨z1, e1, f1, f2, f3⟩ := M_main q2 hc hL q3
          refine ⟨(true, z1), ?_, g3.tr f3, fun _ => ⟨rfl, f1, f2⟩, fun hz => absurd (col_z hL (n - 1 - c) (by omega) hz).1 (fun hh => p0 (hh c (Nat.le_refl _) (by omega)))⟩
          unfold fX8_clears_2
          simp (disch := omega) only [t2, x0, x2, e1, if_true, if_false, Option.bind_some, Option.map_some, ii_lit, ll_lit, ii_neg, ll_neg, ii_add, ii_sub, ii_mul, ll_add, ll_sub, ll_mul, ii_le, ii_lt, ii_eq, ii_t, bi_0, bi_1, rd_z, wr_z, rr_z, rl_z, wl_z, tn_n, st_s, st_j, st_i, st_c, st_2, sl_s, sl_j, sl_i, sl_c, sl_1, Int.natCast_add, Int.cast_ofNat_Int, if_pos, if_neg, decide_eq_false_iff_not, decide_eq_true_eq, in_ll, ii_long, Nat.zero_add, Nat.mul_zero, reduceCtorEq]
      · obtain ⟨y1, y2, y3, y4⟩ := p2 (by omega)
        have x0 := q2.2.1
        have x2 := q2.2.2 c c hc hc
        rw [ovr_g (Nat.le_refl c)] at x2
        have e2 : rsw M c r0 c c = M r0 c := by unfold rsw; rw [if_pos rfl]
        rw [e2] at x2
        have b2 := hb r0 (by omega)
        obtain ⟨i1, i2⟩ := (pre_s hb y2 y1 (by omega) y3 y4 (n - 1 - c) (by omega)).2 (by omega)
        obtain ⟨z1, e1, f1, f2, f3⟩ := M_main q2 hc (pre_L hL hb y2 y1 (by omega) y3 y4) q3
        rw [← i1] at f1
        refine ⟨(true, z1), ?_, g3.tr f3, fun _ => ⟨rfl, f1, by rw [f2, i2, Int.neg_mul, Int.mul_neg]⟩, fun hz => absurd (col_z hL (n - 1 - c) (by omega) hz).1 (fun hh => y3 (hh r0 (by omega) (by omega)))⟩
        unfold fX8_clears_2
        simp (disch := omega) only [t2, x0, x2, e1, if_true, if_false, Option.bind_some, Option.map_some, ii_lit, ll_lit, ii_neg, ll_neg, ii_add, ii_sub, ii_mul, ll_add, ll_sub, ll_mul, ii_le, ii_lt, ii_eq, ii_t, bi_0, bi_1, rd_z, wr_z, rr_z, rl_z, wl_z, tn_n, st_s, st_j, st_i, st_c, st_2, sl_s, sl_j, sl_i, sl_c, sl_1, Int.natCast_add, Int.cast_ofNat_Int, if_pos, if_neg, decide_eq_false_iff_not, decide_eq_true_eq, in_ll, ii_long, Nat.zero_add, Nat.mul_zero, reduceCtorEq]
  obtain ⟨⟨a, z⟩, e, g1, g2, g3⟩ := key
  refine ⟨z, g1, fun hz => ?_, fun hz => ?_⟩
  · obtain ⟨k1, k2, k3⟩ := g2 hz
    have k1 : a = true := k1
    subst k1
    exact ⟨e, k2, k3⟩
  · have k1 : a = false := g3 hz
    subst k1
    exact e
