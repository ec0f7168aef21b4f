-- THE CLASS'S FORM
theorem C_lowerRow {σ : mm} {n v : Nat} {U W : mat} (h : matC σ n W) (hT : TT n U) (hB : ∀ i l, i < 4 → (U i l).natAbs ≤ 16544) (hv : v < n) (done : ∀ i, v < i → i < n → rdw n U i (W i) ∧ ∀ l, i < l → l < n → 0 ≤ W i l ∧ W i l < U l l) (hW : ∀ l, W v l = U v l) :
    ∃ σ' W', lp (fX2_lowerAbove_15_L (ii v)) (ii ((v : Int) + 1), σ) = some (.inl (ii ((v : Int) + -1), σ')) ∧ matC σ' n W' ∧ (∀ i l, i ≠ v → W' i l = W i l) ∧ rdw n U v (W' v) ∧ (∀ l, v < l → l < n → 0 ≤ W' v l ∧ W' v l < U l l) ∧ Fr [23] [] σ σ' := by
  have hn4 := h.1
  have key : ∃ w, lp (fX2_lowerAbove_15_L (ii v)) (ii ((v : Int) + 1), σ) = some w ∧ ∃ σ' W', w = .inl (ii ((v : Int) + -1), σ') ∧ matC σ' n W' ∧ (∀ i l, i ≠ v → W' i l = W i l) ∧ rdw n U v (W' v) ∧ (∀ l, v < l → l < n → 0 ≤ W' v l ∧ W' v l < U l l) ∧ Fr [23] [] σ σ' := by
    refine lp_j (fun m (z : Int32 × mm) => z.1 = ii ((v : Int) + m + 1) ∧ ∃ W', matC z.2 n W' ∧ (∀ i l, i ≠ v → W' i l = W i l) ∧ rdw n U v (W' v) ∧ (∀ l, v < l → l < v + m + 1 → 0 ≤ W' v l ∧ W' v l < U l l) ∧ (∀ l, (W' v l).natAbs ≤ 16544 * 16545 ^ m) ∧ Fr [23] [] σ z.2) _ (n - 1 - v) ⟨?_, W, h, fun _ _ _ => rfl, rdw_c (rdw_0 n U v) hW, fun l h1 h2 => by omega, fun l => by rw [hW, Nat.pow_zero]; have := hB v l (by omega); omega, Fr.rf _ _ _⟩ ?_ ?_
    · show ii ((v : Int) + 1) = ii ((v : Int) + (0 : Nat) + 1)
      congr 1
    · rintro m ⟨a, s⟩ hm ⟨g1, W', g2, g3, g4, g5, g6, g7⟩
      simp only [] at g1 g2 g7
      subst g1
      obtain ⟨d1, d2⟩ := done (v + m + 1) (by omega) (by omega)
      have d1 : rdw n U (v + m + 1) (W' (v + m + 1)) := rdw_c d1 (fun l => g3 _ l (by omega))
      have d2 : ∀ l, v + m + 1 < l → l < n → 0 ≤ W' (v + m + 1) l ∧ W' (v + m + 1) l < U l l := fun l h1 h2 => by
        rw [g3 _ l (by omega)]
        exact d2 l h1 h2
      obtain ⟨l1, l2, l3⟩ := rdw_l hT d1
      have hG : ∀ l, (W' (v + m + 1) l).natAbs ≤ 16544 := fun l => by
        rcases Nat.lt_trichotomy l (v + m + 1) with g | g | g
        · rw [l1 l g]; decide
        · rw [g, l2]; exact hB _ _ (by omega)
        · by_cases g' : l < n
          · have q1 := d2 l g g'
            have q2 := hB l l (by omega)
            omega
          · rw [l3 l (by omega)]; decide
      have hp : 0 < W' (v + m + 1) (v + m + 1) := by rw [l2]; exact hT.1 _ (by omega)
      have q := dn hn4 (by omega) (by omega) l1 l2 hp g4 d1 g5 g6 hG
      have hp2 := hG (v + m + 1)
      have hbv := g6 (v + m + 1)
      have pw : 16545 ^ m ≤ 16545 ^ 2 := Nat.pow_le_pow_right (by decide) (by omega)
      have hbv2 : (W' v (v + m + 1)).natAbs < 1000000000000000 := by
        rw [show 16545 ^ 2 = 273737025 from by decide] at pw
        omega
      have fd := fd_ll hbv2 hp (by omega)
      obtain ⟨s1, e1, f1, f2⟩ := C_addTimes g2 (a := v + m + 1) (b := v) (by omega) hv (-(W' v (v + m + 1) / W' (v + m + 1) (v + m + 1)))
      have x0 := g2.2.1
      have x1 := g2.2.2 (v + m + 1) (v + m + 1) (by omega) (by omega)
      have x2 := g2.2.2 v (v + m + 1) hv (by omega)
      rw [show ((v + m + 1 : Nat) : Int) = (v : Int) + m + 1 by omega] at e1
      have tn : ((v : Int) + m + 1).toNat = v + m + 1 := by omega
      refine ⟨(ii ((v : Int) + (m + 1 : Nat) + 1), s1), ?_, rfl, rop W' v (v + m + 1) (-(W' v (v + m + 1) / W' (v + m + 1) (v + m + 1))), f1, fun i l hi => ?_, q.1, q.2.1, fun l => ?_, g7.tr f2⟩
      · show fX2_lowerAbove_15 (ii v) (ii ((v : Int) + m + 1)) s = _
        unfold fX2_lowerAbove_15 fX2_lowerAbove_62
        simp (disch := omega) only [tn, x0, x1, x2, cmp_le0, fd, e1, if_true, if_false, Option.bind_some, Option.map_some, ii_lit, ll_lit, ii_neg, ll_neg, ii_add, ii_sub, ii_mul, ll_add, ll_sub, ll_mul, ii_le, ii_lt, ii_eq, ii_t, bi_0, bi_1, rd_z, wr_z, rr_z, rl_z, wl_z, tn_n, st_s, st_j, st_i, st_c, st_2, sl_s, sl_j, sl_i, sl_c, sl_1, Int.natCast_add, Int.cast_ofNat_Int, if_pos, if_neg, decide_eq_false_iff_not, decide_eq_true_eq, in_ll, ii_long, Nat.zero_add, Nat.mul_zero, reduceCtorEq, Int.toNat_natCast]
        rw [show (v : Int) + m + 1 + 1 = (v : Int) + ((m : Int) + 1) + 1 by omega]
      · rw [← g3 i l hi]
        unfold rop
        rw [if_neg hi]
      · have := q.2.2 l
        rw [Nat.pow_succ]
        omega
    · rintro ⟨a, s⟩ ⟨g1, W', g2, g3, g4, g5, g6, g7⟩
      simp only [] at g1 g2 g7
      subst g1
      have x0 := g2.2.1
      refine ⟨.inl (ii ((v : Int) + -1), s), ?_, s, W', rfl, g2, g3, g4, fun l h1 h2 => g5 l h1 (by omega), g7⟩
      show fX2_lowerAbove_15 (ii v) (ii ((v : Int) + (n - 1 - v : Nat) + 1)) s = _
      rw [show (v : Int) + (n - 1 - v : Nat) + 1 = n by omega]
      unfold fX2_lowerAbove_15
      simp (disch := omega) only [x0, if_true, if_false, Option.bind_some, Option.map_some, ii_lit, ll_lit, ii_neg, ll_neg, ii_add, ii_sub, ii_mul, ll_add, ll_sub, ll_mul, ii_le, ii_lt, ii_eq, ii_t, bi_0, bi_1, rd_z, wr_z, rr_z, rl_z, wl_z, tn_n, st_s, st_j, st_i, st_c, st_2, sl_s, sl_j, sl_i, sl_c, sl_1, Int.natCast_add, Int.cast_ofNat_Int, if_pos, if_neg, decide_eq_false_iff_not, decide_eq_true_eq, in_ll, ii_long, Nat.zero_add, Nat.mul_zero, reduceCtorEq]
  obtain ⟨w, e, σ', W', rfl, q⟩ := key
  exact ⟨σ', W', e, q⟩
theorem C_lower {σ : mm} {n : Nat} {U : mat} (h : matC σ n U) (h1 : 1 ≤ n) (hT : TT n U) (hB : ∀ i l, i < 4 → (U i l).natAbs ≤ 16544) : ∃ σ' F, fX2_lowerAbove σ = some σ' ∧ matC σ' n F ∧ redP n U F ∧ Fr [23] [] σ σ' := by
  have hn4 := h.1
  have key : ∃ w, lp (fX2_lowerAbove_7_L) (ii ((n : Int) - 2), σ) = some w ∧ ∃ F, matC w n F ∧ redP n U F ∧ Fr [23] [] σ w := by
    refine lp_j (fun j (z : Int32 × mm) => z.1 = ii ((n : Int) - 2 - j) ∧ ∃ W, matC z.2 n W ∧ (∀ i, n ≤ i + j + 1 → i < n → rdw n U i (W i) ∧ ∀ l, i < l → l < n → 0 ≤ W i l ∧ W i l < U l l) ∧ (∀ i l, i + j + 1 < n → W i l = U i l) ∧ Fr [23] [] σ z.2) _ (n - 1) ⟨?_, U, h, fun i h2 h3 => ⟨rdw_0 n U i, fun l h4 h5 => by omega⟩, fun _ _ _ => rfl, Fr.rf _ _ _⟩ ?_ ?_
    · show ii ((n : Int) - 2) = ii ((n : Int) - 2 - (0 : Nat))
      congr 1
      omega
    · rintro j ⟨a, s⟩ hj ⟨g1, W, g2, g3, g4, g5⟩
      simp only [] at g1 g2 g5
      subst g1
      obtain ⟨v, hv⟩ : ∃ v : Nat, v + j + 2 = n := ⟨n - 2 - j, by omega⟩
      have ev : (n : Int) - 2 - j = v := by omega
      obtain ⟨s1, W', e1, f1, f2, f3, f4, f5⟩ := C_lowerRow g2 hT hB (v := v) (by omega) (fun i h2 h3 => g3 i (by omega) h3) (fun l => g4 v l (by omega))
      refine ⟨(ii ((v : Int) + -1), s1), ?_, ?_, W', f1, fun i h2 h3 => ?_, fun i l hi => ?_, g5.tr f5⟩
      · show fX2_lowerAbove_7 (ii ((n : Int) - 2 - j)) s = _
        rw [ev]
        unfold fX2_lowerAbove_7
        simp (disch := omega) only [e1, if_true, if_false, Option.bind_some, Option.map_some, ii_lit, ll_lit, ii_neg, ll_neg, ii_add, ii_sub, ii_mul, ll_add, ll_sub, ll_mul, ii_le, ii_lt, ii_eq, ii_t, bi_0, bi_1, rd_z, wr_z, rr_z, rl_z, wl_z, tn_n, st_s, st_j, st_i, st_c, st_2, sl_s, sl_j, sl_i, sl_c, sl_1, Int.natCast_add, Int.cast_ofNat_Int, if_pos, if_neg, decide_eq_false_iff_not, decide_eq_true_eq, in_ll, ii_long, Nat.zero_add, Nat.mul_zero, reduceCtorEq]
      · show ii ((v : Int) + -1) = ii ((n : Int) - 2 - (j + 1 : Nat))
        congr 1
        omega
      · by_cases g : i = v
        · subst g
          exact ⟨f3, f4⟩
        · obtain ⟨q1, q2⟩ := g3 i (by omega) h3
          refine ⟨rdw_c q1 (fun l => f2 i l g), fun l h4 h5 => ?_⟩
          rw [f2 i l g]
          exact q2 l h4 h5
      · rw [f2 i l (by omega)]
        exact g4 i l (by omega)
    · rintro ⟨a, s⟩ ⟨g1, W, g2, g3, g4, g5⟩
      simp only [] at g1 g2 g5
      subst g1
      refine ⟨s, ?_, W, g2, fun i hi => g3 i (by omega) hi, g5⟩
      show fX2_lowerAbove_7 (ii ((n : Int) - 2 - (n - 1 : Nat))) s = _
      rw [show (n : Int) - 2 - (n - 1 : Nat) = -1 by omega]
      unfold fX2_lowerAbove_7
      simp (disch := omega) only [if_true, if_false, Option.bind_some, Option.map_some, ii_lit, ll_lit, ii_neg, ll_neg, ii_add, ii_sub, ii_mul, ll_add, ll_sub, ll_mul, ii_le, ii_lt, ii_eq, ii_t, bi_0, bi_1, rd_z, wr_z, rr_z, rl_z, wl_z, tn_n, st_s, st_j, st_i, st_c, st_2, sl_s, sl_j, sl_i, sl_c, sl_1, Int.natCast_add, Int.cast_ofNat_Int, if_pos, if_neg, decide_eq_false_iff_not, decide_eq_true_eq, in_ll, ii_long, Nat.zero_add, Nat.mul_zero, reduceCtorEq]
  obtain ⟨w, e, F, q⟩ := key
  refine ⟨w, F, ?_, q⟩
  have x0 := h.2.1
  unfold fX2_lowerAbove fX2_lowerAbove_0
  simp (disch := omega) only [x0, e, if_true, if_false, Option.bind_some, Option.map_some, ii_lit, ll_lit, ii_neg, ll_neg, ii_add, ii_sub, ii_mul, ll_add, ll_sub, ll_mul, ii_le, ii_lt, ii_eq, ii_t, bi_0, bi_1, rd_z, wr_z, rr_z, rl_z, wl_z, tn_n, st_s, st_j, st_i, st_c, st_2, sl_s, sl_j, sl_i, sl_c, sl_1, Int.natCast_add, Int.cast_ofNat_Int, if_pos, if_neg, decide_eq_false_iff_not, decide_eq_true_eq, in_ll, ii_long, Nat.zero_add, Nat.mul_zero, reduceCtorEq]
-- numbers of the whole
noncomputable def dtv (n : Nat) : Nat → mat → Int
  | 0, _ => 1
  | c + 1, M => dtv n c M * cols c (n - 1 - c) (trm n c M) * pvt n c M
theorem pvt_b {n c : Nat} {M : mat} (hn : n ≤ 4) (h : ∀ i l, (M i l).natAbs ≤ 4) (hK : KS n 0 M) (hc : c < n) (hp : ∀ i, i < c → pvt n i M ≠ 0) : (pvt n c M).natAbs ≤ 16544 := by
  by_cases g : pvt n c M = 0
  · rw [g]; decide
  · have q := (tri hn h hK (c + 1) (by omega) (fun i hi => by
      by_cases g' : i = c
      · rw [g']; exact g
      · exact hp i (by omega))).2.b3 (by omega)
    have b := q.small (r := c) (by omega) c
    have e : (trm n (c + 1) M c c).natAbs = (pvt n c M).natAbs := neg_b c c _ c
    omega
theorem dtv_b {n : Nat} {M : mat} (hn : n ≤ 4) (h : ∀ i l, (M i l).natAbs ≤ 4) (hK : KS n 0 M) : ∀ c, c ≤ n → (∀ i, i < c → pvt n i M ≠ 0) → dtv n c M ≠ 0 ∧ (dtv n c M).natAbs ≤ 16544 ^ c := by
  intro c
  induction c with
  | zero => intro _ _; exact ⟨by show (1 : Int) ≠ 0; decide, by show (1 : Int).natAbs ≤ 1; decide⟩
  | succ c ih =>
    intro hc hp
    obtain ⟨i1, i2⟩ := ih (by omega) (fun i hi => hp i (by omega))
    have b := pvt_b hn h hK (c := c) (by omega) (fun i hi => hp i (by omega))
    have p := hp c (by omega)
    have s := cols_1 c (n - 1 - c) (trm n c M)
    have s1 : (cols c (n - 1 - c) (trm n c M)).natAbs ≤ 1 := by omega
    unfold dtv
    refine ⟨Int.mul_ne_zero (Int.mul_ne_zero i1 (by omega)) p, ?_⟩
    have := mb (mb i2 s1) b
    rw [Nat.mul_one] at this
    rw [Nat.pow_succ]
    exact this
def nzp (n : Nat) (M : mat) : Prop := ∃ c, c < n ∧ pvt n c M = 0
def CF (n : Nat) (M : mat) (d : Int32) (σ : mm) : Prop := (nzp n M ∧ d = ii 0) ∨ ((∀ i, i < n → pvt n i M ≠ 0) ∧ d = ii (dtv n n M) ∧ ∃ F, matC σ n F ∧ redP n (trm n n M) F)
theorem C_tri {σ : mm} {n : Nat} {M : mat} (h : matC σ n M) (h1 : 1 ≤ n) (hM : ∀ i l, (M i l).natAbs ≤ 4) (hK : KS n 0 M) : ∃ r, lp (fX2_makeForm_62_L) (ll 1, ii 0, σ) = some r ∧ CF n M r.1 r.2 ∧ Fr [23] [] σ r.2 := by
  have hn4 := h.1
  refine lp_i (fun c (z : Int64 × Int32 × mm) => z.1 = ll (dtv n c M) ∧ z.2.1 = ii c ∧ matC z.2.2 n (trm n c M) ∧ (∀ i, i < c → pvt n i M ≠ 0) ∧ Fr [23] [] σ z.2.2) _ n ⟨rfl, rfl, h, fun i hi => by omega, Fr.rf _ _ _⟩ ?_ ?_
  · rintro c ⟨a, b, s⟩ hc ⟨g1, g2, g3, g4, g5⟩
    simp only [] at g1 g2 g3 g5
    subst g1 g2
    obtain ⟨t1, t2⟩ := tri hn4 hM hK c (by omega) g4
    obtain ⟨d1, d2⟩ := dtv_b hn4 hM hK c (by omega) g4
    have b := pvt_b hn4 hM hK hc g4
    have s := cols_1 c (n - 1 - c) (trm n c M)
    have s1 : (cols c (n - 1 - c) (trm n c M)).natAbs ≤ 1 := by omega
    have bb := mb (mb d2 s1) b
    have pw : 16544 ^ c ≤ 16544 ^ 3 := Nat.pow_le_pow_right (by decide) (by omega)
    rw [show 16544 ^ 3 = 4528157917184 from by decide] at pw
    obtain ⟨s2, f1, f2, f3⟩ := C_col g3 hc (t2.L t1 hc hn4) (show (pvt n c M).natAbs < _ by omega) d1 (show (dtv n c M * cols c (n - 1 - c) (trm n c M) * pvt n c M).natAbs < _ by omega)
    have x0 := g3.2.1
    by_cases g : pvt n c M = 0
    · right
      refine ⟨(ii 0, s2), ?_, Or.inl ⟨⟨c, hc, g⟩, rfl⟩, g5.tr f1⟩
      have f3 := f3 g
      show fX2_makeForm_62 (ll (dtv n c M)) (ii c) _ = _
      unfold fX2_makeForm_62
      simp (disch := omega) only [x0, f3, if_true, if_false, Option.bind_some, Option.map_some, ii_lit, ll_lit, ii_neg, ll_neg, ii_add, ii_sub, ii_mul, ll_add, ll_sub, ll_mul, ii_le, ii_lt, ii_eq, ii_t, bi_0, bi_1, rd_z, wr_z, rr_z, rl_z, wl_z, tn_n, st_s, st_j, st_i, st_c, st_2, sl_s, sl_j, sl_i, sl_c, sl_1, Int.natCast_add, Int.cast_ofNat_Int, if_pos, if_neg, decide_eq_false_iff_not, decide_eq_true_eq, in_ll, ii_long, Nat.zero_add, Nat.mul_zero, reduceCtorEq]
    · left
      obtain ⟨f2, f4⟩ := f2 g
      refine ⟨(ll (dtv n (c + 1) M), ii ((c : Int) + 1), s2), ?_, rfl, rfl, f4, fun i hi => ?_, g5.tr f1⟩
      · show fX2_makeForm_62 (ll (dtv n c M)) (ii c) _ = _
        unfold fX2_makeForm_62
        simp (disch := omega) only [x0, f2, if_true, if_false, Option.bind_some, Option.map_some, ii_lit, ll_lit, ii_neg, ll_neg, ii_add, ii_sub, ii_mul, ll_add, ll_sub, ll_mul, ii_le, ii_lt, ii_eq, ii_t, bi_0, bi_1, rd_z, wr_z, rr_z, rl_z, wl_z, tn_n, st_s, st_j, st_i, st_c, st_2, sl_s, sl_j, sl_i, sl_c, sl_1, Int.natCast_add, Int.cast_ofNat_Int, if_pos, if_neg, decide_eq_false_iff_not, decide_eq_true_eq, in_ll, ii_long, Nat.zero_add, Nat.mul_zero, reduceCtorEq]
        rfl
      · by_cases g' : i = c
        · rw [g']; exact g
        · exact g4 i (by omega)
  · rintro ⟨a, b, s⟩ ⟨g1, g2, g3, g4, g5⟩
    simp only [] at g1 g2 g3 g5
    subst g1 g2
    obtain ⟨t1, t2⟩ := tri hn4 hM hK n (Nat.le_refl _) g4
    obtain ⟨s1, F, e1, f1, f2, f3⟩ := C_lower g3 h1 t1.tt (fun i l hi => (t2.b3 h1).small hi l)
    have x0 := g3.2.1
    refine ⟨(ii (dtv n n M), s1), ?_, Or.inr ⟨g4, rfl, F, f1, f2⟩, g5.tr f3⟩
    show fX2_makeForm_62 (ll (dtv n n M)) (ii n) s = _
    unfold fX2_makeForm_62
    simp (disch := omega) only [x0, e1, ll_int, if_true, if_false, Option.bind_some, Option.map_some, ii_lit, ll_lit, ii_neg, ll_neg, ii_add, ii_sub, ii_mul, ll_add, ll_sub, ll_mul, ii_le, ii_lt, ii_eq, ii_t, bi_0, bi_1, rd_z, wr_z, rr_z, rl_z, wl_z, tn_n, st_s, st_j, st_i, st_c, st_2, sl_s, sl_j, sl_i, sl_c, sl_1, Int.natCast_add, Int.cast_ofNat_Int, if_pos, if_neg, decide_eq_false_iff_not, decide_eq_true_eq, in_ll, ii_long, Nat.zero_add, Nat.mul_zero, reduceCtorEq]
def vm (A : bdy) : mat := fun i l => if i < A.n ∧ l < A.n then A.ve i l else 0
theorem vm_b {A : bdy} (hA : okb A) (i l : Nat) : (vm A i l).natAbs ≤ 4 := by
  unfold vm
  split
  · have h1 := hA.1
    have := hA.2.2.2.2.1 i l (by omega) (by omega)
    omega
  · decide
theorem vm_K {A : bdy} (hA : okb A) : KS A.n 0 (vm A) := by
  refine ⟨fun i hi => by omega, fun i l hl => by omega, fun i l hi => ?_, fun i l hl => ?_, d4_b (vm_b hA)⟩
  · unfold vm
    rw [if_neg (by omega)]
  · unfold vm
    rw [if_neg (by omega)]
theorem C_makeForm {σ : mm} {A : bdy} (hC : isC σ 0 A) (hA : okb A) : ∃ d σ', fX2_makeForm 0 σ = some (d, σ') ∧ CF A.n (vm A) d σ' ∧ Fr [2, 23] [] σ σ' := by
  have hn1 := hA.1
  have n1 := hC.2.1
  have key : ∃ r, lp (fX2_makeForm_10_L 0) (ii 0, stI σ 2 0 3 (ii A.n)) = some r ∧ CF A.n (vm A) r.1 r.2 ∧ Fr [2, 23] [] σ r.2 := by
    refine lp_j (fun v (z : Int32 × mm) => z.1 = ii v ∧ z.2.1 2 0 3 = ii A.n ∧ (∀ i l, i < v → l < A.n → z.2.2 23 i l = ll (A.ve i l)) ∧ Fr [2, 23] [] σ z.2) _ A.n ⟨rfl, st_s _ _ _ _ _, fun i l hi => by omega, (Fr.rf _ _ _).sI (by decide) (by decide)⟩ ?_ ?_
    · rintro v ⟨a, s⟩ hv ⟨g1, g2, g3, g4⟩
      simp only [] at g1 g2 g3 g4
      subst g1
      have inner : ∃ w, lp (fX2_makeForm_20_L 0 (ii v)) (ii 0, s) = some w ∧ ∃ s', w = .inl (ii ((v : Int) + 1), s') ∧ s'.1 2 0 3 = ii A.n ∧ (∀ i l, i < v + 1 → l < A.n → s'.2 23 i l = ll (A.ve i l)) ∧ Fr [2, 23] [] σ s' := by
        refine lp_j (fun k (z : Int32 × mm) => z.1 = ii k ∧ z.2.1 2 0 3 = ii A.n ∧ (∀ i l, i < v → l < A.n → z.2.2 23 i l = ll (A.ve i l)) ∧ (∀ l, l < k → z.2.2 23 v l = ll (A.ve v l)) ∧ Fr [2, 23] [] σ z.2) _ A.n ⟨rfl, g2, g3, fun l hl => by omega, g4⟩ ?_ ?_
        · rintro k ⟨a, z⟩ hk ⟨k1, k2, k3, k4, k5⟩
          simp only [] at k1 k2 k3 k4 k5
          subst k1
          have hve := hA.2.2.2.2.1 v k (by omega) (by omega)
          have x1 : z.1 11 v k = ii (A.ve v k) := by
            rw [k5.1 11 (by decide) (by decide)]
            have := hC.2.2.2.2.2.2.2 v k (by omega) (by omega)
            rw [Nat.mul_zero, Nat.zero_add] at this
            exact this
          refine ⟨(ii ((k + 1 : Nat)), stL z 23 v k (ll (A.ve v k))), ?_, rfl, k2, fun i l hi hl => ?_, fun l hl => ?_, k5.sL (by decide)⟩
          · show fX2_makeForm_20 0 (ii v) (ii k) z = _
            unfold fX2_makeForm_20
            simp (disch := omega) only [k2, x1, if_true, if_false, Option.bind_some, Option.map_some, ii_lit, ll_lit, ii_neg, ll_neg, ii_add, ii_sub, ii_mul, ll_add, ll_sub, ll_mul, ii_le, ii_lt, ii_eq, ii_t, bi_0, bi_1, rd_z, wr_z, rr_z, rl_z, wl_z, tn_n, st_s, st_j, st_i, st_c, st_2, sl_s, sl_j, sl_i, sl_c, sl_1, Int.natCast_add, Int.cast_ofNat_Int, if_pos, if_neg, decide_eq_false_iff_not, decide_eq_true_eq, in_ll, ii_long, Nat.zero_add, Nat.mul_zero, reduceCtorEq, Int.toNat_natCast]
          · show (stL z 23 v k _).2 23 i l = _
            rw [sl_i _ _ _ (by omega)]
            exact k3 i l hi hl
          · show (stL z 23 v k _).2 23 v l = _
            by_cases g : l = k
            · subst g
              rw [sl_s]
            · rw [sl_j _ _ g]
              exact k4 l (by omega)
        · rintro ⟨a, z⟩ ⟨k1, k2, k3, k4, k5⟩
          simp only [] at k1 k2 k3 k4 k5
          subst k1
          refine ⟨.inl (ii ((v : Int) + 1), z), ?_, z, rfl, k2, fun i l hi hl => ?_, k5⟩
          · show fX2_makeForm_20 0 (ii v) (ii A.n) z = _
            unfold fX2_makeForm_20
            simp (disch := omega) only [k2, if_true, if_false, Option.bind_some, Option.map_some, ii_lit, ll_lit, ii_neg, ll_neg, ii_add, ii_sub, ii_mul, ll_add, ll_sub, ll_mul, ii_le, ii_lt, ii_eq, ii_t, bi_0, bi_1, rd_z, wr_z, rr_z, rl_z, wl_z, tn_n, st_s, st_j, st_i, st_c, st_2, sl_s, sl_j, sl_i, sl_c, sl_1, Int.natCast_add, Int.cast_ofNat_Int, if_pos, if_neg, decide_eq_false_iff_not, decide_eq_true_eq, in_ll, ii_long, Nat.zero_add, Nat.mul_zero, reduceCtorEq]
          · by_cases g : i = v
            · rw [g]; exact k4 l hl
            · exact k3 i l (by omega) hl
      obtain ⟨w, e, s', rfl, q1, q2, q3⟩ := inner
      refine ⟨(ii ((v : Int) + 1), s'), ?_, rfl, q1, q2, q3⟩
      show fX2_makeForm_10 0 (ii v) s = _
      unfold fX2_makeForm_10
      simp (disch := omega) only [g2, e, if_true, if_false, Option.bind_some, Option.map_some, ii_lit, ll_lit, ii_neg, ll_neg, ii_add, ii_sub, ii_mul, ll_add, ll_sub, ll_mul, ii_le, ii_lt, ii_eq, ii_t, bi_0, bi_1, rd_z, wr_z, rr_z, rl_z, wl_z, tn_n, st_s, st_j, st_i, st_c, st_2, sl_s, sl_j, sl_i, sl_c, sl_1, Int.natCast_add, Int.cast_ofNat_Int, if_pos, if_neg, decide_eq_false_iff_not, decide_eq_true_eq, in_ll, ii_long, Nat.zero_add, Nat.mul_zero, reduceCtorEq]
    · rintro ⟨a, s⟩ ⟨g1, g2, g3, g4⟩
      simp only [] at g1 g2 g3 g4
      subst g1
      have hm : matC s A.n (vm A) := ⟨by omega, g2, fun i l hi hl => by
        rw [g3 i l hi hl]
        unfold vm
        rw [if_pos ⟨hi, hl⟩]⟩
      obtain ⟨r, e, q1, q2⟩ := C_tri hm (by omega) (vm_b hA) (vm_K hA)
      refine ⟨r, ?_, q1, g4.tr (q2.mono (by decide) (by decide))⟩
      show fX2_makeForm_10 0 (ii A.n) s = _
      unfold fX2_makeForm_10
      simp (disch := omega) only [g2, e, if_true, if_false, Option.bind_some, Option.map_some, ii_lit, ll_lit, ii_neg, ll_neg, ii_add, ii_sub, ii_mul, ll_add, ll_sub, ll_mul, ii_le, ii_lt, ii_eq, ii_t, bi_0, bi_1, rd_z, wr_z, rr_z, rl_z, wl_z, tn_n, st_s, st_j, st_i, st_c, st_2, sl_s, sl_j, sl_i, sl_c, sl_1, Int.natCast_add, Int.cast_ofNat_Int, if_pos, if_neg, decide_eq_false_iff_not, decide_eq_true_eq, in_ll, ii_long, Nat.zero_add, Nat.mul_zero, reduceCtorEq]
  obtain ⟨⟨d, σ'⟩, e, q⟩ := key
  refine ⟨d, σ', ?_, q⟩
  unfold fX2_makeForm fX2_makeForm_0
  simp (disch := omega) only [n1, e, if_true, if_false, Option.bind_some, Option.map_some, ii_lit, ll_lit, ii_neg, ll_neg, ii_add, ii_sub, ii_mul, ll_add, ll_sub, ll_mul, ii_le, ii_lt, ii_eq, ii_t, bi_0, bi_1, rd_z, wr_z, rr_z, rl_z, wl_z, tn_n, st_s, st_j, st_i, st_c, st_2, sl_s, sl_j, sl_i, sl_c, sl_1, Int.natCast_add, Int.cast_ofNat_Int, if_pos, if_neg, decide_eq_false_iff_not, decide_eq_true_eq, in_ll, ii_long, Nat.zero_add, Nat.mul_zero, reduceCtorEq]
