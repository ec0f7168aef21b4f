-- THE REFERENCE'S FORM: rows above, the whole
theorem rdw_up {c : Nat} {T T' : mat} {i : Nat} {x : Nat → Int} (hi : i < c) (hT : ∀ k l, k < c → T' k l = T k l) (h : rdw c T i x) : rdw (c + 1) T' i x := by
  obtain ⟨t, h1, h2, h3⟩ := h
  refine ⟨t, h1, fun k hk => h2 k (by omega), fun l => ?_⟩
  have e : ∀ k, t k * T' k l = t k * T k l := fun k => by
    by_cases g : k < c
    · rw [hT k l g]
    · rw [h2 k (by omega), Int.zero_mul, Int.zero_mul]
  rw [h3 l, e, e, e, e, hT i l hi]
/-- the rows above a letter, all taken down -/
theorem M_above {τ : mm} {n c : Nat} {X T : mat} {B G : Nat} (a1 : Int32) (h : matM τ n X) (hc : c < n) (hX : ∀ l, X c l = T c l) (l1 : ∀ l, l < c → T c l = 0) (hp : 0 < T c c) (hG : ∀ l, (T c l).natAbs ≤ G) (hB : B < 2147483648) (hG2 : G < 2147483648)
    (hV : ∀ i, i < c → rdw (c + 1) T i (X i) ∧ (∀ l, i < l → l < c → 0 ≤ X i l ∧ X i l < T l l) ∧ ∀ l, (X i l).natAbs ≤ B) :
    ∃ τ' X', lp (fX8_forms_93_L a1 (ii c)) (ii 0, τ) = some (.inl (a1, ii ((c : Int) + 1), τ')) ∧ matM τ' n X' ∧ (∀ i l, c ≤ i → X' i l = X i l) ∧ (∀ i, i < c → rdw (c + 1) T i (X' i) ∧ (∀ l, i < l → l < c + 1 → 0 ≤ X' i l ∧ X' i l < T l l) ∧ ∀ l, (X' i l).natAbs ≤ B + B * G) ∧ Fr [63] [] τ τ' := by
  have hn4 := h.1
  have key : ∃ w, lp (fX8_forms_93_L a1 (ii c)) (ii 0, τ) = some w ∧ ∃ τ' X', w = .inl (a1, ii ((c : Int) + 1), τ') ∧ matM τ' n X' ∧ (∀ i l, c ≤ i → X' i l = X i l) ∧ (∀ i, i < c → rdw (c + 1) T i (X' i) ∧ (∀ l, i < l → l < c + 1 → 0 ≤ X' i l ∧ X' i l < T l l) ∧ ∀ l, (X' i l).natAbs ≤ B + B * G) ∧ Fr [63] [] τ τ' := by
    refine lp_j (fun r (z : Int32 × mm) => z.1 = ii r ∧ ∃ X', matM z.2 n X' ∧ (∀ i l, r ≤ i → X' i l = X i l) ∧ (∀ i, i < r → rdw (c + 1) T i (X' i) ∧ (∀ l, i < l → l < c + 1 → 0 ≤ X' i l ∧ X' i l < T l l) ∧ ∀ l, (X' i l).natAbs ≤ B + B * G) ∧ Fr [63] [] τ z.2) _ c ⟨rfl, X, h, fun _ _ _ => rfl, fun i hi => by omega, Fr.rf _ _ _⟩ ?_ ?_
    · rintro r ⟨a, z⟩ hr ⟨g1, X', g2, g3, g4, g5⟩
      simp only [] at g1 g2 g5
      subst g1
      obtain ⟨v1, v2, v3⟩ := hV r hr
      have e1 : ∀ l, X' r l = X r l := fun l => g3 r l (Nat.le_refl _)
      have e2 : ∀ l, X' c l = T c l := fun l => (g3 c l (by omega)).trans (hX l)
      have q := dn (n := c + 1) (v := r) (c := c) (U := T) (W := X') (B := B) (G := G) (by omega) hr (by omega) (fun l hl => by rw [e2]; exact l1 l hl) (e2 c) (by rw [e2]; exact hp) (rdw_c v1 e1) (rdw_c (rdw_0 (c + 1) T c) e2) (fun l h1 h2 => by rw [e1]; exact v2 l h1 h2) (fun l => by rw [e1]; exact v3 l) (fun l => by rw [e2]; exact hG l)
      obtain ⟨z1, o1, o2, o3⟩ := M_takesOff g2 hc (show r < n by omega) (X' r c / X' c c)
      have x0 := g2.2.2 r c (by omega) hc
      have x1 := g2.2.2 c c hc hc
      have t1 : (4 * (r : Int) + (c : Int)).toNat = 4 * r + c := by omega
      have t2 : (5 * (c : Int)).toNat = 4 * c + c := by omega
      have b1 : (X' r c).natAbs < 2147483648 := by rw [e1]; have := v3 c; omega
      have b2 : 0 < X' c c ∧ X' c c < 2147483648 := by rw [e2]; have := hG c; omega
      have ft := fl_t (a := X' r c) b2.1
      have tm1 := Int.tmod_lt_of_pos (X' r c) b2.1
      have tm2 := Int.lt_tmod_of_pos (X' r c) b2.1
      refine ⟨(ii ((r + 1 : Nat)), z1), ?_, rfl, rop X' r c (-(X' r c / X' c c)), o2, fun i l hi => ?_, fun i hi => ?_, g5.tr o3⟩
      · show fX8_forms_93 a1 (ii c) (ii r) z = _
        unfold fX8_forms_93 fX8_forms_153
        rw [ft] at o1
        generalize X' r c = P at *
        generalize X' c c = Q at *
        by_cases gq : 0 ≤ P.tmod Q
        · rw [if_pos gq] at o1
          simp (disch := omega) only [t1, t2, x0, x1, dv_ii, rm_ii, gq, o1, if_true, if_false, Option.bind_some, Option.map_some, ii_lit, ll_lit, ii_neg, ll_neg, ii_add, ii_sub, ii_mul, ll_add, ll_sub, ll_mul, ii_le, ii_lt, ii_eq, ii_t, bi_0, bi_1, rd_z, wr_z, rr_z, rl_z, wl_z, tn_n, st_s, st_j, st_i, st_c, st_2, sl_s, sl_j, sl_i, sl_c, sl_1, Int.natCast_add, Int.cast_ofNat_Int, if_pos, if_neg, decide_eq_false_iff_not, decide_eq_true_eq, in_ll, ii_long, Nat.zero_add, Nat.mul_zero, reduceCtorEq]
        · rw [if_neg gq] at o1
          simp (disch := omega) only [t1, t2, x0, x1, dv_ii, rm_ii, o1, if_true, if_false, Option.bind_some, Option.map_some, ii_lit, ll_lit, ii_neg, ll_neg, ii_add, ii_sub, ii_mul, ll_add, ll_sub, ll_mul, ii_le, ii_lt, ii_eq, ii_t, bi_0, bi_1, rd_z, wr_z, rr_z, rl_z, wl_z, tn_n, st_s, st_j, st_i, st_c, st_2, sl_s, sl_j, sl_i, sl_c, sl_1, Int.natCast_add, Int.cast_ofNat_Int, if_pos, if_neg, decide_eq_false_iff_not, decide_eq_true_eq, in_ll, ii_long, Nat.zero_add, Nat.mul_zero, reduceCtorEq]
      · unfold rop
        rw [if_neg (by omega)]
        exact g3 i l (by omega)
      · by_cases g : i = r
        · subst g
          exact q
        · have er : rop X' r c (-(X' r c / X' c c)) i = X' i := by
            funext l
            unfold rop
            rw [if_neg g]
          rw [er]
          exact g4 i (by omega)
    · rintro ⟨a, z⟩ ⟨g1, X', g2, g3, g4, g5⟩
      simp only [] at g1 g2 g5
      subst g1
      refine ⟨.inl (a1, ii ((c : Int) + 1), z), ?_, z, X', rfl, g2, g3, g4, g5⟩
      show fX8_forms_93 a1 (ii c) (ii c) z = _
      unfold fX8_forms_93
      simp (disch := omega) only [if_true, if_false, Option.bind_some, Option.map_some, ii_lit, ll_lit, ii_neg, ll_neg, ii_add, ii_sub, ii_mul, ll_add, ll_sub, ll_mul, ii_le, ii_lt, ii_eq, ii_t, bi_0, bi_1, rd_z, wr_z, rr_z, rl_z, wl_z, tn_n, st_s, st_j, st_i, st_c, st_2, sl_s, sl_j, sl_i, sl_c, sl_1, Int.natCast_add, Int.cast_ofNat_Int, if_pos, if_neg, decide_eq_false_iff_not, decide_eq_true_eq, in_ll, ii_long, Nat.zero_add, Nat.mul_zero, reduceCtorEq]
  obtain ⟨w, e, τ', X', rfl, q⟩ := key
  exact ⟨τ', X', e, q⟩
def bta : Nat → Nat
  | 0 => 0
  | 1 => 8
  | 2 => 132360
  | _ => 2134834440
def gma : Nat → Nat
  | 0 => 8
  | 1 => 16544
  | _ => 16128
theorem B3.gma {M : mat} (h : B3 M) {c : Nat} (hc : c < 4) (l : Nat) : (M c l).natAbs ≤ gma c := by
  obtain ⟨h0, h1, h2, h3⟩ := h
  have hq : c = 0 ∨ c = 1 ∨ c = 2 ∨ c = 3 := by omega
  rcases hq with rfl | rfl | rfl | rfl
  · exact h0 l
  · exact h1 l
  · exact h2 l
  · exact h3 l
theorem bta_s {c : Nat} (hc : c < 3) : bta c + bta c * gma c ≤ bta (c + 1) ∧ gma c ≤ bta (c + 1) := by
  have hq : c = 0 ∨ c = 1 ∨ c = 2 := by omega
  rcases hq with rfl | rfl | rfl <;> decide
theorem bta_b (c : Nat) : bta c < 2147483648 ∧ gma c < 2147483648 := by
  unfold bta gma
  constructor <;> split <;> decide
/-- at a letter: the rows above it -/
def VV (c : Nat) (T X : mat) : Prop := (∀ i l, c ≤ i → X i l = T i l) ∧ ∀ i, i < c → rdw c T i (X i) ∧ (∀ l, i < l → l < c → 0 ≤ X i l ∧ X i l < T l l) ∧ (c < 4 → ∀ l, (X i l).natAbs ≤ bta c)
def MF (n : Nat) (M : mat) (d : Int32) (τ : mm) : Prop := (nzp n M ∧ d = ii 0) ∨ ((∀ i, i < n → pvt n i M ≠ 0) ∧ d = ii (dtv n n M) ∧ ∃ F, matM τ n F ∧ redP n (trm n n M) F)
theorem ovr_e {c : Nat} {T X : mat} (h : ∀ i l, c ≤ i → X i l = T i l) : X = ovr c X T := by
  funext i l
  by_cases g : i < c
  · rw [ovr_l g]
  · rw [ovr_g (by omega)]
    exact h i l (by omega)
theorem negs_m (c : Nat) (M : mat) (x y z : Int) : x * negs c M * (y * (negs c M * z)) = x * y * z := by
  rcases negs_1 c M with h | h <;> rw [h] <;> grind
theorem BB.hb {n c : Nat} {M : mat} (h : BB c M) (hn : n ≤ 4) {i : Nat} (hi : i < n) (l : Nat) : (M i l).natAbs < 2147483648 := by
  by_cases g : c = 0
  · have := h.1 g i l
    omega
  · have := (h.b3 (by omega)).small (r := i) (by omega) l
    omega
theorem M_step {τ : mm} {n c : Nat} {M X : mat} {S P : Int} (hn4 : n ≤ 4) (hM : ∀ i l, (M i l).natAbs ≤ 4) (hK : KS n 0 M) (hc : c < n) (hp : ∀ i, i < c → pvt n i M ≠ 0) (h : matM τ n X) (hX : VV c (trm n c M) X) (hs : τ.1 32 0 24 = ii S) (hD : S * P = dtv n c M) :
    ∃ τ', Fr [63] [24] τ τ' ∧ (pvt n c M = 0 → fX8_forms_35 (ii P) (ii c) τ = some (.inr (ii 0, τ'))) ∧ (pvt n c M ≠ 0 → ∃ S' P' X', fX8_forms_35 (ii P) (ii c) τ = some (.inl (ii P', ii ((c : Int) + 1), τ')) ∧ matM τ' n X' ∧ VV (c + 1) (trm n (c + 1) M) X' ∧ τ'.1 32 0 24 = ii S' ∧ S' * P' = dtv n (c + 1) M) := by
  obtain ⟨t1, t2⟩ := tri hn4 hM hK c (by omega) hp
  have hL := t2.L t1 hc hn4
  have eX := ovr_e hX.1
  have x0 := h.2.1
  rw [eX] at h
  obtain ⟨τ1, f1, f2, f3⟩ := M_clears h hc hL (fun i hi => t2.hb hn4 hi c) hs
  by_cases g : pvt n c M = 0
  · refine ⟨τ1, f1, fun _ => ?_, fun h => absurd g h⟩
    have f3 := f3 g
    unfold fX8_forms_35
    simp (disch := omega) only [x0, f3, if_true, if_false, Option.bind_some, Option.map_some, ii_lit, ll_lit, ii_neg, ll_neg, ii_add, ii_sub, ii_mul, ll_add, ll_sub, ll_mul, ii_le, ii_lt, ii_eq, ii_t, bi_0, bi_1, rd_z, wr_z, rr_z, rl_z, wl_z, tn_n, st_s, st_j, st_i, st_c, st_2, sl_s, sl_j, sl_i, sl_c, sl_1, Int.natCast_add, Int.cast_ofNat_Int, if_pos, if_neg, decide_eq_false_iff_not, decide_eq_true_eq, in_ll, ii_long, Nat.zero_add, Nat.mul_zero, reduceCtorEq]
  · obtain ⟨e1, m1, s1⟩ := f2 g
    obtain ⟨u1, u2⟩ := tri hn4 hM hK (c + 1) (by omega) (fun i hi => by
      by_cases g' : i = c
      · rw [g']; exact g
      · exact hp i (by omega))
    have eT : trm n (c + 1) M = negm c (colm c (n - 1 - c) (trm n c M)) := rfl
    have u3 := u2.b3 (by omega)
    have lowT : ∀ k l, k < c → trm n (c + 1) M k l = trm n c M k l := fun k l hk => by
      obtain ⟨c1, c2, c3, c4⟩ := col_K hL t1 hn4 (n - 1 - c) (by omega)
      rw [eT, neg_o (by omega), c4 k l hk]
    -- the pivot, made greater than 0
    have stage : ∃ τ2, Fr [63] [24] τ1 τ2 ∧ matM τ2 n (ovr c X (trm n (c + 1) M)) ∧ τ2.1 32 0 24 = ii (S * cols c (n - 1 - c) (trm n c M) * negs c (colm c (n - 1 - c) (trm n c M))) ∧ fX8_forms_35 (ii P) (ii c) τ = fX8_forms_80 (ii P) (ii c) τ2 := by
      have t5 : (5 * (c : Int)).toNat = 4 * c + c := by omega
      have x1 := m1.2.2 c c hc hc
      rw [ovr_g (Nat.le_refl c)] at x1
      have b1 := pvt_b hn4 hM hK hc hp
      have x1 : τ1.1 63 0 (4 * c + c) = ii (pvt n c M) := x1
      by_cases gn : pvt n c M < 0
      · obtain ⟨τ2, o1, o2, o3⟩ := M_takesOff m1 hc hc 2
        rw [ovr_rop (Nat.le_refl c)] at o2
        have en : negm c (colm c (n - 1 - c) (trm n c M)) = rop (colm c (n - 1 - c) (trm n c M)) c c (-2) := if_pos gn
        have es : negs c (colm c (n - 1 - c) (trm n c M)) = -1 := if_pos gn
        have s2 : τ2.1 32 0 24 = ii (S * cols c (n - 1 - c) (trm n c M)) := by rw [o3.2.2 24 (by decide)]; exact s1
        refine ⟨stI τ2 32 0 24 (ii (-(S * cols c (n - 1 - c) (trm n c M)))), (o3.mono (by decide) (by decide)).sF (by decide), ?_, ?_, ?_⟩
        · rw [eT, en]
          refine ⟨o2.1, by rw [st_j _ _ (by decide)]; exact o2.2.1, fun i l hi hl => by rw [st_c _ _ _ _ (by decide)]; exact o2.2.2 i l hi hl⟩
        · rw [st_s, es]
          congr 1
          omega
        · generalize pvt n c M = Q at *
          rw [fX8_forms_35]
          simp (disch := omega) only [x0, e1, t5, x1, o1, s2, if_true, if_false, Option.bind_some, Option.map_some, ii_lit, ll_lit, ii_neg, ll_neg, ii_add, ii_sub, ii_mul, ll_add, ll_sub, ll_mul, ii_le, ii_lt, ii_eq, ii_t, bi_0, bi_1, rd_z, wr_z, rr_z, rl_z, wl_z, tn_n, st_s, st_j, st_i, st_c, st_2, sl_s, sl_j, sl_i, sl_c, sl_1, Int.natCast_add, Int.cast_ofNat_Int, if_pos, if_neg, decide_eq_false_iff_not, decide_eq_true_eq, in_ll, ii_long, Nat.zero_add, Nat.mul_zero, reduceCtorEq]
      · have en : negm c (colm c (n - 1 - c) (trm n c M)) = colm c (n - 1 - c) (trm n c M) := if_neg gn
        have es : negs c (colm c (n - 1 - c) (trm n c M)) = 1 := if_neg gn
        refine ⟨τ1, Fr.rf _ _ _, ?_, ?_, ?_⟩
        · rw [eT, en]
          exact m1
        · rw [es, Int.mul_one]
          exact s1
        · generalize pvt n c M = Q at *
          rw [fX8_forms_35]
          simp (disch := omega) only [x0, e1, t5, x1, if_true, if_false, Option.bind_some, Option.map_some, ii_lit, ll_lit, ii_neg, ll_neg, ii_add, ii_sub, ii_mul, ll_add, ll_sub, ll_mul, ii_le, ii_lt, ii_eq, ii_t, bi_0, bi_1, rd_z, wr_z, rr_z, rl_z, wl_z, tn_n, st_s, st_j, st_i, st_c, st_2, sl_s, sl_j, sl_i, sl_c, sl_1, Int.natCast_add, Int.cast_ofNat_Int, if_pos, if_neg, decide_eq_false_iff_not, decide_eq_true_eq, in_ll, ii_long, Nat.zero_add, Nat.mul_zero, reduceCtorEq]
    obtain ⟨τ2, w1, w2, w3, w4⟩ := stage
    have x2 := w2.2.2 c c hc hc
    rw [ovr_g (Nat.le_refl c)] at x2
    have bb := bta_b c
    obtain ⟨τ3, X', y1, y2, y3, y4, y5⟩ := M_above (B := bta c) (G := gma c) (T := trm n (c + 1) M) (ii (P * trm n (c + 1) M c c)) w2 hc (fun l => ovr_g (Nat.le_refl c) _ _ l) (fun l hl => u1.2.1 c l (by omega) hl) (u1.1 c (by omega)) (fun l => u3.gma (by omega) l) bb.1 bb.2 (fun i hi => by
      obtain ⟨v1, v2, v3⟩ := hX.2 i hi
      refine ⟨rdw_c (rdw_up hi lowT v1) (fun l => ovr_l hi _ _ l), fun l h1 h2 => ?_, fun l => ?_⟩
      · rw [ovr_l hi, lowT l l h2]
        exact v2 l h1 h2
      · rw [ovr_l hi]
        exact v3 (by omega) l)
    refine ⟨τ3, (f1.tr w1).tr (y5.mono (by decide) (by decide)), fun h => absurd h g, fun _ => ⟨S * cols c (n - 1 - c) (trm n c M) * negs c (colm c (n - 1 - c) (trm n c M)), P * trm n (c + 1) M c c, X', ?_, y2, ⟨fun i l hi => ?_, fun i hi => ?_⟩, ?_, ?_⟩⟩
    · rw [w4]
      have t5 : (5 * (c : Int)).toNat = 4 * c + c := by omega
      unfold fX8_forms_80
      generalize trm n (c + 1) M c c = Q at *
      simp (disch := omega) only [t5, x2, y1, if_true, if_false, Option.bind_some, Option.map_some, ii_lit, ll_lit, ii_neg, ll_neg, ii_add, ii_sub, ii_mul, ll_add, ll_sub, ll_mul, ii_le, ii_lt, ii_eq, ii_t, bi_0, bi_1, rd_z, wr_z, rr_z, rl_z, wl_z, tn_n, st_s, st_j, st_i, st_c, st_2, sl_s, sl_j, sl_i, sl_c, sl_1, Int.natCast_add, Int.cast_ofNat_Int, if_pos, if_neg, decide_eq_false_iff_not, decide_eq_true_eq, in_ll, ii_long, Nat.zero_add, Nat.mul_zero, reduceCtorEq]
    · rw [y3 i l (by omega)]
      exact ovr_g (by omega) _ _ l
    · by_cases gi : i = c
      · subst gi
        have e : ∀ l, X' i l = trm n (i + 1) M i l := fun l => (y3 i l (Nat.le_refl _)).trans (ovr_g (Nat.le_refl i) _ _ l)
        refine ⟨rdw_c (rdw_0 (i + 1) (trm n (i + 1) M) i) e, fun l h1 h2 => by omega, fun h4 l => ?_⟩
        rw [e]
        exact Nat.le_trans (u3.gma (by omega) l) (bta_s (by omega)).2
      · obtain ⟨z1, z2, z3⟩ := y4 i (by omega)
        exact ⟨z1, z2, fun h4 l => Nat.le_trans (z3 l) (bta_s (by omega)).1⟩
    · rw [y5.2.2 24 (by decide)]
      exact w3
    · rw [eT, neg_c, negs_m]
      show S * cols c (n - 1 - c) (trm n c M) * P * pvt n c M = dtv n c M * cols c (n - 1 - c) (trm n c M) * pvt n c M
      rw [← hD]
      grind
theorem M_tri {τ : mm} {n : Nat} {M : mat} (h : matM τ n M) (hM : ∀ i l, (M i l).natAbs ≤ 4) (hK : KS n 0 M) (hs : τ.1 32 0 24 = ii 1) : ∃ r, lp (fX8_forms_35_L) (ii 1, ii 0, τ) = some r ∧ MF n M r.1 r.2 ∧ Fr [63] [24] τ r.2 := by
  have hn4 := h.1
  refine lp_i (fun c (z : Int32 × Int32 × mm) => z.2.1 = ii c ∧ (∀ i, i < c → pvt n i M ≠ 0) ∧ (∃ S P X, z.1 = ii P ∧ matM z.2.2 n X ∧ VV c (trm n c M) X ∧ z.2.2.1 32 0 24 = ii S ∧ S * P = dtv n c M) ∧ Fr [63] [24] τ z.2.2) _ n ⟨rfl, fun i hi => by omega, ⟨1, 1, M, rfl, h, ⟨fun _ _ _ => rfl, fun i hi => by omega⟩, hs, rfl⟩, Fr.rf _ _ _⟩ ?_ ?_
  · rintro c ⟨a, b, z⟩ hc ⟨g1, g2, ⟨S, P, X, g3, g4, g5, g6, g7⟩, g8⟩
    simp only [] at g1 g3 g4 g6 g8
    subst g1 g3
    obtain ⟨τ', f1, f2, f3⟩ := M_step hn4 hM hK hc g2 g4 g5 g6 g7
    by_cases g : pvt n c M = 0
    · exact Or.inr ⟨(ii 0, τ'), f2 g, Or.inl ⟨⟨c, hc, g⟩, rfl⟩, g8.tr f1⟩
    · obtain ⟨S', P', X', e, q1, q2, q3, q4⟩ := f3 g
      refine Or.inl ⟨(ii P', ii ((c : Int) + 1), τ'), e, rfl, fun i hi => ?_, ⟨S', P', X', rfl, q1, q2, q3, q4⟩, g8.tr f1⟩
      by_cases g' : i = c
      · rw [g']; exact g
      · exact g2 i (by omega)
  · rintro ⟨a, b, z⟩ ⟨g1, g2, ⟨S, P, X, g3, g4, g5, g6, g7⟩, g8⟩
    simp only [] at g1 g3 g4 g6 g8
    subst g1 g3
    have x0 := g4.2.1
    refine ⟨(ii (dtv n n M), z), ?_, Or.inr ⟨g2, rfl, X, g4, fun i hi => ⟨(g5.2 i hi).1, (g5.2 i hi).2.1⟩⟩, g8⟩
    show fX8_forms_35 (ii P) (ii n) z = _
    unfold fX8_forms_35
    rw [x0, if_pos (Int32.le_refl _), g6, ii_mul, g7]
theorem M_forms {τ : mm} {A : bdy} (hM : isM τ A) (hA : okb A) : ∃ d τ', fX8_forms τ = some (d, τ') ∧ MF A.n (vm A) d τ' ∧ Fr [63] [24] τ τ' := by
  have hn1 := hA.1
  have n1 := hM.2.1
  have key : ∃ r, lp (fX8_forms_2_L) (ii 0, τ) = some r ∧ MF A.n (vm A) r.1 r.2 ∧ Fr [63] [24] τ r.2 := by
    refine lp_j (fun k (z : Int32 × mm) => z.1 = ii k ∧ (∀ j, j < k → z.2.1 63 0 j = τ.1 46 0 j) ∧ Fr [63] [24] τ z.2) _ 16 ⟨rfl, fun j hj => by omega, Fr.rf _ _ _⟩ ?_ ?_
    · rintro k ⟨a, z⟩ hk ⟨g1, g2, g3⟩
      simp only [] at g1 g2 g3
      subst g1
      have x1 : z.1 46 0 k = τ.1 46 0 k := by rw [g3.1 46 (by decide) (by decide)]
      refine ⟨(ii ((k + 1 : Nat)), stI z 63 0 k (τ.1 46 0 k)), ?_, rfl, fun j hj => ?_, g3.sI (by decide) (by decide)⟩
      · show fX8_forms_2 (ii k) z = _
        unfold fX8_forms_2
        simp (disch := omega) only [x1, if_true, if_false, Option.bind_some, Option.map_some, ii_lit, ll_lit, ii_neg, ll_neg, ii_add, ii_sub, ii_mul, ll_add, ll_sub, ll_mul, ii_le, ii_lt, ii_eq, ii_t, bi_0, bi_1, rd_z, wr_z, rr_z, rl_z, wl_z, tn_n, st_s, st_j, st_i, st_c, st_2, sl_s, sl_j, sl_i, sl_c, sl_1, Int.natCast_add, Int.cast_ofNat_Int, if_pos, if_neg, decide_eq_false_iff_not, decide_eq_true_eq, in_ll, ii_long, Nat.zero_add, Nat.mul_zero, reduceCtorEq]
      · show (stI z 63 0 k _).1 63 0 j = _
        by_cases g : j = k
        · subst g
          rw [st_s]
        · rw [st_j _ _ g]
          exact g2 j (by omega)
    · rintro ⟨a, z⟩ ⟨g1, g2, g3⟩
      simp only [] at g1 g2 g3
      subst g1
      have hm : matM (stI z 32 0 24 (ii 1)) A.n (vm A) := ⟨by omega, by rw [st_j _ _ (by decide), g3.2.2 1 (by decide)]; exact n1, fun i l hi hl => by
        rw [st_c _ _ _ _ (by decide), g2 _ (by omega), hM.2.2.2.2.2.2 i l (by omega) (by omega)]
        unfold vm
        rw [if_pos ⟨hi, hl⟩]⟩
      obtain ⟨r, e, q1, q2⟩ := M_tri hm (vm_b hA) (vm_K hA) (st_s _ _ _ _ _)
      refine ⟨r, ?_, q1, (g3.sF (by decide)).tr q2⟩
      show fX8_forms_2 (ii (16 : Nat)) z = _
      unfold fX8_forms_2
      simp (disch := omega) only [e, if_true, if_false, Option.bind_some, Option.map_some, ii_lit, ll_lit, ii_neg, ll_neg, ii_add, ii_sub, ii_mul, ll_add, ll_sub, ll_mul, ii_le, ii_lt, ii_eq, ii_t, bi_0, bi_1, rd_z, wr_z, rr_z, rl_z, wl_z, tn_n, st_s, st_j, st_i, st_c, st_2, sl_s, sl_j, sl_i, sl_c, sl_1, Int.natCast_add, Int.cast_ofNat_Int, if_pos, if_neg, decide_eq_false_iff_not, decide_eq_true_eq, in_ll, ii_long, Nat.zero_add, Nat.mul_zero, reduceCtorEq]
  obtain ⟨⟨d, τ'⟩, e, q⟩ := key
  exact ⟨d, τ', e, q⟩
