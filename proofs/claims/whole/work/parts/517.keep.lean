-- WHAT IS LEFT AS IT WAS, part by part
theorem rKeep.fr {ks fs ks' fs' : List Nat} {σ σ' τ τ' : mm} (h : rKeep σ τ) (f : Fr ks fs σ σ') (g : Fr ks' fs' τ τ') (hk : ∀ c ∈ [0, 4, 7, 8, 9, 10, 11], c ∉ ks) (hk' : 79 ∉ ks') (hf : 41 ∉ fs') : rKeep σ' τ' := by
  unfold rKeep at h ⊢
  rw [f.1 7 (by decide) (hk 7 (by decide)), g.2.2 41 hf]
  rcases h with h | ⟨a, b, K, c, d, e⟩
  · exact Or.inl h
  · exact Or.inr ⟨a, b, K, c.fr f (fun c hc => hk c (by revert c hc; decide)), d.fr g (by decide) hk', e⟩
theorem rTape.fr {ks fs ks' fs' : List Nat} {σ σ' τ τ' : mm} (h : rTape σ τ) (f : Fr ks fs σ σ') (g : Fr ks' fs' τ τ') (hk : ∀ c ∈ [3, 21], c ∉ ks) (hk' : 67 ∉ ks') (hf : 28 ∉ fs') : rTape σ' τ' := by
  unfold rTape at h ⊢
  rw [f.1 3 (by decide) (hk 3 (by decide)), f.1 21 (by decide) (hk 21 (by decide)), g.2.2 28 hf, g.1 67 (by decide) hk']
  exact h
theorem rSh.fr {ks fs ks' fs' : List Nat} {σ σ' τ τ' : mm} (h : rSh σ τ) (f : Fr ks fs σ σ') (g : Fr ks' fs' τ τ') (hk : ∀ c ∈ [5, 26], c ∉ ks) (hk' : ∀ c ∈ [75, 76, 77], c ∉ ks') : rSh σ' τ' := by
  unfold rSh at h ⊢
  rw [f.1 5 (by decide) (hk 5 (by decide)), f.2.1 26 (hk 26 (by decide)), g.1 75 (by decide) (hk' 75 (by decide)), g.1 76 (by decide) (hk' 76 (by decide)), g.2.1 77 (hk' 77 (by decide))]
  exact h
theorem rFd.fr {ks fs ks' fs' : List Nat} {σ σ' τ τ' : mm} (h : rFd σ τ) (f : Fr ks fs σ σ') (g : Fr ks' fs' τ τ') (hk : 19 ∉ ks) (hk' : 40 ∉ ks') : rFd σ' τ' := by
  unfold rFd at h ⊢
  rw [f.1 19 (by decide) hk, g.1 40 (by decide) hk']
  exact h
theorem rW.fr {ks' fs' : List Nat} {τ τ' : mm} (h : rW τ) (g : Fr ks' fs' τ τ') (hk' : 74 ∉ ks') : rW τ' := by
  unfold rW at h ⊢
  rw [g.1 74 (by decide) hk']
  exact h
theorem RelA.fr {ks fs ks' fs' : List Nat} {σ σ' τ τ' : mm} {A : bdy} (h : RelA σ τ A) (f : Fr ks fs σ σ') (g : Fr ks' fs' τ τ') (hk : ∀ c ∈ [0, 4, 8, 9, 10, 11, 1, 12, 6, 22], c ∉ ks) (hk' : ∀ c ∈ [42, 43, 45, 46], c ∉ ks') (hf : ∀ j ∈ [1, 4], j ∉ fs') (hX : RelX σ' τ') : RelA σ' τ' A :=
  ⟨⟨h.1.1.fr f (fun c hc => hk c (by revert c hc; decide)), h.1.2.1.fr g hk' hf, h.1.2.2⟩, ⟨h.2.1.1.c f (fun c hc => hk c (by revert c hc; decide)), h.2.1.2.c f (fun c hc => hk c (by revert c hc; decide))⟩, hX⟩
theorem m_count {σ τ : mm} (h : Rel σ τ) (w : Int32) : Ag (fX7_count w σ) (fX8_count w τ) := by
  obtain ⟨A, hR⟩ := h
  obtain ⟨⟨hC, hM, hA⟩, -⟩ := id hR
  obtain ⟨w, rfl, h1, h2⟩ := ii_ex w
  obtain ⟨len, y, t1, t2, t3, -⟩ := hR.2.2.2.1
  have n1 := hC.2.1
  have n2 := hM.2.1
  have r1 := hC.2.2.1
  have r2 := hM.2.2.1
  have p1 := C_points hC
  have p2 := M_points hM
  by_cases k : w = 0 ∨ w = 1 ∨ w = 2 ∨ w = 3
  · refine ⟨ii (if w = 0 then A.n else if w = 1 then A.R else if w = 2 then pts A else len), σ, τ, ?_, ?_, _, hR⟩
    · unfold fX7_count fX7_count_0
      rcases k with rfl | rfl | rfl | rfl <;> simp (disch := omega) only [n1, r1, p1, t2, if_true, if_false, Option.bind_some, Option.map_some, ii_lit, ll_lit, ii_neg, ll_neg, ii_add, ii_sub, ii_mul, ll_add, ll_sub, ll_mul, ii_le, ii_lt, ii_eq, ii_t, bi_0, bi_1, rd_z, wr_z, rr_z, rl_z, wl_z, tn_n, st_s, st_j, st_i, st_c, st_2, sl_s, sl_j, sl_i, sl_c, sl_1, Int.natCast_add, Int.cast_ofNat_Int, if_pos, if_neg, decide_eq_false_iff_not, decide_eq_true_eq, in_ll, ii_long, Nat.zero_add, Nat.mul_zero, reduceCtorEq]
    · unfold fX8_count fX8_count_0
      rcases k with rfl | rfl | rfl | rfl <;> simp (disch := omega) only [n2, r2, p2, t3, if_true, if_false, Option.bind_some, Option.map_some, ii_lit, ll_lit, ii_neg, ll_neg, ii_add, ii_sub, ii_mul, ll_add, ll_sub, ll_mul, ii_le, ii_lt, ii_eq, ii_t, bi_0, bi_1, rd_z, wr_z, rr_z, rl_z, wl_z, tn_n, st_s, st_j, st_i, st_c, st_2, sl_s, sl_j, sl_i, sl_c, sl_1, Int.natCast_add, Int.cast_ofNat_Int, if_pos, if_neg, decide_eq_false_iff_not, decide_eq_true_eq, in_ll, ii_long, Nat.zero_add, Nat.mul_zero, reduceCtorEq]
  · obtain ⟨σ', τ', e3, e4, hr⟩ := fd0 hR
    refine ⟨ii (-1000000001), σ', τ', ?_, ?_, _, hr⟩
    · unfold fX7_count fX7_count_0
      simp (disch := omega) only [e3, if_true, if_false, Option.bind_some, Option.map_some, ii_lit, ll_lit, ii_neg, ll_neg, ii_add, ii_sub, ii_mul, ll_add, ll_sub, ll_mul, ii_le, ii_lt, ii_eq, ii_t, bi_0, bi_1, rd_z, wr_z, rr_z, rl_z, wl_z, tn_n, st_s, st_j, st_i, st_c, st_2, sl_s, sl_j, sl_i, sl_c, sl_1, Int.natCast_add, Int.cast_ofNat_Int, if_pos, if_neg, decide_eq_false_iff_not, decide_eq_true_eq, in_ll, ii_long, Nat.zero_add, Nat.mul_zero, reduceCtorEq]
    · unfold fX8_count fX8_count_0
      simp (disch := omega) only [e4, if_true, if_false, Option.bind_some, Option.map_some, ii_lit, ll_lit, ii_neg, ll_neg, ii_add, ii_sub, ii_mul, ll_add, ll_sub, ll_mul, ii_le, ii_lt, ii_eq, ii_t, bi_0, bi_1, rd_z, wr_z, rr_z, rl_z, wl_z, tn_n, st_s, st_j, st_i, st_c, st_2, sl_s, sl_j, sl_i, sl_c, sl_1, Int.natCast_add, Int.cast_ofNat_Int, if_pos, if_neg, decide_eq_false_iff_not, decide_eq_true_eq, in_ll, ii_long, Nat.zero_add, Nat.mul_zero, reduceCtorEq]
def smI (f : Nat → Int32) : Nat → Int32
  | 0 => 0
  | k + 1 => smI f k + f k
theorem m_status {σ τ : mm} (h : Rel σ τ) (w : Int32) : Ag (fX7_status w σ) (fX8_status w τ) := by
  obtain ⟨A, hR⟩ := h
  obtain ⟨w, rfl, h1, h2⟩ := ii_ex w
  have hf := hR.2.2.2.2.2.1
  by_cases k : -1 ≤ w ∧ w ≤ 6
  · by_cases k0 : w < 0
    · refine ⟨smI (σ.1 19 0) 7, σ, τ, ?_, ?_, _, hR⟩
      · unfold fX7_status fX7_status_0
        simp (disch := omega) only [if_true, if_false, Option.bind_some, Option.map_some, ii_lit, ll_lit, ii_neg, ll_neg, ii_add, ii_sub, ii_mul, ll_add, ll_sub, ll_mul, ii_le, ii_lt, ii_eq, ii_t, bi_0, bi_1, rd_z, wr_z, rr_z, rl_z, wl_z, tn_n, st_s, st_j, st_i, st_c, st_2, sl_s, sl_j, sl_i, sl_c, sl_1, Int.natCast_add, Int.cast_ofNat_Int, if_pos, if_neg, decide_eq_false_iff_not, decide_eq_true_eq, in_ll, ii_long, Nat.zero_add, Nat.mul_zero, reduceCtorEq]
        refine lp_f (fun j => (smI (σ.1 19 0) j, ii j)) 7 rfl ?_ ?_
        · intro j hj
          simp (disch := omega) only [fX7_status_32_L, fX7_status_32, smI, if_true, if_false, Option.bind_some, Option.map_some, ii_lit, ll_lit, ii_neg, ll_neg, ii_add, ii_sub, ii_mul, ll_add, ll_sub, ll_mul, ii_le, ii_lt, ii_eq, ii_t, bi_0, bi_1, rd_z, wr_z, rr_z, rl_z, wl_z, tn_n, st_s, st_j, st_i, st_c, st_2, sl_s, sl_j, sl_i, sl_c, sl_1, Int.natCast_add, Int.cast_ofNat_Int, if_pos, if_neg, decide_eq_false_iff_not, decide_eq_true_eq, in_ll, ii_long, Nat.zero_add, Nat.mul_zero, reduceCtorEq]
        · simp (disch := omega) only [fX7_status_32_L, fX7_status_32, if_true, if_false, Option.bind_some, Option.map_some, ii_lit, ll_lit, ii_neg, ll_neg, ii_add, ii_sub, ii_mul, ll_add, ll_sub, ll_mul, ii_le, ii_lt, ii_eq, ii_t, bi_0, bi_1, rd_z, wr_z, rr_z, rl_z, wl_z, tn_n, st_s, st_j, st_i, st_c, st_2, sl_s, sl_j, sl_i, sl_c, sl_1, Int.natCast_add, Int.cast_ofNat_Int, if_pos, if_neg, decide_eq_false_iff_not, decide_eq_true_eq, in_ll, ii_long, Nat.zero_add, Nat.mul_zero, reduceCtorEq]
      · unfold fX8_status fX8_status_0
        simp (disch := omega) only [if_true, if_false, Option.bind_some, Option.map_some, ii_lit, ll_lit, ii_neg, ll_neg, ii_add, ii_sub, ii_mul, ll_add, ll_sub, ll_mul, ii_le, ii_lt, ii_eq, ii_t, bi_0, bi_1, rd_z, wr_z, rr_z, rl_z, wl_z, tn_n, st_s, st_j, st_i, st_c, st_2, sl_s, sl_j, sl_i, sl_c, sl_1, Int.natCast_add, Int.cast_ofNat_Int, if_pos, if_neg, decide_eq_false_iff_not, decide_eq_true_eq, in_ll, ii_long, Nat.zero_add, Nat.mul_zero, reduceCtorEq]
        refine lp_f (fun j => (smI (σ.1 19 0) j, ii j)) 7 rfl ?_ ?_
        · intro j hj
          simp (disch := omega) only [fX8_status_25_L, fX8_status_25, fX8_status_41, fX8_status_51, smI, hf j hj, if_true, if_false, Option.bind_some, Option.map_some, ii_lit, ll_lit, ii_neg, ll_neg, ii_add, ii_sub, ii_mul, ll_add, ll_sub, ll_mul, ii_le, ii_lt, ii_eq, ii_t, bi_0, bi_1, rd_z, wr_z, rr_z, rl_z, wl_z, tn_n, st_s, st_j, st_i, st_c, st_2, sl_s, sl_j, sl_i, sl_c, sl_1, Int.natCast_add, Int.cast_ofNat_Int, if_pos, if_neg, decide_eq_false_iff_not, decide_eq_true_eq, in_ll, ii_long, Nat.zero_add, Nat.mul_zero, reduceCtorEq]
        · simp (disch := omega) only [fX8_status_25_L, fX8_status_25, if_true, if_false, Option.bind_some, Option.map_some, ii_lit, ll_lit, ii_neg, ll_neg, ii_add, ii_sub, ii_mul, ll_add, ll_sub, ll_mul, ii_le, ii_lt, ii_eq, ii_t, bi_0, bi_1, rd_z, wr_z, rr_z, rl_z, wl_z, tn_n, st_s, st_j, st_i, st_c, st_2, sl_s, sl_j, sl_i, sl_c, sl_1, Int.natCast_add, Int.cast_ofNat_Int, if_pos, if_neg, decide_eq_false_iff_not, decide_eq_true_eq, in_ll, ii_long, Nat.zero_add, Nat.mul_zero, reduceCtorEq]
    · obtain ⟨w, rfl⟩ : ∃ k : Nat, w = k := ⟨w.toNat, by omega⟩
      refine ⟨σ.1 19 0 w, σ, τ, ?_, ?_, _, hR⟩
      · unfold fX7_status fX7_status_0
        simp (disch := omega) only [if_true, if_false, Option.bind_some, Option.map_some, ii_lit, ll_lit, ii_neg, ll_neg, ii_add, ii_sub, ii_mul, ll_add, ll_sub, ll_mul, ii_le, ii_lt, ii_eq, ii_t, bi_0, bi_1, rd_z, wr_z, rr_z, rl_z, wl_z, tn_n, st_s, st_j, st_i, st_c, st_2, sl_s, sl_j, sl_i, sl_c, sl_1, Int.natCast_add, Int.cast_ofNat_Int, if_pos, if_neg, decide_eq_false_iff_not, decide_eq_true_eq, in_ll, ii_long, Nat.zero_add, Nat.mul_zero, reduceCtorEq]
      · unfold fX8_status fX8_status_0
        simp (disch := omega) only [if_true, if_false, Option.bind_some, Option.map_some, ii_lit, ll_lit, ii_neg, ll_neg, ii_add, ii_sub, ii_mul, ll_add, ll_sub, ll_mul, ii_le, ii_lt, ii_eq, ii_t, bi_0, bi_1, rd_z, wr_z, rr_z, rl_z, wl_z, tn_n, st_s, st_j, st_i, st_c, st_2, sl_s, sl_j, sl_i, sl_c, sl_1, Int.natCast_add, Int.cast_ofNat_Int, if_pos, if_neg, decide_eq_false_iff_not, decide_eq_true_eq, in_ll, ii_long, Nat.zero_add, Nat.mul_zero, reduceCtorEq]
        refine lp_f (fun j => (if w < j then σ.1 19 0 w else ii 0, ii j)) 7 ?_ ?_ ?_
        · rfl
        · intro j hj
          by_cases q : w = j
          · subst q
            have : ∀ x : Int32, ii 0 + x = x := fun x => Int32.zero_add x
            simp (disch := omega) only [fX8_status_25_L, fX8_status_25, fX8_status_41, fX8_status_51, hf w hj, this, if_true, if_false, Option.bind_some, Option.map_some, ii_lit, ll_lit, ii_neg, ll_neg, ii_add, ii_sub, ii_mul, ll_add, ll_sub, ll_mul, ii_le, ii_lt, ii_eq, ii_t, bi_0, bi_1, rd_z, wr_z, rr_z, rl_z, wl_z, tn_n, st_s, st_j, st_i, st_c, st_2, sl_s, sl_j, sl_i, sl_c, sl_1, Int.natCast_add, Int.cast_ofNat_Int, if_pos, if_neg, decide_eq_false_iff_not, decide_eq_true_eq, in_ll, ii_long, Nat.zero_add, Nat.mul_zero, reduceCtorEq]
          · by_cases q2 : w < j
            · have : ∀ x : Int32, x + ii 0 = x := fun x => Int32.add_zero x
              simp (disch := omega) only [fX8_status_25_L, fX8_status_25, fX8_status_41, fX8_status_51, this, if_true, if_false, Option.bind_some, Option.map_some, ii_lit, ll_lit, ii_neg, ll_neg, ii_add, ii_sub, ii_mul, ll_add, ll_sub, ll_mul, ii_le, ii_lt, ii_eq, ii_t, bi_0, bi_1, rd_z, wr_z, rr_z, rl_z, wl_z, tn_n, st_s, st_j, st_i, st_c, st_2, sl_s, sl_j, sl_i, sl_c, sl_1, Int.natCast_add, Int.cast_ofNat_Int, if_pos, if_neg, decide_eq_false_iff_not, decide_eq_true_eq, in_ll, ii_long, Nat.zero_add, Nat.mul_zero, reduceCtorEq]
            · simp (disch := omega) only [fX8_status_25_L, fX8_status_25, fX8_status_41, fX8_status_51, if_true, if_false, Option.bind_some, Option.map_some, ii_lit, ll_lit, ii_neg, ll_neg, ii_add, ii_sub, ii_mul, ll_add, ll_sub, ll_mul, ii_le, ii_lt, ii_eq, ii_t, bi_0, bi_1, rd_z, wr_z, rr_z, rl_z, wl_z, tn_n, st_s, st_j, st_i, st_c, st_2, sl_s, sl_j, sl_i, sl_c, sl_1, Int.natCast_add, Int.cast_ofNat_Int, if_pos, if_neg, decide_eq_false_iff_not, decide_eq_true_eq, in_ll, ii_long, Nat.zero_add, Nat.mul_zero, reduceCtorEq]
              rfl
        · simp (disch := omega) only [fX8_status_25_L, fX8_status_25, if_true, if_false, Option.bind_some, Option.map_some, ii_lit, ll_lit, ii_neg, ll_neg, ii_add, ii_sub, ii_mul, ll_add, ll_sub, ll_mul, ii_le, ii_lt, ii_eq, ii_t, bi_0, bi_1, rd_z, wr_z, rr_z, rl_z, wl_z, tn_n, st_s, st_j, st_i, st_c, st_2, sl_s, sl_j, sl_i, sl_c, sl_1, Int.natCast_add, Int.cast_ofNat_Int, if_pos, if_neg, decide_eq_false_iff_not, decide_eq_true_eq, in_ll, ii_long, Nat.zero_add, Nat.mul_zero, reduceCtorEq]
  · obtain ⟨σ', τ', e3, e4, hr⟩ := fd0 hR
    refine ⟨ii (-1000000001), σ', τ', ?_, ?_, _, hr⟩
    · unfold fX7_status fX7_status_0 fX7_status_11
      by_cases q : w < -1
      · simp (disch := omega) only [e3, if_true, if_false, Option.bind_some, Option.map_some, ii_lit, ll_lit, ii_neg, ll_neg, ii_add, ii_sub, ii_mul, ll_add, ll_sub, ll_mul, ii_le, ii_lt, ii_eq, ii_t, bi_0, bi_1, rd_z, wr_z, rr_z, rl_z, wl_z, tn_n, st_s, st_j, st_i, st_c, st_2, sl_s, sl_j, sl_i, sl_c, sl_1, Int.natCast_add, Int.cast_ofNat_Int, if_pos, if_neg, decide_eq_false_iff_not, decide_eq_true_eq, in_ll, ii_long, Nat.zero_add, Nat.mul_zero, reduceCtorEq]
      · simp (disch := omega) only [e3, if_true, if_false, Option.bind_some, Option.map_some, ii_lit, ll_lit, ii_neg, ll_neg, ii_add, ii_sub, ii_mul, ll_add, ll_sub, ll_mul, ii_le, ii_lt, ii_eq, ii_t, bi_0, bi_1, rd_z, wr_z, rr_z, rl_z, wl_z, tn_n, st_s, st_j, st_i, st_c, st_2, sl_s, sl_j, sl_i, sl_c, sl_1, Int.natCast_add, Int.cast_ofNat_Int, if_pos, if_neg, decide_eq_false_iff_not, decide_eq_true_eq, in_ll, ii_long, Nat.zero_add, Nat.mul_zero, reduceCtorEq]
    · unfold fX8_status fX8_status_0
      simp (disch := omega) only [e4, if_true, if_false, Option.bind_some, Option.map_some, ii_lit, ll_lit, ii_neg, ll_neg, ii_add, ii_sub, ii_mul, ll_add, ll_sub, ll_mul, ii_le, ii_lt, ii_eq, ii_t, bi_0, bi_1, rd_z, wr_z, rr_z, rl_z, wl_z, tn_n, st_s, st_j, st_i, st_c, st_2, sl_s, sl_j, sl_i, sl_c, sl_1, Int.natCast_add, Int.cast_ofNat_Int, if_pos, if_neg, decide_eq_false_iff_not, decide_eq_true_eq, in_ll, ii_long, Nat.zero_add, Nat.mul_zero, reduceCtorEq]
theorem m_tear {σ τ : mm} (h : Rel σ τ) : Ag (some (fX7_tear σ)) (some (fX8_tear τ)) := by
  obtain ⟨A, hR⟩ := h
  obtain ⟨c1, c2, c3, c4, c5⟩ := hR.2.2
  have f : Fr [7] [] σ (stI σ 7 0 3 (ii 0)) := (Fr.rf _ _ _).sI (by decide) (by decide)
  have g : Fr [] [41] τ (stI τ 32 0 41 (ii 0)) := (Fr.rf _ _ _).sF (by decide)
  have hRl : RelA (stI σ 7 0 3 (ii 0)) (stI τ 32 0 41 (ii 0)) A := hR.fr f g (by decide) (by decide) (by decide) ⟨Or.inl ⟨st_s _ _ _ _ _, st_s _ _ _ _ _⟩, c2.fr f g (by decide) (by decide) (by decide), c3.fr f g (by decide) (by decide), c4.fr f g (by decide) (by decide), c5.fr g (by decide)⟩
  rcases c1 with ⟨a, b⟩ | ⟨a, b, -⟩
  · refine ⟨ii 0, _, _, ?_, ?_, _, hRl⟩
    · unfold fX7_tear fX7_tear_0 fX7_tear_12
      simp (disch := omega) only [a, if_true, if_false, Option.bind_some, Option.map_some, ii_lit, ll_lit, ii_neg, ll_neg, ii_add, ii_sub, ii_mul, ll_add, ll_sub, ll_mul, ii_le, ii_lt, ii_eq, ii_t, bi_0, bi_1, rd_z, wr_z, rr_z, rl_z, wl_z, tn_n, st_s, st_j, st_i, st_c, st_2, sl_s, sl_j, sl_i, sl_c, sl_1, Int.natCast_add, Int.cast_ofNat_Int, if_pos, if_neg, decide_eq_false_iff_not, decide_eq_true_eq, in_ll, ii_long, Nat.zero_add, Nat.mul_zero, reduceCtorEq]
    · unfold fX8_tear fX8_tear_0 fX8_tear_12
      simp (disch := omega) only [b, if_true, if_false, Option.bind_some, Option.map_some, ii_lit, ll_lit, ii_neg, ll_neg, ii_add, ii_sub, ii_mul, ll_add, ll_sub, ll_mul, ii_le, ii_lt, ii_eq, ii_t, bi_0, bi_1, rd_z, wr_z, rr_z, rl_z, wl_z, tn_n, st_s, st_j, st_i, st_c, st_2, sl_s, sl_j, sl_i, sl_c, sl_1, Int.natCast_add, Int.cast_ofNat_Int, if_pos, if_neg, decide_eq_false_iff_not, decide_eq_true_eq, in_ll, ii_long, Nat.zero_add, Nat.mul_zero, reduceCtorEq]
  · refine ⟨ii 1, _, _, ?_, ?_, _, hRl⟩
    · unfold fX7_tear fX7_tear_0 fX7_tear_12
      simp (disch := omega) only [a, if_true, if_false, Option.bind_some, Option.map_some, ii_lit, ll_lit, ii_neg, ll_neg, ii_add, ii_sub, ii_mul, ll_add, ll_sub, ll_mul, ii_le, ii_lt, ii_eq, ii_t, bi_0, bi_1, rd_z, wr_z, rr_z, rl_z, wl_z, tn_n, st_s, st_j, st_i, st_c, st_2, sl_s, sl_j, sl_i, sl_c, sl_1, Int.natCast_add, Int.cast_ofNat_Int, if_pos, if_neg, decide_eq_false_iff_not, decide_eq_true_eq, in_ll, ii_long, Nat.zero_add, Nat.mul_zero, reduceCtorEq]
    · unfold fX8_tear fX8_tear_0 fX8_tear_12
      simp (disch := omega) only [b, if_true, if_false, Option.bind_some, Option.map_some, ii_lit, ll_lit, ii_neg, ll_neg, ii_add, ii_sub, ii_mul, ll_add, ll_sub, ll_mul, ii_le, ii_lt, ii_eq, ii_t, bi_0, bi_1, rd_z, wr_z, rr_z, rl_z, wl_z, tn_n, st_s, st_j, st_i, st_c, st_2, sl_s, sl_j, sl_i, sl_c, sl_1, Int.natCast_add, Int.cast_ofNat_Int, if_pos, if_neg, decide_eq_false_iff_not, decide_eq_true_eq, in_ll, ii_long, Nat.zero_add, Nat.mul_zero, reduceCtorEq]
theorem m_wipe {σ τ : mm} (h : Rel σ τ) : Ag (some (fX7_wipe σ)) (some (fX8_wipe τ)) := by
  obtain ⟨A, hR⟩ := h
  obtain ⟨c1, c2, c3, c4, c5⟩ := hR.2.2
  have f : Fr [3] [] σ (stI σ 3 0 0 (ii 0)) := (Fr.rf _ _ _).sI (by decide) (by decide)
  have g : Fr [] [28] τ (stI τ 32 0 28 (ii 0)) := (Fr.rf _ _ _).sF (by decide)
  obtain ⟨len, y, t1, t2, t3, -⟩ := c2
  have hRl : RelA (stI σ 3 0 0 (ii 0)) (stI τ 32 0 28 (ii 0)) A := hR.fr f g (by decide) (by decide) (by decide) ⟨c1.fr f g (by decide) (by decide) (by decide), ⟨0, fun _ => 0, by decide, st_s _ _ _ _ _, st_s _ _ _ _ _, fun k hk => by omega⟩, c3.fr f g (by decide) (by decide), c4.fr f g (by decide) (by decide), c5.fr g (by decide)⟩
  refine ⟨ii len, _, _, ?_, ?_, _, hRl⟩
  · unfold fX7_wipe fX7_wipe_0
    simp (disch := omega) only [t2, if_true, if_false, Option.bind_some, Option.map_some, ii_lit, ll_lit, ii_neg, ll_neg, ii_add, ii_sub, ii_mul, ll_add, ll_sub, ll_mul, ii_le, ii_lt, ii_eq, ii_t, bi_0, bi_1, rd_z, wr_z, rr_z, rl_z, wl_z, tn_n, st_s, st_j, st_i, st_c, st_2, sl_s, sl_j, sl_i, sl_c, sl_1, Int.natCast_add, Int.cast_ofNat_Int, if_pos, if_neg, decide_eq_false_iff_not, decide_eq_true_eq, in_ll, ii_long, Nat.zero_add, Nat.mul_zero, reduceCtorEq]
  · unfold fX8_wipe fX8_wipe_0
    simp (disch := omega) only [t3, if_true, if_false, Option.bind_some, Option.map_some, ii_lit, ll_lit, ii_neg, ll_neg, ii_add, ii_sub, ii_mul, ll_add, ll_sub, ll_mul, ii_le, ii_lt, ii_eq, ii_t, bi_0, bi_1, rd_z, wr_z, rr_z, rl_z, wl_z, tn_n, st_s, st_j, st_i, st_c, st_2, sl_s, sl_j, sl_i, sl_c, sl_1, Int.natCast_add, Int.cast_ofNat_Int, if_pos, if_neg, decide_eq_false_iff_not, decide_eq_true_eq, in_ll, ii_long, Nat.zero_add, Nat.mul_zero, reduceCtorEq]
-- images
theorem C_rtake {σ : mm} {a b : Nat} (hab : b ≠ a) : ∃ σ', fX4_take a b σ = some σ' ∧ (∀ w, w < 3 → σ'.1 4 a w = σ.1 4 b w) ∧ (∀ l, l < 4 → σ'.1 10 a l = σ.1 10 b l) ∧ (∀ c, c ≠ 4 → c ≠ 10 → σ'.1 c = σ.1 c) ∧ (∀ i, i ≠ a → σ'.1 4 i = σ.1 4 i ∧ σ'.1 10 i = σ.1 10 i) ∧ σ'.2 = σ.2 := by
  obtain ⟨s, e, c1, c2, c3, c4⟩ := cp_z (σ := stI (stI (stI σ 4 a 0 (σ.1 4 b 0)) 4 a 1 (σ.1 4 b 1)) 4 a 2 (σ.1 4 b 2)) (c := 10) (i := b) (n := 4) (c' := 10) (i' := a) (n' := 4) (sp := 0) (dp := 0) (k := 4) (by decide) (by decide) (by decide) (by decide)
  have e' : cpI (stI (stI (stI σ 4 a 0 (σ.1 4 b 0)) 4 a 1 (σ.1 4 b 1)) 4 a 2 (σ.1 4 b 2)) 10 b 4 10 a 4 (ii 0) (ii 0) (ii 4) = some s := e
  refine ⟨s, ?_, ?_, ?_, ?_, ?_, ?_⟩
  · unfold fX4_take fX4_take_0
    simp (disch := omega) only [e', if_true, if_false, Option.bind_some, Option.map_some, ii_lit, ll_lit, ii_neg, ll_neg, ii_add, ii_sub, ii_mul, ll_add, ll_sub, ll_mul, ii_le, ii_lt, ii_eq, ii_t, bi_0, bi_1, rd_z, wr_z, rr_z, rl_z, wl_z, tn_n, st_s, st_j, st_i, st_c, st_2, sl_s, sl_j, sl_i, sl_c, sl_1, Int.natCast_add, Int.cast_ofNat_Int, if_pos, if_neg, decide_eq_false_iff_not, decide_eq_true_eq, in_ll, ii_long, Nat.zero_add, Nat.mul_zero, reduceCtorEq]
  · intro w hw
    rw [c2 4 (by decide)]
    have : w = 0 ∨ w = 1 ∨ w = 2 := by omega
    rcases this with rfl | rfl | rfl <;> simp (disch := omega) only [if_true, if_false, Option.bind_some, Option.map_some, ii_lit, ll_lit, ii_neg, ll_neg, ii_add, ii_sub, ii_mul, ll_add, ll_sub, ll_mul, ii_le, ii_lt, ii_eq, ii_t, bi_0, bi_1, rd_z, wr_z, rr_z, rl_z, wl_z, tn_n, st_s, st_j, st_i, st_c, st_2, sl_s, sl_j, sl_i, sl_c, sl_1, Int.natCast_add, Int.cast_ofNat_Int, if_pos, if_neg, decide_eq_false_iff_not, decide_eq_true_eq, in_ll, ii_long, Nat.zero_add, Nat.mul_zero, reduceCtorEq]
  · intro l hl
    rw [c1, if_pos (by omega), show 0 + (l - 0) = l by omega]
    simp (disch := omega) only [if_true, if_false, Option.bind_some, Option.map_some, ii_lit, ll_lit, ii_neg, ll_neg, ii_add, ii_sub, ii_mul, ll_add, ll_sub, ll_mul, ii_le, ii_lt, ii_eq, ii_t, bi_0, bi_1, rd_z, wr_z, rr_z, rl_z, wl_z, tn_n, st_s, st_j, st_i, st_c, st_2, sl_s, sl_j, sl_i, sl_c, sl_1, Int.natCast_add, Int.cast_ofNat_Int, if_pos, if_neg, decide_eq_false_iff_not, decide_eq_true_eq, in_ll, ii_long, Nat.zero_add, Nat.mul_zero, reduceCtorEq]
  · intro c h4 h10
    rw [c2 c h10, st_c _ _ _ _ h4, st_c _ _ _ _ h4, st_c _ _ _ _ h4]
  · intro i hi
    rw [c2 4 (by decide), c3 i hi]
    simp (disch := omega) only [if_true, if_false, Option.bind_some, Option.map_some, ii_lit, ll_lit, ii_neg, ll_neg, ii_add, ii_sub, ii_mul, ll_add, ll_sub, ll_mul, ii_le, ii_lt, ii_eq, ii_t, bi_0, bi_1, rd_z, wr_z, rr_z, rl_z, wl_z, tn_n, st_s, st_j, st_i, st_c, st_2, sl_s, sl_j, sl_i, sl_c, sl_1, Int.natCast_add, Int.cast_ofNat_Int, if_pos, if_neg, decide_eq_false_iff_not, decide_eq_true_eq, in_ll, ii_long, Nat.zero_add, Nat.mul_zero, reduceCtorEq]
    exact ⟨trivial, trivial⟩
  · rw [c4]
    rfl
theorem C_take {σ : mm} {a b : Nat} {A : bdy} (hab : b ≠ a) (hC : isC σ b A) : ∃ σ', fX0_take a b σ = some σ' ∧ isC σ' a A ∧ Fb a σ σ' := by
  obtain ⟨⟨hn4, hR8⟩, h1, h2, h3, h4, h5, h6, h7⟩ := hC
  obtain ⟨s5, e5, c1, c2, c3, c4⟩ := cp_z (σ := stI (stI σ 0 a 0 (ii A.n)) 0 a 4 (ii A.R)) (c := 8) (i := b) (n := 4) (c' := 8) (i' := a) (n' := 4) (sp := 0) (dp := 0) (k := 4) (by decide) (by decide) (by decide) (by decide)
  have e5' : cpI (stI (stI σ 0 a 0 (ii A.n)) 0 a 4 (ii A.R)) 8 b 4 8 a 4 (ii 0) (ii 0) (ii 4) = some s5 := e5
  obtain ⟨s6, e6, d1, d2, d3, d4⟩ := cp_z (σ := s5) (c := 9) (i := b) (n := 4) (c' := 9) (i' := a) (n' := 4) (sp := 0) (dp := 0) (k := 4) (by decide) (by decide) (by decide) (by decide)
  have e6' : cpI s5 9 b 4 9 a 4 (ii 0) (ii 0) (ii 4) = some s6 := e6
  have q0 : s6.1 0 = (stI (stI σ 0 a 0 (ii A.n)) 0 a 4 (ii A.R)).1 0 := by rw [d2 0 (by decide), c2 0 (by decide)]
  have qx : ∀ c, c ≠ 0 → c ≠ 8 → c ≠ 9 → s6.1 c = σ.1 c := fun c k0 k8 k9 => by rw [d2 c k9, c2 c k8, st_c _ _ _ _ k0, st_c _ _ _ _ k0]
  have q8 : ∀ i, i ≠ a → s6.1 8 i = σ.1 8 i := fun i hi => by rw [d2 8 (by decide), c3 i hi, st_c _ _ _ _ (by decide), st_c _ _ _ _ (by decide)]
  have q9 : ∀ i, i ≠ a → s6.1 9 i = σ.1 9 i := fun i hi => by rw [d3 i hi, c2 9 (by decide), st_c _ _ _ _ (by decide), st_c _ _ _ _ (by decide)]
  have fb6 : Fb a σ s6 := by
    refine ⟨?_, by rw [d4, c4]; rfl, ?_, ?_, ?_⟩
    · intro c hc
      refine qx c ?_ ?_ ?_ <;> (rintro rfl; exact hc (by decide))
    · intro i hi
      refine ⟨?_, q8 i hi, q9 i hi⟩
      rw [q0, st_i _ _ _ hi, st_i _ _ _ hi]
    · intro i _
      rw [qx 4 (by decide) (by decide) (by decide), qx 10 (by decide) (by decide) (by decide)]
      exact ⟨rfl, rfl⟩
    · intro i _
      rw [qx 11 (by decide) (by decide) (by decide)]
  unfold fX0_take fX0_take_0
  simp (disch := omega) only [h1, h2, e5', e6', if_true, if_false, Option.bind_some, Option.map_some, ii_lit, ll_lit, ii_neg, ll_neg, ii_add, ii_sub, ii_mul, ll_add, ll_sub, ll_mul, ii_le, ii_lt, ii_eq, ii_t, bi_0, bi_1, rd_z, wr_z, rr_z, rl_z, wl_z, tn_n, st_s, st_j, st_i, st_c, st_2, sl_s, sl_j, sl_i, sl_c, sl_1, Int.natCast_add, Int.cast_ofNat_Int, if_pos, if_neg, decide_eq_false_iff_not, decide_eq_true_eq, in_ll, ii_long, Nat.zero_add, Nat.mul_zero, reduceCtorEq]
  refine lp_j (fun k s => s.1 = ii k ∧ (∀ c, c ≠ 4 → c ≠ 10 → s.2.1 c = s6.1 c) ∧ Fb a σ s.2 ∧ (∀ r, r < k → (∀ w, w < 3 → s.2.1 4 (8 * a + r) w = σ.1 4 (8 * b + r) w) ∧ ∀ l, l < 4 → s.2.1 10 (8 * a + r) l = σ.1 10 (8 * b + r) l)) _ 8 ⟨rfl, fun _ _ _ => rfl, fb6, fun r hr => by omega⟩ ?_ ?_
  · rintro k ⟨x, s⟩ hk ⟨g1, g2, g3, g4⟩
    have g1 : x = ii k := g1
    subst g1
    obtain ⟨s', e, p1, p2, p3, p4, p5⟩ := C_rtake (σ := s) (a := 8 * a + k) (b := 8 * b + k) (by omega)
    have hb := g3.2.2.2.1 (8 * b + k) (fun r hr => by omega)
    refine ⟨(ii ((k + 1 : Nat)), s'), ?_, rfl, ?_, ?_, ?_⟩
    · simp (disch := omega) only [fX0_take_46_L, fX0_take_46, e, if_true, if_false, Option.bind_some, Option.map_some, ii_lit, ll_lit, ii_neg, ll_neg, ii_add, ii_sub, ii_mul, ll_add, ll_sub, ll_mul, ii_le, ii_lt, ii_eq, ii_t, bi_0, bi_1, rd_z, wr_z, rr_z, rl_z, wl_z, tn_n, st_s, st_j, st_i, st_c, st_2, sl_s, sl_j, sl_i, sl_c, sl_1, Int.natCast_add, Int.cast_ofNat_Int, if_pos, if_neg]
    · intro c k4 k10
      show s'.1 c = _
      rw [p3 c k4 k10]
      exact g2 c k4 k10
    · refine g3.tr ⟨?_, p5, ?_, ?_, ?_⟩
      · intro c hc
        refine p3 c ?_ ?_ <;> (rintro rfl; exact hc (by decide))
      · intro i _
        show s'.1 0 i = _ ∧ s'.1 8 i = _ ∧ s'.1 9 i = _
        rw [p3 0 (by decide) (by decide), p3 8 (by decide) (by decide), p3 9 (by decide) (by decide)]
        exact ⟨rfl, rfl, rfl⟩
      · intro i hi
        exact p4 i (hi k hk)
      · intro i _
        show s'.1 11 i = _
        rw [p3 11 (by decide) (by decide)]
    · intro r hr
      by_cases hrk : r = k
      · subst hrk
        refine ⟨fun w hw => ?_, fun l hl => ?_⟩
        · show s'.1 4 (8 * a + r) w = _
          rw [p1 w hw, hb.1]
        · show s'.1 10 (8 * a + r) l = _
          rw [p2 l hl, hb.2]
      · obtain ⟨o1, o2⟩ := g4 r (by omega)
        have o3 := p4 (8 * a + r) (by omega)
        refine ⟨fun w hw => ?_, fun l hl => ?_⟩
        · show s'.1 4 (8 * a + r) w = _
          rw [o3.1]
          exact o1 w hw
        · show s'.1 10 (8 * a + r) l = _
          rw [o3.2]
          exact o2 l hl
  · rintro ⟨x, s⟩ ⟨g1, g2, g3, g4⟩
    have g1 : x = ii 8 := g1
    subst g1
    have key : ∃ s', lp (fX0_take_75_L a b) (ii 0, s) = some s' ∧ ((∀ c, c ≠ 11 → s'.1 c = s.1 c) ∧ Fb a σ s' ∧ ∀ v l, v < 4 → l < 4 → s'.1 11 (4 * a + v) l = σ.1 11 (4 * b + v) l) := by
      refine lp_j (fun k z => z.1 = ii k ∧ (∀ c, c ≠ 11 → z.2.1 c = s.1 c) ∧ Fb a σ z.2 ∧ ∀ v l, v < k → l < 4 → z.2.1 11 (4 * a + v) l = σ.1 11 (4 * b + v) l) _ 4 ⟨rfl, fun _ _ => rfl, g3, fun v l hv => by omega⟩ ?_ ?_
      · rintro k ⟨x, z⟩ hk ⟨p1, p2, p3, p4⟩
        have p1 : x = ii k := p1
        subst p1
        obtain ⟨z', e, o1, o2, o3, o4⟩ := cp_z (σ := z) (c := 11) (i := 4 * b + k) (n := 4) (c' := 11) (i' := 4 * a + k) (n' := 4) (sp := 0) (dp := 0) (k := 4) (by decide) (by decide) (by decide) (by decide)
        have e' : cpI z 11 (4 * b + k) 4 11 (4 * a + k) 4 (ii 0) (ii 0) (ii 4) = some z' := e
        have hb := p3.2.2.2.2 (4 * b + k) (fun r hr => by omega)
        refine ⟨(ii ((k + 1 : Nat)), z'), ?_, rfl, ?_, ?_, ?_⟩
        · simp (disch := omega) only [fX0_take_75_L, fX0_take_75, e', if_true, if_false, Option.bind_some, Option.map_some, ii_lit, ll_lit, ii_neg, ll_neg, ii_add, ii_sub, ii_mul, ll_add, ll_sub, ll_mul, ii_le, ii_lt, ii_eq, ii_t, bi_0, bi_1, rd_z, wr_z, rr_z, rl_z, wl_z, tn_n, st_s, st_j, st_i, st_c, st_2, sl_s, sl_j, sl_i, sl_c, sl_1, Int.natCast_add, Int.cast_ofNat_Int, if_pos, if_neg]
        · intro c hc
          show z'.1 c = _
          rw [o2 c hc]
          exact p2 c hc
        · refine p3.tr ⟨?_, o4, ?_, ?_, ?_⟩
          · intro c hc
            refine o2 c ?_
            rintro rfl
            exact hc (by decide)
          · intro i _
            show z'.1 0 i = _ ∧ z'.1 8 i = _ ∧ z'.1 9 i = _
            rw [o2 0 (by decide), o2 8 (by decide), o2 9 (by decide)]
            exact ⟨rfl, rfl, rfl⟩
          · intro i _
            show z'.1 4 i = _ ∧ z'.1 10 i = _
            rw [o2 4 (by decide), o2 10 (by decide)]
            exact ⟨rfl, rfl⟩
          · intro i hi
            exact o3 i (hi k hk)
        · intro v l hv hl
          show z'.1 11 (4 * a + v) l = _
          by_cases hvk : v = k
          · subst hvk
            rw [o1, if_pos (by omega), show 0 + (l - 0) = l by omega, hb]
          · rw [o3 _ (by omega)]
            exact p4 v l (by omega) hl
      · rintro ⟨x, z⟩ ⟨p1, p2, p3, p4⟩
        have p1 : x = ii 4 := p1
        subst p1
        refine ⟨z, ?_, p2, p3, p4⟩
        simp (disch := omega) only [fX0_take_75_L, fX0_take_75, if_true, if_false, Option.bind_some, Option.map_some, ii_lit, ll_lit, ii_neg, ll_neg, ii_add, ii_sub, ii_mul, ll_add, ll_sub, ll_mul, ii_le, ii_lt, ii_eq, ii_t, bi_0, bi_1, rd_z, wr_z, rr_z, rl_z, wl_z, tn_n, st_s, st_j, st_i, st_c, st_2, sl_s, sl_j, sl_i, sl_c, sl_1, Int.natCast_add, Int.cast_ofNat_Int, if_pos, if_neg]
    obtain ⟨s', e, p1, p2, p3⟩ := key
    refine ⟨s', ?_, ?_, p2⟩
    · simp (disch := omega) only [fX0_take_46_L, fX0_take_46, e, if_true, if_false, Option.bind_some, Option.map_some, ii_lit, ll_lit, ii_neg, ll_neg, ii_add, ii_sub, ii_mul, ll_add, ll_sub, ll_mul, ii_le, ii_lt, ii_eq, ii_t, bi_0, bi_1, rd_z, wr_z, rr_z, rl_z, wl_z, tn_n, st_s, st_j, st_i, st_c, st_2, sl_s, sl_j, sl_i, sl_c, sl_1, Int.natCast_add, Int.cast_ofNat_Int, if_pos, if_neg]
    · refine ⟨⟨hn4, hR8⟩, ?_, ?_, ?_, ?_, ?_, ?_, ?_⟩
      · rw [p1 0 (by decide), g2 0 (by decide) (by decide), q0]
        simp (disch := omega) only [if_true, if_false, Option.bind_some, Option.map_some, ii_lit, ll_lit, ii_neg, ll_neg, ii_add, ii_sub, ii_mul, ll_add, ll_sub, ll_mul, ii_le, ii_lt, ii_eq, ii_t, bi_0, bi_1, rd_z, wr_z, rr_z, rl_z, wl_z, tn_n, st_s, st_j, st_i, st_c, st_2, sl_s, sl_j, sl_i, sl_c, sl_1, Int.natCast_add, Int.cast_ofNat_Int, if_pos, if_neg, decide_eq_false_iff_not, decide_eq_true_eq, in_ll, ii_long, Nat.zero_add, Nat.mul_zero, reduceCtorEq]
      · rw [p1 0 (by decide), g2 0 (by decide) (by decide), q0]
        simp (disch := omega) only [if_true, if_false, Option.bind_some, Option.map_some, ii_lit, ll_lit, ii_neg, ll_neg, ii_add, ii_sub, ii_mul, ll_add, ll_sub, ll_mul, ii_le, ii_lt, ii_eq, ii_t, bi_0, bi_1, rd_z, wr_z, rr_z, rl_z, wl_z, tn_n, st_s, st_j, st_i, st_c, st_2, sl_s, sl_j, sl_i, sl_c, sl_1, Int.natCast_add, Int.cast_ofNat_Int, if_pos, if_neg, decide_eq_false_iff_not, decide_eq_true_eq, in_ll, ii_long, Nat.zero_add, Nat.mul_zero, reduceCtorEq]
      · intro l hl
        rw [p1 8 (by decide), g2 8 (by decide) (by decide), d2 8 (by decide), c1, if_pos (by omega), show 0 + (l - 0) = l by omega]
        simp (disch := omega) only [if_true, if_false, Option.bind_some, Option.map_some, ii_lit, ll_lit, ii_neg, ll_neg, ii_add, ii_sub, ii_mul, ll_add, ll_sub, ll_mul, ii_le, ii_lt, ii_eq, ii_t, bi_0, bi_1, rd_z, wr_z, rr_z, rl_z, wl_z, tn_n, st_s, st_j, st_i, st_c, st_2, sl_s, sl_j, sl_i, sl_c, sl_1, Int.natCast_add, Int.cast_ofNat_Int, if_pos, if_neg, decide_eq_false_iff_not, decide_eq_true_eq, in_ll, ii_long, Nat.zero_add, Nat.mul_zero, reduceCtorEq]
        exact h3 l hl
      · intro l hl
        rw [p1 9 (by decide), g2 9 (by decide) (by decide), d1, if_pos (by omega), show 0 + (l - 0) = l by omega, c2 9 (by decide)]
        simp (disch := omega) only [if_true, if_false, Option.bind_some, Option.map_some, ii_lit, ll_lit, ii_neg, ll_neg, ii_add, ii_sub, ii_mul, ll_add, ll_sub, ll_mul, ii_le, ii_lt, ii_eq, ii_t, bi_0, bi_1, rd_z, wr_z, rr_z, rl_z, wl_z, tn_n, st_s, st_j, st_i, st_c, st_2, sl_s, sl_j, sl_i, sl_c, sl_1, Int.natCast_add, Int.cast_ofNat_Int, if_pos, if_neg, decide_eq_false_iff_not, decide_eq_true_eq, in_ll, ii_long, Nat.zero_add, Nat.mul_zero, reduceCtorEq]
        exact h4 l hl
      · intro r w hr hw
        rw [p1 4 (by decide), (g4 r (by omega)).1 w hw]
        exact h5 r w hr hw
      · intro r l hr hl
        rw [p1 10 (by decide), (g4 r (by omega)).2 l hl]
        exact h6 r l hr hl
      · intro v l hv hl
        rw [p3 v l hv hl]
        exact h7 v l hv hl
