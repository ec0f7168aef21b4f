-- thin
theorem wy_neg : ∀ n : Fin 5, ∀ d : Fin (5 ^ n.val), ∀ l : Fin n.val, wy n.val (((5 ^ n.val : Nat) : Int) - 1 - ((d.val : Nat) : Int)) l.val = -wy n.val ((d.val : Nat) : Int) l.val := by decide +kernel
theorem d5_5 {n : Nat} (h : 1 ≤ n) : 5 ≤ d5 n := by
  have h : 5 ^ 1 ≤ 5 ^ n := Nat.pow_le_pow_right (by decide) h
  exact h
theorem smf_neg (f : Nat → Int) (n : Nat) : smf (fun l => -f l) n = -smf f n := by
  induction n with
  | zero => rfl
  | succ n ih =>
    rw [smf, smf, ih]
    omega
theorem ws_neg {A : bdy} (hA : okb A) {d : Nat} (hd : d < d5 A.n) (p : Nat) : ws A ((d5 A.n : Int) - 1 - d) p = -ws A d p := by
  unfold ws
  rw [← smf_neg]
  refine smf_c (fun l hl => ?_)
  have := wy_neg ⟨A.n, by have := hA.1; omega⟩ ⟨d, hd⟩ ⟨l, hl⟩
  simp only at this
  show wy A.n (((5 ^ A.n : Nat) : Int) - 1 - d) l * pt A p l = -(wy A.n d l * pt A p l)
  rw [this, Int.neg_mul]
theorem sw_neg {A : bdy} (hA : okb A) {d : Nat} (hd : d < d5 A.n) (k : Nat) : (sw A ((d5 A.n : Int) - 1 - d) k).1 = -(sw A d k).2.1 ∧ (sw A ((d5 A.n : Int) - 1 - d) k).2.1 = -(sw A d k).1 := by
  induction k with
  | zero => exact ⟨rfl, rfl⟩
  | succ k ih =>
    unfold sw at ih ⊢
    by_cases h : inP A k = true
    · rw [fdf_yes h, fdf_yes h]
      generalize fdf (inP A) (swg (ws A ((d5 A.n : Int) - 1 - d))) (0, 0, 0) k = q at ih ⊢
      generalize fdf (inP A) (swg (ws A d)) (0, 0, 0) k = q' at ih ⊢
      obtain ⟨i1, i2⟩ := ih
      have e := ws_neg hA hd k
      constructor
      · show (if cnf (inP A) k = 0 ∨ q.1 < ws A ((d5 A.n : Int) - 1 - d) k then ws A ((d5 A.n : Int) - 1 - d) k else q.1) = -(if cnf (inP A) k = 0 ∨ ws A d k < q'.2.1 then ws A d k else q'.2.1)
        rw [e, i1]
        split <;> split <;> omega
      · show (if cnf (inP A) k = 0 ∨ ws A ((d5 A.n : Int) - 1 - d) k < q.2.1 then ws A ((d5 A.n : Int) - 1 - d) k else q.2.1) = -(if cnf (inP A) k = 0 ∨ q'.1 < ws A d k then ws A d k else q'.1)
        rw [e, i2]
        split <;> split <;> omega
    · rw [fdf_no h, fdf_no h]
      exact ih
theorem spn_neg {A : bdy} (hA : okb A) {d : Nat} (hd : d < d5 A.n) : spn A ((d5 A.n : Int) - 1 - d) = spn A d := by
  unfold spn
  have := sw_neg hA hd (np A)
  omega
theorem spn_r {A : bdy} (hA : okb A) (hcnt : 0 < cnf (inP A) (np A)) (d : Int) : 0 ≤ spn A d ∧ spn A d ≤ 144 := by
  have := sw_r hA d (np A)
  have h2 := this.2.2.2 hcnt
  unfold spn
  omega
theorem thn_le {A : bdy} {k j : Nat} (hj : j < k) : (thn A k).1 ≤ spn A j := by
  induction k with
  | zero => omega
  | succ k ih =>
    rw [thn]
    by_cases hjk : j = k
    · subst hjk
      split
      · exact Int.le_refl _
      · show (thn A j).1 ≤ _
        omega
    · have := ih (by omega)
      split
      · show spn A k ≤ _
        omega
      · exact this
theorem thn_r {A : bdy} (hA : okb A) (hcnt : 0 < cnf (inP A) (np A)) (k : Nat) : 0 ≤ (thn A k).1 ∧ (thn A k).1 ≤ 1000000000 ∧ (thn A k).2 ≤ k := by
  induction k with
  | zero => exact ⟨by show (0 : Int) ≤ 1000000000; decide, by show (1000000000 : Int) ≤ 1000000000; decide, Nat.le_refl 0⟩
  | succ k ih =>
    have h := spn_r hA hcnt k
    rw [thn]
    split
    · exact ⟨h.1, by show spn A k ≤ _; omega, by show k ≤ k + 1; omega⟩
    · exact ⟨ih.1, ih.2.1, by omega⟩
theorem thn_0 (A : bdy) : thn A 0 = (1000000000, 0) := by rw [thn]
theorem tenM : (1000000000 : Int32) = ii 1000000000 := ii_lit 1000000000
theorem ft_1 {D : Nat} (hD : D ≤ 625) : dvI (ii D) (ii 2) = some (ii ((D : Int) / 2)) := dv_nn (by omega) (by omega) (by omega) (by omega)
theorem ft_4 {σ : mm} {n M D : Nat} (c : Int32) (hD : D ≤ 625) (e2 : (D : Int) / 2 = (M : Int)) : (Option.bind (dvI (ii D) 2) fun x2 => Option.bind (some (stI σ 1 0 7 c)) fun σ3 => lp (fX1_findThin_23_L (ii n) x2) (0, σ3)) = lp (fX1_findThin_23_L (ii n) (ii M)) (ii 0, stI σ 1 0 7 c) := by
  have h := ft_1 hD
  rw [e2] at h
  have h : dvI (ii D) 2 = some (ii M) := h
  rw [h, Option.bind_some, Option.bind_some]
  rfl
theorem ft_gen {σ : mm} {n M D : Nat} (c : Int32) (hD : D ≤ 625) (e2 : (D : Int) / 2 = (M : Int)) (c1 : fX1_directions (ii n) = some (ii D)) (ht : σ.1 1 0 7 = ii (-1)) : (if (σ.1 1 0 7) < 0 then Option.bind (fX1_directions (ii n)) fun q1 => Option.bind (dvI q1 2) fun x2 => Option.bind (some (stI σ 1 0 7 c)) fun σ3 => lp (fX1_findThin_23_L (ii n) x2) (0, σ3) else some σ) = lp (fX1_findThin_23_L (ii n) (ii M)) (ii 0, stI σ 1 0 7 c) := by
  rw [ht, if_pos (show ii (-1) < 0 by decide), c1, Option.bind_some]
  exact ft_4 c hD e2
theorem C_findThin_0 {σ : mm} {n M D : Nat} (hn : n ≤ 4) (hD : D ≤ 625) (e2 : (D : Int) / 2 = (M : Int)) (c1 : fX1_directions (ii n) = some (ii D)) (ht : σ.1 1 0 7 = ii (-1)) : fX1_findThin (ii n) σ = lp (fX1_findThin_23_L (ii n) (ii M)) (ii 0, stI σ 1 0 7 (ii 1000000000)) := by
  rw [← tenM]
  unfold fX1_findThin fX1_findThin_0
  exact ft_gen 1000000000 hD e2 c1 ht
theorem C_findThin {σ : mm} {A : bdy} (hC : isC σ 0 A) (hc : cloudP σ A) (hA : okb A) (hcnt : 0 < cnf (inP A) (np A)) (ht : thinP σ A) : ∃ σ', fX1_findThin (ii A.n) σ = some σ' ∧ σ'.1 1 0 6 = ii (thn A (d5 A.n / 2)).2 ∧ σ'.1 1 0 7 = ii (thn A (d5 A.n / 2)).1 ∧ (∀ j, j < 3 → σ'.1 1 0 j = σ.1 1 0 j) ∧ Fr [1, 14] [] σ σ' := by
  have hn1 := hA.1
  have hd5 := d5_r hn1.2
  have hd1 : 5 ≤ d5 A.n := d5_5 hn1.1
  have c1 := C_dirs hn1.2
  rcases ht with ht | ⟨t1, t2, t3, t4⟩
  · obtain ⟨M, hM⟩ : ∃ M, M = d5 A.n / 2 := ⟨_, rfl⟩
    rw [← hM, C_findThin_0 hn1.2 hd5 (M := M) (by omega) c1 ht]
    generalize hzz : stI σ 1 0 7 (ii 1000000000) = sz
    have gz : sz.1 1 0 7 = ii (thn A 0).1 := by rw [← hzz, st_s, thn_0]
    have gz2 : ∀ j, j < 3 → sz.1 1 0 j = σ.1 1 0 j := fun j hj => by rw [← hzz, st_j _ _ (by omega)]
    have gz3 : Fr [1, 14] [] σ sz := by rw [← hzz]; exact (Fr.rf _ _ _).sI (by decide) (by decide)
    clear hzz
    refine lp_j (fun k (s : Int32 × mm) => s.1 = ii k ∧ s.2.1 1 0 7 = ii (thn A k).1 ∧ (0 < k → s.2.1 1 0 6 = ii (thn A k).2) ∧ (∀ j, j < 3 → s.2.1 1 0 j = σ.1 1 0 j) ∧ Fr [1, 14] [] σ s.2) (fun (r : mm) => r.1 1 0 6 = ii (thn A M).2 ∧ r.1 1 0 7 = ii (thn A M).1 ∧ (∀ j, j < 3 → r.1 1 0 j = σ.1 1 0 j) ∧ Fr [1, 14] [] σ r) M ⟨rfl, gz, fun h => absurd h (by decide), gz2, gz3⟩ ?_ ?_
    · rintro k ⟨a, s⟩ hk ⟨h1, h2, h3, h4, h5⟩
      have h1 : a = ii k := h1
      subst h1
      have g2 : s.1 1 0 7 = ii (thn A k).1 := h2
      have g4 : ∀ j, j < 3 → s.1 1 0 j = σ.1 1 0 j := h4
      have g5 : Fr [1, 14] [] σ s := h5
      have hr := thn_r hA hcnt k
      have hcs : cloudP s A := by
        refine ⟨?_, ?_, ?_⟩
        · rw [g4 1 (by decide)]; exact hc.1
        · rw [g4 2 (by decide)]; exact hc.2.1
        · rw [g5.1 12 (by decide) (by decide)]; exact hc.2.2
      obtain ⟨s1, x1, x2, x3, q, x4, x5, x6, x7, x8⟩ := C_sweep (hC.fr g5 (by decide)) hcs hA hcnt (d := k) (by omega) (E := (thn A k).1) hr.1 hr.2.1
      have hsr := sw_r hA k q
      have y7 : s1.1 1 0 7 = ii (thn A k).1 := by rw [x2 7 (by decide) (by decide) (by decide)]; exact g2
      rcases x8 with ⟨rfl, x8⟩ | ⟨x8, x9⟩
      · have esp : (sw A k (np A)).1 - (sw A k (np A)).2.1 = spn A k := rfl
        have et : thn A (k + 1) = (spn A k, k) := by rw [thn, if_pos x8]
        refine ⟨(ii ((k + 1 : Nat)), stI (stI s1 1 0 7 (ii (spn A k))) 1 0 6 (ii k)), ?_, rfl, ?_, ?_, ?_, ?_⟩
        · simp (disch := omega) only [fX1_findThin_23_L, fX1_findThin_23, fX1_findThin_72, g2, x1, y7, x5, x6, esp, if_true, if_false, Option.bind_some, Option.map_some, ii_lit, ll_lit, ii_neg, ll_neg, ii_add, ii_sub, ii_mul, ll_add, ll_sub, ll_mul, ii_le, ii_lt, ii_eq, ii_t, bi_0, bi_1, rd_z, wr_z, rr_z, rl_z, wl_z, tn_n, st_s, st_j, st_i, st_c, st_2, sl_s, sl_j, sl_i, sl_c, sl_1, Int.natCast_add, Int.cast_ofNat_Int, if_pos, if_neg, decide_eq_false_iff_not, decide_eq_true_eq, in_ll, ii_long, Nat.zero_add, Nat.mul_zero, reduceCtorEq]
        · rw [et]
          show (stI (stI s1 1 0 7 (ii (spn A k))) 1 0 6 (ii k)).1 1 0 7 = _
          rw [st_j _ _ (by decide), st_s]
        · intro _
          rw [et]
          show (stI (stI s1 1 0 7 (ii (spn A k))) 1 0 6 (ii k)).1 1 0 6 = _
          rw [st_s]
        · intro j hj
          show (stI (stI s1 1 0 7 (ii (spn A k))) 1 0 6 (ii k)).1 1 0 j = _
          rw [st_j _ _ (by omega), st_j _ _ (by omega), x2 j (by omega) (by omega) (by omega)]
          exact g4 j hj
        · exact ((g5.tr x3).sI (by decide) (by decide)).sI (by decide) (by decide)
      · have hmono := sw_mono (A := A) (d := k) x8 x4
        have hnl : ¬ spn A k < (thn A k).1 := by
          unfold spn
          omega
        have et : thn A (k + 1) = thn A k := by rw [thn, if_neg hnl]
        have hk0 : k ≠ 0 := by
          intro hk0
          have hx : (thn A k).1 = 1000000000 := by rw [hk0, thn_0]
          omega
        refine ⟨(ii ((k + 1 : Nat)), s1), ?_, rfl, ?_, ?_, ?_, g5.tr x3⟩
        · simp (disch := omega) only [fX1_findThin_23_L, fX1_findThin_23, fX1_findThin_72, g2, x1, y7, x5, x6, if_true, if_false, Option.bind_some, Option.map_some, ii_lit, ll_lit, ii_neg, ll_neg, ii_add, ii_sub, ii_mul, ll_add, ll_sub, ll_mul, ii_le, ii_lt, ii_eq, ii_t, bi_0, bi_1, rd_z, wr_z, rr_z, rl_z, wl_z, tn_n, st_s, st_j, st_i, st_c, st_2, sl_s, sl_j, sl_i, sl_c, sl_1, Int.natCast_add, Int.cast_ofNat_Int, if_pos, if_neg, decide_eq_false_iff_not, decide_eq_true_eq, in_ll, ii_long, Nat.zero_add, Nat.mul_zero, reduceCtorEq]
        · rw [et]
          exact y7
        · intro _
          rw [et]
          show s1.1 1 0 6 = _
          rw [x2 6 (by decide) (by decide) (by decide)]
          exact h3 (by omega)
        · intro j hj
          show s1.1 1 0 j = _
          rw [x2 j (by omega) (by omega) (by omega)]
          exact g4 j hj
    · rintro ⟨a, s⟩ ⟨h1, h2, h3, h4, h5⟩
      have h1 : a = ii M := h1
      subst h1
      refine ⟨s, ?_, h3 (by omega), h2, h4, h5⟩
      simp (disch := omega) only [fX1_findThin_23_L, fX1_findThin_23, if_true, if_false, Option.bind_some, Option.map_some, ii_lit, ll_lit, ii_neg, ll_neg, ii_add, ii_sub, ii_mul, ll_add, ll_sub, ll_mul, ii_le, ii_lt, ii_eq, ii_t, bi_0, bi_1, rd_z, wr_z, rr_z, rl_z, wl_z, tn_n, st_s, st_j, st_i, st_c, st_2, sl_s, sl_j, sl_i, sl_c, sl_1, Int.natCast_add, Int.cast_ofNat_Int, if_pos, if_neg, decide_eq_false_iff_not, decide_eq_true_eq, in_ll, ii_long, Nat.zero_add, Nat.mul_zero, reduceCtorEq]
  · refine ⟨σ, ?_, t3, t4, fun _ _ => rfl, Fr.rf _ _ _⟩
    unfold fX1_findThin fX1_findThin_0
    simp (disch := omega) only [t4, if_true, if_false, Option.bind_some, Option.map_some, ii_lit, ll_lit, ii_neg, ll_neg, ii_add, ii_sub, ii_mul, ll_add, ll_sub, ll_mul, ii_le, ii_lt, ii_eq, ii_t, bi_0, bi_1, rd_z, wr_z, rr_z, rl_z, wl_z, tn_n, st_s, st_j, st_i, st_c, st_2, sl_s, sl_j, sl_i, sl_c, sl_1, Int.natCast_add, Int.cast_ofNat_Int, if_pos, if_neg, decide_eq_false_iff_not, decide_eq_true_eq, in_ll, ii_long, Nat.zero_add, Nat.mul_zero, reduceCtorEq]
theorem M_thin {τ : mm} {A : bdy} (hM : isM τ A) (hl : lookP τ A) (hA : okb A) (hcnt : 0 < cnf (inP A) (np A)) (w : Int) (hw : 0 ≤ w ∧ w ≤ 1) : ∃ τ', lp (fX8_thin_48_L (ii w) (ii (d5 A.n))) (ii (-1), ii 0, ii 0, τ) = some (ii (if w = 0 then ((thn A (d5 A.n / 2)).2 : Int) else (thn A (d5 A.n / 2)).1), τ') ∧ Fr [48, 55] [12, 13, 14] τ τ' := by
  have hn1 := hA.1
  have hd5 := d5_r hn1.2
  have hd1 : 5 ≤ d5 A.n := d5_5 hn1.1
  have hodd : d5 A.n % 2 = 1 := by
    have : A.n = 1 ∨ A.n = 2 ∨ A.n = 3 ∨ A.n = 4 := by omega
    rcases this with q | q | q | q <;> rw [q] <;> rfl
  obtain ⟨M, hM2⟩ : ∃ M, M = d5 A.n / 2 := ⟨_, rfl⟩
  rw [← hM2]
  have e2 : ((d5 A.n : Nat) : Int) / 2 = (M : Int) := by omega
  have key : ∃ r, lp (fX8_thin_48_L (ii w) (ii (d5 A.n))) (ii (-1), ii 0, ii 0, τ) = some r ∧ (r.1 = ii (if w = 0 then ((thn A M).2 : Int) else (thn A M).1) ∧ Fr [48, 55] [12, 13, 14] τ r.2) := by
    refine lp_j (fun k s => s.2.2.1 = ii k ∧ (s.1 = ii (if k = 0 then -1 else ((thn A (if k ≤ M then k else M)).2 : Int)) ∧ s.2.1 = ii (if k = 0 then 0 else (thn A (if k ≤ M then k else M)).1)) ∧ Fr [48, 55] [12, 13, 14] τ s.2.2.2) _ (d5 A.n) ⟨rfl, ⟨rfl, rfl⟩, Fr.rf _ _ _⟩ ?_ ?_
    · rintro k ⟨a, b, c, s⟩ hk ⟨h1, ⟨h2, h3⟩, h4⟩
      have h1 : c = ii k := h1
      have h2 : a = ii (if k = 0 then -1 else ((thn A (if k ≤ M then k else M)).2 : Int)) := h2
      have h3 : b = ii (if k = 0 then 0 else (thn A (if k ≤ M then k else M)).1) := h3
      subst h1 h2 h3
      have g4 : Fr [48, 55] [12, 13, 14] τ s := h4
      by_cases hkm : k = M
      · refine ⟨(ii ((thn A M).2 : Int), ii (thn A M).1, ii ((k + 1 : Nat)), s), ?_, rfl, ⟨?_, ?_⟩, g4⟩
        · have q1 : (if k ≤ M then k else M) = M := by rw [if_pos (by omega), hkm]
          rw [q1, if_neg (show ¬ k = 0 by omega), if_neg (show ¬ k = 0 by omega)]
          simp (disch := omega) only [fX8_thin_48_L, fX8_thin_48, fX8_thin_90, dv_nn, e2, if_true, if_false, Option.bind_some, Option.map_some, ii_lit, ll_lit, ii_neg, ll_neg, ii_add, ii_sub, ii_mul, ll_add, ll_sub, ll_mul, ii_le, ii_lt, ii_eq, ii_t, bi_0, bi_1, rd_z, wr_z, rr_z, rl_z, wl_z, tn_n, st_s, st_j, st_i, st_c, st_2, sl_s, sl_j, sl_i, sl_c, sl_1, Int.natCast_add, Int.cast_ofNat_Int, if_pos, if_neg, decide_eq_false_iff_not, decide_eq_true_eq, in_ll, ii_long, Nat.zero_add, Nat.mul_zero, reduceCtorEq]
        · show ii ((thn A M).2 : Int) = _
          rw [if_neg (by omega), if_neg (by omega)]
        · show ii (thn A M).1 = _
          rw [if_neg (by omega), if_neg (by omega)]
      · obtain ⟨s1, y1, y2, y3, y4, y5⟩ := M_measures (hM.fr g4 (by decide) (by decide)) (hl.fr g4 (by decide) (by decide)) hA hcnt (d := k) (by omega)
        have hsp := spn_r hA hcnt k
        by_cases hk0 : k = 0
        · subst hk0
          have et : thn A 1 = (spn A ((0 : Nat) : Int), 0) := by
            rw [thn, if_pos]
            show spn A ((0 : Nat) : Int) < 1000000000
            omega
          refine ⟨(ii 0, ii (spn A ((0 : Nat) : Int)), ii 1, s1), ?_, rfl, ⟨?_, ?_⟩, g4.tr y5⟩
          · rw [if_pos rfl, if_pos rfl]
            have y1' : fX8_measures (ii 0) s = some s1 := y1
            simp (disch := omega) only [fX8_thin_48_L, fX8_thin_48, fX8_thin_90, fX8_thin_82, dv_nn, e2, y1', y4, if_true, if_false, Option.bind_some, Option.map_some, ii_lit, ll_lit, ii_neg, ll_neg, ii_add, ii_sub, ii_mul, ll_add, ll_sub, ll_mul, ii_le, ii_lt, ii_eq, ii_t, bi_0, bi_1, rd_z, wr_z, rr_z, rl_z, wl_z, tn_n, st_s, st_j, st_i, st_c, st_2, sl_s, sl_j, sl_i, sl_c, sl_1, Int.natCast_add, Int.cast_ofNat_Int, if_pos, if_neg, decide_eq_false_iff_not, decide_eq_true_eq, in_ll, ii_long, Nat.zero_add, Nat.mul_zero, reduceCtorEq]
            rfl
          · show ii 0 = _
            rw [if_neg (by decide), if_pos (by omega), et]
            rfl
          · show ii (spn A ((0 : Nat) : Int)) = _
            rw [if_neg (by decide), if_pos (by omega), et]
        · rw [if_neg hk0, if_neg hk0]
          by_cases hlt : k < M
          · have q1 : (if k ≤ M then k else M) = k := if_pos (by omega)
            rw [q1]
            have hr := thn_r hA hcnt k
            by_cases hup : spn A k < (thn A k).1
            · have et : thn A (k + 1) = (spn A k, k) := by rw [thn, if_pos hup]
              refine ⟨(ii k, ii (spn A k), ii ((k + 1 : Nat)), s1), ?_, rfl, ⟨?_, ?_⟩, g4.tr y5⟩
              · simp (disch := omega) only [fX8_thin_48_L, fX8_thin_48, fX8_thin_90, fX8_thin_82, dv_nn, e2, y1, y4, if_true, if_false, Option.bind_some, Option.map_some, ii_lit, ll_lit, ii_neg, ll_neg, ii_add, ii_sub, ii_mul, ll_add, ll_sub, ll_mul, ii_le, ii_lt, ii_eq, ii_t, bi_0, bi_1, rd_z, wr_z, rr_z, rl_z, wl_z, tn_n, st_s, st_j, st_i, st_c, st_2, sl_s, sl_j, sl_i, sl_c, sl_1, Int.natCast_add, Int.cast_ofNat_Int, if_pos, if_neg, decide_eq_false_iff_not, decide_eq_true_eq, in_ll, ii_long, Nat.zero_add, Nat.mul_zero, reduceCtorEq]
              · show ii (k : Int) = _
                rw [if_neg (by omega), if_pos (by omega), et]
              · show ii (spn A k) = _
                rw [if_neg (by omega), if_pos (by omega), et]
            · have et : thn A (k + 1) = thn A k := by rw [thn, if_neg hup]
              refine ⟨(ii ((thn A k).2 : Int), ii (thn A k).1, ii ((k + 1 : Nat)), s1), ?_, rfl, ⟨?_, ?_⟩, g4.tr y5⟩
              · simp (disch := omega) only [fX8_thin_48_L, fX8_thin_48, fX8_thin_90, fX8_thin_82, dv_nn, e2, y1, y4, if_true, if_false, Option.bind_some, Option.map_some, ii_lit, ll_lit, ii_neg, ll_neg, ii_add, ii_sub, ii_mul, ll_add, ll_sub, ll_mul, ii_le, ii_lt, ii_eq, ii_t, bi_0, bi_1, rd_z, wr_z, rr_z, rl_z, wl_z, tn_n, st_s, st_j, st_i, st_c, st_2, sl_s, sl_j, sl_i, sl_c, sl_1, Int.natCast_add, Int.cast_ofNat_Int, if_pos, if_neg, decide_eq_false_iff_not, decide_eq_true_eq, in_ll, ii_long, Nat.zero_add, Nat.mul_zero, reduceCtorEq]
              · show ii ((thn A k).2 : Int) = _
                rw [if_neg (by omega), if_pos (by omega), et]
              · show ii (thn A k).1 = _
                rw [if_neg (by omega), if_pos (by omega), et]
          · have q1 : (if k ≤ M then k else M) = M := if_neg (by omega)
            rw [q1]
            have hr := thn_r hA hcnt M
            have hge : (thn A M).1 ≤ spn A k := by
              have e3 := spn_neg hA (d := d5 A.n - 1 - k) (by omega)
              have e4 : (d5 A.n : Int) - 1 - ((d5 A.n - 1 - k : Nat) : Int) = k := by omega
              rw [e4] at e3
              rw [e3]
              exact thn_le (by omega)
            refine ⟨(ii ((thn A M).2 : Int), ii (thn A M).1, ii ((k + 1 : Nat)), s1), ?_, rfl, ⟨?_, ?_⟩, g4.tr y5⟩
            · simp (disch := omega) only [fX8_thin_48_L, fX8_thin_48, fX8_thin_90, fX8_thin_82, dv_nn, e2, y1, y4, if_true, if_false, Option.bind_some, Option.map_some, ii_lit, ll_lit, ii_neg, ll_neg, ii_add, ii_sub, ii_mul, ll_add, ll_sub, ll_mul, ii_le, ii_lt, ii_eq, ii_t, bi_0, bi_1, rd_z, wr_z, rr_z, rl_z, wl_z, tn_n, st_s, st_j, st_i, st_c, st_2, sl_s, sl_j, sl_i, sl_c, sl_1, Int.natCast_add, Int.cast_ofNat_Int, if_pos, if_neg, decide_eq_false_iff_not, decide_eq_true_eq, in_ll, ii_long, Nat.zero_add, Nat.mul_zero, reduceCtorEq]
            · show ii ((thn A M).2 : Int) = _
              rw [if_neg (by omega), if_neg (by omega)]
            · show ii (thn A M).1 = _
              rw [if_neg (by omega), if_neg (by omega)]
    · rintro ⟨a, b, c, s⟩ ⟨h1, ⟨h2, h3⟩, h4⟩
      have h1 : c = ii (d5 A.n) := h1
      have h2 : a = ii (if d5 A.n = 0 then -1 else ((thn A (if d5 A.n ≤ M then d5 A.n else M)).2 : Int)) := h2
      have h3 : b = ii (if d5 A.n = 0 then 0 else (thn A (if d5 A.n ≤ M then d5 A.n else M)).1) := h3
      rw [if_neg (by omega), if_neg (by omega)] at h2
      rw [if_neg (by omega), if_neg (by omega)] at h3
      subst h1 h2 h3
      refine ⟨(ii (if w = 0 then ((thn A M).2 : Int) else (thn A M).1), s), ?_, rfl, h4⟩
      by_cases w0 : w = 0
      · simp (disch := omega) only [fX8_thin_48_L, fX8_thin_48, if_true, if_false, Option.bind_some, Option.map_some, ii_lit, ll_lit, ii_neg, ll_neg, ii_add, ii_sub, ii_mul, ll_add, ll_sub, ll_mul, ii_le, ii_lt, ii_eq, ii_t, bi_0, bi_1, rd_z, wr_z, rr_z, rl_z, wl_z, tn_n, st_s, st_j, st_i, st_c, st_2, sl_s, sl_j, sl_i, sl_c, sl_1, Int.natCast_add, Int.cast_ofNat_Int, if_pos, if_neg, decide_eq_false_iff_not, decide_eq_true_eq, in_ll, ii_long, Nat.zero_add, Nat.mul_zero, reduceCtorEq]
      · simp (disch := omega) only [fX8_thin_48_L, fX8_thin_48, if_true, if_false, Option.bind_some, Option.map_some, ii_lit, ll_lit, ii_neg, ll_neg, ii_add, ii_sub, ii_mul, ll_add, ll_sub, ll_mul, ii_le, ii_lt, ii_eq, ii_t, bi_0, bi_1, rd_z, wr_z, rr_z, rl_z, wl_z, tn_n, st_s, st_j, st_i, st_c, st_2, sl_s, sl_j, sl_i, sl_c, sl_1, Int.natCast_add, Int.cast_ofNat_Int, if_pos, if_neg, decide_eq_false_iff_not, decide_eq_true_eq, in_ll, ii_long, Nat.zero_add, Nat.mul_zero, reduceCtorEq]
  obtain ⟨⟨r, τ'⟩, e, r1, r2⟩ := key
  have r1 : r = ii (if w = 0 then ((thn A M).2 : Int) else (thn A M).1) := r1
  subst r1
  exact ⟨τ', e, r2⟩
theorem m_thin {σ τ : mm} (h : Rel σ τ) (w : Int32) : Ag (fX7_thin w σ) (fX8_thin w τ) := by
  obtain ⟨A, hR⟩ := h
  obtain ⟨⟨hC, hM, hA⟩, -⟩ := id hR
  obtain ⟨w, rfl, h3, h4⟩ := ii_ex w
  have hn1 := hA.1
  by_cases hv : 0 ≤ w ∧ w ≤ 1
  · obtain ⟨σ1, e1, f1, f2, f3, f4⟩ := hR.cloud
    obtain ⟨τ1, e2, g1, g2⟩ := f1.looks
    have hcn := cnt_le hA
    have s2 := f2.2.1
    have s3 := g2.1
    by_cases h0 : cnf (inP A) (np A) = 0
    · obtain ⟨σ', τ', e3, e4, hr⟩ := fd3 g1
      refine ⟨ii (-1000000004), σ', τ', ?_, ?_, _, hr⟩
      · unfold fX7_thin fX7_thin_0
        simp (disch := omega) only [e1, s2, e3, if_true, if_false, Option.bind_some, Option.map_some, ii_lit, ll_lit, ii_neg, ll_neg, ii_add, ii_sub, ii_mul, ll_add, ll_sub, ll_mul, ii_le, ii_lt, ii_eq, ii_t, bi_0, bi_1, rd_z, wr_z, rr_z, rl_z, wl_z, tn_n, st_s, st_j, st_i, st_c, st_2, sl_s, sl_j, sl_i, sl_c, sl_1, Int.natCast_add, Int.cast_ofNat_Int, if_pos, if_neg, decide_eq_false_iff_not, decide_eq_true_eq, in_ll, ii_long, Nat.zero_add, Nat.mul_zero, reduceCtorEq]
      · unfold fX8_thin fX8_thin_0
        simp (disch := omega) only [e2, s3, e4, if_true, if_false, Option.bind_some, Option.map_some, ii_lit, ll_lit, ii_neg, ll_neg, ii_add, ii_sub, ii_mul, ll_add, ll_sub, ll_mul, ii_le, ii_lt, ii_eq, ii_t, bi_0, bi_1, rd_z, wr_z, rr_z, rl_z, wl_z, tn_n, st_s, st_j, st_i, st_c, st_2, sl_s, sl_j, sl_i, sl_c, sl_1, Int.natCast_add, Int.cast_ofNat_Int, if_pos, if_neg, decide_eq_false_iff_not, decide_eq_true_eq, in_ll, ii_long, Nat.zero_add, Nat.mul_zero, reduceCtorEq]
    · obtain ⟨σ2, x1, x2, x3, x4, x5⟩ := C_findThin f1.1.1 f2 hA (by omega) f3
      obtain ⟨τ2, y1, y2⟩ := M_thin g1.1.2.1 g2 hA (by omega) w hv
      have c2 := M_dirs g1.1.2.1
      have n1 := f1.1.1.2.1
      have hr := thn_r hA (by omega) (d5 A.n / 2)
      have hd1 : 5 ≤ d5 A.n := d5_5 hn1.1
      have hle := thn_le (A := A) (k := d5 A.n / 2) (j := 0) (by omega)
      have hs0 := spn_r hA (by omega) ((0 : Nat) : Int)
      have hRl : RelA σ2 τ1 A := by
        obtain ⟨⟨q1, q2, q3⟩, ⟨q4, q5⟩, q6⟩ := g1
        refine ⟨⟨q1.fr x5 (by decide), q2, q3⟩, ⟨Or.inr ⟨?_, ⟨?_, ?_, ?_⟩, Or.inr ⟨hr.1, by omega, x2, x3⟩⟩, q5.c x5 (by decide)⟩, q6.c x5 (by decide)⟩
        · rw [x4 0 (by decide)]; exact f4
        · rw [x4 1 (by decide)]; exact f2.1
        · rw [x4 2 (by decide)]; exact f2.2.1
        · rw [x5.1 12 (by decide) (by decide)]; exact f2.2.2
      refine ⟨ii (if w = 0 then ((thn A (d5 A.n / 2)).2 : Int) else (thn A (d5 A.n / 2)).1), σ2, τ2, ?_, ?_, _, hRl.m (y2.mono (by decide) (by decide))⟩
      · unfold fX7_thin fX7_thin_0
        by_cases w0 : w = 0
        · simp (disch := omega) only [e1, s2, n1, x1, x2, x3, if_true, if_false, Option.bind_some, Option.map_some, ii_lit, ll_lit, ii_neg, ll_neg, ii_add, ii_sub, ii_mul, ll_add, ll_sub, ll_mul, ii_le, ii_lt, ii_eq, ii_t, bi_0, bi_1, rd_z, wr_z, rr_z, rl_z, wl_z, tn_n, st_s, st_j, st_i, st_c, st_2, sl_s, sl_j, sl_i, sl_c, sl_1, Int.natCast_add, Int.cast_ofNat_Int, if_pos, if_neg, decide_eq_false_iff_not, decide_eq_true_eq, in_ll, ii_long, Nat.zero_add, Nat.mul_zero, reduceCtorEq]
        · simp (disch := omega) only [e1, s2, n1, x1, x2, x3, if_true, if_false, Option.bind_some, Option.map_some, ii_lit, ll_lit, ii_neg, ll_neg, ii_add, ii_sub, ii_mul, ll_add, ll_sub, ll_mul, ii_le, ii_lt, ii_eq, ii_t, bi_0, bi_1, rd_z, wr_z, rr_z, rl_z, wl_z, tn_n, st_s, st_j, st_i, st_c, st_2, sl_s, sl_j, sl_i, sl_c, sl_1, Int.natCast_add, Int.cast_ofNat_Int, if_pos, if_neg, decide_eq_false_iff_not, decide_eq_true_eq, in_ll, ii_long, Nat.zero_add, Nat.mul_zero, reduceCtorEq]
      · unfold fX8_thin fX8_thin_0
        simp (disch := omega) only [e2, s3, c2, y1, if_true, if_false, Option.bind_some, Option.map_some, ii_lit, ll_lit, ii_neg, ll_neg, ii_add, ii_sub, ii_mul, ll_add, ll_sub, ll_mul, ii_le, ii_lt, ii_eq, ii_t, bi_0, bi_1, rd_z, wr_z, rr_z, rl_z, wl_z, tn_n, st_s, st_j, st_i, st_c, st_2, sl_s, sl_j, sl_i, sl_c, sl_1, Int.natCast_add, Int.cast_ofNat_Int, if_pos, if_neg, decide_eq_false_iff_not, decide_eq_true_eq, in_ll, ii_long, Nat.zero_add, Nat.mul_zero, reduceCtorEq]
  · obtain ⟨σ', τ', e3, e4, hr⟩ := fd0 hR
    refine ⟨ii (-1000000001), σ', τ', ?_, ?_, _, hr⟩
    · unfold fX7_thin fX7_thin_0 fX7_thin_9
      by_cases k1 : w < 0
      · simp (disch := omega) only [e3, if_true, if_false, Option.bind_some, Option.map_some, ii_lit, ll_lit, ii_neg, ll_neg, ii_add, ii_sub, ii_mul, ll_add, ll_sub, ll_mul, ii_le, ii_lt, ii_eq, ii_t, bi_0, bi_1, rd_z, wr_z, rr_z, rl_z, wl_z, tn_n, st_s, st_j, st_i, st_c, st_2, sl_s, sl_j, sl_i, sl_c, sl_1, Int.natCast_add, Int.cast_ofNat_Int, if_pos, if_neg, decide_eq_false_iff_not, decide_eq_true_eq, in_ll, ii_long, Nat.zero_add, Nat.mul_zero, reduceCtorEq]
      · simp (disch := omega) only [e3, if_true, if_false, Option.bind_some, Option.map_some, ii_lit, ll_lit, ii_neg, ll_neg, ii_add, ii_sub, ii_mul, ll_add, ll_sub, ll_mul, ii_le, ii_lt, ii_eq, ii_t, bi_0, bi_1, rd_z, wr_z, rr_z, rl_z, wl_z, tn_n, st_s, st_j, st_i, st_c, st_2, sl_s, sl_j, sl_i, sl_c, sl_1, Int.natCast_add, Int.cast_ofNat_Int, if_pos, if_neg, decide_eq_false_iff_not, decide_eq_true_eq, in_ll, ii_long, Nat.zero_add, Nat.mul_zero, reduceCtorEq]
    · unfold fX8_thin fX8_thin_0
      simp (disch := omega) only [e4, if_true, if_false, Option.bind_some, Option.map_some, ii_lit, ll_lit, ii_neg, ll_neg, ii_add, ii_sub, ii_mul, ll_add, ll_sub, ll_mul, ii_le, ii_lt, ii_eq, ii_t, bi_0, bi_1, rd_z, wr_z, rr_z, rl_z, wl_z, tn_n, st_s, st_j, st_i, st_c, st_2, sl_s, sl_j, sl_i, sl_c, sl_1, Int.natCast_add, Int.cast_ofNat_Int, if_pos, if_neg, decide_eq_false_iff_not, decide_eq_true_eq, in_ll, ii_long, Nat.zero_add, Nat.mul_zero, reduceCtorEq]
