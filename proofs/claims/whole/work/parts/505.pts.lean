-- HOW MANY POINTS THE BOX HAS; letters, sides
theorem C_pwl {σ : mm} {b : Nat} {A : bdy} (hC : isC σ b A) {v : Nat} (hv : v ≤ 4) : fX0_pointsWithLetters b (ii v) σ = some (ii (prf (fun l => if l < A.n then wd A l else 4) v)) := by
  obtain ⟨⟨hn4, hR8⟩, hn, hR, hlo, hhi, -⟩ := hC
  unfold fX0_pointsWithLetters fX0_pointsWithLetters_0
  refine lp_f (fun k => (ii (prf (fun l => if l < A.n then wd A l else 4) k), ii k)) v rfl ?_ ?_
  · intro k hk
    by_cases h : k < A.n
    · simp (disch := omega) only [fX0_pointsWithLetters_4_L, fX0_pointsWithLetters_4, fX0_pointsWithLetters_37, hn, hlo, hhi, prf, wd, if_true, if_false, Option.bind_some, Option.map_some, ii_lit, ll_lit, ii_neg, ll_neg, ii_add, ii_sub, ii_mul, ll_add, ll_sub, ll_mul, ii_le, ii_lt, ii_eq, ii_t, bi_0, bi_1, rd_z, wr_z, rr_z, rl_z, wl_z, tn_n, st_s, st_j, st_i, st_c, st_2, sl_s, sl_j, sl_i, sl_c, sl_1, Int.natCast_add, Int.cast_ofNat_Int, if_pos, if_neg]
    · simp (disch := omega) only [fX0_pointsWithLetters_4_L, fX0_pointsWithLetters_4, fX0_pointsWithLetters_37, hn, hlo, hhi, prf, if_true, if_false, Option.bind_some, Option.map_some, ii_lit, ll_lit, ii_neg, ll_neg, ii_add, ii_sub, ii_mul, ll_add, ll_sub, ll_mul, ii_le, ii_lt, ii_eq, ii_t, bi_0, bi_1, rd_z, wr_z, rr_z, rl_z, wl_z, tn_n, st_s, st_j, st_i, st_c, st_2, sl_s, sl_j, sl_i, sl_c, sl_1, Int.natCast_add, Int.cast_ofNat_Int, if_pos, if_neg]
  · simp (disch := omega) only [fX0_pointsWithLetters_4_L, fX0_pointsWithLetters_4, if_true, if_false, Option.bind_some, Option.map_some, ii_lit, ll_lit, ii_neg, ll_neg, ii_add, ii_sub, ii_mul, ll_add, ll_sub, ll_mul, ii_le, ii_lt, ii_eq, ii_t, bi_0, bi_1, rd_z, wr_z, rr_z, rl_z, wl_z, tn_n, st_s, st_j, st_i, st_c, st_2, sl_s, sl_j, sl_i, sl_c, sl_1, Int.natCast_add, Int.cast_ofNat_Int, if_pos, if_neg]
theorem C_points {σ : mm} {b : Nat} {A : bdy} (hC : isC σ b A) : fX0_points b σ = some (ii (pts A)) := by
  unfold fX0_points fX0_points_0
  rw [hC.2.1, C_pwl hC hC.1.1, prf_c (g := wd A) (fun k hk => if_pos hk)]
  rfl
theorem C_pws {σ : mm} {b : Nat} {A : bdy} (hC : isC σ b A) (l : Nat) (hl : l < 4) (x y : Int) : fX0_pointsWithSide b (ii l) (ii x) (ii y) σ = some (ii (prf (fun j => if j = l then y - x + 1 else wd A j) A.n)) := by
  obtain ⟨⟨hn4, hR8⟩, hn, hR, hlo, hhi, -⟩ := hC
  unfold fX0_pointsWithSide fX0_pointsWithSide_0
  refine lp_f (fun k => (ii (prf (fun j => if j = l then y - x + 1 else wd A j) k), ii k)) A.n rfl ?_ ?_
  · intro k hk
    by_cases h : k = l
    · subst h
      simp (disch := omega) only [fX0_pointsWithSide_6_L, fX0_pointsWithSide_6, fX0_pointsWithSide_48, hn, hlo, hhi, prf, if_true, if_false, Option.bind_some, Option.map_some, ii_lit, ll_lit, ii_neg, ll_neg, ii_add, ii_sub, ii_mul, ll_add, ll_sub, ll_mul, ii_le, ii_lt, ii_eq, ii_t, bi_0, bi_1, rd_z, wr_z, rr_z, rl_z, wl_z, tn_n, st_s, st_j, st_i, st_c, st_2, sl_s, sl_j, sl_i, sl_c, sl_1, Int.natCast_add, Int.cast_ofNat_Int, if_pos, if_neg]
    · simp (disch := omega) only [fX0_pointsWithSide_6_L, fX0_pointsWithSide_6, fX0_pointsWithSide_48, hn, hlo, hhi, prf, wd, if_true, if_false, Option.bind_some, Option.map_some, ii_lit, ll_lit, ii_neg, ll_neg, ii_add, ii_sub, ii_mul, ll_add, ll_sub, ll_mul, ii_le, ii_lt, ii_eq, ii_t, bi_0, bi_1, rd_z, wr_z, rr_z, rl_z, wl_z, tn_n, st_s, st_j, st_i, st_c, st_2, sl_s, sl_j, sl_i, sl_c, sl_1, Int.natCast_add, Int.cast_ofNat_Int, if_pos, if_neg]
  · simp (disch := omega) only [fX0_pointsWithSide_6_L, fX0_pointsWithSide_6, hn, if_true, if_false, Option.bind_some, Option.map_some, ii_lit, ll_lit, ii_neg, ll_neg, ii_add, ii_sub, ii_mul, ll_add, ll_sub, ll_mul, ii_le, ii_lt, ii_eq, ii_t, bi_0, bi_1, rd_z, wr_z, rr_z, rl_z, wl_z, tn_n, st_s, st_j, st_i, st_c, st_2, sl_s, sl_j, sl_i, sl_c, sl_1, Int.natCast_add, Int.cast_ofNat_Int, if_pos, if_neg]
theorem M_points {τ : mm} {A : bdy} (hM : isM τ A) : fX8_points τ = some (ii (pts A)) := by
  obtain ⟨⟨hn4, hR8⟩, hn, hR, hlo, hhi, -⟩ := hM
  unfold fX8_points fX8_points_0
  refine lp_f (fun k => (ii (prf (wd A) k), ii k)) A.n rfl ?_ ?_
  · intro k hk
    simp (disch := omega) only [fX8_points_4_L, fX8_points_4, hn, hlo, hhi, prf, wd, if_true, if_false, Option.bind_some, Option.map_some, ii_lit, ll_lit, ii_neg, ll_neg, ii_add, ii_sub, ii_mul, ll_add, ll_sub, ll_mul, ii_le, ii_lt, ii_eq, ii_t, bi_0, bi_1, rd_z, wr_z, rr_z, rl_z, wl_z, tn_n, st_s, st_j, st_i, st_c, st_2, sl_s, sl_j, sl_i, sl_c, sl_1, Int.natCast_add, Int.cast_ofNat_Int, if_pos, if_neg]
  · simp (disch := omega) only [fX8_points_4_L, fX8_points_4, hn, pts, if_true, if_false, Option.bind_some, Option.map_some, ii_lit, ll_lit, ii_neg, ll_neg, ii_add, ii_sub, ii_mul, ll_add, ll_sub, ll_mul, ii_le, ii_lt, ii_eq, ii_t, bi_0, bi_1, rd_z, wr_z, rr_z, rl_z, wl_z, tn_n, st_s, st_j, st_i, st_c, st_2, sl_s, sl_j, sl_i, sl_c, sl_1, Int.natCast_add, Int.cast_ofNat_Int, if_pos, if_neg]
theorem M_at {τ : mm} {A : bdy} (hM : isM τ A) {r : Nat} (hr : r < A.R) {x : Int} (h0 : 0 ≤ x) (h1 : x < 7) : fX8_at (ii r) (ii x) τ = some (ii (A.rw r x.toNat)) := by
  obtain ⟨⟨hn4, hR8⟩, hn, hR, hlo, hhi, hrw, -⟩ := hM
  unfold fX8_at fX8_at_0
  simp (disch := omega) only [if_true, if_false, Option.bind_some, Option.map_some, ii_lit, ll_lit, ii_neg, ll_neg, ii_add, ii_sub, ii_mul, ll_add, ll_sub, ll_mul, ii_le, ii_lt, ii_eq, ii_t, bi_0, bi_1, rd_z, wr_z, rr_z, rl_z, wl_z, tn_n, st_s, st_j, st_i, st_c, st_2, sl_s, sl_j, sl_i, sl_c, sl_1, Int.natCast_add, Int.cast_ofNat_Int, if_pos, if_neg]
  rw [← hrw r x.toNat hr (by omega), show (7 * (r : Int) + x).toNat = 7 * r + x.toNat by omega]
theorem prf_one {f : Nat → Int} {n l : Nat} (hl : l < n) (c : Int) : prf (fun j => if j = l then c else f j) n = c * prf (fun j => if j = l then 1 else f j) n := by
  induction n with
  | zero => omega
  | succ n ih =>
    rw [prf, prf]
    by_cases h : l = n
    · subst h
      rw [if_pos rfl, if_pos rfl, prf_c (f := fun j => if j = l then c else f j) (g := f) (fun k hk => if_neg (by omega)), prf_c (f := fun j => if j = l then 1 else f j) (g := f) (fun k hk => if_neg (by omega)), Int.mul_one, Int.mul_comm]
    · rw [if_neg (by omega), if_neg (by omega), ih (by omega), Int.mul_assoc]
theorem pts_setS (A : bdy) {l : Nat} (x y : Int) : pts (A.setS l x y) = prf (fun j => if j = l then y - x + 1 else wd A j) A.n := by
  unfold pts
  refine prf_c (fun k hk => ?_)
  show up1 A.hi l y k - up1 A.lo l x k + 1 = _
  unfold up1
  by_cases h : k = l
  · rw [if_pos h, if_pos h, if_pos h]
  · rw [if_neg h, if_neg h, if_neg h]
    rfl
theorem pts_div {A : bdy} (hA : okb A) {l : Nat} (hl : l < A.n) (x y : Int) : pts A / wd A l * (y - x + 1) = pts (A.setS l x y) := by
  have hw := (hA.wdr (l := l) (by have := hA.1; omega)).1
  have e : pts A = wd A l * prf (fun j => if j = l then 1 else wd A j) A.n := by
    rw [← prf_one hl]
    refine prf_c (fun k hk => ?_)
    split
    · rename_i h
      rw [h]
    · rfl
  rw [e, Int.mul_ediv_cancel_left _ (by omega), pts_setS, prf_one hl (y - x + 1), Int.mul_comm]
theorem pts_setS_r {A : bdy} (hA : okb A) {l : Nat} {x y : Int} (h1 : -9 ≤ x) (h2 : x ≤ y) (h3 : y ≤ 9) : 1 ≤ pts (A.setS l x y) ∧ pts (A.setS l x y) ≤ 130321 := by
  have hn := hA.1
  rw [pts_setS]
  have hb : ∀ k, k < A.n → 1 ≤ (fun j => if j = l then y - x + 1 else wd A j) k ∧ (fun j => if j = l then y - x + 1 else wd A j) k ≤ (19 : Nat) := by
    intro k hk
    have := hA.wdr (l := k) (by omega)
    show 1 ≤ (if k = l then y - x + 1 else wd A k) ∧ (if k = l then y - x + 1 else wd A k) ≤ (19 : Nat)
    split <;> omega
  refine ⟨prf_pos (fun k hk => (hb k hk).1), ?_⟩
  have h4 := prf_le hb
  have h5 : (19 : Nat) ^ A.n ≤ 19 ^ 4 := Nat.pow_le_pow_right (by decide) hn.2
  omega
theorem M_hasBox {τ : mm} {A : bdy} (hM : isM τ A) (hA : okb A) {l : Nat} (hl : l < A.n) {x y : Int} (h1 : -9 ≤ x) (h2 : x ≤ y) (h3 : y ≤ 9) : fX8_hasBox (ii l) (ii x) (ii y) τ = if pts (A.setS l x y) ≤ 4096 then some (true, stI (stI τ 42 0 l (ii x)) 43 0 l (ii y)) else some (false, τ) := by
  have hp := M_points hM
  have hn := hA.1
  have hw := hA.wdr (l := l) (by omega)
  have hp1 := hA.p1
  have hp4 := hA.2.2.2.2.2
  have hd := pts_div hA hl x y
  have hr := pts_setS_r hA (l := l) h1 h2 h3
  obtain ⟨-, -, -, hlo, hhi, -⟩ := hM
  have e : A.hi l - A.lo l + 1 = wd A l := rfl
  unfold fX8_hasBox fX8_hasBox_0
  rw [hp]
  simp (disch := omega) only [hlo, hhi, e, dv_nn, hd, if_true, if_false, Option.bind_some, Option.map_some, ii_lit, ll_lit, ii_neg, ll_neg, ii_add, ii_sub, ii_mul, ll_add, ll_sub, ll_mul, ii_le, ii_lt, ii_eq, ii_t, bi_0, bi_1, rd_z, wr_z, rr_z, rl_z, wl_z, tn_n, st_s, st_j, st_i, st_c, st_2, sl_s, sl_j, sl_i, sl_c, sl_1, Int.natCast_add, Int.cast_ofNat_Int, if_pos, if_neg]
theorem isC.setS {σ : mm} {b : Nat} {A : bdy} (hC : isC σ b A) {l : Nat} (hl : l < 4) (x y : Int) : ∃ σ', fX0_setSide b (ii l) (ii x) (ii y) σ = some σ' ∧ isC σ' b (A.setS l x y) ∧ Fb b σ σ' := by
  refine ⟨stI (stI σ 8 b l (ii x)) 9 b l (ii y), ?_, ?_, ?_⟩
  · unfold fX0_setSide fX0_setSide_0
    simp (disch := omega) only [if_true, if_false, Option.bind_some, Option.map_some, ii_lit, ll_lit, ii_neg, ll_neg, ii_add, ii_sub, ii_mul, ll_add, ll_sub, ll_mul, ii_le, ii_lt, ii_eq, ii_t, bi_0, bi_1, rd_z, wr_z, rr_z, rl_z, wl_z, tn_n, st_s, st_j, st_i, st_c, st_2, sl_s, sl_j, sl_i, sl_c, sl_1, Int.natCast_add, Int.cast_ofNat_Int, if_pos, if_neg]
  · obtain ⟨h0, h1, h2, h3, h4, h5, h6, h7⟩ := hC
    refine ⟨h0, ?_, ?_, ?_, ?_, ?_, ?_, ?_⟩
    · simp (disch := omega) only [if_true, if_false, Option.bind_some, Option.map_some, ii_lit, ll_lit, ii_neg, ll_neg, ii_add, ii_sub, ii_mul, ll_add, ll_sub, ll_mul, ii_le, ii_lt, ii_eq, ii_t, bi_0, bi_1, rd_z, wr_z, rr_z, rl_z, wl_z, tn_n, st_s, st_j, st_i, st_c, st_2, sl_s, sl_j, sl_i, sl_c, sl_1, Int.natCast_add, Int.cast_ofNat_Int, if_pos, if_neg]; exact h1
    · simp (disch := omega) only [if_true, if_false, Option.bind_some, Option.map_some, ii_lit, ll_lit, ii_neg, ll_neg, ii_add, ii_sub, ii_mul, ll_add, ll_sub, ll_mul, ii_le, ii_lt, ii_eq, ii_t, bi_0, bi_1, rd_z, wr_z, rr_z, rl_z, wl_z, tn_n, st_s, st_j, st_i, st_c, st_2, sl_s, sl_j, sl_i, sl_c, sl_1, Int.natCast_add, Int.cast_ofNat_Int, if_pos, if_neg]; exact h2
    · intro k hk
      simp (disch := omega) only [if_true, if_false, Option.bind_some, Option.map_some, ii_lit, ll_lit, ii_neg, ll_neg, ii_add, ii_sub, ii_mul, ll_add, ll_sub, ll_mul, ii_le, ii_lt, ii_eq, ii_t, bi_0, bi_1, rd_z, wr_z, rr_z, rl_z, wl_z, tn_n, st_s, st_j, st_i, st_c, st_2, sl_s, sl_j, sl_i, sl_c, sl_1, Int.natCast_add, Int.cast_ofNat_Int, if_pos, if_neg]
      rw [g_cell]
      show up1 (σ.1 8 b) l (ii x) k = ii (up1 A.lo l x k)
      unfold up1
      split
      · rfl
      · exact h3 k hk
    · intro k hk
      rw [g_cell]
      simp (disch := omega) only [if_true, if_false, Option.bind_some, Option.map_some, ii_lit, ll_lit, ii_neg, ll_neg, ii_add, ii_sub, ii_mul, ll_add, ll_sub, ll_mul, ii_le, ii_lt, ii_eq, ii_t, bi_0, bi_1, rd_z, wr_z, rr_z, rl_z, wl_z, tn_n, st_s, st_j, st_i, st_c, st_2, sl_s, sl_j, sl_i, sl_c, sl_1, Int.natCast_add, Int.cast_ofNat_Int, if_pos, if_neg]
      show up1 (σ.1 9 b) l (ii y) k = ii (up1 A.hi l y k)
      unfold up1
      split
      · rfl
      · exact h4 k hk
    · intro r w hr hw
      simp (disch := omega) only [if_true, if_false, Option.bind_some, Option.map_some, ii_lit, ll_lit, ii_neg, ll_neg, ii_add, ii_sub, ii_mul, ll_add, ll_sub, ll_mul, ii_le, ii_lt, ii_eq, ii_t, bi_0, bi_1, rd_z, wr_z, rr_z, rl_z, wl_z, tn_n, st_s, st_j, st_i, st_c, st_2, sl_s, sl_j, sl_i, sl_c, sl_1, Int.natCast_add, Int.cast_ofNat_Int, if_pos, if_neg]
      exact h5 r w hr hw
    · intro r w hr hw
      simp (disch := omega) only [if_true, if_false, Option.bind_some, Option.map_some, ii_lit, ll_lit, ii_neg, ll_neg, ii_add, ii_sub, ii_mul, ll_add, ll_sub, ll_mul, ii_le, ii_lt, ii_eq, ii_t, bi_0, bi_1, rd_z, wr_z, rr_z, rl_z, wl_z, tn_n, st_s, st_j, st_i, st_c, st_2, sl_s, sl_j, sl_i, sl_c, sl_1, Int.natCast_add, Int.cast_ofNat_Int, if_pos, if_neg]
      exact h6 r w hr hw
    · intro r w hr hw
      simp (disch := omega) only [if_true, if_false, Option.bind_some, Option.map_some, ii_lit, ll_lit, ii_neg, ll_neg, ii_add, ii_sub, ii_mul, ll_add, ll_sub, ll_mul, ii_le, ii_lt, ii_eq, ii_t, bi_0, bi_1, rd_z, wr_z, rr_z, rl_z, wl_z, tn_n, st_s, st_j, st_i, st_c, st_2, sl_s, sl_j, sl_i, sl_c, sl_1, Int.natCast_add, Int.cast_ofNat_Int, if_pos, if_neg]
      exact h7 r w hr hw
  · exact ((Fb.rf b σ).sI (Or.inl ⟨by omega, rfl⟩)).sI (Or.inl ⟨by omega, rfl⟩)
theorem isM.setS {τ : mm} {A : bdy} (hM : isM τ A) {l : Nat} (hl : l < 4) (x y : Int) : isM (stI (stI τ 42 0 l (ii x)) 43 0 l (ii y)) (A.setS l x y) := by
  obtain ⟨h0, h1, h2, h3, h4, h5, h6⟩ := hM
  refine ⟨h0, ?_, ?_, ?_, ?_, ?_, ?_⟩
  · simp (disch := omega) only [if_true, if_false, Option.bind_some, Option.map_some, ii_lit, ll_lit, ii_neg, ll_neg, ii_add, ii_sub, ii_mul, ll_add, ll_sub, ll_mul, ii_le, ii_lt, ii_eq, ii_t, bi_0, bi_1, rd_z, wr_z, rr_z, rl_z, wl_z, tn_n, st_s, st_j, st_i, st_c, st_2, sl_s, sl_j, sl_i, sl_c, sl_1, Int.natCast_add, Int.cast_ofNat_Int, if_pos, if_neg]; exact h1
  · simp (disch := omega) only [if_true, if_false, Option.bind_some, Option.map_some, ii_lit, ll_lit, ii_neg, ll_neg, ii_add, ii_sub, ii_mul, ll_add, ll_sub, ll_mul, ii_le, ii_lt, ii_eq, ii_t, bi_0, bi_1, rd_z, wr_z, rr_z, rl_z, wl_z, tn_n, st_s, st_j, st_i, st_c, st_2, sl_s, sl_j, sl_i, sl_c, sl_1, Int.natCast_add, Int.cast_ofNat_Int, if_pos, if_neg]; exact h2
  · intro k hk
    simp (disch := omega) only [if_true, if_false, Option.bind_some, Option.map_some, ii_lit, ll_lit, ii_neg, ll_neg, ii_add, ii_sub, ii_mul, ll_add, ll_sub, ll_mul, ii_le, ii_lt, ii_eq, ii_t, bi_0, bi_1, rd_z, wr_z, rr_z, rl_z, wl_z, tn_n, st_s, st_j, st_i, st_c, st_2, sl_s, sl_j, sl_i, sl_c, sl_1, Int.natCast_add, Int.cast_ofNat_Int, if_pos, if_neg]
    rw [g_cell]
    show up1 (τ.1 42 0) l (ii x) k = ii (up1 A.lo l x k)
    unfold up1
    split
    · rfl
    · exact h3 k hk
  · intro k hk
    rw [g_cell]
    simp (disch := omega) only [if_true, if_false, Option.bind_some, Option.map_some, ii_lit, ll_lit, ii_neg, ll_neg, ii_add, ii_sub, ii_mul, ll_add, ll_sub, ll_mul, ii_le, ii_lt, ii_eq, ii_t, bi_0, bi_1, rd_z, wr_z, rr_z, rl_z, wl_z, tn_n, st_s, st_j, st_i, st_c, st_2, sl_s, sl_j, sl_i, sl_c, sl_1, Int.natCast_add, Int.cast_ofNat_Int, if_pos, if_neg]
    show up1 (τ.1 43 0) l (ii y) k = ii (up1 A.hi l y k)
    unfold up1
    split
    · rfl
    · exact h4 k hk
  · intro r w hr hw
    simp (disch := omega) only [if_true, if_false, Option.bind_some, Option.map_some, ii_lit, ll_lit, ii_neg, ll_neg, ii_add, ii_sub, ii_mul, ll_add, ll_sub, ll_mul, ii_le, ii_lt, ii_eq, ii_t, bi_0, bi_1, rd_z, wr_z, rr_z, rl_z, wl_z, tn_n, st_s, st_j, st_i, st_c, st_2, sl_s, sl_j, sl_i, sl_c, sl_1, Int.natCast_add, Int.cast_ofNat_Int, if_pos, if_neg]
    exact h5 r w hr hw
  · intro r w hr hw
    simp (disch := omega) only [if_true, if_false, Option.bind_some, Option.map_some, ii_lit, ll_lit, ii_neg, ll_neg, ii_add, ii_sub, ii_mul, ll_add, ll_sub, ll_mul, ii_le, ii_lt, ii_eq, ii_t, bi_0, bi_1, rd_z, wr_z, rr_z, rl_z, wl_z, tn_n, st_s, st_j, st_i, st_c, st_2, sl_s, sl_j, sl_i, sl_c, sl_1, Int.natCast_add, Int.cast_ofNat_Int, if_pos, if_neg]
    exact h6 r w hr hw
theorem okb.setS {A : bdy} (hA : okb A) {l : Nat} {x y : Int} (h1 : -9 ≤ x) (h2 : x ≤ y) (h3 : y ≤ 9) (h4 : pts (A.setS l x y) ≤ 4096) : okb (A.setS l x y) := by
  obtain ⟨a, b, c, d, e, f⟩ := hA
  refine ⟨a, b, ?_, d, e, h4⟩
  intro k hk
  have := c k hk
  show -9 ≤ up1 A.lo l x k ∧ up1 A.lo l x k ≤ up1 A.hi l y k ∧ up1 A.hi l y k ≤ 9
  unfold up1
  split <;> omega
