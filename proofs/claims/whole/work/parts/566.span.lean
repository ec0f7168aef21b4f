-- WHAT THE ROWS SPAN; both forms are one
def sp (n : Nat) (F : mat) (x : Nat → Int) : Prop := ∃ a : Nat → Int, (∀ k, n ≤ k → a k = 0) ∧ ∀ l, x l = a 0 * F 0 l + a 1 * F 1 l + a 2 * F 2 l + a 3 * F 3 l
theorem sp_c {n : Nat} {F : mat} {x y : Nat → Int} (h : sp n F x) (e : ∀ l, y l = x l) : sp n F y := by
  obtain ⟨a, h1, h2⟩ := h
  exact ⟨a, h1, fun l => (e l).trans (h2 l)⟩
theorem sp_0 (n : Nat) (F : mat) : sp n F (fun _ => 0) := ⟨fun _ => 0, fun _ _ => rfl, fun l => by simp⟩
theorem sp_i {n i : Nat} (F : mat) (hi : i < n) (hn : n ≤ 4) : sp n F (F i) := by
  refine ⟨fun k => if k = i then 1 else 0, fun k hk => if_neg (by omega), fun l => ?_⟩
  have hq : i = 0 ∨ i = 1 ∨ i = 2 ∨ i = 3 := by omega
  rcases hq with rfl | rfl | rfl | rfl <;> simp
theorem sp_l {n : Nat} {F : mat} {x y : Nat → Int} (p q : Int) (hx : sp n F x) (hy : sp n F y) : sp n F (fun l => p * x l + q * y l) := by
  obtain ⟨a, a1, a2⟩ := hx
  obtain ⟨b, b1, b2⟩ := hy
  refine ⟨fun k => p * a k + q * b k, fun k hk => ?_, fun l => ?_⟩
  · show p * a k + q * b k = 0
    rw [a1 k hk, b1 k hk]
    simp
  · simp only [a2 l, b2 l]
    grind
theorem sp_s {n : Nat} {F : mat} {x : Nat → Int} {t : Int} (h : t = 0 ∨ sp n F x) : sp n F (fun l => t * x l) := by
  rcases h with rfl | h
  · exact sp_c (sp_0 n F) (fun l => Int.zero_mul _)
  · exact sp_c (sp_l t 0 h h) (fun l => by simp)
theorem sp_4 {n : Nat} {F G : mat} {t : Nat → Int} (h : ∀ k, k < 4 → t k = 0 ∨ sp n F (G k)) : sp n F (fun l => t 0 * G 0 l + t 1 * G 1 l + t 2 * G 2 l + t 3 * G 3 l) := by
  have h0 := sp_s (h 0 (by omega))
  have h1 := sp_s (h 1 (by omega))
  have h2 := sp_s (h 2 (by omega))
  have h3 := sp_s (h 3 (by omega))
  refine sp_c (sp_l 1 1 (sp_l 1 1 (sp_l 1 1 h0 h1) h2) h3) (fun l => ?_)
  simp
theorem sp_t {n : Nat} {F G : mat} {x : Nat → Int} (h : ∀ i, i < n → sp n G (F i)) (hx : sp n F x) : sp n G x := by
  obtain ⟨a, a1, a2⟩ := hx
  refine sp_c (sp_4 (t := a) (G := F) (fun k _ => ?_)) a2
  by_cases g : k < n
  · exact Or.inr (h k g)
  · exact Or.inl (a1 k (by omega))
theorem sp_pr {n c r : Nat} {M M' : mat} {s : Int} (h : Pr c r M M' s) (hc : c < n) (hr : r < n) (hn : n ≤ 4) (i : Nat) (hi : i < n) : sp n M' (M i) := by
  obtain ⟨h1, ⟨a, b, e, f, h2, h3, h4⟩, -⟩ := h
  by_cases g1 : i = c
  · rw [g1]
    exact sp_c (sp_l a b (sp_i M' hc hn) (sp_i M' hr hn)) h2
  · by_cases g2 : i = r
    · rw [g2]
      exact sp_c (sp_l e f (sp_i M' hc hn) (sp_i M' hr hn)) h3
    · exact sp_c (sp_i M' hi hn) (fun l => (h1 i l g1 g2).symm)
theorem sp_col {n c : Nat} {M : mat} (hL : Leg n c M) (hn : n ≤ 4) : ∀ m, c + m < n → ∀ i, i < n → sp n (colm c m M) (M i) := by
  intro m
  induction m with
  | zero => intro _ i hi; exact sp_i M hi hn
  | succ m ih =>
    intro hm i hi
    exact sp_t (fun j hj => sp_pr (hL.pr (m := m) (by omega)) (by omega) (by omega) hn j hj) (ih (by omega) i hi)
theorem sp_neg {n c : Nat} {M : mat} (hc : c < n) (hn : n ≤ 4) (i : Nat) (hi : i < n) : sp n (negm c M) (M i) := by
  by_cases g : i = c
  · subst g
    refine sp_c (sp_s (t := negs i M) (Or.inr (sp_i (negm i M) hi hn))) (fun l => ?_)
    simp only [neg_c]
    rcases negs_1 i M with h | h <;> rw [h] <;> omega
  · exact sp_c (sp_i (negm c M) hi hn) (fun l => (neg_o g M l).symm)
theorem sp_tri {n : Nat} {M : mat} (hn : n ≤ 4) (h : ∀ i l, (M i l).natAbs ≤ 4) (hK : KS n 0 M) : ∀ c, c ≤ n → (∀ i, i < c → pvt n i M ≠ 0) → ∀ i, i < n → sp n (trm n c M) (M i) := by
  intro c
  induction c with
  | zero => intro _ _ i hi; exact sp_i M hi hn
  | succ c ih =>
    intro hc hp i hi
    obtain ⟨t1, t2⟩ := tri hn h hK c (by omega) (fun i hi => hp i (by omega))
    have hL := t2.L t1 (by omega) hn
    have s1 := ih (by omega) (fun i hi => hp i (by omega)) i hi
    exact sp_t (fun j hj => sp_neg (c := c) (by omega) hn j hj) (sp_t (fun j hj => sp_col hL hn (n - 1 - c) (by omega) j hj) s1)
theorem sp_red {n : Nat} {U F : mat} (hn : n ≤ 4) (hF : redP n U F) : ∀ d i, i < n → n ≤ i + d + 1 → sp n F (U i) := by
  intro d
  induction d with
  | zero =>
    intro i hi h1
    obtain ⟨⟨t, t1, t2, t3⟩, -⟩ := hF i hi
    have z : ∀ k, t k = 0 := fun k => by
      by_cases g : k ≤ i
      · exact t1 k g
      · exact t2 k (by omega)
    refine sp_c (sp_i F hi hn) (fun l => ?_)
    rw [t3 l, z, z, z, z]
    simp
  | succ d ih =>
    intro i hi h1
    obtain ⟨⟨t, t1, t2, t3⟩, -⟩ := hF i hi
    have q := sp_4 (n := n) (F := F) (G := U) (t := t) (fun k _ => by
      by_cases g : k ≤ i
      · exact Or.inl (t1 k g)
      · by_cases g2 : n ≤ k
        · exact Or.inl (t2 k g2)
        · exact Or.inr (ih k (by omega) (by omega)))
    refine sp_c (sp_l 1 (-1) (sp_i F hi hn) q) (fun l => ?_)
    simp only [t3 l]
    grind
-- no base vector is 0
def exm (n : Nat) (M : mat) : mat := fun i l => if i < n then M i l else if i = l then 1 else 0
theorem exm_i {n i : Nat} (h : i < n) (M : mat) (l : Nat) : exm n M i l = M i l := if_pos h
theorem exm_pr {n c r : Nat} {M M' : mat} {s : Int} (h : Pr c r M M' s) (hc : c < n) (hr : r < n) : Pr c r (exm n M) (exm n M') s := by
  obtain ⟨h1, h2, h3⟩ := h
  unfold Pr
  simp only [exm_i hc, exm_i hr]
  refine ⟨fun i l q1 q2 => ?_, h2, h3⟩
  unfold exm
  split
  · exact h1 i l q1 q2
  · rfl
theorem exm_neg {n c : Nat} (hc : c < n) (M : mat) : exm n (negm c M) = negm c (exm n M) := by
  unfold negm
  rw [exm_i hc]
  by_cases g : M c c < 0
  · rw [if_pos g, if_pos g]
    funext i l
    unfold rop
    by_cases g1 : i = c
    · subst g1
      rw [exm_i hc, if_pos rfl, if_pos rfl, exm_i hc]
    · rw [if_neg g1]
      unfold exm
      by_cases g2 : i < n
      · simp only [if_pos g2, if_neg g1]
      · rw [if_neg g2, if_neg g2]
  · rw [if_neg g, if_neg g]
theorem exm_col {n c : Nat} {M : mat} (hL : Leg n c M) (hn : n ≤ 4) : ∀ m, c + m < n → (dd4 (exm n (colm c m M))).natAbs = (dd4 (exm n M)).natAbs := by
  intro m
  induction m with
  | zero => intro _; rfl
  | succ m ih =>
    intro hm
    rw [← ih (by omega)]
    exact (sn (sgn_1 _) (d4_pr (exm_pr (hL.pr (m := m) (by omega)) (by omega) (by omega)) (by omega) (by omega))).symm
theorem exm_tri {n : Nat} {M : mat} (hn : n ≤ 4) (h : ∀ i l, (M i l).natAbs ≤ 4) (hK : KS n 0 M) : ∀ c, c ≤ n → (∀ i, i < c → pvt n i M ≠ 0) → (dd4 (exm n (trm n c M))).natAbs = (dd4 (exm n M)).natAbs := by
  intro c
  induction c with
  | zero => intro _ _; rfl
  | succ c ih =>
    intro hc hp
    obtain ⟨t1, t2⟩ := tri hn h hK c (by omega) (fun i hi => hp i (by omega))
    have hL := t2.L t1 (by omega) hn
    rw [← ih (by omega) (fun i hi => hp i (by omega)), ← exm_col hL hn (n - 1 - c) (by omega)]
    show (dd4 (exm n (negm c (colm c (n - 1 - c) (trm n c M))))).natAbs = _
    rw [exm_neg (by omega), d4_neg (by omega)]
theorem exm_pos {n : Nat} {U : mat} (hT : TT n U) : 0 < dd4 (exm n U) := by
  have z : ∀ i l, l < i → exm n U i l = 0 := fun i l hl => by
    unfold exm
    split
    · exact hT.2.1 i l hl
    · rw [if_neg (by omega)]
  have p : ∀ i, 0 < exm n U i i := fun i => by
    unfold exm
    split
    · exact hT.1 i (by assumption)
    · rw [if_pos rfl]; decide
  have e : dd4 (exm n U) = exm n U 0 0 * exm n U 1 1 * (exm n U 2 2 * exm n U 3 3) := by
    unfold dd4 d4 m3
    rw [z 1 0 (by omega), z 2 0 (by omega), z 2 1 (by omega), z 3 0 (by omega), z 3 1 (by omega), z 3 2 (by omega)]
    grind
  rw [e]
  exact Int.mul_pos (Int.mul_pos (p 0) (p 1)) (Int.mul_pos (p 2) (p 3))
theorem d4_zero {M : mat} {v : Nat} (hv : v < 4) (h : ∀ l, M v l = 0) : dd4 M = 0 := by
  have hq : v = 0 ∨ v = 1 ∨ v = 2 ∨ v = 3 := by omega
  unfold dd4 d4 m3
  rcases hq with rfl | rfl | rfl | rfl
  · rw [h, h, h, h]
    grind
  · rw [h, h, h, h]
    grind
  · rw [h, h, h, h]
    grind
  · rw [h, h, h, h]
    grind
theorem vm_nz {A : bdy} (hA : okb A) (hp : ∀ i, i < A.n → pvt A.n i (vm A) ≠ 0) {v : Nat} (hv : v < A.n) : ¬ ∀ l, l < A.n → vm A v l = 0 := by
  intro h
  have hn1 := hA.1
  obtain ⟨t1, t2⟩ := tri hn1.2 (vm_b hA) (vm_K hA) A.n (Nat.le_refl _) hp
  have e := exm_tri hn1.2 (vm_b hA) (vm_K hA) A.n (Nat.le_refl _) hp
  have q := exm_pos t1.tt
  have z : dd4 (exm A.n (vm A)) = 0 := d4_zero (v := v) (by omega) (fun l => by
    rw [exm_i hv]
    by_cases g : l < A.n
    · exact h l g
    · exact (vm_K hA).2.2.2.1 v l (by omega))
  rw [z] at e
  omega
/-- a form that stands -/
def okF (A : bdy) (F : mat) : Prop := (∀ i, i < A.n → 0 < F i i) ∧ (∀ i l, i < A.n → (F i l).natAbs ≤ 16544) ∧ (∀ i l, i < A.n → l < i → F i l = 0) ∧ (∀ i l, i < l → l < A.n → 0 ≤ F i l ∧ F i l < F l l) ∧ ∀ v, v < A.n → sp A.n F (vm A v) ∧ ¬ ∀ l, l < A.n → vm A v l = 0
theorem red_ok {A : bdy} {F : mat} (hA : okb A) (hp : ∀ i, i < A.n → pvt A.n i (vm A) ≠ 0) (hF : redP A.n (trm A.n A.n (vm A)) F) : okF A F := by
  have hn1 := hA.1
  obtain ⟨t1, t2⟩ := tri hn1.2 (vm_b hA) (vm_K hA) A.n (Nat.le_refl _) hp
  have hT := t1.tt
  have h3 := t2.b3 (by omega)
  have e := fun i (hi : i < A.n) => rdw_l hT (hF i hi).1
  refine ⟨fun i hi => ?_, fun i l hi => ?_, fun i l hi hl => (e i hi).1 l hl, fun i l h1 h2 => ?_, fun v hv => ?_⟩
  · rw [(e i hi).2.1]
    exact hT.1 i hi
  · rcases Nat.lt_trichotomy l i with g | g | g
    · rw [(e i hi).1 l g]; decide
    · rw [g, (e i hi).2.1]
      exact h3.small (by omega) i
    · by_cases g' : l < A.n
      · have q1 := (hF i hi).2 l g g'
        have q2 := h3.small (r := l) (by omega) l
        omega
      · rw [(e i hi).2.2 l (by omega)]; decide
  · rw [(e l h2).2.1]
    exact (hF i (by omega)).2 l h1 h2
  · exact ⟨sp_t (fun j hj => sp_red hn1.2 hF A.n j hj (by omega)) (sp_tri hn1.2 (vm_b hA) (vm_K hA) A.n (Nat.le_refl _) hp v hv), vm_nz hA hp hv⟩
theorem both {σ τ : mm} {A : bdy} (hR : RelA σ τ A) : ∃ d σ' τ', fX2_makeForm 0 σ = some (d, σ') ∧ fX8_forms τ = some (d, τ') ∧ RelA σ' τ' A ∧ (d ≠ ii 0 → ∃ F, matC σ' A.n F ∧ matM τ' A.n F ∧ okF A F) ∧ Fr [2, 23] [] σ σ' ∧ Fr [63] [24] τ τ' := by
  obtain ⟨⟨hC, hM, hA⟩, -⟩ := id hR
  obtain ⟨d, σ', e1, c1, f1⟩ := C_makeForm hC hA
  obtain ⟨d', τ', e2, c2, f2⟩ := M_forms hM hA
  have hr := (hR.c (f1.mono (by decide) (by decide))).m (f2.mono (by decide) (by decide))
  rcases c1 with ⟨⟨c, hc, z⟩, rfl⟩ | ⟨hp, rfl, F, m1, r1⟩
  · rcases c2 with ⟨-, rfl⟩ | ⟨hp, -⟩
    · exact ⟨ii 0, σ', τ', e1, e2, hr, fun h => absurd rfl h, f1, f2⟩
    · exact absurd z (hp c hc)
  · rcases c2 with ⟨⟨c, hc, z⟩, -⟩ | ⟨-, rfl, G, m2, r2⟩
    · exact absurd z (hp c hc)
    · have hn1 := hA.1
      have hT := (tri hn1.2 (vm_b hA) (vm_K hA) A.n (Nat.le_refl _) hp).1.tt
      refine ⟨ii (dtv A.n A.n (vm A)), σ', τ', e1, e2, hr, fun _ => ⟨F, m1, ⟨m2.1, m2.2.1, fun i l hi hl => ?_⟩, red_ok hA hp r1⟩, f1, f2⟩
      rw [m2.2.2 i l hi hl, red_u hT r1 r2 hi l]
theorem m_det {σ τ : mm} (h : Rel σ τ) : Ag (fX7_det σ) (fX8_det τ) := by
  obtain ⟨A, hR⟩ := h
  obtain ⟨d, σ', τ', e1, e2, hr, -⟩ := both hR
  refine ⟨d, σ', τ', ?_, ?_, _, hr⟩
  · unfold fX7_det fX7_det_0
    rw [e1]
    rfl
  · unfold fX8_det fX8_det_0
    rw [e2]
    rfl
theorem m_form {σ τ : mm} (h : Rel σ τ) (v l : Int32) : Ag (fX7_form v l σ) (fX8_form v l τ) := by
  obtain ⟨A, hR⟩ := h
  obtain ⟨⟨hC, hM, hA⟩, -⟩ := id hR
  obtain ⟨v, rfl, h1, h2⟩ := ii_ex v
  obtain ⟨l, rfl, h3, h4⟩ := ii_ex l
  have c1 := C_hasLetter hC h1 h2
  have c2 := M_isLetter hM h1 h2
  have c3 := C_hasLetter hC h3 h4
  have c4 := M_isLetter hM h3 h4
  have hn1 := hA.1
  by_cases hv : (0 ≤ v ∧ v < A.n) ∧ 0 ≤ l ∧ l < A.n
  · obtain ⟨⟨v1, v2⟩, v3, v4⟩ := hv
    obtain ⟨v, rfl⟩ : ∃ k : Nat, v = k := ⟨v.toNat, by omega⟩
    obtain ⟨l, rfl⟩ : ∃ k : Nat, l = k := ⟨l.toNat, by omega⟩
    obtain ⟨d, σ1, τ1, e1, e2, hr, hF, -⟩ := both hR
    by_cases hd : d = ii 0
    · subst hd
      obtain ⟨σ', τ', e3, e4, hr'⟩ := fd3 hr
      refine ⟨ii (-1000000004), σ', τ', ?_, ?_, _, hr'⟩
      · unfold fX7_form fX7_form_0
        simp (disch := omega) only [c1, c3, e1, e3, if_true, if_false, Option.bind_some, Option.map_some, ii_lit, ll_lit, ii_neg, ll_neg, ii_add, ii_sub, ii_mul, ll_add, ll_sub, ll_mul, ii_le, ii_lt, ii_eq, ii_t, bi_0, bi_1, rd_z, wr_z, rr_z, rl_z, wl_z, tn_n, st_s, st_j, st_i, st_c, st_2, sl_s, sl_j, sl_i, sl_c, sl_1, Int.natCast_add, Int.cast_ofNat_Int, if_pos, if_neg, decide_eq_false_iff_not, decide_eq_true_eq, in_ll, ii_long, Nat.zero_add, Nat.mul_zero, reduceCtorEq]
      · unfold fX8_form fX8_form_0
        simp (disch := omega) only [c2, c4, e2, e4, if_true, if_false, Option.bind_some, Option.map_some, ii_lit, ll_lit, ii_neg, ll_neg, ii_add, ii_sub, ii_mul, ll_add, ll_sub, ll_mul, ii_le, ii_lt, ii_eq, ii_t, bi_0, bi_1, rd_z, wr_z, rr_z, rl_z, wl_z, tn_n, st_s, st_j, st_i, st_c, st_2, sl_s, sl_j, sl_i, sl_c, sl_1, Int.natCast_add, Int.cast_ofNat_Int, if_pos, if_neg, decide_eq_false_iff_not, decide_eq_true_eq, in_ll, ii_long, Nat.zero_add, Nat.mul_zero, reduceCtorEq]
    · obtain ⟨F, m1, m2, -⟩ := hF hd
      have x1 := m1.2.2 v l (by omega) (by omega)
      have x2 := m2.2.2 v l (by omega) (by omega)
      have t1 : (4 * (v : Int) + (l : Int)).toNat = 4 * v + l := by omega
      refine ⟨ii (F v l), σ1, τ1, ?_, ?_, _, hr⟩
      · unfold fX7_form fX7_form_0
        simp (disch := omega) only [c1, c3, e1, x1, hd, ll_int, if_true, if_false, Option.bind_some, Option.map_some, ii_lit, ll_lit, ii_neg, ll_neg, ii_add, ii_sub, ii_mul, ll_add, ll_sub, ll_mul, ii_le, ii_lt, ii_eq, ii_t, bi_0, bi_1, rd_z, wr_z, rr_z, rl_z, wl_z, tn_n, st_s, st_j, st_i, st_c, st_2, sl_s, sl_j, sl_i, sl_c, sl_1, Int.natCast_add, Int.cast_ofNat_Int, if_pos, if_neg, decide_eq_false_iff_not, decide_eq_true_eq, in_ll, ii_long, Nat.zero_add, Nat.mul_zero, reduceCtorEq]
      · unfold fX8_form fX8_form_0
        simp (disch := omega) only [c2, c4, e2, t1, x2, hd, if_true, if_false, Option.bind_some, Option.map_some, ii_lit, ll_lit, ii_neg, ll_neg, ii_add, ii_sub, ii_mul, ll_add, ll_sub, ll_mul, ii_le, ii_lt, ii_eq, ii_t, bi_0, bi_1, rd_z, wr_z, rr_z, rl_z, wl_z, tn_n, st_s, st_j, st_i, st_c, st_2, sl_s, sl_j, sl_i, sl_c, sl_1, Int.natCast_add, Int.cast_ofNat_Int, if_pos, if_neg, decide_eq_false_iff_not, decide_eq_true_eq, in_ll, ii_long, Nat.zero_add, Nat.mul_zero, reduceCtorEq]
  · obtain ⟨σ', τ', e3, e4, hr⟩ := fd0 hR
    refine ⟨ii (-1000000001), σ', τ', ?_, ?_, _, hr⟩
    · unfold fX7_form fX7_form_0 fX7_form_22
      by_cases k1 : 0 ≤ v ∧ v < A.n
      · simp (disch := omega) only [c1, c3, e3, if_true, if_false, Option.bind_some, Option.map_some, ii_lit, ll_lit, ii_neg, ll_neg, ii_add, ii_sub, ii_mul, ll_add, ll_sub, ll_mul, ii_le, ii_lt, ii_eq, ii_t, bi_0, bi_1, rd_z, wr_z, rr_z, rl_z, wl_z, tn_n, st_s, st_j, st_i, st_c, st_2, sl_s, sl_j, sl_i, sl_c, sl_1, Int.natCast_add, Int.cast_ofNat_Int, if_pos, if_neg, decide_eq_false_iff_not, decide_eq_true_eq, in_ll, ii_long, Nat.zero_add, Nat.mul_zero, reduceCtorEq]
      · simp (disch := omega) only [c1, e3, if_true, if_false, Option.bind_some, Option.map_some, ii_lit, ll_lit, ii_neg, ll_neg, ii_add, ii_sub, ii_mul, ll_add, ll_sub, ll_mul, ii_le, ii_lt, ii_eq, ii_t, bi_0, bi_1, rd_z, wr_z, rr_z, rl_z, wl_z, tn_n, st_s, st_j, st_i, st_c, st_2, sl_s, sl_j, sl_i, sl_c, sl_1, Int.natCast_add, Int.cast_ofNat_Int, if_pos, if_neg, decide_eq_false_iff_not, decide_eq_true_eq, in_ll, ii_long, Nat.zero_add, Nat.mul_zero, reduceCtorEq]
    · unfold fX8_form fX8_form_0 fX8_form_16
      by_cases k1 : 0 ≤ v ∧ v < A.n
      · simp (disch := omega) only [c2, c4, e4, if_true, if_false, Option.bind_some, Option.map_some, ii_lit, ll_lit, ii_neg, ll_neg, ii_add, ii_sub, ii_mul, ll_add, ll_sub, ll_mul, ii_le, ii_lt, ii_eq, ii_t, bi_0, bi_1, rd_z, wr_z, rr_z, rl_z, wl_z, tn_n, st_s, st_j, st_i, st_c, st_2, sl_s, sl_j, sl_i, sl_c, sl_1, Int.natCast_add, Int.cast_ofNat_Int, if_pos, if_neg, decide_eq_false_iff_not, decide_eq_true_eq, in_ll, ii_long, Nat.zero_add, Nat.mul_zero, reduceCtorEq]
      · simp (disch := omega) only [c2, e4, if_true, if_false, Option.bind_some, Option.map_some, ii_lit, ll_lit, ii_neg, ll_neg, ii_add, ii_sub, ii_mul, ll_add, ll_sub, ll_mul, ii_le, ii_lt, ii_eq, ii_t, bi_0, bi_1, rd_z, wr_z, rr_z, rl_z, wl_z, tn_n, st_s, st_j, st_i, st_c, st_2, sl_s, sl_j, sl_i, sl_c, sl_1, Int.natCast_add, Int.cast_ofNat_Int, if_pos, if_neg, decide_eq_false_iff_not, decide_eq_true_eq, in_ll, ii_long, Nat.zero_add, Nat.mul_zero, reduceCtorEq]
