-- round
def mn (a b : Int) : Int := if b < a then b else a
def mni (f : Nat → Int) (P : Nat → Bool) (b : Int) : Nat → Int
  | 0 => b
  | k + 1 => if P k = true then mn (mni f P b k) (f k) else mni f P b k
theorem mn_as (a b c : Int) : mn (mn a b) c = mn a (mn b c) := by
  unfold mn
  repeat' split
  all_goals omega
theorem mni_mn (f : Nat → Int) (P : Nat → Bool) (b c : Int) (k : Nat) : mni f P (mn b c) k = mn b (mni f P c k) := by
  induction k with
  | zero => rfl
  | succ k ih =>
    rw [mni, mni, ih]
    split
    · rw [mn_as]
    · rfl
theorem mni_r {f : Nat → Int} {P : Nat → Bool} {b : Int} {k : Nat} {lo : Int} (hb : lo ≤ b) (hf : ∀ j, j < k → lo ≤ f j) : lo ≤ mni f P b k ∧ mni f P b k ≤ b := by
  induction k with
  | zero => exact ⟨hb, Int.le_refl _⟩
  | succ k ih =>
    have h1 := ih (fun j hj => hf j (by omega))
    have h2 := hf k (by omega)
    rw [mni]
    split
    · unfold mn
      split <;> omega
    · exact h1
def sdq (A : bdy) (p l : Nat) : Int := mn (pt A p l - A.lo l + 1) (A.hi l - pt A p l + 1) * mn (pt A p l - A.lo l + 1) (A.hi l - pt A p l + 1)
def dst (A : bdy) (p q : Nat) : Int := smf (fun l => (pt A p l - pt A q l) * (pt A p l - pt A q l)) A.n
theorem sq_r {a B : Int} (h : -B ≤ a ∧ a ≤ B) (hB : 0 ≤ B) : 0 ≤ a * a ∧ a * a ≤ B * B := by
  refine ⟨?_, (mul_r h h hB hB).2⟩
  rcases Int.le_total 0 a with q | q
  · exact Int.mul_nonneg q q
  · exact Int.mul_nonneg_of_nonpos_of_nonpos q q
theorem sdq_r {A : bdy} (hA : okb A) (p : Nat) {l : Nat} (hl : l < 4) : 0 ≤ sdq A p l ∧ sdq A p l ≤ 361 := by
  have h := pt_r hA p hl
  have h2 := hA.bx hl
  have h3 := sq_r (a := mn (pt A p l - A.lo l + 1) (A.hi l - pt A p l + 1)) (B := 19) (by unfold mn; split <;> omega) (by omega)
  unfold sdq
  omega
theorem smf_n {f : Nat → Int} {n : Nat} {B : Int} (h : ∀ k, k < n → 0 ≤ f k ∧ f k ≤ B) : 0 ≤ smf f n ∧ smf f n ≤ n * B := by
  induction n with
  | zero => exact ⟨by simp [smf], by simp [smf]⟩
  | succ n ih =>
    have h1 := ih (fun k hk => h k (by omega))
    have h2 := h n (by omega)
    rw [smf, Int.natCast_add, Int.add_mul]
    omega
theorem dst_r {A : bdy} (hA : okb A) (p q : Nat) {k : Nat} (hk : k ≤ A.n) : 0 ≤ smf (fun l => (pt A p l - pt A q l) * (pt A p l - pt A q l)) k ∧ smf (fun l => (pt A p l - pt A q l) * (pt A p l - pt A q l)) k ≤ 1296 := by
  have hn := hA.1
  have h := smf_n (f := fun l => (pt A p l - pt A q l) * (pt A p l - pt A q l)) (n := k) (B := 324) (fun l hl => by
    have h1 := pt_9 hA p (l := l) (by omega)
    have h2 := pt_9 hA q (l := l) (by omega)
    have h3 := sq_r (a := pt A p l - pt A q l) (B := 18) (by omega) (by omega)
    exact ⟨h3.1, by show _ ≤ (324 : Int); omega⟩)
  have h4 : (k : Int) * 324 ≤ 4 * 324 := Int.mul_le_mul_of_nonneg_right (by omega) (by omega)
  omega
theorem C_toSides {σ τ : mm} {A : bdy} (hR : RelA σ τ A) (hc : cloudP σ A) {p : Nat} (hp : p < np A) : fX1_squareToSides (ii p) 0 σ = some (ii (mni (sdq A p) (fun _ => true) 1000000000 A.n)) := by
  obtain ⟨⟨hC, hM, hA⟩, -⟩ := id hR
  have hn1 := hA.1
  have n1 := hC.2.1
  have hlo := hC.2.2.2.1
  have hhi := hC.2.2.2.2.1
  unfold fX1_squareToSides fX1_squareToSides_0
  refine lp_f (fun k => (ii (mni (sdq A p) (fun _ => true) 1000000000 k), ii k)) A.n rfl ?_ ?_
  · intro k hk
    have e := C_letterAt hc hA hp (l := k) hk
    have h1 := pt_r hA p (l := k) (by omega)
    have h2 := hA.bx (l := k) (by omega)
    have h3 := sdq_r hA p (l := k) (by omega)
    have h4 := mni_r (f := sdq A p) (P := fun _ => true) (b := 1000000000) (k := k) (lo := 0) (by omega) (fun j hj => (sdq_r hA p (by omega)).1)
    have e1 : (if A.hi k - pt A p k + 1 < pt A p k - A.lo k + 1 then A.hi k - pt A p k + 1 else pt A p k - A.lo k + 1) = mn (pt A p k - A.lo k + 1) (A.hi k - pt A p k + 1) := rfl
    have e2 : mn (pt A p k - A.lo k + 1) (A.hi k - pt A p k + 1) * mn (pt A p k - A.lo k + 1) (A.hi k - pt A p k + 1) = sdq A p k := rfl
    have e3 : (if sdq A p k < mni (sdq A p) (fun _ => true) 1000000000 k then sdq A p k else mni (sdq A p) (fun _ => true) 1000000000 k) = mn (mni (sdq A p) (fun _ => true) 1000000000 k) (sdq A p k) := rfl
    have e4 := min_ii (a := pt A p k - A.lo k + 1) (b := A.hi k - pt A p k + 1) (by omega) (by omega) (by omega) (by omega)
    have e5 := min_ii (a := mni (sdq A p) (fun _ => true) 1000000000 k) (b := sdq A p k) (by omega) (by omega) (by omega) (by omega)
    rw [e1] at e4
    rw [e3] at e5
    simp (disch := omega) only [fX1_squareToSides_6_L, fX1_squareToSides_6, n1, hlo, hhi, e, e4, e2, e5, mni, if_true, if_false, Option.bind_some, Option.map_some, ii_lit, ll_lit, ii_neg, ll_neg, ii_add, ii_sub, ii_mul, ll_add, ll_sub, ll_mul, ii_le, ii_lt, ii_eq, ii_t, bi_0, bi_1, rd_z, wr_z, rr_z, rl_z, wl_z, tn_n, st_s, st_j, st_i, st_c, st_2, sl_s, sl_j, sl_i, sl_c, sl_1, Int.natCast_add, Int.cast_ofNat_Int, if_pos, if_neg, decide_eq_false_iff_not, decide_eq_true_eq, in_ll, ii_long, Nat.zero_add, Nat.mul_zero, reduceCtorEq]
  · simp (disch := omega) only [fX1_squareToSides_6_L, fX1_squareToSides_6, n1, if_true, if_false, Option.bind_some, Option.map_some, ii_lit, ll_lit, ii_neg, ll_neg, ii_add, ii_sub, ii_mul, ll_add, ll_sub, ll_mul, ii_le, ii_lt, ii_eq, ii_t, bi_0, bi_1, rd_z, wr_z, rr_z, rl_z, wl_z, tn_n, st_s, st_j, st_i, st_c, st_2, sl_s, sl_j, sl_i, sl_c, sl_1, Int.natCast_add, Int.cast_ofNat_Int, if_pos, if_neg, decide_eq_false_iff_not, decide_eq_true_eq, in_ll, ii_long, Nat.zero_add, Nat.mul_zero, reduceCtorEq]
theorem C_between {σ : mm} {A : bdy} (hc : cloudP σ A) (hA : okb A) {p q : Nat} (hp : p < np A) (hq : q < np A) : fX1_squareBetween (ii p) (ii q) (ii A.n) σ = some (ii (dst A p q)) := by
  have hn1 := hA.1
  unfold fX1_squareBetween fX1_squareBetween_0
  refine lp_f (fun k => (ii (smf (fun l => (pt A p l - pt A q l) * (pt A p l - pt A q l)) k), ii k)) A.n rfl ?_ ?_
  · intro k hk
    have e1 := C_letterAt hc hA hp (l := k) hk
    have e2 := C_letterAt hc hA hq (l := k) hk
    simp (disch := omega) only [fX1_squareBetween_6_L, fX1_squareBetween_6, e1, e2, smf, if_true, if_false, Option.bind_some, Option.map_some, ii_lit, ll_lit, ii_neg, ll_neg, ii_add, ii_sub, ii_mul, ll_add, ll_sub, ll_mul, ii_le, ii_lt, ii_eq, ii_t, bi_0, bi_1, rd_z, wr_z, rr_z, rl_z, wl_z, tn_n, st_s, st_j, st_i, st_c, st_2, sl_s, sl_j, sl_i, sl_c, sl_1, Int.natCast_add, Int.cast_ofNat_Int, if_pos, if_neg, decide_eq_false_iff_not, decide_eq_true_eq, in_ll, ii_long, Nat.zero_add, Nat.mul_zero, reduceCtorEq]
  · simp (disch := omega) only [fX1_squareBetween_6_L, fX1_squareBetween_6, dst, if_true, if_false, Option.bind_some, Option.map_some, ii_lit, ll_lit, ii_neg, ll_neg, ii_add, ii_sub, ii_mul, ll_add, ll_sub, ll_mul, ii_le, ii_lt, ii_eq, ii_t, bi_0, bi_1, rd_z, wr_z, rr_z, rl_z, wl_z, tn_n, st_s, st_j, st_i, st_c, st_2, sl_s, sl_j, sl_i, sl_c, sl_1, Int.natCast_add, Int.cast_ofNat_Int, if_pos, if_neg, decide_eq_false_iff_not, decide_eq_true_eq, in_ll, ii_long, Nat.zero_add, Nat.mul_zero, reduceCtorEq]
theorem C_toBroken {σ : mm} {A : bdy} (hc : cloudP σ A) (hA : okb A) {p : Nat} (hp : p < np A) : fX1_squareToBroken (ii p) (ii A.n) σ = some (ii (mni (dst A p) (fun q => !inP A q) 1000000000 (np A))) := by
  have hcn := cnt_le hA
  have s1 := hc.1
  unfold fX1_squareToBroken fX1_squareToBroken_0
  refine lp_f (fun k => (ii (mni (dst A p) (fun q => !inP A q) 1000000000 k), ii k)) (np A) rfl ?_ ?_
  · intro k hk
    have e1 := C_isIn hc hA hk
    have e2 := C_between hc hA hp hk
    have h3 := dst_r hA p k (Nat.le_refl _)
    have h3' : 0 ≤ dst A p k ∧ dst A p k ≤ 1296 := h3
    have h4 := mni_r (f := dst A p) (P := fun q => !inP A q) (b := 1000000000) (k := k) (lo := 0) (by omega) (fun j hj => (dst_r hA p j (Nat.le_refl _)).1)
    have e5 := min_ii (a := mni (dst A p) (fun q => !inP A q) 1000000000 k) (b := dst A p k) (by omega) (by omega) (by omega) (by omega)
    have e3 : (if dst A p k < mni (dst A p) (fun q => !inP A q) 1000000000 k then dst A p k else mni (dst A p) (fun q => !inP A q) 1000000000 k) = mn (mni (dst A p) (fun q => !inP A q) 1000000000 k) (dst A p k) := rfl
    rw [e3] at e5
    by_cases h : inP A k = true
    · simp (disch := omega) only [fX1_squareToBroken_6_L, fX1_squareToBroken_6, fX1_squareToBroken_37, s1, e1, h, mni, Bool.not_true, if_true, if_false, Option.bind_some, Option.map_some, ii_lit, ll_lit, ii_neg, ll_neg, ii_add, ii_sub, ii_mul, ll_add, ll_sub, ll_mul, ii_le, ii_lt, ii_eq, ii_t, bi_0, bi_1, rd_z, wr_z, rr_z, rl_z, wl_z, tn_n, st_s, st_j, st_i, st_c, st_2, sl_s, sl_j, sl_i, sl_c, sl_1, Int.natCast_add, Int.cast_ofNat_Int, if_pos, if_neg, decide_eq_false_iff_not, decide_eq_true_eq, in_ll, ii_long, Nat.zero_add, Nat.mul_zero, reduceCtorEq]
    · simp only [Bool.not_eq_true] at h
      simp (disch := omega) only [fX1_squareToBroken_6_L, fX1_squareToBroken_6, fX1_squareToBroken_37, s1, e1, h, e2, e5, mni, Bool.not_false, if_true, if_false, Option.bind_some, Option.map_some, ii_lit, ll_lit, ii_neg, ll_neg, ii_add, ii_sub, ii_mul, ll_add, ll_sub, ll_mul, ii_le, ii_lt, ii_eq, ii_t, bi_0, bi_1, rd_z, wr_z, rr_z, rl_z, wl_z, tn_n, st_s, st_j, st_i, st_c, st_2, sl_s, sl_j, sl_i, sl_c, sl_1, Int.natCast_add, Int.cast_ofNat_Int, if_pos, if_neg, decide_eq_false_iff_not, decide_eq_true_eq, in_ll, ii_long, Nat.zero_add, Nat.mul_zero, reduceCtorEq]
  · simp (disch := omega) only [fX1_squareToBroken_6_L, fX1_squareToBroken_6, s1, if_true, if_false, Option.bind_some, Option.map_some, ii_lit, ll_lit, ii_neg, ll_neg, ii_add, ii_sub, ii_mul, ll_add, ll_sub, ll_mul, ii_le, ii_lt, ii_eq, ii_t, bi_0, bi_1, rd_z, wr_z, rr_z, rl_z, wl_z, tn_n, st_s, st_j, st_i, st_c, st_2, sl_s, sl_j, sl_i, sl_c, sl_1, Int.natCast_add, Int.cast_ofNat_Int, if_pos, if_neg, decide_eq_false_iff_not, decide_eq_true_eq, in_ll, ii_long, Nat.zero_add, Nat.mul_zero, reduceCtorEq]
theorem rnd_eq {A : bdy} (hA : okb A) (p : Nat) : mni (dst A p) (fun q => !inP A q) (mni (sdq A p) (fun _ => true) 10000 A.n) (np A) = mn (mni (sdq A p) (fun _ => true) 1000000000 A.n) (mni (dst A p) (fun q => !inP A q) 1000000000 (np A)) := by
  have hn1 := hA.1
  have e1 : mni (sdq A p) (fun _ => true) 10000 A.n = mn 10000 (mni (sdq A p) (fun _ => true) 1000000000 A.n) := mni_mn (sdq A p) (fun _ => true) 10000 1000000000 A.n
  have e2 : mni (sdq A p) (fun _ => true) 1000000000 A.n ≤ 361 := by
    obtain ⟨m, hm⟩ : ∃ m, A.n = m + 1 := ⟨A.n - 1, by omega⟩
    rw [hm, mni, if_pos rfl]
    have := sdq_r hA p (l := m) (by omega)
    unfold mn
    split <;> omega
  have e3 : mni (sdq A p) (fun _ => true) 10000 A.n = mni (sdq A p) (fun _ => true) 1000000000 A.n := by
    rw [e1]
    unfold mn
    rw [if_pos (by omega)]
  have e4 : mni (sdq A p) (fun _ => true) 1000000000 A.n = mn (mni (sdq A p) (fun _ => true) 1000000000 A.n) 1000000000 := by
    unfold mn
    rw [if_neg (by omega)]
  rw [e3]
  conv => lhs; rw [e4]
  rw [mni_mn]
