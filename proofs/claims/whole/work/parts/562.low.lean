-- THE ROWS ABOVE: what they may be, and that they are one alone
def rdw (n : Nat) (U : mat) (i : Nat) (x : Nat → Int) : Prop := ∃ t : Nat → Int, (∀ k, k ≤ i → t k = 0) ∧ (∀ k, n ≤ k → t k = 0) ∧ ∀ l, x l = U i l + (t 0 * U 0 l + t 1 * U 1 l + t 2 * U 2 l + t 3 * U 3 l)
def redP (n : Nat) (U F : mat) : Prop := ∀ i, i < n → rdw n U i (F i) ∧ ∀ l, i < l → l < n → 0 ≤ F i l ∧ F i l < U l l
def TT (n : Nat) (U : mat) : Prop := (∀ i, i < n → 0 < U i i) ∧ (∀ i l, l < i → U i l = 0) ∧ ∀ i l, n ≤ l → U i l = 0
theorem KS.tt {n : Nat} {U : mat} (h : KS n n U) : TT n U := by
  refine ⟨h.1, fun i l hl => ?_, h.2.2.2.1⟩
  by_cases g : l < n
  · exact h.2.1 i l g hl
  · exact h.2.2.2.1 i l (by omega)
theorem rdw_0 (n : Nat) (U : mat) (i : Nat) : rdw n U i (U i) := ⟨fun _ => 0, fun _ _ => rfl, fun _ _ => rfl, fun l => by simp⟩
theorem rdw_c {n : Nat} {U : mat} {i : Nat} {x y : Nat → Int} (h : rdw n U i x) (e : ∀ l, y l = x l) : rdw n U i y := by
  obtain ⟨t, h1, h2, h3⟩ := h
  exact ⟨t, h1, h2, fun l => (e l).trans (h3 l)⟩
theorem rdw_a {n : Nat} {U : mat} {v c : Nat} {x y : Nat → Int} (hx : rdw n U v x) (hy : rdw n U c y) (hv : v < c) (hc : c < n) (hn : n ≤ 4) (q : Int) : rdw n U v (fun l => x l + q * y l) := by
  obtain ⟨t, a1, a2, a3⟩ := hx
  obtain ⟨u, b1, b2, b3⟩ := hy
  refine ⟨fun k => t k + q * (if k = c then 1 else u k), fun k hk => ?_, fun k hk => ?_, fun l => ?_⟩
  · show t k + q * (if k = c then 1 else u k) = 0
    rw [if_neg (by omega), a1 k hk, b1 k (by omega)]
    simp
  · show t k + q * (if k = c then 1 else u k) = 0
    rw [if_neg (by omega), a2 k hk, b2 k hk]
    simp
  · simp only [a3 l, b3 l]
    have uc := b1 c (Nat.le_refl _)
    have hq : c = 1 ∨ c = 2 ∨ c = 3 := by omega
    rcases hq with rfl | rfl | rfl
    · rw [if_neg (by decide), if_pos rfl, if_neg (by decide), if_neg (by decide), uc]
      grind
    · rw [if_neg (by decide), if_neg (by decide), if_pos rfl, if_neg (by decide), uc]
      grind
    · rw [if_neg (by decide), if_neg (by decide), if_neg (by decide), if_pos rfl, uc]
      grind
theorem rdw_l {n : Nat} {U : mat} {c : Nat} {y : Nat → Int} (hT : TT n U) (h : rdw n U c y) : (∀ l, l < c → y l = 0) ∧ y c = U c c ∧ ∀ l, n ≤ l → y l = 0 := by
  obtain ⟨t, h1, h2, h3⟩ := h
  have z : ∀ l, l ≤ c → ∀ k, t k * U k l = 0 := fun l hl k => by
    by_cases g : k ≤ c
    · rw [h1 k g, Int.zero_mul]
    · rw [hT.2.1 k l (by omega), Int.mul_zero]
  refine ⟨fun l hl => ?_, ?_, fun l hl => ?_⟩
  · rw [h3, z l (by omega), z l (by omega), z l (by omega), z l (by omega), hT.2.1 c l hl]
    decide
  · rw [h3, z c (by omega), z c (by omega), z c (by omega), z c (by omega)]
    omega
  · rw [h3, hT.2.2 _ l hl, hT.2.2 _ l hl, hT.2.2 _ l hl, hT.2.2 _ l hl, hT.2.2 _ l hl]
    simp
theorem mul0 {d s : Int} (h1 : -d < s * d) (h2 : s * d < d) : s = 0 := by
  have hd : 0 < d := by omega
  rcases Int.lt_trichotomy s 0 with g | g | g
  · have : s * d ≤ -1 * d := Int.mul_le_mul_of_nonneg_right (by omega) (by omega)
    omega
  · exact g
  · have : 1 * d ≤ s * d := Int.mul_le_mul_of_nonneg_right (by omega) (by omega)
    omega
theorem rdw_u {n : Nat} {U : mat} {i : Nat} {x y : Nat → Int} (hT : TT n U) (hx : rdw n U i x) (hy : rdw n U i y) (rx : ∀ l, i < l → l < n → 0 ≤ x l ∧ x l < U l l) (ry : ∀ l, i < l → l < n → 0 ≤ y l ∧ y l < U l l) (l : Nat) : x l = y l := by
  obtain ⟨t, a1, a2, a3⟩ := hx
  obtain ⟨u, b1, b2, b3⟩ := hy
  have st : ∀ k, (i < k → k < n → x k - y k = (t k - u k) * U k k) → t k = u k := fun k hk => by
    by_cases g1 : k ≤ i
    · rw [a1 k g1, b1 k g1]
    · by_cases g2 : n ≤ k
      · rw [a2 k g2, b2 k g2]
      · have e := hk (by omega) (by omega)
        have r1 := rx k (by omega) (by omega)
        have r2 := ry k (by omega) (by omega)
        have := mul0 (d := U k k) (s := t k - u k) (by omega) (by omega)
        omega
  have lo := hT.2.1
  have s0 : t 0 = u 0 := st 0 (fun h _ => by omega)
  have s1 : t 1 = u 1 := st 1 (fun _ _ => by
    rw [a3, b3, s0, lo 2 1 (by omega), lo 3 1 (by omega)]
    grind)
  have s2 : t 2 = u 2 := st 2 (fun _ _ => by
    rw [a3, b3, s0, s1, lo 3 2 (by omega)]
    grind)
  have s3 : t 3 = u 3 := st 3 (fun _ _ => by
    rw [a3, b3, s0, s1, s2]
    grind)
  rw [a3, b3, s0, s1, s2, s3]
theorem red_u {n : Nat} {U F G : mat} (hT : TT n U) (hF : redP n U F) (hG : redP n U G) {i : Nat} (hi : i < n) (l : Nat) : F i l = G i l := rdw_u hT (hF i hi).1 (hG i hi).1 (hF i hi).2 (hG i hi).2 l
-- one row taken down by another
theorem fl_r {a b : Int} (h : 0 < b) : 0 ≤ a + -(a / b) * b ∧ a + -(a / b) * b < b := by
  have e := Int.emod_add_mul_ediv a b
  have r1 := Int.emod_nonneg a (show b ≠ 0 by omega)
  have r2 := Int.emod_lt_of_pos a h
  rw [Int.neg_mul, Int.mul_comm]
  omega
theorem fl_b {a b : Int} (h : 0 < b) : (a / b).natAbs ≤ a.natAbs := by
  have e := Int.emod_add_mul_ediv a b
  have r1 := Int.emod_nonneg a (show b ≠ 0 by omega)
  have r2 := Int.emod_lt_of_pos a h
  by_cases g : 0 ≤ a
  · have h1 := Int.ediv_le_self b g
    have h2 := Int.ediv_nonneg g (show 0 ≤ b by omega)
    omega
  · have h1 : a / b < 0 := Int.ediv_neg_of_neg_of_pos (by omega) h
    have h2 : a ≤ a / b := by
      have : b * (a / b + 1) ≤ 1 * (a / b + 1) := Int.mul_le_mul_of_nonpos_right (by omega) (by omega)
      rw [Int.mul_add] at this
      omega
    omega
theorem dn {n v c : Nat} {U W : mat} {B G : Nat} (hn : n ≤ 4) (hv : v < c) (hc : c < n) (l1 : ∀ l, l < c → W c l = 0) (l2 : W c c = U c c) (hp : 0 < W c c) (h1 : rdw n U v (W v)) (h2 : rdw n U c (W c)) (hr : ∀ l, v < l → l < c → 0 ≤ W v l ∧ W v l < U l l) (hB : ∀ l, (W v l).natAbs ≤ B) (hG : ∀ l, (W c l).natAbs ≤ G) :
    rdw n U v (rop W v c (-(W v c / W c c)) v) ∧ (∀ l, v < l → l < c + 1 → 0 ≤ rop W v c (-(W v c / W c c)) v l ∧ rop W v c (-(W v c / W c c)) v l < U l l) ∧ ∀ l, (rop W v c (-(W v c / W c c)) v l).natAbs ≤ B + B * G := by
  have e : ∀ l, rop W v c (-(W v c / W c c)) v l = W v l + -(W v c / W c c) * W c l := fun l => by
    unfold rop
    rw [if_pos rfl]
  refine ⟨rdw_c (rdw_a h1 h2 hv hc hn _) e, fun l g1 g2 => ?_, fun l => ?_⟩
  · rw [e]
    by_cases g : l = c
    · subst g
      have := fl_r (a := W v l) hp
      rw [← l2]
      exact this
    · rw [l1 l (by omega), Int.mul_zero, Int.add_zero]
      exact hr l g1 (by omega)
  · rw [e]
    have b1 := hB l
    have b2 := fl_b (a := W v c) hp
    have b3 := hB c
    have b4 := mb (a := -(W v c / W c c)) (A := B) (by omega) (hG l)
    omega
-- floors of longs
theorem xor_ll {a b : Int} (h1 : -9223372036854775808 ≤ a) (h2 : a < 9223372036854775808) (h3 : 0 ≤ b) (h4 : b < 9223372036854775808) : (ii 0 ≤ lg_cmp (ll a ^^^ ll b) (ll 0)) = (0 ≤ a) := by
  have ma : (ll a).toBitVec.msb = decide (a < 0) := by
    rw [BitVec.msb_eq_toInt, show (ll a).toBitVec.toInt = (ll a).toInt from rfl, ll_t h1 h2]
  have mb : (ll b).toBitVec.msb = decide (b < 0) := by
    rw [BitVec.msb_eq_toInt, show (ll b).toBitVec.toInt = (ll b).toInt from rfl, ll_t (by omega) h4]
  have mx : (ll a ^^^ ll b).toBitVec.msb = decide (a < 0) := by
    rw [Int64.toBitVec_xor, BitVec.msb_xor, ma, mb, decide_eq_false (show ¬ b < 0 by omega), Bool.xor_false]
  rw [BitVec.msb_eq_toInt] at mx
  have mx : decide ((ll a ^^^ ll b).toInt < 0) = decide (a < 0) := mx
  rw [decide_eq_decide] at mx
  obtain ⟨x, hx, r1, r2⟩ := ll_ex (ll a ^^^ ll b)
  rw [hx] at mx ⊢
  rw [ll_t r1 r2] at mx
  rw [cmp_ge0 r1 r2 (by omega) (by omega)]
  apply propext
  omega
theorem fd_ll {a b : Int} (h1 : a.natAbs < 1000000000000000) (h3 : 0 < b) (h4 : b < 2147483648) : fJ9_floorDiv_f86c9 (ll a) (ll b) = some (ll (a / b)) := by
  unfold fJ9_floorDiv_f86c9 fJ9_floorDiv_f86c9_0 fJ9_floorDiv_f86c9_27
  rw [dv_ll (by omega) (by omega) (by omega) (by omega) (by omega)]
  simp only [Option.bind_some, ii_lit, ll_lit, ll_mul, ll_sub]
  have e := Int.tdiv_eq_ediv (a := a) (b := b)
  rw [Int.sign_eq_one_of_pos h3] at e
  by_cases q : 0 ≤ a
  · rw [if_pos (by rw [xor_ll (by omega) (by omega) (by omega) (by omega)]; exact q), Int.tdiv_eq_ediv_of_nonneg q]
  · rw [if_neg (by rw [xor_ll (by omega) (by omega) (by omega) (by omega)]; exact q)]
    have tm := Int.tmod_add_mul_tdiv a b
    have t1 := Int.tmod_lt_of_pos a h3
    have t2 := Int.lt_tmod_of_pos a h3
    rw [Int.mul_comm] at tm
    have ez : (lg_cmp (ll (a.tdiv b * b)) (ll a) = ii 0) = (a.tdiv b * b = a) := cmp_eq0 (by omega) (by omega) (by omega) (by omega)
    simp only [ez]
    by_cases d : b ∣ a
    · rw [if_pos (Or.inr d)] at e
      rw [if_pos (Int.tdiv_mul_cancel d), e, Int.add_zero]
    · rw [if_neg (fun z => z.elim q d)] at e
      rw [if_neg (fun z => d ⟨a.tdiv b, by rw [Int.mul_comm]; exact z.symm⟩), e]
      congr 2
      omega
theorem fl_t {a b : Int} (h : 0 < b) : a / b = if 0 ≤ a.tmod b then a.tdiv b else a.tdiv b - 1 := by
  have e := Int.tdiv_eq_ediv (a := a) (b := b)
  rw [Int.sign_eq_one_of_pos h] at e
  have f := Int.tmod_eq_emod (a := a) (b := b)
  have r1 := Int.emod_nonneg a (show b ≠ 0 by omega)
  have r2 := Int.emod_lt_of_pos a h
  by_cases d : 0 ≤ a ∨ b ∣ a
  · rw [if_pos d] at e f
    rw [if_pos (by omega)]
    omega
  · rw [if_neg d] at e f
    rw [if_neg (by omega)]
    omega
