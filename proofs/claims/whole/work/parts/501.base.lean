-- WHOLE NUMBERS AS INTS AND LONGS
def ii (a : Int) : Int32 := Int32.ofInt a
def ll (a : Int) : Int64 := Int64.ofInt a
theorem ii_t {a : Int} (h1 : -2147483648 ≤ a) (h2 : a < 2147483648) : (ii a).toInt = a := Int32.toInt_ofInt_of_le (by omega) (by omega)
theorem ll_t {a : Int} (h1 : -9223372036854775808 ≤ a) (h2 : a < 9223372036854775808) : (ll a).toInt = a := Int64.toInt_ofInt_of_le (by omega) (by omega)
theorem ii_of (x : Int32) : ii x.toInt = x := Int32.ofInt_toInt x
theorem ll_of (x : Int64) : ll x.toInt = x := Int64.ofInt_toInt x
theorem ii_ex (x : Int32) : ∃ a, x = ii a ∧ -2147483648 ≤ a ∧ a < 2147483648 := ⟨x.toInt, (ii_of x).symm, (i_rng x).1, (i_rng x).2⟩
theorem ll_ex (x : Int64) : ∃ a, x = ll a ∧ -9223372036854775808 ≤ a ∧ a < 9223372036854775808 := ⟨x.toInt, (ll_of x).symm, by have := x.le_toInt; omega, by have := x.toInt_lt; omega⟩
theorem ii_add (a b : Int) : ii a + ii b = ii (a + b) := (Int32.ofInt_add a b).symm
theorem ii_sub (a b : Int) : ii a - ii b = ii (a - b) := (Int32.ofInt_sub a b).symm
theorem ii_mul (a b : Int) : ii a * ii b = ii (a * b) := (Int32.ofInt_mul a b).symm
theorem ii_neg (a : Int) : -ii a = ii (-a) := (Int32.ofInt_neg a).symm
theorem ll_add (a b : Int) : ll a + ll b = ll (a + b) := (Int64.ofInt_add a b).symm
theorem ll_sub (a b : Int) : ll a - ll b = ll (a - b) := (Int64.ofInt_sub a b).symm
theorem ll_mul (a b : Int) : ll a * ll b = ll (a * b) := (Int64.ofInt_mul a b).symm
theorem ll_neg (a : Int) : -ll a = ll (-a) := (Int64.ofInt_neg a).symm
theorem ii_nat (k : Nat) : Int32.ofNat k = ii k := Int32.ofInt_eq_ofNat.symm
theorem ll_nat (k : Nat) : Int64.ofNat k = ll k := Int64.ofInt_eq_ofNat.symm
theorem ii_lit (n : Nat) : (OfNat.ofNat n : Int32) = ii (OfNat.ofNat n) := ii_nat n
theorem ll_lit (n : Nat) : (OfNat.ofNat n : Int64) = ll (OfNat.ofNat n) := ll_nat n
theorem ii_eq {a b : Int} (h1 : -2147483648 ≤ a) (h2 : a < 2147483648) (h3 : -2147483648 ≤ b) (h4 : b < 2147483648) : (ii a = ii b) = (a = b) := by
  apply propext
  rw [← Int32.toInt_inj, ii_t h1 h2, ii_t h3 h4]
theorem ii_le {a b : Int} (h1 : -2147483648 ≤ a) (h2 : a < 2147483648) (h3 : -2147483648 ≤ b) (h4 : b < 2147483648) : (ii a ≤ ii b) = (a ≤ b) := by
  apply propext
  rw [Int32.le_iff_toInt_le, ii_t h1 h2, ii_t h3 h4]
theorem ii_lt {a b : Int} (h1 : -2147483648 ≤ a) (h2 : a < 2147483648) (h3 : -2147483648 ≤ b) (h4 : b < 2147483648) : (ii a < ii b) = (a < b) := by
  apply propext
  rw [Int32.lt_iff_toInt_lt, ii_t h1 h2, ii_t h3 h4]
theorem ll_eq {a b : Int} (h1 : -9223372036854775808 ≤ a) (h2 : a < 9223372036854775808) (h3 : -9223372036854775808 ≤ b) (h4 : b < 9223372036854775808) : (ll a = ll b) = (a = b) := by
  apply propext
  rw [← Int64.toInt_inj, ll_t h1 h2, ll_t h3 h4]
theorem ii_long {a : Int} (h1 : -2147483648 ≤ a) (h2 : a < 2147483648) : (ii a).toInt64 = ll a := by
  rw [← Int64.toInt_inj, Int32.toInt_toInt64, ii_t h1 h2, ll_t (by omega) (by omega)]
theorem ll_int (a : Int) : (ll a).toInt32 = ii a := Int64.toInt32_ofInt
theorem cmp_eq0 {a b : Int} (h1 : -9223372036854775808 ≤ a) (h2 : a < 9223372036854775808) (h3 : -9223372036854775808 ≤ b) (h4 : b < 9223372036854775808) : (lg_cmp (ll a) (ll b) = ii 0) = (a = b) := by
  apply propext
  show lg_cmp (ll a) (ll b) = 0 ↔ a = b
  unfold lg_cmp
  simp only [gt_iff_lt, Int64.lt_iff_toInt_lt, ← Int64.toInt_inj, ll_t h1 h2, ll_t h3 h4]
  repeat' split
  all_goals (constructor <;> intro hh <;> first | omega | decide | exact absurd hh (by decide))
theorem cmp_lt0 {a b : Int} (h1 : -9223372036854775808 ≤ a) (h2 : a < 9223372036854775808) (h3 : -9223372036854775808 ≤ b) (h4 : b < 9223372036854775808) : (lg_cmp (ll a) (ll b) < ii 0) = (a < b) := by
  rw [show ii 0 = 0 from rfl, cmp_lt, ll_t h1 h2, ll_t h3 h4]
theorem cmp_gt0 {a b : Int} (h1 : -9223372036854775808 ≤ a) (h2 : a < 9223372036854775808) (h3 : -9223372036854775808 ≤ b) (h4 : b < 9223372036854775808) : (ii 0 < lg_cmp (ll a) (ll b)) = (b < a) := by
  rw [show ii 0 = 0 from rfl, cmp_gt, ll_t h1 h2, ll_t h3 h4]
theorem cmp_le0 {a b : Int} (h1 : -9223372036854775808 ≤ a) (h2 : a < 9223372036854775808) (h3 : -9223372036854775808 ≤ b) (h4 : b < 9223372036854775808) : (lg_cmp (ll a) (ll b) ≤ ii 0) = (a ≤ b) := by
  apply propext
  rw [Int32.le_iff_toInt_le, show (ii 0).toInt = (0 : Int32).toInt from rfl]
  have := cmp_gt0 h1 h2 h3 h4
  rw [show ii 0 = 0 from rfl, Int32.lt_iff_toInt_lt] at this
  have q : (b < a) ↔ _ := Iff.of_eq this.symm
  omega
theorem cmp_ge0 {a b : Int} (h1 : -9223372036854775808 ≤ a) (h2 : a < 9223372036854775808) (h3 : -9223372036854775808 ≤ b) (h4 : b < 9223372036854775808) : (ii 0 ≤ lg_cmp (ll a) (ll b)) = (b ≤ a) := by
  apply propext
  rw [Int32.le_iff_toInt_le, show (ii 0).toInt = (0 : Int32).toInt from rfl]
  have := cmp_lt0 h1 h2 h3 h4
  rw [show ii 0 = 0 from rfl, Int32.lt_iff_toInt_lt] at this
  have q : (a < b) ↔ _ := Iff.of_eq this.symm
  omega
theorem in_ll {a b c : Int} (h1 : -9223372036854775808 ≤ a) (h2 : a < 9223372036854775808) (h3 : -9223372036854775808 ≤ b) (h4 : b < 9223372036854775808) (h5 : -9223372036854775808 ≤ c) (h6 : c < 9223372036854775808) : fX8_in (ll a) (ll b) (ll c) = decide (b ≤ a ∧ a ≤ c) := by
  rw [in_iff, ll_t h1 h2, ll_t h3 h4, ll_t h5 h6]
theorem bi_0 (b : Bool) : (bi b = ii 0) = (b = false) := bi0 b
theorem bi_1 (b : Bool) : (bi b = ii 1) = (b = true) := by cases b <;> decide
-- divisions
theorem dv_ii {a b : Int} (h1 : -2147483648 ≤ a) (h2 : a < 2147483648) (h3 : -2147483648 ≤ b) (h4 : b < 2147483648) (h5 : b ≠ 0) : dvI (ii a) (ii b) = some (ii (a.tdiv b)) := by
  unfold dvI
  rw [if_neg (by rw [show (0 : Int32) = ii 0 from rfl, ii_eq h3 h4 (by omega) (by omega)]; exact h5)]
  exact congrArg some (Int32.ofInt_tdiv (by show (-2147483648 : Int) ≤ a; exact h1) (by show a ≤ (2147483647 : Int); omega) (by show (-2147483648 : Int) ≤ b; exact h3) (by show b ≤ (2147483647 : Int); omega)).symm
theorem rm_ii {a b : Int} (h1 : -2147483648 ≤ a) (h2 : a < 2147483648) (h3 : -2147483648 ≤ b) (h4 : b < 2147483648) (h5 : b ≠ 0) : rmI (ii a) (ii b) = some (ii (a.tmod b)) := by
  have h := dv_ii h1 h2 h3 h4 h5
  unfold dvI at h
  unfold rmI
  split at h
  · cases h
  · rename_i hb
    rw [if_neg hb, Option.some.inj h, ii_mul, ii_sub, Int.tmod_def]
    rw [Int.mul_comm]
theorem dv_ll {a b : Int} (h1 : -9223372036854775808 ≤ a) (h2 : a < 9223372036854775808) (h3 : -9223372036854775808 ≤ b) (h4 : b < 9223372036854775808) (h5 : b ≠ 0) : dvL (ll a) (ll b) = some (ll (a.tdiv b)) := by
  unfold dvL
  rw [if_neg (by rw [show (0 : Int64) = ll 0 from rfl, ll_eq h3 h4 (by omega) (by omega)]; exact h5)]
  exact congrArg some (Int64.ofInt_tdiv (by show (-9223372036854775808 : Int) ≤ a; exact h1) (by show a ≤ (9223372036854775807 : Int); omega) (by show (-9223372036854775808 : Int) ≤ b; exact h3) (by show b ≤ (9223372036854775807 : Int); omega)).symm
theorem rm_ll {a b : Int} (h1 : -9223372036854775808 ≤ a) (h2 : a < 9223372036854775808) (h3 : -9223372036854775808 ≤ b) (h4 : b < 9223372036854775808) (h5 : b ≠ 0) : rmL (ll a) (ll b) = some (ll (a.tmod b)) := by
  have h := dv_ll h1 h2 h3 h4 h5
  unfold dvL at h
  unfold rmL
  split at h
  · cases h
  · rename_i hb
    rw [if_neg hb, Option.some.inj h, ll_mul, ll_sub, Int.tmod_def]
    rw [Int.mul_comm]
theorem dv_nn {a b : Int} (h1 : 0 ≤ a) (h2 : a < 2147483648) (h3 : 0 < b) (h4 : b < 2147483648) : dvI (ii a) (ii b) = some (ii (a / b)) := by
  rw [dv_ii (by omega) h2 (by omega) h4 (by omega), Int.tdiv_eq_ediv_of_nonneg h1]
theorem rm_nn {a b : Int} (h1 : 0 ≤ a) (h2 : a < 2147483648) (h3 : 0 < b) (h4 : b < 2147483648) : rmI (ii a) (ii b) = some (ii (a % b)) := by
  rw [rm_ii (by omega) h2 (by omega) h4 (by omega), Int.tmod_eq_emod_of_nonneg h1]
-- reads and writes at a place
theorem rd_n {σ : mm} {c i n k : Nat} (h : k < n) (hn : n < 2147483648) : rdI σ c i n (ii k) = some (σ.1 c i k) := rdI_in (ii_t (by omega) (by omega)) h
theorem rd_z {σ : mm} {c i n : Nat} {a : Int} (h : 0 ≤ a) (h2 : a < n) (hn : n < 2147483648) : rdI σ c i n (ii a) = some (σ.1 c i a.toNat) := rdI_in (by rw [ii_t (by omega) (by omega)]; omega) (by omega)
theorem rl_n {σ : mm} {c i n k : Nat} (h : k < n) (hn : n < 2147483648) : rdL σ c i n (ii k) = some (σ.2 c i k) := rdL_in (ii_t (by omega) (by omega)) h
theorem rl_z {σ : mm} {c i n : Nat} {a : Int} (h : 0 ≤ a) (h2 : a < n) (hn : n < 2147483648) : rdL σ c i n (ii a) = some (σ.2 c i a.toNat) := rdL_in (by rw [ii_t (by omega) (by omega)]; omega) (by omega)
theorem rr_n {n k : Nat} (h : k < n) (hn : n < 2147483648) : rdR n (ii k) = some k := rdR_in (ii_t (by omega) (by omega)) h
theorem rr_z {n : Nat} {a : Int} (h : 0 ≤ a) (h2 : a < n) (hn : n < 2147483648) : rdR n (ii a) = some a.toNat := rdR_in (by rw [ii_t (by omega) (by omega)]; omega) (by omega)
theorem wr_n {σ : mm} {c i n k : Nat} {v : Int32} (h : k < n) (hn : n < 2147483648) : wrI σ c i n (ii k) v = some (stI σ c i k v) := wrI_in (ii_t (by omega) (by omega)) h
theorem wr_z {σ : mm} {c i n : Nat} {a : Int} {v : Int32} (h : 0 ≤ a) (h2 : a < n) (hn : n < 2147483648) : wrI σ c i n (ii a) v = some (stI σ c i a.toNat v) := wrI_in (by rw [ii_t (by omega) (by omega)]; omega) (by omega)
theorem wl_n {σ : mm} {c i n k : Nat} {v : Int64} (h : k < n) (hn : n < 2147483648) : wrL σ c i n (ii k) v = some (stL σ c i k v) := wrL_in (ii_t (by omega) (by omega)) h
theorem wl_z {σ : mm} {c i n : Nat} {a : Int} {v : Int64} (h : 0 ≤ a) (h2 : a < n) (hn : n < 2147483648) : wrL σ c i n (ii a) v = some (stL σ c i a.toNat v) := wrL_in (by rw [ii_t (by omega) (by omega)]; omega) (by omega)
theorem tn_n (k : Nat) : ((k : Nat) : Int).toNat = k := Int.toNat_natCast k
-- what a read finds behind a write
theorem st_s (σ : mm) (c i j : Nat) (v : Int32) : (stI σ c i j v).1 c i j = v := g_same σ c i j v
theorem st_j (σ : mm) {c i j j' : Nat} (v : Int32) (h : j' ≠ j) : (stI σ c i j v).1 c i j' = σ.1 c i j' := by
  rw [g_cell, up1_ne _ _ h]
theorem st_i (σ : mm) {c i i' : Nat} (j : Nat) (v : Int32) (h : i' ≠ i) : (stI σ c i j v).1 c i' = σ.1 c i' := g_ne σ j v (fun e => h (by injection e))
theorem st_c (σ : mm) {c c' : Nat} (i j : Nat) (v : Int32) (h : c' ≠ c) : (stI σ c i j v).1 c' = σ.1 c' := g_kind σ i j v h
theorem st_2 (σ : mm) (c i j : Nat) (v : Int32) : (stI σ c i j v).2 = σ.2 := rfl
theorem sl_s (σ : mm) (c i j : Nat) (v : Int64) : (stL σ c i j v).2 c i j = v := by
  rw [l_cell, up1_same]
theorem sl_j (σ : mm) {c i j j' : Nat} (v : Int64) (h : j' ≠ j) : (stL σ c i j v).2 c i j' = σ.2 c i j' := by
  rw [l_cell, up1_ne _ _ h]
theorem sl_i (σ : mm) {c i i' : Nat} (j : Nat) (v : Int64) (h : i' ≠ i) : (stL σ c i j v).2 c i' = σ.2 c i' := l_ne σ j v (fun e => h (by injection e))
theorem sl_c (σ : mm) {c c' : Nat} (i j : Nat) (v : Int64) (h : c' ≠ c) : (stL σ c i j v).2 c' = σ.2 c' := l_kind σ i j v h
theorem sl_1 (σ : mm) (c i j : Nat) (v : Int64) : (stL σ c i j v).1 = σ.1 := rfl
-- LOOPS
/-- a loop with a counter, its state before each round in closed form -/
theorem lp_f {S R : Type} {body : S → Option (S ⊕ R)} {s0 : S} {r : R} (st : Nat → S) (N : Nat) (h0 : s0 = st 0) (h1 : ∀ k, k < N → body (st k) = some (.inl (st (k + 1)))) (h2 : body (st N) = some (.inr r)) : lp body s0 = some r := h0 ▸ lp_forS st N h1 h2
/-- a loop with a counter and an invariant; it may end early -/
theorem lp_i {S R : Type} {body : S → Option (S ⊕ R)} {s0 : S} (I : Nat → S → Prop) (P : R → Prop) (N : Nat) (h0 : I 0 s0)
    (h1 : ∀ k s, k < N → I k s → (∃ s', body s = some (.inl s') ∧ I (k + 1) s') ∨ ∃ r, body s = some (.inr r) ∧ P r) (h2 : ∀ s, I N s → ∃ r, body s = some (.inr r) ∧ P r) : ∃ r, lp body s0 = some r ∧ P r := by
  have key : ∀ d k s, k + d = N → I k s → ∃ r, lp body s = some r ∧ P r := by
    intro d
    induction d with
    | zero =>
      intro k s hk hs
      have : k = N := by omega
      subst this
      obtain ⟨r, e, hp⟩ := h2 s hs
      exact ⟨r, lp_end e, hp⟩
    | succ d ih =>
      intro k s hk hs
      rcases h1 k s (by omega) hs with ⟨s', e, hi⟩ | ⟨r, e, hp⟩
      · obtain ⟨r, e2, hp⟩ := ih (k + 1) s' (by omega) hi
        exact ⟨r, (lp_go e).trans e2, hp⟩
      · exact ⟨r, lp_end e, hp⟩
  exact key N 0 s0 (by omega) h0
/-- the same without an early end -/
theorem lp_j {S R : Type} {body : S → Option (S ⊕ R)} {s0 : S} (I : Nat → S → Prop) (P : R → Prop) (N : Nat) (h0 : I 0 s0)
    (h1 : ∀ k s, k < N → I k s → ∃ s', body s = some (.inl s') ∧ I (k + 1) s') (h2 : ∀ s, I N s → ∃ r, body s = some (.inr r) ∧ P r) : ∃ r, lp body s0 = some r ∧ P r :=
  lp_i I P N h0 (fun k s hk hs => Or.inl (h1 k s hk hs)) h2
-- sums, products, sets, counts
def smf (f : Nat → Int) : Nat → Int
  | 0 => 0
  | k + 1 => smf f k + f k
def prf (f : Nat → Int) : Nat → Int
  | 0 => 1
  | k + 1 => prf f k * f k
def mkf (f : Nat → Bool) : Nat → Nat
  | 0 => 0
  | k + 1 => mkf f k + if f k = true then 2 ^ k else 0
def cnf (f : Nat → Bool) : Nat → Nat
  | 0 => 0
  | k + 1 => cnf f k + if f k = true then 1 else 0
theorem smf_c {f g : Nat → Int} {n : Nat} (h : ∀ k, k < n → f k = g k) : smf f n = smf g n := by
  induction n with
  | zero => rfl
  | succ n ih => rw [smf, smf, ih (fun k hk => h k (by omega)), h n (by omega)]
theorem prf_c {f g : Nat → Int} {n : Nat} (h : ∀ k, k < n → f k = g k) : prf f n = prf g n := by
  induction n with
  | zero => rfl
  | succ n ih => rw [prf, prf, ih (fun k hk => h k (by omega)), h n (by omega)]
theorem mkf_c {f g : Nat → Bool} {n : Nat} (h : ∀ k, k < n → f k = g k) : mkf f n = mkf g n := by
  induction n with
  | zero => rfl
  | succ n ih => rw [mkf, mkf, ih (fun k hk => h k (by omega)), h n (by omega)]
theorem cnf_c {f g : Nat → Bool} {n : Nat} (h : ∀ k, k < n → f k = g k) : cnf f n = cnf g n := by
  induction n with
  | zero => rfl
  | succ n ih => rw [cnf, cnf, ih (fun k hk => h k (by omega)), h n (by omega)]
theorem smf_r {f : Nat → Int} {n : Nat} {B : Int} (h : ∀ k, k < n → -B ≤ f k ∧ f k ≤ B) : -(n * B) ≤ smf f n ∧ smf f n ≤ n * B := by
  induction n with
  | zero => exact ⟨by simp [smf], by simp [smf]⟩
  | succ n ih =>
    have h1 := ih (fun k hk => h k (by omega))
    have h2 := h n (by omega)
    rw [smf, Int.natCast_add, Int.add_mul]
    omega
theorem cnf_le (f : Nat → Bool) (n : Nat) : cnf f n ≤ n := by
  induction n with
  | zero => exact Nat.le_refl 0
  | succ n ih =>
    rw [cnf]
    split <;> omega
theorem cnf_mono (f : Nat → Bool) {a b : Nat} (h : a ≤ b) : cnf f a ≤ cnf f b := by
  induction b with
  | zero =>
    have : a = 0 := by omega
    subst this
    exact Nat.le_refl _
  | succ b ih =>
    by_cases hb : a = b + 1
    · subst hb
      exact Nat.le_refl _
    · have := ih (by omega)
      rw [cnf]
      omega
theorem mkf_lt (f : Nat → Bool) (n : Nat) : mkf f n < 2 ^ n := by
  induction n with
  | zero => exact Nat.one_pos
  | succ n ih =>
    rw [mkf, Nat.pow_succ]
    split <;> omega
