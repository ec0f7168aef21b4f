-- NUMBERS: ints as whole numbers, counters, loops with a counter
theorem i_add {a b : Int32} (h1 : -2147483648 ≤ a.toInt + b.toInt) (h2 : a.toInt + b.toInt < 2147483648) : (a + b).toInt = a.toInt + b.toInt := by
  rw [Int32.toInt_add]
  exact Int.bmod_eq_of_le (by omega) (by omega)
theorem i_sub {a b : Int32} (h1 : -2147483648 ≤ a.toInt - b.toInt) (h2 : a.toInt - b.toInt < 2147483648) : (a - b).toInt = a.toInt - b.toInt := by
  rw [Int32.toInt_sub]
  exact Int.bmod_eq_of_le (by omega) (by omega)
theorem i_mul {a b : Int32} (h1 : -2147483648 ≤ a.toInt * b.toInt) (h2 : a.toInt * b.toInt < 2147483648) : (a * b).toInt = a.toInt * b.toInt := by
  rw [Int32.toInt_mul]
  exact Int.bmod_eq_of_le (by omega) (by omega)
theorem i_neg {a : Int32} (h1 : -2147483647 ≤ a.toInt) : (-a).toInt = -a.toInt := by
  rw [Int32.toInt_neg]
  have := a.toInt_lt
  exact Int.bmod_eq_of_le (by omega) (by omega)
theorem i_eq {a b : Int32} : a = b ↔ a.toInt = b.toInt := Int32.toInt_inj.symm
theorem i_lt {a b : Int32} : a < b ↔ a.toInt < b.toInt := Int32.lt_iff_toInt_lt
theorem i_le {a b : Int32} : a ≤ b ↔ a.toInt ≤ b.toInt := Int32.le_iff_toInt_le
theorem i_nat {k : Nat} (h : k < 2147483648) : (Int32.ofNat k).toInt = (k : Int) := Int32.toInt_ofNat_of_lt (by omega)
theorem i_rng (a : Int32) : -2147483648 ≤ a.toInt ∧ a.toInt < 2147483648 := ⟨by have := a.le_toInt; omega, by have := a.toInt_lt; omega⟩
theorem i_of {a : Int32} {k : Nat} (h : a.toInt = (k : Int)) : a = Int32.ofNat k := by
  have := i_rng a
  rw [i_eq, i_nat (by omega), h]
theorem i_inc (k : Nat) : Int32.ofNat k + 1 = Int32.ofNat (k + 1) := (Int32.ofNat_add k 1).symm
theorem n_le {a b : Nat} (ha : a < 2147483648) (hb : b < 2147483648) : Int32.ofNat a ≤ Int32.ofNat b ↔ a ≤ b := by
  rw [i_le, i_nat ha, i_nat hb]
  omega
theorem n_lt {a b : Nat} (ha : a < 2147483648) (hb : b < 2147483648) : Int32.ofNat a < Int32.ofNat b ↔ a < b := by
  rw [i_lt, i_nat ha, i_nat hb]
  omega
theorem n_eq {a b : Nat} (ha : a < 2147483648) (hb : b < 2147483648) : Int32.ofNat a = Int32.ofNat b ↔ a = b := by
  rw [i_eq, i_nat ha, i_nat hb]
  omega
theorem rdI_in {σ : mm} {c i n : Nat} {x : Int32} {k : Nat} (hx : x.toInt = (k : Int)) (h : k < n) : rdI σ c i n x = some (σ.1 c i k) := by
  unfold rdI
  rw [if_pos (by omega), hx]
  rfl
theorem rdL_in {σ : mm} {c i n : Nat} {x : Int32} {k : Nat} (hx : x.toInt = (k : Int)) (h : k < n) : rdL σ c i n x = some (σ.2 c i k) := by
  unfold rdL
  rw [if_pos (by omega), hx]
  rfl
theorem rdR_in {n : Nat} {x : Int32} {k : Nat} (hx : x.toInt = (k : Int)) (h : k < n) : rdR n x = some k := by
  unfold rdR
  rw [if_pos (by omega), hx]
  rfl
theorem wrI_in {σ : mm} {c i n : Nat} {x v : Int32} {k : Nat} (hx : x.toInt = (k : Int)) (h : k < n) : wrI σ c i n x v = some (stI σ c i k v) := by
  unfold wrI
  rw [if_pos (by omega), hx]
  rfl
theorem wrL_in {σ : mm} {c i n : Nat} {x : Int32} {v : Int64} {k : Nat} (hx : x.toInt = (k : Int)) (h : k < n) : wrL σ c i n x v = some (stL σ c i k v) := by
  unfold wrL
  rw [if_pos (by omega), hx]
  rfl
/-- a loop with a counter: its state before each round, and its end -/
theorem lp_for {S R : Type} {body : S → Option (S ⊕ R)} (st : Nat → S) (N : Nat) {X : Option R} (h1 : ∀ k, k < N → body (st k) = some (.inl (st (k + 1)))) (h2 : body (st N) = Option.map Sum.inr X) : lp body (st 0) = X := by
  have key : ∀ k, k ≤ N → lp body (st (N - k)) = X := by
    intro k
    induction k with
    | zero =>
      intro _
      rw [Nat.sub_zero, lp_eq, h2]
      cases X <;> rfl
    | succ k ih =>
      intro hk
      rw [lp_go (h1 (N - (k + 1)) (by omega)), show N - (k + 1) + 1 = N - k by omega]
      exact ih (by omega)
  have := key N (Nat.le_refl _)
  rwa [Nat.sub_self] at this
theorem lp_forS {S R : Type} {body : S → Option (S ⊕ R)} (st : Nat → S) (N : Nat) {r : R} (h1 : ∀ k, k < N → body (st k) = some (.inl (st (k + 1)))) (h2 : body (st N) = some (.inr r)) : lp body (st 0) = some r := lp_for st N (X := some r) h1 h2
/-- what a read finds behind a write -/
theorem g_same (σ : mm) (c i j : Nat) (v : Int32) : (stI σ c i j v).1 c i j = v := by
  show up3 σ.1 c i j v c i j = v
  rw [up3_same, up1_same]
theorem g_cell (σ : mm) (c i j : Nat) (v : Int32) : (stI σ c i j v).1 c i = up1 (σ.1 c i) j v := up3_same _ _ _ _ _
theorem g_ne (σ : mm) {c i c' i' : Nat} (j : Nat) (v : Int32) (h : (c', i') ≠ (c, i)) : (stI σ c i j v).1 c' i' = σ.1 c' i' := up3_ne _ _ _ h
theorem g_kind (σ : mm) {c c' : Nat} (i j : Nat) (v : Int32) (h : c' ≠ c) : (stI σ c i j v).1 c' = σ.1 c' := up1_ne _ _ h
theorem g_long (σ : mm) (c i j : Nat) (v : Int32) : (stI σ c i j v).2 = σ.2 := rfl
theorem l_cell (σ : mm) (c i j : Nat) (v : Int64) : (stL σ c i j v).2 c i = up1 (σ.2 c i) j v := up3_same _ _ _ _ _
theorem l_ne (σ : mm) {c i c' i' : Nat} (j : Nat) (v : Int64) (h : (c', i') ≠ (c, i)) : (stL σ c i j v).2 c' i' = σ.2 c' i' := up3_ne _ _ _ h
theorem l_kind (σ : mm) {c c' : Nat} (i j : Nat) (v : Int64) (h : c' ≠ c) : (stL σ c i j v).2 c' = σ.2 c' := up1_ne _ _ h
theorem l_int (σ : mm) (c i j : Nat) (v : Int64) : (stL σ c i j v).1 = σ.1 := rfl
theorem bi0 (b : Bool) : (bi b = 0) = (b = false) := by cases b <;> simp [bi]
theorem cmp_lt (a b : Int64) : (lg_cmp a b < 0) = (a.toInt < b.toInt) := by
  unfold lg_cmp
  simp only [gt_iff_lt, Int64.lt_iff_toInt_lt, ← Int64.toInt_inj]
  apply propext
  repeat' split
  all_goals (constructor <;> intro hh <;> first | omega | decide | exact absurd hh (by decide))
theorem cmp_gt (a b : Int64) : (0 < lg_cmp a b) = (b.toInt < a.toInt) := by
  unfold lg_cmp
  simp only [gt_iff_lt, Int64.lt_iff_toInt_lt, ← Int64.toInt_inj]
  apply propext
  repeat' split
  all_goals (constructor <;> intro hh <;> first | omega | decide | exact absurd hh (by decide))
theorem in_iff (a b c : Int64) : fX8_in a b c = decide (b.toInt ≤ a.toInt ∧ a.toInt ≤ c.toInt) := by
  unfold fX8_in fX8_in_0
  simp only [cmp_lt, cmp_gt]
  by_cases h1 : a.toInt < b.toInt
  · rw [if_pos h1]
    exact (decide_eq_false (by omega)).symm
  · rw [if_neg h1]
    by_cases h2 : c.toInt < a.toInt
    · rw [if_pos h2]
      exact (decide_eq_false (by omega)).symm
    · rw [if_neg h2]
      exact (decide_eq_true (by omega)).symm
theorem in_i (a : Int32) (b c : Int64) : fX8_in a.toInt64 b c = decide (b.toInt ≤ a.toInt ∧ a.toInt ≤ c.toInt) := by
  rw [in_iff, Int32.toInt_toInt64]
