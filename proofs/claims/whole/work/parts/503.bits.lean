-- BITS of numbers that aren't negative
theorem bv_n (n : Nat) : (ii (n : Nat)).toBitVec = BitVec.ofNat 32 n := by
  rw [← ii_nat]
  rfl
theorem bw_n (n : Nat) : (ll (n : Nat)).toBitVec = BitVec.ofNat 64 n := by
  rw [← ll_nat]
  rfl
theorem or_n (a b : Nat) : ii a ||| ii b = ii ((a ||| b : Nat)) := by
  apply Int32.toBitVec_inj.1
  rw [Int32.toBitVec_or, bv_n, bv_n, bv_n]
  apply BitVec.eq_of_getLsbD_eq
  intro i hi
  simp [hi]
theorem and_n (a b : Nat) : ii a &&& ii b = ii ((a &&& b : Nat)) := by
  apply Int32.toBitVec_inj.1
  rw [Int32.toBitVec_and, bv_n, bv_n, bv_n]
  apply BitVec.eq_of_getLsbD_eq
  intro i hi
  simp [hi]
theorem orl_n (a b : Nat) : ll a ||| ll b = ll ((a ||| b : Nat)) := by
  apply Int64.toBitVec_inj.1
  rw [Int64.toBitVec_or, bw_n, bw_n, bw_n]
  apply BitVec.eq_of_getLsbD_eq
  intro i hi
  simp [hi]
theorem andl_n (a b : Nat) : ll a &&& ll b = ll ((a &&& b : Nat)) := by
  apply Int64.toBitVec_inj.1
  rw [Int64.toBitVec_and, bw_n, bw_n, bw_n]
  apply BitVec.eq_of_getLsbD_eq
  intro i hi
  simp [hi]
theorem sc32 : ∀ s : Nat, s < 32 → ((ii (s : Nat) &&& ii 31).toBitVec.smod 32).toNat = s := by decide +kernel
theorem sc64 : ∀ s : Nat, s < 64 → (((ii (s : Nat)).toInt64 &&& ll 63).toBitVec.smod 64).toNat = s := by decide +kernel
theorem shr_n {a : Int} {s : Nat} (h1 : -2147483648 ≤ a) (h2 : a < 2147483648) (hs : s < 32) : ii a >>> (ii (s : Nat) &&& ii 31) = ii (a / ((2 ^ s : Nat) : Int)) := by
  apply Int32.toBitVec_inj.1
  rw [Int32.toBitVec_shiftRight]
  show (ii a).toBitVec.sshiftRight ((ii (s : Nat) &&& ii 31).toBitVec.smod 32).toNat = BitVec.ofInt 32 (a / ((2 ^ s : Nat) : Int))
  rw [sc32 s hs, BitVec.sshiftRight_eq, show (ii a).toBitVec.toInt = (ii a).toInt from rfl, ii_t h1 h2, Int.shiftRight_eq_div_pow]
theorem shl_n (a : Nat) {s : Nat} (hs : s < 32) : ii (a : Nat) <<< (ii (s : Nat) &&& ii 31) = ii ((a * 2 ^ s : Nat)) := by
  apply Int32.toBitVec_inj.1
  rw [Int32.toBitVec_shiftLeft]
  show (ii a).toBitVec <<< ((ii (s : Nat) &&& ii 31).toBitVec.smod 32).toNat = _
  rw [sc32 s hs, bv_n, bv_n]
  apply BitVec.eq_of_toNat_eq
  rw [BitVec.toNat_shiftLeft, BitVec.toNat_ofNat, BitVec.toNat_ofNat, Nat.shiftLeft_eq, Nat.mod_mul_mod]
theorem shrl_n {a : Int} {s : Nat} (h1 : -9223372036854775808 ≤ a) (h2 : a < 9223372036854775808) (hs : s < 64) : ll a >>> ((ii (s : Nat)).toInt64 &&& ll 63) = ll (a / ((2 ^ s : Nat) : Int)) := by
  apply Int64.toBitVec_inj.1
  rw [Int64.toBitVec_shiftRight]
  show (ll a).toBitVec.sshiftRight (((ii (s : Nat)).toInt64 &&& ll 63).toBitVec.smod 64).toNat = BitVec.ofInt 64 (a / ((2 ^ s : Nat) : Int))
  rw [sc64 s hs, BitVec.sshiftRight_eq, show (ll a).toBitVec.toInt = (ll a).toInt from rfl, ll_t h1 h2, Int.shiftRight_eq_div_pow]
theorem shll_n (a : Nat) {s : Nat} (hs : s < 64) : ll (a : Nat) <<< ((ii (s : Nat)).toInt64 &&& ll 63) = ll ((a * 2 ^ s : Nat)) := by
  apply Int64.toBitVec_inj.1
  rw [Int64.toBitVec_shiftLeft]
  show (ll a).toBitVec <<< (((ii (s : Nat)).toInt64 &&& ll 63).toBitVec.smod 64).toNat = _
  rw [sc64 s hs, bw_n, bw_n]
  apply BitVec.eq_of_toNat_eq
  rw [BitVec.toNat_shiftLeft, BitVec.toNat_ofNat, BitVec.toNat_ofNat, Nat.shiftLeft_eq, Nat.mod_mul_mod]
theorem or_hi {a b k : Nat} (h : a < 2 ^ k) : a ||| b * 2 ^ k = a + b * 2 ^ k := by
  rw [Nat.mul_comm b, Nat.or_comm, ← Nat.two_pow_add_eq_or_of_lt h, Nat.add_comm]
/-- a bit is set in a set of lesser bits -/
theorem or_bit {m r : Nat} (hm : m < 2 ^ r) (hr : r < 32) : ii (m : Nat) ||| (ii 1 <<< (ii (r : Nat) &&& ii 31)) = ii ((m + 2 ^ r : Nat)) := by
  rw [show ii 1 = ii ((1 : Nat) : Int) from rfl, shl_n 1 hr, or_n, or_hi hm, Nat.one_mul]
theorem mkf_bit (f : Nat → Bool) (n i : Nat) : (mkf f n).testBit i = (decide (i < n) && f i) := by
  induction n with
  | zero => simp [mkf]
  | succ n ih =>
    rw [mkf]
    by_cases hf : f n = true
    · rw [if_pos hf, Nat.add_comm, ← Nat.mul_one (2 ^ n), Nat.two_pow_add_eq_or_of_lt (mkf_lt f n), Nat.testBit_or, ih, Nat.mul_one, Nat.testBit_two_pow]
      by_cases hi : i = n
      · subst hi
        simp [hf]
      · by_cases h2 : i < n
        · simp [h2, show i < n + 1 by omega, show ¬ n = i by omega]
        · simp [h2, show ¬ i < n + 1 by omega, show ¬ n = i by omega]
    · rw [if_neg hf, Nat.add_zero, ih]
      by_cases hi : i = n
      · subst hi
        simp only [Bool.not_eq_true] at hf
        simp [hf]
      · by_cases h2 : i < n
        · simp [h2, show i < n + 1 by omega]
        · simp [h2, show ¬ i < n + 1 by omega]
theorem mkf_0 {f : Nat → Bool} {n : Nat} : mkf f n = 0 ↔ ∀ r, r < n → f r = false := by
  constructor
  · intro h r hr
    have := mkf_bit f n r
    rw [h] at this
    simpa [hr] using this.symm
  · intro h
    rw [mkf_c (g := fun _ => false) (fun k hk => h k hk)]
    clear h
    induction n with
    | zero => rfl
    | succ n ih => simp [mkf, ih]
/-- packed letters -/
def pkf (x : Nat → Int) : Nat → Nat
  | 0 => 0
  | k + 1 => pkf x k + (x k + 9).toNat * 2 ^ (5 * k)
theorem pkf_lt {x : Nat → Int} {n : Nat} (h : ∀ k, k < n → -9 ≤ x k ∧ x k ≤ 22) : pkf x n < 2 ^ (5 * n) := by
  induction n with
  | zero => exact Nat.one_pos
  | succ n ih =>
    have h1 := ih (fun k hk => h k (by omega))
    have h2 := h n (by omega)
    rw [pkf, show 5 * (n + 1) = 5 * n + 5 by omega, Nat.pow_add]
    have h3 : (x n + 9).toNat * 2 ^ (5 * n) ≤ 31 * 2 ^ (5 * n) := Nat.mul_le_mul_right _ (by omega)
    omega
theorem pkf_get {x : Nat → Int} {n l : Nat} (h : ∀ k, k < n → -9 ≤ x k ∧ x k ≤ 22) (hl : l < n) (hi : Nat) : (pkf x n + hi * 2 ^ (5 * n)) / 2 ^ (5 * l) % 32 = (x l + 9).toNat := by
  induction n generalizing hi with
  | zero => omega
  | succ n ih =>
    have h2 := h n (by omega)
    have e : pkf x (n + 1) + hi * 2 ^ (5 * (n + 1)) = pkf x n + ((x n + 9).toNat + hi * 32) * 2 ^ (5 * n) := by
      rw [pkf, show 5 * (n + 1) = 5 * n + 5 by omega, Nat.pow_add, Nat.add_mul, Nat.add_assoc, Nat.mul_assoc hi, show (2 : Nat) ^ 5 = 32 from rfl, Nat.mul_comm 32]
    rw [e]
    by_cases hn : l = n
    · subst hn
      rw [Nat.add_mul_div_right _ _ (Nat.two_pow_pos _), Nat.div_eq_of_lt (pkf_lt (fun k hk => h k (by omega))), Nat.zero_add, Nat.add_mul_mod_self_right, Nat.mod_eq_of_lt (by omega)]
    · exact ih (fun k hk => h k (by omega)) (by omega) _
/-- a letter of a packed point -/
theorem unpack_n {m l : Nat} (hm : m < 2147483648) (hl : l < 4) : fX7_unpack (ii (m : Nat)) (ii (l : Nat)) = ii (((m / 2 ^ (5 * l) % 32 : Nat) : Int) - 9) := by
  unfold fX7_unpack fX7_unpack_0
  simp only [ii_lit, ii_mul]
  rw [show (5 : Int) * (l : Int) = ((5 * l : Nat) : Int) by omega, shr_n (by omega) (by omega) (by omega), ← Int.natCast_ediv, show (31 : Int) = ((31 : Nat) : Int) from rfl, and_n, ii_sub]
  rw [show (31 : Nat) = 2 ^ 5 - 1 from rfl, Nat.and_two_pow_sub_one_eq_mod]
