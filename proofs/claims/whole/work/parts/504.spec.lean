-- POINTS: by their place
def lft (A : bdy) (k : Int) : Nat → Int
  | 0 => k
  | j + 1 => lft A k j / wd A (A.n - 1 - j)
def pt (A : bdy) (k : Nat) (l : Nat) : Int := if l < A.n then A.lo l + lft A k (A.n - 1 - l) % wd A l else A.lo l
/-- whether a row of a kind holds by its sum less its bound -/
def hb (kd wi ov : Int) : Bool := if kd = 1 then decide (ov = 0) else if kd = 2 then decide (-wi ≤ ov ∧ ov ≤ wi) else if kd = 3 then decide (ov % wi = 0) else if kd = 4 then !decide (-wi ≤ ov ∧ ov ≤ wi) else if kd = 5 then decide (0 ≤ ov) else decide (ov ≤ 0)
def sm (A : bdy) (r : Nat) (x : Nat → Int) : Int := smf (fun l => A.rw r (3 + l) * x l) A.n
def hdr (A : bdy) (x : Nat → Int) (r : Nat) : Bool := hb (A.rw r 0) (A.rw r 2) (sm A r x - A.rw r 1)
def brk (A : bdy) (k : Nat) : Nat := mkf (fun r => !hdr A (pt A k) r) A.R
def inP (A : bdy) (k : Nat) : Bool := decide (brk A k = 0)
def np (A : bdy) : Nat := (pts A).toNat
def spt (A : bdy) (k : Nat) : Nat := pkf (pt A k) A.n + brk A k * 2 ^ 20
theorem lft_r {A : bdy} (hA : okb A) {k : Nat} (hk : k < np A) (j : Nat) : 0 ≤ lft A k j ∧ lft A k j < 4096 := by
  induction j with
  | zero =>
    have := hA.2.2.2.2.2
    unfold np at hk
    unfold lft
    omega
  | succ j ih =>
    have hw : 1 ≤ wd A (A.n - 1 - j) := (hA.wdr (by have := hA.1; omega)).1
    unfold lft
    refine ⟨Int.ediv_nonneg ih.1 (by omega), ?_⟩
    have : lft A (↑k) j / wd A (A.n - 1 - j) ≤ lft A (↑k) j := Int.ediv_le_self _ ih.1
    omega
theorem pt_r {A : bdy} (hA : okb A) (k : Nat) {l : Nat} (hl : l < 4) : A.lo l ≤ pt A k l ∧ pt A k l ≤ A.hi l := by
  have h := hA.bx hl
  have hw := hA.wdr hl
  unfold pt
  split
  · have h1 := Int.emod_nonneg (lft A k (A.n - 1 - l)) (show wd A l ≠ 0 by omega)
    have h2 := Int.emod_lt_of_pos (lft A k (A.n - 1 - l)) (show 0 < wd A l by omega)
    unfold wd at h2 h1 ⊢
    omega
  · omega
theorem pt_9 {A : bdy} (hA : okb A) (k : Nat) {l : Nat} (hl : l < 4) : -9 ≤ pt A k l ∧ pt A k l ≤ 9 := by
  have h := hA.bx hl
  have := pt_r hA k hl
  omega
theorem mul_r {a b A B : Int} (h1 : -A ≤ a ∧ a ≤ A) (h2 : -B ≤ b ∧ b ≤ B) (hA : 0 ≤ A) (hB : 0 ≤ B) : -(A * B) ≤ a * b ∧ a * b ≤ A * B := by
  have p1 : 0 ≤ (A - a) * (B - b) := Int.mul_nonneg (by omega) (by omega)
  have p2 : 0 ≤ (A + a) * (B + b) := Int.mul_nonneg (by omega) (by omega)
  have p3 : 0 ≤ (A - a) * (B + b) := Int.mul_nonneg (by omega) (by omega)
  have p4 : 0 ≤ (A + a) * (B - b) := Int.mul_nonneg (by omega) (by omega)
  have e1 : (A - a) * (B - b) = A * B - A * b - a * B + a * b := by rw [Int.sub_mul, Int.mul_sub, Int.mul_sub]; omega
  have e2 : (A + a) * (B + b) = A * B + A * b + a * B + a * b := by rw [Int.add_mul, Int.mul_add, Int.mul_add]; omega
  have e3 : (A - a) * (B + b) = A * B + A * b - a * B - a * b := by rw [Int.sub_mul, Int.mul_add, Int.mul_add]; omega
  have e4 : (A + a) * (B - b) = A * B - A * b + a * B - a * b := by rw [Int.add_mul, Int.mul_sub, Int.mul_sub]; omega
  omega
theorem sm_r {A : bdy} (hA : okb A) {r : Nat} (hr : r < A.R) {x : Nat → Int} {B : Int} (hB : 0 ≤ B) (hx : ∀ l, l < A.n → -B ≤ x l ∧ x l ≤ B) : -(36 * B) ≤ sm A r x ∧ sm A r x ≤ 36 * B := by
  have h := smf_r (f := fun l => A.rw r (3 + l) * x l) (n := A.n) (B := 9 * B) (fun l hl => mul_r ((hA.2.2.2.1 r hr).2.2.2 l (by have := hA.1; omega)) (hx l hl) (by omega) hB)
  have h4 : (A.n : Int) * (9 * B) ≤ 4 * (9 * B) := Int.mul_le_mul_of_nonneg_right (by have := hA.1; omega) (by omega)
  unfold sm
  omega
theorem brk_lt {A : bdy} (hA : okb A) (k : Nat) : brk A k < 256 := by
  have h := mkf_lt (fun r => !hdr A (pt A k) r) A.R
  have h2 : (2 : Nat) ^ A.R ≤ 2 ^ 8 := Nat.pow_le_pow_right (by decide) hA.2.1
  unfold brk
  omega
theorem spt_lt {A : bdy} (hA : okb A) (k : Nat) : spt A k < 2 ^ 28 := by
  have h1 := brk_lt hA k
  have h2 : pkf (pt A k) A.n < 2 ^ (5 * A.n) := pkf_lt (fun l hl => by have := pt_9 hA k (l := l) (by have := hA.1; omega); omega)
  have h3 : (2 : Nat) ^ (5 * A.n) ≤ 2 ^ 20 := Nat.pow_le_pow_right (by decide) (by have := hA.1; omega)
  unfold spt
  omega
theorem spt_get {A : bdy} (hA : okb A) (k : Nat) {l : Nat} (hl : l < A.n) : spt A k / 2 ^ (5 * l) % 32 = (pt A k l + 9).toNat := by
  have hn := hA.1
  have e : brk A k * 2 ^ 20 = (brk A k * 2 ^ (20 - 5 * A.n)) * 2 ^ (5 * A.n) := by
    rw [Nat.mul_assoc, ← Nat.pow_add]
    congr 2
    omega
  unfold spt
  rw [e]
  exact pkf_get (fun l hl => by have := pt_9 hA k (l := l) (by omega); omega) hl _
theorem spt_brk {A : bdy} (hA : okb A) (k : Nat) : spt A k / 2 ^ 20 = brk A k := by
  have h2 : pkf (pt A k) A.n < 2 ^ (5 * A.n) := pkf_lt (fun l hl => by have := pt_9 hA k (l := l) (by have := hA.1; omega); omega)
  have h3 : (2 : Nat) ^ (5 * A.n) ≤ 2 ^ 20 := Nat.pow_le_pow_right (by decide) (by have := hA.1; omega)
  unfold spt
  rw [Nat.add_mul_div_right _ _ (Nat.two_pow_pos _), Nat.div_eq_of_lt (by omega), Nat.zero_add]
