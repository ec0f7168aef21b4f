-- GOING THROUGH THE POINTS THAT ARE IN
def fdf {S : Type} (P : Nat → Bool) (g : Nat → Nat → S → S) (s0 : S) : Nat → S
  | 0 => s0
  | k + 1 => if P k = true then g k (cnf P k) (fdf P g s0 k) else fdf P g s0 k
theorem fdf_le {S : Type} {P : Nat → Bool} {g : Nat → Nat → S → S} {s0 : S} {a b : Nat} (hab : a ≤ b) (h : cnf P a = cnf P b) : fdf P g s0 a = fdf P g s0 b := by
  induction b with
  | zero =>
    have : a = 0 := by omega
    subst this
    rfl
  | succ b ih =>
    by_cases hb : a = b + 1
    · subst hb
      rfl
    · have h1 := cnf_mono P (show a ≤ b by omega)
      have hP : ¬ P b = true := by
        intro hp
        rw [cnf, if_pos hp] at h
        omega
      rw [cnf, if_neg hP, Nat.add_zero] at h
      rw [fdf, if_neg hP]
      exact ih (by omega) h
theorem fdf_same {S : Type} {P : Nat → Bool} {g : Nat → Nat → S → S} {s0 : S} {a b : Nat} (h : cnf P a = cnf P b) : fdf P g s0 a = fdf P g s0 b := by
  rcases Nat.le_total a b with q | q
  · exact fdf_le q h
  · exact (fdf_le q h.symm).symm
theorem fdf_yes {S : Type} {P : Nat → Bool} {g : Nat → Nat → S → S} {s0 : S} {k : Nat} (h : P k = true) : fdf P g s0 (k + 1) = g k (cnf P k) (fdf P g s0 k) := if_pos h
theorem fdf_no {S : Type} {P : Nat → Bool} {g : Nat → Nat → S → S} {s0 : S} {k : Nat} (h : ¬ P k = true) : fdf P g s0 (k + 1) = fdf P g s0 k := if_neg h
theorem cnf_yes {P : Nat → Bool} {k : Nat} (h : P k = true) : cnf P (k + 1) = cnf P k + 1 := by rw [cnf, if_pos h]
theorem cnf_no {P : Nat → Bool} {k : Nat} (h : ¬ P k = true) : cnf P (k + 1) = cnf P k := by rw [cnf, if_neg h]; rfl
/-- the i-th that is in -/
theorem cnf_ex {P : Nat → Bool} {n i : Nat} (h : i < cnf P n) : ∃ k, k < n ∧ P k = true ∧ cnf P k = i := by
  induction n with
  | zero => exact absurd h (by simp [cnf])
  | succ n ih =>
    by_cases hP : P n = true
    · rw [cnf_yes hP] at h
      by_cases hi : i = cnf P n
      · exact ⟨n, by omega, hP, hi.symm⟩
      · obtain ⟨k, h1, h2, h3⟩ := ih (by omega)
        exact ⟨k, by omega, h2, h3⟩
    · rw [cnf_no hP] at h
      obtain ⟨k, h1, h2, h3⟩ := ih h
      exact ⟨k, by omega, h2, h3⟩
theorem cnf_uq {P : Nat → Bool} {a b : Nat} (ha : P a = true) (hb : P b = true) (h : cnf P a = cnf P b) : a = b := by
  rcases Nat.lt_trichotomy a b with q | q | q
  · have := cnf_mono P (show a + 1 ≤ b from q)
    rw [cnf_yes ha] at this
    omega
  · exact q
  · have := cnf_mono P (show b + 1 ≤ a from q)
    rw [cnf_yes hb] at this
    omega
-- DIRECTIONS
def lf5 (d : Int) : Nat → Int
  | 0 => d
  | j + 1 => lf5 d j / 5
def wy (n : Nat) (d : Int) (l : Nat) : Int := lf5 d (n - 1 - l) % 5 - 2
def ws (A : bdy) (d : Int) (p : Nat) : Int := smf (fun l => wy A.n d l * pt A p l) A.n
def swg (f : Nat → Int) : Nat → Nat → (Int × Int × Nat) → Int × Int × Nat := fun p c s => (if c = 0 ∨ s.1 < f p then f p else s.1, if c = 0 ∨ f p < s.2.1 then f p else s.2.1, if c = 0 ∨ s.1 < f p then c else s.2.2)
def sw (A : bdy) (d : Int) : Nat → Int × Int × Nat := fdf (inP A) (swg (ws A d)) (0, 0, 0)
def spn (A : bdy) (d : Int) : Int := (sw A d (np A)).1 - (sw A d (np A)).2.1
def thn (A : bdy) : Nat → Int × Nat
  | 0 => (1000000000, 0)
  | k + 1 => if spn A k < (thn A k).1 then (spn A k, k) else thn A k
def d5 (n : Nat) : Nat := 5 ^ n
/-- THE TREE: cells -/
abbrev bx : Type := (Nat → Int) × (Nat → Int)
def lsc (A : bdy) (c : bx) (r : Nat) : Int := smf (fun l => A.rw r (3 + l) * (if 0 < A.rw r (3 + l) then c.1 l else c.2 l)) A.n
def msc (A : bdy) (c : bx) (r : Nat) : Int := smf (fun l => A.rw r (3 + l) * (if 0 < A.rw r (3 + l) then c.2 l else c.1 l)) A.n
def ddk (kd bo wi a b : Int) : Bool := if kd = 0 then decide (bo < a) else if kd = 1 then decide (bo < a ∨ b < bo) else if kd = 2 then decide (bo + wi < a ∨ b < bo - wi) else if kd = 3 then decide (b < a + (bo - a) % wi) else if kd = 4 then decide (bo - wi ≤ a ∧ b ≤ bo + wi) else decide (b < bo)
def whk (kd bo wi a b : Int) : Bool := if kd = 0 then decide (b ≤ bo) else if kd = 1 then decide (a = bo ∧ b = bo) else if kd = 2 then decide (bo - wi ≤ a ∧ b ≤ bo + wi) else if kd = 3 then decide (wi = 1 ∨ a = b ∧ (a - bo) % wi = 0) else if kd = 4 then decide (b < bo - wi ∨ bo + wi < a) else decide (bo ≤ a)
def ddr (A : bdy) (c : bx) (r : Nat) : Bool := ddk (A.rw r 0) (A.rw r 1) (A.rw r 2) (lsc A c r) (msc A c r)
def whr (A : bdy) (c : bx) (r : Nat) : Bool := whk (A.rw r 0) (A.rw r 1) (A.rw r 2) (lsc A c r) (msc A c r)
def vrd (A : bdy) (c : bx) : Nat → Int
  | 0 => -1
  | r + 1 => if 0 ≤ vrd A c r then vrd A c r else if ddr A c r = true then r else if whr A c r = true then vrd A c r else -2
def wid (c : bx) : Nat → Nat
  | 0 => 0
  | i + 1 => if c.2 (wid c i) - c.1 (wid c i) < c.2 (i + 1) - c.1 (i + 1) then i + 1 else wid c i
def wdt (A : bdy) (c : bx) : Nat := wid c (A.n - 1)
def mid (A : bdy) (c : bx) : Int := (c.1 (wdt A c) + c.2 (wdt A c)) / 2
def cLo (A : bdy) (c : bx) : bx := (c.1, up1 c.2 (wdt A c) (mid A c))
def cHi (A : bdy) (c : bx) : bx := (up1 c.1 (wdt A c) (mid A c + 1), c.2)
def tr (A : bdy) : Nat → bx → List (bx × Int)
  | 0, c => [(c, vrd A c A.R)]
  | f + 1, c => if vrd A c A.R = -2 then tr A f (cLo A c) ++ tr A f (cHi A c) else [(c, vrd A c A.R)]
def ncl (A : bdy) : Nat → bx → Nat
  | 0, _ => 1
  | f + 1, c => if vrd A c A.R = -2 then 1 + ncl A f (cLo A c) + ncl A f (cHi A c) else 1
def dpt (A : bdy) : Nat → bx → Nat
  | 0, _ => 0
  | f + 1, c => if vrd A c A.R = -2 then 1 + max (dpt A f (cLo A c)) (dpt A f (cHi A c)) else 0
def ndd : List (bx × Int) → Nat
  | [] => 0
  | q :: L => (if 0 ≤ q.2 then 1 else 0) + ndd L
def lfk (n : Nat) (q : bx × Int) : Nat := pkf q.1.1 n + pkf q.1.2 n * 2 ^ 20 + (q.2 + 1).toNat * 2 ^ 40
def trA (A : bdy) : List (bx × Int) := tr A 20 (A.lo, A.hi)
