-- A PAIR OF ROWS: Euclid's steps on a matrix, how many, what they keep
abbrev mat : Type := Nat → Nat → Int
def stp (c r : Nat) (M : mat) : mat := rsw (rop M c r (-(Int.tdiv (M c c) (M r c)))) c r
def itm (c r : Nat) : Nat → mat → mat
  | 0, M => M
  | k + 1, M => stp c r (itm c r k M)
def sgn : Nat → Int
  | 0 => 1
  | k + 1 => -sgn k
theorem sgn_1 (k : Nat) : sgn k = 1 ∨ sgn k = -1 := by
  induction k with
  | zero => exact Or.inl rfl
  | succ k ih =>
    unfold sgn
    omega
theorem stp_c {c r : Nat} (h : c ≠ r) (M : mat) (l : Nat) : stp c r M c l = M r l := by
  unfold stp rsw rop
  rw [if_pos rfl, if_neg (fun e => h e.symm)]
theorem stp_r {c r : Nat} (h : c ≠ r) (M : mat) (l : Nat) : stp c r M r l = M c l - Int.tdiv (M c c) (M r c) * M r l := by
  unfold stp rsw rop
  rw [if_neg (fun e => h e.symm), if_pos rfl, if_pos rfl, Int.neg_mul]
  omega
theorem stp_o {c r i : Nat} (h1 : i ≠ c) (h2 : i ≠ r) (M : mat) (l : Nat) : stp c r M i l = M i l := by
  unfold stp rsw rop
  rw [if_neg h1, if_neg h2, if_neg h1]
theorem itm_front (c r k : Nat) (M : mat) : itm c r (k + 1) M = itm c r k (stp c r M) := by
  induction k with
  | zero => rfl
  | succ k ih =>
    show stp c r (itm c r (k + 1) M) = stp c r (itm c r k (stp c r M))
    rw [ih]
def Cl (c r : Nat) (M : mat) (k : Nat) : Prop := itm c r k M r c = 0 ∧ (∀ j, j < k → itm c r j M r c ≠ 0) ∧ ∀ j, j ≤ k → (itm c r j M c c).natAbs < 2147483648 ∧ (itm c r j M r c).natAbs < 2147483648
theorem Cl_0 {c r : Nat} {M : mat} (h : M r c = 0) (h1 : (M c c).natAbs < 2147483648) : Cl c r M 0 := by
  refine ⟨h, fun j hj => by omega, fun j hj => ?_⟩
  have : j = 0 := by omega
  subst this
  show (M c c).natAbs < 2147483648 ∧ (M r c).natAbs < 2147483648
  omega
theorem Cl_s {c r k : Nat} {M : mat} (h : M r c ≠ 0) (h1 : (M c c).natAbs < 2147483648) (h2 : (M r c).natAbs < 2147483648) (hk : Cl c r (stp c r M) k) : Cl c r M (k + 1) := by
  obtain ⟨k1, k2, k3⟩ := hk
  refine ⟨by rw [itm_front]; exact k1, fun j hj => ?_, fun j hj => ?_⟩
  · cases j with
    | zero => exact h
    | succ j =>
      rw [itm_front]
      exact k2 j (by omega)
  · cases j with
    | zero => exact ⟨h1, h2⟩
    | succ j =>
      rw [itm_front]
      exact k3 j (by omega)
theorem Cl_uq {c r k k' : Nat} {M : mat} (h : Cl c r M k) (h' : Cl c r M k') : k = k' := by
  rcases Nat.lt_trichotomy k k' with g | g | g
  · exact absurd h.1 (h'.2.1 k g)
  · exact g
  · exact absurd h'.1 (h.2.1 k' g)
theorem cl_ord {c r : Nat} (hcr : c ≠ r) (m : Nat) : ∀ M : mat, (M r c).natAbs ≤ (M c c).natAbs → (M c c).natAbs < 2147483648 → (M c c).natAbs * (M r c).natAbs < 2 ^ m → ∃ k, k ≤ m ∧ Cl c r M k := by
  induction m with
  | zero =>
    intro M h1 h2 h3
    refine ⟨0, Nat.le_refl _, Cl_0 ?_ h2⟩
    by_cases g : (M r c).natAbs = 0
    · omega
    · have : 1 * 1 ≤ (M c c).natAbs * (M r c).natAbs := Nat.mul_le_mul (by omega) (by omega)
      rw [Nat.pow_zero] at h3
      omega
  | succ m ih =>
    intro M h1 h2 h3
    by_cases g : M r c = 0
    · exact ⟨0, Nat.zero_le _, Cl_0 g h2⟩
    · have a1 := eu_rem (x := M c c) g
      have a2 := eu_half g h1
      have e1 := stp_c hcr M c
      have e2 := stp_r hcr M c
      obtain ⟨k, hk, hc⟩ := ih (stp c r M) (by rw [e1, e2]; omega) (by rw [e1]; omega) (by rw [e1, e2]; rw [Nat.pow_succ] at h3; omega)
      exact ⟨k + 1, by omega, Cl_s g h2 (by omega) hc⟩
theorem cl_ex {c r : Nat} (hcr : c ≠ r) {M : mat} (h1 : (M c c).natAbs < 2147483648) (h2 : (M r c).natAbs < 2147483648) : ∃ k, k < 100 ∧ Cl c r M k := by
  have hp : (M c c).natAbs * (M r c).natAbs < 2 ^ 62 := by
    have : (M c c).natAbs * (M r c).natAbs ≤ 2147483647 * 2147483647 := Nat.mul_le_mul (by omega) (by omega)
    omega
  by_cases g : (M r c).natAbs ≤ (M c c).natAbs
  · obtain ⟨k, hk, hc⟩ := cl_ord hcr 62 M g h1 hp
    exact ⟨k, by omega, hc⟩
  · have g0 : M r c ≠ 0 := by omega
    have e1 := stp_c hcr M c
    have e2 := stp_r hcr M c
    have a1 := eu_rem (x := M c c) g0
    have q0 : Int.tdiv (M c c) (M r c) = 0 := by
      apply Int.natAbs_eq_zero.mp
      rw [Int.natAbs_tdiv]
      exact Nat.div_eq_of_lt (by omega)
    rw [q0, Int.zero_mul, Int.sub_zero] at e2
    obtain ⟨k, hk, hc⟩ := cl_ord hcr 62 (stp c r M) (by rw [e1, e2]; omega) (by rw [e1]; omega) (by rw [e1, e2, Nat.mul_comm]; exact hp)
    exact ⟨k + 1, by omega, Cl_s g0 h1 h2 hc⟩
noncomputable def kkf (c r : Nat) (M : mat) : Nat := @dite _ (∃ k, k < 100 ∧ Cl c r M k) (Classical.propDecidable _) (fun h => h.choose) (fun _ => 0)
theorem kkf_s {c r : Nat} (hcr : c ≠ r) {M : mat} (h1 : (M c c).natAbs < 2147483648) (h2 : (M r c).natAbs < 2147483648) : kkf c r M < 100 ∧ Cl c r M (kkf c r M) := by
  have h := cl_ex hcr h1 h2
  have e : kkf c r M = h.choose := by
    unfold kkf
    rw [dif_pos h]
  rw [e]
  exact h.choose_spec
noncomputable def clm (c r : Nat) (M : mat) : mat := itm c r (kkf c r M) M
/-- what the steps keep -/
def Pr (c r : Nat) (M M' : mat) (s : Int) : Prop := (∀ i l, i ≠ c → i ≠ r → M' i l = M i l) ∧
  (∃ a b e f : Int, (∀ l, M c l = a * M' c l + b * M' r l) ∧ (∀ l, M r l = e * M' c l + f * M' r l) ∧ a * f - b * e = s) ∧
  (M c c ≠ 0 → ∀ l, (M c c).natAbs * (M' c l).natAbs ≤ (M c l).natAbs * (M' c c).natAbs + (M c c).natAbs * (M c c * M r l - M r c * M c l).natAbs ∧
     (M c c).natAbs * (M' r l).natAbs ≤ (M c l).natAbs * (M' r c).natAbs + (M c c).natAbs * (M c c * M r l - M r c * M c l).natAbs)
theorem Pr_0 (c r : Nat) (M : mat) : Pr c r M M 1 := by
  refine ⟨fun _ _ _ _ => rfl, ⟨1, 0, 0, 1, fun l => by omega, fun l => by omega, by omega⟩, fun hu l => ⟨?_, ?_⟩⟩
  · rw [Nat.mul_comm]
    exact Nat.le_add_right _ _
  · have e : M c c * M r l = (M c c * M r l - M r c * M c l) + M r c * M c l := by omega
    have h1 : (M c c * M r l).natAbs ≤ (M c c * M r l - M r c * M c l).natAbs + (M r c * M c l).natAbs := by omega
    rw [Int.natAbs_mul, Int.natAbs_mul] at h1
    have h2 : 1 * (M c c * M r l - M r c * M c l).natAbs ≤ (M c c).natAbs * (M c c * M r l - M r c * M c l).natAbs := Nat.mul_le_mul_right _ (by omega)
    rw [Nat.mul_comm (M c l).natAbs]
    omega
theorem Pr_s {c r : Nat} (hcr : c ≠ r) {M M' : mat} {s : Int} (hs : s = 1 ∨ s = -1) (h : Pr c r M M' s) (hy : M' r c ≠ 0) : Pr c r M (stp c r M') (-s) := by
  obtain ⟨h1, ⟨a, b, e, f, h2, h3, h4⟩, h5⟩ := h
  have e1 := stp_c hcr M'
  have e2 := stp_r hcr M'
  refine ⟨fun i l hi hr => by rw [stp_o hi hr, h1 i l hi hr], ⟨a * Int.tdiv (M' c c) (M' r c) + b, a, e * Int.tdiv (M' c c) (M' r c) + f, e, fun l => ?_, fun l => ?_, ?_⟩, fun hu l => ?_⟩
  · rw [h2, e1, e2]
    grind
  · rw [h3, e1, e2]
    grind
  · grind
  · obtain ⟨g1, g2⟩ := h5 hu l
    have hD : M c c * M r l - M r c * M c l = s * (M' c c * M' r l - M' r c * M' c l) := by
      rw [h2 c, h2 l, h3 c, h3 l, ← h4]
      grind
    have hDn : (M c c * M r l - M r c * M c l).natAbs = (M' c c * M' r l - M' r c * M' c l).natAbs := by
      rw [hD]
      rcases hs with rfl | rfl <;> omega
    rw [e1, e1, e2, e2]
    refine ⟨g2, ?_⟩
    rw [hDn] at g2 ⊢
    exact eu_step rfl (eu_rem hy) g2
theorem Pr_it {c r : Nat} (hcr : c ≠ r) {M : mat} {k : Nat} (h : ∀ j, j < k → itm c r j M r c ≠ 0) : Pr c r M (itm c r k M) (sgn k) := by
  induction k with
  | zero => exact Pr_0 c r M
  | succ k ih => exact Pr_s hcr (sgn_1 k) (ih (fun j hj => h j (by omega))) (h k (by omega))
