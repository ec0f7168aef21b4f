-- A PAIR when it is cleared: how large its rows are
theorem mb {a b : Int} {A B : Nat} (h1 : a.natAbs ≤ A) (h2 : b.natAbs ≤ B) : (a * b).natAbs ≤ A * B := by
  rw [Int.natAbs_mul]
  exact Nat.mul_le_mul h1 h2
theorem sb {a b : Int} {A B : Nat} (h1 : a.natAbs ≤ A) (h2 : b.natAbs ≤ B) : (a - b).natAbs ≤ A + B := by omega
theorem pe_row {c r : Nat} {M M' : mat} {s : Int} (hs : s = 1 ∨ s = -1) (h : Pr c r M M' s) (h0 : M' r c = 0) (l : Nat) : (M c c * M r l - M r c * M c l).natAbs = (M' c c).natAbs * (M' r l).natAbs := by
  obtain ⟨h1, ⟨a, b, e, f, h2, h3, h4⟩, h5⟩ := h
  have hD : M c c * M r l - M r c * M c l = s * (M' c c * M' r l) := by
    rw [h2 c, h2 l, h3 c, h3 l, ← h4, h0]
    grind
  rw [hD, ← Int.natAbs_mul]
  rcases hs with rfl | rfl <;> omega
theorem pe_dvd {c r : Nat} {M M' : mat} {s : Int} (h : Pr c r M M' s) (h0 : M' r c = 0) : (∃ a, M c c = a * M' c c) ∧ ∃ e, M r c = e * M' c c := by
  obtain ⟨h1, ⟨a, b, e, f, h2, h3, h4⟩, h5⟩ := h
  refine ⟨⟨a, ?_⟩, e, ?_⟩
  · rw [h2 c, h0]
    omega
  · rw [h3 c, h0]
    omega
theorem pe_z {c r : Nat} {M M' : mat} {s : Int} (h : Pr c r M M' s) (h0 : M' r c = 0) (hz : M' c c = 0) : M c c = 0 ∧ M r c = 0 := by
  obtain ⟨⟨a, ha⟩, e, he⟩ := pe_dvd h h0
  rw [hz] at ha he
  exact ⟨by rw [ha]; omega, by rw [he]; omega⟩
theorem pe_u {c r : Nat} {M M' : mat} {s : Int} (h : Pr c r M M' s) (h0 : M' r c = 0) (hu : M c c ≠ 0) : M' c c ≠ 0 ∧ (M' c c).natAbs ≤ (M c c).natAbs ∧ ∀ l, (M' c l).natAbs ≤ (M c l).natAbs + (M c c * M r l - M r c * M c l).natAbs := by
  obtain ⟨⟨a, ha⟩, -⟩ := pe_dvd h h0
  have n0 : M' c c ≠ 0 := by
    intro e
    rw [e, Int.mul_zero] at ha
    exact hu ha
  have a0 : a ≠ 0 := by
    intro e
    rw [e, Int.zero_mul] at ha
    exact hu ha
  have hle : (M' c c).natAbs ≤ (M c c).natAbs := by
    rw [ha, Int.natAbs_mul]
    have : 1 * (M' c c).natAbs ≤ a.natAbs * (M' c c).natAbs := Nat.mul_le_mul_right _ (by omega)
    omega
  refine ⟨n0, hle, fun l => ?_⟩
  have g := (h.2.2 hu l).1
  have up : 0 < (M c c).natAbs := by omega
  refine Nat.le_of_mul_le_mul_left ?_ up
  rw [Nat.mul_add]
  have : (M c l).natAbs * (M' c c).natAbs ≤ (M c c).natAbs * (M c l).natAbs := by
    rw [Nat.mul_comm (M c c).natAbs]
    exact Nat.mul_le_mul_left _ hle
  omega
/-- where the pivot is 0, nothing is done, or the rows change places -/
theorem cl_z0 {c r k : Nat} {M : mat} (hc : Cl c r M k) (hr : M r c = 0) : k = 0 := by
  rcases Nat.eq_zero_or_pos k with g | g
  · exact g
  · exact absurd hr (hc.2.1 0 g)
theorem cl_z1 {c r k : Nat} (hcr : c ≠ r) {M : mat} (hc : Cl c r M k) (hu : M c c = 0) (hr : M r c ≠ 0) : k = 1 ∧ (∀ l, itm c r k M c l = M r l) ∧ ∀ l, itm c r k M r l = M c l := by
  have e2 : ∀ l, stp c r M r l = M c l := fun l => by
    rw [stp_r hcr, hu, Int.zero_tdiv]
    omega
  have k1 : k = 1 := by
    rcases Nat.lt_trichotomy k 1 with g | g | g
    · have : k = 0 := by omega
      subst this
      exact absurd hc.1 hr
    · exact g
    · exact absurd ((e2 c).trans hu) (hc.2.1 1 g)
  subst k1
  exact ⟨rfl, fun l => stp_c hcr M l, fun l => e2 l⟩
-- the coefficients, for small heads
def cf : Nat → Int → Int → Int × Int × Int × Int × Int × Int
  | 0, x, y => (x, y, 1, 0, 0, 1)
  | k + 1, x, y => ((cf k x y).2.1, (cf k x y).1 - Int.tdiv (cf k x y).1 (cf k x y).2.1 * (cf k x y).2.1, (cf k x y).2.2.2.2.1, (cf k x y).2.2.2.2.2, (cf k x y).2.2.1 - Int.tdiv (cf k x y).1 (cf k x y).2.1 * (cf k x y).2.2.2.2.1, (cf k x y).2.2.2.1 - Int.tdiv (cf k x y).1 (cf k x y).2.1 * (cf k x y).2.2.2.2.2)
theorem cf_it {c r : Nat} (hcr : c ≠ r) (M : mat) (k : Nat) : itm c r k M c c = (cf k (M c c) (M r c)).1 ∧ itm c r k M r c = (cf k (M c c) (M r c)).2.1 ∧ (∀ l, itm c r k M c l = (cf k (M c c) (M r c)).2.2.1 * M c l + (cf k (M c c) (M r c)).2.2.2.1 * M r l) ∧ ∀ l, itm c r k M r l = (cf k (M c c) (M r c)).2.2.2.2.1 * M c l + (cf k (M c c) (M r c)).2.2.2.2.2 * M r l := by
  induction k with
  | zero =>
    refine ⟨rfl, rfl, fun l => ?_, fun l => ?_⟩
    · show M c l = 1 * M c l + 0 * M r l
      omega
    · show M r l = 0 * M c l + 1 * M r l
      omega
  | succ k ih =>
    obtain ⟨h1, h2, h3, h4⟩ := ih
    have e1 := stp_c hcr (itm c r k M)
    have e2 := stp_r hcr (itm c r k M)
    unfold itm cf
    refine ⟨?_, ?_, fun l => ?_, fun l => ?_⟩
    · rw [e1, h2]
    · rw [e2, h1, h2]
    · rw [e1, h4]
    · rw [e2, h1, h2, h3, h4]
      simp only []
      grind
def tbx (x y : Int) (k : Nat) : Bool := decide ((cf k x y).2.1 = 0) && ((List.range k).all fun j => decide ((cf j x y).2.1 ≠ 0)) &&
  decide ((cf k x y).2.2.1.natAbs + (cf k x y).2.2.2.1.natAbs ≤ 2) && decide ((cf k x y).2.2.1.natAbs + (cf k x y).2.2.2.1.natAbs ≤ 1 ∨ (cf k x y).1.natAbs = 1) && decide ((cf k x y).2.2.2.2.1.natAbs + (cf k x y).2.2.2.2.2.natAbs ≤ 8) &&
  decide (x.natAbs = 1 → (cf k x y).2.2.1.natAbs + (cf k x y).2.2.2.1.natAbs ≤ 1 ∧ (cf k x y).2.2.2.2.1.natAbs ≤ 4 ∧ (cf k x y).2.2.2.2.2.natAbs ≤ 1 ∧ (cf k x y).1.natAbs = 1)
theorem tab : ((List.range 9).all fun x => (List.range 9).all fun y => (List.range 6).any fun k => tbx ((x : Int) - 4) ((y : Int) - 4) k) = true := by decide +kernel
theorem tab_u {x y : Int} (hx : x.natAbs ≤ 4) (hy : y.natAbs ≤ 4) : ∃ k, tbx x y k = true := by
  have h1 := List.all_eq_true.mp tab (x + 4).toNat (by rw [List.mem_range]; omega)
  have h2 := List.all_eq_true.mp h1 (y + 4).toNat (by rw [List.mem_range]; omega)
  obtain ⟨k, -, hk⟩ := List.any_eq_true.mp h2
  rw [show (((x + 4).toNat : Nat) : Int) - 4 = x by omega, show (((y + 4).toNat : Nat) : Int) - 4 = y by omega] at hk
  exact ⟨k, hk⟩
def r0P (M : mat) : Prop := (∀ l, (M 0 l).natAbs ≤ 4) ∨ ((∀ l, (M 0 l).natAbs ≤ 8) ∧ (M 0 0).natAbs = 1)
theorem r0P.h8 {M : mat} (h : r0P M) (l : Nat) : (M 0 l).natAbs ≤ 8 := by
  rcases h with h | h
  · have := h l
    omega
  · exact h.1 l
theorem r0P.h4 {M : mat} (h : r0P M) : (M 0 0).natAbs ≤ 4 := by
  rcases h with h | h
  · exact h 0
  · omega
theorem lcb {a b x y : Int} {A B X Y : Nat} (h1 : a.natAbs ≤ A) (h2 : b.natAbs ≤ B) (h3 : x.natAbs ≤ X) (h4 : y.natAbs ≤ Y) : (a * x + b * y).natAbs ≤ A * X + B * Y := by
  have := mb h1 h3
  have := mb h2 h4
  omega
theorem lcs {a b x y : Int} {A X : Nat} (h1 : a.natAbs + b.natAbs ≤ A) (h3 : x.natAbs ≤ X) (h4 : y.natAbs ≤ X) : (a * x + b * y).natAbs ≤ A * X := by
  have h5 := lcb (Nat.le_refl a.natAbs) (Nat.le_refl b.natAbs) h3 h4
  have h6 : (a.natAbs + b.natAbs) * X ≤ A * X := Nat.mul_le_mul_right _ h1
  rw [Nat.add_mul] at h6
  omega
theorem pair0 {r k : Nat} (hr : 0 ≠ r) {M : mat} (h0 : r0P M) (h4 : ∀ l, (M r l).natAbs ≤ 4) (hc : Cl 0 r M k) : r0P (itm 0 r k M) ∧ (∀ l, (itm 0 r k M r l).natAbs ≤ 36) ∧ ((∀ l, (M 0 l).natAbs ≤ 4) → ∀ l, (itm 0 r k M r l).natAbs ≤ 32) := by
  obtain ⟨k', hk⟩ := tab_u h0.h4 (h4 0)
  unfold tbx at hk
  simp only [Bool.and_eq_true, decide_eq_true_eq, List.all_eq_true, List.mem_range] at hk
  obtain ⟨⟨⟨⟨⟨t1, t2⟩, t3⟩, t4⟩, t5⟩, t6⟩ := hk
  have e := fun j => cf_it hr M j
  have kk : k = k' := by
    rcases Nat.lt_trichotomy k k' with g | g | g
    · exact absurd ((e k).2.1.symm.trans hc.1) (t2 k g)
    · exact g
    · exact absurd ((e k').2.1.trans t1) (hc.2.1 k' g)
  subst kk
  obtain ⟨e1, e2, e3, e4⟩ := e k
  have h32 : (∀ l, (M 0 l).natAbs ≤ 4) → ∀ l, (itm 0 r k M r l).natAbs ≤ 32 := fun h l => by
    rw [e4]
    exact lcs t5 (h l) (h4 l)
  rcases h0 with h0 | ⟨h0, h1⟩
  · refine ⟨?_, fun l => by have := h32 h0 l; omega, h32⟩
    rcases t4 with t4 | t4
    · left
      intro l
      rw [e3]
      exact lcs t4 (h0 l) (h4 l)
    · right
      refine ⟨fun l => ?_, by rw [e1]; exact t4⟩
      rw [e3]
      exact lcs t3 (h0 l) (h4 l)
  · obtain ⟨t6, t7, t8, t9⟩ := t6 h1
    refine ⟨Or.inr ⟨fun l => ?_, by rw [e1]; exact t9⟩, fun l => ?_, h32⟩
    · rw [e3]
      have := lcs t6 (h0 l) (Nat.le_trans (h4 l) (by decide))
      omega
    · rw [e4]
      exact lcb t7 t8 (h0 l) (h4 l)
