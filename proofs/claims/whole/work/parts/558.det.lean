-- DETERMINANTS of three and four rows
def m3 (x y z : Nat → Int) (i j k : Nat) : Int := x i * (y j * z k - y k * z j) - x j * (y i * z k - y k * z i) + x k * (y i * z j - y j * z i)
def d4 (x y z w : Nat → Int) : Int := x 0 * m3 y z w 1 2 3 - x 1 * m3 y z w 0 2 3 + x 2 * m3 y z w 0 1 3 - x 3 * m3 y z w 0 1 2
def dd4 (M : mat) : Int := d4 (M 0) (M 1) (M 2) (M 3)
theorem m3_b {x y z : Nat → Int} (hx : ∀ l, (x l).natAbs ≤ 4) (hy : ∀ l, (y l).natAbs ≤ 4) (hz : ∀ l, (z l).natAbs ≤ 4) (i j k : Nat) : (m3 x y z i j k).natAbs ≤ 384 := by
  have a1 := mb (hx i) (sb (mb (hy j) (hz k)) (mb (hy k) (hz j)))
  have a2 := mb (hx j) (sb (mb (hy i) (hz k)) (mb (hy k) (hz i)))
  have a3 := mb (hx k) (sb (mb (hy i) (hz j)) (mb (hy j) (hz i)))
  unfold m3
  omega
theorem d4_b {M : mat} (h : ∀ i l, (M i l).natAbs ≤ 4) : (dd4 M).natAbs ≤ 6144 := by
  have q := fun i j k => m3_b (h 1) (h 2) (h 3) i j k
  have a0 := mb (h 0 0) (q 1 2 3)
  have a1 := mb (h 0 1) (q 0 2 3)
  have a2 := mb (h 0 2) (q 0 1 3)
  have a3 := mb (h 0 3) (q 0 1 2)
  unfold dd4 d4
  omega
theorem m3_01 (x y z : Nat → Int) (a b e f : Int) (i j k : Nat) : m3 (fun l => a * x l + b * y l) (fun l => e * x l + f * y l) z i j k = (a * f - b * e) * m3 x y z i j k := by
  simp only [m3]
  grind
theorem m3_02 (x y z : Nat → Int) (a b e f : Int) (i j k : Nat) : m3 (fun l => a * x l + b * z l) y (fun l => e * x l + f * z l) i j k = (a * f - b * e) * m3 x y z i j k := by
  simp only [m3]
  grind
theorem m3_12 (x y z : Nat → Int) (a b e f : Int) (i j k : Nat) : m3 x (fun l => a * y l + b * z l) (fun l => e * y l + f * z l) i j k = (a * f - b * e) * m3 x y z i j k := by
  simp only [m3]
  grind
theorem d4_12 (x y z w : Nat → Int) (a b e f : Int) : d4 x (fun l => a * y l + b * z l) (fun l => e * y l + f * z l) w = (a * f - b * e) * d4 x y z w := by
  simp only [d4, m3_01]
  grind
theorem d4_13 (x y z w : Nat → Int) (a b e f : Int) : d4 x (fun l => a * y l + b * w l) z (fun l => e * y l + f * w l) = (a * f - b * e) * d4 x y z w := by
  simp only [d4, m3_02]
  grind
theorem d4_23 (x y z w : Nat → Int) (a b e f : Int) : d4 x y (fun l => a * z l + b * w l) (fun l => e * z l + f * w l) = (a * f - b * e) * d4 x y z w := by
  simp only [d4, m3_12]
  grind
theorem d4_01 (x y z w : Nat → Int) (a b e f : Int) : d4 (fun l => a * x l + b * y l) (fun l => e * x l + f * y l) z w = (a * f - b * e) * d4 x y z w := by
  simp only [d4, m3]
  grind
theorem d4_sw (x y z w : Nat → Int) : d4 x y z w = -d4 y x z w := by
  simp only [d4, m3]
  grind
theorem d4_02 (x y z w : Nat → Int) (a b e f : Int) : d4 (fun l => a * x l + b * z l) y (fun l => e * x l + f * z l) w = (a * f - b * e) * d4 x y z w := by
  rw [d4_sw, d4_12, d4_sw x y]
  grind
theorem d4_03 (x y z w : Nat → Int) (a b e f : Int) : d4 (fun l => a * x l + b * w l) y z (fun l => e * x l + f * w l) = (a * f - b * e) * d4 x y z w := by
  rw [d4_sw, d4_13, d4_sw x y]
  grind
theorem d4_pr {c r : Nat} {M M' : mat} {s : Int} (h : Pr c r M M' s) (hc : c < r) (hr : r < 4) : dd4 M = s * dd4 M' := by
  obtain ⟨h1, ⟨a, b, e, f, h2, h3, h4⟩, -⟩ := h
  have e1 : M c = fun l => a * M' c l + b * M' r l := funext h2
  have e2 : M r = fun l => e * M' c l + f * M' r l := funext h3
  have e3 : ∀ i, i ≠ c → i ≠ r → M i = M' i := fun i q1 q2 => funext fun l => (h1 i l q1 q2).symm
  unfold dd4
  have hq : (c = 0 ∧ r = 1) ∨ (c = 0 ∧ r = 2) ∨ (c = 0 ∧ r = 3) ∨ (c = 1 ∧ r = 2) ∨ (c = 1 ∧ r = 3) ∨ (c = 2 ∧ r = 3) := by omega
  rcases hq with ⟨rfl, rfl⟩ | ⟨rfl, rfl⟩ | ⟨rfl, rfl⟩ | ⟨rfl, rfl⟩ | ⟨rfl, rfl⟩ | ⟨rfl, rfl⟩
  · rw [e1, e2, e3 2 (by decide) (by decide), e3 3 (by decide) (by decide), d4_01, h4]
  · rw [e1, e2, e3 1 (by decide) (by decide), e3 3 (by decide) (by decide), d4_02, h4]
  · rw [e1, e2, e3 1 (by decide) (by decide), e3 2 (by decide) (by decide), d4_03, h4]
  · rw [e1, e2, e3 0 (by decide) (by decide), e3 3 (by decide) (by decide), d4_12, h4]
  · rw [e1, e2, e3 0 (by decide) (by decide), e3 2 (by decide) (by decide), d4_13, h4]
  · rw [e1, e2, e3 0 (by decide) (by decide), e3 1 (by decide) (by decide), d4_23, h4]
theorem sn {s x y : Int} (hs : s = 1 ∨ s = -1) (h : x = s * y) : x.natAbs = y.natAbs := by
  rcases hs with rfl | rfl <;> omega
theorem pz {c r l : Nat} {M M' : mat} {s : Int} (hs : s = 1 ∨ s = -1) (h : Pr c r M M' s) (h1 : M c l = 0) (h2 : M r l = 0) : M' c l = 0 ∧ M' r l = 0 := by
  obtain ⟨-, ⟨a, b, e, f, g2, g3, g4⟩, -⟩ := h
  have e1 := g2 l
  have e2 := g3 l
  rw [h1] at e1
  rw [h2] at e2
  have q1 : s * M' c l = 0 := by
    rw [← g4]
    grind
  have q2 : s * M' r l = 0 := by
    rw [← g4]
    grind
  rcases hs with rfl | rfl <;> omega
-- WHAT STANDS at each letter
def KS (n c : Nat) (M : mat) : Prop := (∀ i, i < c → 0 < M i i) ∧ (∀ i l, l < c → l < i → M i l = 0) ∧ (∀ i l, n ≤ i → M i l = 0) ∧ (∀ i l, n ≤ l → M i l = 0) ∧ (dd4 M).natAbs ≤ 6144
theorem KS.pair {n c r k : Nat} {M : mat} (h : KS n c M) (hc : c < r) (hr : r < n) (hn : n ≤ 4) (hk : Cl c r M k) : KS n c (itm c r k M) := by
  obtain ⟨h1, h2, h3, h4, h5⟩ := h
  have p := Pr_it (show c ≠ r by omega) hk.2.1
  have o := p.1
  refine ⟨fun i hi => by rw [o i i (by omega) (by omega)]; exact h1 i hi, fun i l hl hi => ?_, fun i l hi => by rw [o i l (by omega) (by omega)]; exact h3 i l hi, fun i l hl => ?_, ?_⟩
  · have z := pz (sgn_1 k) p (h2 c l hl hl) (h2 r l hl (by omega))
    by_cases g1 : i = c
    · rw [g1]; exact z.1
    · by_cases g2 : i = r
      · rw [g2]; exact z.2
      · rw [o i l g1 g2]
        exact h2 i l hl hi
  · have z := pz (sgn_1 k) p (h4 c l hl) (h4 r l hl)
    by_cases g1 : i = c
    · rw [g1]; exact z.1
    · by_cases g2 : i = r
      · rw [g2]; exact z.2
      · rw [o i l g1 g2]
        exact h4 i l hl
  · rw [← sn (sgn_1 k) (d4_pr p hc (by omega))]
    exact h5
def negm (c : Nat) (M : mat) : mat := if M c c < 0 then rop M c c (-2) else M
def negs (c : Nat) (M : mat) : Int := if M c c < 0 then -1 else 1
theorem neg_o {c i : Nat} (h : i ≠ c) (M : mat) (l : Nat) : negm c M i l = M i l := by
  unfold negm rop
  split
  · simp only [if_neg h]
  · rfl
theorem neg_c (c : Nat) (M : mat) (l : Nat) : negm c M c l = negs c M * M c l := by
  unfold negm rop negs
  split
  · simp only [if_true]
    omega
  · omega
theorem negs_1 (c : Nat) (M : mat) : negs c M = 1 ∨ negs c M = -1 := by
  unfold negs
  split
  · exact Or.inr rfl
  · exact Or.inl rfl
theorem neg_b (c i : Nat) (M : mat) (l : Nat) : (negm c M i l).natAbs = (M i l).natAbs := by
  by_cases h : i = c
  · subst h
    exact sn (negs_1 i M) (neg_c i M l)
  · rw [neg_o h]
theorem neg_p {c : Nat} {M : mat} (h : M c c ≠ 0) : 0 < negm c M c c := by
  rw [neg_c]
  unfold negs
  split <;> omega
theorem d4_n0 (x y z w : Nat → Int) (s : Int) : d4 (fun l => s * x l) y z w = s * d4 x y z w := by
  simp only [d4]
  grind
theorem d4_n1 (x y z w : Nat → Int) (s : Int) : d4 x (fun l => s * y l) z w = s * d4 x y z w := by
  simp only [d4, m3]
  grind
theorem d4_n2 (x y z w : Nat → Int) (s : Int) : d4 x y (fun l => s * z l) w = s * d4 x y z w := by
  simp only [d4, m3]
  grind
theorem d4_n3 (x y z w : Nat → Int) (s : Int) : d4 x y z (fun l => s * w l) = s * d4 x y z w := by
  simp only [d4, m3]
  grind
theorem d4_neg {c : Nat} (hc : c < 4) (M : mat) : (dd4 (negm c M)).natAbs = (dd4 M).natAbs := by
  have e1 : negm c M c = fun l => negs c M * M c l := funext (neg_c c M)
  have e2 : ∀ i, i ≠ c → negm c M i = M i := fun i hi => funext (neg_o hi M)
  refine sn (negs_1 c M) ?_
  unfold dd4
  have hq : c = 0 ∨ c = 1 ∨ c = 2 ∨ c = 3 := by omega
  rcases hq with rfl | rfl | rfl | rfl
  · rw [e1, e2 1 (by decide), e2 2 (by decide), e2 3 (by decide), d4_n0]
  · rw [e1, e2 0 (by decide), e2 2 (by decide), e2 3 (by decide), d4_n1]
  · rw [e1, e2 0 (by decide), e2 1 (by decide), e2 3 (by decide), d4_n2]
  · rw [e1, e2 0 (by decide), e2 1 (by decide), e2 2 (by decide), d4_n3]
theorem KS.neg {n c : Nat} {M : mat} (h : KS n c M) (hc : c < n) (hn : n ≤ 4) (h0 : M c c ≠ 0) (hz : ∀ i, c < i → M i c = 0) : KS n (c + 1) (negm c M) := by
  obtain ⟨h1, h2, h3, h4, h5⟩ := h
  refine ⟨fun i hi => ?_, fun i l hl hi => ?_, fun i l hi => ?_, fun i l hl => ?_, by rw [d4_neg (by omega)]; exact h5⟩
  · by_cases g : i = c
    · rw [g]; exact neg_p h0
    · rw [neg_o g]
      exact h1 i (by omega)
  · have q := neg_b c i M l
    have : M i l = 0 := by
      by_cases g : l = c
      · rw [g]; exact hz i (by omega)
      · exact h2 i l (by omega) hi
    omega
  · have q := neg_b c i M l
    have := h3 i l hi
    omega
  · have q := neg_b c i M l
    have := h4 i l hl
    omega
