-- THE LETTERS one by one: how large the rows get
noncomputable def colm (c : Nat) : Nat → mat → mat
  | 0, M => M
  | m + 1, M => clm c (c + m + 1) (colm c m M)
noncomputable def cols (c : Nat) : Nat → mat → Int
  | 0, _ => 1
  | m + 1, M => cols c m M * sgn (kkf c (c + m + 1) (colm c m M))
/-- the pairs of a letter can be cleared by ints -/
def Leg (n c : Nat) (M : mat) : Prop := ∀ m, c + m + 1 < n → ((colm c m M) c c).natAbs < 2147483648 ∧ ((colm c m M) (c + m + 1) c).natAbs < 2147483648
theorem Leg.cl {n c : Nat} {M : mat} (h : Leg n c M) {m : Nat} (hm : c + m + 1 < n) : kkf c (c + m + 1) (colm c m M) < 100 ∧ Cl c (c + m + 1) (colm c m M) (kkf c (c + m + 1) (colm c m M)) := kkf_s (by omega) (h m hm).1 (h m hm).2
theorem Leg.pr {n c : Nat} {M : mat} (h : Leg n c M) {m : Nat} (hm : c + m + 1 < n) : Pr c (c + m + 1) (colm c m M) (colm c (m + 1) M) (sgn (kkf c (c + m + 1) (colm c m M))) := Pr_it (by omega) (h.cl hm).2.2.1
theorem col_K {n c : Nat} {M : mat} (hL : Leg n c M) (hK : KS n c M) (hn : n ≤ 4) : ∀ m, c + m < n → KS n c (colm c m M) ∧ (∀ i, c < i → i ≤ c + m → colm c m M i c = 0) ∧ (∀ i l, c + m < i → colm c m M i l = M i l) ∧ ∀ i l, i < c → colm c m M i l = M i l := by
  intro m
  induction m with
  | zero => intro _; exact ⟨hK, fun i h1 h2 => by omega, fun _ _ _ => rfl, fun _ _ _ => rfl⟩
  | succ m ih =>
    intro hm
    obtain ⟨i1, i2, i3, i4⟩ := ih (by omega)
    have q := (hL.cl (m := m) (by omega)).2
    have p := hL.pr (m := m) (by omega)
    refine ⟨i1.pair (by omega) (by omega) hn q, fun i h1 h2 => ?_, fun i l hi => by rw [p.1 i l (by omega) (by omega)]; exact i3 i l (by omega), fun i l hi => by rw [p.1 i l (by omega) (by omega)]; exact i4 i l hi⟩
    by_cases g : i = c + m + 1
    · rw [g]; exact q.1
    · rw [p.1 i c (by omega) g]
      exact i2 i h1 (by omega)
/-- the pivot is 0 only if all are -/
theorem col_z {n c : Nat} {M : mat} (hL : Leg n c M) : ∀ m, c + m < n → (colm c m M) c c = 0 → (∀ i, c ≤ i → i ≤ c + m → M i c = 0) ∧ colm c m M = M := by
  intro m
  induction m with
  | zero => intro _ h; exact ⟨fun i h1 h2 => by rw [show i = c by omega]; exact h, rfl⟩
  | succ m ih =>
    intro hm h
    have q := (hL.cl (m := m) (by omega)).2
    have p := hL.pr (m := m) (by omega)
    have z := pe_z p q.1 h
    obtain ⟨j1, j2⟩ := ih (by omega) z.1
    have k0 := cl_z0 q z.2
    refine ⟨fun i h1 h2 => ?_, ?_⟩
    · by_cases g : i = c + m + 1
      · rw [j2] at z
        rw [g]; exact z.2
      · exact j1 i h1 (by omega)
    · show itm c (c + m + 1) (kkf c (c + m + 1) (colm c m M)) (colm c m M) = M
      rw [k0]
      exact j2
-- the first letter
def P0 (m : Nat) (M : mat) : Prop := r0P M ∧ ((∀ l, (M 1 l).natAbs ≤ 32) ∧ (∀ l, (M 2 l).natAbs ≤ 36) ∧ ∀ l, (M 3 l).natAbs ≤ 36) ∧ (∀ i l, m < i → (M i l).natAbs ≤ 4) ∧
  (m < 2 → ∀ l, (m3 (M 0) (M 1) (M 2) 0 1 l).natAbs ≤ 384) ∧ (2 ≤ m → ∀ l, (M 1 1 * M 2 l - M 2 1 * M 1 l).natAbs ≤ 384) ∧ (M 0 0 = 0 → ∀ i l, (M i l).natAbs ≤ 4) ∧ (m = 0 → ∀ l, (M 0 l).natAbs ≤ 4) ∧ ∀ i, 1 ≤ i → i ≤ m → M i 0 = 0
theorem P0_0 {M : mat} (h : ∀ i l, (M i l).natAbs ≤ 4) : P0 0 M := by
  refine ⟨Or.inl (h 0), ⟨fun l => ?_, fun l => ?_, fun l => ?_⟩, fun i l _ => h i l, fun _ l => m3_b (h 0) (h 1) (h 2) 0 1 l, fun h2 => by omega, fun _ => h, fun _ => h 0, fun i h1 h2 => by omega⟩
  · have := h 1 l
    omega
  · have := h 2 l
    omega
  · have := h 3 l
    omega
theorem P0_s {m k : Nat} {M : mat} (h : P0 m M) (hm : m < 3) (hk : Cl 0 (m + 1) M k) : P0 (m + 1) (itm 0 (m + 1) k M) := by
  obtain ⟨h1, ⟨h2, h3, h4⟩, h5, h6, h7, h8, h9, h10⟩ := h
  have p := Pr_it (show 0 ≠ m + 1 by omega) hk.2.1
  have hs := sgn_1 k
  obtain ⟨q1, q2, q3⟩ := pair0 (by omega) h1 (fun l => h5 (m + 1) l (by omega)) hk
  have o := p.1
  have z0 : itm 0 (m + 1) k M 0 0 = 0 → ∀ i l, (itm 0 (m + 1) k M i l).natAbs ≤ 4 := fun g => by
    have z := pe_z p hk.1 g
    have k0 := cl_z0 hk z.2
    rw [k0]
    exact h8 z.1
  have hzz : ∀ i, 1 ≤ i → i ≤ m + 1 → itm 0 (m + 1) k M i 0 = 0 := fun i g1 g2 => by
    by_cases g : i = m + 1
    · rw [g]; exact hk.1
    · rw [o i 0 (by omega) g]
      exact h10 i g1 (by omega)
  refine ⟨q1, ⟨fun l => ?_, fun l => ?_, fun l => ?_⟩, fun i l hi => by rw [o i l (by omega) (by omega)]; exact h5 i l (by omega), fun g l => ?_, fun g l => ?_, z0, fun g => by omega, hzz⟩
  · by_cases g : m = 0
    · subst g
      exact q3 (h9 rfl) l
    · rw [o 1 l (by omega) (by omega)]
      exact h2 l
  · by_cases g : m = 1
    · subst g
      exact q2 l
    · rw [o 2 l (by omega) (by omega)]
      exact h3 l
  · by_cases g : m = 2
    · subst g
      exact q2 l
    · rw [o 3 l (by omega) (by omega)]
      exact h4 l
  · have g : m = 0 := by omega
    subst g
    have e : m3 (M 0) (M 1) (M 2) 0 1 l = sgn k * m3 (itm 0 1 k M 0) (itm 0 1 k M 1) (itm 0 1 k M 2) 0 1 l := by
      obtain ⟨-, ⟨a, b, e, f, g2, g3, g4⟩, -⟩ := p
      rw [show M 0 = _ from funext g2, show M 1 = _ from funext g3, show M 2 = itm 0 1 k M 2 from funext fun l => (o 2 l (by omega) (by omega)).symm, m3_01, g4]
    have := h6 (by omega) l
    rw [sn hs e] at this
    exact this
  · by_cases g1 : m = 1
    · subst g1
      have e : m3 (M 0) (M 1) (M 2) 0 1 l = sgn k * m3 (itm 0 2 k M 0) (itm 0 2 k M 1) (itm 0 2 k M 2) 0 1 l := by
        obtain ⟨-, ⟨a, b, e, f, g2, g3, g4⟩, -⟩ := p
        rw [show M 0 = _ from funext g2, show M 2 = _ from funext g3, show M 1 = itm 0 2 k M 1 from funext fun l => (o 1 l (by omega) (by omega)).symm, m3_02, g4]
      have b3 := h6 (by omega) l
      rw [sn hs e] at b3
      have z1 := hzz 1 (by omega) (by omega)
      have z2 := hzz 2 (by omega) (by omega)
      by_cases g0 : itm 0 2 k M 0 0 = 0
      · have b := z0 g0
        have b1 : (itm 0 2 k M 1 1 * itm 0 2 k M 2 l - itm 0 2 k M 2 1 * itm 0 2 k M 1 l).natAbs ≤ 4 * 4 + 4 * 4 := sb (mb (b 1 1) (b 2 l)) (mb (b 2 1) (b 1 l))
        show (itm 0 2 k M 1 1 * itm 0 2 k M 2 l - itm 0 2 k M 2 1 * itm 0 2 k M 1 l).natAbs ≤ 384
        omega
      · have e3 : m3 (itm 0 2 k M 0) (itm 0 2 k M 1) (itm 0 2 k M 2) 0 1 l = itm 0 2 k M 0 0 * (itm 0 2 k M 1 1 * itm 0 2 k M 2 l - itm 0 2 k M 2 1 * itm 0 2 k M 1 l) := by
          unfold m3
          rw [z1, z2]
          grind
        rw [e3, Int.natAbs_mul] at b3
        have : 1 * (itm 0 2 k M 1 1 * itm 0 2 k M 2 l - itm 0 2 k M 2 1 * itm 0 2 k M 1 l).natAbs ≤ (itm 0 2 k M 0 0).natAbs * (itm 0 2 k M 1 1 * itm 0 2 k M 2 l - itm 0 2 k M 2 1 * itm 0 2 k M 1 l).natAbs := Nat.mul_le_mul_right _ (by omega)
        show (itm 0 2 k M 1 1 * itm 0 2 k M 2 l - itm 0 2 k M 2 1 * itm 0 2 k M 1 l).natAbs ≤ 384
        omega
    · rw [o 1 1 (by omega) (by omega), o 1 l (by omega) (by omega), o 2 1 (by omega) (by omega), o 2 l (by omega) (by omega)]
      exact h7 (by omega) l
def B1 (M : mat) : Prop := (∀ l, (M 0 l).natAbs ≤ 8) ∧ ((∀ l, (M 1 l).natAbs ≤ 32) ∧ (∀ l, (M 2 l).natAbs ≤ 36) ∧ ∀ l, (M 3 l).natAbs ≤ 36) ∧ ∀ l, (M 1 1 * M 2 l - M 2 1 * M 1 l).natAbs ≤ 384
def B2 (M : mat) : Prop := (∀ l, (M 0 l).natAbs ≤ 8) ∧ (∀ l, (M 1 l).natAbs ≤ 16544) ∧ (∀ l, (M 2 l).natAbs ≤ 384) ∧ ∀ l, (M 3 l).natAbs ≤ 16128
def B3 (M : mat) : Prop := (∀ l, (M 0 l).natAbs ≤ 8) ∧ (∀ l, (M 1 l).natAbs ≤ 16544) ∧ (∀ l, (M 2 l).natAbs ≤ 16128) ∧ ∀ l, (M 3 l).natAbs ≤ 16128
theorem P0.small {m : Nat} {M : mat} (h : P0 m M) {r : Nat} (hr : r < 4) (l : Nat) : (M r l).natAbs ≤ 36 := by
  obtain ⟨h1, ⟨h2, h3, h4⟩, -⟩ := h
  have hq : r = 0 ∨ r = 1 ∨ r = 2 ∨ r = 3 := by omega
  rcases hq with rfl | rfl | rfl | rfl
  · have := h1.h8 l
    omega
  · have := h2 l
    omega
  · exact h3 l
  · exact h4 l
theorem st0_P {n : Nat} {M : mat} (hn : n ≤ 4) (h : ∀ i l, (M i l).natAbs ≤ 4) : ∀ m, m < n → P0 m (colm 0 m M) := by
  intro m
  induction m with
  | zero => intro _; exact P0_0 h
  | succ m ih =>
    intro hm
    have p := ih (by omega)
    have b1 := p.small (r := 0) (by omega) 0
    have b2 := p.small (r := m + 1) (by omega) 0
    have q := (kkf_s (c := 0) (r := m + 1) (by omega) (by omega) (by omega) (M := colm 0 m M)).2
    have := P0_s p (by omega) q
    unfold colm clm
    rw [Nat.zero_add]
    exact this
theorem st0_L {n : Nat} {M : mat} (hn : n ≤ 4) (h : ∀ i l, (M i l).natAbs ≤ 4) : Leg n 0 M := by
  intro m hm
  have p := st0_P hn h m (by omega)
  have b1 := p.small (r := 0) (by omega) 0
  have b2 := p.small (r := 0 + m + 1) (by omega) 0
  omega
theorem st0 {n : Nat} {M : mat} (h1 : 1 ≤ n) (hn : n ≤ 4) (h : ∀ i l, (M i l).natAbs ≤ 4) (hK : KS n 0 M) (h0 : colm 0 (n - 1) M 0 0 ≠ 0) : KS n 1 (negm 0 (colm 0 (n - 1) M)) ∧ B1 (negm 0 (colm 0 (n - 1) M)) := by
  obtain ⟨c1, c2, c3, c4⟩ := col_K (st0_L hn h) hK hn (n - 1) (by omega)
  have p := st0_P hn h (n - 1) (by omega)
  have hz : ∀ i, 0 < i → colm 0 (n - 1) M i 0 = 0 := fun i hi => by
    by_cases g : i < n
    · exact c2 i hi (by omega)
    · rw [c1.2.2.1 i 0 (by omega)]
  refine ⟨c1.neg (by omega) hn h0 hz, ?_⟩
  obtain ⟨p1, ⟨p2, p3, p4⟩, p5, p6, p7, -⟩ := p
  have nb := fun i l => neg_b 0 i (colm 0 (n - 1) M) l
  refine ⟨fun l => by rw [nb]; exact p1.h8 l, ⟨fun l => by rw [nb]; exact p2 l, fun l => by rw [nb]; exact p3 l, fun l => by rw [nb]; exact p4 l⟩, fun l => ?_⟩
  rw [neg_o (by decide), neg_o (by decide), neg_o (by decide), neg_o (by decide)]
  by_cases g : 2 ≤ n - 1
  · exact p7 g l
  · rw [c1.2.2.1 2 l (by omega), c1.2.2.1 2 1 (by omega)]
    simp
