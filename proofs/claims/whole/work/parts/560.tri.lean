-- THE OTHER LETTERS; the triangle
def Q1 (M : mat) : Prop := (((∀ l, (M 1 l).natAbs ≤ 416) ∧ (M 1 1).natAbs ≤ 32) ∨ ((∀ l, (M 1 l).natAbs ≤ 36) ∧ (M 1 1).natAbs ≤ 36)) ∧ (∀ l, (M 2 l).natAbs ≤ 384) ∧ (∀ l, (M 3 l).natAbs ≤ 36) ∧ ∀ l, (M 0 l).natAbs ≤ 8
theorem row_le {a b D : Nat} (h : D = a * b) (ha : a ≠ 0) : b ≤ D := by
  have : 1 * b ≤ a * b := Nat.mul_le_mul_right _ (by omega)
  omega
theorem s12 {k : Nat} {M : mat} (h : B1 M) (hk : Cl 1 2 M k) : Q1 (itm 1 2 k M) := by
  obtain ⟨h0, ⟨h1, h2, h3⟩, hm⟩ := h
  have p := Pr_it (show 1 ≠ 2 by omega) hk.2.1
  have o := p.1
  refine ⟨?_, ?_, fun l => by rw [o 3 l (by omega) (by omega)]; exact h3 l, fun l => by rw [o 0 l (by omega) (by omega)]; exact h0 l⟩
  · by_cases hu : M 1 1 = 0
    · by_cases hr : M 2 1 = 0
      · have k0 := cl_z0 hk hr
        subst k0
        exact Or.inl ⟨fun l => by have := h1 l; show (M 1 l).natAbs ≤ 416; omega, h1 1⟩
      · obtain ⟨-, z1, z2⟩ := cl_z1 (by omega) hk hu hr
        exact Or.inr ⟨fun l => by rw [z1]; exact h2 l, by rw [z1]; exact h2 1⟩
    · obtain ⟨u1, u2, u3⟩ := pe_u p hk.1 hu
      refine Or.inl ⟨fun l => ?_, ?_⟩
      · have a1 := u3 l
        have a2 := hm l
        have a3 := h1 l
        omega
      · have := h1 1
        omega
  · intro l
    by_cases hu : M 1 1 = 0
    · by_cases hr : M 2 1 = 0
      · have k0 := cl_z0 hk hr
        subst k0
        have := h2 l
        show (M 2 l).natAbs ≤ 384
        omega
      · obtain ⟨-, z1, z2⟩ := cl_z1 (by omega) hk hu hr
        rw [z2]
        have := h1 l
        omega
    · obtain ⟨u1, u2, u3⟩ := pe_u p hk.1 hu
      have := row_le (pe_row (sgn_1 k) p hk.1 l) (by omega)
      have := hm l
      omega
theorem s13 {k : Nat} {M : mat} (h : Q1 M) (hk : Cl 1 3 M k) : B2 (itm 1 3 k M) := by
  obtain ⟨h1, h2, h3, h0⟩ := h
  have p := Pr_it (show 1 ≠ 3 by omega) hk.2.1
  have o := p.1
  have r1 : ∀ l, (M 1 l).natAbs ≤ 416 := fun l => by
    rcases h1 with h1 | h1
    · exact h1.1 l
    · have := h1.1 l
      omega
  have hD : ∀ l, (M 1 1 * M 3 l - M 3 1 * M 1 l).natAbs ≤ 16128 := fun l => by
    rcases h1 with h1 | h1
    · exact sb (mb h1.2 (h3 l)) (mb (h3 1) (h1.1 l))
    · have := sb (mb h1.2 (h3 l)) (mb (h3 1) (h1.1 l))
      omega
  refine ⟨fun l => by rw [o 0 l (by omega) (by omega)]; exact h0 l, ?_, fun l => by rw [o 2 l (by omega) (by omega)]; exact h2 l, ?_⟩
  · intro l
    by_cases hu : M 1 1 = 0
    · by_cases hr : M 3 1 = 0
      · have k0 := cl_z0 hk hr
        subst k0
        have := r1 l
        show (M 1 l).natAbs ≤ 16544
        omega
      · obtain ⟨-, z1, z2⟩ := cl_z1 (by omega) hk hu hr
        rw [z1]
        have := h3 l
        omega
    · obtain ⟨u1, u2, u3⟩ := pe_u p hk.1 hu
      have a1 := u3 l
      have a2 := hD l
      have a3 := r1 l
      omega
  · intro l
    by_cases hu : M 1 1 = 0
    · by_cases hr : M 3 1 = 0
      · have k0 := cl_z0 hk hr
        subst k0
        have := h3 l
        show (M 3 l).natAbs ≤ 16128
        omega
      · obtain ⟨-, z1, z2⟩ := cl_z1 (by omega) hk hu hr
        rw [z2]
        have := r1 l
        omega
    · obtain ⟨u1, u2, u3⟩ := pe_u p hk.1 hu
      have := row_le (pe_row (sgn_1 k) p hk.1 l) (by omega)
      have := hD l
      omega
theorem s23 {k : Nat} {M : mat} (h : B2 M) (hK : KS 4 2 M) (hk : Cl 2 3 M k) : B3 (itm 2 3 k M) := by
  obtain ⟨h0, h1, h2, h3⟩ := h
  obtain ⟨k1, k2, k3, k4, k5⟩ := hK
  have p := Pr_it (show 2 ≠ 3 by omega) hk.2.1
  have o := p.1
  have hD3 : (M 2 2 * M 3 3 - M 3 2 * M 2 3).natAbs ≤ 6144 := by
    have e : dd4 M = (M 0 0 * M 1 1) * (M 2 2 * M 3 3 - M 3 2 * M 2 3) := by
      unfold dd4 d4 m3
      rw [k2 1 0 (by omega) (by omega), k2 2 0 (by omega) (by omega), k2 3 0 (by omega) (by omega), k2 2 1 (by omega) (by omega), k2 3 1 (by omega) (by omega)]
      grind
    rw [e, Int.natAbs_mul] at k5
    have q0 := k1 0 (by omega)
    have q1 := k1 1 (by omega)
    have qp : 0 < M 0 0 * M 1 1 := Int.mul_pos q0 q1
    have := row_le (D := (M 0 0 * M 1 1).natAbs * (M 2 2 * M 3 3 - M 3 2 * M 2 3).natAbs) rfl (by omega)
    omega
  have hD : ∀ l, (M 2 2 * M 3 l - M 3 2 * M 2 l).natAbs ≤ 6144 := fun l => by
    by_cases g3 : l = 3
    · rw [g3]; exact hD3
    · by_cases g2 : l = 2
      · rw [g2, Int.mul_comm, Int.sub_self]
        decide
      · have z : M 2 l = 0 ∧ M 3 l = 0 := by
          by_cases g : l < 2
          · exact ⟨k2 2 l g (by omega), k2 3 l g (by omega)⟩
          · exact ⟨k4 2 l (by omega), k4 3 l (by omega)⟩
        rw [z.1, z.2]
        simp
  refine ⟨fun l => by rw [o 0 l (by omega) (by omega)]; exact h0 l, fun l => by rw [o 1 l (by omega) (by omega)]; exact h1 l, ?_, ?_⟩
  · intro l
    by_cases hu : M 2 2 = 0
    · by_cases hr : M 3 2 = 0
      · have k0 := cl_z0 hk hr
        subst k0
        have := h2 l
        show (M 2 l).natAbs ≤ 16128
        omega
      · obtain ⟨-, z1, z2⟩ := cl_z1 (by omega) hk hu hr
        rw [z1]
        exact h3 l
    · obtain ⟨u1, u2, u3⟩ := pe_u p hk.1 hu
      have a1 := u3 l
      have a2 := hD l
      have a3 := h2 l
      omega
  · intro l
    by_cases hu : M 2 2 = 0
    · by_cases hr : M 3 2 = 0
      · have k0 := cl_z0 hk hr
        subst k0
        exact h3 l
      · obtain ⟨-, z1, z2⟩ := cl_z1 (by omega) hk hu hr
        rw [z2]
        have := h2 l
        omega
    · obtain ⟨u1, u2, u3⟩ := pe_u p hk.1 hu
      have := row_le (pe_row (sgn_1 k) p hk.1 l) (by omega)
      have := hD l
      omega
theorem B3.neg {M : mat} (c : Nat) (h : B3 M) : B3 (negm c M) := by
  obtain ⟨h0, h1, h2, h3⟩ := h
  exact ⟨fun l => by rw [neg_b]; exact h0 l, fun l => by rw [neg_b]; exact h1 l, fun l => by rw [neg_b]; exact h2 l, fun l => by rw [neg_b]; exact h3 l⟩
theorem B2.neg {M : mat} (c : Nat) (h : B2 M) : B2 (negm c M) := by
  obtain ⟨h0, h1, h2, h3⟩ := h
  exact ⟨fun l => by rw [neg_b]; exact h0 l, fun l => by rw [neg_b]; exact h1 l, fun l => by rw [neg_b]; exact h2 l, fun l => by rw [neg_b]; exact h3 l⟩
theorem B2.b3 {M : mat} (h : B2 M) : B3 M := ⟨h.1, h.2.1, fun l => by have := h.2.2.1 l; omega, h.2.2.2⟩
theorem B1.b2 {M : mat} (h : B1 M) : B2 M := by
  obtain ⟨h0, ⟨h1, h2, h3⟩, -⟩ := h
  exact ⟨h0, fun l => by have := h1 l; omega, fun l => by have := h2 l; omega, fun l => by have := h3 l; omega⟩
theorem Q1.b2 {M : mat} (h : Q1 M) : B2 M := by
  obtain ⟨h1, h2, h3, h0⟩ := h
  refine ⟨h0, fun l => ?_, h2, fun l => by have := h3 l; omega⟩
  rcases h1 with h1 | h1
  · have := h1.1 l
    omega
  · have := h1.1 l
    omega
theorem B3.small {M : mat} (h : B3 M) {r : Nat} (hr : r < 4) (l : Nat) : (M r l).natAbs ≤ 16544 := by
  obtain ⟨h0, h1, h2, h3⟩ := h
  have hq : r = 0 ∨ r = 1 ∨ r = 2 ∨ r = 3 := by omega
  rcases hq with rfl | rfl | rfl | rfl
  · have := h0 l
    omega
  · exact h1 l
  · have := h2 l
    omega
  · have := h3 l
    omega
theorem st1_q {M : mat} (h : B1 M) : Q1 (colm 1 1 M) := by
  have b1 := h.b2.b3.small (r := 1) (by omega) 1
  have b2 := h.b2.b3.small (r := 2) (by omega) 1
  exact s12 h (kkf_s (c := 1) (r := 2) (M := M) (by omega) (by omega) (by omega)).2
theorem st1_b {M : mat} (h : B1 M) : B2 (colm 1 2 M) := by
  have q := st1_q h
  have b1 := q.b2.b3.small (r := 1) (by omega) 1
  have b2 := q.b2.b3.small (r := 3) (by omega) 1
  exact s13 q (kkf_s (c := 1) (r := 3) (M := colm 1 1 M) (by omega) (by omega) (by omega)).2
theorem st1 {n : Nat} {M : mat} (h2 : 2 ≤ n) (hn : n ≤ 4) (h : B1 M) : Leg n 1 M ∧ B2 (colm 1 (n - 1 - 1) M) := by
  constructor
  · intro m hm
    have hq : m = 0 ∨ m = 1 := by omega
    rcases hq with rfl | rfl
    · have b1 := h.b2.b3.small (r := 1) (by omega) 1
      have b2 := h.b2.b3.small (r := 2) (by omega) 1
      show (M 1 1).natAbs < 2147483648 ∧ (M 2 1).natAbs < 2147483648
      omega
    · have b1 := (st1_q h).b2.b3.small (r := 1) (by omega) 1
      have b2 := (st1_q h).b2.b3.small (r := 3) (by omega) 1
      show (colm 1 1 M 1 1).natAbs < 2147483648 ∧ (colm 1 1 M 3 1).natAbs < 2147483648
      omega
  · have hq : n = 2 ∨ n = 3 ∨ n = 4 := by omega
    rcases hq with rfl | rfl | rfl
    · exact h.b2
    · exact (st1_q h).b2
    · exact st1_b h
theorem st2 {n : Nat} {M : mat} (h3 : 3 ≤ n) (hn : n ≤ 4) (h : B2 M) (hK : KS n 2 M) : Leg n 2 M ∧ B3 (colm 2 (n - 1 - 2) M) := by
  have b1 := h.b3.small (r := 2) (by omega) 2
  have b2 := h.b3.small (r := 3) (by omega) 2
  constructor
  · intro m hm
    have hq : m = 0 := by omega
    subst hq
    show (M 2 2).natAbs < 2147483648 ∧ (M 3 2).natAbs < 2147483648
    omega
  · have hq : n = 3 ∨ n = 4 := by omega
    rcases hq with rfl | rfl
    · exact h.b3
    · exact s23 h hK (kkf_s (c := 2) (r := 3) (M := M) (by omega) (by omega) (by omega)).2
noncomputable def trm (n : Nat) : Nat → mat → mat
  | 0, M => M
  | c + 1, M => negm c (colm c (n - 1 - c) (trm n c M))
noncomputable def pvt (n c : Nat) (M : mat) : Int := colm c (n - 1 - c) (trm n c M) c c
def BB (c : Nat) (M : mat) : Prop := (c = 0 → ∀ i l, (M i l).natAbs ≤ 4) ∧ (c = 1 → B1 M) ∧ (c = 2 → B2 M) ∧ (3 ≤ c → B3 M)
theorem BB.L {n c : Nat} {M : mat} (h : BB c M) (hK : KS n c M) (hc : c < n) (hn : n ≤ 4) : Leg n c M := by
  obtain ⟨h0, h1, h2, h3⟩ := h
  have hq : c = 0 ∨ c = 1 ∨ c = 2 ∨ c = 3 := by omega
  rcases hq with rfl | rfl | rfl | rfl
  · exact st0_L hn (h0 rfl)
  · exact (st1 (by omega) hn (h1 rfl)).1
  · exact (st2 (by omega) hn (h2 rfl) hK).1
  · intro m hm
    omega
theorem BB.s {n c : Nat} {M : mat} (h : BB c M) (hK : KS n c M) (hc : c < n) (hn : n ≤ 4) (h0 : colm c (n - 1 - c) M c c ≠ 0) : KS n (c + 1) (negm c (colm c (n - 1 - c) M)) ∧ BB (c + 1) (negm c (colm c (n - 1 - c) M)) := by
  have hL := h.L hK hc hn
  obtain ⟨c1, c2, c3, c4⟩ := col_K hL hK hn (n - 1 - c) (by omega)
  have hz : ∀ i, c < i → colm c (n - 1 - c) M i c = 0 := fun i hi => by
    by_cases g : i < n
    · exact c2 i hi (by omega)
    · rw [c1.2.2.1 i c (by omega)]
  refine ⟨c1.neg hc hn h0 hz, ?_⟩
  obtain ⟨b0, b1, b2, b3⟩ := h
  have hq : c = 0 ∨ c = 1 ∨ c = 2 ∨ c = 3 := by omega
  rcases hq with rfl | rfl | rfl | rfl
  · exact ⟨fun h => by omega, fun _ => (st0 (by omega) hn (b0 rfl) hK h0).2, fun h => by omega, fun h => by omega⟩
  · exact ⟨fun h => by omega, fun h => by omega, fun _ => (st1 (by omega) hn (b1 rfl)).2.neg 1, fun h => by omega⟩
  · exact ⟨fun h => by omega, fun h => by omega, fun h => by omega, fun _ => (st2 (by omega) hn (b2 rfl) hK).2.neg 2⟩
  · have e : n - 1 - 3 = 0 := by omega
    rw [e]
    exact ⟨fun h => by omega, fun h => by omega, fun h => by omega, fun _ => (b3 (by omega)).neg 3⟩
theorem tri {n : Nat} {M : mat} (hn : n ≤ 4) (h : ∀ i l, (M i l).natAbs ≤ 4) (hK : KS n 0 M) : ∀ c, c ≤ n → (∀ i, i < c → pvt n i M ≠ 0) → KS n c (trm n c M) ∧ BB c (trm n c M) := by
  intro c
  induction c with
  | zero => intro _ _; exact ⟨hK, fun _ => h, fun h => by omega, fun h => by omega, fun h => by omega⟩
  | succ c ih =>
    intro hc hp
    obtain ⟨i1, i2⟩ := ih (by omega) (fun i hi => hp i (by omega))
    exact i2.s i1 (by omega) hn (hp c (by omega))
theorem BB.b3 {c : Nat} {M : mat} (h : BB c M) (hc : 1 ≤ c) : B3 M := by
  obtain ⟨b0, b1, b2, b3⟩ := h
  have hq : c = 1 ∨ c = 2 ∨ 3 ≤ c := by omega
  rcases hq with g | g | g
  · exact (b1 g).b2.b3
  · exact (b2 g).b3
  · exact b3 g
/-- what stands above stays -/
theorem trm_low {n : Nat} {M : mat} (hn : n ≤ 4) (h : ∀ i l, (M i l).natAbs ≤ 4) (hK : KS n 0 M) {c : Nat} : ∀ d, c + d ≤ n → (∀ i, i < c + d → pvt n i M ≠ 0) → ∀ i l, i < c → trm n (c + d) M i l = trm n c M i l := by
  intro d
  induction d with
  | zero => intro _ _ i l _; rfl
  | succ d ih =>
    intro hd hp i l hi
    obtain ⟨i1, i2⟩ := tri hn h hK (c + d) (by omega) (fun i hi => hp i (by omega))
    obtain ⟨c1, c2, c3, c4⟩ := col_K (i2.L i1 (by omega) hn) i1 hn (n - 1 - (c + d)) (by omega)
    show negm (c + d) (colm (c + d) (n - 1 - (c + d)) (trm n (c + d) M)) i l = _
    rw [neg_o (by omega), c4 i l (by omega)]
    exact ih (by omega) (fun i hi => hp i (by omega)) i l hi
