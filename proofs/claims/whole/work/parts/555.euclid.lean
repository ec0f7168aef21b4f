-- EUCLID'S STEPS on a pair of rows: how large they get
theorem eu_nat {A B y z d p q : Nat} (h1 : q * y ≤ z * p + d) (h2 : A * p ≤ B * y + A * d) (h3 : z + 1 ≤ y) : A * q ≤ B * z + A * d := by
  have hy : 0 < y := by omega
  refine Nat.le_of_mul_le_mul_right ?_ hy
  have a1 : A * (q * y) ≤ A * (z * p + d) := Nat.mul_le_mul_left A h1
  have a2 : z * (A * p) ≤ z * (B * y + A * d) := Nat.mul_le_mul_left z h2
  have a3 : A * d * (z + 1) ≤ A * d * y := Nat.mul_le_mul_left (A * d) h3
  grind
theorem eu_step {u Uj xc xj yc yj D q : Int} (hD : xc * yj - yc * xj = D) (hz : (xc - q * yc).natAbs < yc.natAbs) (hb : u.natAbs * yj.natAbs ≤ Uj.natAbs * yc.natAbs + u.natAbs * D.natAbs) : u.natAbs * (xj - q * yj).natAbs ≤ Uj.natAbs * (xc - q * yc).natAbs + u.natAbs * D.natAbs := by
  refine eu_nat ?_ hb hz
  have e : (xj - q * yj) * yc = (xc - q * yc) * yj - D := by grind
  rw [← Int.natAbs_mul, e, ← Int.natAbs_mul]
  exact Int.natAbs_sub_le _ _
theorem eu_det {xc xj yc yj q : Int} : yc * (xj - q * yj) - (xc - q * yc) * yj = -(xc * yj - yc * xj) := by grind
theorem eu_rem {x y : Int} (hy : y ≠ 0) : (x - Int.tdiv x y * y).natAbs < y.natAbs := by
  have e : x - Int.tdiv x y * y = Int.tmod x y := by
    have := Int.tmod_add_mul_tdiv x y
    grind
  rw [e, Int.natAbs_tmod]
  exact Nat.mod_lt _ (Int.natAbs_pos.mpr hy)
theorem eu_half {x y : Int} (hy : y ≠ 0) (h : y.natAbs ≤ x.natAbs) : 2 * (y.natAbs * (x - Int.tdiv x y * y).natAbs) < x.natAbs * y.natAbs := by
  have e : x - Int.tdiv x y * y = Int.tmod x y := by
    have := Int.tmod_add_mul_tdiv x y
    grind
  rw [e, Int.natAbs_tmod]
  have p : 0 < y.natAbs := Int.natAbs_pos.mpr hy
  generalize x.natAbs = a at *
  generalize y.natAbs = b at *
  have h1 := Nat.mod_lt a p
  have h2 : a % b + b ≤ a := by
    have := Nat.mod_add_div a b
    have q : 1 ≤ a / b := (Nat.one_le_div_iff p).mpr h
    have : b * 1 ≤ b * (a / b) := Nat.mul_le_mul_left b q
    omega
  have h3 : b * (2 * (a % b) + 1) ≤ b * a := Nat.mul_le_mul_left b (by omega)
  grind
