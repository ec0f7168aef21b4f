-- THE SEARCH for the shortest: all within 8, one after the other
abbrev sst : Type := Int × (Nat → Int)
def itf (g : Nat → sst → sst) : Nat → sst → sst
  | 0, s => s
  | j + 1, s => g j (itf g j s)
theorem itf_c {g h : Nat → sst → sst} {N : Nat} (e : ∀ j s, j < N → g j s = h j s) (s : sst) : itf g N s = itf h N s := by
  induction N with
  | zero => rfl
  | succ N ih =>
    show g N (itf g N s) = h N (itf h N s)
    rw [ih (fun j s hj => e j s (by omega)), e N _ (by omega)]
theorem itf_a (g : Nat → sst → sst) (a b : Nat) (s : sst) : itf g (a + b) s = itf (fun j s => g (a + j) s) b (itf g a s) := by
  induction b with
  | zero => rfl
  | succ b ih =>
    show g (a + b) (itf g (a + b) s) = g (a + b) (itf (fun j s => g (a + j) s) b (itf g a s))
    rw [ih]
theorem itf_m (g : Nat → sst → sst) (a b : Nat) (s : sst) : itf g (a * b) s = itf (fun i s => itf (fun j s => g (i * b + j) s) b s) a s := by
  induction a with
  | zero => rw [Nat.zero_mul]; rfl
  | succ a ih =>
    rw [Nat.succ_mul, itf_a, ih]
    rfl
def sqn (x : Nat → Int) : Nat → Int := smf (fun l => x l * x l)
def lef (n : Nat) (L : (Nat → Int) → Bool) (x : Nat → Int) (s : sst) : sst := if 0 < sqn x n ∧ sqn x n < s.1 ∧ L x = true then (sqn x n, x) else s
def tf (n : Nat) (L : (Nat → Int) → Bool) : Nat → (Nat → Int) → sst → sst
  | 0, x, s => lef n L x s
  | m + 1, x, s => itf (fun j s => tf n L m (up1 x (n - (m + 1)) (8 - (j : Int))) s) 17 s
def ext (n m : Nat) (x : Nat → Int) (k : Nat) : Nat → Int := fun l => if l < n - m ∨ n ≤ l then x l else 8 - ((k / 17 ^ (n - 1 - l) % 17 : Nat) : Int)
theorem dig_lo {m e j k : Nat} (he : e < m) : (j * 17 ^ m + k) / 17 ^ e % 17 = k / 17 ^ e % 17 := by
  have h : j * 17 ^ m = 17 ^ e * (17 * (j * 17 ^ (m - e - 1))) := by
    rw [show 17 * (j * 17 ^ (m - e - 1)) = j * (17 ^ (m - e - 1) * 17) by rw [Nat.mul_left_comm, Nat.mul_comm 17], ← Nat.pow_succ, show (m - e - 1).succ = m - e by omega, Nat.mul_left_comm, ← Nat.pow_add, show e + (m - e) = m by omega]
  rw [h, Nat.mul_add_div (Nat.pow_pos (by decide)), Nat.mul_add_mod]
theorem dig_hi {m j k : Nat} (hj : j < 17) (hk : k < 17 ^ m) : (j * 17 ^ m + k) / 17 ^ m % 17 = j := by
  rw [Nat.mul_comm, Nat.mul_add_div (Nat.pow_pos (by decide)), Nat.div_eq_of_lt hk, Nat.add_zero, Nat.mod_eq_of_lt hj]
theorem ext_s {n m : Nat} (hm : m + 1 ≤ n) (x : Nat → Int) {j k : Nat} (hj : j < 17) (hk : k < 17 ^ m) : ext n m (up1 x (n - (m + 1)) (8 - (j : Int))) k = ext n (m + 1) x (j * 17 ^ m + k) := by
  funext l
  unfold ext up1
  by_cases h1 : l < n - (m + 1) ∨ n ≤ l
  · rw [if_pos (by omega), if_neg (by omega), if_pos h1]
  · by_cases h2 : l = n - (m + 1)
    · rw [if_pos (by omega), if_pos h2, if_neg h1, show n - 1 - l = m by omega, dig_hi hj hk]
    · rw [if_neg (by omega), if_neg h1, dig_lo (by omega)]
theorem tf_it {n : Nat} (L : (Nat → Int) → Bool) : ∀ m, m ≤ n → ∀ x s, tf n L m x s = itf (fun k s => lef n L (ext n m x k) s) (17 ^ m) s := by
  intro m
  induction m with
  | zero =>
    intro _ x s
    have e : ext n 0 x 0 = x := by
      funext l
      unfold ext
      rw [if_pos (by omega)]
    show lef n L x s = lef n L (ext n 0 x 0) s
    rw [e]
  | succ m ih =>
    intro hm x s
    rw [Nat.pow_succ, Nat.mul_comm, itf_m]
    unfold tf
    refine itf_c (fun j s hj => ?_) s
    rw [ih (by omega)]
    exact itf_c (fun k s hk => by rw [ext_s hm x hj hk]) s
theorem sqn_c {x y : Nat → Int} {n : Nat} (h : ∀ l, l < n → x l = y l) : sqn x n = sqn y n := smf_c (fun l hl => by rw [h l hl])
theorem sqn_0 (x : Nat → Int) (n : Nat) : 0 ≤ sqn x n := by
  induction n with
  | zero => exact Int.le_refl _
  | succ n ih =>
    show 0 ≤ sqn x n + x n * x n
    have : 0 ≤ x n * x n := by
      rcases Int.le_total 0 (x n) with h | h
      · exact Int.mul_nonneg h h
      · exact Int.mul_nonneg_of_nonpos_of_nonpos h h
    omega
theorem sqn_m (x : Nat → Int) {a b : Nat} (h : a ≤ b) : sqn x a ≤ sqn x b := by
  induction b with
  | zero =>
    have : a = 0 := by omega
    subst this
    exact Int.le_refl _
  | succ b ih =>
    by_cases g : a = b + 1
    · subst g
      exact Int.le_refl _
    · have h1 := ih (by omega)
      show sqn x a ≤ sqn x b + x b * x b
      have : 0 ≤ x b * x b := by
        rcases Int.le_total 0 (x b) with h | h
        · exact Int.mul_nonneg h h
        · exact Int.mul_nonneg_of_nonpos_of_nonpos h h
      omega
theorem lef_no {n : Nat} {L : (Nat → Int) → Bool} {x : Nat → Int} {s : sst} (h : s.1 ≤ sqn x n ∨ L x = false) : lef n L x s = s := by
  unfold lef
  rw [if_neg]
  rintro ⟨h1, h2, h3⟩
  rcases h with h | h
  · omega
  · rw [h] at h3
    cases h3
/-- below a part that fails nothing is found -/
theorem tf_no {n : Nat} {L : (Nat → Int) → Bool} {m : Nat} (hm : m ≤ n) {x : Nat → Int} {s : sst} (h : ∀ y, (∀ l, l < n - m → y l = x l) → s.1 ≤ sqn y n ∨ L y = false) : tf n L m x s = s := by
  rw [tf_it L m hm]
  have : ∀ N, itf (fun k s => lef n L (ext n m x k) s) N s = s := fun N => by
    induction N with
    | zero => rfl
    | succ N ih =>
      show lef n L (ext n m x N) (itf (fun k s => lef n L (ext n m x k) s) N s) = s
      rw [ih]
      refine lef_no (h _ (fun l hl => ?_))
      unfold ext
      rw [if_pos (Or.inl hl)]
  exact this _
/-- two searches that begin with other bounds find the same -/
theorem tw {n : Nat} {L : (Nat → Int) → Bool} {p : Nat → Nat → Int} {N : Nat} {s t : sst} (hst : s.1 ≤ t.1) (hx : ∃ k, k < N ∧ 0 < sqn (p k) n ∧ sqn (p k) n < s.1 ∧ L (p k) = true) : itf (fun k s => lef n L (p k) s) N s = itf (fun k s => lef n L (p k) s) N t := by
  have key : ∀ M, itf (fun k s => lef n L (p k) s) M s = itf (fun k s => lef n L (p k) s) M t ∨ (itf (fun k s => lef n L (p k) s) M s = s ∧ s.1 ≤ (itf (fun k s => lef n L (p k) s) M t).1 ∧ ∀ k, k < M → ¬ (0 < sqn (p k) n ∧ sqn (p k) n < s.1 ∧ L (p k) = true)) := by
    intro M
    induction M with
    | zero => exact Or.inr ⟨rfl, hst, fun k hk => by omega⟩
    | succ M ih =>
      show lef n L (p M) _ = lef n L (p M) _ ∨ _
      rcases ih with ih | ⟨i1, i2, i3⟩
      · exact Or.inl (by rw [ih])
      · have e1 : itf (fun k s => lef n L (p k) s) (M + 1) s = lef n L (p M) s := by
          show lef n L (p M) (itf (fun k s => lef n L (p k) s) M s) = _
          rw [i1]
        have e2 : itf (fun k s => lef n L (p k) s) (M + 1) t = lef n L (p M) (itf (fun k s => lef n L (p k) s) M t) := rfl
        rw [e1, e2, i1]
        generalize itf (fun k s => lef n L (p k) s) M t = u at *
        by_cases g : 0 < sqn (p M) n ∧ sqn (p M) n < s.1 ∧ L (p M) = true
        · left
          unfold lef
          rw [if_pos g, if_pos ⟨g.1, by omega, g.2.2⟩]
        · right
          refine ⟨by unfold lef; rw [if_neg g], ?_, fun k hk => ?_⟩
          · unfold lef
            split
            · rename_i g2
              show s.1 ≤ sqn (p M) n
              by_cases g3 : s.1 ≤ sqn (p M) n
              · exact g3
              · exact absurd ⟨g2.1, by omega, g2.2.2⟩ g
            · exact i2
          · by_cases gk : k = M
            · rw [gk]; exact g
            · exact i3 k (by omega)
  rcases key N with h | ⟨-, -, h⟩
  · exact h
  · obtain ⟨k, hk, q⟩ := hx
    exact absurd q (h k hk)
/-- every vector within 8 has its number -/
theorem has_no {n : Nat} {w : Nat → Int} (hw : ∀ l, l < n → -8 ≤ w l ∧ w l ≤ 8) : ∀ m, m ≤ n → ∃ k, k < 17 ^ m ∧ ∀ l, n - m ≤ l → l < n → 8 - ((k / 17 ^ (n - 1 - l) % 17 : Nat) : Int) = w l := by
  intro m
  induction m with
  | zero => intro _; exact ⟨0, by decide, fun l h1 h2 => by omega⟩
  | succ m ih =>
    intro hm
    obtain ⟨k, hk, h⟩ := ih (by omega)
    have hb := hw (n - (m + 1)) (by omega)
    obtain ⟨j, hj⟩ : ∃ j : Nat, (j : Int) = 8 - w (n - (m + 1)) := ⟨(8 - w (n - (m + 1))).toNat, by omega⟩
    refine ⟨j * 17 ^ m + k, ?_, fun l h1 h2 => ?_⟩
    · rw [Nat.pow_succ, Nat.mul_comm (17 ^ m)]
      have : (j + 1) * 17 ^ m ≤ 17 * 17 ^ m := Nat.mul_le_mul_right _ (by omega)
      rw [Nat.add_mul, Nat.one_mul] at this
      omega
    · by_cases g : l = n - (m + 1)
      · rw [show n - 1 - l = m by omega, dig_hi (by omega) hk, g]
        omega
      · rw [dig_lo (by omega)]
        exact h l (by omega) h2
