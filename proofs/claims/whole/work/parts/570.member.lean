-- WHICH VECTORS PASS the test of the form
theorem ab_b {a F x s : Int} {B : Nat} (hF : 0 < F) (h : x = s + a * F) (hx : x.natAbs ≤ 4) (hs : s.natAbs ≤ B * F.natAbs) : a.natAbs ≤ B + 4 := by
  have h1 : (a * F).natAbs ≤ 4 + B * F.natAbs := by omega
  rw [Int.natAbs_mul] at h1
  have hp : 0 < F.natAbs := by omega
  refine Nat.le_of_mul_le_mul_right (c := F.natAbs) ?_ hp
  rw [Nat.add_mul]
  omega
def pzs (F : mat) (a : Nat → Int) (c l : Nat) : Int := (if c ≤ 0 then a 0 * F 0 l else 0) + (if c ≤ 1 then a 1 * F 1 l else 0) + (if c ≤ 2 then a 2 * F 2 l else 0) + (if c ≤ 3 then a 3 * F 3 l else 0)
theorem pzs_s (F : mat) (a : Nat → Int) {c : Nat} (hc : c < 4) (l : Nat) : pzs F a c l = a c * F c l + pzs F a (c + 1) l := by
  have hq : c = 0 ∨ c = 1 ∨ c = 2 ∨ c = 3 := by omega
  unfold pzs
  rcases hq with rfl | rfl | rfl | rfl <;> simp <;> omega
theorem cf_b {A : bdy} {F : mat} (hA : okb A) (h : okF A F) {x a : Nat → Int} (hx : ∀ l, (x l).natAbs ≤ 4) (h1 : ∀ k, A.n ≤ k → a k = 0) (h2 : ∀ l, x l = a 0 * F 0 l + a 1 * F 1 l + a 2 * F 2 l + a 3 * F 3 l) : ∀ c, (a c).natAbs ≤ 32 ∨ 4 ≤ c := by
  obtain ⟨p1, p2, p3, p4, -⟩ := h
  have hn1 := hA.1
  -- what stands right of the pivot
  have lo : ∀ k l, l < k → a k * F k l = 0 := fun k l hl => by
    by_cases g : k < A.n
    · rw [p3 k l g hl, Int.mul_zero]
    · rw [h1 k (by omega), Int.zero_mul]
  have up : ∀ k c (B : Nat), k < c → c < A.n → (a k).natAbs ≤ B → (a k * F k c).natAbs ≤ B * (F c c).natAbs := fun k c B h1 h2 h3 => by
    have := p4 k c h1 h2
    exact mb h3 (by omega)
  have z : ∀ c, A.n ≤ c → (a c).natAbs = 0 := fun c hc => by rw [h1 c hc]; rfl
  have a0 : (a 0).natAbs ≤ 4 := by
    have e := h2 0
    rw [lo 1 0 (by omega), lo 2 0 (by omega), lo 3 0 (by omega)] at e
    have := ab_b (B := 0) (s := 0) (a := a 0) (p1 0 (by omega)) (by omega) (hx 0) (by simp)
    omega
  have a1 : (a 1).natAbs ≤ 8 := by
    by_cases g : 1 < A.n
    · have e := h2 1
      rw [lo 2 1 (by omega), lo 3 1 (by omega)] at e
      have := ab_b (B := 4) (s := a 0 * F 0 1) (a := a 1) (p1 1 g) (by omega) (hx 1) (up 0 1 4 (by omega) g a0)
      omega
    · have := z 1 (by omega)
      omega
  have a2 : (a 2).natAbs ≤ 16 := by
    by_cases g : 2 < A.n
    · have e := h2 2
      rw [lo 3 2 (by omega)] at e
      have u0 := up 0 2 4 (by omega) g a0
      have u1 := up 1 2 8 (by omega) g a1
      have := ab_b (B := 12) (s := a 0 * F 0 2 + a 1 * F 1 2) (a := a 2) (p1 2 g) (by omega) (hx 2) (by omega)
      omega
    · have := z 2 (by omega)
      omega
  have a3 : (a 3).natAbs ≤ 32 := by
    by_cases g : 3 < A.n
    · have e := h2 3
      have u0 := up 0 3 4 (by omega) g a0
      have u1 := up 1 3 8 (by omega) g a1
      have u2 := up 2 3 16 (by omega) g a2
      have := ab_b (B := 28) (s := a 0 * F 0 3 + a 1 * F 1 3 + a 2 * F 2 3) (a := a 3) (p1 3 g) (by omega) (hx 3) (by omega)
      omega
    · have := z 3 (by omega)
      omega
  intro c
  have hq : c = 0 ∨ c = 1 ∨ c = 2 ∨ c = 3 ∨ 4 ≤ c := by omega
  rcases hq with rfl | rfl | rfl | rfl | g
  · left; omega
  · left; omega
  · left; omega
  · left; omega
  · exact Or.inr g
theorem isq_sp {A : bdy} {F : mat} (hA : okb A) (h : okF A F) {x : Nat → Int} (hx : ∀ l, (x l).natAbs ≤ 4) (hs : sp A.n F x) : isq A.n F A.n 0 (fun l => ll (x l)) = true := by
  obtain ⟨a, h1, h2⟩ := hs
  have hb := cf_b hA h hx h1 h2
  obtain ⟨p1, p2, p3, p4, -⟩ := h
  have hn1 := hA.1
  have key : ∀ m c (y : Nat → Int64), c + m = A.n → (∀ l, l < A.n → y l = ll (pzs F a c l)) → isq A.n F m c y = true := by
    intro m
    induction m with
    | zero => intro _ _ _ _; rfl
    | succ m ih =>
      intro c y hc hy
      have e0 : pzs F a (c + 1) c = 0 := by
        have lo : ∀ k, c < k → a k * F k c = 0 := fun k hl => by
          by_cases g : k < A.n
          · rw [p3 k c g hl, Int.mul_zero]
          · rw [h1 k (by omega), Int.zero_mul]
        unfold pzs
        have t : ∀ k, (if c + 1 ≤ k then a k * F k c else 0) = 0 := fun k => by
          split
          · exact lo k (by omega)
          · rfl
        rw [t, t, t, t]
        decide
      have e1 : pzs F a c c = a c * F c c := by rw [pzs_s F a (by omega), e0, Int.add_zero]
      have yc := hy c (by omega)
      rw [e1] at yc
      have b1 := p2 c c (by omega)
      have b2 := p1 c (by omega)
      have b3 : (a c).natAbs ≤ 32 := (hb c).resolve_right (by omega)
      have b4 := mb b3 b1
      have d1 := dv_ll (a := a c * F c c) (b := F c c) (by omega) (by omega) (by omega) (by omega) (by omega)
      rw [(rm_p (ll (a c * F c c)) b2 (by omega)).2, Int.mul_tdiv_cancel _ (show F c c ≠ 0 by omega)] at d1
      have d1 : ll (a c * F c c) / ll (F c c) = ll (a c) := Option.some.inj d1
      rw [isq_s, yc, d1, ll_mul, ll_sub, Int.sub_self, if_pos (by rw [cmp_eq0 (by omega) (by omega) (by omega) (by omega)])]
      refine ih (c + 1) _ (by omega) (fun l hl => ?_)
      have e2 := pzs_s F a (c := c) (by omega) l
      simp only [hy l hl, ll_mul, ll_sub]
      split
      · congr 1
        omega
      · have : F c l = 0 := p3 c l (by omega) (by omega)
        rw [e2, this, Int.mul_zero, Int.zero_add]
  refine key A.n 0 _ (by omega) (fun l hl => ?_)
  rw [h2 l]
  unfold pzs
  rw [if_pos (by omega), if_pos (by omega), if_pos (by omega), if_pos (by omega)]
-- the test letter by letter
theorem isq_d {n : Nat} {F : mat} : ∀ m c (y y' : Nat → Int64), (∀ l, c ≤ l → l < n → y l = y' l) → c + m = n → isq n F m c y = isq n F m c y' := by
  intro m
  induction m with
  | zero => intro _ _ _ _ _; rfl
  | succ m ih =>
    intro c y y' h hc
    rw [isq_s, isq_s, h c (Nat.le_refl _) (by omega)]
    rw [ih (c + 1) (fun l => if c ≤ l ∧ l < n then y l - y' c / ll (F c c) * ll (F c l) else y l) (fun l => if c ≤ l ∧ l < n then y' l - y' c / ll (F c c) * ll (F c l) else y' l) (fun l h1 h2 => by simp only [h l (by omega) h2]) (by omega)]
def bsl (F : mat) (t : Nat → Int64) (l : Nat) : Nat → Int64
  | 0 => ll 0
  | v + 1 => bsl F t l v + t v * ll (F v l)
def zv (F : mat) (x : Nat → Int) (t : Nat → Int64) (v : Nat) : Int64 := ll (x v) - bsl F t v v
def tst (F : mat) (x : Nat → Int) (t : Nat → Int64) (v : Nat) : Prop := lg_cmp (zv F x t v - zv F x t v / ll (F v v) * ll (F v v)) (ll 0) = ii 0
def gdp (F : mat) (x : Nat → Int) (t : Nat → Int64) (c : Nat) : Prop := ∀ v, v < c → tst F x t v ∧ t v = zv F x t v / ll (F v v)
theorem l_ssub (a b d : Int64) : a - b - d = a - (b + d) := by
  obtain ⟨a, rfl, -⟩ := ll_ex a
  obtain ⟨b, rfl, -⟩ := ll_ex b
  obtain ⟨d, rfl, -⟩ := ll_ex d
  rw [ll_sub, ll_sub, ll_add, ll_sub]
  congr 1
  omega
theorem gd_isq {n : Nat} {F : mat} {x : Nat → Int} {t : Nat → Int64} : ∀ c, c ≤ n → gdp F x t c → isq n F n 0 (fun l => ll (x l)) = isq n F (n - c) c (fun l => ll (x l) - bsl F t l c) := by
  intro c
  induction c with
  | zero =>
    intro _ _
    refine isq_d n 0 _ _ (fun l _ _ => ?_) (by omega)
    show ll (x l) = ll (x l) - ll 0
    rw [ll_sub, Int.sub_zero]
  | succ c ih =>
    intro hc hg
    obtain ⟨g1, g2⟩ := hg c (by omega)
    rw [ih (by omega) (fun v hv => hg v (by omega)), show n - c = (n - (c + 1)) + 1 by omega, isq_s]
    have g1 : lg_cmp ((ll (x c) - bsl F t c c) - (ll (x c) - bsl F t c c) / ll (F c c) * ll (F c c)) (ll 0) = ii 0 := g1
    rw [if_pos g1]
    refine isq_d _ _ _ _ (fun l h1 h2 => ?_) (by omega)
    have g2 : t c = (ll (x c) - bsl F t c c) / ll (F c c) := g2
    rw [if_pos (by omega), ← g2]
    show _ = ll (x l) - (bsl F t l c + t c * ll (F c l))
    rw [l_ssub]
theorem gd_no {n : Nat} {F : mat} {x : Nat → Int} {t : Nat → Int64} {c : Nat} (hc : c < n) (hg : gdp F x t c) (h : ¬ tst F x t c) : isq n F n 0 (fun l => ll (x l)) = false := by
  rw [gd_isq c (by omega) hg, show n - c = (n - c - 1) + 1 by omega, isq_s]
  exact if_neg h
theorem gd_yes {n : Nat} {F : mat} {x : Nat → Int} {t : Nat → Int64} (hg : gdp F x t n) : isq n F n 0 (fun l => ll (x l)) = true := by
  rw [gd_isq n (Nat.le_refl _) hg, Nat.sub_self]
  rfl
theorem bsl_c {F : mat} {t u : Nat → Int64} {l : Nat} : ∀ c, (∀ v, v < c → t v = u v) → bsl F t l c = bsl F u l c := by
  intro c
  induction c with
  | zero => intro _; rfl
  | succ c ih =>
    intro h
    show bsl F t l c + t c * ll (F c l) = bsl F u l c + u c * ll (F c l)
    rw [ih (fun v hv => h v (by omega)), h c (by omega)]
theorem zv_c {F : mat} {x y : Nat → Int} {t u : Nat → Int64} {c : Nat} (h1 : x c = y c) (h2 : ∀ v, v < c → t v = u v) : zv F x t c = zv F y u c := by
  unfold zv
  rw [h1, bsl_c c h2]
theorem gd_c {F : mat} {x y : Nat → Int} {t u : Nat → Int64} {c : Nat} (h1 : ∀ v, v < c → x v = y v) (h2 : ∀ v, v < c → t v = u v) (h : gdp F x t c) : gdp F y u c := by
  intro v hv
  have e := zv_c (F := F) (h1 v hv) (fun w hw => h2 w (by omega))
  have := h v hv
  unfold tst at this ⊢
  rw [← e, ← h2 v hv]
  exact this
