-- A BODY: letters, rows, lows, highs, the rows' parts (0 kind, 1 bound, 2 within, 3.. numbers), vectors
abbrev bdy : Type := Nat × Nat × (Nat → Int) × (Nat → Int) × (Nat → Nat → Int) × (Nat → Nat → Int)
def bdy.n (A : bdy) : Nat := A.1
def bdy.R (A : bdy) : Nat := A.2.1
def bdy.lo (A : bdy) : Nat → Int := A.2.2.1
def bdy.hi (A : bdy) : Nat → Int := A.2.2.2.1
def bdy.rw (A : bdy) : Nat → Nat → Int := A.2.2.2.2.1
def bdy.ve (A : bdy) : Nat → Nat → Int := A.2.2.2.2.2
def wd (A : bdy) (l : Nat) : Int := A.hi l - A.lo l + 1
def pts (A : bdy) : Int := prf (wd A) A.n
def okr (q : Nat → Int) : Prop := (0 ≤ q 0 ∧ q 0 ≤ 5) ∧ (-999 ≤ q 1 ∧ q 1 ≤ 999) ∧ (1 ≤ q 2 ∧ q 2 ≤ 99) ∧ ∀ l, l < 4 → -9 ≤ q (3 + l) ∧ q (3 + l) ≤ 9
def okb (A : bdy) : Prop := (1 ≤ A.n ∧ A.n ≤ 4) ∧ A.R ≤ 8 ∧ (∀ l, l < 4 → -9 ≤ A.lo l ∧ A.lo l ≤ A.hi l ∧ A.hi l ≤ 9) ∧ (∀ r, r < A.R → okr (A.rw r)) ∧ (∀ v l, v < 4 → l < 4 → -4 ≤ A.ve v l ∧ A.ve v l ≤ 4) ∧ pts A ≤ 4096
/-- the class's body number b shows A -/
def isC (σ : mm) (b : Nat) (A : bdy) : Prop := (A.n ≤ 4 ∧ A.R ≤ 8) ∧ σ.1 0 b 0 = ii A.n ∧ σ.1 0 b 4 = ii A.R ∧ (∀ l, l < 4 → σ.1 8 b l = ii (A.lo l)) ∧ (∀ l, l < 4 → σ.1 9 b l = ii (A.hi l)) ∧
  (∀ r w, r < A.R → w < 3 → σ.1 4 (8 * b + r) w = ii (A.rw r w)) ∧ (∀ r l, r < A.R → l < 4 → σ.1 10 (8 * b + r) l = ii (A.rw r (3 + l))) ∧ (∀ v l, v < 4 → l < 4 → σ.1 11 (4 * b + v) l = ii (A.ve v l))
/-- the reference shows A -/
def isM (τ : mm) (A : bdy) : Prop := (A.n ≤ 4 ∧ A.R ≤ 8) ∧ τ.1 32 0 1 = ii A.n ∧ τ.1 32 0 4 = ii A.R ∧ (∀ l, l < 4 → τ.1 42 0 l = ii (A.lo l)) ∧ (∀ l, l < 4 → τ.1 43 0 l = ii (A.hi l)) ∧
  (∀ r w, r < A.R → w < 7 → τ.1 45 0 (7 * r + w) = ii (A.rw r w)) ∧ (∀ v l, v < 4 → l < 4 → τ.1 46 0 (4 * v + l) = ii (A.ve v l))
/-- what is kept in a row of 82 of the reference shows A -/
def isK (τ : mm) (c : Nat) (A : bdy) : Prop := (A.n ≤ 4 ∧ A.R ≤ 8) ∧ τ.1 c 0 0 = ii A.n ∧ τ.1 c 0 1 = ii A.R ∧ (∀ l, l < 4 → τ.1 c 0 (2 + l) = ii (A.lo l)) ∧ (∀ l, l < 4 → τ.1 c 0 (6 + l) = ii (A.hi l)) ∧
  (∀ r w, r < A.R → w < 7 → τ.1 c 0 (10 + (7 * r + w)) = ii (A.rw r w)) ∧ (∀ v l, v < 4 → l < 4 → τ.1 c 0 (66 + (4 * v + l)) = ii (A.ve v l))
-- what a change leaves as it was: of kinds, and of the reference's fields
def Fr (ks fs : List Nat) (σ σ' : mm) : Prop := (∀ c, c ≠ 32 → c ∉ ks → σ'.1 c = σ.1 c) ∧ (∀ c, c ∉ ks → σ'.2 c = σ.2 c) ∧ ∀ j, j ∉ fs → σ'.1 32 0 j = σ.1 32 0 j
theorem Fr.rf (ks fs : List Nat) (σ : mm) : Fr ks fs σ σ := ⟨fun _ _ _ => rfl, fun _ _ => rfl, fun _ _ => rfl⟩
theorem Fr.tr {ks fs : List Nat} {σ σ' σ'' : mm} (h : Fr ks fs σ σ') (g : Fr ks fs σ' σ'') : Fr ks fs σ σ'' :=
  ⟨fun c h1 h2 => (g.1 c h1 h2).trans (h.1 c h1 h2), fun c h2 => (g.2.1 c h2).trans (h.2.1 c h2), fun j h2 => (g.2.2 j h2).trans (h.2.2 j h2)⟩
theorem Fr.mono {ks fs ks' fs' : List Nat} {σ σ' : mm} (h : Fr ks fs σ σ') (h1 : ∀ c, c ∈ ks → c ∈ ks') (h2 : ∀ c, c ∈ fs → c ∈ fs') : Fr ks' fs' σ σ' :=
  ⟨fun c a b => h.1 c a (fun e => b (h1 c e)), fun c b => h.2.1 c (fun e => b (h1 c e)), fun j b => h.2.2 j (fun e => b (h2 j e))⟩
theorem Fr.sI {ks fs : List Nat} {σ σ' : mm} (h : Fr ks fs σ σ') {c i j : Nat} {v : Int32} (hc : c ∈ ks) (h32 : c ≠ 32) : Fr ks fs σ (stI σ' c i j v) :=
  h.tr ⟨fun c' _ h2 => st_c _ _ _ _ (fun e => h2 (e ▸ hc)), fun _ _ => rfl, fun k _ => by rw [st_c _ _ _ _ (Ne.symm h32)]⟩
theorem Fr.sF {ks fs : List Nat} {σ σ' : mm} (h : Fr ks fs σ σ') {j : Nat} {v : Int32} (hc : j ∈ fs) : Fr ks fs σ (stI σ' 32 0 j v) :=
  h.tr ⟨fun c' h1 _ => st_c _ _ _ _ h1, fun _ _ => rfl, fun k hk => st_j _ _ (fun e => hk (e ▸ hc))⟩
theorem Fr.sL {ks fs : List Nat} {σ σ' : mm} (h : Fr ks fs σ σ') {c i j : Nat} {v : Int64} (hc : c ∈ ks) : Fr ks fs σ (stL σ' c i j v) :=
  h.tr ⟨fun _ _ _ => rfl, fun c' h2 => sl_c _ _ _ _ (fun e => h2 (e ▸ hc)), fun _ _ => rfl⟩
theorem isM.fr {ks fs : List Nat} {τ τ' : mm} {A : bdy} (h : isM τ A) (f : Fr ks fs τ τ') (hk : ∀ c ∈ [42, 43, 45, 46], c ∉ ks) (hf : ∀ j ∈ [1, 4], j ∉ fs) : isM τ' A := by
  obtain ⟨h0, h1, h2, h3, h4, h5, h6⟩ := h
  have e1 := f.1 42 (by decide) (hk 42 (by decide))
  have e2 := f.1 43 (by decide) (hk 43 (by decide))
  have e3 := f.1 45 (by decide) (hk 45 (by decide))
  have e4 := f.1 46 (by decide) (hk 46 (by decide))
  have e5 := f.2.2 1 (hf 1 (by decide))
  have e6 := f.2.2 4 (hf 4 (by decide))
  unfold isM
  rw [e1, e2, e3, e4, e5, e6]
  exact ⟨h0, h1, h2, h3, h4, h5, h6⟩
theorem isC.fr {ks fs : List Nat} {σ σ' : mm} {b : Nat} {A : bdy} (h : isC σ b A) (f : Fr ks fs σ σ') (hk : ∀ c ∈ [0, 4, 8, 9, 10, 11], c ∉ ks) : isC σ' b A := by
  obtain ⟨h0, h1, h2, h3, h4, h5, h6, h7⟩ := h
  have e1 := f.1 0 (by decide) (hk 0 (by decide))
  have e2 := f.1 4 (by decide) (hk 4 (by decide))
  have e3 := f.1 8 (by decide) (hk 8 (by decide))
  have e4 := f.1 9 (by decide) (hk 9 (by decide))
  have e5 := f.1 10 (by decide) (hk 10 (by decide))
  have e6 := f.1 11 (by decide) (hk 11 (by decide))
  unfold isC
  rw [e1, e2, e3, e4, e5, e6]
  exact ⟨h0, h1, h2, h3, h4, h5, h6, h7⟩
theorem isK.fr {ks fs : List Nat} {τ τ' : mm} {c : Nat} {A : bdy} (h : isK τ c A) (f : Fr ks fs τ τ') (hc : c ≠ 32) (hk : c ∉ ks) : isK τ' c A := by
  have e := f.1 c hc hk
  unfold isK at h ⊢
  rw [e]
  exact h
-- what a change of one body of the class leaves as it was
def Fb (b : Nat) (σ σ' : mm) : Prop := (∀ c, c ∉ [0, 4, 8, 9, 10, 11] → σ'.1 c = σ.1 c) ∧ σ'.2 = σ.2 ∧ (∀ i, i ≠ b → σ'.1 0 i = σ.1 0 i ∧ σ'.1 8 i = σ.1 8 i ∧ σ'.1 9 i = σ.1 9 i) ∧
  (∀ i, (∀ r, r < 8 → i ≠ 8 * b + r) → σ'.1 4 i = σ.1 4 i ∧ σ'.1 10 i = σ.1 10 i) ∧ (∀ i, (∀ v, v < 4 → i ≠ 4 * b + v) → σ'.1 11 i = σ.1 11 i)
theorem Fb.rf (b : Nat) (σ : mm) : Fb b σ σ := ⟨fun _ _ => rfl, rfl, fun _ _ => ⟨rfl, rfl, rfl⟩, fun _ _ => ⟨rfl, rfl⟩, fun _ _ => rfl⟩
theorem Fb.tr {b : Nat} {σ σ' σ'' : mm} (h : Fb b σ σ') (g : Fb b σ' σ'') : Fb b σ σ'' :=
  ⟨fun c hc => (g.1 c hc).trans (h.1 c hc), g.2.1.trans h.2.1, fun i hi => ⟨(g.2.2.1 i hi).1.trans (h.2.2.1 i hi).1, (g.2.2.1 i hi).2.1.trans (h.2.2.1 i hi).2.1, (g.2.2.1 i hi).2.2.trans (h.2.2.1 i hi).2.2⟩,
   fun i hi => ⟨(g.2.2.2.1 i hi).1.trans (h.2.2.2.1 i hi).1, (g.2.2.2.1 i hi).2.trans (h.2.2.2.1 i hi).2⟩, fun i hi => (g.2.2.2.2 i hi).trans (h.2.2.2.2 i hi)⟩
theorem Fb.sI {b : Nat} {σ σ' : mm} (h : Fb b σ σ') {c i j : Nat} {v : Int32} (hc : (c = 0 ∨ c = 8 ∨ c = 9) ∧ i = b ∨ (c = 4 ∨ c = 10) ∧ (∃ r, r < 8 ∧ i = 8 * b + r) ∨ c = 11 ∧ ∃ v, v < 4 ∧ i = 4 * b + v) : Fb b σ (stI σ' c i j v) := by
  refine h.tr ⟨?_, rfl, ?_, ?_, ?_⟩
  · intro c' hc'
    refine st_c _ _ _ _ ?_
    rintro rfl
    revert hc'
    rcases hc with ⟨rfl | rfl | rfl, -⟩ | ⟨rfl | rfl, -⟩ | ⟨rfl, -⟩ <;> decide
  · intro k hk
    rcases hc with ⟨rfl | rfl | rfl, rfl⟩ | ⟨rfl | rfl, -⟩ | ⟨rfl, -⟩ <;> refine ⟨?_, ?_, ?_⟩ <;> first | exact congrFun (st_c _ _ _ _ (by decide)) _ | exact st_i _ _ _ hk
  · intro k hk
    rcases hc with ⟨rfl | rfl | rfl, rfl⟩ | ⟨rfl | rfl, r, hr, rfl⟩ | ⟨rfl, -⟩ <;> refine ⟨?_, ?_⟩ <;> first | exact congrFun (st_c _ _ _ _ (by decide)) _ | exact st_i _ _ _ (hk r hr)
  · intro k hk
    rcases hc with ⟨rfl | rfl | rfl, rfl⟩ | ⟨rfl | rfl, -⟩ | ⟨rfl, r, hr, rfl⟩ <;> first | exact congrFun (st_c _ _ _ _ (by decide)) _ | exact st_i _ _ _ (hk r hr)
theorem isC.fb {b b' : Nat} {σ σ' : mm} {A : bdy} (h : isC σ b A) (f : Fb b' σ σ') (hb : b ≠ b') : isC σ' b A := by
  obtain ⟨h0, h1, h2, h3, h4, h5, h6, h7⟩ := h
  obtain ⟨e1, e2, e3⟩ := f.2.2.1 b hb
  refine ⟨h0, by rw [e1]; exact h1, by rw [e1]; exact h2, fun l hl => by rw [e2]; exact h3 l hl, fun l hl => by rw [e3]; exact h4 l hl, ?_, ?_, ?_⟩
  · intro r w hr hw
    rw [(f.2.2.2.1 (8 * b + r) (fun q hq => by omega)).1]
    exact h5 r w hr hw
  · intro r w hr hw
    rw [(f.2.2.2.1 (8 * b + r) (fun q hq => by omega)).2]
    exact h6 r w hr hw
  · intro r w hr hw
    rw [f.2.2.2.2 (4 * b + r) (fun q hq => by omega)]
    exact h7 r w hr hw
-- changes of a body
def bdy.setL (A : bdy) (v : Nat) : bdy := if v = A.n then A else (v, A.R, fun l => if A.n ≤ l ∧ l < v then 0 else A.lo l, fun l => if A.n ≤ l ∧ l < v then 3 else A.hi l, A.rw, fun v l => if v = l then 1 else 0)
def bdy.setS (A : bdy) (l : Nat) (x y : Int) : bdy := (A.n, A.R, up1 A.lo l x, up1 A.hi l y, A.rw, A.ve)
def bdy.setR (A : bdy) (R : Nat) (r : Nat) (q : Nat → Int) : bdy := (A.n, R, A.lo, A.hi, up1 A.rw r q, A.ve)
def bdy.setV (A : bdy) (ve : Nat → Nat → Int) : bdy := (A.n, A.R, A.lo, A.hi, A.rw, ve)
def rw0 (k b w : Int) : Nat → Int := fun j => if j = 0 then k else if j = 1 then b else if j = 2 then w else 0
theorem okb.bx {A : bdy} (h : okb A) {l : Nat} (hl : l < 4) : -9 ≤ A.lo l ∧ A.lo l ≤ A.hi l ∧ A.hi l ≤ 9 := h.2.2.1 l hl
theorem okb.wdr {A : bdy} (h : okb A) {l : Nat} (hl : l < 4) : 1 ≤ wd A l ∧ wd A l ≤ 19 := by
  have := h.bx hl
  unfold wd
  omega
theorem prf_pos {f : Nat → Int} {n : Nat} (h : ∀ k, k < n → 1 ≤ f k) : 1 ≤ prf f n := by
  induction n with
  | zero => exact Int.le_refl 1
  | succ n ih =>
    have h1 := ih (fun k hk => h k (by omega))
    have h2 := h n (by omega)
    rw [prf]
    have : 1 * 1 ≤ prf f n * f n := Int.mul_le_mul h1 h2 (by omega) (by omega)
    omega
theorem prf_le {f : Nat → Int} {n : Nat} {B : Nat} (h : ∀ k, k < n → 1 ≤ f k ∧ f k ≤ B) : prf f n ≤ ((B ^ n : Nat) : Int) := by
  induction n with
  | zero => exact Int.le_refl 1
  | succ n ih =>
    have h1 := ih (fun k hk => h k (by omega))
    have h2 := h n (by omega)
    have h3 := prf_pos (f := f) (n := n) (fun k hk => (h k (by omega)).1)
    rw [prf, Nat.pow_succ, Int.natCast_mul]
    exact Int.mul_le_mul h1 h2.2 (by omega) (by omega)
theorem okb.p1 {A : bdy} (h : okb A) : 1 ≤ pts A := prf_pos (fun k hk => (h.wdr (by have := h.1; omega)).1)
