-- THE MEMORY: int fields and int arrays by kind, instance and place; long arrays likewise; the class's (kinds below 32) and the reference's apart
abbrev mv : Type := Int32 ⊕ (Int64 ⊕ (Nat × Nat))
abbrev mm : Type := (Nat → Nat → Nat → Int32) × (Nat → Nat → Nat → Int64)
abbrev md : Type := MethodName × ByteArray × Nat × Option FieldType
def tv (ad : Nat → Nat → Nat) : mv → Value
  | .inl x => .int x
  | .inr (.inl x) => .long x
  | .inr (.inr q) => .ref (ad q.1 q.2)
def up1 {α : Type} (f : Nat → α) (k : Nat) (v : α) : Nat → α := fun j => if j = k then v else f j
def up3 {α : Type} (f : Nat → Nat → Nat → α) (c i j : Nat) (v : α) : Nat → Nat → Nat → α := up1 f c (up1 (f c) i (up1 (f c i) j v))
def stI (σ : mm) (c i j : Nat) (v : Int32) : mm := (up3 σ.1 c i j v, σ.2)
def stL (σ : mm) (c i j : Nat) (v : Int64) : mm := (σ.1, up3 σ.2 c i j v)
def rdI (σ : mm) (c i n : Nat) (x : Int32) : Option Int32 := if 0 ≤ x.toInt ∧ x.toInt < (n : Int) then some (σ.1 c i x.toInt.toNat) else none
def rdL (σ : mm) (c i n : Nat) (x : Int32) : Option Int64 := if 0 ≤ x.toInt ∧ x.toInt < (n : Int) then some (σ.2 c i x.toInt.toNat) else none
def rdR (n : Nat) (x : Int32) : Option Nat := if 0 ≤ x.toInt ∧ x.toInt < (n : Int) then some x.toInt.toNat else none
def wrI (σ : mm) (c i n : Nat) (x v : Int32) : Option mm := if 0 ≤ x.toInt ∧ x.toInt < (n : Int) then some (stI σ c i x.toInt.toNat v) else none
def wrL (σ : mm) (c i n : Nat) (x : Int32) (v : Int64) : Option mm := if 0 ≤ x.toInt ∧ x.toInt < (n : Int) then some (stL σ c i x.toInt.toNat v) else none
def dvI (a b : Int32) : Option Int32 := if b = 0 then none else some (a / b)
def rmI (a b : Int32) : Option Int32 := if b = 0 then none else some (a - a / b * b)
def dvL (a b : Int64) : Option Int64 := if b = 0 then none else some (a / b)
def rmL (a b : Int64) : Option Int64 := if b = 0 then none else some (a - a / b * b)
def bi (b : Bool) : Int32 := if b = true then 1 else 0
def zr (x : Int32) : Option Bool := if x = 0 then some false else if x = 1 then some true else none
-- a copy of n numbers of an array into another, as they all were
def cp1 {α : Type} (f g : Nat → α) (sp dp n : Nat) : Nat → α := fun k => if dp ≤ k ∧ k < dp + n then f (sp + (k - dp)) else g k
def cpI (σ : mm) (c i n c' i' n' : Nat) (sp dp k : Int32) : Option mm :=
  if (0 ≤ sp.toInt ∧ 0 ≤ dp.toInt ∧ 0 ≤ k.toInt) ∧ sp.toInt + k.toInt ≤ (n : Int) ∧ dp.toInt + k.toInt ≤ (n' : Int) then
    some (up1 σ.1 c' (up1 (σ.1 c') i' (cp1 (σ.1 c i) (σ.1 c' i') sp.toInt.toNat dp.toInt.toNat k.toInt.toNat)), σ.2) else none
def cpL (σ : mm) (c i n c' i' n' : Nat) (sp dp k : Int32) : Option mm :=
  if (0 ≤ sp.toInt ∧ 0 ≤ dp.toInt ∧ 0 ≤ k.toInt) ∧ sp.toInt + k.toInt ≤ (n : Int) ∧ dp.toInt + k.toInt ≤ (n' : Int) then
    some (σ.1, up1 σ.2 c' (up1 (σ.2 c') i' (cp1 (σ.2 c i) (σ.2 c' i') sp.toInt.toNat dp.toInt.toNat k.toInt.toNat))) else none
-- LOOPS: a body answers the next state or the end; what it comes to, if it ends
def lpn {S R : Type} (body : S → Option (S ⊕ R)) : Nat → S → Option R
  | 0, _ => none
  | n + 1, s => match body s with
    | none => none
    | some (.inl s') => lpn body n s'
    | some (.inr r) => some r
theorem lpn_mono {S R : Type} {body : S → Option (S ⊕ R)} : ∀ (n : Nat) (s : S) (r : R), lpn body n s = some r → ∀ k, lpn body (n + k) s = some r := by
  intro n
  induction n with
  | zero => intro s r h; cases h
  | succ n ih =>
    intro s r h k
    rw [show n + 1 + k = (n + k) + 1 by omega]
    unfold lpn at h ⊢
    cases hb : body s with
    | none => rw [hb] at h; cases h
    | some x =>
      rw [hb] at h
      cases x with
      | inl s' => exact ih s' r h k
      | inr q => exact h
noncomputable def lp {S R : Type} (body : S → Option (S ⊕ R)) (s : S) : Option R :=
  @dite _ (∃ r, ∃ n, lpn body n s = some r) (Classical.propDecidable _) (fun h => some h.choose) (fun _ => none)
theorem lp_iff {S R : Type} {body : S → Option (S ⊕ R)} {s : S} {r : R} : lp body s = some r ↔ ∃ n, lpn body n s = some r := by
  unfold lp
  constructor
  · intro h
    split at h
    · rename_i he
      cases h
      exact he.choose_spec
    · cases h
  · rintro ⟨n, hn⟩
    have he : ∃ r, ∃ n, lpn body n s = some r := ⟨r, n, hn⟩
    rw [dif_pos he]
    obtain ⟨k, hk⟩ := he.choose_spec
    have h1 := lpn_mono _ _ _ hn k
    have h2 := lpn_mono _ _ _ hk n
    rw [Nat.add_comm] at h2
    exact h2.symm.trans h1
/-- one round of a loop -/
theorem lp_eq {S R : Type} (body : S → Option (S ⊕ R)) (s : S) : lp body s = match body s with
    | none => none
    | some (.inl s') => lp body s'
    | some (.inr r) => some r := by
  apply Option.ext
  intro r
  rw [lp_iff]
  constructor
  · rintro ⟨n, hn⟩
    cases n with
    | zero => cases hn
    | succ n =>
      unfold lpn at hn
      cases hb : body s with
      | none => rw [hb] at hn; cases hn
      | some x =>
        rw [hb] at hn
        cases x with
        | inl s' => exact lp_iff.mpr ⟨n, hn⟩
        | inr q => exact hn
  · intro h
    cases hb : body s with
    | none => rw [hb] at h; cases h
    | some x =>
      rw [hb] at h
      cases x with
      | inl s' =>
        obtain ⟨n, hn⟩ := lp_iff.mp h
        refine ⟨n + 1, ?_⟩
        unfold lpn
        rw [hb]
        exact hn
      | inr q =>
        refine ⟨1, ?_⟩
        unfold lpn
        rw [hb]
        exact h
theorem lp_go {S R : Type} {body : S → Option (S ⊕ R)} {s s' : S} (h : body s = some (.inl s')) : lp body s = lp body s' := by
  rw [lp_eq, h]
theorem lp_end {S R : Type} {body : S → Option (S ⊕ R)} {s : S} {r : R} (h : body s = some (.inr r)) : lp body s = some r := by
  rw [lp_eq, h]
/-- a loop that ends: what holds behind each round holds at its head -/
theorem lp_link {S R : Type} {body : S → Option (S ⊕ R)} {A : S → Prop} {B : R → Prop} (step : ∀ s v, body s = some v → Sum.elim A B v → A s) : ∀ s w, lp body s = some w → B w → A s := by
  intro s w h hB
  obtain ⟨n, hn⟩ := lp_iff.mp h
  clear h
  induction n generalizing s with
  | zero => cases hn
  | succ n ih =>
    unfold lpn at hn
    cases hb : body s with
    | none => rw [hb] at hn; cases hn
    | some x =>
      rw [hb] at hn
      cases x with
      | inl s' => exact step s _ hb (ih s' hn)
      | inr q =>
        cases hn
        exact step s _ hb hB
/-- total: an invariant and a measure -/
theorem lp_total {S R : Type} {body : S → Option (S ⊕ R)} (I : S → Prop) (μ : S → Nat) (P : R → Prop)
    (step : ∀ s, I s → (∃ s', body s = some (.inl s') ∧ I s' ∧ μ s' < μ s) ∨ ∃ r, body s = some (.inr r) ∧ P r) : ∀ s, I s → ∃ r, lp body s = some r ∧ P r := by
  intro s hs
  generalize hm : μ s = m
  induction m using Nat.strongRecOn generalizing s with
  | ind m ih =>
    rcases step s hs with ⟨s', h1, h2, h3⟩ | ⟨r, h1, h2⟩
    · obtain ⟨r, h4, h5⟩ := ih (μ s') (by omega) s' h2 rfl
      exact ⟨r, by rw [lp_go h1]; exact h4, h5⟩
    · exact ⟨r, lp_end h1, h2⟩
theorem rdR_lt {n : Nat} {x : Int32} {k : Nat} (h : rdR n x = some k) : k < n := by
  unfold rdR at h
  split at h
  · cases h; omega
  · cases h
theorem in_of {x : Int32} {n : Nat} (h : 0 ≤ x.toInt ∧ x.toInt < (n : Int)) : vp_in x n := by
  unfold vp_in
  intro q
  rcases q with q | q
  · have := Int32.lt_iff_toInt_lt.mp q
    rw [Int32.toInt_zero] at this
    omega
  · have : x.toNatClampNeg = x.toInt.toNat := rfl
    omega
