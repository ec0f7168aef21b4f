-- THE RELATION between the class's memory and the reference's
def wrd : List Int := [114, 111, 119, 32, 32, 32, 32, 32, 116, 105, 101, 32, 32, 32, 32, 32, 98, 97, 110, 100, 32, 32, 32, 32, 99, 111, 109, 98, 32, 32, 32, 32, 111, 102, 102, 32, 32, 32, 32, 32, 108, 101, 97, 115, 116, 32, 32, 32, 108, 101, 116, 116, 101, 114, 115, 32, 98, 111, 120, 32, 32, 32, 32, 32, 98, 111, 117, 110, 100, 32, 32, 32, 119, 105, 116, 104, 105, 110, 32, 32]
def rKeep (σ τ : mm) : Prop := (σ.1 7 0 3 = ii 0 ∧ τ.1 32 0 41 = ii 0) ∨ (σ.1 7 0 3 = ii 1 ∧ τ.1 32 0 41 = ii 1 ∧ ∃ K, isC σ 1 K ∧ isK τ 79 K ∧ okb K)
def thinP (σ : mm) (A : bdy) : Prop := σ.1 1 0 7 = ii (-1) ∨ (0 ≤ (thn A (d5 A.n / 2)).1 ∧ (thn A (d5 A.n / 2)).1 < 1000000 ∧ σ.1 1 0 6 = ii (thn A (d5 A.n / 2)).2 ∧ σ.1 1 0 7 = ii (thn A (d5 A.n / 2)).1)
def rCl (σ : mm) (A : bdy) : Prop := σ.1 1 0 0 = ii 1 ∨ (σ.1 1 0 0 = ii 0 ∧ cloudP σ A ∧ thinP σ A)
def treeP (σ : mm) (A : bdy) : Prop := σ.1 6 0 1 = ii (ncl A 20 (A.lo, A.hi)) ∧ σ.1 6 0 2 = ii (trA A).length ∧ σ.1 6 0 3 = ii (ndd (trA A)) ∧ σ.1 6 0 4 = ii (dpt A 20 (A.lo, A.hi)) ∧ ∀ k q, (trA A)[k]? = some q → σ.2 22 0 k = ll (lfk A.n q)
def rTr (σ : mm) (A : bdy) : Prop := σ.1 6 0 0 = ii 1 ∨ (σ.1 6 0 0 = ii 0 ∧ treeP σ A)
def rTape (σ τ : mm) : Prop := ∃ (len : Nat) (y : Nat → Int), len ≤ 120 ∧ σ.1 3 0 0 = ii len ∧ τ.1 32 0 28 = ii len ∧ ∀ k, k < len → (0 ≤ y k ∧ y k < 256) ∧ τ.1 67 0 k = ii (y k) ∧ σ.1 21 0 k = ii (if y k < 128 then y k else y k - 256)
def rSh (σ τ : mm) : Prop := ∀ s, s < 4 → ∃ bits size : Int, (bits = 0 ∨ bits = 8 ∨ bits = 16 ∨ bits = 64) ∧ (0 ≤ size ∧ size ≤ 40) ∧ σ.1 5 s 0 = ii bits ∧ τ.1 75 0 s = ii bits ∧ σ.1 5 s 1 = ii size ∧ τ.1 76 0 s = ii size ∧ ∀ i, i < 40 → σ.2 26 s i = τ.2 77 0 (40 * s + i)
def rFd (σ τ : mm) : Prop := ∀ k, k < 7 → σ.1 19 0 k = τ.1 40 0 k
def rW (τ : mm) : Prop := ∀ k, k < 80 → τ.1 74 0 k = ii (wrd.getD k 0)
/-- all but the body -/
def RelX (σ τ : mm) : Prop := rKeep σ τ ∧ rTape σ τ ∧ rSh σ τ ∧ rFd σ τ ∧ rW τ
def RelA (σ τ : mm) (A : bdy) : Prop := (isC σ 0 A ∧ isM τ A ∧ okb A) ∧ (rCl σ A ∧ rTr σ A) ∧ RelX σ τ
def Rel (σ τ : mm) : Prop := ∃ A, RelA σ τ A
def Ag {α : Type} (x y : Option (α × mm)) : Prop := ∃ r σ' τ', x = some (r, σ') ∧ y = some (r, τ') ∧ Rel σ' τ'
-- what may change without being seen
def mS : List Nat := [47, 48, 49, 50, 55, 56, 57, 62, 63, 65, 66, 78, 80]
def mF : List Nat := [11, 12, 13, 14, 18, 19, 20, 21, 24, 29, 30, 31, 32, 33]
/-- the class's: nothing of a body, the caches, the tape, sheets, findings -/
def cS : List Nat := [2, 13, 14, 17, 18, 20, 23, 24, 25]
theorem RelX.m {σ τ τ' : mm} (h : RelX σ τ) (f : Fr mS mF τ τ') : RelX σ τ' := by
  obtain ⟨h1, h2, h3, h4, h5⟩ := h
  refine ⟨?_, ?_, ?_, ?_, ?_⟩
  · unfold rKeep at h1 ⊢
    rw [f.2.2 41 (by decide)]
    rcases h1 with h1 | ⟨a, b, K, c, d, e⟩
    · exact Or.inl h1
    · exact Or.inr ⟨a, b, K, c, d.fr f (by decide) (by decide), e⟩
  · unfold rTape at h2 ⊢
    rw [f.2.2 28 (by decide), f.1 67 (by decide) (by decide)]
    exact h2
  · unfold rSh at h3 ⊢
    rw [f.1 75 (by decide) (by decide), f.1 76 (by decide) (by decide), f.2.1 77 (by decide)]
    exact h3
  · unfold rFd at h4 ⊢
    rw [f.1 40 (by decide) (by decide)]
    exact h4
  · unfold rW at h5 ⊢
    rw [f.1 74 (by decide) (by decide)]
    exact h5
theorem RelA.m {σ τ τ' : mm} {A : bdy} (h : RelA σ τ A) (f : Fr mS mF τ τ') : RelA σ τ' A :=
  ⟨⟨h.1.1, h.1.2.1.fr f (by decide) (by decide), h.1.2.2⟩, h.2.1, h.2.2.m f⟩
/-- of the class: kinds that the rest doesn't look at -/
theorem RelX.c {ks fs : List Nat} {σ σ' τ : mm} (h : RelX σ τ) (f : Fr ks fs σ σ') (hk : ∀ c ∈ [0, 3, 4, 5, 7, 8, 9, 10, 11, 19, 21, 26], c ∉ ks) : RelX σ' τ := by
  obtain ⟨h1, h2, h3, h4, h5⟩ := h
  refine ⟨?_, ?_, ?_, ?_, h5⟩
  · unfold rKeep at h1 ⊢
    rw [f.1 7 (by decide) (hk 7 (by decide))]
    rcases h1 with h1 | ⟨a, b, K, c, d, e⟩
    · exact Or.inl h1
    · exact Or.inr ⟨a, b, K, c.fr f (fun c hc => hk c (by revert c hc; decide)), d, e⟩
  · unfold rTape at h2 ⊢
    rw [f.1 3 (by decide) (hk 3 (by decide)), f.1 21 (by decide) (hk 21 (by decide))]
    exact h2
  · unfold rSh at h3 ⊢
    rw [f.1 5 (by decide) (hk 5 (by decide)), f.2.1 26 (hk 26 (by decide))]
    exact h3
  · unfold rFd at h4 ⊢
    rw [f.1 19 (by decide) (hk 19 (by decide))]
    exact h4
theorem rCl.c {ks fs : List Nat} {σ σ' : mm} {A : bdy} (h : rCl σ A) (f : Fr ks fs σ σ') (hk : ∀ c ∈ [1, 12], c ∉ ks) : rCl σ' A := by
  unfold rCl cloudP thinP at h ⊢
  rw [f.1 1 (by decide) (hk 1 (by decide)), f.1 12 (by decide) (hk 12 (by decide))]
  exact h
theorem rTr.c {ks fs : List Nat} {σ σ' : mm} {A : bdy} (h : rTr σ A) (f : Fr ks fs σ σ') (hk : ∀ c ∈ [6, 22], c ∉ ks) : rTr σ' A := by
  unfold rTr treeP at h ⊢
  rw [f.1 6 (by decide) (hk 6 (by decide)), f.2.1 22 (hk 22 (by decide))]
  exact h
theorem RelA.c {σ σ' τ : mm} {A : bdy} (h : RelA σ τ A) (f : Fr cS [] σ σ') : RelA σ' τ A :=
  ⟨⟨h.1.1.fr f (by decide), h.1.2⟩, ⟨h.2.1.1.c f (by decide), h.2.1.2.c f (by decide)⟩, h.2.2.c f (by decide)⟩
/-- a finding is told -/
theorem fnd {σ τ : mm} {A : bdy} (h : RelA σ τ A) {e : Nat} (he : e < 7) : ∃ σ' τ', fX7_finding (ii e) σ = some (ii (-1000000001 - e), σ') ∧ fX8_finds (ii (-1000000001 - e)) τ = some (ii (-1000000001 - e), τ') ∧ RelA σ' τ' A := by
  have hf := h.2.2.2.2.2.1
  have e1 : (-1000000001 : Int) - (-1000000001 - (e : Int)) = (e : Int) := by omega
  refine ⟨stI σ 19 0 e (σ.1 19 0 e + ii 1), stI τ 40 0 e (τ.1 40 0 e + ii 1), ?_, ?_, ?_⟩
  · unfold fX7_finding fX7_finding_0
    simp (disch := omega) only [fX7_finding_20, if_true, if_false, Option.bind_some, Option.map_some, ii_lit, ll_lit, ii_neg, ll_neg, ii_add, ii_sub, ii_mul, ll_add, ll_sub, ll_mul, ii_le, ii_lt, ii_eq, ii_t, bi_0, bi_1, rd_z, wr_z, rr_z, rl_z, wl_z, tn_n, st_s, st_j, st_i, st_c, st_2, sl_s, sl_j, sl_i, sl_c, sl_1, Int.natCast_add, Int.cast_ofNat_Int, if_pos, if_neg]
  · unfold fX8_finds fX8_finds_0
    simp (disch := omega) only [e1, if_true, if_false, Option.bind_some, Option.map_some, ii_lit, ll_lit, ii_neg, ll_neg, ii_add, ii_sub, ii_mul, ll_add, ll_sub, ll_mul, ii_le, ii_lt, ii_eq, ii_t, bi_0, bi_1, rd_z, wr_z, rr_z, rl_z, wl_z, tn_n, st_s, st_j, st_i, st_c, st_2, sl_s, sl_j, sl_i, sl_c, sl_1, Int.natCast_add, Int.cast_ofNat_Int, if_pos, if_neg]
  · have fσ : Fr [19] [] σ (stI σ 19 0 e (σ.1 19 0 e + ii 1)) := (Fr.rf _ _ _).sI (by decide) (by decide)
    have fτ : Fr [40] [] τ (stI τ 40 0 e (τ.1 40 0 e + ii 1)) := (Fr.rf _ _ _).sI (by decide) (by decide)
    obtain ⟨⟨a1, a2, a3⟩, ⟨b1, b2⟩, ⟨c1, c2, c3, c4, c5⟩⟩ := h
    refine ⟨⟨a1.fr fσ (by decide), a2.fr fτ (by decide) (by decide), a3⟩, ⟨b1.c fσ (by decide), b2.c fσ (by decide)⟩, ?_, ?_, ?_, ?_, ?_⟩
    · unfold rKeep at c1 ⊢
      rw [fσ.1 7 (by decide) (by decide), fτ.2.2 41 (by decide)]
      rcases c1 with c1 | ⟨a, b, K, c, d, e⟩
      · exact Or.inl c1
      · exact Or.inr ⟨a, b, K, c.fr fσ (by decide), d.fr fτ (by decide) (by decide), e⟩
    · unfold rTape at c2 ⊢
      rw [fσ.1 3 (by decide) (by decide), fσ.1 21 (by decide) (by decide), fτ.2.2 28 (by decide), fτ.1 67 (by decide) (by decide)]
      exact c2
    · unfold rSh at c3 ⊢
      rw [fσ.1 5 (by decide) (by decide), fσ.2.1 26 (by decide), fτ.1 75 (by decide) (by decide), fτ.1 76 (by decide) (by decide), fτ.2.1 77 (by decide)]
      exact c3
    · intro k hk
      by_cases hke : k = e
      · subst hke
        rw [st_s, st_s, hf k hk]
      · rw [st_j _ _ hke, st_j _ _ hke]
        exact c4 k hk
    · unfold rW at c5 ⊢
      rw [fτ.1 74 (by decide) (by decide)]
      exact c5
/-- the body has changed: all else is as it was -/
theorem Rel.body {σ τ σ1 τ1 : mm} {A A' : bdy} (h : RelA σ τ A) (hC : isC σ1 0 A') (hM : isM τ1 A') (hA : okb A') (f : Fb 0 σ σ1) (g : Fr [42, 43, 45, 46] [1, 4] τ τ1) : RelA (fX7_bodyChanged σ1) τ1 A' := by
  obtain ⟨-, -, ⟨c1, c2, c3, c4, c5⟩⟩ := h
  have fs : Fr [1, 6] [] σ1 (fX7_bodyChanged σ1) := ((Fr.rf _ _ _).sI (by decide) (by decide)).sI (by decide) (by decide)
  have hx : ∀ c, c ∉ [0, 4, 8, 9, 10, 11, 1, 6] → c ≠ 32 → (fX7_bodyChanged σ1).1 c = σ.1 c := fun c hc h32 => (fs.1 c h32 (fun e => hc (by revert e; simp; omega))).trans (f.1 c (fun e => hc (by revert e; simp; omega)))
  have hx2 : (fX7_bodyChanged σ1).2 = σ.2 := f.2.1
  refine ⟨⟨hC.fr fs (by decide), hM, hA⟩, ⟨Or.inl ?_, Or.inl ?_⟩, ?_, ?_, ?_, ?_, ?_⟩
  · unfold fX7_bodyChanged fX7_bodyChanged_0
    simp (disch := omega) only [if_true, if_false, Option.bind_some, Option.map_some, ii_lit, ll_lit, ii_neg, ll_neg, ii_add, ii_sub, ii_mul, ll_add, ll_sub, ll_mul, ii_le, ii_lt, ii_eq, ii_t, bi_0, bi_1, rd_z, wr_z, rr_z, rl_z, wl_z, tn_n, st_s, st_j, st_i, st_c, st_2, sl_s, sl_j, sl_i, sl_c, sl_1, Int.natCast_add, Int.cast_ofNat_Int, if_pos, if_neg]
  · unfold fX7_bodyChanged fX7_bodyChanged_0
    simp (disch := omega) only [if_true, if_false, Option.bind_some, Option.map_some, ii_lit, ll_lit, ii_neg, ll_neg, ii_add, ii_sub, ii_mul, ll_add, ll_sub, ll_mul, ii_le, ii_lt, ii_eq, ii_t, bi_0, bi_1, rd_z, wr_z, rr_z, rl_z, wl_z, tn_n, st_s, st_j, st_i, st_c, st_2, sl_s, sl_j, sl_i, sl_c, sl_1, Int.natCast_add, Int.cast_ofNat_Int, if_pos, if_neg]
  · unfold rKeep at c1 ⊢
    rw [hx 7 (by decide) (by decide), g.2.2 41 (by decide)]
    rcases c1 with c1 | ⟨a, b, K, c, d, e⟩
    · exact Or.inl c1
    · exact Or.inr ⟨a, b, K, (c.fb f (by decide)).fr fs (by decide), d.fr g (by decide) (by decide), e⟩
  · unfold rTape at c2 ⊢
    rw [hx 3 (by decide) (by decide), hx 21 (by decide) (by decide), g.2.2 28 (by decide), g.1 67 (by decide) (by decide)]
    exact c2
  · unfold rSh at c3 ⊢
    rw [hx 5 (by decide) (by decide), hx2, g.1 75 (by decide) (by decide), g.1 76 (by decide) (by decide), g.2.1 77 (by decide)]
    exact c3
  · unfold rFd at c4 ⊢
    rw [hx 19 (by decide) (by decide), g.1 40 (by decide) (by decide)]
    exact c4
  · unfold rW at c5 ⊢
    rw [g.1 74 (by decide) (by decide)]
    exact c5
