-- LETTERS AND BOXES, by both readers
theorem bi_t : ¬ bi true = 0 := by decide
theorem bi_f : bi false = 0 := rfl
theorem PQ.body {len : Nat} {y : Nat → Int} {σ0 τ0 : mm} {A A' : bdy} {σ τ σ' τ' : mm} {e : Nat} (h : PQ len y σ0 τ0 A e σ τ) (h1 : isC σ' 2 A') (h2 : isM τ' A') (h3 : okb A') (f : Fb 2 σ σ') (g : Fr [42, 43, 45, 46] [1, 4] τ τ') : PQ len y σ0 τ0 A' e σ' τ' := by
  obtain ⟨-, a2, a3, a4, a5, a6⟩ := h
  have f3 := f.1 3 (by decide)
  have f21 := f.1 21 (by decide)
  have t2 : tapeM τ' len y := by
    have := a2.2.1
    unfold tapeM at this ⊢
    rw [g.1 67 (by decide) (by decide), g.2.2 28 (by decide)]
    exact this
  exact ⟨⟨h1, h2, h3⟩, ⟨a2.1.fr (by rw [f3]) f21, t2, a2.2.2.1.fr g (by decide), a2.2.2.2⟩, by rw [f3]; exact a3, by rw [g.2.2 30 (by decide), g.2.2 31 (by decide), g.2.2 29 (by decide)]; exact a4, a5.b f, a6.tr (g.mono (by decide) (by decide))⟩
theorem PQ.le {len : Nat} {y : Nat → Int} {σ0 τ0 : mm} {A : bdy} {σ τ : mm} {e : Nat} (h : PQ len y σ0 τ0 A e σ τ) : e ≤ te len y e := by
  have := tb_r (y := y) h.2.1.2.2.2
  have := te_r (y := y) h.2.1.2.2.2
  omega
theorem P_letters {len : Nat} {y : Nat → Int} {σ0 τ0 : mm} {A : bdy} {σ τ : mm} {e : Nat} (h : PQ len y σ0 τ0 A e σ τ) : ∃ (b : Bool) (σ' τ' : mm) (A' : bdy) (e' : Nat), fX3_readLetters 2 σ = some (b, σ') ∧ fX8_readsLetters τ = some (b, τ') ∧ PQ len y σ0 τ0 A' e' σ' τ' ∧ te len y e ≤ e' := by
  obtain ⟨σ1, τ1, a1, a2, a3, a4, -⟩ := h.next
  obtain ⟨b, τ2, b1, b2, b3, b4⟩ := a3.num a4 (lo := 1) (hi := 4) (by omega) (by omega) (by omega) (by omega)
  have b1 : fX3_seesNumber 1 4 σ1 = b := b1
  have b2 : fX8_seesNumber 1 1 4 τ1 = (b, τ2) := b2
  unfold fX3_readLetters fX3_readLetters_0 fX8_readsLetters fX8_readsLetters_0
  rw [a1, a2, Option.bind_some, Option.bind_some, b1, b2]
  cases b with
  | false =>
    refine ⟨false, σ1, τ2, A, te len y e, ?_, ?_, b3, Nat.le_refl _⟩
    · rw [if_pos bi_f]
    · rw [if_pos bi_f]
  | true =>
    obtain ⟨v, c1, c2, c3, c4⟩ := b4 rfl
    obtain ⟨w, rfl⟩ : ∃ w : Nat, v = w := ⟨v.toNat, by omega⟩
    have hA := b3.1.2.2
    have d1 := C_pwl b3.1.1 (v := w) (by omega)
    rw [← prf_setL] at d1
    obtain ⟨q, d2, d3⟩ := M_hasLetters b3.1.2.1 hA (v := w) (by omega)
    have pr := pts_setL_r hA (v := w) (by omega)
    rw [if_neg bi_t, if_neg bi_t, c1]
    simp only []
    rw [c2, d1, d2, Option.bind_some, Option.bind_some]
    by_cases hp : pts (A.setL w) ≤ 4096
    · obtain ⟨-, d4, d5⟩ : pts (A.setL w) ≤ 4096 ∧ isM q (A.setL w) ∧ Fr [42, 43, 46] [1] τ2 q := by
        rcases d3 with d3 | d3
        · exact d3
        · exact absurd hp d3.1
      obtain ⟨σ3, e1, e2, e3⟩ := C_setLetters b3.1.1 (v := w) (by omega)
      have hP := b3.body e2 d4 (hA.setL (by omega) (by omega) hp) e3 (d5.mono (by decide) (by decide))
      obtain ⟨σ4, τ4, g1, g2, g3, -, -⟩ := hP.next
      refine ⟨true, σ4, τ4, _, _, ?_, ?_, g3, b3.le⟩
      · rw [if_pos (by show ii _ ≤ ii 4096; rw [ii_le (by omega) (by omega) (by omega) (by omega)]; exact hp), e1, Option.bind_some, g1]
        rfl
      · rw [decide_eq_true hp, if_neg bi_t]
        simp only []
        rw [g2]
        rfl
    · have d4 : q = τ2 := by
        rcases d3 with d3 | d3
        · exact absurd d3.1 hp
        · exact d3.2
      subst d4
      refine ⟨false, σ1, q, A, te len y e, ?_, ?_, b3, Nat.le_refl _⟩
      · rw [if_neg (by show ¬ ii _ ≤ ii 4096; rw [ii_le (by omega) (by omega) (by omega) (by omega)]; exact hp)]
      · rw [decide_eq_false hp, if_pos bi_f]
theorem P_box {len : Nat} {y : Nat → Int} {σ0 τ0 : mm} {A : bdy} {σ τ : mm} {e : Nat} (h : PQ len y σ0 τ0 A e σ τ) : ∃ (b : Bool) (σ' τ' : mm) (A' : bdy) (e' : Nat), fX3_readBox 2 σ = some (b, σ') ∧ fX8_readsBox τ = some (b, τ') ∧ PQ len y σ0 τ0 A' e' σ' τ' ∧ te len y e ≤ e' := by
  obtain ⟨σ1, τ1, a1, a2, a3, a4, -⟩ := h.next
  have hA := a3.1.2.2
  have hn := hA.1
  obtain ⟨b, τ2, b1, b2, b3, b4⟩ := a3.num a4 (lo := 0) (hi := (A.n : Int) - 1) (by omega) (by omega) (by omega) (by omega)
  have k1 : σ1.1 0 2 0 - 1 = ii ((A.n : Int) - 1) := by rw [a3.1.1.2.1, ii_lit 1, ii_sub]
  have k2 : τ1.1 32 0 1 - 1 = ii ((A.n : Int) - 1) := by rw [a3.1.2.1.2.1, ii_lit 1, ii_sub]
  have b1' : fX3_seesNumber 0 (σ1.1 0 2 0 - 1) σ1 = b := by rw [k1]; exact b1
  have b2' : fX8_seesNumber 1 0 (τ1.1 32 0 1 - 1) τ1 = (b, τ2) := by rw [k2]; exact b2
  unfold fX3_readBox fX3_readBox_0 fX8_readsBox fX8_readsBox_0 fX8_takesNumber fX8_takesNumber_0
  rw [a1, a2]
  simp only [Option.bind_some]
  rw [b1', b2']
  cases b with
  | false =>
    refine ⟨false, σ1, τ2, A, te len y e, ?_, ?_, b3, Nat.le_refl _⟩
    · rw [if_pos bi_f]
    · rw [if_pos bi_f, Option.bind_some, if_pos bi_f]
  | true =>
    obtain ⟨v, c1, c2, c3, c4⟩ := b4 rfl
    obtain ⟨l, rfl⟩ : ∃ l : Nat, v = l := ⟨v.toNat, by omega⟩
    obtain ⟨σ3, τ3, d1, d2, d3, d4, d5⟩ := b3.next
    have l1 := a3.le
    have l2 := b3.le
    rw [c2] at d5
    rw [if_neg bi_t, if_neg bi_t]
    simp only []
    rw [c1, d1, d2]
    simp only [Option.bind_some]
    rw [if_neg bi_t, d5]
    obtain ⟨b, σ4, τ4, e4, f1, f2, f3, f4, f5⟩ := d3.sgn d4 (lo := -9) (hi := 9) (by omega) (by omega) (by omega) (by omega)
    have f1' : fX3_seesSigned (-9) 9 σ3 = some (b, σ4) := f1
    have f2' : fX8_seesSigned (-9) 9 τ3 = some (b, τ4) := f2
    unfold fX8_takesSigned fX8_takesSigned_0
    rw [f1', f2', Option.bind_some, Option.bind_some]
    cases b with
    | false =>
      refine ⟨false, σ4, τ4, A, e4, ?_, ?_, f3, by omega⟩
      · rw [if_pos bi_f]
      · rw [if_pos bi_f, Option.bind_some, if_pos bi_f]
    | true =>
      obtain ⟨x, g1, g2, g3, g4⟩ := f5 rfl
      obtain ⟨σ5, τ5, i1, i2, i3, i4, i5⟩ := f3.next
      have l3 := f3.le
      rw [g2] at i5
      rw [if_neg bi_t, if_neg bi_t]
      simp only []
      rw [g1, i1, i2]
      simp only [Option.bind_some]
      rw [if_neg bi_t, i5]
      obtain ⟨b, σ6, τ6, e6, j1, j2, j3, j4, j5⟩ := i3.sgn i4 (lo := x) (hi := 9) (by omega) (by omega) (by omega) (by omega)
      have j1' : fX3_seesSigned (ii x) 9 σ5 = some (b, σ6) := j1
      have j2' : fX8_seesSigned (ii x) 9 τ5 = some (b, τ6) := j2
      rw [j1', j2', Option.bind_some, Option.bind_some]
      cases b with
      | false =>
        refine ⟨false, σ6, τ6, A, e6, ?_, ?_, j3, by omega⟩
        · rw [if_pos bi_f]
        · rw [if_pos bi_f]
      | true =>
        obtain ⟨z, m1, m2, m3, m4⟩ := j5 rfl
        rw [if_neg bi_t, if_neg bi_t]
        simp only []
        have hA6 := j3.1.2.2
        have p1 := C_pws j3.1.1 l (by omega) x z
        rw [← pts_setS] at p1
        have p2 := M_hasBox j3.1.2.1 hA6 (l := l) (by omega) g3 m3 m4
        have pr := pts_setS_r hA6 (l := l) g3 m3 m4
        rw [m1, m2, p1, p2, Option.bind_some]
        by_cases hp : pts (A.setS l x z) ≤ 4096
        · obtain ⟨σ7, q1, q2, q3⟩ := isC.setS j3.1.1 (l := l) (by omega) x z
          have hM7 := isM.setS j3.1.2.1 (l := l) (by omega) x z
          have hP := j3.body q2 hM7 (hA6.setS g3 m3 m4 hp) q3 (((Fr.rf _ _ _).sI (by decide) (by decide)).sI (by decide) (by decide))
          obtain ⟨σ8, τ8, r1, r2, r3, -, -⟩ := hP.next
          have l4 := j3.le
          refine ⟨true, σ8, τ8, _, _, ?_, ?_, r3, by omega⟩
          · rw [if_pos (by show ii _ ≤ ii 4096; rw [ii_le (by omega) (by omega) (by omega) (by omega)]; exact hp), q1, Option.bind_some, r1]
            rfl
          · rw [if_pos hp, Option.bind_some, if_neg bi_t]
            simp only []
            rw [r2]
            rfl
        · refine ⟨false, σ6, τ6, A, e6, ?_, ?_, j3, by omega⟩
          · rw [if_neg (by show ¬ ii _ ≤ ii 4096; rw [ii_le (by omega) (by omega) (by omega) (by omega)]; exact hp)]
          · rw [if_neg hp, Option.bind_some, if_pos bi_f]
