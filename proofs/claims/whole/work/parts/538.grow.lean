theorem tr_leaf {A : bdy} {f : Nat} {c : bx} (h : vrd A c A.R ≠ -2) : tr A f c = [(c, vrd A c A.R)] ∧ ncl A f c = 1 ∧ dpt A f c = 0 := by
  cases f with
  | zero => exact ⟨rfl, rfl, rfl⟩
  | succ f => rw [tr, ncl, dpt, if_neg h, if_neg h, if_neg h]; exact ⟨rfl, rfl, rfl⟩
theorem lvC.one {σ : mm} {n L : Nat} {q : bx × Int} (h : σ.2 22 0 L = ll (lfk n q)) : lvC σ n L [q] := by
  intro k q' hk
  cases k with
  | zero =>
    simp only [List.getElem?_cons_zero, Option.some.injEq] at hk
    subst hk
    exact h
  | succ k => simp at hk
theorem lvC.app {σ : mm} {n L : Nat} {T U : List (bx × Int)} (h1 : lvC σ n L T) (h2 : lvC σ n (L + T.length) U) : lvC σ n L (T ++ U) := by
  intro k q hk
  by_cases e : k < T.length
  · rw [List.getElem?_append_left e] at hk
    exact h1 k q hk
  · rw [List.getElem?_append_right (by omega)] at hk
    have := h2 (k - T.length) q hk
    rw [show L + T.length + (k - T.length) = L + k by omega] at this
    exact this
theorem C_grow {A : bdy} (hA : okb A) : ∀ (f : Nat) (c : bx) (m d : Nat) (σ : mm) (L D P N : Nat), f < m → pot A c ≤ f → d + f ≤ 20 → okc c → isC σ 0 A → (∀ l, l < 4 → σ.1 15 0 l = ii (c.1 l)) → (∀ l, l < 4 → σ.1 16 0 l = ii (c.2 l)) → σ.1 6 0 1 = ii N → σ.1 6 0 2 = ii L → σ.1 6 0 3 = ii D → σ.1 6 0 4 = ii P → L + (tr A f c).length ≤ 4096 → D ≤ L → P ≤ 20 →
    ∃ σ', fX6_grow m 0 (ii d) σ = some σ' ∧ σ'.1 6 0 1 = ii ((N + ncl A f c : Nat)) ∧ σ'.1 6 0 2 = ii ((L + (tr A f c).length : Nat)) ∧ σ'.1 6 0 3 = ii ((D + ndd (tr A f c) : Nat)) ∧ σ'.1 6 0 4 = ii ((max P (d + dpt A f c) : Nat)) ∧ σ'.1 6 0 0 = σ.1 6 0 0 ∧ (∀ l, l < 4 → σ'.1 15 0 l = ii (c.1 l)) ∧ (∀ l, l < 4 → σ'.1 16 0 l = ii (c.2 l)) ∧ lvC σ' A.n L (tr A f c) ∧ (∀ j, j < L → σ'.2 22 0 j = σ.2 22 0 j) ∧ d + dpt A f c ≤ 20 ∧ Fr [6, 15, 16, 22] [] σ σ' := by
  intro f
  induction f with
  | zero =>
    intro c m d σ L D P N hm hp hdf hc hC h15 h16 e1 e2 e3 e4 hL hD hP
    have hv : vrd A c A.R ≠ -2 := by
      intro e
      obtain ⟨w1, w2⟩ := open_wide hA hc e
      have q1 := pot_lo hA hc w1 w2
      have q2 := (pot_r hA (cLo A c)).1
      omega
    obtain ⟨t1, t2, t3⟩ := tr_leaf (f := 0) hv
    rw [t1] at hL ⊢
    rw [t2, t3]
    obtain ⟨m, rfl⟩ : ∃ k, m = k + 1 := ⟨m - 1, by omega⟩
    have fs : Fr [6, 15, 16, 22] [] σ (stI σ 6 0 1 (ii ((N + 1 : Nat)))) := (Fr.rf _ _ _).sI (by decide) (by decide)
    have hC2 := hC.fr fs (by decide)
    have g15 : ∀ l, l < 4 → (stI σ 6 0 1 (ii ((N + 1 : Nat)))).1 15 0 l = ii (c.1 l) := fun l hl => by rw [st_c _ _ _ _ (by decide)]; exact h15 l hl
    have g16 : ∀ l, l < 4 → (stI σ 6 0 1 (ii ((N + 1 : Nat)))).1 16 0 l = ii (c.2 l) := fun l hl => by rw [st_c _ _ _ _ (by decide)]; exact h16 l hl
    have vd := C_verdict hC2 hA hc (fun l hl => g15 l (by have := hA.1; omega)) (fun l hl => g16 l (by have := hA.1; omega))
    have hvv := vrd_v A c A.R
    have hR8 := hA.2.1
    simp only [List.length_singleton] at hL ⊢
    obtain ⟨σ', x1, x2, x3, x4, x5, x6, x7, x8⟩ := C_addLeaf hC2 hA hc g15 g16 (v := vrd A c A.R) (by omega) (L := L) (D := D) (P := P) (d := d) (by omega) (by omega) (by omega) (by omega) (by rw [st_j _ _ (by decide)]; exact e2) (by rw [st_j _ _ (by decide)]; exact e3) (by rw [st_j _ _ (by decide)]; exact e4)
    refine ⟨σ', ?_, ?_, x2, ?_, x4, ?_, ?_, ?_, lvC.one x6, ?_, by omega, fs.tr (x8.mono (by decide) (by decide))⟩
    · show fX6_grow_0 (fX6_grow m) 0 (ii d) σ = _
      unfold fX6_grow_0 fX6_grow_28
      have n2 := hC2.2.1
      simp (disch := omega) only [e1, Option.bind_some, ii_lit, ii_add]
      rw [show (N : Int) + 1 = ((N + 1 : Nat) : Int) from rfl, vd, Option.bind_some]
      have qn : ¬ ii (vrd A c A.R) = -ii 2 := by
        rw [ii_neg, ii_eq (by omega) (by omega) (by omega) (by omega)]
        exact hv
      rw [if_neg qn, n2, x1]
      rfl
    · rw [x5 1 (by decide), st_s]
    · rw [x3]
      congr 1
    · rw [x5 0 (by decide), st_j _ _ (by decide)]
    · intro l hl
      rw [x8.1 15 (by decide) (by decide)]
      exact g15 l hl
    · intro l hl
      rw [x8.1 16 (by decide) (by decide)]
      exact g16 l hl
    · intro j hj
      rw [x7 j (by omega)]
      rfl
  | succ f ih =>
    intro c m d σ L D P N hm hp hdf hc hC h15 h16 e1 e2 e3 e4 hL hD hP
    obtain ⟨m, rfl⟩ : ∃ k, m = k + 1 := ⟨m - 1, by omega⟩
    have fs : Fr [6, 15, 16, 22] [] σ (stI σ 6 0 1 (ii ((N + 1 : Nat)))) := (Fr.rf _ _ _).sI (by decide) (by decide)
    have hC2 := hC.fr fs (by decide)
    have g15 : ∀ l, l < 4 → (stI σ 6 0 1 (ii ((N + 1 : Nat)))).1 15 0 l = ii (c.1 l) := fun l hl => by rw [st_c _ _ _ _ (by decide)]; exact h15 l hl
    have g16 : ∀ l, l < 4 → (stI σ 6 0 1 (ii ((N + 1 : Nat)))).1 16 0 l = ii (c.2 l) := fun l hl => by rw [st_c _ _ _ _ (by decide)]; exact h16 l hl
    have vd := C_verdict hC2 hA hc (fun l hl => g15 l (by have := hA.1; omega)) (fun l hl => g16 l (by have := hA.1; omega))
    have hvv := vrd_v A c A.R
    have hR8 := hA.2.1
    have hn1 := hA.1
    by_cases hv : vrd A c A.R = -2
    · obtain ⟨w1, w2⟩ := open_wide hA hc hv
      have wd := C_widest (σ := stI σ 6 0 1 (ii ((N + 1 : Nat)))) hn1 hc (fun l hl => g15 l (by omega)) (fun l hl => g16 l (by omega))
      have wd' : fX6_widest (ii A.n) (stI σ 6 0 1 (ii ((N + 1 : Nat)))) = some (ii (wdt A c)) := wd
      have hb := hc (wdt A c) (by omega)
      have mr := mid_r w2
      have fdv := fd_ii (a := c.1 (wdt A c) + c.2 (wdt A c)) (by omega) (by omega)
      have fdv' : fJ9_floorDiv_7cf53 (ii (c.1 (wdt A c) + c.2 (wdt A c))) (ii 2) = some (ii (mid A c)) := fdv
      have et : tr A (f + 1) c = tr A f (cLo A c) ++ tr A f (cHi A c) := by rw [tr, if_pos hv]
      have en : ncl A (f + 1) c = 1 + ncl A f (cLo A c) + ncl A f (cHi A c) := by rw [ncl, if_pos hv]
      have ed : dpt A (f + 1) c = 1 + max (dpt A f (cLo A c)) (dpt A f (cHi A c)) := by rw [dpt, if_pos hv]
      rw [et, List.length_append] at hL
      have okl := okc_lo hA hc w2
      have okh := okc_hi hA hc w2
      have pl := pot_lo hA hc w1 w2
      have phh := pot_hi hA hc w1 w2
      have s8f : Fr [6, 15, 16, 22] [] σ (stI (stI σ 6 0 1 (ii ((N + 1 : Nat)))) 16 0 (wdt A c) (ii (mid A c))) := fs.sI (by decide) (by decide)
      obtain ⟨σ9, a1, a2, a3, a4, a5, a6, a7, a8, a9, a10, a11, a12⟩ := ih (cLo A c) m (d + 1) (stI (stI σ 6 0 1 (ii ((N + 1 : Nat)))) 16 0 (wdt A c) (ii (mid A c))) L D P (N + 1) (by omega) (by omega) (by omega) okl (hC.fr s8f (by decide))
        (fun l hl => by rw [st_c _ _ _ _ (by decide)]; exact g15 l hl)
        (fun l hl => by
          show _ = ii (up1 c.2 (wdt A c) (mid A c) l)
          by_cases e : l = wdt A c
          · subst e
            rw [st_s, up1_same]
          · rw [st_j _ _ e, up1_ne _ _ e]
            exact g16 l hl)
        (by rw [st_c _ _ _ _ (by decide), st_s]) (by rw [st_c _ _ _ _ (by decide), st_j _ _ (by decide)]; exact e2) (by rw [st_c _ _ _ _ (by decide), st_j _ _ (by decide)]; exact e3) (by rw [st_c _ _ _ _ (by decide), st_j _ _ (by decide)]; exact e4) (by omega) hD hP
      have s11f : Fr [6, 15, 16, 22] [] σ (stI (stI σ9 16 0 (wdt A c) (ii (c.2 (wdt A c)))) 15 0 (wdt A c) (ii (mid A c + 1))) := ((s8f.tr a12).sI (by decide) (by decide)).sI (by decide) (by decide)
      have nl := ndd_le (tr A f (cLo A c))
      obtain ⟨σ12, b1, b2, b3, b4, b5, b6, b7, b8, b9, b10, b11, b12⟩ := ih (cHi A c) m (d + 1) (stI (stI σ9 16 0 (wdt A c) (ii (c.2 (wdt A c)))) 15 0 (wdt A c) (ii (mid A c + 1))) (L + (tr A f (cLo A c)).length) (D + ndd (tr A f (cLo A c))) (max P (d + 1 + dpt A f (cLo A c))) (N + 1 + ncl A f (cLo A c)) (by omega) (by omega) (by omega) okh (hC.fr s11f (by decide))
        (fun l hl => by
          show _ = ii (up1 c.1 (wdt A c) (mid A c + 1) l)
          by_cases e : l = wdt A c
          · subst e
            rw [st_s, up1_same]
          · rw [st_j _ _ e, st_c _ _ _ _ (by decide), up1_ne _ _ e]
            exact a7 l hl)
        (fun l hl => by
          show _ = ii (c.2 l)
          rw [st_c _ _ _ _ (by decide)]
          by_cases e : l = wdt A c
          · subst e
            rw [st_s]
          · rw [st_j _ _ e, a8 l hl]
            show ii (up1 c.2 (wdt A c) (mid A c) l) = _
            rw [up1_ne _ _ e])
        (by rw [st_c _ _ _ _ (by decide), st_c _ _ _ _ (by decide)]; exact a2) (by rw [st_c _ _ _ _ (by decide), st_c _ _ _ _ (by decide)]; exact a3) (by rw [st_c _ _ _ _ (by decide), st_c _ _ _ _ (by decide)]; exact a4) (by rw [st_c _ _ _ _ (by decide), st_c _ _ _ _ (by decide)]; exact a5) (by omega) (by omega) (by omega)
      refine ⟨stI σ12 15 0 (wdt A c) (ii (c.1 (wdt A c))), ?_, ?_, ?_, ?_, ?_, ?_, ?_, ?_, ?_, ?_, ?_, (s11f.tr b12).sI (by decide) (by decide)⟩
      · show fX6_grow_0 (fX6_grow m) 0 (ii d) σ = _
        unfold fX6_grow_0
        have n2 := hC2.2.1
        have c15 := g15 (wdt A c) (by omega)
        have c16 := g16 (wdt A c) (by omega)
        simp only [e1, Option.bind_some, ii_lit, ii_add, ii_neg]
        rw [show (N : Int) + 1 = ((N + 1 : Nat) : Int) from rfl, vd, Option.bind_some, hv, if_pos rfl, if_pos (by rw [ii_lt (by omega) (by omega) (by omega) (by omega)]; omega), n2, wd', Option.bind_some, rd_n (by omega) (by decide), Option.bind_some, rd_n (by omega) (by decide), Option.bind_some, c15, c16, ii_add, fdv', Option.bind_some, wr_n (by omega) (by decide), Option.bind_some, show (d : Int) + 1 = ((d + 1 : Nat) : Int) from rfl, a1, Option.bind_some, wr_n (by omega) (by decide), Option.bind_some, ii_add, wr_n (by omega) (by decide), Option.bind_some, b1, Option.bind_some, wr_n (by omega) (by decide), Option.bind_some]
      · rw [st_c _ _ _ _ (by decide), b2, en]
        congr 1
        omega
      · rw [st_c _ _ _ _ (by decide), b3, et, List.length_append, Nat.add_assoc]
      · rw [st_c _ _ _ _ (by decide), b4, et, ndd_app, Nat.add_assoc]
      · rw [st_c _ _ _ _ (by decide), b5, ed]
        congr 1
        omega
      · rw [st_c _ _ _ _ (by decide), b6, st_c _ _ _ _ (by decide), st_c _ _ _ _ (by decide), a6, st_c _ _ _ _ (by decide), st_j _ _ (by decide)]
      · intro l hl
        by_cases e : l = wdt A c
        · subst e
          rw [st_s]
        · rw [st_j _ _ e, b7 l hl]
          show ii (up1 c.1 (wdt A c) (mid A c + 1) l) = _
          rw [up1_ne _ _ e]
      · intro l hl
        rw [st_c _ _ _ _ (by decide), b8 l hl]
        rfl
      · rw [et]
        refine lvC.app (fun k q hk => ?_) b9
        have hk' : k < (tr A f (cLo A c)).length := by
          rcases Nat.lt_or_ge k (tr A f (cLo A c)).length with h | h
          · exact h
          · rw [List.getElem?_eq_none h] at hk
            exact absurd hk (by simp)
        show σ12.2 22 0 (L + k) = _
        rw [b10 (L + k) (by omega)]
        exact a9 k q hk
      · intro j hj
        show σ12.2 22 0 j = _
        rw [b10 j (by omega)]
        exact a10 j hj
      · rw [ed]
        omega
    · obtain ⟨t1, t2, t3⟩ := tr_leaf (f := f + 1) hv
      rw [t1] at hL ⊢
      rw [t2, t3]
      simp only [List.length_singleton] at hL ⊢
      obtain ⟨σ', x1, x2, x3, x4, x5, x6, x7, x8⟩ := C_addLeaf hC2 hA hc g15 g16 (v := vrd A c A.R) (by omega) (L := L) (D := D) (P := P) (d := d) (by omega) (by omega) (by omega) (by omega) (by rw [st_j _ _ (by decide)]; exact e2) (by rw [st_j _ _ (by decide)]; exact e3) (by rw [st_j _ _ (by decide)]; exact e4)
      refine ⟨σ', ?_, ?_, x2, ?_, x4, ?_, ?_, ?_, lvC.one x6, ?_, by omega, fs.tr (x8.mono (by decide) (by decide))⟩
      · show fX6_grow_0 (fX6_grow m) 0 (ii d) σ = _
        unfold fX6_grow_0 fX6_grow_28
        have n2 := hC2.2.1
        simp only [e1, Option.bind_some, ii_lit, ii_add]
        rw [show (N : Int) + 1 = ((N + 1 : Nat) : Int) from rfl, vd, Option.bind_some]
        have qn : ¬ ii (vrd A c A.R) = -ii 2 := by
          rw [ii_neg, ii_eq (by omega) (by omega) (by omega) (by omega)]
          exact hv
        rw [if_neg qn, n2, x1]
        rfl
      · rw [x5 1 (by decide), st_s]
      · rw [x3]
        congr 1
      · rw [x5 0 (by decide), st_j _ _ (by decide)]
      · intro l hl
        rw [x8.1 15 (by decide) (by decide)]
        exact g15 l hl
      · intro l hl
        rw [x8.1 16 (by decide) (by decide)]
        exact g16 l hl
      · intro j hj
        rw [x7 j (by omega)]
        rfl
