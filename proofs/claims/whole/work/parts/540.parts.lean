theorem M_parts {A : bdy} (hA : okb A) : ∀ (f : Nat) (c : bx) (m d : Nat) (τ : mm) (L D P N : Nat), f < m → pot A c ≤ f → d + f ≤ 20 → okc c → isM τ A → atE τ d c → τ.1 32 0 19 = ii N → τ.1 32 0 18 = ii L → τ.1 32 0 21 = ii D → τ.1 32 0 20 = ii P → L + (tr A f c).length ≤ 4096 → P ≤ 20 →
    ∃ τ', fX8_parts m (ii d) τ = some τ' ∧ τ'.1 32 0 19 = ii ((N + ncl A f c : Nat)) ∧ τ'.1 32 0 18 = ii ((L + (tr A f c).length : Nat)) ∧ τ'.1 32 0 21 = ii ((D + ndd (tr A f c) : Nat)) ∧ τ'.1 32 0 20 = ii ((max P (d + dpt A f c) : Nat)) ∧ lvM τ' A.n L (tr A f c) ∧ (∀ j, j < 11 * L → τ'.1 57 0 j = τ.1 57 0 j) ∧ (∀ j, j < 8 * d + 8 → τ'.1 47 0 j = τ.1 47 0 j) ∧ d + dpt A f c ≤ 20 ∧ Fr [47, 57] [18, 19, 20, 21] τ τ' := by
  -- what is common to both
  have common : ∀ (c : bx) (m d : Nat) (τ : mm) (P N : Nat), d ≤ 20 → okc c → isM τ A → atE τ d c → τ.1 32 0 19 = ii N → τ.1 32 0 20 = ii P → P ≤ 20 →
      ∃ s, isM s A ∧ atE s d c ∧ s.1 32 0 19 = ii ((N + 1 : Nat)) ∧ s.1 32 0 20 = ii ((max P d : Nat)) ∧ (∀ j, j = 18 ∨ j = 21 → s.1 32 0 j = τ.1 32 0 j) ∧ s.1 57 = τ.1 57 ∧ s.1 47 = τ.1 47 ∧ Fr [47, 57] [18, 19, 20, 21] τ s ∧
        ((vrd A c A.R ≠ -2 → fX8_parts (m + 1) (ii d) τ = Option.bind (fX8_leafAt (ii d) (ii (vrd A c A.R)) s) fun q1 => some q1) ∧ (vrd A c A.R = -2 → fX8_parts (m + 1) (ii d) τ = lp (fX8_parts_60_L (fX8_parts m) (ii d) s) (ii 0, ii 1))) := by
    intro c m d τ P N hd hc hM hE e19 e20 hP
    have hvv := vrd_v A c A.R
    have hR8 := hA.2.1
    have fs : Fr [47, 57] [18, 19, 20, 21] τ (stI (stI τ 32 0 19 (ii ((N + 1 : Nat)))) 32 0 20 (ii ((max P d : Nat)))) := ((Fr.rf _ _ _).sF (by decide)).sF (by decide)
    have fs2 : Fr [] [19, 20] τ (stI (stI τ 32 0 19 (ii ((N + 1 : Nat)))) 32 0 20 (ii ((max P d : Nat)))) := ((Fr.rf _ _ _).sF (by decide)).sF (by decide)
    have hMs := hM.fr fs2 (by decide) (by decide)
    have hEs := hE.fr fs2 (by decide)
    have dr := M_deadRow hMs hA hc (by omega) hEs
    have first : fX8_parts (m + 1) (ii d) τ = fX8_parts_27 (fX8_parts m) (ii d) (ii ((max P d : Nat))) (stI τ 32 0 19 (ii ((N + 1 : Nat)))) := by
      show fX8_parts_0 (fX8_parts m) (ii d) τ = _
      unfold fX8_parts_0
      rw [e19]
      simp only [Option.bind_some, ii_lit, ii_add]
      rw [show (N : Int) + 1 = ((N + 1 : Nat) : Int) from rfl, st_j _ _ (by decide), e20]
      by_cases q : d ≤ P
      · rw [if_pos (by rw [ii_le (by omega) (by omega) (by omega) (by omega)]; omega), show max P d = P by omega]
      · rw [if_neg (by rw [ii_le (by omega) (by omega) (by omega) (by omega)]; omega), show max P d = d by omega]
    refine ⟨stI (stI τ 32 0 19 (ii ((N + 1 : Nat)))) 32 0 20 (ii ((max P d : Nat))), hMs, hEs, ?_, ?_, ?_, ?_, ?_, fs, ?_, ?_⟩
    · rw [st_j _ _ (by decide), st_s]
    · rw [st_s]
    · intro j hj
      rw [st_j _ _ (by omega), st_j _ _ (by omega)]
    · rw [st_c _ _ _ _ (by decide), st_c _ _ _ _ (by decide)]
    · rw [st_c _ _ _ _ (by decide), st_c _ _ _ _ (by decide)]
    · intro hv
      rw [first]
      unfold fX8_parts_27 fX8_parts_48
      rw [Option.bind_some, dr, Option.bind_some]
      by_cases q : 0 ≤ vrd A c A.R
      · simp only [if_pos q]
        rw [if_pos (by show ii 0 ≤ ii (vrd A c A.R); rw [ii_le (by omega) (by omega) (by omega) (by omega)]; exact q)]
      · have hv1 : vrd A c A.R = -1 := by omega
        have iw := M_isWholeT hMs hA hc (by omega) hEs (by omega)
        simp only [if_neg q]
        rw [if_neg (by decide), iw, Option.bind_some, decide_eq_true hv1, if_neg (by decide), hv1]
    · intro hv
      rw [first]
      unfold fX8_parts_27
      rw [Option.bind_some, dr, Option.bind_some]
      have q : ¬ 0 ≤ vrd A c A.R := by omega
      have iw := M_isWholeT hMs hA hc (by omega) hEs (by omega)
      simp only [if_neg q]
      rw [if_neg (by decide), iw, Option.bind_some, decide_eq_false (by omega), if_pos (by decide)]
      rfl
  have leaf : ∀ (f : Nat) (c : bx) (m d : Nat) (τ : mm) (L D P N : Nat), vrd A c A.R ≠ -2 → d ≤ 20 → okc c → isM τ A → atE τ d c → τ.1 32 0 19 = ii N → τ.1 32 0 18 = ii L → τ.1 32 0 21 = ii D → τ.1 32 0 20 = ii P → L + (tr A f c).length ≤ 4096 → P ≤ 20 →
      ∃ τ', fX8_parts (m + 1) (ii d) τ = some τ' ∧ τ'.1 32 0 19 = ii ((N + ncl A f c : Nat)) ∧ τ'.1 32 0 18 = ii ((L + (tr A f c).length : Nat)) ∧ τ'.1 32 0 21 = ii ((D + ndd (tr A f c) : Nat)) ∧ τ'.1 32 0 20 = ii ((max P (d + dpt A f c) : Nat)) ∧ lvM τ' A.n L (tr A f c) ∧ (∀ j, j < 11 * L → τ'.1 57 0 j = τ.1 57 0 j) ∧ (∀ j, j < 8 * d + 8 → τ'.1 47 0 j = τ.1 47 0 j) ∧ d + dpt A f c ≤ 20 ∧ Fr [47, 57] [18, 19, 20, 21] τ τ' := by
    intro f c m d τ L D P N hv hd hc hM hE e19 e18 e21 e20 hL hP
    have hvv := vrd_v A c A.R
    have hR8 := hA.2.1
    obtain ⟨s, k1, k2, k3, k4, k5, k6, k7, k8, k9, k10⟩ := common c m d τ P N hd hc hM hE e19 e20 hP
    obtain ⟨t1, t2, t3⟩ := tr_leaf (f := f) hv
    rw [t1] at hL ⊢
    rw [t2, t3]
    simp only [List.length_singleton] at hL ⊢
    obtain ⟨τ', x1, x2, x3, x4, x5, x6⟩ := M_leafAt k1 hA (by omega) k2 (v := vrd A c A.R) (by omega) (L := L) (D := D) (by omega) (by rw [k5 18 (Or.inl rfl)]; exact e18) (by rw [k5 21 (Or.inr rfl)]; exact e21)
    refine ⟨τ', ?_, ?_, x2, ?_, ?_, lvM.one x4, ?_, ?_, by omega, k8.tr (x6.mono (by decide) (by decide))⟩
    · rw [k9 hv, x1]
      rfl
    · rw [x6.2.2 19 (by decide)]
      exact k3
    · rw [x3]
      congr 1
    · rw [x6.2.2 20 (by decide)]
      exact k4
    · intro j hj
      rw [x5 j hj, k6]
    · intro j hj
      rw [x6.1 47 (by decide) (by decide), k7]
  intro f
  induction f with
  | zero =>
    intro c m d τ L D P N hm hp hdf hc hM hE e19 e18 e21 e20 hL hP
    have hv : vrd A c A.R ≠ -2 := by
      intro e
      obtain ⟨w1, w2⟩ := open_wide hA hc e
      have q1 := pot_lo hA hc w1 w2
      have q2 := (pot_r hA (cLo A c)).1
      omega
    obtain ⟨m, rfl⟩ : ∃ k, m = k + 1 := ⟨m - 1, by omega⟩
    exact leaf 0 c m d τ L D P N hv (by omega) hc hM hE e19 e18 e21 e20 hL hP
  | succ f ih =>
    intro c m d τ L D P N hm hp hdf hc hM hE e19 e18 e21 e20 hL hP
    obtain ⟨m, rfl⟩ : ∃ k, m = k + 1 := ⟨m - 1, by omega⟩
    by_cases hv : vrd A c A.R = -2
    · obtain ⟨s, k1, k2, k3, k4, k5, k6, k7, k8, k9, k10⟩ := common c m d τ P N (by omega) hc hM hE e19 e20 hP
      obtain ⟨w1, w2⟩ := open_wide hA hc hv
      have hn1 := hA.1
      have hb := hc (wdt A c) (by omega)
      have et : tr A (f + 1) c = tr A f (cLo A c) ++ tr A f (cHi A c) := by rw [tr, if_pos hv]
      have en : ncl A (f + 1) c = 1 + ncl A f (cLo A c) + ncl A f (cHi A c) := by rw [ncl, if_pos hv]
      have ed : dpt A (f + 1) c = 1 + max (dpt A f (cLo A c)) (dpt A f (cHi A c)) := by rw [dpt, if_pos hv]
      rw [et, List.length_append] at hL
      have okl := okc_lo hA hc w2
      have okh := okc_hi hA hc w2
      have pl := pot_lo hA hc w1 w2
      have phh := pot_hi hA hc w1 w2
      have mdl := M_middle (a := c.1 (wdt A c)) (b := c.2 (wdt A c)) (by omega) (by omega)
      have mdl' : fX8_middle (ii (c.1 (wdt A c))) (ii (c.2 (wdt A c))) = some (ii (mid A c)) := mdl
      obtain ⟨τ1, a1, a2, a3, a4⟩ := M_half (A := A) (rc := fX8_parts m) (d := d) (by omega) k2 (w := wdt A c) (by omega) (md := mid A c) 0 (by decide)
      rw [if_pos rfl] at a1
      have hM1 := k1.fr a3 (by decide) (by decide)
      obtain ⟨τ2, b1, b2, b3, b4, b5, b6, b7, b8, b9, b10⟩ := ih (cLo A c) m (d + 1) τ1 L D (max P d) (N + 1) (by omega) (by omega) (by omega) okl hM1 a1 (by rw [a3.2.2 19 (by decide)]; exact k3) (by rw [a3.2.2 18 (by decide), k5 18 (Or.inl rfl)]; exact e18) (by rw [a3.2.2 21 (by decide), k5 21 (Or.inr rfl)]; exact e21) (by rw [a3.2.2 20 (by decide)]; exact k4) (by omega) (by omega)
      have h1 := a4 τ2 b1
      have hE2 : atE τ2 d c := by
        intro l hl
        rw [b8 _ (by omega), b8 _ (by omega), a2 _ (by omega), a2 _ (by omega)]
        exact k2 l hl
      obtain ⟨τ3, c1, c2, c3, c4⟩ := M_half (A := A) (rc := fX8_parts m) (d := d) (by omega) hE2 (w := wdt A c) (by omega) (md := mid A c) 1 (by decide)
      rw [if_neg (by decide)] at c1
      have hM3 := (hM1.fr b10 (by decide) (by decide)).fr c3 (by decide) (by decide)
      have nl := ndd_le (tr A f (cLo A c))
      obtain ⟨τ4, g1, g2, g3, g4, g5, g6, g7, g8, g9, g10⟩ := ih (cHi A c) m (d + 1) τ3 (L + (tr A f (cLo A c)).length) (D + ndd (tr A f (cLo A c))) (max (max P d) (d + 1 + dpt A f (cLo A c))) (N + 1 + ncl A f (cLo A c)) (by omega) (by omega) (by omega) okh hM3 c1 (by rw [c3.2.2 19 (by decide)]; exact b2) (by rw [c3.2.2 18 (by decide)]; exact b3) (by rw [c3.2.2 21 (by decide)]; exact b4) (by rw [c3.2.2 20 (by decide)]; exact b5) (by omega) (by omega)
      have h2 := c4 τ4 g1
      have n1 : s.1 32 0 1 = ii A.n := k1.2.1
      have halves : lp (fX8_parts_139_L (fX8_parts m) (ii d) (ii (wdt A c)) (ii (mid A c))) (ii 0, s) = some τ4 := by
        have q1 : fX8_parts_139_L (fX8_parts m) (ii d) (ii (wdt A c)) (ii (mid A c)) (ii 0, s) = some (.inl (ii ((0 + 1 : Nat)), τ2)) := by
          show fX8_parts_139 (fX8_parts m) (ii d) (ii (wdt A c)) (ii (mid A c)) (ii 0) s = _
          unfold fX8_parts_139
          rw [if_neg (by decide)]
          exact h1
        have q2 : fX8_parts_139_L (fX8_parts m) (ii d) (ii (wdt A c)) (ii (mid A c)) (ii ((0 + 1 : Nat)), τ2) = some (.inl (ii ((1 + 1 : Nat)), τ4)) := by
          show fX8_parts_139 (fX8_parts m) (ii d) (ii (wdt A c)) (ii (mid A c)) (ii ((0 + 1 : Nat))) τ2 = _
          unfold fX8_parts_139
          rw [if_neg (by decide)]
          exact h2
        have q3 : fX8_parts_139_L (fX8_parts m) (ii d) (ii (wdt A c)) (ii (mid A c)) (ii ((1 + 1 : Nat)), τ4) = some (.inr τ4) := by
          show fX8_parts_139 (fX8_parts m) (ii d) (ii (wdt A c)) (ii (mid A c)) (ii ((1 + 1 : Nat))) τ4 = _
          unfold fX8_parts_139
          rw [if_pos (by decide)]
        rw [lp_go q1, lp_go q2, lp_end q3]
      have walk : lp (fX8_parts_60_L (fX8_parts m) (ii d) s) (ii 0, ii 1) = some τ4 := by
        refine lp_f (fun k => (ii (wid c k), ii ((k + 1 : Nat)))) (A.n - 1) rfl ?_ ?_
        · intro k hk
          have w := wid_le c k
          have z1 := hc (k + 1) (by omega)
          have z2 := hc (wid c k) (by omega)
          have u1 := M_edge1 k2 (by omega) (l := k + 1) (by omega)
          have u0 := M_edge0 k2 (by omega) (l := k + 1) (by omega)
          have v1 := M_edge1 k2 (by omega) (l := wid c k) (by omega)
          have v0 := M_edge0 k2 (by omega) (l := wid c k) (by omega)
          rw [wid]
          show fX8_parts_60 (fX8_parts m) (ii d) (ii (wid c k)) (ii ((k + 1 : Nat))) s = _
          unfold fX8_parts_60 fX8_parts_110
          rw [n1, if_neg (by rw [ii_le (by omega) (by omega) (by omega) (by omega)]; omega)]
          simp only [ii_lit]
          rw [u1, Option.bind_some, u0, Option.bind_some, v1, Option.bind_some, v0, Option.bind_some, ii_sub, ii_sub]
          by_cases q : c.2 (wid c k) - c.1 (wid c k) < c.2 (k + 1) - c.1 (k + 1)
          · rw [if_neg (by rw [ii_le (by omega) (by omega) (by omega) (by omega)]; omega), if_pos q, Option.bind_some, ii_add]
            rfl
          · rw [if_pos (by rw [ii_le (by omega) (by omega) (by omega) (by omega)]; omega), if_neg q, Option.bind_some, ii_add]
            rfl
        · have t : A.n - 1 + 1 = A.n := by omega
          have u0 := M_edge0 k2 (by omega) (l := wdt A c) (by omega)
          have u1 := M_edge1 k2 (by omega) (l := wdt A c) (by omega)
          rw [t]
          show fX8_parts_60 (fX8_parts m) (ii d) (ii (wdt A c)) (ii A.n) s = _
          unfold fX8_parts_60
          rw [n1, if_pos (Int32.le_refl _)]
          simp only [ii_lit]
          rw [u0, Option.bind_some, u1, Option.bind_some, mdl', Option.bind_some, halves]
          rfl
      refine ⟨τ4, (k10 hv).trans walk, ?_, ?_, ?_, ?_, ?_, ?_, ?_, ?_, ?_⟩
      · rw [g2, en]
        congr 1
        omega
      · rw [g3, et, List.length_append, Nat.add_assoc]
      · rw [g4, et, ndd_app, Nat.add_assoc]
      · rw [g5, ed]
        congr 1
        omega
      · rw [et]
        refine lvM.app (fun k q hk => ?_) g6
        have hk' : k < (tr A f (cLo A c)).length := by
          rcases Nat.lt_or_ge k (tr A f (cLo A c)).length with h | h
          · exact h
          · rw [List.getElem?_eq_none h] at hk
            exact absurd hk (by simp)
        refine (b6 k q hk).fr (fun j hj => ?_)
        rw [g7 j (by omega), c3.1 57 (by decide) (by decide)]
      · intro j hj
        rw [g7 j (by omega), c3.1 57 (by decide) (by decide), b7 j hj, a3.1 57 (by decide) (by decide), k6]
      · intro j hj
        rw [g8 j (by omega), c2 j (by omega), b8 j (by omega), a2 j hj, k7]
      · rw [ed]
        omega
      · exact (((k8.tr (a3.mono (by decide) (by decide))).tr b10).tr (c3.mono (by decide) (by decide))).tr g10
    · exact leaf (f + 1) c m d τ L D P N hv (by omega) hc hM hE e19 e18 e21 e20 hL hP
