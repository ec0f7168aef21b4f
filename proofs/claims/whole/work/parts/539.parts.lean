-- THE REFERENCE'S TREE
def lfM (τ : mm) (n k : Nat) (q : bx × Int) : Prop := τ.1 57 0 (11 * k) = ii (if q.2 < 0 then 1 else 0) ∧ τ.1 57 0 (11 * k + 1) = ii (pcl n q.1) ∧ τ.1 57 0 (11 * k + 2) = ii q.2 ∧ ∀ l, l < 4 → τ.1 57 0 (11 * k + 3 + 2 * l) = ii (q.1.1 l) ∧ τ.1 57 0 (11 * k + 4 + 2 * l) = ii (q.1.2 l)
def lvM (τ : mm) (n L : Nat) (T : List (bx × Int)) : Prop := ∀ k q, T[k]? = some q → lfM τ n (L + k) q
theorem lfM.fr {τ τ' : mm} {n k : Nat} {q : bx × Int} (h : lfM τ n k q) (hf : ∀ j, j < 11 * k + 11 → τ'.1 57 0 j = τ.1 57 0 j) : lfM τ' n k q := by
  obtain ⟨h1, h2, h3, h4⟩ := h
  refine ⟨by rw [hf _ (by omega)]; exact h1, by rw [hf _ (by omega)]; exact h2, by rw [hf _ (by omega)]; exact h3, fun l hl => ?_⟩
  rw [hf _ (by omega), hf _ (by omega)]
  exact h4 l hl
theorem lvM.one {τ : mm} {n L : Nat} {q : bx × Int} (h : lfM τ n L q) : lvM τ n L [q] := by
  intro k q' hk
  cases k with
  | zero =>
    simp only [List.getElem?_cons_zero, Option.some.injEq] at hk
    subst hk
    exact h
  | succ k => simp at hk
theorem lvM.app {τ : mm} {n L : Nat} {T U : List (bx × Int)} (h1 : lvM τ n L T) (h2 : lvM τ n (L + T.length) U) : lvM τ n L (T ++ U) := by
  intro k q hk
  by_cases e : k < T.length
  · rw [List.getElem?_append_left e] at hk
    exact h1 k q hk
  · rw [List.getElem?_append_right (by omega)] at hk
    have := h2 (k - T.length) q hk
    rw [show L + T.length + (k - T.length) = L + k by omega] at this
    exact this
theorem atE.fr {ks fs : List Nat} {τ τ' : mm} {d : Nat} {c : bx} (h : atE τ d c) (f : Fr ks fs τ τ') (hk : 47 ∉ ks) : atE τ' d c := by
  unfold atE at h ⊢
  rw [f.1 47 (by decide) hk]
  exact h
theorem M_leafAt {τ : mm} {A : bdy} (hM : isM τ A) (hA : okb A) {c : bx} {d : Nat} (hd : d ≤ 48) (hE : atE τ d c) {v : Int} (hv : -1 ≤ v ∧ v < 8) {L D : Nat} (hL : L < 4096) (e1 : τ.1 32 0 18 = ii L) (e2 : τ.1 32 0 21 = ii D) :
    ∃ τ', fX8_leafAt (ii d) (ii v) τ = some τ' ∧ τ'.1 32 0 18 = ii ((L + 1 : Nat)) ∧ τ'.1 32 0 21 = ii ((D + (if 0 ≤ v then 1 else 0) : Nat)) ∧ lfM τ' A.n L (c, v) ∧ (∀ j, j < 11 * L → τ'.1 57 0 j = τ.1 57 0 j) ∧ Fr [57] [18, 21] τ τ' := by
  have hn1 := hA.1
  unfold fX8_leafAt fX8_leafAt_0
  simp (disch := omega) only [e1, if_true, if_false, Option.bind_some, Option.map_some, ii_lit, ll_lit, ii_neg, ll_neg, ii_add, ii_sub, ii_mul, ll_add, ll_sub, ll_mul, ii_le, ii_lt, ii_eq, ii_t, bi_0, bi_1, rd_z, wr_z, rr_z, rl_z, wl_z, tn_n, st_s, st_j, st_i, st_c, st_2, sl_s, sl_j, sl_i, sl_c, sl_1, Int.natCast_add, Int.cast_ofNat_Int, if_pos, if_neg]
  refine lp_j (fun k s => s.1 = ii (prf (fun l => c.2 l - c.1 l + 1) (if k ≤ A.n then k else A.n)) ∧ s.2.1 = ii k ∧ (∀ l, l < k → s.2.2.1 57 0 (11 * L + 3 + 2 * l) = ii (c.1 l) ∧ s.2.2.1 57 0 (11 * L + 4 + 2 * l) = ii (c.2 l)) ∧ (∀ j, j < 11 * L → s.2.2.1 57 0 j = τ.1 57 0 j) ∧ Fr [57] [] τ s.2.2) _ 4 ⟨rfl, rfl, fun l hl => by omega, fun _ _ => rfl, Fr.rf _ _ _⟩ ?_ ?_
  · rintro k ⟨a, b, s⟩ hk ⟨y1, y2, y3, y4, y5⟩
    have y1 : a = ii (prf (fun l => c.2 l - c.1 l + 1) (if k ≤ A.n then k else A.n)) := y1
    have y2 : b = ii k := y2
    subst y1 y2
    have x5 : Fr [57] [] τ s := y5
    have n1 : s.1 32 0 1 = ii A.n := by rw [x5.2.2 1 (by decide)]; exact hM.2.1
    have w0 := fun (z : mm) (hz : Fr [57] [] τ z) => M_edge0 (hE.fr hz (by decide)) hd (l := k) hk
    have w1 := fun (z : mm) (hz : Fr [57] [] τ z) => M_edge1 (hE.fr hz (by decide)) hd (l := k) hk
    have f1 : Fr [57] [] τ (stI s 57 0 (11 * L + 3 + 2 * k) (ii (c.1 k))) := x5.sI (by decide) (by decide)
    have f2 : Fr [57] [] τ (stI (stI s 57 0 (11 * L + 3 + 2 * k) (ii (c.1 k))) 57 0 (11 * L + 4 + 2 * k) (ii (c.2 k))) := f1.sI (by decide) (by decide)
    have t1 : (11 * (L : Int) + 3 + 2 * (k : Int)).toNat = 11 * L + 3 + 2 * k := by omega
    have t2 : (11 * (L : Int) + 4 + 2 * (k : Int)).toNat = 11 * L + 4 + 2 * k := by omega
    refine ⟨(ii (prf (fun l => c.2 l - c.1 l + 1) (if k + 1 ≤ A.n then k + 1 else A.n)), ii ((k + 1 : Nat)), stI (stI s 57 0 (11 * L + 3 + 2 * k) (ii (c.1 k))) 57 0 (11 * L + 4 + 2 * k) (ii (c.2 k))), ?_, rfl, rfl, ?_, ?_, f2⟩
    · by_cases q : k < A.n
      · rw [if_pos (show k + 1 ≤ A.n by omega), if_pos (show k ≤ A.n by omega), prf]
        simp (disch := omega) only [fX8_leafAt_14_L, fX8_leafAt_14, fX8_leafAt_96, w0 s x5, w1 _ f1, w0 _ f2, w1 _ f2, t1, t2, n1, if_true, if_false, Option.bind_some, Option.map_some, ii_lit, ll_lit, ii_neg, ll_neg, ii_add, ii_sub, ii_mul, ll_add, ll_sub, ll_mul, ii_le, ii_lt, ii_eq, ii_t, bi_0, bi_1, rd_z, wr_z, rr_z, rl_z, wl_z, tn_n, st_s, st_j, st_i, st_c, st_2, sl_s, sl_j, sl_i, sl_c, sl_1, Int.natCast_add, Int.cast_ofNat_Int, if_pos, if_neg]
      · rw [if_neg (show ¬ k + 1 ≤ A.n by omega)]
        have qq : (if k ≤ A.n then k else A.n) = A.n := by split <;> omega
        rw [qq]
        simp (disch := omega) only [fX8_leafAt_14_L, fX8_leafAt_14, fX8_leafAt_96, w0 s x5, w1 _ f1, t1, t2, n1, Int.mul_one, if_true, if_false, Option.bind_some, Option.map_some, ii_lit, ll_lit, ii_neg, ll_neg, ii_add, ii_sub, ii_mul, ll_add, ll_sub, ll_mul, ii_le, ii_lt, ii_eq, ii_t, bi_0, bi_1, rd_z, wr_z, rr_z, rl_z, wl_z, tn_n, st_s, st_j, st_i, st_c, st_2, sl_s, sl_j, sl_i, sl_c, sl_1, Int.natCast_add, Int.cast_ofNat_Int, if_pos, if_neg]
    · intro l hl
      show (stI (stI s 57 0 (11 * L + 3 + 2 * k) _) 57 0 (11 * L + 4 + 2 * k) _).1 57 0 (11 * L + 3 + 2 * l) = _ ∧ (stI (stI s 57 0 (11 * L + 3 + 2 * k) _) 57 0 (11 * L + 4 + 2 * k) _).1 57 0 (11 * L + 4 + 2 * l) = _
      by_cases e : l = k
      · subst e
        rw [st_j _ _ (by omega), st_s, st_s]
        exact ⟨rfl, rfl⟩
      · rw [st_j _ _ (by omega), st_j _ _ (by omega), st_j _ _ (by omega), st_j _ _ (by omega)]
        exact y3 l (by omega)
    · intro j hj
      show (stI (stI s 57 0 (11 * L + 3 + 2 * k) _) 57 0 (11 * L + 4 + 2 * k) _).1 57 0 j = _
      rw [st_j _ _ (by omega), st_j _ _ (by omega)]
      exact y4 j hj
  · rintro ⟨a, b, s⟩ ⟨y1, y2, y3, y4, y5⟩
    have y1 : a = ii (prf (fun l => c.2 l - c.1 l + 1) (if 4 ≤ A.n then 4 else A.n)) := y1
    have qq : (if 4 ≤ A.n then 4 else A.n) = A.n := by split <;> omega
    rw [qq] at y1
    have y1 : a = ii (pcl A.n c) := y1
    have y2 : b = ii 4 := y2
    subst y1 y2
    have x3 : ∀ l, l < 4 → s.1 57 0 (11 * L + 3 + 2 * l) = ii (c.1 l) ∧ s.1 57 0 (11 * L + 4 + 2 * l) = ii (c.2 l) := y3
    have x4 : ∀ j, j < 11 * L → s.1 57 0 j = τ.1 57 0 j := y4
    have x5 : Fr [57] [] τ s := y5
    have s18 : s.1 32 0 18 = ii L := by rw [x5.2.2 18 (by decide)]; exact e1
    have s21 : s.1 32 0 21 = ii D := by rw [x5.2.2 21 (by decide)]; exact e2
    have t0 : (11 * (L : Int)).toNat = 11 * L := by omega
    have t1 : (11 * (L : Int) + 1).toNat = 11 * L + 1 := by omega
    have t2 : (11 * (L : Int) + 2).toNat = 11 * L + 2 := by omega
    have fin : ∀ (x : Nat) (w : Int), (x = if 0 ≤ v then 1 else 0) → (w = if v < 0 then 1 else 0) → ∃ τ', fX8_leafAt_14_L (ii d) (ii v) (ii (11 * (L : Int))) (ii (pcl A.n c), ii 4, s) = some (.inr τ') ∧ τ' = stI (stI (stI (stI (stI s 57 0 (11 * L) (ii w)) 57 0 (11 * L + 1) (ii (pcl A.n c))) 57 0 (11 * L + 2) (ii v)) 32 0 18 (ii ((L + 1 : Nat)))) 32 0 21 (ii ((D + x : Nat))) := by
      intro x w hx hw
      refine ⟨_, ?_, rfl⟩
      by_cases q : 0 ≤ v
      · rw [if_pos q] at hx
        rw [if_neg (by omega)] at hw
        subst hx hw
        simp (disch := omega) only [fX8_leafAt_14_L, fX8_leafAt_14, fX8_leafAt_119, fX8_leafAt_163, s18, s21, t0, t1, t2, if_true, if_false, Option.bind_some, Option.map_some, ii_lit, ll_lit, ii_neg, ll_neg, ii_add, ii_sub, ii_mul, ll_add, ll_sub, ll_mul, ii_le, ii_lt, ii_eq, ii_t, bi_0, bi_1, rd_z, wr_z, rr_z, rl_z, wl_z, tn_n, st_s, st_j, st_i, st_c, st_2, sl_s, sl_j, sl_i, sl_c, sl_1, Int.natCast_add, Int.cast_ofNat_Int, if_pos, if_neg]
      · rw [if_neg q] at hx
        rw [if_pos (by omega)] at hw
        subst hx hw
        simp (disch := omega) only [fX8_leafAt_14_L, fX8_leafAt_14, fX8_leafAt_119, fX8_leafAt_163, s18, s21, t0, t1, t2, Nat.add_zero, Int.add_zero, if_true, if_false, Option.bind_some, Option.map_some, ii_lit, ll_lit, ii_neg, ll_neg, ii_add, ii_sub, ii_mul, ll_add, ll_sub, ll_mul, ii_le, ii_lt, ii_eq, ii_t, bi_0, bi_1, rd_z, wr_z, rr_z, rl_z, wl_z, tn_n, st_s, st_j, st_i, st_c, st_2, sl_s, sl_j, sl_i, sl_c, sl_1, Int.natCast_add, Int.cast_ofNat_Int, if_pos, if_neg]
    obtain ⟨τ', x1, x2⟩ := fin _ _ rfl rfl
    refine ⟨τ', x1, ?_, ?_, ?_, ?_, ?_⟩
    · rw [x2, st_j _ _ (by decide), st_s]
      rfl
    · rw [x2, st_s]
      rfl
    · rw [x2]
      refine ⟨?_, ?_, ?_, fun l hl => ?_⟩
      · rw [st_c _ _ _ _ (by decide), st_c _ _ _ _ (by decide), st_j _ _ (by omega), st_j _ _ (by omega), st_s]
      · rw [st_c _ _ _ _ (by decide), st_c _ _ _ _ (by decide), st_j _ _ (by omega), st_s]
      · rw [st_c _ _ _ _ (by decide), st_c _ _ _ _ (by decide), st_s]
      · rw [st_c _ _ _ _ (by decide), st_c _ _ _ _ (by decide), st_j _ _ (by omega), st_j _ _ (by omega), st_j _ _ (by omega), st_j _ _ (by omega), st_j _ _ (by omega), st_j _ _ (by omega)]
        exact x3 l hl
    · intro j hj
      rw [x2, st_c _ _ _ _ (by decide), st_c _ _ _ _ (by decide), st_j _ _ (by omega), st_j _ _ (by omega), st_j _ _ (by omega)]
      exact x4 j hj
    · rw [x2]
      exact ((((x5.mono (by decide) (by decide)).sI (by decide) (by decide)).sI (by decide) (by decide)).sI (by decide) (by decide)).sF (by decide) |>.sF (by decide)
/-- a cell is copied to the next depth, one side of it changed, and gone through -/
theorem M_half {A : bdy} {rc : Int32 → mm → Option mm} {τ : mm} {d : Nat} (hd : d ≤ 40) {c : bx} (hE : atE τ d c) {w : Nat} (hw : w < 4) {md : Int} (h : Nat) (hh : h < 2) :
    ∃ τ1, atE τ1 (d + 1) (if h = 0 then (c.1, up1 c.2 w md) else (up1 c.1 w (md + 1), c.2)) ∧ (∀ j, j < 8 * d + 8 → τ1.1 47 0 j = τ.1 47 0 j) ∧ Fr [47] [] τ τ1 ∧ ∀ τ2, rc (ii ((d + 1 : Nat))) τ1 = some τ2 → lp (fX8_parts_148_L rc (ii d) (ii w) (ii md) (ii h)) (ii 0, τ) = some (.inl (ii ((h + 1 : Nat)), τ2)) := by
  have copy : ∃ s, (∀ Z, (fX8_parts_148_L rc (ii d) (ii w) (ii md) (ii h) (ii 8, s) = some (.inr Z)) → lp (fX8_parts_148_L rc (ii d) (ii w) (ii md) (ii h)) (ii 0, τ) = some Z) ∧ (∀ k, k < 8 → s.1 47 0 (8 * d + 8 + k) = τ.1 47 0 (8 * d + k)) ∧ (∀ j, j < 8 * d + 8 → s.1 47 0 j = τ.1 47 0 j) ∧ Fr [47] [] τ s := by
    have step : ∀ (e k : Nat) (s : mm), k + e = 8 → (∀ i, i < k → s.1 47 0 (8 * d + 8 + i) = τ.1 47 0 (8 * d + i)) → (∀ j, j < 8 * d + 8 → s.1 47 0 j = τ.1 47 0 j) → Fr [47] [] τ s → ∃ s', (∀ Z, (fX8_parts_148_L rc (ii d) (ii w) (ii md) (ii h) (ii 8, s') = some (.inr Z)) → lp (fX8_parts_148_L rc (ii d) (ii w) (ii md) (ii h)) (ii (k : Nat), s) = some Z) ∧ (∀ i, i < 8 → s'.1 47 0 (8 * d + 8 + i) = τ.1 47 0 (8 * d + i)) ∧ (∀ j, j < 8 * d + 8 → s'.1 47 0 j = τ.1 47 0 j) ∧ Fr [47] [] τ s' := by
      intro e
      induction e with
      | zero =>
        intro k s hk g1 g2 g3
        have : k = 8 := by omega
        subst this
        exact ⟨s, fun Z hZ => lp_end hZ, g1, g2, g3⟩
      | succ e ih =>
        intro k s hk g1 g2 g3
        have v1 : s.1 47 0 (8 * d + k) = τ.1 47 0 (8 * d + k) := g2 _ (by omega)
        have e1 : fX8_parts_148_L rc (ii d) (ii w) (ii md) (ii h) (ii (k : Nat), s) = some (.inl (ii ((k + 1 : Nat)), stI s 47 0 (8 * d + 8 + k) (τ.1 47 0 (8 * d + k)))) := by
          have t1 : (8 * (d : Int) + (k : Int)).toNat = 8 * d + k := by omega
          have t2 : (8 * (d : Int) + 8 + (k : Int)).toNat = 8 * d + 8 + k := by omega
          show fX8_parts_148 rc (ii d) (ii w) (ii md) (ii h) (ii (k : Nat)) s = _
          unfold fX8_parts_148
          rw [if_neg (by show ¬ ii 8 ≤ ii (k : Int); rw [ii_le (by omega) (by omega) (by omega) (by omega)]; omega)]
          simp (disch := omega) only [t1, t2, v1, if_true, if_false, Option.bind_some, Option.map_some, ii_lit, ll_lit, ii_neg, ll_neg, ii_add, ii_sub, ii_mul, ll_add, ll_sub, ll_mul, ii_le, ii_lt, ii_eq, ii_t, bi_0, bi_1, rd_z, wr_z, rr_z, rl_z, wl_z, tn_n, st_s, st_j, st_i, st_c, st_2, sl_s, sl_j, sl_i, sl_c, sl_1, Int.natCast_add, Int.cast_ofNat_Int, if_pos, if_neg]
        obtain ⟨s', a1, a2, a3, a4⟩ := ih (k + 1) (stI s 47 0 (8 * d + 8 + k) (τ.1 47 0 (8 * d + k))) (by omega) (fun i hi => by
          by_cases q : i = k
          · subst q
            rw [st_s]
          · rw [st_j _ _ (by omega)]
            exact g1 i (by omega)) (fun j hj => by rw [st_j _ _ (by omega)]; exact g2 j hj) (g3.sI (by decide) (by decide))
        exact ⟨s', fun Z hZ => (lp_go e1).trans (a1 Z hZ), a2, a3, a4⟩
    exact step 8 0 τ (by omega) (fun i hi => by omega) (fun _ _ => rfl) (Fr.rf _ _ _)
  obtain ⟨s, a1, a2, a3, a4⟩ := copy
  have cE : ∀ l, l < 4 → s.1 47 0 (8 * (d + 1) + 2 * l) = ii (c.1 l) ∧ s.1 47 0 (8 * (d + 1) + 2 * l + 1) = ii (c.2 l) := by
    intro l hl
    have q1 := a2 (2 * l) (by omega)
    have q2 := a2 (2 * l + 1) (by omega)
    rw [show 8 * d + 8 + 2 * l = 8 * (d + 1) + 2 * l by omega] at q1
    rw [show 8 * d + 8 + (2 * l + 1) = 8 * (d + 1) + 2 * l + 1 by omega] at q2
    rw [q1, q2]
    exact hE l hl
  have hcase : h = 0 ∨ h = 1 := by omega
  rcases hcase with rfl | rfl
  · refine ⟨stI s 47 0 (8 * (d + 1) + 2 * w + 1) (ii md), ?_, ?_, a4.sI (by decide) (by decide), ?_⟩
    · rw [if_pos rfl]
      intro l hl
      show _ = ii (c.1 l) ∧ _ = ii (up1 c.2 w md l)
      rw [st_j _ _ (by omega)]
      refine ⟨(cE l hl).1, ?_⟩
      by_cases q : l = w
      · subst q
        rw [st_s, up1_same]
      · rw [st_j _ _ (by omega), up1_ne _ _ q]
        exact (cE l hl).2
    · intro j hj
      rw [st_j _ _ (by omega)]
      exact a3 j hj
    · intro τ2 hr
      refine a1 _ ?_
      have t : (8 * (d : Int) + 8 + 2 * (w : Int) + 1 - 0).toNat = 8 * (d + 1) + 2 * w + 1 := by omega
      have hr' : rc (ii ((d : Int) + 1)) (stI s 47 0 (8 * (d + 1) + 2 * w + 1) (ii md)) = some τ2 := hr
      show fX8_parts_148 rc (ii d) (ii w) (ii md) (ii 0) (ii 8) s = _
      unfold fX8_parts_148 fX8_parts_222
      rw [if_pos (by decide), if_pos (by decide)]
      simp (disch := omega) only [t, hr', if_true, if_false, Option.bind_some, Option.map_some, ii_lit, ll_lit, ii_neg, ll_neg, ii_add, ii_sub, ii_mul, ll_add, ll_sub, ll_mul, ii_le, ii_lt, ii_eq, ii_t, bi_0, bi_1, rd_z, wr_z, rr_z, rl_z, wl_z, tn_n, st_s, st_j, st_i, st_c, st_2, sl_s, sl_j, sl_i, sl_c, sl_1, Int.natCast_add, Int.cast_ofNat_Int, if_pos, if_neg]
  · refine ⟨stI s 47 0 (8 * (d + 1) + 2 * w) (ii (md + 1)), ?_, ?_, a4.sI (by decide) (by decide), ?_⟩
    · rw [if_neg (by decide)]
      intro l hl
      show _ = ii (up1 c.1 w (md + 1) l) ∧ _ = ii (c.2 l)
      rw [st_j (j' := 8 * (d + 1) + 2 * l + 1) _ _ (by omega)]
      refine ⟨?_, (cE l hl).2⟩
      by_cases q : l = w
      · subst q
        rw [st_s, up1_same]
      · rw [st_j _ _ (by omega), up1_ne _ _ q]
        exact (cE l hl).1
    · intro j hj
      rw [st_j _ _ (by omega)]
      exact a3 j hj
    · intro τ2 hr
      refine a1 _ ?_
      have t : (8 * (d : Int) + 8 + 2 * (w : Int) + 1 - 1).toNat = 8 * (d + 1) + 2 * w := by omega
      have hr' : rc (ii ((d : Int) + 1)) (stI s 47 0 (8 * (d + 1) + 2 * w) (ii (md + 1))) = some τ2 := hr
      show fX8_parts_148 rc (ii d) (ii w) (ii md) (ii 1) (ii 8) s = _
      unfold fX8_parts_148 fX8_parts_222
      rw [if_pos (by decide), if_neg (by decide)]
      simp (disch := omega) only [t, hr', if_true, if_false, Option.bind_some, Option.map_some, ii_lit, ll_lit, ii_neg, ll_neg, ii_add, ii_sub, ii_mul, ll_add, ll_sub, ll_mul, ii_le, ii_lt, ii_eq, ii_t, bi_0, bi_1, rd_z, wr_z, rr_z, rl_z, wl_z, tn_n, st_s, st_j, st_i, st_c, st_2, sl_s, sl_j, sl_i, sl_c, sl_1, Int.natCast_add, Int.cast_ofNat_Int, if_pos, if_neg]
