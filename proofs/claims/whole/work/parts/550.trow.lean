-- ROWS of the text, by both readers
theorem okr.up {q : Nat → Int} (h : okr q) {w : Nat} {v : Int} (h1 : w = 1 ∧ -999 ≤ v ∧ v ≤ 999 ∨ w = 2 ∧ 1 ≤ v ∧ v ≤ 99 ∨ (3 ≤ w ∧ w < 7) ∧ -9 ≤ v ∧ v ≤ 9) : okr (up1 q w v) := by
  obtain ⟨a1, a2, a3, a4⟩ := h
  refine ⟨?_, ?_, ?_, fun l hl => ?_⟩
  · rw [up1_at, if_neg (by omega)]; exact a1
  · rw [up1_at]
    split
    · omega
    · exact a2
  · rw [up1_at]
    split
    · omega
    · exact a3
  · rw [up1_at]
    split
    · omega
    · exact a4 l hl
theorem PQ.put {len : Nat} {y : Nat → Int} {σ0 τ0 : mm} {A A' : bdy} {σ σ5 τ : mm} {e : Nat} (h : PQ len y σ0 τ0 A e σ τ) (h1 : isC σ5 2 A') (h3 : okb A') (f : Fb 2 σ σ5) (F : mm → Option mm) (hF : ∀ τ', isM τ' A → τ'.1 32 0 33 = τ.1 32 0 33 → ∃ τ'', F τ' = some τ'' ∧ isM τ'' A' ∧ Fr [45] [4] τ' τ'') : ∃ σ' τ' τ'', fX3_nextToken σ5 = some σ' ∧ fX8_next τ = some τ' ∧ F τ' = some τ'' ∧ τ'.1 32 0 33 = τ.1 32 0 33 ∧ PQ len y σ0 τ0 A' (te len y e) σ' τ'' ∧ PV len y (te len y e) σ' τ'' := by
  obtain ⟨c1, c2, c3, c4, c5, c6⟩ := h
  have el := (te_r (y := y) c2.2.2.2).2
  have f3 := f.1 3 (by decide)
  have f21 := f.1 21 (by decide)
  have tC : tapeC σ5 len y := c2.1.fr (by rw [f3]) f21
  obtain ⟨σ', a1, a2, a3, a4, a5, a6, a7⟩ := C_next tC el (by rw [f3]; exact c3.2.2)
  obtain ⟨τ', b1, b2, b3, b4, b5, b6⟩ := M_next c2.2.1 c2.2.2.1 el c4.2.2
  have e33 := b6.2.2 33 (by decide)
  obtain ⟨τ'', d1, d2, d3⟩ := hF τ' (c1.2.1.fr b6 (by decide) (by decide)) e33
  have tM : tapeM τ'' len y := by
    have := c2.2.1.fr b6 (by decide)
    unfold tapeM at this ⊢
    rw [d3.1 67 (by decide) (by decide), d3.2.2 28 (by decide)]
    exact this
  exact ⟨σ', τ', τ'', a1, b1, d1, e33, ⟨⟨h1.k3 a7, d2, h3⟩, ⟨a2, tM, (c2.2.2.1.fr b6 (by decide)).fr d3 (by decide), el⟩, ⟨a3, a4, a5⟩, by rw [d3.2.2 30 (by decide), d3.2.2 31 (by decide), d3.2.2 29 (by decide)]; exact ⟨b2, b3, b4⟩, (c5.b f).k3 a7, (c6.tr (b6.mono (by decide) (by decide))).tr (d3.mono (by decide) (by decide))⟩, fun h => ⟨a6 h, by rw [d3.2.2 32 (by decide)]; exact b5 h⟩⟩
theorem PQ.mword {len : Nat} {y : Nat → Int} {σ0 τ0 : mm} {A : bdy} {σ τ : mm} {e : Nat} (h : PQ len y σ0 τ0 A e σ τ) {w : Nat} (hw : w < 10) : fX8_isWord (ii w) τ = decide (tok len y e = 10 + (w : Int)) := by
  have tr := tok_r (len := len) (y := y) (e := e)
  unfold fX8_isWord fX8_isWord_0
  rw [h.2.2.2.1.2.1, ii_lit 10, ii_add]
  by_cases q : tok len y e = 10 + (w : Int)
  · rw [decide_eq_true q, q, if_pos rfl]
  · rw [decide_eq_false q, if_neg (by show ¬ ii (tok len y e) = ii (10 + (w : Int)); rw [ii_eq (by omega) (by omega) (by omega) (by omega)]; exact q)]
/-- the part w of row r is v now -/
theorem PQ.part {len : Nat} {y : Nat → Int} {σ0 τ0 : mm} {A : bdy} {σ τ : mm} {e r w : Nat} {v : Int} (h : PQ len y σ0 τ0 A e σ τ) (hr : r < A.R) (hw : w = 1 ∧ -999 ≤ v ∧ v ≤ 999 ∨ w = 2 ∧ 1 ≤ v ∧ v ≤ 99 ∨ (3 ≤ w ∧ w < 7) ∧ -9 ≤ v ∧ v ≤ 9) (h33 : τ.1 32 0 33 = ii v) {σ5 : mm} (hs : w < 3 ∧ σ5 = stI σ 4 (8 * 2 + r) w (ii v) ∨ 3 ≤ w ∧ σ5 = stI σ 10 (8 * 2 + r) (w - 3) (ii v)) : ∃ σ' τ' τ'', fX3_nextToken σ5 = some σ' ∧ fX8_next τ = some τ' ∧ wrI τ' 45 0 56 (ii ((7 * r + w : Nat) : Int)) (τ'.1 32 0 33) = some τ'' ∧ PQ len y σ0 τ0 (A.setR A.R r (up1 (A.rw r) w v)) (te len y e) σ' τ'' ∧ PV len y (te len y e) σ' τ'' := by
  have hR := h.1.1.1.2
  have hC : isC σ5 2 (A.setR A.R r (up1 (A.rw r) w v)) ∧ Fb 2 σ σ5 := by
    rcases hs with ⟨a, b⟩ | ⟨a, b⟩
    · rw [b]
      exact ⟨h.1.1.part hr a v, (Fb.rf _ _).sI (Or.inr (Or.inl ⟨Or.inl rfl, r, by omega, rfl⟩))⟩
    · rw [b]
      have := h.1.1.num hr (w := w - 3) (by omega) v
      rw [show 3 + (w - 3) = w by omega] at this
      exact ⟨this, (Fb.rf _ _).sI (Or.inr (Or.inl ⟨Or.inr rfl, r, by omega, rfl⟩))⟩
  obtain ⟨σ', τ', τ'', a1, a2, a3, a4, a5, a6⟩ := h.put hC.1 (h.1.2.2.part _ ((h.1.2.2.2.2.2.1 r hr).up hw)) hC.2 (fun s => some (stI s 45 0 (7 * r + w) (ii v))) (fun s hs _ => ⟨_, rfl, hs.part hr (by omega) v, (Fr.rf _ _ _).sI (by decide) (by decide)⟩)
  refine ⟨σ', τ', τ'', a1, a2, ?_, a5, a6⟩
  rw [a4, h33, wr_n (by omega) (by decide)]
  exact a3
theorem P_within {len : Nat} {y : Nat → Int} {σ0 τ0 : mm} {A : bdy} {σ τ : mm} {e r : Nat} (h : PQ len y σ0 τ0 A e σ τ) (hr : r < A.R) : ∃ (b : Bool) (σ' τ' : mm) (A' : bdy) (e' : Nat), fX3_readRow_109 (8 * 2 + r) σ = some (b, σ') ∧ fX8_readsRow_115 (ii (7 * (r : Int))) τ = some (b, τ') ∧ PQ len y σ0 τ0 A' e' σ' τ' ∧ e ≤ e' := by
  have w1 := h.word (w := 3) (by decide)
  have w2 := h.mword (w := 9) (by decide)
  have w1' : fX3_isWord 3 σ = some (decide (tok len y e = 10 + ((9 : Nat) : Int))) := w1
  have w2' : fX8_isWord 9 τ = decide (tok len y e = 10 + ((9 : Nat) : Int)) := w2
  unfold fX3_readRow_109 fX8_readsRow_115
  rw [w1', w2', Option.bind_some]
  cases decide (tok len y e = 10 + ((9 : Nat) : Int)) with
  | false =>
    rw [if_pos bi_f, if_pos bi_f]
    exact ⟨true, σ, τ, A, e, rfl, rfl, h, Nat.le_refl _⟩
  | true =>
    obtain ⟨σ1, τ1, a1, a2, a3, a4, -⟩ := h.next
    have l1 := h.le
    obtain ⟨b, τ2, b1, b2, b3, b4⟩ := a3.num a4 (lo := 1) (hi := 99) (by omega) (by omega) (by omega) (by omega)
    have b1' : fX3_seesNumber 1 99 σ1 = b := b1
    have b2' : fX8_seesNumber 1 1 99 τ1 = (b, τ2) := b2
    unfold fX8_takesNumber fX8_takesNumber_0
    rw [if_neg bi_t, if_neg bi_t, a1, a2]
    simp only [Option.bind_some]
    rw [b1', b2']
    cases b with
    | false =>
      refine ⟨false, σ1, τ2, A, te len y e, ?_, ?_, b3, l1⟩
      · rw [if_pos bi_f]
      · rw [if_pos bi_f, Option.bind_some, if_pos bi_f]
    | true =>
      obtain ⟨v, c1, c2, c3, c4⟩ := b4 rfl
      obtain ⟨σ3, τ3, τ4, d1, d2, d3, d4, -⟩ := b3.part hr (w := 2) (v := v) (Or.inr (Or.inl ⟨rfl, c3, c4⟩)) c2 (Or.inl ⟨by decide, rfl⟩)
      have l2 := b3.le
      have ea : (ii (7 * (r : Int))) + 2 = ii ((7 * r + 2 : Nat) : Int) := by
        rw [ii_lit 2, ii_add]
        exact congrArg ii (by show 7 * (r : Int) + 2 = _; omega)
      refine ⟨true, σ3, τ4, _, _, ?_, ?_, d4, by omega⟩
      · rw [if_neg bi_t, c1, d1]
        rfl
      · rw [if_neg bi_t]
        simp only []
        rw [d2, Option.bind_some, Option.bind_some, if_neg bi_t, ea, d3]
        rfl
theorem P_rowloop {len : Nat} {y : Nat → Int} {σ0 τ0 : mm} {r : Nat} (d : Nat) : ∀ (l : Nat) (A : bdy) (e : Nat) (σ τ : mm), PQ len y σ0 τ0 A e σ τ → PV len y e σ τ → r < A.R → A.n = l + d → ∃ (b : Bool) (σ' τ' : mm) (A' : bdy) (e' : Nat), lp (fX3_readRow_26_L 2 (8 * 2 + r)) (ii l, σ) = some (b, σ') ∧ lp (fX8_readsRow_34_L (ii (7 * (r : Int)))) (ii l, τ) = some (b, τ') ∧ PQ len y σ0 τ0 A' e' σ' τ' ∧ e ≤ e' := by
  induction d with
  | zero =>
    intro l A e σ τ h hv hr hl
    have n4 := h.1.1.1.1
    have w1 := h.word (w := 2) (by decide)
    have w2 := h.mword (w := 8) (by decide)
    have w1' : fX3_isWord 2 σ = some (decide (tok len y e = 10 + ((8 : Nat) : Int))) := w1
    have w2' : fX8_isWord 8 τ = decide (tok len y e = 10 + ((8 : Nat) : Int)) := w2
    have s1 : σ.1 0 2 0 ≤ ii l := by rw [h.1.1.2.1, hl]; exact Int32.le_refl _
    have s2 : τ.1 32 0 1 ≤ ii l := by rw [h.1.2.1.2.1, hl]; exact Int32.le_refl _
    have key : ∃ (b : Bool) (σ' τ' : mm) (A' : bdy) (e' : Nat), fX3_readRow_26 2 (8 * 2 + r) (ii l) σ = some (.inr (b, σ')) ∧ fX8_readsRow_34 (ii (7 * (r : Int))) (ii l) τ = some (.inr (b, τ')) ∧ PQ len y σ0 τ0 A' e' σ' τ' ∧ e ≤ e' := by
      unfold fX3_readRow_26 fX8_readsRow_34
      rw [if_pos s1, if_pos s2, w1', w2', Option.bind_some]
      cases decide (tok len y e = 10 + ((8 : Nat) : Int)) with
      | false =>
        rw [if_pos bi_f, if_pos bi_f]
        obtain ⟨b, σ', τ', A', e', a1, a2, a3, a4⟩ := P_within h hr
        refine ⟨b, σ', τ', A', e', ?_, ?_, a3, a4⟩
        · rw [a1]; rfl
        · rw [a2]; rfl
      | true =>
        obtain ⟨σ1, τ1, a1, a2, a3, a4, -⟩ := h.next
        have l1 := h.le
        obtain ⟨b, σ4, τ4, e4, f1, f2, f3, f4, f5⟩ := a3.sgn a4 (lo := -999) (hi := 999) (by omega) (by omega) (by omega) (by omega)
        have f1' : fX3_seesSigned (-999) 999 σ1 = some (b, σ4) := f1
        have f2' : fX8_seesSigned (-999) 999 τ1 = some (b, τ4) := f2
        unfold fX8_takesSigned fX8_takesSigned_0
        rw [if_neg bi_t, if_neg bi_t, a1, a2]
        simp only [Option.bind_some]
        rw [f1', f2']
        simp only [Option.bind_some]
        cases b with
        | false =>
          refine ⟨false, σ4, τ4, A, e4, ?_, ?_, f3, by omega⟩
          · rw [if_pos bi_f]
          · rw [if_pos bi_f, Option.bind_some, if_pos bi_f]
        | true =>
          obtain ⟨v, c1, c2, c3, c4⟩ := f5 rfl
          obtain ⟨σ5, τ5, τ6, d1, d2, d3, d4, -⟩ := f3.part hr (w := 1) (v := v) (Or.inl ⟨rfl, c3, c4⟩) c2 (Or.inl ⟨by decide, rfl⟩)
          have l2 := f3.le
          have ea : (ii (7 * (r : Int))) + 1 = ii ((7 * r + 1 : Nat) : Int) := by
            rw [ii_lit 1, ii_add]
            exact congrArg ii (by show 7 * (r : Int) + 1 = _; omega)
          obtain ⟨b, σ', τ', A', e', g1, g2, g3, g4⟩ := P_within d4 (r := r) hr
          refine ⟨b, σ', τ', A', e', ?_, ?_, g3, by omega⟩
          · rw [if_neg bi_t, c1, d1, Option.bind_some, g1]
            rfl
          · rw [if_neg bi_t, d2, Option.bind_some, Option.bind_some, if_neg bi_t, ea, d3, Option.bind_some, g2]
            rfl
    obtain ⟨b, σ', τ', A', e', k1, k2, k3, k4⟩ := key
    exact ⟨b, σ', τ', A', e', lp_end k1, lp_end k2, k3, k4⟩
  | succ d ih =>
    intro l A e σ τ h hv hr hl
    have n4 := h.1.1.1.1
    have s1 : ¬ σ.1 0 2 0 ≤ ii l := by rw [h.1.1.2.1, ii_le (by omega) (by omega) (by omega) (by omega)]; omega
    have s2 : ¬ τ.1 32 0 1 ≤ ii l := by rw [h.1.2.1.2.1, ii_le (by omega) (by omega) (by omega) (by omega)]; omega
    obtain ⟨b, σ4, τ4, e4, f1, f2, f3, f4, f5⟩ := h.sgn hv (lo := -9) (hi := 9) (by omega) (by omega) (by omega) (by omega)
    have f1' : fX3_seesSigned (-9) 9 σ = some (b, σ4) := f1
    have f2' : fX8_seesSigned (-9) 9 τ = some (b, τ4) := f2
    cases b with
    | false =>
      refine ⟨false, σ4, τ4, A, e4, lp_end ?_, lp_end ?_, f3, f4⟩
      · show fX3_readRow_26 2 (8 * 2 + r) (ii l) σ = _
        unfold fX3_readRow_26
        rw [if_neg s1, f1', Option.bind_some, if_pos bi_f]
      · show fX8_readsRow_34 (ii (7 * (r : Int))) (ii l) τ = _
        unfold fX8_readsRow_34 fX8_takesSigned fX8_takesSigned_0
        rw [if_neg s2, f2', Option.bind_some, if_pos bi_f, Option.bind_some, if_pos bi_f]
    | true =>
      obtain ⟨v, c1, c2, c3, c4⟩ := f5 rfl
      obtain ⟨σ5, τ5, τ6, d1, d2, d3, d4, d5⟩ := f3.part hr (w := 3 + l) (v := v) (Or.inr (Or.inr ⟨by omega, c3, c4⟩)) c2 (Or.inr ⟨by omega, rfl⟩)
      rw [show 3 + l - 3 = l by omega] at d1
      have l2 := f3.le
      have ea : (ii (7 * (r : Int))) + 3 + ii l = ii ((7 * r + (3 + l) : Nat) : Int) := by
        rw [ii_lit 3, ii_add, ii_add]
        exact congrArg ii (by show 7 * (r : Int) + 3 + (l : Int) = _; omega)
      obtain ⟨b, σ', τ', A', e', g1, g2, g3, g4⟩ := ih (l + 1) _ _ σ5 τ6 d4 d5 hr (by show A.n = _; omega)
      refine ⟨b, σ', τ', A', e', ?_, ?_, g3, by omega⟩
      · rw [← g1]
        refine lp_go ?_
        show fX3_readRow_26 2 (8 * 2 + r) (ii l) σ = _
        unfold fX3_readRow_26
        rw [if_neg s1, f1', Option.bind_some, if_neg bi_t]
        simp only []
        rw [c1, wr_n (by omega) (by decide), Option.bind_some, d1, Option.bind_some, ii_lit 1, ii_add]
        rfl
      · rw [← g2]
        refine lp_go ?_
        show fX8_readsRow_34 (ii (7 * (r : Int))) (ii l) τ = _
        unfold fX8_readsRow_34 fX8_takesSigned fX8_takesSigned_0
        rw [if_neg s2, f2', Option.bind_some, if_neg bi_t]
        simp only []
        rw [d2, Option.bind_some, Option.bind_some, if_neg bi_t, ea]
        simp only []
        rw [d3, Option.bind_some, ii_lit 1, ii_add]
        rfl
theorem P_row {len : Nat} {y : Nat → Int} {σ0 τ0 : mm} {A : bdy} {σ τ : mm} {e : Nat} (h : PQ len y σ0 τ0 A e σ τ) {k : Int} (hk : 0 ≤ k ∧ k ≤ 5) : ∃ (b : Bool) (σ' τ' : mm) (A' : bdy) (e' : Nat), fX3_readRow 2 (ii k) σ = some (b, σ') ∧ fX8_readsRow (ii k) τ = some (b, τ') ∧ PQ len y σ0 τ0 A' e' σ' τ' ∧ (b = true → te len y e ≤ e') := by
  have hR := h.1.1.1.2
  unfold fX3_readRow fX3_readRow_0 fX8_readsRow fX8_readsRow_0
  rw [h.1.1.2.2.1, h.1.2.1.2.2.1]
  by_cases q : A.R < 8
  · rw [if_pos (by show ii _ < ii 8; rw [ii_lt (by omega) (by omega) (by omega) (by omega)]; omega), if_neg (by show ¬ ii _ = ii 8; rw [ii_eq (by omega) (by omega) (by omega) (by omega)]; omega)]
    obtain ⟨σ1, a1, a2, a3⟩ := C_addRow h.1.1 q k 0 1
    obtain ⟨σ2, τ1, τ2, b1, b2, b3, -, b5, b6⟩ := h.put a2 (h.1.2.2.add q _ (okr_0 hk (by omega) (by omega))) a3 (fX8_adds (ii k) (ii 0) (ii 1)) (fun s hs _ => M_adds hs q k 0 1)
    have a1' : fX0_addRow 2 (ii k) 0 1 σ = some (8 * 2 + A.R, σ1) := a1
    have b3' : fX8_adds (ii k) 0 1 τ1 = some τ2 := b3
    obtain ⟨b, σ', τ', A', e', g1, g2, g3, g4⟩ := P_rowloop (r := A.R) A.n 0 _ _ σ2 τ2 b5 b6 (by show A.R < A.R + 1; omega) (by show A.n = _; omega)
    refine ⟨b, σ', τ', A', e', ?_, ?_, g3, fun _ => g4⟩
    · rw [a1', Option.bind_some]
      simp only []
      rw [b1, Option.bind_some]
      exact g1
    · have ea : (7 : Int32) * (τ2.1 32 0 4 - 1) = ii (7 * (A.R : Int)) := by
        rw [b5.1.2.1.2.2.1, ii_lit 1, ii_sub, ii_lit 7, ii_mul]
        exact congrArg ii (by show 7 * (((A.R + 1 : Nat) : Int) - 1) = _; omega)
      rw [b2, Option.bind_some, b3', Option.bind_some, Option.bind_some, ea]
      exact g2
  · refine ⟨false, σ, τ, A, e, ?_, ?_, h, fun hb => by cases hb⟩
    · rw [if_neg (by show ¬ ii _ < ii 8; rw [ii_lt (by omega) (by omega) (by omega) (by omega)]; omega)]
    · rw [if_pos (by show ii _ = ii 8; rw [ii_eq (by omega) (by omega) (by omega) (by omega)]; omega)]
