-- WORDS
theorem wmf_iff {c : Nat → Int} {w : Nat} (d k : Nat) : wmf c w d k = true ↔ ∀ j, k ≤ j → j < k + d → wrd.getD (8 * w + j) 0 = c j := by
  induction d generalizing k with
  | zero => exact ⟨fun _ j h1 h2 => by omega, fun _ => rfl⟩
  | succ d ih =>
    rw [wmf]
    by_cases q : wrd.getD (8 * w + k) 0 = c k
    · rw [if_pos q, ih]
      constructor
      · intro h j h1 h2
        by_cases e : j = k
        · rw [e]; exact q
        · exact h j (by omega) (by omega)
      · intro h j h1 h2
        exact h j (by omega) (by omega)
    · rw [if_neg q]
      constructor
      · intro h; cases h
      · intro h
        exact absurd (h k (Nat.le_refl _) (by omega)) q
theorem wrd_dif : ∀ w, w < 10 → ∀ w', w' < 10 → (∀ j, j < 8 → wrd.getD (8 * w + j) 0 = wrd.getD (8 * w' + j) 0) → w = w' := by decide +kernel
theorem wm_one {len : Nat} {y : Nat → Int} {b e w w' : Nat} (hw : w < 10) (hw' : w' < 10) (h : wm len y b e w = true) (h' : wm len y b e w' = true) : w' = w := by
  unfold wm at h h'
  by_cases q : 8 < e - b
  · rw [if_pos q] at h
    cases h
  · rw [if_neg q] at h h'
    rw [wmf_iff] at h h'
    exact (wrd_dif w hw w' hw' (fun j hj => (h j (by omega) (by omega)).trans (h' j (by omega) (by omega)).symm)).symm
theorem wtk_inv {len : Nat} {y : Nat → Int} {b e w : Nat} (n : Nat) (h : wtk len y b e n = 10 + (w : Int)) : wm len y b e w = true := by
  induction n with
  | zero => rw [wtk] at h; omega
  | succ n ih =>
    rw [wtk] at h
    split at h
    · rename_i q
      have : n = w := by omega
      rw [← this]; exact q
    · exact ih h
theorem wtk_hit {len : Nat} {y : Nat → Int} {b e w : Nat} (n : Nat) (hn : n ≤ 10) (hw : w < n) (h : wm len y b e w = true) : wtk len y b e n = 10 + (w : Int) := by
  induction n with
  | zero => omega
  | succ n ih =>
    rw [wtk]
    by_cases q : wm len y b e n = true
    · rw [if_pos q, wm_one (by omega) (by omega) h q]
    · rw [if_neg q]
      have : w ≠ n := fun e => q (e ▸ h)
      exact ih (by omega) (by omega)
theorem tok_word {len : Nat} {y : Nat → Int} {e w : Nat} (hw : w < 10) : tok len y e = 10 + (w : Int) ↔ ts len y e = 1 ∧ wm len y (tb len y e) (te len y e) w = true := by
  have sv : ts len y e = 0 ∨ ts len y e = 1 ∨ ts len y e = 2 ∨ ts len y e = 3 ∨ ts len y e = 4 ∨ ts len y e = 5 := so_v _
  by_cases z1 : ts len y e = 1
  · have : tok len y e = wtk len y (tb len y e) (te len y e) 10 := by unfold tok; rw [z1]; rfl
    rw [this]
    exact ⟨fun h => ⟨z1, wtk_inv 10 h⟩, fun h => wtk_hit 10 (by omega) hw h.2⟩
  · constructor
    · intro h
      exfalso
      unfold tok at h
      by_cases v : vmr y (tb len y e) (te len y e - tb len y e) ≤ 999
      · rw [if_pos v] at h
        repeat' split at h
        all_goals omega
      · rw [if_neg v] at h
        repeat' split at h
        all_goals omega
    · intro h
      exact absurd h.1 z1
theorem xln_i : ∀ w, w < 10 → xln w = ii (xlen.getD w 0) ∧ xlen.getD w 0 < 8 ∧ 1 ≤ xlen.getD w 0 := by decide +kernel
theorem xby_i : ∀ w, w < 10 → ∀ k, k < xlen.getD w 0 → (xby.getD w []).getD k 0 = ii (wrd.getD (8 * ((w + 6) % 10) + k) 0) ∧ 97 ≤ wrd.getD (8 * ((w + 6) % 10) + k) 0 := by decide +kernel
theorem wrd_pad : ∀ w, w < 10 → ∀ k, k < 8 → xlen.getD w 0 ≤ k → wrd.getD (8 * ((w + 6) % 10) + k) 0 = 32 := by decide +kernel
theorem xch_i {w k : Nat} (hw : w < 10) (hk : k < xlen.getD w 0) : xch w (ii k) = some (ii (wrd.getD (8 * ((w + 6) % 10) + k) 0)) := by
  have x8 := (xln_i w hw).2.1
  have t : (ii (k : Int)).toInt = k := ii_t (by omega) (by omega)
  unfold xch
  rw [t, if_pos (by omega), (xby_i w hw k hk).1.symm]
  rfl
/-- the letters of a word token -/
theorem wm_class {len : Nat} {y : Nat → Int} {b e w : Nat} (hw : w < 10) (hb : b ≤ e) (he : e ≤ len) (hl : ∀ k, b ≤ k → k < e → 97 ≤ y k ∧ y k ≤ 122) : wm len y b e ((w + 6) % 10) = true ↔ e - b = xlen.getD w 0 ∧ ∀ k, k < xlen.getD w 0 → y (b + k) = wrd.getD (8 * ((w + 6) % 10) + k) 0 := by
  obtain ⟨-, x8, x1⟩ := xln_i w hw
  have ch : ∀ k, b + k < e → chr len y b e k = y (b + k) := fun k h => by
    unfold chr bk
    rw [if_pos h, if_pos (by omega)]
  have ch2 : ∀ k, ¬ b + k < e → chr len y b e k = 32 := fun k h => if_neg h
  unfold wm
  by_cases q : 8 < e - b
  · rw [if_pos q]
    constructor
    · intro h; cases h
    · intro h; omega
  · rw [if_neg q, wmf_iff]
    constructor
    · intro h
      have eq : e - b = xlen.getD w 0 := by
        by_cases l1 : e - b < xlen.getD w 0
        · have a := h (e - b) (by omega) (by omega)
          rw [ch2 _ (by omega)] at a
          have := (xby_i w hw (e - b) l1).2
          omega
        · by_cases l2 : xlen.getD w 0 < e - b
          · have a := h (xlen.getD w 0) (by omega) (by omega)
            rw [ch _ (by omega), wrd_pad w hw _ (by omega) (Nat.le_refl _)] at a
            have := hl (b + xlen.getD w 0) (by omega) (by omega)
            omega
          · omega
      refine ⟨eq, fun k hk => ?_⟩
      have a := h k (by omega) (by omega)
      rw [ch _ (by omega)] at a
      exact a.symm
    · intro ⟨h1, h2⟩ j _ hj
      by_cases l : j < xlen.getD w 0
      · rw [ch _ (by omega), h2 j l]
      · rw [ch2 _ (by omega), wrd_pad w hw _ (by omega) (by omega)]
theorem C_isWord {σ : mm} {len : Nat} {y : Nat → Int} (hT : tapeC σ len y) {e w : Nat} (he : e ≤ len) (hw : w < 10) (h3 : σ.1 3 0 3 = ii (tb len y e)) (h2 : σ.1 3 0 2 = ii (ts len y e)) (h4 : σ.1 3 0 4 = ii (te len y e)) : fX3_isWord w σ = some (decide (tok len y e = 10 + (((w + 6) % 10 : Nat) : Int))) := by
  have t1 := hT.1
  have hy : ∀ k, k < len → 0 ≤ y k ∧ y k < 256 := fun k hk => (hT.2.2 k hk).1
  have tbr := tb_r (y := y) he
  have ter := te_r (y := y) he
  have sv : ts len y e = 0 ∨ ts len y e = 1 ∨ ts len y e = 2 ∨ ts len y e = 3 ∨ ts len y e = 4 ∨ ts len y e = 5 := so_v _
  obtain ⟨xl, x8, x1⟩ := xln_i w hw
  have tw := tok_word (len := len) (y := y) (e := e) (w := (w + 6) % 10) (by omega)
  unfold fX3_isWord fX3_isWord_0
  rw [h2, h3, h4, xl, ii_sub]
  by_cases z1 : ts len y e = 1
  · have hl : ∀ k, tb len y e ≤ k → k < te len y e → 97 ≤ y k ∧ y k ≤ 122 := by
      intro k k1 k2
      have et : te len y e = rnn len y 1 (len - tb len y e) (tb len y e) := by
        unfold te
        rw [z1, if_pos (Or.inl rfl)]
      rw [et] at k2
      have a := so_letter (rnn_in (len - tb len y e) (tb len y e) k k1 k2)
      rw [← et] at k2
      have : bk len y k = y k := if_pos (by omega)
      rw [this] at a
      exact a
    have wc := wm_class hw ter.1 ter.2 hl
    rw [z1, if_pos (by decide)]
    by_cases q : te len y e - tb len y e = xlen.getD w 0
    · rw [if_pos (by rw [ii_eq (by omega) (by omega) (by omega) (by omega)]; omega)]
      have key : ∀ d k : Nat, k + d = xlen.getD w 0 → (∀ j, j < k → y (tb len y e + j) = wrd.getD (8 * ((w + 6) % 10) + j) 0) → lp (fX3_isWord_28_L w σ) (ii k) = some (decide (tok len y e = 10 + (((w + 6) % 10 : Nat) : Int))) := by
        intro d
        induction d with
        | zero =>
          intro k hk hj
          refine lp_end ?_
          show fX3_isWord_28 w (ii k) σ = _
          unfold fX3_isWord_28
          rw [xl, show k = xlen.getD w 0 by omega, if_pos (Int32.le_refl _)]
          have : tok len y e = 10 + (((w + 6) % 10 : Nat) : Int) := tw.mpr ⟨z1, wc.mpr ⟨q, fun j hj' => hj j (by omega)⟩⟩
          rw [decide_eq_true this]
        | succ d ih =>
          intro k hk hj
          have wr := wrd_r (8 * ((w + 6) % 10) + k) (by omega)
          obtain ⟨y1, y2⟩ := hT.2.2 (tb len y e + k) (by omega)
          have yl := hl (tb len y e + k) (by omega) (by omega)
          rw [if_pos (by omega)] at y2
          have xc := xch_i hw (k := k) (by omega)
          have step : ∀ Z, (if ii (y (tb len y e + k)) = ii (wrd.getD (8 * ((w + 6) % 10) + k) 0) then some (Sum.inl (ii ((k + 1 : Nat))) : Int32 ⊕ Bool) else some (.inr false)) = Z → fX3_isWord_28 w (ii k) σ = Z := by
            intro Z hZ
            rw [← hZ]
            unfold fX3_isWord_28
            rw [xl, if_neg (by rw [ii_le (by omega) (by omega) (by omega) (by omega)]; omega), h3, ii_add, show ((tb len y e : Int) + (k : Int)) = ((tb len y e + k : Nat) : Int) by omega, rd_n (by omega) (by decide), Option.bind_some, y2, xc, Option.bind_some, ii_lit 1, ii_add]
            rfl
          by_cases m : y (tb len y e + k) = wrd.getD (8 * ((w + 6) % 10) + k) 0
          · rw [← ih (k + 1) (by omega) (fun j hj' => by
              by_cases e5 : j = k
              · rw [e5]; exact m
              · exact hj j (by omega))]
            refine lp_go ?_
            refine step _ ?_
            rw [if_pos (by rw [m])]
          · refine lp_end ?_
            refine step _ ?_
            rw [if_neg (by rw [ii_eq (by omega) (by omega) (by omega) (by omega)]; exact m)]
            have : ¬ tok len y e = 10 + (((w + 6) % 10 : Nat) : Int) := by
              rw [tw, wc]
              intro h
              exact m (h.2.2 k (by omega))
            rw [decide_eq_false this]
      exact key (xlen.getD w 0) 0 (by omega) (fun j hj => by omega)
    · rw [if_neg (by rw [ii_eq (by omega) (by omega) (by omega) (by omega)]; omega)]
      have : ¬ tok len y e = 10 + (((w + 6) % 10 : Nat) : Int) := by
        rw [tw, wc]
        intro h
        exact q h.2.1
      rw [decide_eq_false this]
  · have : ¬ tok len y e = 10 + (((w + 6) % 10 : Nat) : Int) := by
      rw [tw]
      intro h
      exact z1 h.1
    rw [if_neg (by show ¬ ii _ = ii 1; rw [ii_eq (by omega) (by omega) (by omega) (by omega)]; exact z1), decide_eq_false this]
