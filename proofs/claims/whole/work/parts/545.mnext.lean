-- THE REFERENCE'S next token
def chr (len : Nat) (y : Nat → Int) (b e k : Nat) : Int := if b + k < e then bk len y (b + k) else 32
def wmf (c : Nat → Int) (w : Nat) : Nat → Nat → Bool
  | 0, _ => true
  | d + 1, k => if wrd.getD (8 * w + k) 0 = c k then wmf c w d (k + 1) else false
def wm (len : Nat) (y : Nat → Int) (b e w : Nat) : Bool := if 8 < e - b then false else wmf (chr len y b e) w 8 0
def wtk (len : Nat) (y : Nat → Int) (b e : Nat) : Nat → Int
  | 0 => -2
  | n + 1 => if wm len y b e n = true then 10 + (n : Int) else wtk len y b e n
def tok (len : Nat) (y : Nat → Int) (e : Nat) : Int := if ts len y e = 0 then -1 else if ts len y e = 1 then wtk len y (tb len y e) (te len y e) 10 else if ts len y e = 2 then (if vmr y (tb len y e) (te len y e - tb len y e) ≤ 999 then 1 else -2) else if ts len y e = 3 then 0 else if ts len y e = 4 then 2 else -2
theorem tapeM.fr {fs : List Nat} {τ τ' : mm} {len : Nat} {y : Nat → Int} (h : tapeM τ len y) (g : Fr [] fs τ τ') (hf : 28 ∉ fs) : tapeM τ' len y := by
  unfold tapeM at h ⊢
  rw [g.1 67 (by decide) (by decide), g.2.2 28 hf]
  exact h
theorem M_byteAt {τ : mm} {len : Nat} {y : Nat → Int} (hT : tapeM τ len y) {p : Nat} (hp : p ≤ len) : fX8_byteAt (ii p) τ = some (ii (bk len y p)) := by
  obtain ⟨t1, t2, t3⟩ := hT
  unfold fX8_byteAt fX8_byteAt_0 bk
  by_cases q : p < len
  · obtain ⟨y1, y2⟩ := t3 p q
    simp (disch := omega) only [t2, y2, if_true, if_false, Option.bind_some, Option.map_some, ii_lit, ll_lit, ii_neg, ll_neg, ii_add, ii_sub, ii_mul, ll_add, ll_sub, ll_mul, ii_le, ii_lt, ii_eq, ii_t, bi_0, bi_1, rd_z, wr_z, rr_z, rl_z, wl_z, tn_n, st_s, st_j, st_i, st_c, st_2, sl_s, sl_j, sl_i, sl_c, sl_1, Int.natCast_add, Int.cast_ofNat_Int, if_pos, if_neg, decide_eq_false_iff_not, decide_eq_true_eq, in_ll, ii_long, Nat.zero_add, Nat.mul_zero, reduceCtorEq]
  · simp (disch := omega) only [t2, if_true, if_false, Option.bind_some, Option.map_some, ii_lit, ll_lit, ii_neg, ll_neg, ii_add, ii_sub, ii_mul, ll_add, ll_sub, ll_mul, ii_le, ii_lt, ii_eq, ii_t, bi_0, bi_1, rd_z, wr_z, rr_z, rl_z, wl_z, tn_n, st_s, st_j, st_i, st_c, st_2, sl_s, sl_j, sl_i, sl_c, sl_1, Int.natCast_add, Int.cast_ofNat_Int, if_pos, if_neg, decide_eq_false_iff_not, decide_eq_true_eq, in_ll, ii_long, Nat.zero_add, Nat.mul_zero, reduceCtorEq]
theorem wrd_r : ∀ k, k < 80 → 32 ≤ wrd.getD k 0 ∧ wrd.getD k 0 ≤ 122 := by decide
theorem bk_r {len : Nat} {y : Nat → Int} (hy : ∀ k, k < len → 0 ≤ y k ∧ y k < 256) (p : Nat) : -1 ≤ bk len y p ∧ bk len y p < 256 := by
  unfold bk
  split
  · rename_i h
    have := hy p h
    omega
  · omega
theorem M_isWordFrom {τ : mm} {len : Nat} {y : Nat → Int} (hT : tapeM τ len y) (hW : rW τ) {b e w : Nat} (hb : b ≤ e) (he : e ≤ len) (h29 : τ.1 32 0 29 = ii e) (h30 : τ.1 32 0 30 = ii b) (hw : w < 10) : fX8_isWordFrom (ii w) τ = some (wm len y b e w) := by
  have t1 := hT.1
  have hy : ∀ k, k < len → 0 ≤ y k ∧ y k < 256 := fun k hk => (hT.2.2 k hk).1
  have zero : ∀ k : Nat, k ≤ 8 → lp (fX8_isWordFrom_22_L (ii w) τ) (ii 0, ii k) = some false := by
    intro k hk
    refine lp_end ?_
    show fX8_isWordFrom_22 (ii w) (ii 0) (ii k) τ = _
    unfold fX8_isWordFrom_22
    by_cases q : k = 8
    · rw [q, if_pos (by decide)]
      rfl
    · rw [if_neg (by show ¬ ii 8 ≤ ii k; rw [ii_le (by omega) (by omega) (by omega) (by omega)]; omega), if_pos (by decide)]
      rfl
  have key : ∀ d k : Nat, k + d = 8 → lp (fX8_isWordFrom_22_L (ii w) τ) (ii 1, ii k) = some (wmf (chr len y b e) w d k) := by
    intro d
    induction d with
    | zero =>
      intro k hk
      refine lp_end ?_
      show fX8_isWordFrom_22 (ii w) (ii 1) (ii k) τ = _
      unfold fX8_isWordFrom_22
      rw [show k = 8 by omega, if_pos (by decide)]
      rfl
    | succ d ih =>
      intro k hk
      have hc : τ.1 74 0 (8 * w + k) = ii (wrd.getD (8 * w + k) 0) := hW (8 * w + k) (by omega)
      have hc' : τ.1 74 0 (8 * (w : Int) + (k : Int)).toNat = ii (wrd.getD (8 * w + k) 0) := by
        rw [show (8 * (w : Int) + (k : Int)).toNat = 8 * w + k by omega]
        exact hc
      have wr := wrd_r (8 * w + k) (by omega)
      have cr : -1 ≤ chr len y b e k ∧ chr len y b e k < 256 := by
        unfold chr
        split
        · exact bk_r hy _
        · omega
      have step : fX8_isWordFrom_22 (ii w) (ii 1) (ii k) τ = fX8_isWordFrom_71 (ii w) (ii k) (ii (wrd.getD (8 * w + k) 0)) (ii (chr len y b e k)) τ := by
        unfold fX8_isWordFrom_22
        rw [if_neg (by show ¬ ii 8 ≤ ii k; rw [ii_le (by omega) (by omega) (by omega) (by omega)]; omega), if_neg (by decide)]
        by_cases q : b + k < e
        · have hby := M_byteAt hT (p := b + k) (by omega)
          rw [Int.natCast_add] at hby
          unfold chr
          rw [if_pos q]
          simp (disch := omega) only [hc', h29, h30, hby, if_true, if_false, Option.bind_some, Option.map_some, ii_lit, ll_lit, ii_neg, ll_neg, ii_add, ii_sub, ii_mul, ll_add, ll_sub, ll_mul, ii_le, ii_lt, ii_eq, ii_t, bi_0, bi_1, rd_z, wr_z, rr_z, rl_z, wl_z, tn_n, st_s, st_j, st_i, st_c, st_2, sl_s, sl_j, sl_i, sl_c, sl_1, Int.natCast_add, Int.cast_ofNat_Int, if_pos, if_neg, decide_eq_false_iff_not, decide_eq_true_eq, in_ll, ii_long, Nat.zero_add, Nat.mul_zero, reduceCtorEq]
        · unfold chr
          rw [if_neg q]
          simp (disch := omega) only [hc', h29, h30, if_true, if_false, Option.bind_some, Option.map_some, ii_lit, ll_lit, ii_neg, ll_neg, ii_add, ii_sub, ii_mul, ll_add, ll_sub, ll_mul, ii_le, ii_lt, ii_eq, ii_t, bi_0, bi_1, rd_z, wr_z, rr_z, rl_z, wl_z, tn_n, st_s, st_j, st_i, st_c, st_2, sl_s, sl_j, sl_i, sl_c, sl_1, Int.natCast_add, Int.cast_ofNat_Int, if_pos, if_neg, decide_eq_false_iff_not, decide_eq_true_eq, in_ll, ii_long, Nat.zero_add, Nat.mul_zero, reduceCtorEq]
      rw [wmf]
      by_cases q : wrd.getD (8 * w + k) 0 = chr len y b e k
      · rw [if_pos q, ← ih (k + 1) (by omega)]
        refine lp_go ?_
        show fX8_isWordFrom_22 (ii w) (ii 1) (ii k) τ = _
        rw [step]
        unfold fX8_isWordFrom_71 fX8_isWordFrom_79
        rw [q, if_pos rfl, ii_lit 1, ii_add]
        rfl
      · rw [if_neg q, ← zero (k + 1) (by omega)]
        refine lp_go ?_
        show fX8_isWordFrom_22 (ii w) (ii 1) (ii k) τ = _
        rw [step]
        unfold fX8_isWordFrom_71 fX8_isWordFrom_79
        rw [if_neg (by rw [ii_eq (by omega) (by omega) (by omega) (by omega)]; exact q), ii_lit 1, ii_add]
        rfl
  unfold fX8_isWordFrom fX8_isWordFrom_0 fX8_isWordFrom_19 wm
  rw [h29, h30, ii_sub]
  by_cases q : 8 < e - b
  · rw [if_pos q, if_pos (by show ii 8 < ii _; rw [ii_lt (by omega) (by omega) (by omega) (by omega)]; omega)]
    exact zero 0 (by omega)
  · rw [if_neg q, if_neg (by show ¬ ii 8 < ii _; rw [ii_lt (by omega) (by omega) (by omega) (by omega)]; omega)]
    exact key 8 0 (by omega)
theorem skn_n {len : Nat} {y : Nat → Int} (d p : Nat) (h : p + d = len) : bk len y (skn len y d p) ≠ 32 := by
  induction d generalizing p with
  | zero =>
    rw [skn, bk, if_neg (by omega)]
    omega
  | succ d ih =>
    rw [skn]
    split
    · exact ih (p + 1) (by omega)
    · assumption
theorem wtk_r {len : Nat} {y : Nat → Int} {b e : Nat} (n : Nat) : -2 ≤ wtk len y b e n ∧ wtk len y b e n < 10 + n := by
  induction n with
  | zero => rw [wtk]; omega
  | succ n ih =>
    rw [wtk]
    split <;> omega

theorem M_next {τ : mm} {len : Nat} {y : Nat → Int} (hT : tapeM τ len y) (hW : rW τ) {e : Nat} (he : e ≤ len) (e29 : τ.1 32 0 29 = ii e) : ∃ τ', fX8_next τ = some τ' ∧ τ'.1 32 0 30 = ii (tb len y e) ∧ τ'.1 32 0 31 = ii (tok len y e) ∧ τ'.1 32 0 29 = ii (te len y e) ∧ (ts len y e = 2 → τ'.1 32 0 32 = ii (vmr y (tb len y e) (te len y e - tb len y e))) ∧ Fr [] [29, 30, 31, 32] τ τ' := by
  have tbr := tb_r (y := y) he
  have ter := te_r (y := y) he
  have t1 := hT.1
  have hy : ∀ k, k < len → 0 ≤ y k ∧ y k < 256 := fun k hk => (hT.2.2 k hk).1
  have blanks : ∀ d p (s : mm), p + d = len → s.1 32 0 29 = ii (p : Nat) → Fr [] [29, 30, 31, 32] τ s → ∃ s', s'.1 32 0 29 = ii (skn len y d p) ∧ Fr [] [29, 30, 31, 32] τ s' ∧ ∀ Z, fX8_next_0 s' = some (.inr Z) → lp fX8_next_0_L s = some Z := by
    intro d
    induction d with
    | zero =>
      intro p s hp h29 hf
      exact ⟨s, h29, hf, fun Z hZ => lp_end hZ⟩
    | succ d ih =>
      intro p s hp h29 hf
      rw [skn]
      have e1 := M_byteAt (hT.fr hf (by decide)) (p := p) (by omega)
      by_cases q : bk len y p = 32
      · rw [if_pos q]
        obtain ⟨s', a2, a3, a4⟩ := ih (p + 1) (stI s 32 0 29 (ii ((p + 1 : Nat)))) (by omega) (st_s _ _ _ _ _) (hf.sF (by decide))
        refine ⟨s', a2, a3, fun Z hZ => ?_⟩
        rw [← a4 Z hZ]
        refine lp_go ?_
        show fX8_next_0 s = _
        unfold fX8_next_0
        rw [h29, e1, Option.bind_some, q, if_pos (show ii 32 = 32 by decide), ii_lit 1, ii_add]
        rfl
      · rw [if_neg q]
        exact ⟨s, h29, hf, fun Z hZ => lp_end hZ⟩
  have lets : ∀ d p (s : mm), p + d = len → s.1 32 0 29 = ii (p : Nat) → Fr [] [29, 30, 31, 32] τ s → ∃ s', s'.1 32 0 29 = ii (rnn len y 1 d p) ∧ s'.1 32 0 30 = s.1 32 0 30 ∧ s'.1 32 0 31 = s.1 32 0 31 ∧ Fr [] [29, 30, 31, 32] τ s' ∧ ∀ Z, lp (fX8_next_127_L) ((0), s') = some Z → lp fX8_next_91_L s = some Z := by
    intro d
    induction d with
    | zero =>
      intro p s hp h29 hf
      have e1 := M_byteAt (hT.fr hf (by decide)) (p := p) (by omega)
      have hb : bk len y p = -1 := if_neg (by omega)
      refine ⟨s, h29, rfl, rfl, hf, fun Z hZ => lp_end ?_⟩
      show fX8_next_91 s = _
      unfold fX8_next_91
      rw [h29, e1, hb]
      simp (disch := omega) only [if_true, if_false, Option.bind_some, Option.map_some, ii_lit, ll_lit, ii_neg, ll_neg, ii_add, ii_sub, ii_mul, ll_add, ll_sub, ll_mul, ii_le, ii_lt, ii_eq, ii_t, bi_0, bi_1, rd_z, wr_z, rr_z, rl_z, wl_z, tn_n, st_s, st_j, st_i, st_c, st_2, sl_s, sl_j, sl_i, sl_c, sl_1, Int.natCast_add, Int.cast_ofNat_Int, if_pos, if_neg, decide_eq_false_iff_not, decide_eq_true_eq, in_ll, ii_long, Nat.zero_add, Nat.mul_zero, reduceCtorEq]
      rw [← ii_lit 0, hZ]
      rfl
    | succ d ih =>
      intro p s hp h29 hf
      have e1 := M_byteAt (hT.fr hf (by decide)) (p := p) (by omega)
      have br := bk_r hy p
      rw [rnn]
      by_cases q : so (bk len y p) = 1
      · rw [if_pos q]
        have lt := so_letter q
        obtain ⟨s', a1, a2, a3, a4, a5⟩ := ih (p + 1) (stI s 32 0 29 (ii ((p + 1 : Nat)))) (by omega) (st_s _ _ _ _ _) (hf.sF (by decide))
        refine ⟨s', a1, by rw [a2, st_j _ _ (by decide)], by rw [a3, st_j _ _ (by decide)], a4, fun Z hZ => ?_⟩
        rw [← a5 Z hZ]
        refine lp_go ?_
        show fX8_next_91 s = _
        unfold fX8_next_91
        rw [h29, e1]
        simp (disch := omega) only [if_true, if_false, Option.bind_some, Option.map_some, ii_lit, ll_lit, ii_neg, ll_neg, ii_add, ii_sub, ii_mul, ll_add, ll_sub, ll_mul, ii_le, ii_lt, ii_eq, ii_t, bi_0, bi_1, rd_z, wr_z, rr_z, rl_z, wl_z, tn_n, st_s, st_j, st_i, st_c, st_2, sl_s, sl_j, sl_i, sl_c, sl_1, Int.natCast_add, Int.cast_ofNat_Int, if_pos, if_neg, decide_eq_false_iff_not, decide_eq_true_eq, in_ll, ii_long, Nat.zero_add, Nat.mul_zero, reduceCtorEq]
      · rw [if_neg q]
        have nl : ¬ (97 ≤ bk len y p ∧ bk len y p ≤ 122) := by
          intro h
          apply q
          unfold so
          rw [if_neg (by omega), if_pos h]
        refine ⟨s, h29, rfl, rfl, hf, fun Z hZ => lp_end ?_⟩
        show fX8_next_91 s = _
        unfold fX8_next_91
        rw [h29, e1]
        simp (disch := omega) only [if_true, if_false, Option.bind_some, Option.map_some, ii_lit, ll_lit, ii_neg, ll_neg, ii_add, ii_sub, ii_mul, ll_add, ll_sub, ll_mul, ii_le, ii_lt, ii_eq, ii_t, bi_0, bi_1, rd_z, wr_z, rr_z, rl_z, wl_z, tn_n, st_s, st_j, st_i, st_c, st_2, sl_s, sl_j, sl_i, sl_c, sl_1, Int.natCast_add, Int.cast_ofNat_Int, if_pos, if_neg, decide_eq_false_iff_not, decide_eq_true_eq, in_ll, ii_long, Nat.zero_add, Nat.mul_zero, reduceCtorEq]
        rw [← ii_lit 0, hZ]
        rfl
  have digs : ∀ d p (s : mm) (b : Nat), p + d = len → b ≤ p → (∀ j, b + j < p → 48 ≤ y (b + j) ∧ y (b + j) ≤ 57) → s.1 32 0 29 = ii (p : Nat) → s.1 32 0 32 = ii (vmr y b (p - b)) → Fr [] [29, 30, 31, 32] τ s → ∃ s', lp fX8_next_184_L s = some s' ∧ s'.1 32 0 29 = ii (rnn len y 2 d p) ∧ s'.1 32 0 30 = s.1 32 0 30 ∧ s'.1 32 0 31 = ii (if vmr y b (rnn len y 2 d p - b) ≤ 999 then 1 else -2) ∧ s'.1 32 0 32 = ii (vmr y b (rnn len y 2 d p - b)) ∧ Fr [] [29, 30, 31, 32] τ s' := by
    have fin : ∀ p (s : mm) (b : Nat), p ≤ len → b ≤ p → (∀ j, b + j < p → 48 ≤ y (b + j) ∧ y (b + j) ≤ 57) → s.1 32 0 29 = ii (p : Nat) → s.1 32 0 32 = ii (vmr y b (p - b)) → Fr [] [29, 30, 31, 32] τ s → ¬ (48 ≤ bk len y p ∧ bk len y p ≤ 57) → ∃ s', lp fX8_next_184_L s = some s' ∧ s'.1 32 0 29 = ii (p : Nat) ∧ s'.1 32 0 30 = s.1 32 0 30 ∧ s'.1 32 0 31 = ii (if vmr y b (p - b) ≤ 999 then 1 else -2) ∧ s'.1 32 0 32 = ii (vmr y b (p - b)) ∧ Fr [] [29, 30, 31, 32] τ s' := by
      intro p s b hp hb hdg h29 h32 hf nd
      have e1 := M_byteAt (hT.fr hf (by decide)) (p := p) (by omega)
      have br := bk_r hy p
      have vr := v_rel (y := y) (b := b) (k := p - b) (fun j hj => hdg j (by omega))
      refine ⟨stI s 32 0 31 (ii (if vmr y b (p - b) ≤ 999 then 1 else -2)), lp_end ?_, by rw [st_j _ _ (by decide)]; exact h29, by rw [st_j _ _ (by decide)], st_s _ _ _ _ _, by rw [st_j _ _ (by decide)]; exact h32, hf.sF (by decide)⟩
      show fX8_next_184 s = _
      unfold fX8_next_184 fX8_next_275
      rw [h29, e1, h32]
      by_cases v : vmr y b (p - b) ≤ 999
      · simp (disch := omega) only [if_true, if_false, Option.bind_some, Option.map_some, ii_lit, ll_lit, ii_neg, ll_neg, ii_add, ii_sub, ii_mul, ll_add, ll_sub, ll_mul, ii_le, ii_lt, ii_eq, ii_t, bi_0, bi_1, rd_z, wr_z, rr_z, rl_z, wl_z, tn_n, st_s, st_j, st_i, st_c, st_2, sl_s, sl_j, sl_i, sl_c, sl_1, Int.natCast_add, Int.cast_ofNat_Int, if_pos, if_neg, decide_eq_false_iff_not, decide_eq_true_eq, in_ll, ii_long, Nat.zero_add, Nat.mul_zero, reduceCtorEq]
      · simp (disch := omega) only [if_true, if_false, Option.bind_some, Option.map_some, ii_lit, ll_lit, ii_neg, ll_neg, ii_add, ii_sub, ii_mul, ll_add, ll_sub, ll_mul, ii_le, ii_lt, ii_eq, ii_t, bi_0, bi_1, rd_z, wr_z, rr_z, rl_z, wl_z, tn_n, st_s, st_j, st_i, st_c, st_2, sl_s, sl_j, sl_i, sl_c, sl_1, Int.natCast_add, Int.cast_ofNat_Int, if_pos, if_neg, decide_eq_false_iff_not, decide_eq_true_eq, in_ll, ii_long, Nat.zero_add, Nat.mul_zero, reduceCtorEq]
    intro d
    induction d with
    | zero =>
      intro p s b hp hb hdg h29 h32 hf
      have hbk : bk len y p = -1 := if_neg (by omega)
      exact fin p s b (by omega) hb hdg h29 h32 hf (by omega)
    | succ d ih =>
      intro p s b hp hb hdg h29 h32 hf
      have e1 := M_byteAt (hT.fr hf (by decide)) (p := p) (by omega)
      have br := bk_r hy p
      rw [rnn]
      by_cases q : so (bk len y p) = 2
      · rw [if_pos q]
        have lt := so_digit q
        have hbk : bk len y p = y p := if_pos (by omega)
        have vr := v_rel (y := y) (b := b) (k := p - b) (fun j hj => hdg j (by omega))
        have ev : vmr y b (p + 1 - b) = if 999 < vmr y b (p - b) then vmr y b (p - b) else 10 * vmr y b (p - b) + y p - 48 := by
          rw [show p + 1 - b = (p - b) + 1 by omega, vmr, show b + (p - b) = p by omega]
        obtain ⟨s', a1, a2, a3, a4, a5, a6⟩ := ih (p + 1) (stI (stI s 32 0 32 (ii (vmr y b (p + 1 - b)))) 32 0 29 (ii ((p + 1 : Nat)))) b (by omega) (by omega) (fun j hj => by
          by_cases e5 : b + j = p
          · rw [e5, ← hbk]; exact lt
          · exact hdg j (by omega)) (st_s _ _ _ _ _) (by rw [st_j _ _ (by decide), st_s]) ((hf.sF (by decide)).sF (by decide))
        refine ⟨s', ?_, a2, by rw [a3, st_j _ _ (by decide), st_j _ _ (by decide)], a4, a5, a6⟩
        rw [← a1]
        refine lp_go ?_
        show fX8_next_184 s = _
        unfold fX8_next_184 fX8_next_242
        rw [h29, e1, h32, ev, hbk]
        rw [hbk] at lt
        by_cases v : 999 < vmr y b (p - b)
        · rw [if_pos v]
          simp (disch := omega) only [h29, if_true, if_false, Option.bind_some, Option.map_some, ii_lit, ll_lit, ii_neg, ll_neg, ii_add, ii_sub, ii_mul, ll_add, ll_sub, ll_mul, ii_le, ii_lt, ii_eq, ii_t, bi_0, bi_1, rd_z, wr_z, rr_z, rl_z, wl_z, tn_n, st_s, st_j, st_i, st_c, st_2, sl_s, sl_j, sl_i, sl_c, sl_1, Int.natCast_add, Int.cast_ofNat_Int, if_pos, if_neg, decide_eq_false_iff_not, decide_eq_true_eq, in_ll, ii_long, Nat.zero_add, Nat.mul_zero, reduceCtorEq]
        · rw [if_neg v]
          simp (disch := omega) only [h29, if_true, if_false, Option.bind_some, Option.map_some, ii_lit, ll_lit, ii_neg, ll_neg, ii_add, ii_sub, ii_mul, ll_add, ll_sub, ll_mul, ii_le, ii_lt, ii_eq, ii_t, bi_0, bi_1, rd_z, wr_z, rr_z, rl_z, wl_z, tn_n, st_s, st_j, st_i, st_c, st_2, sl_s, sl_j, sl_i, sl_c, sl_1, Int.natCast_add, Int.cast_ofNat_Int, if_pos, if_neg, decide_eq_false_iff_not, decide_eq_true_eq, in_ll, ii_long, Nat.zero_add, Nat.mul_zero, reduceCtorEq]
      · rw [if_neg q]
        refine fin p s b (by omega) hb hdg h29 h32 hf ?_
        intro h
        apply q
        unfold so
        rw [if_neg (by omega), if_neg (by omega), if_pos h]
  have wrds : ∀ (s : mm) (b e2 : Nat), b ≤ e2 → e2 ≤ len → s.1 32 0 29 = ii e2 → s.1 32 0 30 = ii b → s.1 32 0 31 = ii (-2) → Fr [] [29, 30, 31, 32] τ s → ∃ s', lp fX8_next_127_L ((0), s) = some s' ∧ s'.1 32 0 29 = ii e2 ∧ s'.1 32 0 30 = ii b ∧ s'.1 32 0 31 = ii (wtk len y b e2 10) ∧ Fr [] [29, 30, 31, 32] τ s' := by
    intro s b e2 hb he2 h29 h30 h31 hf
    refine lp_j (fun (k : Nat) (z : Int32 × mm) => z.1 = ii k ∧ z.2.1 32 0 29 = ii e2 ∧ z.2.1 32 0 30 = ii b ∧ z.2.1 32 0 31 = ii (wtk len y b e2 k) ∧ Fr [] [29, 30, 31, 32] τ z.2) _ 10 ⟨rfl, h29, h30, h31, hf⟩ ?_ ?_
    · rintro k ⟨c, s⟩ hk ⟨hc, h29, h30, h31, hf⟩
      simp only [] at hc h29 h30 h31 hf
      subst hc
      have e1 := M_isWordFrom (hT.fr hf (by decide)) (hW.fr hf (by decide)) hb he2 h29 h30 hk
      have wr := wtk_r (len := len) (y := y) (b := b) (e := e2) k
      by_cases q : wm len y b e2 k = true
      · refine ⟨(ii ((k + 1 : Nat)), stI s 32 0 31 (ii (10 + (k : Int)))), ?_, rfl, by rw [st_j _ _ (by decide)]; exact h29, by rw [st_j _ _ (by decide)]; exact h30, by rw [st_s, wtk, if_pos q], hf.sF (by decide)⟩
        show fX8_next_127 (ii k) s = _
        unfold fX8_next_127 fX8_next_153
        rw [e1, q]
        simp (disch := omega) only [if_true, if_false, Option.bind_some, Option.map_some, ii_lit, ll_lit, ii_neg, ll_neg, ii_add, ii_sub, ii_mul, ll_add, ll_sub, ll_mul, ii_le, ii_lt, ii_eq, ii_t, bi_0, bi_1, rd_z, wr_z, rr_z, rl_z, wl_z, tn_n, st_s, st_j, st_i, st_c, st_2, sl_s, sl_j, sl_i, sl_c, sl_1, Int.natCast_add, Int.cast_ofNat_Int, if_pos, if_neg, decide_eq_false_iff_not, decide_eq_true_eq, in_ll, ii_long, Nat.zero_add, Nat.mul_zero, reduceCtorEq]
      · refine ⟨(ii ((k + 1 : Nat)), stI s 32 0 31 (ii (wtk len y b e2 k))), ?_, rfl, by rw [st_j _ _ (by decide)]; exact h29, by rw [st_j _ _ (by decide)]; exact h30, by rw [st_s, wtk, if_neg q], hf.sF (by decide)⟩
        show fX8_next_127 (ii k) s = _
        unfold fX8_next_127 fX8_next_153
        rw [e1, Bool.eq_false_iff.mpr q, h31]
        simp (disch := omega) only [if_true, if_false, Option.bind_some, Option.map_some, ii_lit, ll_lit, ii_neg, ll_neg, ii_add, ii_sub, ii_mul, ll_add, ll_sub, ll_mul, ii_le, ii_lt, ii_eq, ii_t, bi_0, bi_1, rd_z, wr_z, rr_z, rl_z, wl_z, tn_n, st_s, st_j, st_i, st_c, st_2, sl_s, sl_j, sl_i, sl_c, sl_1, Int.natCast_add, Int.cast_ofNat_Int, if_pos, if_neg, decide_eq_false_iff_not, decide_eq_true_eq, in_ll, ii_long, Nat.zero_add, Nat.mul_zero, reduceCtorEq]
    · rintro ⟨c, s⟩ ⟨hc, h29, h30, h31, hf⟩
      simp only [] at hc h29 h30 h31 hf
      subst hc
      refine ⟨s, ?_, h29, h30, h31, hf⟩
      show fX8_next_127 (ii 10) s = _
      unfold fX8_next_127
      rw [if_pos (by decide)]
  obtain ⟨s1, a1, a2, a3⟩ := blanks (len - e) e τ (by omega) e29 (Fr.rf _ _ _)
  have a1' : s1.1 32 0 29 = ii (tb len y e) := a1
  have nb : bk len y (tb len y e) ≠ 32 := skn_n (len - e) e (by omega)
  have hT1 := hT.fr a2 (by decide)
  have e1 := M_byteAt hT1 (p := tb len y e) (by omega)
  have br := bk_r hy (tb len y e)
  have f2 : Fr [] [29, 30, 31, 32] τ (stI s1 32 0 30 (ii (tb len y e))) := a2.sF (by decide)
  have e2 := M_byteAt (hT.fr f2 (by decide)) (p := tb len y e) (by omega)
  obtain ⟨c, hc⟩ : ∃ c, c = bk len y (tb len y e) := ⟨_, rfl⟩
  have hts : ts len y e = so c := by rw [hc]; rfl
  rw [← hc] at e1 e2 br nb
  have E0 : ∀ Z : mm, ((fX8_byteAt (ii (tb len y e)) (stI s1 32 0 30 (ii (tb len y e)))).bind fun q4 => if (0 : Int32) ≤ q4 then
    if q4 = (59) then Option.map Sum.inr (fX8_next_74 q4 (0) (stI s1 32 0 30 (ii (tb len y e)))) else
    if q4 = (45) then Option.map Sum.inr (fX8_next_74 q4 (2) (stI s1 32 0 30 (ii (tb len y e)))) else
    Option.map Sum.inr (fX8_next_74 q4 (-2) (stI s1 32 0 30 (ii (tb len y e)))) else Option.map Sum.inr (fX8_next_74 q4 (-1) (stI s1 32 0 30 (ii (tb len y e))))) = some (Sum.inr Z : mm ⊕ mm) → fX8_next τ = some Z := by
    intro Z hZ
    refine a3 Z ?_
    unfold fX8_next_0
    rw [a1', e1, Option.bind_some, if_neg (by show ¬ ii c = ii 32; rw [ii_eq (by omega) (by omega) (by omega) (by omega)]; exact nb)]
    simp only [Option.bind_some]
    rw [st_j _ _ (by decide), a1']
    exact hZ
  by_cases k0 : c < 0
  · have z0 : ts len y e = 0 := by rw [hts, so, if_pos k0]
    have tl := (ts_end hy he).mp z0
    have te0 : te len y e = tb len y e := by
      unfold te
      rw [if_neg (by omega), if_neg (by omega)]
      omega
    refine ⟨stI (stI s1 32 0 30 (ii (tb len y e))) 32 0 31 (ii (-1)), E0 _ ?_, by rw [st_j _ _ (by decide), st_s], by rw [st_s, tok, if_pos z0], by rw [st_j _ _ (by decide), st_j _ _ (by decide), te0]; exact a1', fun h => by omega, f2.sF (by decide)⟩
    unfold fX8_next_74
    rw [e2]
    simp (disch := omega) only [if_true, if_false, Option.bind_some, Option.map_some, ii_lit, ll_lit, ii_neg, ll_neg, ii_add, ii_sub, ii_mul, ll_add, ll_sub, ll_mul, ii_le, ii_lt, ii_eq, ii_t, bi_0, bi_1, rd_z, wr_z, rr_z, rl_z, wl_z, tn_n, st_s, st_j, st_i, st_c, st_2, sl_s, sl_j, sl_i, sl_c, sl_1, Int.natCast_add, Int.cast_ofNat_Int, if_pos, if_neg, decide_eq_false_iff_not, decide_eq_true_eq, in_ll, ii_long, Nat.zero_add, Nat.mul_zero, reduceCtorEq]
  · by_cases k1 : 97 ≤ c ∧ c ≤ 122
    · have z1 : ts len y e = 1 := by rw [hts, so, if_neg k0, if_pos k1]
      obtain ⟨s2, b1, b2, b3, b4, b5⟩ := lets (len - tb len y e) (tb len y e) (stI (stI s1 32 0 30 (ii (tb len y e))) 32 0 31 (ii (-2))) (by omega) (by rw [st_j _ _ (by decide), st_j _ _ (by decide)]; exact a1') (f2.sF (by decide))
      have te1 : rnn len y 1 (len - tb len y e) (tb len y e) = te len y e := by
        unfold te
        rw [z1, if_pos (Or.inl rfl)]
      rw [te1] at b1
      rw [st_j _ _ (by decide), st_s] at b2
      rw [st_s] at b3
      obtain ⟨s3, d1, d2, d3, d4, d5⟩ := wrds s2 _ _ ter.1 ter.2 b1 b2 b3 b4
      refine ⟨s3, E0 _ ?_, d3, by rw [d4, tok, if_neg (by omega), if_pos z1], d2, fun h => by omega, d5⟩
      have := b5 _ d1
      unfold fX8_next_74
      rw [e2]
      simp (disch := omega) only [this, if_true, if_false, Option.bind_some, Option.map_some, ii_lit, ll_lit, ii_neg, ll_neg, ii_add, ii_sub, ii_mul, ll_add, ll_sub, ll_mul, ii_le, ii_lt, ii_eq, ii_t, bi_0, bi_1, rd_z, wr_z, rr_z, rl_z, wl_z, tn_n, st_s, st_j, st_i, st_c, st_2, sl_s, sl_j, sl_i, sl_c, sl_1, Int.natCast_add, Int.cast_ofNat_Int, if_pos, if_neg, decide_eq_false_iff_not, decide_eq_true_eq, in_ll, ii_long, Nat.zero_add, Nat.mul_zero, reduceCtorEq]
    · by_cases k2 : 48 ≤ c ∧ c ≤ 57
      · have z2 : ts len y e = 2 := by rw [hts, so, if_neg k0, if_neg k1, if_pos k2]
        obtain ⟨s2, b1, b2, b3, b4, b5, b6⟩ := digs (len - tb len y e) (tb len y e) (stI (stI (stI s1 32 0 30 (ii (tb len y e))) 32 0 31 (ii (-2))) 32 0 32 (ii 0)) (tb len y e) (by omega) (Nat.le_refl _) (fun j hj => by omega) (by rw [st_j _ _ (by decide), st_j _ _ (by decide), st_j _ _ (by decide)]; exact a1') (by rw [st_s, Nat.sub_self]; rfl) ((f2.sF (by decide)).sF (by decide))
        have te2 : rnn len y 2 (len - tb len y e) (tb len y e) = te len y e := by
          unfold te
          rw [z2, if_pos (Or.inr rfl)]
        rw [te2] at b2 b4 b5
        rw [st_j _ _ (by decide), st_j _ _ (by decide), st_s] at b3
        refine ⟨s2, E0 _ ?_, b3, by rw [b4]; unfold tok; rw [z2]; rfl, b2, fun _ => b5, b6⟩
        unfold fX8_next_74
        rw [e2]
        simp (disch := omega) only [b1, if_true, if_false, Option.bind_some, Option.map_some, ii_lit, ll_lit, ii_neg, ll_neg, ii_add, ii_sub, ii_mul, ll_add, ll_sub, ll_mul, ii_le, ii_lt, ii_eq, ii_t, bi_0, bi_1, rd_z, wr_z, rr_z, rl_z, wl_z, tn_n, st_s, st_j, st_i, st_c, st_2, sl_s, sl_j, sl_i, sl_c, sl_1, Int.natCast_add, Int.cast_ofNat_Int, if_pos, if_neg, decide_eq_false_iff_not, decide_eq_true_eq, in_ll, ii_long, Nat.zero_add, Nat.mul_zero, reduceCtorEq]
      · have tln : tb len y e < len := by
          have : ts len y e ≠ 0 := by
            rw [hts, so, if_neg k0, if_neg k1, if_neg k2]
            split
            · omega
            · split <;> omega
          have := ts_end hy he
          omega
        have te3 : te len y e = tb len y e + 1 := by
          unfold te
          have : ¬ (ts len y e = 1 ∨ ts len y e = 2) := by
            rw [hts, so, if_neg k0, if_neg k1, if_neg k2]
            split
            · omega
            · split <;> omega
          rw [if_neg this, if_pos (by omega)]
        have fin : ∀ t : Int, t = tok len y e → fX8_next_74 (ii c) (ii t) (stI s1 32 0 30 (ii (tb len y e))) = some (stI (stI (stI s1 32 0 30 (ii (tb len y e))) 32 0 31 (ii t)) 32 0 29 (ii ((tb len y e : Int) + 1))) := by
          intro t ht
          unfold fX8_next_74
          simp (disch := omega) only [a1', if_true, if_false, Option.bind_some, Option.map_some, ii_lit, ll_lit, ii_neg, ll_neg, ii_add, ii_sub, ii_mul, ll_add, ll_sub, ll_mul, ii_le, ii_lt, ii_eq, ii_t, bi_0, bi_1, rd_z, wr_z, rr_z, rl_z, wl_z, tn_n, st_s, st_j, st_i, st_c, st_2, sl_s, sl_j, sl_i, sl_c, sl_1, Int.natCast_add, Int.cast_ofNat_Int, if_pos, if_neg, decide_eq_false_iff_not, decide_eq_true_eq, in_ll, ii_long, Nat.zero_add, Nat.mul_zero, reduceCtorEq]
        refine ⟨stI (stI (stI s1 32 0 30 (ii (tb len y e))) 32 0 31 (ii (tok len y e))) 32 0 29 (ii ((tb len y e : Int) + 1)), E0 _ ?_, by rw [st_j _ _ (by decide), st_j _ _ (by decide), st_s], by rw [st_j _ _ (by decide), st_s], by rw [st_s, te3]; rfl, ?_, (f2.sF (by decide)).sF (by decide)⟩
        · have fin' := fin _ rfl
          have ht : tok len y e = if c = 59 then 0 else if c = 45 then 2 else -2 := by
            unfold tok
            rw [hts, so, if_neg k0, if_neg k1, if_neg k2]
            by_cases k3 : c = 59
            · rw [if_pos k3, if_pos k3]; rfl
            · rw [if_neg k3, if_neg k3]
              by_cases k4 : c = 45
              · rw [if_pos k4, if_pos k4]; rfl
              · rw [if_neg k4, if_neg k4]; rfl
          rw [ht] at fin' ⊢
          rw [e2, Option.bind_some]
          by_cases k3 : c = 59
          · rw [if_pos k3] at fin' ⊢
            simp (disch := omega) only [fin', if_true, if_false, Option.bind_some, Option.map_some, ii_lit, ll_lit, ii_neg, ll_neg, ii_add, ii_sub, ii_mul, ll_add, ll_sub, ll_mul, ii_le, ii_lt, ii_eq, ii_t, bi_0, bi_1, rd_z, wr_z, rr_z, rl_z, wl_z, tn_n, st_s, st_j, st_i, st_c, st_2, sl_s, sl_j, sl_i, sl_c, sl_1, Int.natCast_add, Int.cast_ofNat_Int, if_pos, if_neg, decide_eq_false_iff_not, decide_eq_true_eq, in_ll, ii_long, Nat.zero_add, Nat.mul_zero, reduceCtorEq]
          · rw [if_neg k3] at fin' ⊢
            by_cases k4 : c = 45
            · rw [if_pos k4] at fin' ⊢
              simp (disch := omega) only [fin', if_true, if_false, Option.bind_some, Option.map_some, ii_lit, ll_lit, ii_neg, ll_neg, ii_add, ii_sub, ii_mul, ll_add, ll_sub, ll_mul, ii_le, ii_lt, ii_eq, ii_t, bi_0, bi_1, rd_z, wr_z, rr_z, rl_z, wl_z, tn_n, st_s, st_j, st_i, st_c, st_2, sl_s, sl_j, sl_i, sl_c, sl_1, Int.natCast_add, Int.cast_ofNat_Int, if_pos, if_neg, decide_eq_false_iff_not, decide_eq_true_eq, in_ll, ii_long, Nat.zero_add, Nat.mul_zero, reduceCtorEq]
            · rw [if_neg k4] at fin' ⊢
              simp (disch := omega) only [fin', if_true, if_false, Option.bind_some, Option.map_some, ii_lit, ll_lit, ii_neg, ll_neg, ii_add, ii_sub, ii_mul, ll_add, ll_sub, ll_mul, ii_le, ii_lt, ii_eq, ii_t, bi_0, bi_1, rd_z, wr_z, rr_z, rl_z, wl_z, tn_n, st_s, st_j, st_i, st_c, st_2, sl_s, sl_j, sl_i, sl_c, sl_1, Int.natCast_add, Int.cast_ofNat_Int, if_pos, if_neg, decide_eq_false_iff_not, decide_eq_true_eq, in_ll, ii_long, Nat.zero_add, Nat.mul_zero, reduceCtorEq]
        · intro h
          exfalso
          rw [hts, so, if_neg k0, if_neg k1, if_neg k2] at h
          split at h
          · omega
          · split at h <;> omega
