-- THE TWO READERS in step
def FC (σ σ' : mm) : Prop := (∀ c, c ≠ 32 → c ∉ [0, 3, 4, 8, 9, 10, 11] → σ'.1 c = σ.1 c) ∧ (∀ c, c ∉ [3] → σ'.2 c = σ.2 c) ∧ (∀ i, i ≠ 2 → σ'.1 0 i = σ.1 0 i ∧ σ'.1 8 i = σ.1 8 i ∧ σ'.1 9 i = σ.1 9 i) ∧
  (∀ i, (∀ r, r < 8 → i ≠ 8 * 2 + r) → σ'.1 4 i = σ.1 4 i ∧ σ'.1 10 i = σ.1 10 i) ∧ (∀ i, (∀ v, v < 4 → i ≠ 4 * 2 + v) → σ'.1 11 i = σ.1 11 i) ∧ ∀ j, σ'.1 32 0 j = σ.1 32 0 j
theorem FC.k3 {σ σ' σ'' : mm} (h : FC σ σ') (f : Fr [3] [] σ' σ'') : FC σ σ'' := by
  obtain ⟨h1, h2, h3, h4, h5, h6⟩ := h
  refine ⟨fun c a b => (f.1 c a (fun e => b (by rw [List.mem_singleton] at e; rw [e]; decide))).trans (h1 c a b), fun c a => (f.2.1 c a).trans (h2 c a), fun i hi => ?_, fun i hi => ?_, fun i hi => ?_, fun j => (f.2.2 j List.not_mem_nil).trans (h6 j)⟩
  · rw [f.1 0 (by decide) (by decide), f.1 8 (by decide) (by decide), f.1 9 (by decide) (by decide)]
    exact h3 i hi
  · rw [f.1 4 (by decide) (by decide), f.1 10 (by decide) (by decide)]
    exact h4 i hi
  · rw [f.1 11 (by decide) (by decide)]
    exact h5 i hi
theorem FC.b {σ σ' σ'' : mm} (h : FC σ σ') (f : Fb 2 σ' σ'') : FC σ σ'' := by
  obtain ⟨h1, h2, h3, h4, h5, h6⟩ := h
  obtain ⟨f1, f2, f3, f4, f5⟩ := f
  refine ⟨fun c a b => (f1 c (fun e => b ?_)).trans (h1 c a b), fun c a => (congrFun f2 c).trans (h2 c a), fun i hi => ?_, fun i hi => ?_, fun i hi => (f5 i hi).trans (h5 i hi), fun j => (congrFun (congrFun (f1 32 (by decide)) 0) j).trans (h6 j)⟩
  · simp only [List.mem_cons, List.not_mem_nil, or_false] at e ⊢
    omega
  · exact ⟨(f3 i hi).1.trans (h3 i hi).1, (f3 i hi).2.1.trans (h3 i hi).2.1, (f3 i hi).2.2.trans (h3 i hi).2.2⟩
  · exact ⟨(f4 i hi).1.trans (h4 i hi).1, (f4 i hi).2.trans (h4 i hi).2⟩
/-- the frame of the two readers, and their tapes -/
def PQ (len : Nat) (y : Nat → Int) (σ0 τ0 : mm) (A : bdy) (e : Nat) (σ τ : mm) : Prop :=
  (isC σ 2 A ∧ isM τ A ∧ okb A) ∧ (tapeC σ len y ∧ tapeM τ len y ∧ rW τ ∧ e ≤ len) ∧
  (σ.1 3 0 3 = ii (tb len y e) ∧ σ.1 3 0 2 = ii (ts len y e) ∧ σ.1 3 0 4 = ii (te len y e)) ∧
  (τ.1 32 0 30 = ii (tb len y e) ∧ τ.1 32 0 31 = ii (tok len y e) ∧ τ.1 32 0 29 = ii (te len y e)) ∧
  FC σ0 σ ∧ Fr [42, 43, 45, 46] [1, 4, 29, 30, 31, 32, 33] τ0 τ
def PV (len : Nat) (y : Nat → Int) (e : Nat) (σ τ : mm) : Prop := ts len y e = 2 → σ.1 3 0 5 = ii (vcr y (tb len y e) (te len y e - tb len y e)) ∧ τ.1 32 0 32 = ii (vmr y (tb len y e) (te len y e - tb len y e))
theorem isC.k3 {σ σ' : mm} {b : Nat} {A : bdy} (h : isC σ b A) (f : Fr [3] [] σ σ') : isC σ' b A := h.fr f (by decide)
/-- both move to the next token -/
theorem P_next {len : Nat} {y : Nat → Int} {σ0 τ0 : mm} {A : bdy} {σ τ : mm} {e : Nat} (hB : isC σ 2 A ∧ isM τ A ∧ okb A) (hT : tapeC σ len y ∧ tapeM τ len y ∧ rW τ) (he : e ≤ len) (h4 : σ.1 3 0 4 = ii e) (h29 : τ.1 32 0 29 = ii e) (hf : FC σ0 σ) (hg : Fr [42, 43, 45, 46] [1, 4, 29, 30, 31, 32, 33] τ0 τ) : ∃ σ' τ', fX3_nextToken σ = some σ' ∧ fX8_next τ = some τ' ∧ PQ len y σ0 τ0 A e σ' τ' ∧ PV len y e σ' τ' ∧ τ'.1 32 0 33 = τ.1 32 0 33 := by
  obtain ⟨σ', a1, a2, a3, a4, a5, a6, a7⟩ := C_next hT.1 he h4
  obtain ⟨τ', b1, b2, b3, b4, b5, b6⟩ := M_next hT.2.1 hT.2.2 he h29
  exact ⟨σ', τ', a1, b1, ⟨⟨hB.1.k3 a7, hB.2.1.fr b6 (by decide) (by decide), hB.2.2⟩, ⟨a2, hT.2.1.fr b6 (by decide), hT.2.2.fr b6 (by decide), he⟩, ⟨a3, a4, a5⟩, ⟨b2, b3, b4⟩, hf.k3 a7, hg.tr (b6.mono (by decide) (by decide))⟩, fun h => ⟨a6 h, b5 h⟩, b6.2.2 33 (by decide)⟩
theorem PQ.next {len : Nat} {y : Nat → Int} {σ0 τ0 : mm} {A : bdy} {σ τ : mm} {e : Nat} (h : PQ len y σ0 τ0 A e σ τ) : ∃ σ' τ', fX3_nextToken σ = some σ' ∧ fX8_next τ = some τ' ∧ PQ len y σ0 τ0 A (te len y e) σ' τ' ∧ PV len y (te len y e) σ' τ' ∧ τ'.1 32 0 33 = τ.1 32 0 33 :=
  P_next h.1 ⟨h.2.1.1, h.2.1.2.1, h.2.1.2.2.1⟩ (te_r h.2.1.2.2.2).2 h.2.2.1.2.2 h.2.2.2.1.2.2 h.2.2.2.2.1 h.2.2.2.2.2
theorem PQ.word {len : Nat} {y : Nat → Int} {σ0 τ0 : mm} {A : bdy} {σ τ : mm} {e : Nat} (h : PQ len y σ0 τ0 A e σ τ) {w : Nat} (hw : w < 10) : fX3_isWord w σ = some (decide (tok len y e = 10 + (((w + 6) % 10 : Nat) : Int))) :=
  C_isWord h.2.1.1 h.2.1.2.2.2 hw h.2.2.1.1 h.2.2.1.2.1 h.2.2.1.2.2
theorem tok_r {len : Nat} {y : Nat → Int} {e : Nat} : -2 ≤ tok len y e ∧ tok len y e < 20 := by
  have := wtk_r (len := len) (y := y) (b := tb len y e) (e := te len y e) 10
  unfold tok
  repeat' split
  all_goals omega
theorem PQ.set {len : Nat} {y : Nat → Int} {σ0 τ0 : mm} {A : bdy} {σ τ : mm} {e : Nat} (h : PQ len y σ0 τ0 A e σ τ) (v : Int32) : PQ len y σ0 τ0 A e σ (stI τ 32 0 33 v) := by
  obtain ⟨h1, h2, h3, h4, h5, h6⟩ := h
  have f : Fr [] [33] τ (stI τ 32 0 33 v) := (Fr.rf _ _ _).sF (by decide)
  exact ⟨⟨h1.1, h1.2.1.fr f (by decide) (by decide), h1.2.2⟩, ⟨h2.1, h2.2.1.fr f (by decide), h2.2.2.1.fr f (by decide), h2.2.2.2⟩, h3, ⟨by rw [st_j _ _ (by decide)]; exact h4.1, by rw [st_j _ _ (by decide)]; exact h4.2.1, by rw [st_j _ _ (by decide)]; exact h4.2.2⟩, h5, h6.sF (by decide)⟩
theorem PQ.set5 {len : Nat} {y : Nat → Int} {σ0 τ0 : mm} {A : bdy} {σ τ : mm} {e : Nat} (h : PQ len y σ0 τ0 A e σ τ) (v : Int32) : PQ len y σ0 τ0 A e (stI σ 3 0 5 v) τ := by
  obtain ⟨h1, h2, h3, h4, h5, h6⟩ := h
  have f : Fr [3] [] σ (stI σ 3 0 5 v) := (Fr.rf _ _ _).sI (by decide) (by decide)
  exact ⟨⟨h1.1.k3 f, h1.2⟩, ⟨h2.1.fr (st_j _ _ (by decide)) (st_c _ _ _ _ (by decide)), h2.2⟩, ⟨by rw [st_j _ _ (by decide)]; exact h3.1, by rw [st_j _ _ (by decide)]; exact h3.2.1, by rw [st_j _ _ (by decide)]; exact h3.2.2⟩, h4, h5.k3 f, h6⟩
theorem tok_num {len : Nat} {y : Nat → Int} {e : Nat} : tok len y e = 1 ↔ ts len y e = 2 ∧ vmr y (tb len y e) (te len y e - tb len y e) ≤ 999 := by
  have sv : ts len y e = 0 ∨ ts len y e = 1 ∨ ts len y e = 2 ∨ ts len y e = 3 ∨ ts len y e = 4 ∨ ts len y e = 5 := so_v _
  by_cases z1 : ts len y e = 1
  · have t : tok len y e = wtk len y (tb len y e) (te len y e) 10 := by unfold tok; rw [z1]; rfl
    have n1 : ∀ n, wtk len y (tb len y e) (te len y e) n ≠ 1 := by
      intro n
      induction n with
      | zero => rw [wtk]; omega
      | succ n ih =>
        rw [wtk]
        split
        · omega
        · exact ih
    have := n1 10
    omega
  · by_cases v : vmr y (tb len y e) (te len y e - tb len y e) ≤ 999
    · have t : tok len y e = if ts len y e = 0 then -1 else if ts len y e = 2 then 1 else if ts len y e = 3 then 0 else if ts len y e = 4 then 2 else -2 := by
        unfold tok
        rw [if_neg z1, if_pos v]
      rw [t]
      repeat' split
      all_goals omega
    · have t : tok len y e = if ts len y e = 0 then -1 else if ts len y e = 2 then -2 else if ts len y e = 3 then 0 else if ts len y e = 4 then 2 else -2 := by
        unfold tok
        rw [if_neg z1, if_neg v]
      rw [t]
      repeat' split
      all_goals omega
theorem tok_min {len : Nat} {y : Nat → Int} {e : Nat} : tok len y e = 2 ↔ ts len y e = 4 := by
  have sv : ts len y e = 0 ∨ ts len y e = 1 ∨ ts len y e = 2 ∨ ts len y e = 3 ∨ ts len y e = 4 ∨ ts len y e = 5 := so_v _
  by_cases z1 : ts len y e = 1
  · have t : tok len y e = wtk len y (tb len y e) (te len y e) 10 := by unfold tok; rw [z1]; rfl
    have n1 : ∀ n, wtk len y (tb len y e) (te len y e) n ≠ 2 := by
      intro n
      induction n with
      | zero => rw [wtk]; omega
      | succ n ih =>
        rw [wtk]
        split
        · omega
        · exact ih
    have := n1 10
    omega
  · unfold tok
    rw [if_neg z1]
    repeat' split
    all_goals omega
theorem num_v {len : Nat} {y : Nat → Int} {e : Nat} (he : e ≤ len) (h : ts len y e = 2) : 0 ≤ vmr y (tb len y e) (te len y e - tb len y e) ∧ vmr y (tb len y e) (te len y e - tb len y e) ≤ 9999 ∧ vcr y (tb len y e) (te len y e - tb len y e) = if 999 < vmr y (tb len y e) (te len y e - tb len y e) then 1000 else vmr y (tb len y e) (te len y e - tb len y e) := by
  have ter := te_r (y := y) he
  refine v_rel (fun j hj => ?_)
  have et : te len y e = rnn len y 2 (len - tb len y e) (tb len y e) := by
    unfold te
    rw [h, if_pos (Or.inr rfl)]
  have a := so_digit (rnn_in (len := len) (y := y) (s := 2) (len - tb len y e) (tb len y e) (tb len y e + j) (by omega) (by rw [← et]; omega))
  have : bk len y (tb len y e + j) = y (tb len y e + j) := if_pos (by omega)
  rw [this] at a
  exact a
/-- both look at a number without a sign -/
theorem PQ.num {len : Nat} {y : Nat → Int} {σ0 τ0 : mm} {A : bdy} {σ τ : mm} {e : Nat} (h : PQ len y σ0 τ0 A e σ τ) (hv : PV len y e σ τ) {lo hi : Int} (h1 : 0 ≤ lo) (h2 : hi ≤ 999) (h3 : -9 ≤ hi) (h4 : lo ≤ 99) : ∃ (b : Bool) (τ' : mm), fX3_seesNumber (ii lo) (ii hi) σ = b ∧ fX8_seesNumber (1) (ii lo) (ii hi) τ = (b, τ') ∧ PQ len y σ0 τ0 A e σ τ' ∧ (b = true → ∃ v : Int, σ.1 3 0 5 = ii v ∧ τ'.1 32 0 33 = ii v ∧ lo ≤ v ∧ v ≤ hi) := by
  have sv : ts len y e = 0 ∨ ts len y e = 1 ∨ ts len y e = 2 ∨ ts len y e = 3 ∨ ts len y e = 4 ∨ ts len y e = 5 := so_v _
  have tn := tok_num (len := len) (y := y) (e := e)
  have tr := tok_r (len := len) (y := y) (e := e)
  have hq := h.2.2.1.2.1
  have ht := h.2.2.2.1.2.1
  have hx : (stI τ 32 0 33 (1 * τ.1 32 0 32)).1 32 0 31 = ii (tok len y e) := by rw [st_j _ _ (by decide)]; exact ht
  by_cases z2 : ts len y e = 2
  · obtain ⟨v1, v2⟩ := hv z2
    obtain ⟨n1, n2, n3⟩ := num_v h.2.1.2.2.2 z2
    generalize vmr y (tb len y e) (te len y e - tb len y e) = m at *
    generalize vcr y (tb len y e) (te len y e - tb len y e) = c at *
    refine ⟨decide (lo ≤ m ∧ m ≤ hi), stI τ 32 0 33 (ii m), ?_, ?_, h.set _, fun hb => ?_⟩
    · unfold fX3_seesNumber fX3_seesNumber_0
      by_cases q : lo ≤ m ∧ m ≤ hi
      · rw [decide_eq_true q]
        rw [if_neg (by omega)] at n3
        simp (disch := omega) only [hq, v1, z2, n3, if_true, if_false, Option.bind_some, Option.map_some, ii_lit, ll_lit, ii_neg, ll_neg, ii_add, ii_sub, ii_mul, ll_add, ll_sub, ll_mul, ii_le, ii_lt, ii_eq, ii_t, bi_0, bi_1, rd_z, wr_z, rr_z, rl_z, wl_z, tn_n, st_s, st_j, st_i, st_c, st_2, sl_s, sl_j, sl_i, sl_c, sl_1, Int.natCast_add, Int.cast_ofNat_Int, if_pos, if_neg, decide_eq_false_iff_not, decide_eq_true_eq, in_ll, ii_long, Nat.zero_add, Nat.mul_zero, reduceCtorEq]
      · rw [decide_eq_false q]
        by_cases m9 : 999 < m
        · rw [if_pos m9] at n3
          simp (disch := omega) only [hq, v1, z2, n3, if_true, if_false, Option.bind_some, Option.map_some, ii_lit, ll_lit, ii_neg, ll_neg, ii_add, ii_sub, ii_mul, ll_add, ll_sub, ll_mul, ii_le, ii_lt, ii_eq, ii_t, bi_0, bi_1, rd_z, wr_z, rr_z, rl_z, wl_z, tn_n, st_s, st_j, st_i, st_c, st_2, sl_s, sl_j, sl_i, sl_c, sl_1, Int.natCast_add, Int.cast_ofNat_Int, if_pos, if_neg, decide_eq_false_iff_not, decide_eq_true_eq, in_ll, ii_long, Nat.zero_add, Nat.mul_zero, reduceCtorEq]
        · rw [if_neg m9] at n3
          by_cases ml : m < lo
          · simp (disch := omega) only [hq, v1, z2, n3, if_true, if_false, Option.bind_some, Option.map_some, ii_lit, ll_lit, ii_neg, ll_neg, ii_add, ii_sub, ii_mul, ll_add, ll_sub, ll_mul, ii_le, ii_lt, ii_eq, ii_t, bi_0, bi_1, rd_z, wr_z, rr_z, rl_z, wl_z, tn_n, st_s, st_j, st_i, st_c, st_2, sl_s, sl_j, sl_i, sl_c, sl_1, Int.natCast_add, Int.cast_ofNat_Int, if_pos, if_neg, decide_eq_false_iff_not, decide_eq_true_eq, in_ll, ii_long, Nat.zero_add, Nat.mul_zero, reduceCtorEq]
          · simp (disch := omega) only [hq, v1, z2, n3, if_true, if_false, Option.bind_some, Option.map_some, ii_lit, ll_lit, ii_neg, ll_neg, ii_add, ii_sub, ii_mul, ll_add, ll_sub, ll_mul, ii_le, ii_lt, ii_eq, ii_t, bi_0, bi_1, rd_z, wr_z, rr_z, rl_z, wl_z, tn_n, st_s, st_j, st_i, st_c, st_2, sl_s, sl_j, sl_i, sl_c, sl_1, Int.natCast_add, Int.cast_ofNat_Int, if_pos, if_neg, decide_eq_false_iff_not, decide_eq_true_eq, in_ll, ii_long, Nat.zero_add, Nat.mul_zero, reduceCtorEq]
    · unfold fX8_seesNumber fX8_seesNumber_0
      rw [hx]
      have e1 : (1 : Int32) * τ.1 32 0 32 = ii m := by rw [v2, ii_lit 1, ii_mul]; exact congrArg ii (Int.one_mul m)
      rw [e1, st_s]
      by_cases m9 : 999 < m
      · have : ¬ tok len y e = 1 := by rw [tn]; omega
        rw [decide_eq_false (by omega : ¬ (lo ≤ m ∧ m ≤ hi)), if_neg (by show ¬ ii _ = ii 1; rw [ii_eq (by omega) (by omega) (by omega) (by omega)]; exact this)]
      · have : tok len y e = 1 := tn.mpr ⟨z2, by omega⟩
        rw [this, if_pos (by decide)]
        by_cases q : lo ≤ m ∧ m ≤ hi
        · rw [decide_eq_true q]
          simp (disch := omega) only [if_true, if_false, Option.bind_some, Option.map_some, ii_lit, ll_lit, ii_neg, ll_neg, ii_add, ii_sub, ii_mul, ll_add, ll_sub, ll_mul, ii_le, ii_lt, ii_eq, ii_t, bi_0, bi_1, rd_z, wr_z, rr_z, rl_z, wl_z, tn_n, st_s, st_j, st_i, st_c, st_2, sl_s, sl_j, sl_i, sl_c, sl_1, Int.natCast_add, Int.cast_ofNat_Int, if_pos, if_neg, decide_eq_false_iff_not, decide_eq_true_eq, in_ll, ii_long, Nat.zero_add, Nat.mul_zero, reduceCtorEq]
        · rw [decide_eq_false q]
          simp (disch := omega) only [if_true, if_false, Option.bind_some, Option.map_some, ii_lit, ll_lit, ii_neg, ll_neg, ii_add, ii_sub, ii_mul, ll_add, ll_sub, ll_mul, ii_le, ii_lt, ii_eq, ii_t, bi_0, bi_1, rd_z, wr_z, rr_z, rl_z, wl_z, tn_n, st_s, st_j, st_i, st_c, st_2, sl_s, sl_j, sl_i, sl_c, sl_1, Int.natCast_add, Int.cast_ofNat_Int, if_pos, if_neg, decide_eq_false_iff_not, decide_eq_true_eq, in_ll, ii_long, Nat.zero_add, Nat.mul_zero, reduceCtorEq]
    · have q := of_decide_eq_true hb
      rw [if_neg (by omega)] at n3
      exact ⟨m, by rw [v1, n3], st_s _ _ _ _ _, q.1, q.2⟩
  · refine ⟨false, stI τ 32 0 33 (1 * τ.1 32 0 32), ?_, ?_, h.set _, fun hb => by cases hb⟩
    · unfold fX3_seesNumber fX3_seesNumber_0
      rw [hq, if_neg (by show ¬ ii _ = ii 2; rw [ii_eq (by omega) (by omega) (by omega) (by omega)]; exact z2)]
    · unfold fX8_seesNumber fX8_seesNumber_0
      rw [hx]
      have : ¬ tok len y e = 1 := by rw [tn]; omega
      rw [if_neg (by show ¬ ii _ = ii 1; rw [ii_eq (by omega) (by omega) (by omega) (by omega)]; exact this)]
